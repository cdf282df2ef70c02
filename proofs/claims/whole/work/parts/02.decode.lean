theorem dX0_init_0 : decode cX0_init 0 = .ok (.aload_n 0, 1) := by decide +kernel
theorem dX0_init_1 : decode cX0_init 1 = .ok (.invokespecial 3, 3) := by decide +kernel
theorem dX0_init_4 : decode cX0_init 4 = .ok (.aload_n 0, 1) := by decide +kernel
theorem dX0_init_5 : decode cX0_init 5 = .ok (.iload_n 1, 1) := by decide +kernel
theorem dX0_init_6 : decode cX0_init 6 = .ok (.iconst (-1), 1) := by decide +kernel
theorem dX0_init_7 : decode cX0_init 7 = .ok (.invokevirtual 9, 3) := by decide +kernel
theorem dX0_init_10 : decode cX0_init 10 = .ok (.return_, 1) := by decide +kernel
theorem dX0_startOver_0 : decode cX0_startOver 0 = .ok (.aload_n 0, 1) := by decide +kernel
theorem dX0_startOver_1 : decode cX0_startOver 1 = .ok (.bipush 10, 2) := by decide +kernel
theorem dX0_startOver_3 : decode cX0_startOver 3 = .ok (.iload_n 1, 1) := by decide +kernel
theorem dX0_startOver_4 : decode cX0_startOver 4 = .ok (.imul, 1) := by decide +kernel
theorem dX0_startOver_5 : decode cX0_startOver 5 = .ok (.putfield 15, 3) := by decide +kernel
theorem dX0_startOver_8 : decode cX0_startOver 8 = .ok (.aload_n 0, 1) := by decide +kernel
theorem dX0_startOver_9 : decode cX0_startOver 9 = .ok (.ldc 19, 2) := by decide +kernel
theorem dX0_startOver_11 : decode cX0_startOver 11 = .ok (.putfield 20, 3) := by decide +kernel
theorem dX0_startOver_14 : decode cX0_startOver 14 = .ok (.aload_n 0, 1) := by decide +kernel
theorem dX0_startOver_15 : decode cX0_startOver 15 = .ok (.iload_n 2, 1) := by decide +kernel
theorem dX0_startOver_16 : decode cX0_startOver 16 = .ok (.putfield 23, 3) := by decide +kernel
theorem dX0_startOver_19 : decode cX0_startOver 19 = .ok (.aload_n 0, 1) := by decide +kernel
theorem dX0_startOver_20 : decode cX0_startOver 20 = .ok (.bipush (-6), 2) := by decide +kernel
theorem dX0_startOver_22 : decode cX0_startOver 22 = .ok (.putfield 26, 3) := by decide +kernel
theorem dX0_startOver_25 : decode cX0_startOver 25 = .ok (.aload_n 0, 1) := by decide +kernel
theorem dX0_startOver_26 : decode cX0_startOver 26 = .ok (.bipush (-6), 2) := by decide +kernel
theorem dX0_startOver_28 : decode cX0_startOver 28 = .ok (.putfield 29, 3) := by decide +kernel
theorem dX0_startOver_31 : decode cX0_startOver 31 = .ok (.aload_n 0, 1) := by decide +kernel
theorem dX0_startOver_32 : decode cX0_startOver 32 = .ok (.bipush (-6), 2) := by decide +kernel
theorem dX0_startOver_34 : decode cX0_startOver 34 = .ok (.putfield 32, 3) := by decide +kernel
theorem dX0_startOver_37 : decode cX0_startOver 37 = .ok (.return_, 1) := by decide +kernel
theorem dX0_isShut_0 : decode cX0_isShut 0 = .ok (.aload_n 0, 1) := by decide +kernel
theorem dX0_isShut_1 : decode cX0_isShut 1 = .ok (.getfield 35, 3) := by decide +kernel
theorem dX0_isShut_4 : decode cX0_isShut 4 = .ok (.iload_n 1, 1) := by decide +kernel
theorem dX0_isShut_5 : decode cX0_isShut 5 = .ok (.iadd, 1) := by decide +kernel
theorem dX0_isShut_6 : decode cX0_isShut 6 = .ok (.aload_n 0, 1) := by decide +kernel
theorem dX0_isShut_7 : decode cX0_isShut 7 = .ok (.getfield 15, 3) := by decide +kernel
theorem dX0_isShut_10 : decode cX0_isShut 10 = .ok (.if_icmp .le 14, 3) := by decide +kernel
theorem dX0_isShut_13 : decode cX0_isShut 13 = .ok (.aload_n 0, 1) := by decide +kernel
theorem dX0_isShut_14 : decode cX0_isShut 14 = .ok (.getfield 38, 3) := by decide +kernel
theorem dX0_isShut_17 : decode cX0_isShut 17 = .ok (.ifCond .ne 7, 3) := by decide +kernel
theorem dX0_isShut_20 : decode cX0_isShut 20 = .ok (.iconst 1, 1) := by decide +kernel
theorem dX0_isShut_21 : decode cX0_isShut 21 = .ok (.goto 4, 3) := by decide +kernel
theorem dX0_isShut_24 : decode cX0_isShut 24 = .ok (.iconst 0, 1) := by decide +kernel
theorem dX0_isShut_25 : decode cX0_isShut 25 = .ok (.ireturn, 1) := by decide +kernel
theorem dX0_measure_0 : decode cX0_measure 0 = .ok (.aload_n 0, 1) := by decide +kernel
theorem dX0_measure_1 : decode cX0_measure 1 = .ok (.getfield 26, 3) := by decide +kernel
theorem dX0_measure_4 : decode cX0_measure 4 = .ok (.bipush (-6), 2) := by decide +kernel
theorem dX0_measure_6 : decode cX0_measure 6 = .ok (.if_icmp .ne 21, 3) := by decide +kernel
theorem dX0_measure_9 : decode cX0_measure 9 = .ok (.aload_n 0, 1) := by decide +kernel
theorem dX0_measure_10 : decode cX0_measure 10 = .ok (.bipush 8, 2) := by decide +kernel
theorem dX0_measure_12 : decode cX0_measure 12 = .ok (.iload_n 1, 1) := by decide +kernel
theorem dX0_measure_13 : decode cX0_measure 13 = .ok (.imul, 1) := by decide +kernel
theorem dX0_measure_14 : decode cX0_measure 14 = .ok (.putfield 29, 3) := by decide +kernel
theorem dX0_measure_17 : decode cX0_measure 17 = .ok (.aload_n 0, 1) := by decide +kernel
theorem dX0_measure_18 : decode cX0_measure 18 = .ok (.iconst 4, 1) := by decide +kernel
theorem dX0_measure_19 : decode cX0_measure 19 = .ok (.iload_n 1, 1) := by decide +kernel
theorem dX0_measure_20 : decode cX0_measure 20 = .ok (.imul, 1) := by decide +kernel
theorem dX0_measure_21 : decode cX0_measure 21 = .ok (.putfield 32, 3) := by decide +kernel
theorem dX0_measure_24 : decode cX0_measure 24 = .ok (.goto 47, 3) := by decide +kernel
theorem dX0_measure_27 : decode cX0_measure 27 = .ok (.aload_n 0, 1) := by decide +kernel
theorem dX0_measure_28 : decode cX0_measure 28 = .ok (.iconst 3, 1) := by decide +kernel
theorem dX0_measure_29 : decode cX0_measure 29 = .ok (.aload_n 0, 1) := by decide +kernel
theorem dX0_measure_30 : decode cX0_measure 30 = .ok (.getfield 32, 3) := by decide +kernel
theorem dX0_measure_33 : decode cX0_measure 33 = .ok (.imul, 1) := by decide +kernel
theorem dX0_measure_34 : decode cX0_measure 34 = .ok (.aload_n 0, 1) := by decide +kernel
theorem dX0_measure_35 : decode cX0_measure 35 = .ok (.getfield 29, 3) := by decide +kernel
theorem dX0_measure_38 : decode cX0_measure 38 = .ok (.bipush 8, 2) := by decide +kernel
theorem dX0_measure_40 : decode cX0_measure 40 = .ok (.iload_n 1, 1) := by decide +kernel
theorem dX0_measure_41 : decode cX0_measure 41 = .ok (.imul, 1) := by decide +kernel
theorem dX0_measure_42 : decode cX0_measure 42 = .ok (.isub, 1) := by decide +kernel
theorem dX0_measure_43 : decode cX0_measure 43 = .ok (.invokestatic 42, 3) := by decide +kernel
theorem dX0_measure_46 : decode cX0_measure 46 = .ok (.iadd, 1) := by decide +kernel
theorem dX0_measure_47 : decode cX0_measure 47 = .ok (.iconst 4, 1) := by decide +kernel
theorem dX0_measure_48 : decode cX0_measure 48 = .ok (.idiv, 1) := by decide +kernel
theorem dX0_measure_49 : decode cX0_measure 49 = .ok (.putfield 32, 3) := by decide +kernel
theorem dX0_measure_52 : decode cX0_measure 52 = .ok (.aload_n 0, 1) := by decide +kernel
theorem dX0_measure_53 : decode cX0_measure 53 = .ok (.bipush 7, 2) := by decide +kernel
theorem dX0_measure_55 : decode cX0_measure 55 = .ok (.aload_n 0, 1) := by decide +kernel
theorem dX0_measure_56 : decode cX0_measure 56 = .ok (.getfield 29, 3) := by decide +kernel
theorem dX0_measure_59 : decode cX0_measure 59 = .ok (.imul, 1) := by decide +kernel
theorem dX0_measure_60 : decode cX0_measure 60 = .ok (.bipush 8, 2) := by decide +kernel
theorem dX0_measure_62 : decode cX0_measure 62 = .ok (.iload_n 1, 1) := by decide +kernel
theorem dX0_measure_63 : decode cX0_measure 63 = .ok (.imul, 1) := by decide +kernel
theorem dX0_measure_64 : decode cX0_measure 64 = .ok (.iadd, 1) := by decide +kernel
theorem dX0_measure_65 : decode cX0_measure 65 = .ok (.bipush 8, 2) := by decide +kernel
theorem dX0_measure_67 : decode cX0_measure 67 = .ok (.idiv, 1) := by decide +kernel
theorem dX0_measure_68 : decode cX0_measure 68 = .ok (.putfield 29, 3) := by decide +kernel
theorem dX0_measure_71 : decode cX0_measure 71 = .ok (.aload_n 0, 1) := by decide +kernel
theorem dX0_measure_72 : decode cX0_measure 72 = .ok (.iload_n 1, 1) := by decide +kernel
theorem dX0_measure_73 : decode cX0_measure 73 = .ok (.putfield 26, 3) := by decide +kernel
theorem dX0_measure_76 : decode cX0_measure 76 = .ok (.return_, 1) := by decide +kernel
theorem dX0_grow_0 : decode cX0_grow 0 = .ok (.aload_n 0, 1) := by decide +kernel
theorem dX0_grow_1 : decode cX0_grow 1 = .ok (.getfield 15, 3) := by decide +kernel
theorem dX0_grow_4 : decode cX0_grow 4 = .ok (.aload_n 0, 1) := by decide +kernel
theorem dX0_grow_5 : decode cX0_grow 5 = .ok (.getfield 20, 3) := by decide +kernel
theorem dX0_grow_8 : decode cX0_grow 8 = .ok (.if_icmp .ge 16, 3) := by decide +kernel
theorem dX0_grow_11 : decode cX0_grow 11 = .ok (.aload_n 0, 1) := by decide +kernel
theorem dX0_grow_12 : decode cX0_grow 12 = .ok (.dup, 1) := by decide +kernel
theorem dX0_grow_13 : decode cX0_grow 13 = .ok (.getfield 15, 3) := by decide +kernel
theorem dX0_grow_16 : decode cX0_grow 16 = .ok (.iload_n 1, 1) := by decide +kernel
theorem dX0_grow_17 : decode cX0_grow 17 = .ok (.iadd, 1) := by decide +kernel
theorem dX0_grow_18 : decode cX0_grow 18 = .ok (.putfield 15, 3) := by decide +kernel
theorem dX0_grow_21 : decode cX0_grow 21 = .ok (.goto 27, 3) := by decide +kernel
theorem dX0_grow_24 : decode cX0_grow 24 = .ok (.aload_n 0, 1) := by decide +kernel
theorem dX0_grow_25 : decode cX0_grow 25 = .ok (.getfield 15, 3) := by decide +kernel
theorem dX0_grow_28 : decode cX0_grow 28 = .ok (.ifCond .le 20, 3) := by decide +kernel
theorem dX0_grow_31 : decode cX0_grow 31 = .ok (.aload_n 0, 1) := by decide +kernel
theorem dX0_grow_32 : decode cX0_grow 32 = .ok (.dup, 1) := by decide +kernel
theorem dX0_grow_33 : decode cX0_grow 33 = .ok (.getfield 15, 3) := by decide +kernel
theorem dX0_grow_36 : decode cX0_grow 36 = .ok (.iload_n 2, 1) := by decide +kernel
theorem dX0_grow_37 : decode cX0_grow 37 = .ok (.iload_n 1, 1) := by decide +kernel
theorem dX0_grow_38 : decode cX0_grow 38 = .ok (.imul, 1) := by decide +kernel
theorem dX0_grow_39 : decode cX0_grow 39 = .ok (.aload_n 0, 1) := by decide +kernel
theorem dX0_grow_40 : decode cX0_grow 40 = .ok (.getfield 15, 3) := by decide +kernel
theorem dX0_grow_43 : decode cX0_grow 43 = .ok (.idiv, 1) := by decide +kernel
theorem dX0_grow_44 : decode cX0_grow 44 = .ok (.iadd, 1) := by decide +kernel
theorem dX0_grow_45 : decode cX0_grow 45 = .ok (.putfield 15, 3) := by decide +kernel
theorem dX0_grow_48 : decode cX0_grow 48 = .ok (.return_, 1) := by decide +kernel
theorem dX0_fallBack_0 : decode cX0_fallBack 0 = .ok (.aload_n 0, 1) := by decide +kernel
theorem dX0_fallBack_1 : decode cX0_fallBack 1 = .ok (.iload_n 1, 1) := by decide +kernel
theorem dX0_fallBack_2 : decode cX0_fallBack 2 = .ok (.putfield 23, 3) := by decide +kernel
theorem dX0_fallBack_5 : decode cX0_fallBack 5 = .ok (.aload_n 0, 1) := by decide +kernel
theorem dX0_fallBack_6 : decode cX0_fallBack 6 = .ok (.aload_n 0, 1) := by decide +kernel
theorem dX0_fallBack_7 : decode cX0_fallBack 7 = .ok (.getfield 15, 3) := by decide +kernel
theorem dX0_fallBack_10 : decode cX0_fallBack 10 = .ok (.iconst 2, 1) := by decide +kernel
theorem dX0_fallBack_11 : decode cX0_fallBack 11 = .ok (.idiv, 1) := by decide +kernel
theorem dX0_fallBack_12 : decode cX0_fallBack 12 = .ok (.iconst 2, 1) := by decide +kernel
theorem dX0_fallBack_13 : decode cX0_fallBack 13 = .ok (.iload_n 2, 1) := by decide +kernel
theorem dX0_fallBack_14 : decode cX0_fallBack 14 = .ok (.imul, 1) := by decide +kernel
theorem dX0_fallBack_15 : decode cX0_fallBack 15 = .ok (.invokestatic 48, 3) := by decide +kernel
theorem dX0_fallBack_18 : decode cX0_fallBack 18 = .ok (.putfield 15, 3) := by decide +kernel
theorem dX0_fallBack_21 : decode cX0_fallBack 21 = .ok (.aload_n 0, 1) := by decide +kernel
theorem dX0_fallBack_22 : decode cX0_fallBack 22 = .ok (.aload_n 0, 1) := by decide +kernel
theorem dX0_fallBack_23 : decode cX0_fallBack 23 = .ok (.getfield 15, 3) := by decide +kernel
theorem dX0_fallBack_26 : decode cX0_fallBack 26 = .ok (.putfield 20, 3) := by decide +kernel
theorem dX0_fallBack_29 : decode cX0_fallBack 29 = .ok (.return_, 1) := by decide +kernel
theorem dX0_limit_0 : decode cX0_limit 0 = .ok (.aload_n 0, 1) := by decide +kernel
theorem dX0_limit_1 : decode cX0_limit 1 = .ok (.getfield 26, 3) := by decide +kernel
theorem dX0_limit_4 : decode cX0_limit 4 = .ok (.bipush (-6), 2) := by decide +kernel
theorem dX0_limit_6 : decode cX0_limit 6 = .ok (.if_icmp .ne 8, 3) := by decide +kernel
theorem dX0_limit_9 : decode cX0_limit 9 = .ok (.bipush 8, 2) := by decide +kernel
theorem dX0_limit_11 : decode cX0_limit 11 = .ok (.goto 27, 3) := by decide +kernel
theorem dX0_limit_14 : decode cX0_limit 14 = .ok (.iconst 1, 1) := by decide +kernel
theorem dX0_limit_15 : decode cX0_limit 15 = .ok (.bipush 9, 2) := by decide +kernel
theorem dX0_limit_17 : decode cX0_limit 17 = .ok (.aload_n 0, 1) := by decide +kernel
theorem dX0_limit_18 : decode cX0_limit 18 = .ok (.getfield 29, 3) := by decide +kernel
theorem dX0_limit_21 : decode cX0_limit 21 = .ok (.bipush 8, 2) := by decide +kernel
theorem dX0_limit_23 : decode cX0_limit 23 = .ok (.aload_n 0, 1) := by decide +kernel
theorem dX0_limit_24 : decode cX0_limit 24 = .ok (.getfield 26, 3) := by decide +kernel
theorem dX0_limit_27 : decode cX0_limit 27 = .ok (.imul, 1) := by decide +kernel
theorem dX0_limit_28 : decode cX0_limit 28 = .ok (.invokestatic 48, 3) := by decide +kernel
theorem dX0_limit_31 : decode cX0_limit 31 = .ok (.imul, 1) := by decide +kernel
theorem dX0_limit_32 : decode cX0_limit 32 = .ok (.bipush 64, 2) := by decide +kernel
theorem dX0_limit_34 : decode cX0_limit 34 = .ok (.idiv, 1) := by decide +kernel
theorem dX0_limit_35 : decode cX0_limit 35 = .ok (.invokestatic 48, 3) := by decide +kernel
theorem dX0_limit_38 : decode cX0_limit 38 = .ok (.ireturn, 1) := by decide +kernel
theorem dX0_waitTime_0 : decode cX0_waitTime 0 = .ok (.aload_n 0, 1) := by decide +kernel
theorem dX0_waitTime_1 : decode cX0_waitTime 1 = .ok (.getfield 26, 3) := by decide +kernel
theorem dX0_waitTime_4 : decode cX0_waitTime 4 = .ok (.bipush (-6), 2) := by decide +kernel
theorem dX0_waitTime_6 : decode cX0_waitTime 6 = .ok (.if_icmp .ne 8, 3) := by decide +kernel
theorem dX0_waitTime_9 : decode cX0_waitTime 9 = .ok (.bipush 8, 2) := by decide +kernel
theorem dX0_waitTime_11 : decode cX0_waitTime 11 = .ok (.goto 24, 3) := by decide +kernel
theorem dX0_waitTime_14 : decode cX0_waitTime 14 = .ok (.aload_n 0, 1) := by decide +kernel
theorem dX0_waitTime_15 : decode cX0_waitTime 15 = .ok (.getfield 29, 3) := by decide +kernel
theorem dX0_waitTime_18 : decode cX0_waitTime 18 = .ok (.iconst 4, 1) := by decide +kernel
theorem dX0_waitTime_19 : decode cX0_waitTime 19 = .ok (.aload_n 0, 1) := by decide +kernel
theorem dX0_waitTime_20 : decode cX0_waitTime 20 = .ok (.getfield 32, 3) := by decide +kernel
theorem dX0_waitTime_23 : decode cX0_waitTime 23 = .ok (.imul, 1) := by decide +kernel
theorem dX0_waitTime_24 : decode cX0_waitTime 24 = .ok (.bipush 8, 2) := by decide +kernel
theorem dX0_waitTime_26 : decode cX0_waitTime 26 = .ok (.invokestatic 48, 3) := by decide +kernel
theorem dX0_waitTime_29 : decode cX0_waitTime 29 = .ok (.iadd, 1) := by decide +kernel
theorem dX0_waitTime_30 : decode cX0_waitTime 30 = .ok (.bipush 8, 2) := by decide +kernel
theorem dX0_waitTime_32 : decode cX0_waitTime 32 = .ok (.idiv, 1) := by decide +kernel
theorem dX0_waitTime_33 : decode cX0_waitTime 33 = .ok (.iconst 2, 1) := by decide +kernel
theorem dX0_waitTime_34 : decode cX0_waitTime 34 = .ok (.iadd, 1) := by decide +kernel
theorem dX0_waitTime_35 : decode cX0_waitTime 35 = .ok (.ireturn, 1) := by decide +kernel
theorem dX0_probeIfLate_0 : decode cX0_probeIfLate 0 = .ok (.aload_n 0, 1) := by decide +kernel
theorem dX0_probeIfLate_1 : decode cX0_probeIfLate 1 = .ok (.getfield 35, 3) := by decide +kernel
theorem dX0_probeIfLate_4 : decode cX0_probeIfLate 4 = .ok (.ifCond .le 41, 3) := by decide +kernel
theorem dX0_probeIfLate_7 : decode cX0_probeIfLate 7 = .ok (.iload_n 1, 1) := by decide +kernel
theorem dX0_probeIfLate_8 : decode cX0_probeIfLate 8 = .ok (.aload_n 0, 1) := by decide +kernel
theorem dX0_probeIfLate_9 : decode cX0_probeIfLate 9 = .ok (.getfield 52, 3) := by decide +kernel
theorem dX0_probeIfLate_12 : decode cX0_probeIfLate 12 = .ok (.aload_n 0, 1) := by decide +kernel
theorem dX0_probeIfLate_13 : decode cX0_probeIfLate 13 = .ok (.invokevirtual 55, 3) := by decide +kernel
theorem dX0_probeIfLate_16 : decode cX0_probeIfLate 16 = .ok (.aload_n 0, 1) := by decide +kernel
theorem dX0_probeIfLate_17 : decode cX0_probeIfLate 17 = .ok (.getfield 59, 3) := by decide +kernel
theorem dX0_probeIfLate_20 : decode cX0_probeIfLate 20 = .ok (.bipush 6, 2) := by decide +kernel
theorem dX0_probeIfLate_22 : decode cX0_probeIfLate 22 = .ok (.invokestatic 62, 3) := by decide +kernel
theorem dX0_probeIfLate_25 : decode cX0_probeIfLate 25 = .ok (.ishl, 1) := by decide +kernel
theorem dX0_probeIfLate_26 : decode cX0_probeIfLate 26 = .ok (.iadd, 1) := by decide +kernel
theorem dX0_probeIfLate_27 : decode cX0_probeIfLate 27 = .ok (.if_icmp .lt 18, 3) := by decide +kernel
theorem dX0_probeIfLate_30 : decode cX0_probeIfLate 30 = .ok (.aload_n 0, 1) := by decide +kernel
theorem dX0_probeIfLate_31 : decode cX0_probeIfLate 31 = .ok (.iconst 1, 1) := by decide +kernel
theorem dX0_probeIfLate_32 : decode cX0_probeIfLate 32 = .ok (.putfield 38, 3) := by decide +kernel
theorem dX0_probeIfLate_35 : decode cX0_probeIfLate 35 = .ok (.aload_n 0, 1) := by decide +kernel
theorem dX0_probeIfLate_36 : decode cX0_probeIfLate 36 = .ok (.dup, 1) := by decide +kernel
theorem dX0_probeIfLate_37 : decode cX0_probeIfLate 37 = .ok (.getfield 59, 3) := by decide +kernel
theorem dX0_probeIfLate_40 : decode cX0_probeIfLate 40 = .ok (.iconst 1, 1) := by decide +kernel
theorem dX0_probeIfLate_41 : decode cX0_probeIfLate 41 = .ok (.iadd, 1) := by decide +kernel
theorem dX0_probeIfLate_42 : decode cX0_probeIfLate 42 = .ok (.putfield 59, 3) := by decide +kernel
theorem dX0_probeIfLate_45 : decode cX0_probeIfLate 45 = .ok (.return_, 1) := by decide +kernel
theorem dX1_init_0 : decode cX1_init 0 = .ok (.aload_n 0, 1) := by decide +kernel
theorem dX1_init_1 : decode cX1_init 1 = .ok (.invokespecial 3, 3) := by decide +kernel
theorem dX1_init_4 : decode cX1_init 4 = .ok (.aload_n 0, 1) := by decide +kernel
theorem dX1_init_5 : decode cX1_init 5 = .ok (.bipush 64, 2) := by decide +kernel
theorem dX1_init_7 : decode cX1_init 7 = .ok (.newarray .int, 2) := by decide +kernel
theorem dX1_init_9 : decode cX1_init 9 = .ok (.putfield 9, 3) := by decide +kernel
theorem dX1_init_12 : decode cX1_init 12 = .ok (.aload_n 0, 1) := by decide +kernel
theorem dX1_init_13 : decode cX1_init 13 = .ok (.bipush 8, 2) := by decide +kernel
theorem dX1_init_15 : decode cX1_init 15 = .ok (.newarray .int, 2) := by decide +kernel
theorem dX1_init_17 : decode cX1_init 17 = .ok (.putfield 15, 3) := by decide +kernel
theorem dX1_init_20 : decode cX1_init 20 = .ok (.aload_n 0, 1) := by decide +kernel
theorem dX1_init_21 : decode cX1_init 21 = .ok (.bipush 10, 2) := by decide +kernel
theorem dX1_init_23 : decode cX1_init 23 = .ok (.putfield 18, 3) := by decide +kernel
theorem dX1_init_26 : decode cX1_init 26 = .ok (.aload_n 0, 1) := by decide +kernel
theorem dX1_init_27 : decode cX1_init 27 = .ok (.iload_n 1, 1) := by decide +kernel
theorem dX1_init_28 : decode cX1_init 28 = .ok (.putfield 22, 3) := by decide +kernel
theorem dX1_init_31 : decode cX1_init 31 = .ok (.aload_n 0, 1) := by decide +kernel
theorem dX1_init_32 : decode cX1_init 32 = .ok (.iload_n 2, 1) := by decide +kernel
theorem dX1_init_33 : decode cX1_init 33 = .ok (.putfield 25, 3) := by decide +kernel
theorem dX1_init_36 : decode cX1_init 36 = .ok (.aload_n 0, 1) := by decide +kernel
theorem dX1_init_37 : decode cX1_init 37 = .ok (.iload_n 3, 1) := by decide +kernel
theorem dX1_init_38 : decode cX1_init 38 = .ok (.putfield 28, 3) := by decide +kernel
theorem dX1_init_41 : decode cX1_init 41 = .ok (.aload_n 0, 1) := by decide +kernel
theorem dX1_init_42 : decode cX1_init 42 = .ok (.iload 4, 2) := by decide +kernel
theorem dX1_init_44 : decode cX1_init 44 = .ok (.putfield 31, 3) := by decide +kernel
theorem dX1_init_47 : decode cX1_init 47 = .ok (.aload_n 0, 1) := by decide +kernel
theorem dX1_init_48 : decode cX1_init 48 = .ok (.iload 5, 2) := by decide +kernel
theorem dX1_init_50 : decode cX1_init 50 = .ok (.putfield 34, 3) := by decide +kernel
theorem dX1_init_53 : decode cX1_init 53 = .ok (.iconst 0, 1) := by decide +kernel
theorem dX1_init_54 : decode cX1_init 54 = .ok (.istore 6, 2) := by decide +kernel
theorem dX1_init_56 : decode cX1_init 56 = .ok (.iload 6, 2) := by decide +kernel
theorem dX1_init_58 : decode cX1_init 58 = .ok (.aload_n 0, 1) := by decide +kernel
theorem dX1_init_59 : decode cX1_init 59 = .ok (.getfield 15, 3) := by decide +kernel
theorem dX1_init_62 : decode cX1_init 62 = .ok (.arraylength, 1) := by decide +kernel
theorem dX1_init_63 : decode cX1_init 63 = .ok (.if_icmp .ge 18, 3) := by decide +kernel
theorem dX1_init_66 : decode cX1_init 66 = .ok (.aload_n 0, 1) := by decide +kernel
theorem dX1_init_67 : decode cX1_init 67 = .ok (.getfield 15, 3) := by decide +kernel
theorem dX1_init_70 : decode cX1_init 70 = .ok (.iload 6, 2) := by decide +kernel
theorem dX1_init_72 : decode cX1_init 72 = .ok (.bipush (-6), 2) := by decide +kernel
theorem dX1_init_74 : decode cX1_init 74 = .ok (.iastore, 1) := by decide +kernel
theorem dX1_init_75 : decode cX1_init 75 = .ok (.iinc 6 1, 3) := by decide +kernel
theorem dX1_init_78 : decode cX1_init 78 = .ok (.goto (-22), 3) := by decide +kernel
theorem dX1_init_81 : decode cX1_init 81 = .ok (.return_, 1) := by decide +kernel
theorem dX1_roomLeft_0 : decode cX1_roomLeft 0 = .ok (.aload_n 0, 1) := by decide +kernel
theorem dX1_roomLeft_1 : decode cX1_roomLeft 1 = .ok (.getfield 34, 3) := by decide +kernel
theorem dX1_roomLeft_4 : decode cX1_roomLeft 4 = .ok (.aload_n 0, 1) := by decide +kernel
theorem dX1_roomLeft_5 : decode cX1_roomLeft 5 = .ok (.getfield 18, 3) := by decide +kernel
theorem dX1_roomLeft_8 : decode cX1_roomLeft 8 = .ok (.isub, 1) := by decide +kernel
theorem dX1_roomLeft_9 : decode cX1_roomLeft 9 = .ok (.ireturn, 1) := by decide +kernel
theorem dX1_isInFlight_0 : decode cX1_isInFlight 0 = .ok (.aload_n 0, 1) := by decide +kernel
theorem dX1_isInFlight_1 : decode cX1_isInFlight 1 = .ok (.getfield 37, 3) := by decide +kernel
theorem dX1_isInFlight_4 : decode cX1_isInFlight 4 = .ok (.ifCond .eq 21, 3) := by decide +kernel
theorem dX1_isInFlight_7 : decode cX1_isInFlight 7 = .ok (.aload_n 0, 1) := by decide +kernel
theorem dX1_isInFlight_8 : decode cX1_isInFlight 8 = .ok (.getfield 41, 3) := by decide +kernel
theorem dX1_isInFlight_11 : decode cX1_isInFlight 11 = .ok (.ifCond .ne 14, 3) := by decide +kernel
theorem dX1_isInFlight_14 : decode cX1_isInFlight 14 = .ok (.aload_n 0, 1) := by decide +kernel
theorem dX1_isInFlight_15 : decode cX1_isInFlight 15 = .ok (.getfield 44, 3) := by decide +kernel
theorem dX1_isInFlight_18 : decode cX1_isInFlight 18 = .ok (.ifCond .ne 7, 3) := by decide +kernel
theorem dX1_isInFlight_21 : decode cX1_isInFlight 21 = .ok (.iconst 1, 1) := by decide +kernel
theorem dX1_isInFlight_22 : decode cX1_isInFlight 22 = .ok (.goto 4, 3) := by decide +kernel
theorem dX1_isInFlight_25 : decode cX1_isInFlight 25 = .ok (.iconst 0, 1) := by decide +kernel
theorem dX1_isInFlight_26 : decode cX1_isInFlight 26 = .ok (.ireturn, 1) := by decide +kernel
theorem dX1_partAt_0 : decode cX1_partAt 0 = .ok (.iload_n 1, 1) := by decide +kernel
theorem dX1_partAt_1 : decode cX1_partAt 1 = .ok (.iconst 4, 1) := by decide +kernel
theorem dX1_partAt_2 : decode cX1_partAt 2 = .ok (.imul, 1) := by decide +kernel
theorem dX1_partAt_3 : decode cX1_partAt 3 = .ok (.iload_n 2, 1) := by decide +kernel
theorem dX1_partAt_4 : decode cX1_partAt 4 = .ok (.iadd, 1) := by decide +kernel
theorem dX1_partAt_5 : decode cX1_partAt 5 = .ok (.istore_n 3, 1) := by decide +kernel
theorem dX1_partAt_6 : decode cX1_partAt 6 = .ok (.iload_n 3, 1) := by decide +kernel
theorem dX1_partAt_7 : decode cX1_partAt 7 = .ok (.ifCond .lt 12, 3) := by decide +kernel
theorem dX1_partAt_10 : decode cX1_partAt 10 = .ok (.iload_n 3, 1) := by decide +kernel
theorem dX1_partAt_11 : decode cX1_partAt 11 = .ok (.aload_n 0, 1) := by decide +kernel
theorem dX1_partAt_12 : decode cX1_partAt 12 = .ok (.getfield 9, 3) := by decide +kernel
theorem dX1_partAt_15 : decode cX1_partAt 15 = .ok (.arraylength, 1) := by decide +kernel
theorem dX1_partAt_16 : decode cX1_partAt 16 = .ok (.if_icmp .lt 7, 3) := by decide +kernel
theorem dX1_partAt_19 : decode cX1_partAt 19 = .ok (.iconst 0, 1) := by decide +kernel
theorem dX1_partAt_20 : decode cX1_partAt 20 = .ok (.goto 9, 3) := by decide +kernel
theorem dX1_partAt_23 : decode cX1_partAt 23 = .ok (.aload_n 0, 1) := by decide +kernel
theorem dX1_partAt_24 : decode cX1_partAt 24 = .ok (.getfield 9, 3) := by decide +kernel
theorem dX1_partAt_27 : decode cX1_partAt 27 = .ok (.iload_n 3, 1) := by decide +kernel
theorem dX1_partAt_28 : decode cX1_partAt 28 = .ok (.iaload, 1) := by decide +kernel
theorem dX1_partAt_29 : decode cX1_partAt 29 = .ok (.ireturn, 1) := by decide +kernel
theorem dX1_add_0 : decode cX1_add 0 = .ok (.iload_n 1, 1) := by decide +kernel
theorem dX1_add_1 : decode cX1_add 1 = .ok (.iload 4, 2) := by decide +kernel
theorem dX1_add_3 : decode cX1_add 3 = .ok (.invokestatic 47, 3) := by decide +kernel
theorem dX1_add_6 : decode cX1_add 6 = .ok (.istore 5, 2) := by decide +kernel
theorem dX1_add_8 : decode cX1_add 8 = .ok (.aload_n 0, 1) := by decide +kernel
theorem dX1_add_9 : decode cX1_add 9 = .ok (.getfield 51, 3) := by decide +kernel
theorem dX1_add_12 : decode cX1_add 12 = .ok (.bipush 16, 2) := by decide +kernel
theorem dX1_add_14 : decode cX1_add 14 = .ok (.if_icmp .ge 12, 3) := by decide +kernel
theorem dX1_add_17 : decode cX1_add 17 = .ok (.iload 5, 2) := by decide +kernel
theorem dX1_add_19 : decode cX1_add 19 = .ok (.aload_n 0, 1) := by decide +kernel
theorem dX1_add_20 : decode cX1_add 20 = .ok (.invokevirtual 54, 3) := by decide +kernel
theorem dX1_add_23 : decode cX1_add 23 = .ok (.if_icmp .le 5, 3) := by decide +kernel
theorem dX1_add_26 : decode cX1_add 26 = .ok (.iconst 0, 1) := by decide +kernel
theorem dX1_add_27 : decode cX1_add 27 = .ok (.ireturn, 1) := by decide +kernel
theorem dX1_add_28 : decode cX1_add 28 = .ok (.aload_n 0, 1) := by decide +kernel
theorem dX1_add_29 : decode cX1_add 29 = .ok (.getfield 51, 3) := by decide +kernel
theorem dX1_add_32 : decode cX1_add 32 = .ok (.iconst 4, 1) := by decide +kernel
theorem dX1_add_33 : decode cX1_add 33 = .ok (.imul, 1) := by decide +kernel
theorem dX1_add_34 : decode cX1_add 34 = .ok (.istore 6, 2) := by decide +kernel
theorem dX1_add_36 : decode cX1_add 36 = .ok (.aload_n 0, 1) := by decide +kernel
theorem dX1_add_37 : decode cX1_add 37 = .ok (.getfield 9, 3) := by decide +kernel
theorem dX1_add_40 : decode cX1_add 40 = .ok (.iload 6, 2) := by decide +kernel
theorem dX1_add_42 : decode cX1_add 42 = .ok (.iload_n 1, 1) := by decide +kernel
theorem dX1_add_43 : decode cX1_add 43 = .ok (.iastore, 1) := by decide +kernel
theorem dX1_add_44 : decode cX1_add 44 = .ok (.aload_n 0, 1) := by decide +kernel
theorem dX1_add_45 : decode cX1_add 45 = .ok (.getfield 9, 3) := by decide +kernel
theorem dX1_add_48 : decode cX1_add 48 = .ok (.iload 6, 2) := by decide +kernel
theorem dX1_add_50 : decode cX1_add 50 = .ok (.iconst 1, 1) := by decide +kernel
theorem dX1_add_51 : decode cX1_add 51 = .ok (.iadd, 1) := by decide +kernel
theorem dX1_add_52 : decode cX1_add 52 = .ok (.iload_n 2, 1) := by decide +kernel
theorem dX1_add_53 : decode cX1_add 53 = .ok (.iastore, 1) := by decide +kernel
theorem dX1_add_54 : decode cX1_add 54 = .ok (.aload_n 0, 1) := by decide +kernel
theorem dX1_add_55 : decode cX1_add 55 = .ok (.getfield 9, 3) := by decide +kernel
theorem dX1_add_58 : decode cX1_add 58 = .ok (.iload 6, 2) := by decide +kernel
theorem dX1_add_60 : decode cX1_add 60 = .ok (.iconst 2, 1) := by decide +kernel
theorem dX1_add_61 : decode cX1_add 61 = .ok (.iadd, 1) := by decide +kernel
theorem dX1_add_62 : decode cX1_add 62 = .ok (.iload_n 3, 1) := by decide +kernel
theorem dX1_add_63 : decode cX1_add 63 = .ok (.iastore, 1) := by decide +kernel
theorem dX1_add_64 : decode cX1_add 64 = .ok (.aload_n 0, 1) := by decide +kernel
theorem dX1_add_65 : decode cX1_add 65 = .ok (.getfield 9, 3) := by decide +kernel
theorem dX1_add_68 : decode cX1_add 68 = .ok (.iload 6, 2) := by decide +kernel
theorem dX1_add_70 : decode cX1_add 70 = .ok (.iconst 3, 1) := by decide +kernel
theorem dX1_add_71 : decode cX1_add 71 = .ok (.iadd, 1) := by decide +kernel
theorem dX1_add_72 : decode cX1_add 72 = .ok (.iload 4, 2) := by decide +kernel
theorem dX1_add_74 : decode cX1_add 74 = .ok (.iastore, 1) := by decide +kernel
theorem dX1_add_75 : decode cX1_add 75 = .ok (.aload_n 0, 1) := by decide +kernel
theorem dX1_add_76 : decode cX1_add 76 = .ok (.dup, 1) := by decide +kernel
theorem dX1_add_77 : decode cX1_add 77 = .ok (.getfield 51, 3) := by decide +kernel
theorem dX1_add_80 : decode cX1_add 80 = .ok (.iconst 1, 1) := by decide +kernel
theorem dX1_add_81 : decode cX1_add 81 = .ok (.iadd, 1) := by decide +kernel
theorem dX1_add_82 : decode cX1_add 82 = .ok (.putfield 51, 3) := by decide +kernel
theorem dX1_add_85 : decode cX1_add 85 = .ok (.aload_n 0, 1) := by decide +kernel
theorem dX1_add_86 : decode cX1_add 86 = .ok (.dup, 1) := by decide +kernel
theorem dX1_add_87 : decode cX1_add 87 = .ok (.getfield 18, 3) := by decide +kernel
theorem dX1_add_90 : decode cX1_add 90 = .ok (.iload 5, 2) := by decide +kernel
theorem dX1_add_92 : decode cX1_add 92 = .ok (.iadd, 1) := by decide +kernel
theorem dX1_add_93 : decode cX1_add 93 = .ok (.putfield 18, 3) := by decide +kernel
theorem dX1_add_96 : decode cX1_add 96 = .ok (.iload_n 1, 1) := by decide +kernel
theorem dX1_add_97 : decode cX1_add 97 = .ok (.iconst 1, 1) := by decide +kernel
theorem dX1_add_98 : decode cX1_add 98 = .ok (.if_icmp .eq 8, 3) := by decide +kernel
theorem dX1_add_101 : decode cX1_add 101 = .ok (.aload_n 0, 1) := by decide +kernel
theorem dX1_add_102 : decode cX1_add 102 = .ok (.iconst 1, 1) := by decide +kernel
theorem dX1_add_103 : decode cX1_add 103 = .ok (.putfield 37, 3) := by decide +kernel
theorem dX1_add_106 : decode cX1_add 106 = .ok (.iconst 1, 1) := by decide +kernel
theorem dX1_add_107 : decode cX1_add 107 = .ok (.ireturn, 1) := by decide +kernel
theorem dX1_weightOf_0 : decode cX1_weightOf 0 = .ok (.iload_n 0, 1) := by decide +kernel
theorem dX1_weightOf_1 : decode cX1_weightOf 1 = .ok (.tableswitch 69 1 7 #[43, 52, 52, 54, 63, 66, 66], 43) := by decide +kernel
theorem dX1_weightOf_44 : decode cX1_weightOf 44 = .ok (.bipush 6, 2) := by decide +kernel
theorem dX1_weightOf_46 : decode cX1_weightOf 46 = .ok (.iconst 4, 1) := by decide +kernel
theorem dX1_weightOf_47 : decode cX1_weightOf 47 = .ok (.iload_n 1, 1) := by decide +kernel
theorem dX1_weightOf_48 : decode cX1_weightOf 48 = .ok (.iconst 1, 1) := by decide +kernel
theorem dX1_weightOf_49 : decode cX1_weightOf 49 = .ok (.isub, 1) := by decide +kernel
theorem dX1_weightOf_50 : decode cX1_weightOf 50 = .ok (.imul, 1) := by decide +kernel
theorem dX1_weightOf_51 : decode cX1_weightOf 51 = .ok (.iadd, 1) := by decide +kernel
theorem dX1_weightOf_52 : decode cX1_weightOf 52 = .ok (.ireturn, 1) := by decide +kernel
theorem dX1_weightOf_53 : decode cX1_weightOf 53 = .ok (.iconst 5, 1) := by decide +kernel
theorem dX1_weightOf_54 : decode cX1_weightOf 54 = .ok (.ireturn, 1) := by decide +kernel
theorem dX1_weightOf_55 : decode cX1_weightOf 55 = .ok (.bipush 8, 2) := by decide +kernel
theorem dX1_weightOf_57 : decode cX1_weightOf 57 = .ok (.iload_n 1, 1) := by decide +kernel
theorem dX1_weightOf_58 : decode cX1_weightOf 58 = .ok (.sipush 10000, 3) := by decide +kernel
theorem dX1_weightOf_61 : decode cX1_weightOf 61 = .ok (.irem, 1) := by decide +kernel
theorem dX1_weightOf_62 : decode cX1_weightOf 62 = .ok (.iadd, 1) := by decide +kernel
theorem dX1_weightOf_63 : decode cX1_weightOf 63 = .ok (.ireturn, 1) := by decide +kernel
theorem dX1_weightOf_64 : decode cX1_weightOf 64 = .ok (.bipush 7, 2) := by decide +kernel
theorem dX1_weightOf_66 : decode cX1_weightOf 66 = .ok (.ireturn, 1) := by decide +kernel
theorem dX1_weightOf_67 : decode cX1_weightOf 67 = .ok (.bipush 9, 2) := by decide +kernel
theorem dX1_weightOf_69 : decode cX1_weightOf 69 = .ok (.ireturn, 1) := by decide +kernel
theorem dX1_weightOf_70 : decode cX1_weightOf 70 = .ok (.iconst 1, 1) := by decide +kernel
theorem dX1_weightOf_71 : decode cX1_weightOf 71 = .ok (.ireturn, 1) := by decide +kernel
theorem dX2_init_0 : decode cX2_init 0 = .ok (.aload_n 0, 1) := by decide +kernel
theorem dX2_init_1 : decode cX2_init 1 = .ok (.invokespecial 3, 3) := by decide +kernel
theorem dX2_init_4 : decode cX2_init 4 = .ok (.aload_n 0, 1) := by decide +kernel
theorem dX2_init_5 : decode cX2_init 5 = .ok (.sipush 300, 3) := by decide +kernel
theorem dX2_init_8 : decode cX2_init 8 = .ok (.anewarray 9, 3) := by decide +kernel
theorem dX2_init_11 : decode cX2_init 11 = .ok (.putfield 11, 3) := by decide +kernel
theorem dX2_init_14 : decode cX2_init 14 = .ok (.aload_n 0, 1) := by decide +kernel
theorem dX2_init_15 : decode cX2_init 15 = .ok (.bipush (-6), 2) := by decide +kernel
theorem dX2_init_17 : decode cX2_init 17 = .ok (.putfield 17, 3) := by decide +kernel
theorem dX2_init_20 : decode cX2_init 20 = .ok (.aload_n 0, 1) := by decide +kernel
theorem dX2_init_21 : decode cX2_init 21 = .ok (.bipush (-6), 2) := by decide +kernel
theorem dX2_init_23 : decode cX2_init 23 = .ok (.putfield 21, 3) := by decide +kernel
theorem dX2_init_26 : decode cX2_init 26 = .ok (.aload_n 0, 1) := by decide +kernel
theorem dX2_init_27 : decode cX2_init 27 = .ok (.bipush (-6), 2) := by decide +kernel
theorem dX2_init_29 : decode cX2_init 29 = .ok (.putfield 24, 3) := by decide +kernel
theorem dX2_init_32 : decode cX2_init 32 = .ok (.aload_n 0, 1) := by decide +kernel
theorem dX2_init_33 : decode cX2_init 33 = .ok (.iload_n 1, 1) := by decide +kernel
theorem dX2_init_34 : decode cX2_init 34 = .ok (.putfield 27, 3) := by decide +kernel
theorem dX2_init_37 : decode cX2_init 37 = .ok (.aload_n 0, 1) := by decide +kernel
theorem dX2_init_38 : decode cX2_init 38 = .ok (.new 30, 3) := by decide +kernel
theorem dX2_init_41 : decode cX2_init 41 = .ok (.dup, 1) := by decide +kernel
theorem dX2_init_42 : decode cX2_init 42 = .ok (.iload_n 2, 1) := by decide +kernel
theorem dX2_init_43 : decode cX2_init 43 = .ok (.invokespecial 32, 3) := by decide +kernel
theorem dX2_init_46 : decode cX2_init 46 = .ok (.putfield 35, 3) := by decide +kernel
theorem dX2_init_49 : decode cX2_init 49 = .ok (.aload_n 0, 1) := by decide +kernel
theorem dX2_init_50 : decode cX2_init 50 = .ok (.iload_n 3, 1) := by decide +kernel
theorem dX2_init_51 : decode cX2_init 51 = .ok (.putfield 39, 3) := by decide +kernel
theorem dX2_init_54 : decode cX2_init 54 = .ok (.aload_n 0, 1) := by decide +kernel
theorem dX2_init_55 : decode cX2_init 55 = .ok (.iload_n 3, 1) := by decide +kernel
theorem dX2_init_56 : decode cX2_init 56 = .ok (.putfield 42, 3) := by decide +kernel
theorem dX2_init_59 : decode cX2_init 59 = .ok (.return_, 1) := by decide +kernel
theorem dX2_packetAt_0 : decode cX2_packetAt 0 = .ok (.iload_n 1, 1) := by decide +kernel
theorem dX2_packetAt_1 : decode cX2_packetAt 1 = .ok (.ifCond .lt 18, 3) := by decide +kernel
theorem dX2_packetAt_4 : decode cX2_packetAt 4 = .ok (.iload_n 1, 1) := by decide +kernel
theorem dX2_packetAt_5 : decode cX2_packetAt 5 = .ok (.aload_n 0, 1) := by decide +kernel
theorem dX2_packetAt_6 : decode cX2_packetAt 6 = .ok (.getfield 45, 3) := by decide +kernel
theorem dX2_packetAt_9 : decode cX2_packetAt 9 = .ok (.if_icmp .ge 10, 3) := by decide +kernel
theorem dX2_packetAt_12 : decode cX2_packetAt 12 = .ok (.iload_n 1, 1) := by decide +kernel
theorem dX2_packetAt_13 : decode cX2_packetAt 13 = .ok (.sipush 300, 3) := by decide +kernel
theorem dX2_packetAt_16 : decode cX2_packetAt 16 = .ok (.if_icmp .lt 7, 3) := by decide +kernel
theorem dX2_packetAt_19 : decode cX2_packetAt 19 = .ok (.aconst_null, 1) := by decide +kernel
theorem dX2_packetAt_20 : decode cX2_packetAt 20 = .ok (.goto 9, 3) := by decide +kernel
theorem dX2_packetAt_23 : decode cX2_packetAt 23 = .ok (.aload_n 0, 1) := by decide +kernel
theorem dX2_packetAt_24 : decode cX2_packetAt 24 = .ok (.getfield 11, 3) := by decide +kernel
theorem dX2_packetAt_27 : decode cX2_packetAt 27 = .ok (.iload_n 1, 1) := by decide +kernel
theorem dX2_packetAt_28 : decode cX2_packetAt 28 = .ok (.aaload, 1) := by decide +kernel
theorem dX2_packetAt_29 : decode cX2_packetAt 29 = .ok (.areturn, 1) := by decide +kernel
theorem dX3_init_0 : decode cX3_init 0 = .ok (.aload_n 0, 1) := by decide +kernel
theorem dX3_init_1 : decode cX3_init 1 = .ok (.invokespecial 3, 3) := by decide +kernel
theorem dX3_init_4 : decode cX3_init 4 = .ok (.aload_n 0, 1) := by decide +kernel
theorem dX3_init_5 : decode cX3_init 5 = .ok (.sipush 1000, 3) := by decide +kernel
theorem dX3_init_8 : decode cX3_init 8 = .ok (.newarray .byte, 2) := by decide +kernel
theorem dX3_init_10 : decode cX3_init 10 = .ok (.putfield 9, 3) := by decide +kernel
theorem dX3_init_13 : decode cX3_init 13 = .ok (.aload_n 0, 1) := by decide +kernel
theorem dX3_init_14 : decode cX3_init 14 = .ok (.bipush (-6), 2) := by decide +kernel
theorem dX3_init_16 : decode cX3_init 16 = .ok (.putfield 15, 3) := by decide +kernel
theorem dX3_init_19 : decode cX3_init 19 = .ok (.aload_n 0, 1) := by decide +kernel
theorem dX3_init_20 : decode cX3_init 20 = .ok (.iload_n 1, 1) := by decide +kernel
theorem dX3_init_21 : decode cX3_init 21 = .ok (.putfield 19, 3) := by decide +kernel
theorem dX3_init_24 : decode cX3_init 24 = .ok (.aload_n 0, 1) := by decide +kernel
theorem dX3_init_25 : decode cX3_init 25 = .ok (.iload_n 1, 1) := by decide +kernel
theorem dX3_init_26 : decode cX3_init 26 = .ok (.putfield 22, 3) := by decide +kernel
theorem dX3_init_29 : decode cX3_init 29 = .ok (.return_, 1) := by decide +kernel
theorem dX3_isUntouched_0 : decode cX3_isUntouched 0 = .ok (.aload_n 0, 1) := by decide +kernel
theorem dX3_isUntouched_1 : decode cX3_isUntouched 1 = .ok (.getfield 25, 3) := by decide +kernel
theorem dX3_isUntouched_4 : decode cX3_isUntouched 4 = .ok (.ifCond .ne 21, 3) := by decide +kernel
theorem dX3_isUntouched_7 : decode cX3_isUntouched 7 = .ok (.aload_n 0, 1) := by decide +kernel
theorem dX3_isUntouched_8 : decode cX3_isUntouched 8 = .ok (.getfield 28, 3) := by decide +kernel
theorem dX3_isUntouched_11 : decode cX3_isUntouched 11 = .ok (.ifCond .ne 14, 3) := by decide +kernel
theorem dX3_isUntouched_14 : decode cX3_isUntouched 14 = .ok (.aload_n 0, 1) := by decide +kernel
theorem dX3_isUntouched_15 : decode cX3_isUntouched 15 = .ok (.getfield 32, 3) := by decide +kernel
theorem dX3_isUntouched_18 : decode cX3_isUntouched 18 = .ok (.ifCond .ne 7, 3) := by decide +kernel
theorem dX3_isUntouched_21 : decode cX3_isUntouched 21 = .ok (.iconst 1, 1) := by decide +kernel
theorem dX3_isUntouched_22 : decode cX3_isUntouched 22 = .ok (.goto 4, 3) := by decide +kernel
theorem dX3_isUntouched_25 : decode cX3_isUntouched 25 = .ok (.iconst 0, 1) := by decide +kernel
theorem dX3_isUntouched_26 : decode cX3_isUntouched 26 = .ok (.ireturn, 1) := by decide +kernel
theorem dX3_isEndDue_0 : decode cX3_isEndDue 0 = .ok (.aload_n 0, 1) := by decide +kernel
theorem dX3_isEndDue_1 : decode cX3_isEndDue 1 = .ok (.getfield 28, 3) := by decide +kernel
theorem dX3_isEndDue_4 : decode cX3_isEndDue 4 = .ok (.ifCond .eq 33, 3) := by decide +kernel
theorem dX3_isEndDue_7 : decode cX3_isEndDue 7 = .ok (.aload_n 0, 1) := by decide +kernel
theorem dX3_isEndDue_8 : decode cX3_isEndDue 8 = .ok (.getfield 35, 3) := by decide +kernel
theorem dX3_isEndDue_11 : decode cX3_isEndDue 11 = .ok (.aload_n 0, 1) := by decide +kernel
theorem dX3_isEndDue_12 : decode cX3_isEndDue 12 = .ok (.getfield 25, 3) := by decide +kernel
theorem dX3_isEndDue_15 : decode cX3_isEndDue 15 = .ok (.if_icmp .ne 22, 3) := by decide +kernel
theorem dX3_isEndDue_18 : decode cX3_isEndDue 18 = .ok (.aload_n 0, 1) := by decide +kernel
theorem dX3_isEndDue_19 : decode cX3_isEndDue 19 = .ok (.getfield 38, 3) := by decide +kernel
theorem dX3_isEndDue_22 : decode cX3_isEndDue 22 = .ok (.ifCond .eq 11, 3) := by decide +kernel
theorem dX3_isEndDue_25 : decode cX3_isEndDue 25 = .ok (.aload_n 0, 1) := by decide +kernel
theorem dX3_isEndDue_26 : decode cX3_isEndDue 26 = .ok (.getfield 38, 3) := by decide +kernel
theorem dX3_isEndDue_29 : decode cX3_isEndDue 29 = .ok (.iconst 2, 1) := by decide +kernel
theorem dX3_isEndDue_30 : decode cX3_isEndDue 30 = .ok (.if_icmp .ne 7, 3) := by decide +kernel
theorem dX3_isEndDue_33 : decode cX3_isEndDue 33 = .ok (.iconst 1, 1) := by decide +kernel
theorem dX3_isEndDue_34 : decode cX3_isEndDue 34 = .ok (.goto 4, 3) := by decide +kernel
theorem dX3_isEndDue_37 : decode cX3_isEndDue 37 = .ok (.iconst 0, 1) := by decide +kernel
theorem dX3_isEndDue_38 : decode cX3_isEndDue 38 = .ok (.ireturn, 1) := by decide +kernel
theorem dX3_senderKnows_0 : decode cX3_senderKnows 0 = .ok (.aload_n 0, 1) := by decide +kernel
theorem dX3_senderKnows_1 : decode cX3_senderKnows 1 = .ok (.getfield 9, 3) := by decide +kernel
theorem dX3_senderKnows_4 : decode cX3_senderKnows 4 = .ok (.iload_n 1, 1) := by decide +kernel
theorem dX3_senderKnows_5 : decode cX3_senderKnows 5 = .ok (.baload, 1) := by decide +kernel
theorem dX3_senderKnows_6 : decode cX3_senderKnows 6 = .ok (.iconst 3, 1) := by decide +kernel
theorem dX3_senderKnows_7 : decode cX3_senderKnows 7 = .ok (.iand, 1) := by decide +kernel
theorem dX3_senderKnows_8 : decode cX3_senderKnows 8 = .ok (.ireturn, 1) := by decide +kernel
theorem dX3_setSenderKnows_0 : decode cX3_setSenderKnows 0 = .ok (.aload_n 0, 1) := by decide +kernel
theorem dX3_setSenderKnows_1 : decode cX3_setSenderKnows 1 = .ok (.getfield 9, 3) := by decide +kernel
theorem dX3_setSenderKnows_4 : decode cX3_setSenderKnows 4 = .ok (.iload_n 1, 1) := by decide +kernel
theorem dX3_setSenderKnows_5 : decode cX3_setSenderKnows 5 = .ok (.aload_n 0, 1) := by decide +kernel
theorem dX3_setSenderKnows_6 : decode cX3_setSenderKnows 6 = .ok (.getfield 9, 3) := by decide +kernel
theorem dX3_setSenderKnows_9 : decode cX3_setSenderKnows 9 = .ok (.iload_n 1, 1) := by decide +kernel
theorem dX3_setSenderKnows_10 : decode cX3_setSenderKnows 10 = .ok (.baload, 1) := by decide +kernel
theorem dX3_setSenderKnows_11 : decode cX3_setSenderKnows 11 = .ok (.iconst 4, 1) := by decide +kernel
theorem dX3_setSenderKnows_12 : decode cX3_setSenderKnows 12 = .ok (.iand, 1) := by decide +kernel
theorem dX3_setSenderKnows_13 : decode cX3_setSenderKnows 13 = .ok (.iload_n 2, 1) := by decide +kernel
theorem dX3_setSenderKnows_14 : decode cX3_setSenderKnows 14 = .ok (.ior, 1) := by decide +kernel
theorem dX3_setSenderKnows_15 : decode cX3_setSenderKnows 15 = .ok (.i2b, 1) := by decide +kernel
theorem dX3_setSenderKnows_16 : decode cX3_setSenderKnows 16 = .ok (.bastore, 1) := by decide +kernel
theorem dX3_setSenderKnows_17 : decode cX3_setSenderKnows 17 = .ok (.return_, 1) := by decide +kernel
theorem dX3_stop_0 : decode cX3_stop 0 = .ok (.iload_n 1, 1) := by decide +kernel
theorem dX3_stop_1 : decode cX3_stop 1 = .ok (.ifCond .ge 7, 3) := by decide +kernel
theorem dX3_stop_4 : decode cX3_stop 4 = .ok (.iload_n 1, 1) := by decide +kernel
theorem dX3_stop_5 : decode cX3_stop 5 = .ok (.goto 12, 3) := by decide +kernel
theorem dX3_stop_8 : decode cX3_stop 8 = .ok (.sipush 1000, 3) := by decide +kernel
theorem dX3_stop_11 : decode cX3_stop 11 = .ok (.iload_n 1, 1) := by decide +kernel
theorem dX3_stop_12 : decode cX3_stop 12 = .ok (.iload_n 2, 1) := by decide +kernel
theorem dX3_stop_13 : decode cX3_stop 13 = .ok (.iadd, 1) := by decide +kernel
theorem dX3_stop_14 : decode cX3_stop 14 = .ok (.invokestatic 41, 3) := by decide +kernel
theorem dX3_stop_17 : decode cX3_stop 17 = .ok (.ireturn, 1) := by decide +kernel
theorem dX3_firstAgain_0 : decode cX3_firstAgain 0 = .ok (.iconst 0, 1) := by decide +kernel
theorem dX3_firstAgain_1 : decode cX3_firstAgain 1 = .ok (.istore_n 1, 1) := by decide +kernel
theorem dX3_firstAgain_2 : decode cX3_firstAgain 2 = .ok (.iload_n 1, 1) := by decide +kernel
theorem dX3_firstAgain_3 : decode cX3_firstAgain 3 = .ok (.aload_n 0, 1) := by decide +kernel
theorem dX3_firstAgain_4 : decode cX3_firstAgain 4 = .ok (.getfield 35, 3) := by decide +kernel
theorem dX3_firstAgain_7 : decode cX3_firstAgain 7 = .ok (.if_icmp .ge 18, 3) := by decide +kernel
theorem dX3_firstAgain_10 : decode cX3_firstAgain 10 = .ok (.aload_n 0, 1) := by decide +kernel
theorem dX3_firstAgain_11 : decode cX3_firstAgain 11 = .ok (.iload_n 1, 1) := by decide +kernel
theorem dX3_firstAgain_12 : decode cX3_firstAgain 12 = .ok (.invokevirtual 47, 3) := by decide +kernel
theorem dX3_firstAgain_15 : decode cX3_firstAgain 15 = .ok (.iconst 2, 1) := by decide +kernel
theorem dX3_firstAgain_16 : decode cX3_firstAgain 16 = .ok (.if_icmp .eq 9, 3) := by decide +kernel
theorem dX3_firstAgain_19 : decode cX3_firstAgain 19 = .ok (.iinc 1 1, 3) := by decide +kernel
theorem dX3_firstAgain_22 : decode cX3_firstAgain 22 = .ok (.goto (-20), 3) := by decide +kernel
theorem dX3_firstAgain_25 : decode cX3_firstAgain 25 = .ok (.iload_n 1, 1) := by decide +kernel
theorem dX3_firstAgain_26 : decode cX3_firstAgain 26 = .ok (.ireturn, 1) := by decide +kernel
theorem dX3_countAgainFrom_0 : decode cX3_countAgainFrom 0 = .ok (.iload_n 1, 1) := by decide +kernel
theorem dX3_countAgainFrom_1 : decode cX3_countAgainFrom 1 = .ok (.istore_n 2, 1) := by decide +kernel
theorem dX3_countAgainFrom_2 : decode cX3_countAgainFrom 2 = .ok (.iload_n 2, 1) := by decide +kernel
theorem dX3_countAgainFrom_3 : decode cX3_countAgainFrom 3 = .ok (.aload_n 0, 1) := by decide +kernel
theorem dX3_countAgainFrom_4 : decode cX3_countAgainFrom 4 = .ok (.getfield 35, 3) := by decide +kernel
theorem dX3_countAgainFrom_7 : decode cX3_countAgainFrom 7 = .ok (.if_icmp .ge 18, 3) := by decide +kernel
theorem dX3_countAgainFrom_10 : decode cX3_countAgainFrom 10 = .ok (.aload_n 0, 1) := by decide +kernel
theorem dX3_countAgainFrom_11 : decode cX3_countAgainFrom 11 = .ok (.iload_n 2, 1) := by decide +kernel
theorem dX3_countAgainFrom_12 : decode cX3_countAgainFrom 12 = .ok (.invokevirtual 47, 3) := by decide +kernel
theorem dX3_countAgainFrom_15 : decode cX3_countAgainFrom 15 = .ok (.iconst 2, 1) := by decide +kernel
theorem dX3_countAgainFrom_16 : decode cX3_countAgainFrom 16 = .ok (.if_icmp .ne 9, 3) := by decide +kernel
theorem dX3_countAgainFrom_19 : decode cX3_countAgainFrom 19 = .ok (.iinc 2 1, 3) := by decide +kernel
theorem dX3_countAgainFrom_22 : decode cX3_countAgainFrom 22 = .ok (.goto (-20), 3) := by decide +kernel
theorem dX3_countAgainFrom_25 : decode cX3_countAgainFrom 25 = .ok (.iload_n 2, 1) := by decide +kernel
theorem dX3_countAgainFrom_26 : decode cX3_countAgainFrom 26 = .ok (.iload_n 1, 1) := by decide +kernel
theorem dX3_countAgainFrom_27 : decode cX3_countAgainFrom 27 = .ok (.isub, 1) := by decide +kernel
theorem dX3_countAgainFrom_28 : decode cX3_countAgainFrom 28 = .ok (.ireturn, 1) := by decide +kernel
theorem dX3_markSent_0 : decode cX3_markSent 0 = .ok (.aload_n 0, 1) := by decide +kernel
theorem dX3_markSent_1 : decode cX3_markSent 1 = .ok (.iload_n 1, 1) := by decide +kernel
theorem dX3_markSent_2 : decode cX3_markSent 2 = .ok (.iload_n 2, 1) := by decide +kernel
theorem dX3_markSent_3 : decode cX3_markSent 3 = .ok (.invokevirtual 51, 3) := by decide +kernel
theorem dX3_markSent_6 : decode cX3_markSent 6 = .ok (.istore_n 3, 1) := by decide +kernel
theorem dX3_markSent_7 : decode cX3_markSent 7 = .ok (.iload_n 1, 1) := by decide +kernel
theorem dX3_markSent_8 : decode cX3_markSent 8 = .ok (.istore 4, 2) := by decide +kernel
theorem dX3_markSent_10 : decode cX3_markSent 10 = .ok (.iload 4, 2) := by decide +kernel
theorem dX3_markSent_12 : decode cX3_markSent 12 = .ok (.iload_n 3, 1) := by decide +kernel
theorem dX3_markSent_13 : decode cX3_markSent 13 = .ok (.if_icmp .ge 36, 3) := by decide +kernel
theorem dX3_markSent_16 : decode cX3_markSent 16 = .ok (.aload_n 0, 1) := by decide +kernel
theorem dX3_markSent_17 : decode cX3_markSent 17 = .ok (.iload 4, 2) := by decide +kernel
theorem dX3_markSent_19 : decode cX3_markSent 19 = .ok (.invokevirtual 47, 3) := by decide +kernel
theorem dX3_markSent_22 : decode cX3_markSent 22 = .ok (.iconst 2, 1) := by decide +kernel
theorem dX3_markSent_23 : decode cX3_markSent 23 = .ok (.if_icmp .ne 13, 3) := by decide +kernel
theorem dX3_markSent_26 : decode cX3_markSent 26 = .ok (.aload_n 0, 1) := by decide +kernel
theorem dX3_markSent_27 : decode cX3_markSent 27 = .ok (.dup, 1) := by decide +kernel
theorem dX3_markSent_28 : decode cX3_markSent 28 = .ok (.getfield 54, 3) := by decide +kernel
theorem dX3_markSent_31 : decode cX3_markSent 31 = .ok (.iconst 1, 1) := by decide +kernel
theorem dX3_markSent_32 : decode cX3_markSent 32 = .ok (.isub, 1) := by decide +kernel
theorem dX3_markSent_33 : decode cX3_markSent 33 = .ok (.putfield 54, 3) := by decide +kernel
theorem dX3_markSent_36 : decode cX3_markSent 36 = .ok (.aload_n 0, 1) := by decide +kernel
theorem dX3_markSent_37 : decode cX3_markSent 37 = .ok (.iload 4, 2) := by decide +kernel
theorem dX3_markSent_39 : decode cX3_markSent 39 = .ok (.iconst 1, 1) := by decide +kernel
theorem dX3_markSent_40 : decode cX3_markSent 40 = .ok (.invokevirtual 57, 3) := by decide +kernel
theorem dX3_markSent_43 : decode cX3_markSent 43 = .ok (.iinc 4 1, 3) := by decide +kernel
theorem dX3_markSent_46 : decode cX3_markSent 46 = .ok (.goto (-36), 3) := by decide +kernel
theorem dX3_markSent_49 : decode cX3_markSent 49 = .ok (.aload_n 0, 1) := by decide +kernel
theorem dX3_markSent_50 : decode cX3_markSent 50 = .ok (.aload_n 0, 1) := by decide +kernel
theorem dX3_markSent_51 : decode cX3_markSent 51 = .ok (.getfield 35, 3) := by decide +kernel
theorem dX3_markSent_54 : decode cX3_markSent 54 = .ok (.iload_n 3, 1) := by decide +kernel
theorem dX3_markSent_55 : decode cX3_markSent 55 = .ok (.invokestatic 61, 3) := by decide +kernel
theorem dX3_markSent_58 : decode cX3_markSent 58 = .ok (.putfield 35, 3) := by decide +kernel
theorem dX3_markSent_61 : decode cX3_markSent 61 = .ok (.return_, 1) := by decide +kernel
theorem dX3_markArrived_0 : decode cX3_markArrived 0 = .ok (.aload_n 0, 1) := by decide +kernel
theorem dX3_markArrived_1 : decode cX3_markArrived 1 = .ok (.iload_n 1, 1) := by decide +kernel
theorem dX3_markArrived_2 : decode cX3_markArrived 2 = .ok (.iload_n 2, 1) := by decide +kernel
theorem dX3_markArrived_3 : decode cX3_markArrived 3 = .ok (.invokevirtual 51, 3) := by decide +kernel
theorem dX3_markArrived_6 : decode cX3_markArrived 6 = .ok (.istore_n 3, 1) := by decide +kernel
theorem dX3_markArrived_7 : decode cX3_markArrived 7 = .ok (.iload_n 1, 1) := by decide +kernel
theorem dX3_markArrived_8 : decode cX3_markArrived 8 = .ok (.istore 4, 2) := by decide +kernel
theorem dX3_markArrived_10 : decode cX3_markArrived 10 = .ok (.iload 4, 2) := by decide +kernel
theorem dX3_markArrived_12 : decode cX3_markArrived 12 = .ok (.iload_n 3, 1) := by decide +kernel
theorem dX3_markArrived_13 : decode cX3_markArrived 13 = .ok (.if_icmp .ge 56, 3) := by decide +kernel
theorem dX3_markArrived_16 : decode cX3_markArrived 16 = .ok (.aload_n 0, 1) := by decide +kernel
theorem dX3_markArrived_17 : decode cX3_markArrived 17 = .ok (.iload 4, 2) := by decide +kernel
theorem dX3_markArrived_19 : decode cX3_markArrived 19 = .ok (.invokevirtual 47, 3) := by decide +kernel
theorem dX3_markArrived_22 : decode cX3_markArrived 22 = .ok (.istore 5, 2) := by decide +kernel
theorem dX3_markArrived_24 : decode cX3_markArrived 24 = .ok (.iload 5, 2) := by decide +kernel
theorem dX3_markArrived_26 : decode cX3_markArrived 26 = .ok (.iconst 2, 1) := by decide +kernel
theorem dX3_markArrived_27 : decode cX3_markArrived 27 = .ok (.if_icmp .ne 13, 3) := by decide +kernel
theorem dX3_markArrived_30 : decode cX3_markArrived 30 = .ok (.aload_n 0, 1) := by decide +kernel
theorem dX3_markArrived_31 : decode cX3_markArrived 31 = .ok (.dup, 1) := by decide +kernel
theorem dX3_markArrived_32 : decode cX3_markArrived 32 = .ok (.getfield 54, 3) := by decide +kernel
theorem dX3_markArrived_35 : decode cX3_markArrived 35 = .ok (.iconst 1, 1) := by decide +kernel
theorem dX3_markArrived_36 : decode cX3_markArrived 36 = .ok (.isub, 1) := by decide +kernel
theorem dX3_markArrived_37 : decode cX3_markArrived 37 = .ok (.putfield 54, 3) := by decide +kernel
theorem dX3_markArrived_40 : decode cX3_markArrived 40 = .ok (.iload 5, 2) := by decide +kernel
theorem dX3_markArrived_42 : decode cX3_markArrived 42 = .ok (.iconst 3, 1) := by decide +kernel
theorem dX3_markArrived_43 : decode cX3_markArrived 43 = .ok (.if_icmp .eq 20, 3) := by decide +kernel
theorem dX3_markArrived_46 : decode cX3_markArrived 46 = .ok (.aload_n 0, 1) := by decide +kernel
theorem dX3_markArrived_47 : decode cX3_markArrived 47 = .ok (.dup, 1) := by decide +kernel
theorem dX3_markArrived_48 : decode cX3_markArrived 48 = .ok (.getfield 64, 3) := by decide +kernel
theorem dX3_markArrived_51 : decode cX3_markArrived 51 = .ok (.iconst 1, 1) := by decide +kernel
theorem dX3_markArrived_52 : decode cX3_markArrived 52 = .ok (.iadd, 1) := by decide +kernel
theorem dX3_markArrived_53 : decode cX3_markArrived 53 = .ok (.putfield 64, 3) := by decide +kernel
theorem dX3_markArrived_56 : decode cX3_markArrived 56 = .ok (.aload_n 0, 1) := by decide +kernel
theorem dX3_markArrived_57 : decode cX3_markArrived 57 = .ok (.iload 4, 2) := by decide +kernel
theorem dX3_markArrived_59 : decode cX3_markArrived 59 = .ok (.iconst 3, 1) := by decide +kernel
theorem dX3_markArrived_60 : decode cX3_markArrived 60 = .ok (.invokevirtual 57, 3) := by decide +kernel
theorem dX3_markArrived_63 : decode cX3_markArrived 63 = .ok (.iinc 4 1, 3) := by decide +kernel
theorem dX3_markArrived_66 : decode cX3_markArrived 66 = .ok (.goto (-56), 3) := by decide +kernel
theorem dX3_markArrived_69 : decode cX3_markArrived 69 = .ok (.return_, 1) := by decide +kernel
theorem dX3_markAgain_0 : decode cX3_markAgain 0 = .ok (.aload_n 0, 1) := by decide +kernel
theorem dX3_markAgain_1 : decode cX3_markAgain 1 = .ok (.iload_n 1, 1) := by decide +kernel
theorem dX3_markAgain_2 : decode cX3_markAgain 2 = .ok (.iload_n 2, 1) := by decide +kernel
theorem dX3_markAgain_3 : decode cX3_markAgain 3 = .ok (.invokevirtual 51, 3) := by decide +kernel
theorem dX3_markAgain_6 : decode cX3_markAgain 6 = .ok (.istore_n 3, 1) := by decide +kernel
theorem dX3_markAgain_7 : decode cX3_markAgain 7 = .ok (.iload_n 1, 1) := by decide +kernel
theorem dX3_markAgain_8 : decode cX3_markAgain 8 = .ok (.istore 4, 2) := by decide +kernel
theorem dX3_markAgain_10 : decode cX3_markAgain 10 = .ok (.iload 4, 2) := by decide +kernel
theorem dX3_markAgain_12 : decode cX3_markAgain 12 = .ok (.iload_n 3, 1) := by decide +kernel
theorem dX3_markAgain_13 : decode cX3_markAgain 13 = .ok (.if_icmp .ge 36, 3) := by decide +kernel
theorem dX3_markAgain_16 : decode cX3_markAgain 16 = .ok (.aload_n 0, 1) := by decide +kernel
theorem dX3_markAgain_17 : decode cX3_markAgain 17 = .ok (.iload 4, 2) := by decide +kernel
theorem dX3_markAgain_19 : decode cX3_markAgain 19 = .ok (.invokevirtual 47, 3) := by decide +kernel
theorem dX3_markAgain_22 : decode cX3_markAgain 22 = .ok (.iconst 1, 1) := by decide +kernel
theorem dX3_markAgain_23 : decode cX3_markAgain 23 = .ok (.if_icmp .ne 20, 3) := by decide +kernel
theorem dX3_markAgain_26 : decode cX3_markAgain 26 = .ok (.aload_n 0, 1) := by decide +kernel
theorem dX3_markAgain_27 : decode cX3_markAgain 27 = .ok (.dup, 1) := by decide +kernel
theorem dX3_markAgain_28 : decode cX3_markAgain 28 = .ok (.getfield 54, 3) := by decide +kernel
theorem dX3_markAgain_31 : decode cX3_markAgain 31 = .ok (.iconst 1, 1) := by decide +kernel
theorem dX3_markAgain_32 : decode cX3_markAgain 32 = .ok (.iadd, 1) := by decide +kernel
theorem dX3_markAgain_33 : decode cX3_markAgain 33 = .ok (.putfield 54, 3) := by decide +kernel
theorem dX3_markAgain_36 : decode cX3_markAgain 36 = .ok (.aload_n 0, 1) := by decide +kernel
theorem dX3_markAgain_37 : decode cX3_markAgain 37 = .ok (.iload 4, 2) := by decide +kernel
theorem dX3_markAgain_39 : decode cX3_markAgain 39 = .ok (.iconst 2, 1) := by decide +kernel
theorem dX3_markAgain_40 : decode cX3_markAgain 40 = .ok (.invokevirtual 57, 3) := by decide +kernel
theorem dX3_markAgain_43 : decode cX3_markAgain 43 = .ok (.iinc 4 1, 3) := by decide +kernel
theorem dX3_markAgain_46 : decode cX3_markAgain 46 = .ok (.goto (-36), 3) := by decide +kernel
theorem dX3_markAgain_49 : decode cX3_markAgain 49 = .ok (.return_, 1) := by decide +kernel
theorem dX3_markCame_0 : decode cX3_markCame 0 = .ok (.aload_n 0, 1) := by decide +kernel
theorem dX3_markCame_1 : decode cX3_markCame 1 = .ok (.iload_n 1, 1) := by decide +kernel
theorem dX3_markCame_2 : decode cX3_markCame 2 = .ok (.iload_n 2, 1) := by decide +kernel
theorem dX3_markCame_3 : decode cX3_markCame 3 = .ok (.invokevirtual 51, 3) := by decide +kernel
theorem dX3_markCame_6 : decode cX3_markCame 6 = .ok (.istore_n 3, 1) := by decide +kernel
theorem dX3_markCame_7 : decode cX3_markCame 7 = .ok (.iload_n 1, 1) := by decide +kernel
theorem dX3_markCame_8 : decode cX3_markCame 8 = .ok (.istore 4, 2) := by decide +kernel
theorem dX3_markCame_10 : decode cX3_markCame 10 = .ok (.iload 4, 2) := by decide +kernel
theorem dX3_markCame_12 : decode cX3_markCame 12 = .ok (.iload_n 3, 1) := by decide +kernel
theorem dX3_markCame_13 : decode cX3_markCame 13 = .ok (.if_icmp .ge 48, 3) := by decide +kernel
theorem dX3_markCame_16 : decode cX3_markCame 16 = .ok (.aload_n 0, 1) := by decide +kernel
theorem dX3_markCame_17 : decode cX3_markCame 17 = .ok (.getfield 9, 3) := by decide +kernel
theorem dX3_markCame_20 : decode cX3_markCame 20 = .ok (.iload 4, 2) := by decide +kernel
theorem dX3_markCame_22 : decode cX3_markCame 22 = .ok (.baload, 1) := by decide +kernel
theorem dX3_markCame_23 : decode cX3_markCame 23 = .ok (.iconst 4, 1) := by decide +kernel
theorem dX3_markCame_24 : decode cX3_markCame 24 = .ok (.iand, 1) := by decide +kernel
theorem dX3_markCame_25 : decode cX3_markCame 25 = .ok (.ifCond .ne 30, 3) := by decide +kernel
theorem dX3_markCame_28 : decode cX3_markCame 28 = .ok (.aload_n 0, 1) := by decide +kernel
theorem dX3_markCame_29 : decode cX3_markCame 29 = .ok (.getfield 9, 3) := by decide +kernel
theorem dX3_markCame_32 : decode cX3_markCame 32 = .ok (.iload 4, 2) := by decide +kernel
theorem dX3_markCame_34 : decode cX3_markCame 34 = .ok (.aload_n 0, 1) := by decide +kernel
theorem dX3_markCame_35 : decode cX3_markCame 35 = .ok (.getfield 9, 3) := by decide +kernel
theorem dX3_markCame_38 : decode cX3_markCame 38 = .ok (.iload 4, 2) := by decide +kernel
theorem dX3_markCame_40 : decode cX3_markCame 40 = .ok (.baload, 1) := by decide +kernel
theorem dX3_markCame_41 : decode cX3_markCame 41 = .ok (.iconst 4, 1) := by decide +kernel
theorem dX3_markCame_42 : decode cX3_markCame 42 = .ok (.ior, 1) := by decide +kernel
theorem dX3_markCame_43 : decode cX3_markCame 43 = .ok (.i2b, 1) := by decide +kernel
theorem dX3_markCame_44 : decode cX3_markCame 44 = .ok (.bastore, 1) := by decide +kernel
theorem dX3_markCame_45 : decode cX3_markCame 45 = .ok (.aload_n 0, 1) := by decide +kernel
theorem dX3_markCame_46 : decode cX3_markCame 46 = .ok (.dup, 1) := by decide +kernel
theorem dX3_markCame_47 : decode cX3_markCame 47 = .ok (.getfield 67, 3) := by decide +kernel
theorem dX3_markCame_50 : decode cX3_markCame 50 = .ok (.iconst 1, 1) := by decide +kernel
theorem dX3_markCame_51 : decode cX3_markCame 51 = .ok (.iadd, 1) := by decide +kernel
theorem dX3_markCame_52 : decode cX3_markCame 52 = .ok (.putfield 67, 3) := by decide +kernel
theorem dX3_markCame_55 : decode cX3_markCame 55 = .ok (.iinc 4 1, 3) := by decide +kernel
theorem dX3_markCame_58 : decode cX3_markCame 58 = .ok (.goto (-48), 3) := by decide +kernel
theorem dX3_markCame_61 : decode cX3_markCame 61 = .ok (.aload_n 0, 1) := by decide +kernel
theorem dX3_markCame_62 : decode cX3_markCame 62 = .ok (.getfield 70, 3) := by decide +kernel
theorem dX3_markCame_65 : decode cX3_markCame 65 = .ok (.sipush 1000, 3) := by decide +kernel
theorem dX3_markCame_68 : decode cX3_markCame 68 = .ok (.if_icmp .ge 30, 3) := by decide +kernel
theorem dX3_markCame_71 : decode cX3_markCame 71 = .ok (.aload_n 0, 1) := by decide +kernel
theorem dX3_markCame_72 : decode cX3_markCame 72 = .ok (.getfield 9, 3) := by decide +kernel
theorem dX3_markCame_75 : decode cX3_markCame 75 = .ok (.aload_n 0, 1) := by decide +kernel
theorem dX3_markCame_76 : decode cX3_markCame 76 = .ok (.getfield 70, 3) := by decide +kernel
theorem dX3_markCame_79 : decode cX3_markCame 79 = .ok (.baload, 1) := by decide +kernel
theorem dX3_markCame_80 : decode cX3_markCame 80 = .ok (.iconst 4, 1) := by decide +kernel
theorem dX3_markCame_81 : decode cX3_markCame 81 = .ok (.iand, 1) := by decide +kernel
theorem dX3_markCame_82 : decode cX3_markCame 82 = .ok (.ifCond .eq 16, 3) := by decide +kernel
theorem dX3_markCame_85 : decode cX3_markCame 85 = .ok (.aload_n 0, 1) := by decide +kernel
theorem dX3_markCame_86 : decode cX3_markCame 86 = .ok (.dup, 1) := by decide +kernel
theorem dX3_markCame_87 : decode cX3_markCame 87 = .ok (.getfield 70, 3) := by decide +kernel
theorem dX3_markCame_90 : decode cX3_markCame 90 = .ok (.iconst 1, 1) := by decide +kernel
theorem dX3_markCame_91 : decode cX3_markCame 91 = .ok (.iadd, 1) := by decide +kernel
theorem dX3_markCame_92 : decode cX3_markCame 92 = .ok (.putfield 70, 3) := by decide +kernel
theorem dX3_markCame_95 : decode cX3_markCame 95 = .ok (.goto (-34), 3) := by decide +kernel
theorem dX3_markCame_98 : decode cX3_markCame 98 = .ok (.return_, 1) := by decide +kernel
theorem dX4_init_0 : decode cX4_init 0 = .ok (.aload_n 0, 1) := by decide +kernel
theorem dX4_init_1 : decode cX4_init 1 = .ok (.invokespecial 1, 3) := by decide +kernel
theorem dX4_init_4 : decode cX4_init 4 = .ok (.aload_n 0, 1) := by decide +kernel
theorem dX4_init_5 : decode cX4_init 5 = .ok (.sipush 200, 3) := by decide +kernel
theorem dX4_init_8 : decode cX4_init 8 = .ok (.putfield 7, 3) := by decide +kernel
theorem dX4_init_11 : decode cX4_init 11 = .ok (.aload_n 0, 1) := by decide +kernel
theorem dX4_init_12 : decode cX4_init 12 = .ok (.sipush 300, 3) := by decide +kernel
theorem dX4_init_15 : decode cX4_init 15 = .ok (.putfield 13, 3) := by decide +kernel
theorem dX4_init_18 : decode cX4_init 18 = .ok (.aload_n 0, 1) := by decide +kernel
theorem dX4_init_19 : decode cX4_init 19 = .ok (.sipush 600, 3) := by decide +kernel
theorem dX4_init_22 : decode cX4_init 22 = .ok (.putfield 16, 3) := by decide +kernel
theorem dX4_init_25 : decode cX4_init 25 = .ok (.aload_n 0, 1) := by decide +kernel
theorem dX4_init_26 : decode cX4_init 26 = .ok (.sipush 400, 3) := by decide +kernel
theorem dX4_init_29 : decode cX4_init 29 = .ok (.anewarray 19, 3) := by decide +kernel
theorem dX4_init_32 : decode cX4_init 32 = .ok (.putfield 21, 3) := by decide +kernel
theorem dX4_init_35 : decode cX4_init 35 = .ok (.aload_n 0, 1) := by decide +kernel
theorem dX4_init_36 : decode cX4_init 36 = .ok (.bipush 8, 2) := by decide +kernel
theorem dX4_init_38 : decode cX4_init 38 = .ok (.anewarray 25, 3) := by decide +kernel
theorem dX4_init_41 : decode cX4_init 41 = .ok (.putfield 27, 3) := by decide +kernel
theorem dX4_init_44 : decode cX4_init 44 = .ok (.iconst 0, 1) := by decide +kernel
theorem dX4_init_45 : decode cX4_init 45 = .ok (.istore_n 1, 1) := by decide +kernel
theorem dX4_init_46 : decode cX4_init 46 = .ok (.iload_n 1, 1) := by decide +kernel
theorem dX4_init_47 : decode cX4_init 47 = .ok (.bipush 8, 2) := by decide +kernel
theorem dX4_init_49 : decode cX4_init 49 = .ok (.if_icmp .ge 26, 3) := by decide +kernel
theorem dX4_init_52 : decode cX4_init 52 = .ok (.aload_n 0, 1) := by decide +kernel
theorem dX4_init_53 : decode cX4_init 53 = .ok (.getfield 27, 3) := by decide +kernel
theorem dX4_init_56 : decode cX4_init 56 = .ok (.iload_n 1, 1) := by decide +kernel
theorem dX4_init_57 : decode cX4_init 57 = .ok (.new 25, 3) := by decide +kernel
theorem dX4_init_60 : decode cX4_init 60 = .ok (.dup, 1) := by decide +kernel
theorem dX4_init_61 : decode cX4_init 61 = .ok (.aload_n 0, 1) := by decide +kernel
theorem dX4_init_62 : decode cX4_init 62 = .ok (.getfield 13, 3) := by decide +kernel
theorem dX4_init_65 : decode cX4_init 65 = .ok (.invokespecial 31, 3) := by decide +kernel
theorem dX4_init_68 : decode cX4_init 68 = .ok (.aastore, 1) := by decide +kernel
theorem dX4_init_69 : decode cX4_init 69 = .ok (.iinc 1 1, 3) := by decide +kernel
theorem dX4_init_72 : decode cX4_init 72 = .ok (.goto (-26), 3) := by decide +kernel
theorem dX4_init_75 : decode cX4_init 75 = .ok (.aload_n 0, 1) := by decide +kernel
theorem dX4_init_76 : decode cX4_init 76 = .ok (.iconst 2, 1) := by decide +kernel
theorem dX4_init_77 : decode cX4_init 77 = .ok (.anewarray 34, 3) := by decide +kernel
theorem dX4_init_80 : decode cX4_init 80 = .ok (.putfield 36, 3) := by decide +kernel
theorem dX4_init_83 : decode cX4_init 83 = .ok (.aload_n 0, 1) := by decide +kernel
theorem dX4_init_84 : decode cX4_init 84 = .ok (.getfield 36, 3) := by decide +kernel
theorem dX4_init_87 : decode cX4_init 87 = .ok (.iconst 0, 1) := by decide +kernel
theorem dX4_init_88 : decode cX4_init 88 = .ok (.new 34, 3) := by decide +kernel
theorem dX4_init_91 : decode cX4_init 91 = .ok (.dup, 1) := by decide +kernel
theorem dX4_init_92 : decode cX4_init 92 = .ok (.iconst 0, 1) := by decide +kernel
theorem dX4_init_93 : decode cX4_init 93 = .ok (.aload_n 0, 1) := by decide +kernel
theorem dX4_init_94 : decode cX4_init 94 = .ok (.getfield 7, 3) := by decide +kernel
theorem dX4_init_97 : decode cX4_init 97 = .ok (.aload_n 0, 1) := by decide +kernel
theorem dX4_init_98 : decode cX4_init 98 = .ok (.getfield 16, 3) := by decide +kernel
theorem dX4_init_101 : decode cX4_init 101 = .ok (.invokespecial 40, 3) := by decide +kernel
theorem dX4_init_104 : decode cX4_init 104 = .ok (.aastore, 1) := by decide +kernel
theorem dX4_init_105 : decode cX4_init 105 = .ok (.aload_n 0, 1) := by decide +kernel
theorem dX4_init_106 : decode cX4_init 106 = .ok (.getfield 36, 3) := by decide +kernel
theorem dX4_init_109 : decode cX4_init 109 = .ok (.iconst 1, 1) := by decide +kernel
theorem dX4_init_110 : decode cX4_init 110 = .ok (.new 34, 3) := by decide +kernel
theorem dX4_init_113 : decode cX4_init 113 = .ok (.dup, 1) := by decide +kernel
theorem dX4_init_114 : decode cX4_init 114 = .ok (.iconst 1, 1) := by decide +kernel
theorem dX4_init_115 : decode cX4_init 115 = .ok (.aload_n 0, 1) := by decide +kernel
theorem dX4_init_116 : decode cX4_init 116 = .ok (.getfield 7, 3) := by decide +kernel
theorem dX4_init_119 : decode cX4_init 119 = .ok (.aload_n 0, 1) := by decide +kernel
theorem dX4_init_120 : decode cX4_init 120 = .ok (.getfield 16, 3) := by decide +kernel
theorem dX4_init_123 : decode cX4_init 123 = .ok (.invokespecial 40, 3) := by decide +kernel
theorem dX4_init_126 : decode cX4_init 126 = .ok (.aastore, 1) := by decide +kernel
theorem dX4_init_127 : decode cX4_init 127 = .ok (.return_, 1) := by decide +kernel
theorem dX4_shape_0 : decode cX4_shape 0 = .ok (.iload_n 1, 1) := by decide +kernel
theorem dX4_shape_1 : decode cX4_shape 1 = .ok (.bipush 60, 2) := by decide +kernel
theorem dX4_shape_3 : decode cX4_shape 3 = .ok (.if_icmp .lt 36, 3) := by decide +kernel
theorem dX4_shape_6 : decode cX4_shape 6 = .ok (.iload_n 1, 1) := by decide +kernel
theorem dX4_shape_7 : decode cX4_shape 7 = .ok (.sipush 1000, 3) := by decide +kernel
theorem dX4_shape_10 : decode cX4_shape 10 = .ok (.if_icmp .gt 29, 3) := by decide +kernel
theorem dX4_shape_13 : decode cX4_shape 13 = .ok (.iload_n 2, 1) := by decide +kernel
theorem dX4_shape_14 : decode cX4_shape 14 = .ok (.bipush 50, 2) := by decide +kernel
theorem dX4_shape_16 : decode cX4_shape 16 = .ok (.if_icmp .lt 23, 3) := by decide +kernel
theorem dX4_shape_19 : decode cX4_shape 19 = .ok (.iload_n 2, 1) := by decide +kernel
theorem dX4_shape_20 : decode cX4_shape 20 = .ok (.sipush 1000, 3) := by decide +kernel
theorem dX4_shape_23 : decode cX4_shape 23 = .ok (.if_icmp .gt 16, 3) := by decide +kernel
theorem dX4_shape_26 : decode cX4_shape 26 = .ok (.iload_n 3, 1) := by decide +kernel
theorem dX4_shape_27 : decode cX4_shape 27 = .ok (.bipush 50, 2) := by decide +kernel
theorem dX4_shape_29 : decode cX4_shape 29 = .ok (.if_icmp .lt 10, 3) := by decide +kernel
theorem dX4_shape_32 : decode cX4_shape 32 = .ok (.iload_n 3, 1) := by decide +kernel
theorem dX4_shape_33 : decode cX4_shape 33 = .ok (.sipush 4000, 3) := by decide +kernel
theorem dX4_shape_36 : decode cX4_shape 36 = .ok (.if_icmp .le 6, 3) := by decide +kernel
theorem dX4_shape_39 : decode cX4_shape 39 = .ok (.bipush (-2), 2) := by decide +kernel
theorem dX4_shape_41 : decode cX4_shape 41 = .ok (.ireturn, 1) := by decide +kernel
theorem dX4_shape_42 : decode cX4_shape 42 = .ok (.aload_n 0, 1) := by decide +kernel
theorem dX4_shape_43 : decode cX4_shape 43 = .ok (.invokevirtual 43, 3) := by decide +kernel
theorem dX4_shape_46 : decode cX4_shape 46 = .ok (.ifCond .ne 6, 3) := by decide +kernel
theorem dX4_shape_49 : decode cX4_shape 49 = .ok (.bipush (-3), 2) := by decide +kernel
theorem dX4_shape_51 : decode cX4_shape 51 = .ok (.ireturn, 1) := by decide +kernel
theorem dX4_shape_52 : decode cX4_shape 52 = .ok (.aload_n 0, 1) := by decide +kernel
theorem dX4_shape_53 : decode cX4_shape 53 = .ok (.iload_n 1, 1) := by decide +kernel
theorem dX4_shape_54 : decode cX4_shape 54 = .ok (.putfield 7, 3) := by decide +kernel
theorem dX4_shape_57 : decode cX4_shape 57 = .ok (.aload_n 0, 1) := by decide +kernel
theorem dX4_shape_58 : decode cX4_shape 58 = .ok (.iload_n 2, 1) := by decide +kernel
theorem dX4_shape_59 : decode cX4_shape 59 = .ok (.putfield 13, 3) := by decide +kernel
theorem dX4_shape_62 : decode cX4_shape 62 = .ok (.aload_n 0, 1) := by decide +kernel
theorem dX4_shape_63 : decode cX4_shape 63 = .ok (.iload_n 3, 1) := by decide +kernel
theorem dX4_shape_64 : decode cX4_shape 64 = .ok (.putfield 16, 3) := by decide +kernel
theorem dX4_shape_67 : decode cX4_shape 67 = .ok (.iconst 0, 1) := by decide +kernel
theorem dX4_shape_68 : decode cX4_shape 68 = .ok (.istore 4, 2) := by decide +kernel
theorem dX4_shape_70 : decode cX4_shape 70 = .ok (.iload 4, 2) := by decide +kernel
theorem dX4_shape_72 : decode cX4_shape 72 = .ok (.bipush 8, 2) := by decide +kernel
theorem dX4_shape_74 : decode cX4_shape 74 = .ok (.if_icmp .ge 31, 3) := by decide +kernel
theorem dX4_shape_77 : decode cX4_shape 77 = .ok (.aload_n 0, 1) := by decide +kernel
theorem dX4_shape_78 : decode cX4_shape 78 = .ok (.getfield 27, 3) := by decide +kernel
theorem dX4_shape_81 : decode cX4_shape 81 = .ok (.iload 4, 2) := by decide +kernel
theorem dX4_shape_83 : decode cX4_shape 83 = .ok (.aaload, 1) := by decide +kernel
theorem dX4_shape_84 : decode cX4_shape 84 = .ok (.iload_n 2, 1) := by decide +kernel
theorem dX4_shape_85 : decode cX4_shape 85 = .ok (.putfield 47, 3) := by decide +kernel
theorem dX4_shape_88 : decode cX4_shape 88 = .ok (.aload_n 0, 1) := by decide +kernel
theorem dX4_shape_89 : decode cX4_shape 89 = .ok (.getfield 27, 3) := by decide +kernel
theorem dX4_shape_92 : decode cX4_shape 92 = .ok (.iload 4, 2) := by decide +kernel
theorem dX4_shape_94 : decode cX4_shape 94 = .ok (.aaload, 1) := by decide +kernel
theorem dX4_shape_95 : decode cX4_shape 95 = .ok (.iload_n 2, 1) := by decide +kernel
theorem dX4_shape_96 : decode cX4_shape 96 = .ok (.putfield 50, 3) := by decide +kernel
theorem dX4_shape_99 : decode cX4_shape 99 = .ok (.iinc 4 1, 3) := by decide +kernel
theorem dX4_shape_102 : decode cX4_shape 102 = .ok (.goto (-32), 3) := by decide +kernel
theorem dX4_shape_105 : decode cX4_shape 105 = .ok (.iconst 0, 1) := by decide +kernel
theorem dX4_shape_106 : decode cX4_shape 106 = .ok (.istore 4, 2) := by decide +kernel
theorem dX4_shape_108 : decode cX4_shape 108 = .ok (.iload 4, 2) := by decide +kernel
theorem dX4_shape_110 : decode cX4_shape 110 = .ok (.iconst 2, 1) := by decide +kernel
theorem dX4_shape_111 : decode cX4_shape 111 = .ok (.if_icmp .ge 48, 3) := by decide +kernel
theorem dX4_shape_114 : decode cX4_shape 114 = .ok (.aload_n 0, 1) := by decide +kernel
theorem dX4_shape_115 : decode cX4_shape 115 = .ok (.getfield 36, 3) := by decide +kernel
theorem dX4_shape_118 : decode cX4_shape 118 = .ok (.iload 4, 2) := by decide +kernel
theorem dX4_shape_120 : decode cX4_shape 120 = .ok (.aaload, 1) := by decide +kernel
theorem dX4_shape_121 : decode cX4_shape 121 = .ok (.getfield 53, 3) := by decide +kernel
theorem dX4_shape_124 : decode cX4_shape 124 = .ok (.bipush 10, 2) := by decide +kernel
theorem dX4_shape_126 : decode cX4_shape 126 = .ok (.iload_n 1, 1) := by decide +kernel
theorem dX4_shape_127 : decode cX4_shape 127 = .ok (.imul, 1) := by decide +kernel
theorem dX4_shape_128 : decode cX4_shape 128 = .ok (.putfield 57, 3) := by decide +kernel
theorem dX4_shape_131 : decode cX4_shape 131 = .ok (.aload_n 0, 1) := by decide +kernel
theorem dX4_shape_132 : decode cX4_shape 132 = .ok (.getfield 36, 3) := by decide +kernel
theorem dX4_shape_135 : decode cX4_shape 135 = .ok (.iload 4, 2) := by decide +kernel
theorem dX4_shape_137 : decode cX4_shape 137 = .ok (.aaload, 1) := by decide +kernel
theorem dX4_shape_138 : decode cX4_shape 138 = .ok (.iload_n 3, 1) := by decide +kernel
theorem dX4_shape_139 : decode cX4_shape 139 = .ok (.putfield 62, 3) := by decide +kernel
theorem dX4_shape_142 : decode cX4_shape 142 = .ok (.aload_n 0, 1) := by decide +kernel
theorem dX4_shape_143 : decode cX4_shape 143 = .ok (.getfield 36, 3) := by decide +kernel
theorem dX4_shape_146 : decode cX4_shape 146 = .ok (.iload 4, 2) := by decide +kernel
theorem dX4_shape_148 : decode cX4_shape 148 = .ok (.aaload, 1) := by decide +kernel
theorem dX4_shape_149 : decode cX4_shape 149 = .ok (.iload_n 3, 1) := by decide +kernel
theorem dX4_shape_150 : decode cX4_shape 150 = .ok (.putfield 65, 3) := by decide +kernel
theorem dX4_shape_153 : decode cX4_shape 153 = .ok (.iinc 4 1, 3) := by decide +kernel
theorem dX4_shape_156 : decode cX4_shape 156 = .ok (.goto (-48), 3) := by decide +kernel
theorem dX4_shape_159 : decode cX4_shape 159 = .ok (.iconst 1, 1) := by decide +kernel
theorem dX4_shape_160 : decode cX4_shape 160 = .ok (.ireturn, 1) := by decide +kernel
theorem dX4_write_0 : decode cX4_write 0 = .ok (.aload_n 0, 1) := by decide +kernel
theorem dX4_write_1 : decode cX4_write 1 = .ok (.iload_n 1, 1) := by decide +kernel
theorem dX4_write_2 : decode cX4_write 2 = .ok (.invokevirtual 68, 3) := by decide +kernel
theorem dX4_write_5 : decode cX4_write 5 = .ok (.astore_n 3, 1) := by decide +kernel
theorem dX4_write_6 : decode cX4_write 6 = .ok (.aload_n 3, 1) := by decide +kernel
theorem dX4_write_7 : decode cX4_write 7 = .ok (.ifnonnull 5, 3) := by decide +kernel
theorem dX4_write_10 : decode cX4_write 10 = .ok (.iconst (-1), 1) := by decide +kernel
theorem dX4_write_11 : decode cX4_write 11 = .ok (.ireturn, 1) := by decide +kernel
theorem dX4_write_12 : decode cX4_write 12 = .ok (.iload_n 2, 1) := by decide +kernel
theorem dX4_write_13 : decode cX4_write 13 = .ok (.iconst 1, 1) := by decide +kernel
theorem dX4_write_14 : decode cX4_write 14 = .ok (.if_icmp .lt 10, 3) := by decide +kernel
theorem dX4_write_17 : decode cX4_write 17 = .ok (.iload_n 2, 1) := by decide +kernel
theorem dX4_write_18 : decode cX4_write 18 = .ok (.sipush 1000, 3) := by decide +kernel
theorem dX4_write_21 : decode cX4_write 21 = .ok (.if_icmp .le 6, 3) := by decide +kernel
theorem dX4_write_24 : decode cX4_write 24 = .ok (.bipush (-2), 2) := by decide +kernel
theorem dX4_write_26 : decode cX4_write 26 = .ok (.ireturn, 1) := by decide +kernel
theorem dX4_write_27 : decode cX4_write 27 = .ok (.aload_n 3, 1) := by decide +kernel
theorem dX4_write_28 : decode cX4_write 28 = .ok (.getfield 72, 3) := by decide +kernel
theorem dX4_write_31 : decode cX4_write 31 = .ok (.ifCond .ne 10, 3) := by decide +kernel
theorem dX4_write_34 : decode cX4_write 34 = .ok (.aload_n 3, 1) := by decide +kernel
theorem dX4_write_35 : decode cX4_write 35 = .ok (.getfield 76, 3) := by decide +kernel
theorem dX4_write_38 : decode cX4_write 38 = .ok (.ifCond .eq 6, 3) := by decide +kernel
theorem dX4_write_41 : decode cX4_write 41 = .ok (.bipush (-3), 2) := by decide +kernel
theorem dX4_write_43 : decode cX4_write 43 = .ok (.ireturn, 1) := by decide +kernel
theorem dX4_write_44 : decode cX4_write 44 = .ok (.aload_n 3, 1) := by decide +kernel
theorem dX4_write_45 : decode cX4_write 45 = .ok (.getfield 79, 3) := by decide +kernel
theorem dX4_write_48 : decode cX4_write 48 = .ok (.iload_n 2, 1) := by decide +kernel
theorem dX4_write_49 : decode cX4_write 49 = .ok (.iadd, 1) := by decide +kernel
theorem dX4_write_50 : decode cX4_write 50 = .ok (.sipush 1000, 3) := by decide +kernel
theorem dX4_write_53 : decode cX4_write 53 = .ok (.if_icmp .le 6, 3) := by decide +kernel
theorem dX4_write_56 : decode cX4_write 56 = .ok (.bipush (-4), 2) := by decide +kernel
theorem dX4_write_58 : decode cX4_write 58 = .ok (.ireturn, 1) := by decide +kernel
theorem dX4_write_59 : decode cX4_write 59 = .ok (.aload_n 3, 1) := by decide +kernel
theorem dX4_write_60 : decode cX4_write 60 = .ok (.dup, 1) := by decide +kernel
theorem dX4_write_61 : decode cX4_write 61 = .ok (.getfield 79, 3) := by decide +kernel
theorem dX4_write_64 : decode cX4_write 64 = .ok (.iload_n 2, 1) := by decide +kernel
theorem dX4_write_65 : decode cX4_write 65 = .ok (.iadd, 1) := by decide +kernel
theorem dX4_write_66 : decode cX4_write 66 = .ok (.putfield 79, 3) := by decide +kernel
theorem dX4_write_69 : decode cX4_write 69 = .ok (.aload_n 3, 1) := by decide +kernel
theorem dX4_write_70 : decode cX4_write 70 = .ok (.getfield 79, 3) := by decide +kernel
theorem dX4_write_73 : decode cX4_write 73 = .ok (.ireturn, 1) := by decide +kernel
theorem dX4_end_0 : decode cX4_end 0 = .ok (.aload_n 0, 1) := by decide +kernel
theorem dX4_end_1 : decode cX4_end 1 = .ok (.iload_n 1, 1) := by decide +kernel
theorem dX4_end_2 : decode cX4_end 2 = .ok (.invokevirtual 68, 3) := by decide +kernel
theorem dX4_end_5 : decode cX4_end 5 = .ok (.astore_n 2, 1) := by decide +kernel
theorem dX4_end_6 : decode cX4_end 6 = .ok (.aload_n 2, 1) := by decide +kernel
theorem dX4_end_7 : decode cX4_end 7 = .ok (.ifnonnull 5, 3) := by decide +kernel
theorem dX4_end_10 : decode cX4_end 10 = .ok (.iconst (-1), 1) := by decide +kernel
theorem dX4_end_11 : decode cX4_end 11 = .ok (.ireturn, 1) := by decide +kernel
theorem dX4_end_12 : decode cX4_end 12 = .ok (.aload_n 2, 1) := by decide +kernel
theorem dX4_end_13 : decode cX4_end 13 = .ok (.getfield 72, 3) := by decide +kernel
theorem dX4_end_16 : decode cX4_end 16 = .ok (.ifCond .ne 10, 3) := by decide +kernel
theorem dX4_end_19 : decode cX4_end 19 = .ok (.aload_n 2, 1) := by decide +kernel
theorem dX4_end_20 : decode cX4_end 20 = .ok (.getfield 76, 3) := by decide +kernel
theorem dX4_end_23 : decode cX4_end 23 = .ok (.ifCond .eq 6, 3) := by decide +kernel
theorem dX4_end_26 : decode cX4_end 26 = .ok (.bipush (-3), 2) := by decide +kernel
theorem dX4_end_28 : decode cX4_end 28 = .ok (.ireturn, 1) := by decide +kernel
theorem dX4_end_29 : decode cX4_end 29 = .ok (.aload_n 2, 1) := by decide +kernel
theorem dX4_end_30 : decode cX4_end 30 = .ok (.iconst 1, 1) := by decide +kernel
theorem dX4_end_31 : decode cX4_end 31 = .ok (.putfield 72, 3) := by decide +kernel
theorem dX4_end_34 : decode cX4_end 34 = .ok (.iconst 1, 1) := by decide +kernel
theorem dX4_end_35 : decode cX4_end 35 = .ok (.ireturn, 1) := by decide +kernel
theorem dX4_cut_0 : decode cX4_cut 0 = .ok (.aload_n 0, 1) := by decide +kernel
theorem dX4_cut_1 : decode cX4_cut 1 = .ok (.iload_n 1, 1) := by decide +kernel
theorem dX4_cut_2 : decode cX4_cut 2 = .ok (.invokevirtual 68, 3) := by decide +kernel
theorem dX4_cut_5 : decode cX4_cut 5 = .ok (.astore_n 2, 1) := by decide +kernel
theorem dX4_cut_6 : decode cX4_cut 6 = .ok (.aload_n 2, 1) := by decide +kernel
theorem dX4_cut_7 : decode cX4_cut 7 = .ok (.ifnonnull 5, 3) := by decide +kernel
theorem dX4_cut_10 : decode cX4_cut 10 = .ok (.iconst (-1), 1) := by decide +kernel
theorem dX4_cut_11 : decode cX4_cut 11 = .ok (.ireturn, 1) := by decide +kernel
theorem dX4_cut_12 : decode cX4_cut 12 = .ok (.aload_n 2, 1) := by decide +kernel
theorem dX4_cut_13 : decode cX4_cut 13 = .ok (.getfield 76, 3) := by decide +kernel
theorem dX4_cut_16 : decode cX4_cut 16 = .ok (.ifCond .eq 6, 3) := by decide +kernel
theorem dX4_cut_19 : decode cX4_cut 19 = .ok (.bipush (-3), 2) := by decide +kernel
theorem dX4_cut_21 : decode cX4_cut 21 = .ok (.ireturn, 1) := by decide +kernel
theorem dX4_cut_22 : decode cX4_cut 22 = .ok (.aload_n 2, 1) := by decide +kernel
theorem dX4_cut_23 : decode cX4_cut 23 = .ok (.iconst 1, 1) := by decide +kernel
theorem dX4_cut_24 : decode cX4_cut 24 = .ok (.putfield 76, 3) := by decide +kernel
theorem dX4_cut_27 : decode cX4_cut 27 = .ok (.aload_n 2, 1) := by decide +kernel
theorem dX4_cut_28 : decode cX4_cut 28 = .ok (.iconst 1, 1) := by decide +kernel
theorem dX4_cut_29 : decode cX4_cut 29 = .ok (.putfield 82, 3) := by decide +kernel
theorem dX4_cut_32 : decode cX4_cut 32 = .ok (.iconst 1, 1) := by decide +kernel
theorem dX4_cut_33 : decode cX4_cut 33 = .ok (.ireturn, 1) := by decide +kernel
theorem dX4_read_0 : decode cX4_read 0 = .ok (.aload_n 0, 1) := by decide +kernel
theorem dX4_read_1 : decode cX4_read 1 = .ok (.iload_n 1, 1) := by decide +kernel
theorem dX4_read_2 : decode cX4_read 2 = .ok (.invokevirtual 68, 3) := by decide +kernel
theorem dX4_read_5 : decode cX4_read 5 = .ok (.astore_n 3, 1) := by decide +kernel
theorem dX4_read_6 : decode cX4_read 6 = .ok (.aload_n 3, 1) := by decide +kernel
theorem dX4_read_7 : decode cX4_read 7 = .ok (.ifnonnull 5, 3) := by decide +kernel
theorem dX4_read_10 : decode cX4_read 10 = .ok (.iconst (-1), 1) := by decide +kernel
theorem dX4_read_11 : decode cX4_read 11 = .ok (.ireturn, 1) := by decide +kernel
theorem dX4_read_12 : decode cX4_read 12 = .ok (.iload_n 2, 1) := by decide +kernel
theorem dX4_read_13 : decode cX4_read 13 = .ok (.iconst 1, 1) := by decide +kernel
theorem dX4_read_14 : decode cX4_read 14 = .ok (.if_icmp .lt 10, 3) := by decide +kernel
theorem dX4_read_17 : decode cX4_read 17 = .ok (.iload_n 2, 1) := by decide +kernel
theorem dX4_read_18 : decode cX4_read 18 = .ok (.sipush 1000, 3) := by decide +kernel
theorem dX4_read_21 : decode cX4_read 21 = .ok (.if_icmp .le 6, 3) := by decide +kernel
theorem dX4_read_24 : decode cX4_read 24 = .ok (.bipush (-2), 2) := by decide +kernel
theorem dX4_read_26 : decode cX4_read 26 = .ok (.ireturn, 1) := by decide +kernel
theorem dX4_read_27 : decode cX4_read 27 = .ok (.iload_n 2, 1) := by decide +kernel
theorem dX4_read_28 : decode cX4_read 28 = .ok (.aload_n 3, 1) := by decide +kernel
theorem dX4_read_29 : decode cX4_read 29 = .ok (.getfield 85, 3) := by decide +kernel
theorem dX4_read_32 : decode cX4_read 32 = .ok (.aload_n 3, 1) := by decide +kernel
theorem dX4_read_33 : decode cX4_read 33 = .ok (.getfield 88, 3) := by decide +kernel
theorem dX4_read_36 : decode cX4_read 36 = .ok (.isub, 1) := by decide +kernel
theorem dX4_read_37 : decode cX4_read 37 = .ok (.invokestatic 91, 3) := by decide +kernel
theorem dX4_read_40 : decode cX4_read 40 = .ok (.istore 4, 2) := by decide +kernel
theorem dX4_read_42 : decode cX4_read 42 = .ok (.aload_n 3, 1) := by decide +kernel
theorem dX4_read_43 : decode cX4_read 43 = .ok (.dup, 1) := by decide +kernel
theorem dX4_read_44 : decode cX4_read 44 = .ok (.getfield 88, 3) := by decide +kernel
theorem dX4_read_47 : decode cX4_read 47 = .ok (.iload 4, 2) := by decide +kernel
theorem dX4_read_49 : decode cX4_read 49 = .ok (.iadd, 1) := by decide +kernel
theorem dX4_read_50 : decode cX4_read 50 = .ok (.putfield 88, 3) := by decide +kernel
theorem dX4_read_53 : decode cX4_read 53 = .ok (.aload_n 3, 1) := by decide +kernel
theorem dX4_read_54 : decode cX4_read 54 = .ok (.getfield 88, 3) := by decide +kernel
theorem dX4_read_57 : decode cX4_read 57 = .ok (.aload_n 0, 1) := by decide +kernel
theorem dX4_read_58 : decode cX4_read 58 = .ok (.getfield 13, 3) := by decide +kernel
theorem dX4_read_61 : decode cX4_read 61 = .ok (.iadd, 1) := by decide +kernel
theorem dX4_read_62 : decode cX4_read 62 = .ok (.aload_n 3, 1) := by decide +kernel
theorem dX4_read_63 : decode cX4_read 63 = .ok (.getfield 50, 3) := by decide +kernel
theorem dX4_read_66 : decode cX4_read 66 = .ok (.isub, 1) := by decide +kernel
theorem dX4_read_67 : decode cX4_read 67 = .ok (.aload_n 0, 1) := by decide +kernel
theorem dX4_read_68 : decode cX4_read 68 = .ok (.getfield 13, 3) := by decide +kernel
theorem dX4_read_71 : decode cX4_read 71 = .ok (.iconst 2, 1) := by decide +kernel
theorem dX4_read_72 : decode cX4_read 72 = .ok (.idiv, 1) := by decide +kernel
theorem dX4_read_73 : decode cX4_read 73 = .ok (.if_icmp .lt 8, 3) := by decide +kernel
theorem dX4_read_76 : decode cX4_read 76 = .ok (.aload_n 3, 1) := by decide +kernel
theorem dX4_read_77 : decode cX4_read 77 = .ok (.iconst 1, 1) := by decide +kernel
theorem dX4_read_78 : decode cX4_read 78 = .ok (.putfield 97, 3) := by decide +kernel
theorem dX4_read_81 : decode cX4_read 81 = .ok (.aload_n 0, 1) := by decide +kernel
theorem dX4_read_82 : decode cX4_read 82 = .ok (.getfield 36, 3) := by decide +kernel
theorem dX4_read_85 : decode cX4_read 85 = .ok (.iconst 1, 1) := by decide +kernel
theorem dX4_read_86 : decode cX4_read 86 = .ok (.iload_n 1, 1) := by decide +kernel
theorem dX4_read_87 : decode cX4_read 87 = .ok (.iconst 2, 1) := by decide +kernel
theorem dX4_read_88 : decode cX4_read 88 = .ok (.irem, 1) := by decide +kernel
theorem dX4_read_89 : decode cX4_read 89 = .ok (.isub, 1) := by decide +kernel
theorem dX4_read_90 : decode cX4_read 90 = .ok (.aaload, 1) := by decide +kernel
theorem dX4_read_91 : decode cX4_read 91 = .ok (.astore 5, 2) := by decide +kernel
theorem dX4_read_93 : decode cX4_read 93 = .ok (.aload_n 0, 1) := by decide +kernel
theorem dX4_read_94 : decode cX4_read 94 = .ok (.aload 5, 2) := by decide +kernel
theorem dX4_read_96 : decode cX4_read 96 = .ok (.invokevirtual 100, 3) := by decide +kernel
theorem dX4_read_99 : decode cX4_read 99 = .ok (.aload_n 0, 1) := by decide +kernel
theorem dX4_read_100 : decode cX4_read 100 = .ok (.getfield 16, 3) := by decide +kernel
theorem dX4_read_103 : decode cX4_read 103 = .ok (.iadd, 1) := by decide +kernel
theorem dX4_read_104 : decode cX4_read 104 = .ok (.aload 5, 2) := by decide +kernel
theorem dX4_read_106 : decode cX4_read 106 = .ok (.getfield 65, 3) := by decide +kernel
theorem dX4_read_109 : decode cX4_read 109 = .ok (.isub, 1) := by decide +kernel
theorem dX4_read_110 : decode cX4_read 110 = .ok (.aload_n 0, 1) := by decide +kernel
theorem dX4_read_111 : decode cX4_read 111 = .ok (.getfield 16, 3) := by decide +kernel
theorem dX4_read_114 : decode cX4_read 114 = .ok (.iconst 2, 1) := by decide +kernel
theorem dX4_read_115 : decode cX4_read 115 = .ok (.idiv, 1) := by decide +kernel
theorem dX4_read_116 : decode cX4_read 116 = .ok (.if_icmp .lt 9, 3) := by decide +kernel
theorem dX4_read_119 : decode cX4_read 119 = .ok (.aload 5, 2) := by decide +kernel
theorem dX4_read_121 : decode cX4_read 121 = .ok (.iconst 1, 1) := by decide +kernel
theorem dX4_read_122 : decode cX4_read 122 = .ok (.putfield 104, 3) := by decide +kernel
theorem dX4_read_125 : decode cX4_read 125 = .ok (.iload 4, 2) := by decide +kernel
theorem dX4_read_127 : decode cX4_read 127 = .ok (.ireturn, 1) := by decide +kernel
theorem dX4_move_0 : decode cX4_move 0 = .ok (.aload_n 0, 1) := by decide +kernel
theorem dX4_move_1 : decode cX4_move 1 = .ok (.getfield 107, 3) := by decide +kernel
theorem dX4_move_4 : decode cX4_move 4 = .ok (.bipush 50, 2) := by decide +kernel
theorem dX4_move_6 : decode cX4_move 6 = .ok (.if_icmp .lt 6, 3) := by decide +kernel
theorem dX4_move_9 : decode cX4_move 9 = .ok (.bipush (-4), 2) := by decide +kernel
theorem dX4_move_11 : decode cX4_move 11 = .ok (.ireturn, 1) := by decide +kernel
theorem dX4_move_12 : decode cX4_move 12 = .ok (.aload_n 0, 1) := by decide +kernel
theorem dX4_move_13 : decode cX4_move 13 = .ok (.dup, 1) := by decide +kernel
theorem dX4_move_14 : decode cX4_move 14 = .ok (.getfield 107, 3) := by decide +kernel
theorem dX4_move_17 : decode cX4_move 17 = .ok (.iconst 1, 1) := by decide +kernel
theorem dX4_move_18 : decode cX4_move 18 = .ok (.iadd, 1) := by decide +kernel
theorem dX4_move_19 : decode cX4_move 19 = .ok (.putfield 107, 3) := by decide +kernel
theorem dX4_move_22 : decode cX4_move 22 = .ok (.aload_n 0, 1) := by decide +kernel
theorem dX4_move_23 : decode cX4_move 23 = .ok (.getfield 107, 3) := by decide +kernel
theorem dX4_move_26 : decode cX4_move 26 = .ok (.ireturn, 1) := by decide +kernel
theorem dX4_send_0 : decode cX4_send 0 = .ok (.aload_n 0, 1) := by decide +kernel
theorem dX4_send_1 : decode cX4_send 1 = .ok (.iload_n 1, 1) := by decide +kernel
theorem dX4_send_2 : decode cX4_send 2 = .ok (.invokevirtual 110, 3) := by decide +kernel
theorem dX4_send_5 : decode cX4_send 5 = .ok (.astore_n 2, 1) := by decide +kernel
theorem dX4_send_6 : decode cX4_send 6 = .ok (.aload_n 2, 1) := by decide +kernel
theorem dX4_send_7 : decode cX4_send 7 = .ok (.ifnonnull 5, 3) := by decide +kernel
theorem dX4_send_10 : decode cX4_send 10 = .ok (.iconst (-1), 1) := by decide +kernel
theorem dX4_send_11 : decode cX4_send 11 = .ok (.ireturn, 1) := by decide +kernel
theorem dX4_send_12 : decode cX4_send 12 = .ok (.aload_n 2, 1) := by decide +kernel
theorem dX4_send_13 : decode cX4_send 13 = .ok (.getfield 114, 3) := by decide +kernel
theorem dX4_send_16 : decode cX4_send 16 = .ok (.sipush 300, 3) := by decide +kernel
theorem dX4_send_19 : decode cX4_send 19 = .ok (.if_icmp .ge 13, 3) := by decide +kernel
theorem dX4_send_22 : decode cX4_send 22 = .ok (.aload_n 0, 1) := by decide +kernel
theorem dX4_send_23 : decode cX4_send 23 = .ok (.getfield 117, 3) := by decide +kernel
theorem dX4_send_26 : decode cX4_send 26 = .ok (.sipush 400, 3) := by decide +kernel
theorem dX4_send_29 : decode cX4_send 29 = .ok (.if_icmp .lt 6, 3) := by decide +kernel
theorem dX4_send_32 : decode cX4_send 32 = .ok (.bipush (-4), 2) := by decide +kernel
theorem dX4_send_34 : decode cX4_send 34 = .ok (.ireturn, 1) := by decide +kernel
theorem dX4_send_35 : decode cX4_send 35 = .ok (.iload_n 1, 1) := by decide +kernel
theorem dX4_send_36 : decode cX4_send 36 = .ok (.iconst 1, 1) := by decide +kernel
theorem dX4_send_37 : decode cX4_send 37 = .ok (.if_icmp .ne 31, 3) := by decide +kernel
theorem dX4_send_40 : decode cX4_send 40 = .ok (.aload_n 0, 1) := by decide +kernel
theorem dX4_send_41 : decode cX4_send 41 = .ok (.getfield 120, 3) := by decide +kernel
theorem dX4_send_44 : decode cX4_send 44 = .ok (.ifCond .eq 24, 3) := by decide +kernel
theorem dX4_send_47 : decode cX4_send 47 = .ok (.aload_n 0, 1) := by decide +kernel
theorem dX4_send_48 : decode cX4_send 48 = .ok (.getfield 123, 3) := by decide +kernel
theorem dX4_send_51 : decode cX4_send 51 = .ok (.aload_n 0, 1) := by decide +kernel
theorem dX4_send_52 : decode cX4_send 52 = .ok (.getfield 7, 3) := by decide +kernel
theorem dX4_send_55 : decode cX4_send 55 = .ok (.iadd, 1) := by decide +kernel
theorem dX4_send_56 : decode cX4_send 56 = .ok (.iconst 3, 1) := by decide +kernel
theorem dX4_send_57 : decode cX4_send 57 = .ok (.aload_n 0, 1) := by decide +kernel
theorem dX4_send_58 : decode cX4_send 58 = .ok (.getfield 126, 3) := by decide +kernel
theorem dX4_send_61 : decode cX4_send 61 = .ok (.imul, 1) := by decide +kernel
theorem dX4_send_62 : decode cX4_send 62 = .ok (.if_icmp .le 6, 3) := by decide +kernel
theorem dX4_send_65 : decode cX4_send 65 = .ok (.bipush (-5), 2) := by decide +kernel
theorem dX4_send_67 : decode cX4_send 67 = .ok (.ireturn, 1) := by decide +kernel
theorem dX4_send_68 : decode cX4_send 68 = .ok (.new 19, 3) := by decide +kernel
theorem dX4_send_71 : decode cX4_send 71 = .ok (.dup, 1) := by decide +kernel
theorem dX4_send_72 : decode cX4_send 72 = .ok (.iload_n 1, 1) := by decide +kernel
theorem dX4_send_73 : decode cX4_send 73 = .ok (.aload_n 2, 1) := by decide +kernel
theorem dX4_send_74 : decode cX4_send 74 = .ok (.getfield 114, 3) := by decide +kernel
theorem dX4_send_77 : decode cX4_send 77 = .ok (.aload_n 0, 1) := by decide +kernel
theorem dX4_send_78 : decode cX4_send 78 = .ok (.getfield 129, 3) := by decide +kernel
theorem dX4_send_81 : decode cX4_send 81 = .ok (.iload_n 1, 1) := by decide +kernel
theorem dX4_send_82 : decode cX4_send 82 = .ok (.ifCond .ne 10, 3) := by decide +kernel
theorem dX4_send_85 : decode cX4_send 85 = .ok (.aload_n 0, 1) := by decide +kernel
theorem dX4_send_86 : decode cX4_send 86 = .ok (.getfield 107, 3) := by decide +kernel
theorem dX4_send_89 : decode cX4_send 89 = .ok (.goto 7, 3) := by decide +kernel
theorem dX4_send_92 : decode cX4_send 92 = .ok (.aload_n 0, 1) := by decide +kernel
theorem dX4_send_93 : decode cX4_send 93 = .ok (.getfield 132, 3) := by decide +kernel
theorem dX4_send_96 : decode cX4_send 96 = .ok (.aload_n 0, 1) := by decide +kernel
theorem dX4_send_97 : decode cX4_send 97 = .ok (.getfield 7, 3) := by decide +kernel
theorem dX4_send_100 : decode cX4_send 100 = .ok (.invokespecial 135, 3) := by decide +kernel
theorem dX4_send_103 : decode cX4_send 103 = .ok (.astore_n 3, 1) := by decide +kernel
theorem dX4_send_104 : decode cX4_send 104 = .ok (.aload_n 0, 1) := by decide +kernel
theorem dX4_send_105 : decode cX4_send 105 = .ok (.aload_n 2, 1) := by decide +kernel
theorem dX4_send_106 : decode cX4_send 106 = .ok (.aload_n 3, 1) := by decide +kernel
theorem dX4_send_107 : decode cX4_send 107 = .ok (.invokevirtual 138, 3) := by decide +kernel
theorem dX4_send_110 : decode cX4_send 110 = .ok (.aload_n 3, 1) := by decide +kernel
theorem dX4_send_111 : decode cX4_send 111 = .ok (.getfield 142, 3) := by decide +kernel
theorem dX4_send_114 : decode cX4_send 114 = .ok (.ifCond .ne 6, 3) := by decide +kernel
theorem dX4_send_117 : decode cX4_send 117 = .ok (.bipush (-5), 2) := by decide +kernel
theorem dX4_send_119 : decode cX4_send 119 = .ok (.ireturn, 1) := by decide +kernel
theorem dX4_send_120 : decode cX4_send 120 = .ok (.aload_n 0, 1) := by decide +kernel
theorem dX4_send_121 : decode cX4_send 121 = .ok (.aload_n 2, 1) := by decide +kernel
theorem dX4_send_122 : decode cX4_send 122 = .ok (.aload_n 3, 1) := by decide +kernel
theorem dX4_send_123 : decode cX4_send 123 = .ok (.invokevirtual 145, 3) := by decide +kernel
theorem dX4_send_126 : decode cX4_send 126 = .ok (.aload_n 3, 1) := by decide +kernel
theorem dX4_send_127 : decode cX4_send 127 = .ok (.getfield 148, 3) := by decide +kernel
theorem dX4_send_130 : decode cX4_send 130 = .ok (.ireturn, 1) := by decide +kernel
theorem dX4_come_0 : decode cX4_come 0 = .ok (.aload_n 0, 1) := by decide +kernel
theorem dX4_come_1 : decode cX4_come 1 = .ok (.iload_n 1, 1) := by decide +kernel
theorem dX4_come_2 : decode cX4_come 2 = .ok (.invokevirtual 151, 3) := by decide +kernel
theorem dX4_come_5 : decode cX4_come 5 = .ok (.astore_n 2, 1) := by decide +kernel
theorem dX4_come_6 : decode cX4_come 6 = .ok (.aload_n 2, 1) := by decide +kernel
theorem dX4_come_7 : decode cX4_come 7 = .ok (.ifnonnull 5, 3) := by decide +kernel
theorem dX4_come_10 : decode cX4_come 10 = .ok (.iconst (-1), 1) := by decide +kernel
theorem dX4_come_11 : decode cX4_come 11 = .ok (.ireturn, 1) := by decide +kernel
theorem dX4_come_12 : decode cX4_come 12 = .ok (.aload_n 0, 1) := by decide +kernel
theorem dX4_come_13 : decode cX4_come 13 = .ok (.iload_n 1, 1) := by decide +kernel
theorem dX4_come_14 : decode cX4_come 14 = .ok (.invokevirtual 155, 3) := by decide +kernel
theorem dX4_come_17 : decode cX4_come 17 = .ok (.aload_n 2, 1) := by decide +kernel
theorem dX4_come_18 : decode cX4_come 18 = .ok (.getfield 158, 3) := by decide +kernel
theorem dX4_come_21 : decode cX4_come 21 = .ok (.iconst 1, 1) := by decide +kernel
theorem dX4_come_22 : decode cX4_come 22 = .ok (.if_icmp .ne 26, 3) := by decide +kernel
theorem dX4_come_25 : decode cX4_come 25 = .ok (.aload_n 2, 1) := by decide +kernel
theorem dX4_come_26 : decode cX4_come 26 = .ok (.getfield 161, 3) := by decide +kernel
theorem dX4_come_29 : decode cX4_come 29 = .ok (.aload_n 0, 1) := by decide +kernel
theorem dX4_come_30 : decode cX4_come 30 = .ok (.getfield 107, 3) := by decide +kernel
theorem dX4_come_33 : decode cX4_come 33 = .ok (.if_icmp .eq 15, 3) := by decide +kernel
theorem dX4_come_36 : decode cX4_come 36 = .ok (.aload_n 0, 1) := by decide +kernel
theorem dX4_come_37 : decode cX4_come 37 = .ok (.dup, 1) := by decide +kernel
theorem dX4_come_38 : decode cX4_come 38 = .ok (.getfield 162, 3) := by decide +kernel
theorem dX4_come_41 : decode cX4_come 41 = .ok (.iconst 1, 1) := by decide +kernel
theorem dX4_come_42 : decode cX4_come 42 = .ok (.iadd, 1) := by decide +kernel
theorem dX4_come_43 : decode cX4_come 43 = .ok (.putfield 162, 3) := by decide +kernel
theorem dX4_come_46 : decode cX4_come 46 = .ok (.iconst 2, 1) := by decide +kernel
theorem dX4_come_47 : decode cX4_come 47 = .ok (.ireturn, 1) := by decide +kernel
theorem dX4_come_48 : decode cX4_come 48 = .ok (.aload_n 0, 1) := by decide +kernel
theorem dX4_come_49 : decode cX4_come 49 = .ok (.getfield 36, 3) := by decide +kernel
theorem dX4_come_52 : decode cX4_come 52 = .ok (.aload_n 2, 1) := by decide +kernel
theorem dX4_come_53 : decode cX4_come 53 = .ok (.getfield 158, 3) := by decide +kernel
theorem dX4_come_56 : decode cX4_come 56 = .ok (.ifCond .ne 7, 3) := by decide +kernel
theorem dX4_come_59 : decode cX4_come 59 = .ok (.iconst 1, 1) := by decide +kernel
theorem dX4_come_60 : decode cX4_come 60 = .ok (.goto 4, 3) := by decide +kernel
theorem dX4_come_63 : decode cX4_come 63 = .ok (.iconst 0, 1) := by decide +kernel
theorem dX4_come_64 : decode cX4_come 64 = .ok (.aaload, 1) := by decide +kernel
theorem dX4_come_65 : decode cX4_come 65 = .ok (.astore_n 3, 1) := by decide +kernel
theorem dX4_come_66 : decode cX4_come 66 = .ok (.aload_n 2, 1) := by decide +kernel
theorem dX4_come_67 : decode cX4_come 67 = .ok (.getfield 165, 3) := by decide +kernel
theorem dX4_come_70 : decode cX4_come 70 = .ok (.ifCond .eq 8, 3) := by decide +kernel
theorem dX4_come_73 : decode cX4_come 73 = .ok (.aload_n 3, 1) := by decide +kernel
theorem dX4_come_74 : decode cX4_come 74 = .ok (.iconst 1, 1) := by decide +kernel
theorem dX4_come_75 : decode cX4_come 75 = .ok (.putfield 168, 3) := by decide +kernel
theorem dX4_come_78 : decode cX4_come 78 = .ok (.aload_n 2, 1) := by decide +kernel
theorem dX4_come_79 : decode cX4_come 79 = .ok (.getfield 171, 3) := by decide +kernel
theorem dX4_come_82 : decode cX4_come 82 = .ok (.ifCond .eq 5, 3) := by decide +kernel
theorem dX4_come_85 : decode cX4_come 85 = .ok (.iconst 0, 1) := by decide +kernel
theorem dX4_come_86 : decode cX4_come 86 = .ok (.ireturn, 1) := by decide +kernel
theorem dX4_come_87 : decode cX4_come 87 = .ok (.aload_n 2, 1) := by decide +kernel
theorem dX4_come_88 : decode cX4_come 88 = .ok (.iconst 1, 1) := by decide +kernel
theorem dX4_come_89 : decode cX4_come 89 = .ok (.putfield 171, 3) := by decide +kernel
theorem dX4_come_92 : decode cX4_come 92 = .ok (.aload_n 2, 1) := by decide +kernel
theorem dX4_come_93 : decode cX4_come 93 = .ok (.getfield 158, 3) := by decide +kernel
theorem dX4_come_96 : decode cX4_come 96 = .ok (.ifCond .ne 9, 3) := by decide +kernel
theorem dX4_come_99 : decode cX4_come 99 = .ok (.aload_n 0, 1) := by decide +kernel
theorem dX4_come_100 : decode cX4_come 100 = .ok (.aload_n 3, 1) := by decide +kernel
theorem dX4_come_101 : decode cX4_come 101 = .ok (.aload_n 2, 1) := by decide +kernel
theorem dX4_come_102 : decode cX4_come 102 = .ok (.invokevirtual 174, 3) := by decide +kernel
theorem dX4_come_105 : decode cX4_come 105 = .ok (.aload_n 3, 1) := by decide +kernel
theorem dX4_come_106 : decode cX4_come 106 = .ok (.aload_n 3, 1) := by decide +kernel
theorem dX4_come_107 : decode cX4_come 107 = .ok (.getfield 177, 3) := by decide +kernel
theorem dX4_come_110 : decode cX4_come 110 = .ok (.aload_n 2, 1) := by decide +kernel
theorem dX4_come_111 : decode cX4_come 111 = .ok (.getfield 148, 3) := by decide +kernel
theorem dX4_come_114 : decode cX4_come 114 = .ok (.invokestatic 180, 3) := by decide +kernel
theorem dX4_come_117 : decode cX4_come 117 = .ok (.putfield 177, 3) := by decide +kernel
theorem dX4_come_120 : decode cX4_come 120 = .ok (.aload_n 0, 1) := by decide +kernel
theorem dX4_come_121 : decode cX4_come 121 = .ok (.aload_n 3, 1) := by decide +kernel
theorem dX4_come_122 : decode cX4_come 122 = .ok (.aload_n 2, 1) := by decide +kernel
theorem dX4_come_123 : decode cX4_come 123 = .ok (.invokevirtual 183, 3) := by decide +kernel
theorem dX4_come_126 : decode cX4_come 126 = .ok (.iconst 1, 1) := by decide +kernel
theorem dX4_come_127 : decode cX4_come 127 = .ok (.ireturn, 1) := by decide +kernel
theorem dX4_drop_0 : decode cX4_drop 0 = .ok (.aload_n 0, 1) := by decide +kernel
theorem dX4_drop_1 : decode cX4_drop 1 = .ok (.iload_n 1, 1) := by decide +kernel
theorem dX4_drop_2 : decode cX4_drop 2 = .ok (.invokevirtual 151, 3) := by decide +kernel
theorem dX4_drop_5 : decode cX4_drop 5 = .ok (.ifnonnull 5, 3) := by decide +kernel
theorem dX4_drop_8 : decode cX4_drop 8 = .ok (.iconst (-1), 1) := by decide +kernel
theorem dX4_drop_9 : decode cX4_drop 9 = .ok (.ireturn, 1) := by decide +kernel
theorem dX4_drop_10 : decode cX4_drop 10 = .ok (.aload_n 0, 1) := by decide +kernel
theorem dX4_drop_11 : decode cX4_drop 11 = .ok (.iload_n 1, 1) := by decide +kernel
theorem dX4_drop_12 : decode cX4_drop 12 = .ok (.invokevirtual 155, 3) := by decide +kernel
theorem dX4_drop_15 : decode cX4_drop 15 = .ok (.aload_n 0, 1) := by decide +kernel
theorem dX4_drop_16 : decode cX4_drop 16 = .ok (.getfield 117, 3) := by decide +kernel
theorem dX4_drop_19 : decode cX4_drop 19 = .ok (.ireturn, 1) := by decide +kernel
theorem dX4_twice_0 : decode cX4_twice 0 = .ok (.aload_n 0, 1) := by decide +kernel
theorem dX4_twice_1 : decode cX4_twice 1 = .ok (.iload_n 1, 1) := by decide +kernel
theorem dX4_twice_2 : decode cX4_twice 2 = .ok (.invokevirtual 151, 3) := by decide +kernel
theorem dX4_twice_5 : decode cX4_twice 5 = .ok (.astore_n 2, 1) := by decide +kernel
theorem dX4_twice_6 : decode cX4_twice 6 = .ok (.aload_n 2, 1) := by decide +kernel
theorem dX4_twice_7 : decode cX4_twice 7 = .ok (.ifnonnull 5, 3) := by decide +kernel
theorem dX4_twice_10 : decode cX4_twice 10 = .ok (.iconst (-1), 1) := by decide +kernel
theorem dX4_twice_11 : decode cX4_twice 11 = .ok (.ireturn, 1) := by decide +kernel
theorem dX4_twice_12 : decode cX4_twice 12 = .ok (.aload_n 0, 1) := by decide +kernel
theorem dX4_twice_13 : decode cX4_twice 13 = .ok (.getfield 117, 3) := by decide +kernel
theorem dX4_twice_16 : decode cX4_twice 16 = .ok (.sipush 400, 3) := by decide +kernel
theorem dX4_twice_19 : decode cX4_twice 19 = .ok (.if_icmp .lt 6, 3) := by decide +kernel
theorem dX4_twice_22 : decode cX4_twice 22 = .ok (.bipush (-4), 2) := by decide +kernel
theorem dX4_twice_24 : decode cX4_twice 24 = .ok (.ireturn, 1) := by decide +kernel
theorem dX4_twice_25 : decode cX4_twice 25 = .ok (.aload_n 0, 1) := by decide +kernel
theorem dX4_twice_26 : decode cX4_twice 26 = .ok (.getfield 21, 3) := by decide +kernel
theorem dX4_twice_29 : decode cX4_twice 29 = .ok (.aload_n 0, 1) := by decide +kernel
theorem dX4_twice_30 : decode cX4_twice 30 = .ok (.getfield 117, 3) := by decide +kernel
theorem dX4_twice_33 : decode cX4_twice 33 = .ok (.aload_n 2, 1) := by decide +kernel
theorem dX4_twice_34 : decode cX4_twice 34 = .ok (.aastore, 1) := by decide +kernel
theorem dX4_twice_35 : decode cX4_twice 35 = .ok (.aload_n 0, 1) := by decide +kernel
theorem dX4_twice_36 : decode cX4_twice 36 = .ok (.dup, 1) := by decide +kernel
theorem dX4_twice_37 : decode cX4_twice 37 = .ok (.getfield 117, 3) := by decide +kernel
theorem dX4_twice_40 : decode cX4_twice 40 = .ok (.iconst 1, 1) := by decide +kernel
theorem dX4_twice_41 : decode cX4_twice 41 = .ok (.iadd, 1) := by decide +kernel
theorem dX4_twice_42 : decode cX4_twice 42 = .ok (.putfield 117, 3) := by decide +kernel
theorem dX4_twice_45 : decode cX4_twice 45 = .ok (.aload_n 0, 1) := by decide +kernel
theorem dX4_twice_46 : decode cX4_twice 46 = .ok (.getfield 117, 3) := by decide +kernel
theorem dX4_twice_49 : decode cX4_twice 49 = .ok (.ireturn, 1) := by decide +kernel
theorem dX4_tick_0 : decode cX4_tick 0 = .ok (.iload_n 1, 1) := by decide +kernel
theorem dX4_tick_1 : decode cX4_tick 1 = .ok (.iconst 1, 1) := by decide +kernel
theorem dX4_tick_2 : decode cX4_tick 2 = .ok (.if_icmp .lt 10, 3) := by decide +kernel
theorem dX4_tick_5 : decode cX4_tick 5 = .ok (.iload_n 1, 1) := by decide +kernel
theorem dX4_tick_6 : decode cX4_tick 6 = .ok (.sipush 1000, 3) := by decide +kernel
theorem dX4_tick_9 : decode cX4_tick 9 = .ok (.if_icmp .le 6, 3) := by decide +kernel
theorem dX4_tick_12 : decode cX4_tick 12 = .ok (.bipush (-2), 2) := by decide +kernel
theorem dX4_tick_14 : decode cX4_tick 14 = .ok (.ireturn, 1) := by decide +kernel
theorem dX4_tick_15 : decode cX4_tick 15 = .ok (.iconst 0, 1) := by decide +kernel
theorem dX4_tick_16 : decode cX4_tick 16 = .ok (.istore_n 2, 1) := by decide +kernel
theorem dX4_tick_17 : decode cX4_tick 17 = .ok (.iload_n 2, 1) := by decide +kernel
theorem dX4_tick_18 : decode cX4_tick 18 = .ok (.iload_n 1, 1) := by decide +kernel
theorem dX4_tick_19 : decode cX4_tick 19 = .ok (.if_icmp .ge 58, 3) := by decide +kernel
theorem dX4_tick_22 : decode cX4_tick 22 = .ok (.aload_n 0, 1) := by decide +kernel
theorem dX4_tick_23 : decode cX4_tick 23 = .ok (.dup, 1) := by decide +kernel
theorem dX4_tick_24 : decode cX4_tick 24 = .ok (.getfield 129, 3) := by decide +kernel
theorem dX4_tick_27 : decode cX4_tick 27 = .ok (.iconst 1, 1) := by decide +kernel
theorem dX4_tick_28 : decode cX4_tick 28 = .ok (.iadd, 1) := by decide +kernel
theorem dX4_tick_29 : decode cX4_tick 29 = .ok (.putfield 129, 3) := by decide +kernel
theorem dX4_tick_32 : decode cX4_tick 32 = .ok (.iconst 0, 1) := by decide +kernel
theorem dX4_tick_33 : decode cX4_tick 33 = .ok (.istore_n 3, 1) := by decide +kernel
theorem dX4_tick_34 : decode cX4_tick 34 = .ok (.iload_n 3, 1) := by decide +kernel
theorem dX4_tick_35 : decode cX4_tick 35 = .ok (.iconst 2, 1) := by decide +kernel
theorem dX4_tick_36 : decode cX4_tick 36 = .ok (.if_icmp .ge 35, 3) := by decide +kernel
theorem dX4_tick_39 : decode cX4_tick 39 = .ok (.aload_n 0, 1) := by decide +kernel
theorem dX4_tick_40 : decode cX4_tick 40 = .ok (.aload_n 0, 1) := by decide +kernel
theorem dX4_tick_41 : decode cX4_tick 41 = .ok (.getfield 36, 3) := by decide +kernel
theorem dX4_tick_44 : decode cX4_tick 44 = .ok (.iload_n 3, 1) := by decide +kernel
theorem dX4_tick_45 : decode cX4_tick 45 = .ok (.aaload, 1) := by decide +kernel
theorem dX4_tick_46 : decode cX4_tick 46 = .ok (.invokevirtual 186, 3) := by decide +kernel
theorem dX4_tick_49 : decode cX4_tick 49 = .ok (.aload_n 0, 1) := by decide +kernel
theorem dX4_tick_50 : decode cX4_tick 50 = .ok (.getfield 36, 3) := by decide +kernel
theorem dX4_tick_53 : decode cX4_tick 53 = .ok (.iload_n 3, 1) := by decide +kernel
theorem dX4_tick_54 : decode cX4_tick 54 = .ok (.aaload, 1) := by decide +kernel
theorem dX4_tick_55 : decode cX4_tick 55 = .ok (.getfield 53, 3) := by decide +kernel
theorem dX4_tick_58 : decode cX4_tick 58 = .ok (.aload_n 0, 1) := by decide +kernel
theorem dX4_tick_59 : decode cX4_tick 59 = .ok (.getfield 129, 3) := by decide +kernel
theorem dX4_tick_62 : decode cX4_tick 62 = .ok (.invokevirtual 190, 3) := by decide +kernel
theorem dX4_tick_65 : decode cX4_tick 65 = .ok (.iinc 3 1, 3) := by decide +kernel
theorem dX4_tick_68 : decode cX4_tick 68 = .ok (.goto (-34), 3) := by decide +kernel
theorem dX4_tick_71 : decode cX4_tick 71 = .ok (.iinc 2 1, 3) := by decide +kernel
theorem dX4_tick_74 : decode cX4_tick 74 = .ok (.goto (-57), 3) := by decide +kernel
theorem dX4_tick_77 : decode cX4_tick 77 = .ok (.aload_n 0, 1) := by decide +kernel
theorem dX4_tick_78 : decode cX4_tick 78 = .ok (.getfield 129, 3) := by decide +kernel
theorem dX4_tick_81 : decode cX4_tick 81 = .ok (.ireturn, 1) := by decide +kernel
theorem dX4_stream_0 : decode cX4_stream 0 = .ok (.aload_n 0, 1) := by decide +kernel
theorem dX4_stream_1 : decode cX4_stream 1 = .ok (.iload_n 1, 1) := by decide +kernel
theorem dX4_stream_2 : decode cX4_stream 2 = .ok (.invokevirtual 68, 3) := by decide +kernel
theorem dX4_stream_5 : decode cX4_stream 5 = .ok (.astore_n 3, 1) := by decide +kernel
theorem dX4_stream_6 : decode cX4_stream 6 = .ok (.aload_n 3, 1) := by decide +kernel
theorem dX4_stream_7 : decode cX4_stream 7 = .ok (.ifnonnull 5, 3) := by decide +kernel
theorem dX4_stream_10 : decode cX4_stream 10 = .ok (.iconst (-1), 1) := by decide +kernel
theorem dX4_stream_11 : decode cX4_stream 11 = .ok (.ireturn, 1) := by decide +kernel
theorem dX4_stream_12 : decode cX4_stream 12 = .ok (.iload_n 2, 1) := by decide +kernel
theorem dX4_stream_13 : decode cX4_stream 13 = .ok (.tableswitch 174 0 14 #[75, 80, 88, 96, 101, 106, 111, 116, 133, 138, 143, 148, 153, 161, 166], 75) := by decide +kernel
theorem dX4_stream_88 : decode cX4_stream 88 = .ok (.aload_n 3, 1) := by decide +kernel
theorem dX4_stream_89 : decode cX4_stream 89 = .ok (.getfield 79, 3) := by decide +kernel
theorem dX4_stream_92 : decode cX4_stream 92 = .ok (.ireturn, 1) := by decide +kernel
theorem dX4_stream_93 : decode cX4_stream 93 = .ok (.aload_n 3, 1) := by decide +kernel
theorem dX4_stream_94 : decode cX4_stream 94 = .ok (.getfield 72, 3) := by decide +kernel
theorem dX4_stream_97 : decode cX4_stream 97 = .ok (.invokestatic 193, 3) := by decide +kernel
theorem dX4_stream_100 : decode cX4_stream 100 = .ok (.ireturn, 1) := by decide +kernel
theorem dX4_stream_101 : decode cX4_stream 101 = .ok (.aload_n 3, 1) := by decide +kernel
theorem dX4_stream_102 : decode cX4_stream 102 = .ok (.getfield 76, 3) := by decide +kernel
theorem dX4_stream_105 : decode cX4_stream 105 = .ok (.invokestatic 193, 3) := by decide +kernel
theorem dX4_stream_108 : decode cX4_stream 108 = .ok (.ireturn, 1) := by decide +kernel
theorem dX4_stream_109 : decode cX4_stream 109 = .ok (.aload_n 3, 1) := by decide +kernel
theorem dX4_stream_110 : decode cX4_stream 110 = .ok (.getfield 197, 3) := by decide +kernel
theorem dX4_stream_113 : decode cX4_stream 113 = .ok (.ireturn, 1) := by decide +kernel
theorem dX4_stream_114 : decode cX4_stream 114 = .ok (.aload_n 3, 1) := by decide +kernel
theorem dX4_stream_115 : decode cX4_stream 115 = .ok (.getfield 200, 3) := by decide +kernel
theorem dX4_stream_118 : decode cX4_stream 118 = .ok (.ireturn, 1) := by decide +kernel
theorem dX4_stream_119 : decode cX4_stream 119 = .ok (.aload_n 3, 1) := by decide +kernel
theorem dX4_stream_120 : decode cX4_stream 120 = .ok (.getfield 203, 3) := by decide +kernel
theorem dX4_stream_123 : decode cX4_stream 123 = .ok (.ireturn, 1) := by decide +kernel
theorem dX4_stream_124 : decode cX4_stream 124 = .ok (.aload_n 3, 1) := by decide +kernel
theorem dX4_stream_125 : decode cX4_stream 125 = .ok (.getfield 47, 3) := by decide +kernel
theorem dX4_stream_128 : decode cX4_stream 128 = .ok (.ireturn, 1) := by decide +kernel
theorem dX4_stream_129 : decode cX4_stream 129 = .ok (.aload_n 3, 1) := by decide +kernel
theorem dX4_stream_130 : decode cX4_stream 130 = .ok (.getfield 206, 3) := by decide +kernel
theorem dX4_stream_133 : decode cX4_stream 133 = .ok (.iconst 3, 1) := by decide +kernel
theorem dX4_stream_134 : decode cX4_stream 134 = .ok (.if_icmp .ne 7, 3) := by decide +kernel
theorem dX4_stream_137 : decode cX4_stream 137 = .ok (.iconst 1, 1) := by decide +kernel
theorem dX4_stream_138 : decode cX4_stream 138 = .ok (.goto 4, 3) := by decide +kernel
theorem dX4_stream_141 : decode cX4_stream 141 = .ok (.iconst 0, 1) := by decide +kernel
theorem dX4_stream_142 : decode cX4_stream 142 = .ok (.invokestatic 193, 3) := by decide +kernel
theorem dX4_stream_145 : decode cX4_stream 145 = .ok (.ireturn, 1) := by decide +kernel
theorem dX4_stream_146 : decode cX4_stream 146 = .ok (.aload_n 3, 1) := by decide +kernel
theorem dX4_stream_147 : decode cX4_stream 147 = .ok (.getfield 209, 3) := by decide +kernel
theorem dX4_stream_150 : decode cX4_stream 150 = .ok (.ireturn, 1) := by decide +kernel
theorem dX4_stream_151 : decode cX4_stream 151 = .ok (.aload_n 3, 1) := by decide +kernel
theorem dX4_stream_152 : decode cX4_stream 152 = .ok (.getfield 85, 3) := by decide +kernel
theorem dX4_stream_155 : decode cX4_stream 155 = .ok (.ireturn, 1) := by decide +kernel
theorem dX4_stream_156 : decode cX4_stream 156 = .ok (.aload_n 3, 1) := by decide +kernel
theorem dX4_stream_157 : decode cX4_stream 157 = .ok (.getfield 88, 3) := by decide +kernel
theorem dX4_stream_160 : decode cX4_stream 160 = .ok (.ireturn, 1) := by decide +kernel
theorem dX4_stream_161 : decode cX4_stream 161 = .ok (.aload_n 3, 1) := by decide +kernel
theorem dX4_stream_162 : decode cX4_stream 162 = .ok (.getfield 50, 3) := by decide +kernel
theorem dX4_stream_165 : decode cX4_stream 165 = .ok (.ireturn, 1) := by decide +kernel
theorem dX4_stream_166 : decode cX4_stream 166 = .ok (.aload_n 3, 1) := by decide +kernel
theorem dX4_stream_167 : decode cX4_stream 167 = .ok (.getfield 97, 3) := by decide +kernel
theorem dX4_stream_170 : decode cX4_stream 170 = .ok (.invokestatic 193, 3) := by decide +kernel
theorem dX4_stream_173 : decode cX4_stream 173 = .ok (.ireturn, 1) := by decide +kernel
theorem dX4_stream_174 : decode cX4_stream 174 = .ok (.aload_n 3, 1) := by decide +kernel
theorem dX4_stream_175 : decode cX4_stream 175 = .ok (.getfield 211, 3) := by decide +kernel
theorem dX4_stream_178 : decode cX4_stream 178 = .ok (.ireturn, 1) := by decide +kernel
theorem dX4_stream_179 : decode cX4_stream 179 = .ok (.aload_n 3, 1) := by decide +kernel
theorem dX4_stream_180 : decode cX4_stream 180 = .ok (.getfield 214, 3) := by decide +kernel
theorem dX4_stream_183 : decode cX4_stream 183 = .ok (.invokestatic 193, 3) := by decide +kernel
theorem dX4_stream_186 : decode cX4_stream 186 = .ok (.ireturn, 1) := by decide +kernel
theorem dX4_stream_187 : decode cX4_stream 187 = .ok (.bipush (-2), 2) := by decide +kernel
theorem dX4_stream_189 : decode cX4_stream 189 = .ok (.ireturn, 1) := by decide +kernel
theorem dX4_state_0 : decode cX4_state 0 = .ok (.aload_n 0, 1) := by decide +kernel
theorem dX4_state_1 : decode cX4_state 1 = .ok (.iload_n 1, 1) := by decide +kernel
theorem dX4_state_2 : decode cX4_state 2 = .ok (.invokevirtual 68, 3) := by decide +kernel
theorem dX4_state_5 : decode cX4_state 5 = .ok (.astore_n 3, 1) := by decide +kernel
theorem dX4_state_6 : decode cX4_state 6 = .ok (.aload_n 3, 1) := by decide +kernel
theorem dX4_state_7 : decode cX4_state 7 = .ok (.ifnull 14, 3) := by decide +kernel
theorem dX4_state_10 : decode cX4_state 10 = .ok (.iload_n 2, 1) := by decide +kernel
theorem dX4_state_11 : decode cX4_state 11 = .ok (.ifCond .lt 10, 3) := by decide +kernel
theorem dX4_state_14 : decode cX4_state 14 = .ok (.iload_n 2, 1) := by decide +kernel
theorem dX4_state_15 : decode cX4_state 15 = .ok (.sipush 1000, 3) := by decide +kernel
theorem dX4_state_18 : decode cX4_state 18 = .ok (.if_icmp .lt 7, 3) := by decide +kernel
theorem dX4_state_21 : decode cX4_state 21 = .ok (.iconst (-1), 1) := by decide +kernel
theorem dX4_state_22 : decode cX4_state 22 = .ok (.goto 9, 3) := by decide +kernel
theorem dX4_state_25 : decode cX4_state 25 = .ok (.aload_n 3, 1) := by decide +kernel
theorem dX4_state_26 : decode cX4_state 26 = .ok (.getfield 217, 3) := by decide +kernel
theorem dX4_state_29 : decode cX4_state 29 = .ok (.iload_n 2, 1) := by decide +kernel
theorem dX4_state_30 : decode cX4_state 30 = .ok (.baload, 1) := by decide +kernel
theorem dX4_state_31 : decode cX4_state 31 = .ok (.ireturn, 1) := by decide +kernel
theorem dX4_side_0 : decode cX4_side 0 = .ok (.aload_n 0, 1) := by decide +kernel
theorem dX4_side_1 : decode cX4_side 1 = .ok (.iload_n 1, 1) := by decide +kernel
theorem dX4_side_2 : decode cX4_side 2 = .ok (.invokevirtual 110, 3) := by decide +kernel
theorem dX4_side_5 : decode cX4_side 5 = .ok (.astore_n 3, 1) := by decide +kernel
theorem dX4_side_6 : decode cX4_side 6 = .ok (.aload_n 3, 1) := by decide +kernel
theorem dX4_side_7 : decode cX4_side 7 = .ok (.ifnonnull 5, 3) := by decide +kernel
theorem dX4_side_10 : decode cX4_side 10 = .ok (.iconst (-1), 1) := by decide +kernel
theorem dX4_side_11 : decode cX4_side 11 = .ok (.ireturn, 1) := by decide +kernel
theorem dX4_side_12 : decode cX4_side 12 = .ok (.iload_n 2, 1) := by decide +kernel
theorem dX4_side_13 : decode cX4_side 13 = .ok (.tableswitch 205 0 16 #[83, 88, 96, 104, 112, 120, 128, 136, 144, 152, 163, 168, 173, 181, 186, 192, 200], 83) := by decide +kernel
theorem dX4_side_96 : decode cX4_side 96 = .ok (.aload_n 3, 1) := by decide +kernel
theorem dX4_side_97 : decode cX4_side 97 = .ok (.getfield 114, 3) := by decide +kernel
theorem dX4_side_100 : decode cX4_side 100 = .ok (.ireturn, 1) := by decide +kernel
theorem dX4_side_101 : decode cX4_side 101 = .ok (.aload_n 3, 1) := by decide +kernel
theorem dX4_side_102 : decode cX4_side 102 = .ok (.getfield 53, 3) := by decide +kernel
theorem dX4_side_105 : decode cX4_side 105 = .ok (.getfield 221, 3) := by decide +kernel
theorem dX4_side_108 : decode cX4_side 108 = .ok (.ireturn, 1) := by decide +kernel
theorem dX4_side_109 : decode cX4_side 109 = .ok (.aload_n 3, 1) := by decide +kernel
theorem dX4_side_110 : decode cX4_side 110 = .ok (.getfield 53, 3) := by decide +kernel
theorem dX4_side_113 : decode cX4_side 113 = .ok (.getfield 57, 3) := by decide +kernel
theorem dX4_side_116 : decode cX4_side 116 = .ok (.ireturn, 1) := by decide +kernel
theorem dX4_side_117 : decode cX4_side 117 = .ok (.aload_n 3, 1) := by decide +kernel
theorem dX4_side_118 : decode cX4_side 118 = .ok (.getfield 53, 3) := by decide +kernel
theorem dX4_side_121 : decode cX4_side 121 = .ok (.getfield 224, 3) := by decide +kernel
theorem dX4_side_124 : decode cX4_side 124 = .ok (.ireturn, 1) := by decide +kernel
theorem dX4_side_125 : decode cX4_side 125 = .ok (.aload_n 3, 1) := by decide +kernel
theorem dX4_side_126 : decode cX4_side 126 = .ok (.getfield 53, 3) := by decide +kernel
theorem dX4_side_129 : decode cX4_side 129 = .ok (.getfield 227, 3) := by decide +kernel
theorem dX4_side_132 : decode cX4_side 132 = .ok (.ireturn, 1) := by decide +kernel
theorem dX4_side_133 : decode cX4_side 133 = .ok (.aload_n 3, 1) := by decide +kernel
theorem dX4_side_134 : decode cX4_side 134 = .ok (.getfield 53, 3) := by decide +kernel
theorem dX4_side_137 : decode cX4_side 137 = .ok (.getfield 230, 3) := by decide +kernel
theorem dX4_side_140 : decode cX4_side 140 = .ok (.ireturn, 1) := by decide +kernel
theorem dX4_side_141 : decode cX4_side 141 = .ok (.aload_n 3, 1) := by decide +kernel
theorem dX4_side_142 : decode cX4_side 142 = .ok (.getfield 53, 3) := by decide +kernel
theorem dX4_side_145 : decode cX4_side 145 = .ok (.getfield 233, 3) := by decide +kernel
theorem dX4_side_148 : decode cX4_side 148 = .ok (.ireturn, 1) := by decide +kernel
theorem dX4_side_149 : decode cX4_side 149 = .ok (.aload_n 3, 1) := by decide +kernel
theorem dX4_side_150 : decode cX4_side 150 = .ok (.getfield 53, 3) := by decide +kernel
theorem dX4_side_153 : decode cX4_side 153 = .ok (.getfield 236, 3) := by decide +kernel
theorem dX4_side_156 : decode cX4_side 156 = .ok (.ireturn, 1) := by decide +kernel
theorem dX4_side_157 : decode cX4_side 157 = .ok (.aload_n 3, 1) := by decide +kernel
theorem dX4_side_158 : decode cX4_side 158 = .ok (.getfield 53, 3) := by decide +kernel
theorem dX4_side_161 : decode cX4_side 161 = .ok (.getfield 239, 3) := by decide +kernel
theorem dX4_side_164 : decode cX4_side 164 = .ok (.ireturn, 1) := by decide +kernel
theorem dX4_side_165 : decode cX4_side 165 = .ok (.aload_n 3, 1) := by decide +kernel
theorem dX4_side_166 : decode cX4_side 166 = .ok (.getfield 53, 3) := by decide +kernel
theorem dX4_side_169 : decode cX4_side 169 = .ok (.getfield 242, 3) := by decide +kernel
theorem dX4_side_172 : decode cX4_side 172 = .ok (.invokestatic 193, 3) := by decide +kernel
theorem dX4_side_175 : decode cX4_side 175 = .ok (.ireturn, 1) := by decide +kernel
theorem dX4_side_176 : decode cX4_side 176 = .ok (.aload_n 3, 1) := by decide +kernel
theorem dX4_side_177 : decode cX4_side 177 = .ok (.getfield 245, 3) := by decide +kernel
theorem dX4_side_180 : decode cX4_side 180 = .ok (.ireturn, 1) := by decide +kernel
theorem dX4_side_181 : decode cX4_side 181 = .ok (.aload_n 3, 1) := by decide +kernel
theorem dX4_side_182 : decode cX4_side 182 = .ok (.getfield 177, 3) := by decide +kernel
theorem dX4_side_185 : decode cX4_side 185 = .ok (.ireturn, 1) := by decide +kernel
theorem dX4_side_186 : decode cX4_side 186 = .ok (.aload_n 3, 1) := by decide +kernel
theorem dX4_side_187 : decode cX4_side 187 = .ok (.getfield 168, 3) := by decide +kernel
theorem dX4_side_190 : decode cX4_side 190 = .ok (.invokestatic 193, 3) := by decide +kernel
theorem dX4_side_193 : decode cX4_side 193 = .ok (.ireturn, 1) := by decide +kernel
theorem dX4_side_194 : decode cX4_side 194 = .ok (.aload_n 3, 1) := by decide +kernel
theorem dX4_side_195 : decode cX4_side 195 = .ok (.getfield 62, 3) := by decide +kernel
theorem dX4_side_198 : decode cX4_side 198 = .ok (.ireturn, 1) := by decide +kernel
theorem dX4_side_199 : decode cX4_side 199 = .ok (.aload_n 0, 1) := by decide +kernel
theorem dX4_side_200 : decode cX4_side 200 = .ok (.aload_n 3, 1) := by decide +kernel
theorem dX4_side_201 : decode cX4_side 201 = .ok (.invokevirtual 248, 3) := by decide +kernel
theorem dX4_side_204 : decode cX4_side 204 = .ok (.ireturn, 1) := by decide +kernel
theorem dX4_side_205 : decode cX4_side 205 = .ok (.aload_n 3, 1) := by decide +kernel
theorem dX4_side_206 : decode cX4_side 206 = .ok (.getfield 104, 3) := by decide +kernel
theorem dX4_side_209 : decode cX4_side 209 = .ok (.invokestatic 193, 3) := by decide +kernel
theorem dX4_side_212 : decode cX4_side 212 = .ok (.ireturn, 1) := by decide +kernel
theorem dX4_side_213 : decode cX4_side 213 = .ok (.aload_n 3, 1) := by decide +kernel
theorem dX4_side_214 : decode cX4_side 214 = .ok (.getfield 65, 3) := by decide +kernel
theorem dX4_side_217 : decode cX4_side 217 = .ok (.ireturn, 1) := by decide +kernel
theorem dX4_side_218 : decode cX4_side 218 = .ok (.bipush (-2), 2) := by decide +kernel
theorem dX4_side_220 : decode cX4_side 220 = .ok (.ireturn, 1) := by decide +kernel
theorem dX4_packet_0 : decode cX4_packet 0 = .ok (.aload_n 0, 1) := by decide +kernel
theorem dX4_packet_1 : decode cX4_packet 1 = .ok (.iload_n 1, 1) := by decide +kernel
theorem dX4_packet_2 : decode cX4_packet 2 = .ok (.iload_n 2, 1) := by decide +kernel
theorem dX4_packet_3 : decode cX4_packet 3 = .ok (.invokevirtual 251, 3) := by decide +kernel
theorem dX4_packet_6 : decode cX4_packet 6 = .ok (.astore 4, 2) := by decide +kernel
theorem dX4_packet_8 : decode cX4_packet 8 = .ok (.aload 4, 2) := by decide +kernel
theorem dX4_packet_10 : decode cX4_packet 10 = .ok (.ifnonnull 5, 3) := by decide +kernel
theorem dX4_packet_13 : decode cX4_packet 13 = .ok (.iconst (-1), 1) := by decide +kernel
theorem dX4_packet_14 : decode cX4_packet 14 = .ok (.ireturn, 1) := by decide +kernel
theorem dX4_packet_15 : decode cX4_packet 15 = .ok (.iload_n 3, 1) := by decide +kernel
theorem dX4_packet_16 : decode cX4_packet 16 = .ok (.tableswitch 108 0 7 #[48, 54, 60, 66, 72, 81, 90, 99], 48) := by decide +kernel
theorem dX4_packet_64 : decode cX4_packet 64 = .ok (.aload 4, 2) := by decide +kernel
theorem dX4_packet_66 : decode cX4_packet 66 = .ok (.getfield 255, 3) := by decide +kernel
theorem dX4_packet_69 : decode cX4_packet 69 = .ok (.ireturn, 1) := by decide +kernel
theorem dX4_packet_70 : decode cX4_packet 70 = .ok (.aload 4, 2) := by decide +kernel
theorem dX4_packet_72 : decode cX4_packet 72 = .ok (.getfield 161, 3) := by decide +kernel
theorem dX4_packet_75 : decode cX4_packet 75 = .ok (.ireturn, 1) := by decide +kernel
theorem dX4_packet_76 : decode cX4_packet 76 = .ok (.aload 4, 2) := by decide +kernel
theorem dX4_packet_78 : decode cX4_packet 78 = .ok (.getfield 256, 3) := by decide +kernel
theorem dX4_packet_81 : decode cX4_packet 81 = .ok (.ireturn, 1) := by decide +kernel
theorem dX4_packet_82 : decode cX4_packet 82 = .ok (.aload 4, 2) := by decide +kernel
theorem dX4_packet_84 : decode cX4_packet 84 = .ok (.getfield 142, 3) := by decide +kernel
theorem dX4_packet_87 : decode cX4_packet 87 = .ok (.ireturn, 1) := by decide +kernel
theorem dX4_packet_88 : decode cX4_packet 88 = .ok (.aload 4, 2) := by decide +kernel
theorem dX4_packet_90 : decode cX4_packet 90 = .ok (.getfield 165, 3) := by decide +kernel
theorem dX4_packet_93 : decode cX4_packet 93 = .ok (.invokestatic 193, 3) := by decide +kernel
theorem dX4_packet_96 : decode cX4_packet 96 = .ok (.ireturn, 1) := by decide +kernel
theorem dX4_packet_97 : decode cX4_packet 97 = .ok (.aload 4, 2) := by decide +kernel
theorem dX4_packet_99 : decode cX4_packet 99 = .ok (.getfield 259, 3) := by decide +kernel
theorem dX4_packet_102 : decode cX4_packet 102 = .ok (.invokestatic 193, 3) := by decide +kernel
theorem dX4_packet_105 : decode cX4_packet 105 = .ok (.ireturn, 1) := by decide +kernel
theorem dX4_packet_106 : decode cX4_packet 106 = .ok (.aload 4, 2) := by decide +kernel
theorem dX4_packet_108 : decode cX4_packet 108 = .ok (.getfield 262, 3) := by decide +kernel
theorem dX4_packet_111 : decode cX4_packet 111 = .ok (.invokestatic 193, 3) := by decide +kernel
theorem dX4_packet_114 : decode cX4_packet 114 = .ok (.ireturn, 1) := by decide +kernel
theorem dX4_packet_115 : decode cX4_packet 115 = .ok (.aload 4, 2) := by decide +kernel
theorem dX4_packet_117 : decode cX4_packet 117 = .ok (.getfield 171, 3) := by decide +kernel
theorem dX4_packet_120 : decode cX4_packet 120 = .ok (.invokestatic 193, 3) := by decide +kernel
theorem dX4_packet_123 : decode cX4_packet 123 = .ok (.ireturn, 1) := by decide +kernel
theorem dX4_packet_124 : decode cX4_packet 124 = .ok (.bipush (-2), 2) := by decide +kernel
theorem dX4_packet_126 : decode cX4_packet 126 = .ok (.ireturn, 1) := by decide +kernel
theorem dX4_part_0 : decode cX4_part 0 = .ok (.aload_n 0, 1) := by decide +kernel
theorem dX4_part_1 : decode cX4_part 1 = .ok (.iload_n 1, 1) := by decide +kernel
theorem dX4_part_2 : decode cX4_part 2 = .ok (.iload_n 2, 1) := by decide +kernel
theorem dX4_part_3 : decode cX4_part 3 = .ok (.invokevirtual 251, 3) := by decide +kernel
theorem dX4_part_6 : decode cX4_part 6 = .ok (.astore 5, 2) := by decide +kernel
theorem dX4_part_8 : decode cX4_part 8 = .ok (.aload 5, 2) := by decide +kernel
theorem dX4_part_10 : decode cX4_part 10 = .ok (.ifnull 16, 3) := by decide +kernel
theorem dX4_part_13 : decode cX4_part 13 = .ok (.iload_n 3, 1) := by decide +kernel
theorem dX4_part_14 : decode cX4_part 14 = .ok (.ifCond .lt 12, 3) := by decide +kernel
theorem dX4_part_17 : decode cX4_part 17 = .ok (.iload_n 3, 1) := by decide +kernel
theorem dX4_part_18 : decode cX4_part 18 = .ok (.aload 5, 2) := by decide +kernel
theorem dX4_part_20 : decode cX4_part 20 = .ok (.getfield 142, 3) := by decide +kernel
theorem dX4_part_23 : decode cX4_part 23 = .ok (.if_icmp .lt 5, 3) := by decide +kernel
theorem dX4_part_26 : decode cX4_part 26 = .ok (.iconst (-1), 1) := by decide +kernel
theorem dX4_part_27 : decode cX4_part 27 = .ok (.ireturn, 1) := by decide +kernel
theorem dX4_part_28 : decode cX4_part 28 = .ok (.iload 4, 2) := by decide +kernel
theorem dX4_part_30 : decode cX4_part 30 = .ok (.ifCond .lt 10, 3) := by decide +kernel
theorem dX4_part_33 : decode cX4_part 33 = .ok (.iload 4, 2) := by decide +kernel
theorem dX4_part_35 : decode cX4_part 35 = .ok (.bipush 11, 2) := by decide +kernel
theorem dX4_part_37 : decode cX4_part 37 = .ok (.if_icmp .le 6, 3) := by decide +kernel
theorem dX4_part_40 : decode cX4_part 40 = .ok (.bipush (-2), 2) := by decide +kernel
theorem dX4_part_42 : decode cX4_part 42 = .ok (.ireturn, 1) := by decide +kernel
theorem dX4_part_43 : decode cX4_part 43 = .ok (.iload 4, 2) := by decide +kernel
theorem dX4_part_45 : decode cX4_part 45 = .ok (.iconst 4, 1) := by decide +kernel
theorem dX4_part_46 : decode cX4_part 46 = .ok (.if_icmp .ge 12, 3) := by decide +kernel
theorem dX4_part_49 : decode cX4_part 49 = .ok (.aload 5, 2) := by decide +kernel
theorem dX4_part_51 : decode cX4_part 51 = .ok (.iload_n 3, 1) := by decide +kernel
theorem dX4_part_52 : decode cX4_part 52 = .ok (.iload 4, 2) := by decide +kernel
theorem dX4_part_54 : decode cX4_part 54 = .ok (.invokevirtual 265, 3) := by decide +kernel
theorem dX4_part_57 : decode cX4_part 57 = .ok (.ireturn, 1) := by decide +kernel
theorem dX4_part_58 : decode cX4_part 58 = .ok (.aload 5, 2) := by decide +kernel
theorem dX4_part_60 : decode cX4_part 60 = .ok (.iload_n 3, 1) := by decide +kernel
theorem dX4_part_61 : decode cX4_part 61 = .ok (.iconst 0, 1) := by decide +kernel
theorem dX4_part_62 : decode cX4_part 62 = .ok (.invokevirtual 265, 3) := by decide +kernel
theorem dX4_part_65 : decode cX4_part 65 = .ok (.iconst 1, 1) := by decide +kernel
theorem dX4_part_66 : decode cX4_part 66 = .ok (.if_icmp .ne 16, 3) := by decide +kernel
theorem dX4_part_69 : decode cX4_part 69 = .ok (.aload 5, 2) := by decide +kernel
theorem dX4_part_71 : decode cX4_part 71 = .ok (.getfield 268, 3) := by decide +kernel
theorem dX4_part_74 : decode cX4_part 74 = .ok (.iload 4, 2) := by decide +kernel
theorem dX4_part_76 : decode cX4_part 76 = .ok (.iconst 4, 1) := by decide +kernel
theorem dX4_part_77 : decode cX4_part 77 = .ok (.isub, 1) := by decide +kernel
theorem dX4_part_78 : decode cX4_part 78 = .ok (.iaload, 1) := by decide +kernel
theorem dX4_part_79 : decode cX4_part 79 = .ok (.goto 5, 3) := by decide +kernel
theorem dX4_part_82 : decode cX4_part 82 = .ok (.bipush (-6), 2) := by decide +kernel
theorem dX4_part_84 : decode cX4_part 84 = .ok (.ireturn, 1) := by decide +kernel
theorem dX4_net_0 : decode cX4_net 0 = .ok (.aload_n 0, 1) := by decide +kernel
theorem dX4_net_1 : decode cX4_net 1 = .ok (.iload_n 1, 1) := by decide +kernel
theorem dX4_net_2 : decode cX4_net 2 = .ok (.invokevirtual 151, 3) := by decide +kernel
theorem dX4_net_5 : decode cX4_net 5 = .ok (.astore_n 3, 1) := by decide +kernel
theorem dX4_net_6 : decode cX4_net 6 = .ok (.aload_n 3, 1) := by decide +kernel
theorem dX4_net_7 : decode cX4_net 7 = .ok (.ifnonnull 5, 3) := by decide +kernel
theorem dX4_net_10 : decode cX4_net 10 = .ok (.iconst (-1), 1) := by decide +kernel
theorem dX4_net_11 : decode cX4_net 11 = .ok (.ireturn, 1) := by decide +kernel
theorem dX4_net_12 : decode cX4_net 12 = .ok (.iload_n 2, 1) := by decide +kernel
theorem dX4_net_13 : decode cX4_net 13 = .ok (.lookupswitch 37 #[(0, 27), (1, 32)], 27) := by decide +kernel
theorem dX4_net_40 : decode cX4_net 40 = .ok (.aload_n 3, 1) := by decide +kernel
theorem dX4_net_41 : decode cX4_net 41 = .ok (.getfield 158, 3) := by decide +kernel
theorem dX4_net_44 : decode cX4_net 44 = .ok (.ireturn, 1) := by decide +kernel
theorem dX4_net_45 : decode cX4_net 45 = .ok (.aload_n 3, 1) := by decide +kernel
theorem dX4_net_46 : decode cX4_net 46 = .ok (.getfield 148, 3) := by decide +kernel
theorem dX4_net_49 : decode cX4_net 49 = .ok (.ireturn, 1) := by decide +kernel
theorem dX4_net_50 : decode cX4_net 50 = .ok (.bipush (-2), 2) := by decide +kernel
theorem dX4_net_52 : decode cX4_net 52 = .ok (.ireturn, 1) := by decide +kernel
theorem dX4_told_0 : decode cX4_told 0 = .ok (.iload_n 1, 1) := by decide +kernel
theorem dX4_told_1 : decode cX4_told 1 = .ok (.tableswitch 90 0 7 #[47, 52, 57, 62, 67, 75, 80, 85], 47) := by decide +kernel
theorem dX4_told_48 : decode cX4_told 48 = .ok (.aload_n 0, 1) := by decide +kernel
theorem dX4_told_49 : decode cX4_told 49 = .ok (.getfield 129, 3) := by decide +kernel
theorem dX4_told_52 : decode cX4_told 52 = .ok (.ireturn, 1) := by decide +kernel
theorem dX4_told_53 : decode cX4_told 53 = .ok (.aload_n 0, 1) := by decide +kernel
theorem dX4_told_54 : decode cX4_told 54 = .ok (.getfield 117, 3) := by decide +kernel
theorem dX4_told_57 : decode cX4_told 57 = .ok (.ireturn, 1) := by decide +kernel
theorem dX4_told_58 : decode cX4_told 58 = .ok (.aload_n 0, 1) := by decide +kernel
theorem dX4_told_59 : decode cX4_told 59 = .ok (.getfield 107, 3) := by decide +kernel
theorem dX4_told_62 : decode cX4_told 62 = .ok (.ireturn, 1) := by decide +kernel
theorem dX4_told_63 : decode cX4_told 63 = .ok (.aload_n 0, 1) := by decide +kernel
theorem dX4_told_64 : decode cX4_told 64 = .ok (.getfield 132, 3) := by decide +kernel
theorem dX4_told_67 : decode cX4_told 67 = .ok (.ireturn, 1) := by decide +kernel
theorem dX4_told_68 : decode cX4_told 68 = .ok (.aload_n 0, 1) := by decide +kernel
theorem dX4_told_69 : decode cX4_told 69 = .ok (.getfield 120, 3) := by decide +kernel
theorem dX4_told_72 : decode cX4_told 72 = .ok (.invokestatic 193, 3) := by decide +kernel
theorem dX4_told_75 : decode cX4_told 75 = .ok (.ireturn, 1) := by decide +kernel
theorem dX4_told_76 : decode cX4_told 76 = .ok (.aload_n 0, 1) := by decide +kernel
theorem dX4_told_77 : decode cX4_told 77 = .ok (.getfield 126, 3) := by decide +kernel
theorem dX4_told_80 : decode cX4_told 80 = .ok (.ireturn, 1) := by decide +kernel
theorem dX4_told_81 : decode cX4_told 81 = .ok (.aload_n 0, 1) := by decide +kernel
theorem dX4_told_82 : decode cX4_told 82 = .ok (.getfield 123, 3) := by decide +kernel
theorem dX4_told_85 : decode cX4_told 85 = .ok (.ireturn, 1) := by decide +kernel
theorem dX4_told_86 : decode cX4_told 86 = .ok (.aload_n 0, 1) := by decide +kernel
theorem dX4_told_87 : decode cX4_told 87 = .ok (.getfield 162, 3) := by decide +kernel
theorem dX4_told_90 : decode cX4_told 90 = .ok (.ireturn, 1) := by decide +kernel
theorem dX4_told_91 : decode cX4_told 91 = .ok (.bipush (-2), 2) := by decide +kernel
theorem dX4_told_93 : decode cX4_told 93 = .ok (.ireturn, 1) := by decide +kernel
theorem dX4_flag_0 : decode cX4_flag 0 = .ok (.iload_n 0, 1) := by decide +kernel
theorem dX4_flag_1 : decode cX4_flag 1 = .ok (.ifCond .eq 7, 3) := by decide +kernel
theorem dX4_flag_4 : decode cX4_flag 4 = .ok (.iconst 1, 1) := by decide +kernel
theorem dX4_flag_5 : decode cX4_flag 5 = .ok (.goto 4, 3) := by decide +kernel
theorem dX4_flag_8 : decode cX4_flag 8 = .ok (.iconst 0, 1) := by decide +kernel
theorem dX4_flag_9 : decode cX4_flag 9 = .ok (.ireturn, 1) := by decide +kernel
theorem dX4_streamAt_0 : decode cX4_streamAt 0 = .ok (.iload_n 1, 1) := by decide +kernel
theorem dX4_streamAt_1 : decode cX4_streamAt 1 = .ok (.ifCond .lt 9, 3) := by decide +kernel
theorem dX4_streamAt_4 : decode cX4_streamAt 4 = .ok (.iload_n 1, 1) := by decide +kernel
theorem dX4_streamAt_5 : decode cX4_streamAt 5 = .ok (.bipush 8, 2) := by decide +kernel
theorem dX4_streamAt_7 : decode cX4_streamAt 7 = .ok (.if_icmp .lt 7, 3) := by decide +kernel
theorem dX4_streamAt_10 : decode cX4_streamAt 10 = .ok (.aconst_null, 1) := by decide +kernel
theorem dX4_streamAt_11 : decode cX4_streamAt 11 = .ok (.goto 9, 3) := by decide +kernel
theorem dX4_streamAt_14 : decode cX4_streamAt 14 = .ok (.aload_n 0, 1) := by decide +kernel
theorem dX4_streamAt_15 : decode cX4_streamAt 15 = .ok (.getfield 27, 3) := by decide +kernel
theorem dX4_streamAt_18 : decode cX4_streamAt 18 = .ok (.iload_n 1, 1) := by decide +kernel
theorem dX4_streamAt_19 : decode cX4_streamAt 19 = .ok (.aaload, 1) := by decide +kernel
theorem dX4_streamAt_20 : decode cX4_streamAt 20 = .ok (.areturn, 1) := by decide +kernel
theorem dX4_sideAt_0 : decode cX4_sideAt 0 = .ok (.iload_n 1, 1) := by decide +kernel
theorem dX4_sideAt_1 : decode cX4_sideAt 1 = .ok (.ifCond .lt 8, 3) := by decide +kernel
theorem dX4_sideAt_4 : decode cX4_sideAt 4 = .ok (.iload_n 1, 1) := by decide +kernel
theorem dX4_sideAt_5 : decode cX4_sideAt 5 = .ok (.iconst 1, 1) := by decide +kernel
theorem dX4_sideAt_6 : decode cX4_sideAt 6 = .ok (.if_icmp .le 7, 3) := by decide +kernel
theorem dX4_sideAt_9 : decode cX4_sideAt 9 = .ok (.aconst_null, 1) := by decide +kernel
theorem dX4_sideAt_10 : decode cX4_sideAt 10 = .ok (.goto 9, 3) := by decide +kernel
theorem dX4_sideAt_13 : decode cX4_sideAt 13 = .ok (.aload_n 0, 1) := by decide +kernel
theorem dX4_sideAt_14 : decode cX4_sideAt 14 = .ok (.getfield 36, 3) := by decide +kernel
theorem dX4_sideAt_17 : decode cX4_sideAt 17 = .ok (.iload_n 1, 1) := by decide +kernel
theorem dX4_sideAt_18 : decode cX4_sideAt 18 = .ok (.aaload, 1) := by decide +kernel
theorem dX4_sideAt_19 : decode cX4_sideAt 19 = .ok (.areturn, 1) := by decide +kernel
theorem dX4_packetOf_0 : decode cX4_packetOf 0 = .ok (.aload_n 0, 1) := by decide +kernel
theorem dX4_packetOf_1 : decode cX4_packetOf 1 = .ok (.iload_n 1, 1) := by decide +kernel
theorem dX4_packetOf_2 : decode cX4_packetOf 2 = .ok (.invokevirtual 110, 3) := by decide +kernel
theorem dX4_packetOf_5 : decode cX4_packetOf 5 = .ok (.astore_n 3, 1) := by decide +kernel
theorem dX4_packetOf_6 : decode cX4_packetOf 6 = .ok (.aload_n 3, 1) := by decide +kernel
theorem dX4_packetOf_7 : decode cX4_packetOf 7 = .ok (.ifnonnull 7, 3) := by decide +kernel
theorem dX4_packetOf_10 : decode cX4_packetOf 10 = .ok (.aconst_null, 1) := by decide +kernel
theorem dX4_packetOf_11 : decode cX4_packetOf 11 = .ok (.goto 8, 3) := by decide +kernel
theorem dX4_packetOf_14 : decode cX4_packetOf 14 = .ok (.aload_n 3, 1) := by decide +kernel
theorem dX4_packetOf_15 : decode cX4_packetOf 15 = .ok (.iload_n 2, 1) := by decide +kernel
theorem dX4_packetOf_16 : decode cX4_packetOf 16 = .ok (.invokevirtual 272, 3) := by decide +kernel
theorem dX4_packetOf_19 : decode cX4_packetOf 19 = .ok (.areturn, 1) := by decide +kernel
theorem dX4_underWayAt_0 : decode cX4_underWayAt 0 = .ok (.iload_n 1, 1) := by decide +kernel
theorem dX4_underWayAt_1 : decode cX4_underWayAt 1 = .ok (.ifCond .lt 18, 3) := by decide +kernel
theorem dX4_underWayAt_4 : decode cX4_underWayAt 4 = .ok (.iload_n 1, 1) := by decide +kernel
theorem dX4_underWayAt_5 : decode cX4_underWayAt 5 = .ok (.aload_n 0, 1) := by decide +kernel
theorem dX4_underWayAt_6 : decode cX4_underWayAt 6 = .ok (.getfield 117, 3) := by decide +kernel
theorem dX4_underWayAt_9 : decode cX4_underWayAt 9 = .ok (.if_icmp .ge 10, 3) := by decide +kernel
theorem dX4_underWayAt_12 : decode cX4_underWayAt 12 = .ok (.iload_n 1, 1) := by decide +kernel
theorem dX4_underWayAt_13 : decode cX4_underWayAt 13 = .ok (.sipush 400, 3) := by decide +kernel
theorem dX4_underWayAt_16 : decode cX4_underWayAt 16 = .ok (.if_icmp .lt 7, 3) := by decide +kernel
theorem dX4_underWayAt_19 : decode cX4_underWayAt 19 = .ok (.aconst_null, 1) := by decide +kernel
theorem dX4_underWayAt_20 : decode cX4_underWayAt 20 = .ok (.goto 9, 3) := by decide +kernel
theorem dX4_underWayAt_23 : decode cX4_underWayAt 23 = .ok (.aload_n 0, 1) := by decide +kernel
theorem dX4_underWayAt_24 : decode cX4_underWayAt 24 = .ok (.getfield 21, 3) := by decide +kernel
theorem dX4_underWayAt_27 : decode cX4_underWayAt 27 = .ok (.iload_n 1, 1) := by decide +kernel
theorem dX4_underWayAt_28 : decode cX4_underWayAt 28 = .ok (.aaload, 1) := by decide +kernel
theorem dX4_underWayAt_29 : decode cX4_underWayAt 29 = .ok (.areturn, 1) := by decide +kernel
theorem dX4_isUntouched_0 : decode cX4_isUntouched 0 = .ok (.iconst 0, 1) := by decide +kernel
theorem dX4_isUntouched_1 : decode cX4_isUntouched 1 = .ok (.istore_n 1, 1) := by decide +kernel
theorem dX4_isUntouched_2 : decode cX4_isUntouched 2 = .ok (.iload_n 1, 1) := by decide +kernel
theorem dX4_isUntouched_3 : decode cX4_isUntouched 3 = .ok (.bipush 8, 2) := by decide +kernel
theorem dX4_isUntouched_5 : decode cX4_isUntouched 5 = .ok (.if_icmp .ge 23, 3) := by decide +kernel
theorem dX4_isUntouched_8 : decode cX4_isUntouched 8 = .ok (.aload_n 0, 1) := by decide +kernel
theorem dX4_isUntouched_9 : decode cX4_isUntouched 9 = .ok (.getfield 27, 3) := by decide +kernel
theorem dX4_isUntouched_12 : decode cX4_isUntouched 12 = .ok (.iload_n 1, 1) := by decide +kernel
theorem dX4_isUntouched_13 : decode cX4_isUntouched 13 = .ok (.aaload, 1) := by decide +kernel
theorem dX4_isUntouched_14 : decode cX4_isUntouched 14 = .ok (.invokevirtual 275, 3) := by decide +kernel
theorem dX4_isUntouched_17 : decode cX4_isUntouched 17 = .ok (.ifCond .ne 5, 3) := by decide +kernel
theorem dX4_isUntouched_20 : decode cX4_isUntouched 20 = .ok (.iconst 0, 1) := by decide +kernel
theorem dX4_isUntouched_21 : decode cX4_isUntouched 21 = .ok (.ireturn, 1) := by decide +kernel
theorem dX4_isUntouched_22 : decode cX4_isUntouched 22 = .ok (.iinc 1 1, 3) := by decide +kernel
theorem dX4_isUntouched_25 : decode cX4_isUntouched 25 = .ok (.goto (-23), 3) := by decide +kernel
theorem dX4_isUntouched_28 : decode cX4_isUntouched 28 = .ok (.aload_n 0, 1) := by decide +kernel
theorem dX4_isUntouched_29 : decode cX4_isUntouched 29 = .ok (.getfield 36, 3) := by decide +kernel
theorem dX4_isUntouched_32 : decode cX4_isUntouched 32 = .ok (.iconst 0, 1) := by decide +kernel
theorem dX4_isUntouched_33 : decode cX4_isUntouched 33 = .ok (.aaload, 1) := by decide +kernel
theorem dX4_isUntouched_34 : decode cX4_isUntouched 34 = .ok (.getfield 114, 3) := by decide +kernel
theorem dX4_isUntouched_37 : decode cX4_isUntouched 37 = .ok (.ifCond .ne 19, 3) := by decide +kernel
theorem dX4_isUntouched_40 : decode cX4_isUntouched 40 = .ok (.aload_n 0, 1) := by decide +kernel
theorem dX4_isUntouched_41 : decode cX4_isUntouched 41 = .ok (.getfield 36, 3) := by decide +kernel
theorem dX4_isUntouched_44 : decode cX4_isUntouched 44 = .ok (.iconst 1, 1) := by decide +kernel
theorem dX4_isUntouched_45 : decode cX4_isUntouched 45 = .ok (.aaload, 1) := by decide +kernel
theorem dX4_isUntouched_46 : decode cX4_isUntouched 46 = .ok (.getfield 114, 3) := by decide +kernel
theorem dX4_isUntouched_49 : decode cX4_isUntouched 49 = .ok (.ifCond .ne 7, 3) := by decide +kernel
theorem dX4_isUntouched_52 : decode cX4_isUntouched 52 = .ok (.iconst 1, 1) := by decide +kernel
theorem dX4_isUntouched_53 : decode cX4_isUntouched 53 = .ok (.goto 4, 3) := by decide +kernel
theorem dX4_isUntouched_56 : decode cX4_isUntouched 56 = .ok (.iconst 0, 1) := by decide +kernel
theorem dX4_isUntouched_57 : decode cX4_isUntouched 57 = .ok (.ireturn, 1) := by decide +kernel
theorem dX4_readBy_0 : decode cX4_readBy 0 = .ok (.iconst 0, 1) := by decide +kernel
theorem dX4_readBy_1 : decode cX4_readBy 1 = .ok (.istore_n 2, 1) := by decide +kernel
theorem dX4_readBy_2 : decode cX4_readBy 2 = .ok (.iconst 1, 1) := by decide +kernel
theorem dX4_readBy_3 : decode cX4_readBy 3 = .ok (.aload_n 1, 1) := by decide +kernel
theorem dX4_readBy_4 : decode cX4_readBy 4 = .ok (.getfield 276, 3) := by decide +kernel
theorem dX4_readBy_7 : decode cX4_readBy 7 = .ok (.isub, 1) := by decide +kernel
theorem dX4_readBy_8 : decode cX4_readBy 8 = .ok (.istore_n 3, 1) := by decide +kernel
theorem dX4_readBy_9 : decode cX4_readBy 9 = .ok (.iload_n 3, 1) := by decide +kernel
theorem dX4_readBy_10 : decode cX4_readBy 10 = .ok (.bipush 8, 2) := by decide +kernel
theorem dX4_readBy_12 : decode cX4_readBy 12 = .ok (.if_icmp .ge 21, 3) := by decide +kernel
theorem dX4_readBy_15 : decode cX4_readBy 15 = .ok (.iload_n 2, 1) := by decide +kernel
theorem dX4_readBy_16 : decode cX4_readBy 16 = .ok (.aload_n 0, 1) := by decide +kernel
theorem dX4_readBy_17 : decode cX4_readBy 17 = .ok (.getfield 27, 3) := by decide +kernel
theorem dX4_readBy_20 : decode cX4_readBy 20 = .ok (.iload_n 3, 1) := by decide +kernel
theorem dX4_readBy_21 : decode cX4_readBy 21 = .ok (.aaload, 1) := by decide +kernel
theorem dX4_readBy_22 : decode cX4_readBy 22 = .ok (.getfield 88, 3) := by decide +kernel
theorem dX4_readBy_25 : decode cX4_readBy 25 = .ok (.iadd, 1) := by decide +kernel
theorem dX4_readBy_26 : decode cX4_readBy 26 = .ok (.istore_n 2, 1) := by decide +kernel
theorem dX4_readBy_27 : decode cX4_readBy 27 = .ok (.iinc 3 2, 3) := by decide +kernel
theorem dX4_readBy_30 : decode cX4_readBy 30 = .ok (.goto (-21), 3) := by decide +kernel
theorem dX4_readBy_33 : decode cX4_readBy 33 = .ok (.iload_n 2, 1) := by decide +kernel
theorem dX4_readBy_34 : decode cX4_readBy 34 = .ok (.ireturn, 1) := by decide +kernel
theorem dX4_countedOf_0 : decode cX4_countedOf 0 = .ok (.iconst 0, 1) := by decide +kernel
theorem dX4_countedOf_1 : decode cX4_countedOf 1 = .ok (.istore_n 2, 1) := by decide +kernel
theorem dX4_countedOf_2 : decode cX4_countedOf 2 = .ok (.aload_n 1, 1) := by decide +kernel
theorem dX4_countedOf_3 : decode cX4_countedOf 3 = .ok (.getfield 276, 3) := by decide +kernel
theorem dX4_countedOf_6 : decode cX4_countedOf 6 = .ok (.istore_n 3, 1) := by decide +kernel
theorem dX4_countedOf_7 : decode cX4_countedOf 7 = .ok (.iload_n 3, 1) := by decide +kernel
theorem dX4_countedOf_8 : decode cX4_countedOf 8 = .ok (.bipush 8, 2) := by decide +kernel
theorem dX4_countedOf_10 : decode cX4_countedOf 10 = .ok (.if_icmp .ge 21, 3) := by decide +kernel
theorem dX4_countedOf_13 : decode cX4_countedOf 13 = .ok (.iload_n 2, 1) := by decide +kernel
theorem dX4_countedOf_14 : decode cX4_countedOf 14 = .ok (.aload_n 0, 1) := by decide +kernel
theorem dX4_countedOf_15 : decode cX4_countedOf 15 = .ok (.getfield 27, 3) := by decide +kernel
theorem dX4_countedOf_18 : decode cX4_countedOf 18 = .ok (.iload_n 3, 1) := by decide +kernel
theorem dX4_countedOf_19 : decode cX4_countedOf 19 = .ok (.aaload, 1) := by decide +kernel
theorem dX4_countedOf_20 : decode cX4_countedOf 20 = .ok (.getfield 197, 3) := by decide +kernel
theorem dX4_countedOf_23 : decode cX4_countedOf 23 = .ok (.iadd, 1) := by decide +kernel
theorem dX4_countedOf_24 : decode cX4_countedOf 24 = .ok (.istore_n 2, 1) := by decide +kernel
theorem dX4_countedOf_25 : decode cX4_countedOf 25 = .ok (.iinc 3 2, 3) := by decide +kernel
theorem dX4_countedOf_28 : decode cX4_countedOf 28 = .ok (.goto (-21), 3) := by decide +kernel
theorem dX4_countedOf_31 : decode cX4_countedOf 31 = .ok (.iload_n 2, 1) := by decide +kernel
theorem dX4_countedOf_32 : decode cX4_countedOf 32 = .ok (.ireturn, 1) := by decide +kernel
theorem dX4_fill_0 : decode cX4_fill 0 = .ok (.aload_n 1, 1) := by decide +kernel
theorem dX4_fill_1 : decode cX4_fill 1 = .ok (.getfield 168, 3) := by decide +kernel
theorem dX4_fill_4 : decode cX4_fill 4 = .ok (.ifCond .eq 9, 3) := by decide +kernel
theorem dX4_fill_7 : decode cX4_fill 7 = .ok (.aload_n 0, 1) := by decide +kernel
theorem dX4_fill_8 : decode cX4_fill 8 = .ok (.aload_n 1, 1) := by decide +kernel
theorem dX4_fill_9 : decode cX4_fill 9 = .ok (.aload_n 2, 1) := by decide +kernel
theorem dX4_fill_10 : decode cX4_fill 10 = .ok (.invokevirtual 277, 3) := by decide +kernel
theorem dX4_fill_13 : decode cX4_fill 13 = .ok (.aload_n 1, 1) := by decide +kernel
theorem dX4_fill_14 : decode cX4_fill 14 = .ok (.getfield 53, 3) := by decide +kernel
theorem dX4_fill_17 : decode cX4_fill 17 = .ok (.aload_n 0, 1) := by decide +kernel
theorem dX4_fill_18 : decode cX4_fill 18 = .ok (.getfield 7, 3) := by decide +kernel
theorem dX4_fill_21 : decode cX4_fill 21 = .ok (.invokevirtual 280, 3) := by decide +kernel
theorem dX4_fill_24 : decode cX4_fill 24 = .ok (.ifCond .eq 4, 3) := by decide +kernel
theorem dX4_fill_27 : decode cX4_fill 27 = .ok (.return_, 1) := by decide +kernel
theorem dX4_fill_28 : decode cX4_fill 28 = .ok (.aload_n 0, 1) := by decide +kernel
theorem dX4_fill_29 : decode cX4_fill 29 = .ok (.aload_n 1, 1) := by decide +kernel
theorem dX4_fill_30 : decode cX4_fill 30 = .ok (.aload_n 2, 1) := by decide +kernel
theorem dX4_fill_31 : decode cX4_fill 31 = .ok (.invokevirtual 284, 3) := by decide +kernel
theorem dX4_fill_34 : decode cX4_fill 34 = .ok (.aload_n 0, 1) := by decide +kernel
theorem dX4_fill_35 : decode cX4_fill 35 = .ok (.aload_n 1, 1) := by decide +kernel
theorem dX4_fill_36 : decode cX4_fill 36 = .ok (.aload_n 2, 1) := by decide +kernel
theorem dX4_fill_37 : decode cX4_fill 37 = .ok (.invokevirtual 287, 3) := by decide +kernel
theorem dX4_fill_40 : decode cX4_fill 40 = .ok (.aload_n 0, 1) := by decide +kernel
theorem dX4_fill_41 : decode cX4_fill 41 = .ok (.aload_n 1, 1) := by decide +kernel
theorem dX4_fill_42 : decode cX4_fill 42 = .ok (.aload_n 2, 1) := by decide +kernel
theorem dX4_fill_43 : decode cX4_fill 43 = .ok (.invokevirtual 290, 3) := by decide +kernel
theorem dX4_fill_46 : decode cX4_fill 46 = .ok (.aload_n 0, 1) := by decide +kernel
theorem dX4_fill_47 : decode cX4_fill 47 = .ok (.aload_n 1, 1) := by decide +kernel
theorem dX4_fill_48 : decode cX4_fill 48 = .ok (.aload_n 2, 1) := by decide +kernel
theorem dX4_fill_49 : decode cX4_fill 49 = .ok (.invokevirtual 293, 3) := by decide +kernel
theorem dX4_fill_52 : decode cX4_fill 52 = .ok (.aload_n 1, 1) := by decide +kernel
theorem dX4_fill_53 : decode cX4_fill 53 = .ok (.getfield 53, 3) := by decide +kernel
theorem dX4_fill_56 : decode cX4_fill 56 = .ok (.getfield 242, 3) := by decide +kernel
theorem dX4_fill_59 : decode cX4_fill 59 = .ok (.ifCond .eq 20, 3) := by decide +kernel
theorem dX4_fill_62 : decode cX4_fill 62 = .ok (.aload_n 2, 1) := by decide +kernel
theorem dX4_fill_63 : decode cX4_fill 63 = .ok (.getfield 165, 3) := by decide +kernel
theorem dX4_fill_66 : decode cX4_fill 66 = .ok (.ifCond .ne 13, 3) := by decide +kernel
theorem dX4_fill_69 : decode cX4_fill 69 = .ok (.aload_n 2, 1) := by decide +kernel
theorem dX4_fill_70 : decode cX4_fill 70 = .ok (.bipush 8, 2) := by decide +kernel
theorem dX4_fill_72 : decode cX4_fill 72 = .ok (.iconst 0, 1) := by decide +kernel
theorem dX4_fill_73 : decode cX4_fill 73 = .ok (.iconst 0, 1) := by decide +kernel
theorem dX4_fill_74 : decode cX4_fill 74 = .ok (.iconst 0, 1) := by decide +kernel
theorem dX4_fill_75 : decode cX4_fill 75 = .ok (.invokevirtual 296, 3) := by decide +kernel
theorem dX4_fill_78 : decode cX4_fill 78 = .ok (.pop, 1) := by decide +kernel
theorem dX4_fill_79 : decode cX4_fill 79 = .ok (.return_, 1) := by decide +kernel
theorem dX4_addTold_0 : decode cX4_addTold 0 = .ok (.aload_n 0, 1) := by decide +kernel
theorem dX4_addTold_1 : decode cX4_addTold 1 = .ok (.getfield 36, 3) := by decide +kernel
theorem dX4_addTold_4 : decode cX4_addTold 4 = .ok (.iconst 1, 1) := by decide +kernel
theorem dX4_addTold_5 : decode cX4_addTold 5 = .ok (.aload_n 1, 1) := by decide +kernel
theorem dX4_addTold_6 : decode cX4_addTold 6 = .ok (.getfield 276, 3) := by decide +kernel
theorem dX4_addTold_9 : decode cX4_addTold 9 = .ok (.isub, 1) := by decide +kernel
theorem dX4_addTold_10 : decode cX4_addTold 10 = .ok (.aaload, 1) := by decide +kernel
theorem dX4_addTold_11 : decode cX4_addTold 11 = .ok (.astore_n 3, 1) := by decide +kernel
theorem dX4_addTold_12 : decode cX4_addTold 12 = .ok (.iconst 0, 1) := by decide +kernel
theorem dX4_addTold_13 : decode cX4_addTold 13 = .ok (.istore 4, 2) := by decide +kernel
theorem dX4_addTold_15 : decode cX4_addTold 15 = .ok (.iconst 0, 1) := by decide +kernel
theorem dX4_addTold_16 : decode cX4_addTold 16 = .ok (.istore 5, 2) := by decide +kernel
theorem dX4_addTold_18 : decode cX4_addTold 18 = .ok (.aload_n 1, 1) := by decide +kernel
theorem dX4_addTold_19 : decode cX4_addTold 19 = .ok (.getfield 177, 3) := by decide +kernel
theorem dX4_addTold_22 : decode cX4_addTold 22 = .ok (.istore 6, 2) := by decide +kernel
theorem dX4_addTold_24 : decode cX4_addTold 24 = .ok (.iload 6, 2) := by decide +kernel
theorem dX4_addTold_26 : decode cX4_addTold 26 = .ok (.ifCond .lt 94, 3) := by decide +kernel
theorem dX4_addTold_29 : decode cX4_addTold 29 = .ok (.aload_n 3, 1) := by decide +kernel
theorem dX4_addTold_30 : decode cX4_addTold 30 = .ok (.iload 6, 2) := by decide +kernel
theorem dX4_addTold_32 : decode cX4_addTold 32 = .ok (.invokevirtual 272, 3) := by decide +kernel
theorem dX4_addTold_35 : decode cX4_addTold 35 = .ok (.astore 7, 2) := by decide +kernel
theorem dX4_addTold_37 : decode cX4_addTold 37 = .ok (.aload 7, 2) := by decide +kernel
theorem dX4_addTold_39 : decode cX4_addTold 39 = .ok (.ifnull 15, 3) := by decide +kernel
theorem dX4_addTold_42 : decode cX4_addTold 42 = .ok (.aload 7, 2) := by decide +kernel
theorem dX4_addTold_44 : decode cX4_addTold 44 = .ok (.getfield 171, 3) := by decide +kernel
theorem dX4_addTold_47 : decode cX4_addTold 47 = .ok (.ifCond .eq 7, 3) := by decide +kernel
theorem dX4_addTold_50 : decode cX4_addTold 50 = .ok (.iconst 1, 1) := by decide +kernel
theorem dX4_addTold_51 : decode cX4_addTold 51 = .ok (.goto 4, 3) := by decide +kernel
theorem dX4_addTold_54 : decode cX4_addTold 54 = .ok (.iconst 0, 1) := by decide +kernel
theorem dX4_addTold_55 : decode cX4_addTold 55 = .ok (.istore 8, 2) := by decide +kernel
theorem dX4_addTold_57 : decode cX4_addTold 57 = .ok (.iload 8, 2) := by decide +kernel
theorem dX4_addTold_59 : decode cX4_addTold 59 = .ok (.ifCond .eq 33, 3) := by decide +kernel
theorem dX4_addTold_62 : decode cX4_addTold 62 = .ok (.iload 5, 2) := by decide +kernel
theorem dX4_addTold_64 : decode cX4_addTold 64 = .ok (.ifCond .ne 28, 3) := by decide +kernel
theorem dX4_addTold_67 : decode cX4_addTold 67 = .ok (.iload 4, 2) := by decide +kernel
theorem dX4_addTold_69 : decode cX4_addTold 69 = .ok (.iconst 4, 1) := by decide +kernel
theorem dX4_addTold_70 : decode cX4_addTold 70 = .ok (.if_icmp .ne 6, 3) := by decide +kernel
theorem dX4_addTold_73 : decode cX4_addTold 73 = .ok (.goto 47, 3) := by decide +kernel
theorem dX4_addTold_76 : decode cX4_addTold 76 = .ok (.aload_n 2, 1) := by decide +kernel
theorem dX4_addTold_77 : decode cX4_addTold 77 = .ok (.getfield 268, 3) := by decide +kernel
theorem dX4_addTold_80 : decode cX4_addTold 80 = .ok (.iconst 2, 1) := by decide +kernel
theorem dX4_addTold_81 : decode cX4_addTold 81 = .ok (.iload 4, 2) := by decide +kernel
theorem dX4_addTold_83 : decode cX4_addTold 83 = .ok (.imul, 1) := by decide +kernel
theorem dX4_addTold_84 : decode cX4_addTold 84 = .ok (.iconst 1, 1) := by decide +kernel
theorem dX4_addTold_85 : decode cX4_addTold 85 = .ok (.iadd, 1) := by decide +kernel
theorem dX4_addTold_86 : decode cX4_addTold 86 = .ok (.iload 6, 2) := by decide +kernel
theorem dX4_addTold_88 : decode cX4_addTold 88 = .ok (.iastore, 1) := by decide +kernel
theorem dX4_addTold_89 : decode cX4_addTold 89 = .ok (.iinc 4 1, 3) := by decide +kernel
theorem dX4_addTold_92 : decode cX4_addTold 92 = .ok (.iload 8, 2) := by decide +kernel
theorem dX4_addTold_94 : decode cX4_addTold 94 = .ok (.ifCond .eq 16, 3) := by decide +kernel
theorem dX4_addTold_97 : decode cX4_addTold 97 = .ok (.aload_n 2, 1) := by decide +kernel
theorem dX4_addTold_98 : decode cX4_addTold 98 = .ok (.getfield 268, 3) := by decide +kernel
theorem dX4_addTold_101 : decode cX4_addTold 101 = .ok (.iconst 2, 1) := by decide +kernel
theorem dX4_addTold_102 : decode cX4_addTold 102 = .ok (.iload 4, 2) := by decide +kernel
theorem dX4_addTold_104 : decode cX4_addTold 104 = .ok (.imul, 1) := by decide +kernel
theorem dX4_addTold_105 : decode cX4_addTold 105 = .ok (.iconst 2, 1) := by decide +kernel
theorem dX4_addTold_106 : decode cX4_addTold 106 = .ok (.isub, 1) := by decide +kernel
theorem dX4_addTold_107 : decode cX4_addTold 107 = .ok (.iload 6, 2) := by decide +kernel
theorem dX4_addTold_109 : decode cX4_addTold 109 = .ok (.iastore, 1) := by decide +kernel
theorem dX4_addTold_110 : decode cX4_addTold 110 = .ok (.iload 8, 2) := by decide +kernel
theorem dX4_addTold_112 : decode cX4_addTold 112 = .ok (.istore 5, 2) := by decide +kernel
theorem dX4_addTold_114 : decode cX4_addTold 114 = .ok (.iinc 6 (-1), 3) := by decide +kernel
theorem dX4_addTold_117 : decode cX4_addTold 117 = .ok (.goto (-93), 3) := by decide +kernel
theorem dX4_addTold_120 : decode cX4_addTold 120 = .ok (.iload 4, 2) := by decide +kernel
theorem dX4_addTold_122 : decode cX4_addTold 122 = .ok (.ifCond .le 20, 3) := by decide +kernel
theorem dX4_addTold_125 : decode cX4_addTold 125 = .ok (.aload_n 2, 1) := by decide +kernel
theorem dX4_addTold_126 : decode cX4_addTold 126 = .ok (.iconst 1, 1) := by decide +kernel
theorem dX4_addTold_127 : decode cX4_addTold 127 = .ok (.iconst 0, 1) := by decide +kernel
theorem dX4_addTold_128 : decode cX4_addTold 128 = .ok (.iconst 0, 1) := by decide +kernel
theorem dX4_addTold_129 : decode cX4_addTold 129 = .ok (.iload 4, 2) := by decide +kernel
theorem dX4_addTold_131 : decode cX4_addTold 131 = .ok (.invokevirtual 296, 3) := by decide +kernel
theorem dX4_addTold_134 : decode cX4_addTold 134 = .ok (.ifCond .eq 8, 3) := by decide +kernel
theorem dX4_addTold_137 : decode cX4_addTold 137 = .ok (.aload_n 1, 1) := by decide +kernel
theorem dX4_addTold_138 : decode cX4_addTold 138 = .ok (.iconst 0, 1) := by decide +kernel
theorem dX4_addTold_139 : decode cX4_addTold 139 = .ok (.putfield 168, 3) := by decide +kernel
theorem dX4_addTold_142 : decode cX4_addTold 142 = .ok (.return_, 1) := by decide +kernel
theorem dX4_addAnswerAndAsk_0 : decode cX4_addAnswerAndAsk 0 = .ok (.aload_n 1, 1) := by decide +kernel
theorem dX4_addAnswerAndAsk_1 : decode cX4_addAnswerAndAsk 1 = .ok (.getfield 300, 3) := by decide +kernel
theorem dX4_addAnswerAndAsk_4 : decode cX4_addAnswerAndAsk 4 = .ok (.bipush (-6), 2) := by decide +kernel
theorem dX4_addAnswerAndAsk_6 : decode cX4_addAnswerAndAsk 6 = .ok (.if_icmp .eq 24, 3) := by decide +kernel
theorem dX4_addAnswerAndAsk_9 : decode cX4_addAnswerAndAsk 9 = .ok (.aload_n 2, 1) := by decide +kernel
theorem dX4_addAnswerAndAsk_10 : decode cX4_addAnswerAndAsk 10 = .ok (.bipush 7, 2) := by decide +kernel
theorem dX4_addAnswerAndAsk_12 : decode cX4_addAnswerAndAsk 12 = .ok (.iconst 0, 1) := by decide +kernel
theorem dX4_addAnswerAndAsk_13 : decode cX4_addAnswerAndAsk 13 = .ok (.aload_n 1, 1) := by decide +kernel
theorem dX4_addAnswerAndAsk_14 : decode cX4_addAnswerAndAsk 14 = .ok (.getfield 300, 3) := by decide +kernel
theorem dX4_addAnswerAndAsk_17 : decode cX4_addAnswerAndAsk 17 = .ok (.iconst 0, 1) := by decide +kernel
theorem dX4_addAnswerAndAsk_18 : decode cX4_addAnswerAndAsk 18 = .ok (.invokevirtual 296, 3) := by decide +kernel
theorem dX4_addAnswerAndAsk_21 : decode cX4_addAnswerAndAsk 21 = .ok (.ifCond .eq 9, 3) := by decide +kernel
theorem dX4_addAnswerAndAsk_24 : decode cX4_addAnswerAndAsk 24 = .ok (.aload_n 1, 1) := by decide +kernel
theorem dX4_addAnswerAndAsk_25 : decode cX4_addAnswerAndAsk 25 = .ok (.bipush (-6), 2) := by decide +kernel
theorem dX4_addAnswerAndAsk_27 : decode cX4_addAnswerAndAsk 27 = .ok (.putfield 300, 3) := by decide +kernel
theorem dX4_addAnswerAndAsk_30 : decode cX4_addAnswerAndAsk 30 = .ok (.aload_n 1, 1) := by decide +kernel
theorem dX4_addAnswerAndAsk_31 : decode cX4_addAnswerAndAsk 31 = .ok (.getfield 303, 3) := by decide +kernel
theorem dX4_addAnswerAndAsk_34 : decode cX4_addAnswerAndAsk 34 = .ok (.ifCond .eq 23, 3) := by decide +kernel
theorem dX4_addAnswerAndAsk_37 : decode cX4_addAnswerAndAsk 37 = .ok (.aload_n 2, 1) := by decide +kernel
theorem dX4_addAnswerAndAsk_38 : decode cX4_addAnswerAndAsk 38 = .ok (.bipush 6, 2) := by decide +kernel
theorem dX4_addAnswerAndAsk_40 : decode cX4_addAnswerAndAsk 40 = .ok (.iconst 0, 1) := by decide +kernel
theorem dX4_addAnswerAndAsk_41 : decode cX4_addAnswerAndAsk 41 = .ok (.aload_n 0, 1) := by decide +kernel
theorem dX4_addAnswerAndAsk_42 : decode cX4_addAnswerAndAsk 42 = .ok (.getfield 132, 3) := by decide +kernel
theorem dX4_addAnswerAndAsk_45 : decode cX4_addAnswerAndAsk 45 = .ok (.iconst 0, 1) := by decide +kernel
theorem dX4_addAnswerAndAsk_46 : decode cX4_addAnswerAndAsk 46 = .ok (.invokevirtual 296, 3) := by decide +kernel
theorem dX4_addAnswerAndAsk_49 : decode cX4_addAnswerAndAsk 49 = .ok (.ifCond .eq 8, 3) := by decide +kernel
theorem dX4_addAnswerAndAsk_52 : decode cX4_addAnswerAndAsk 52 = .ok (.aload_n 1, 1) := by decide +kernel
theorem dX4_addAnswerAndAsk_53 : decode cX4_addAnswerAndAsk 53 = .ok (.iconst 0, 1) := by decide +kernel
theorem dX4_addAnswerAndAsk_54 : decode cX4_addAnswerAndAsk 54 = .ok (.putfield 303, 3) := by decide +kernel
theorem dX4_addAnswerAndAsk_57 : decode cX4_addAnswerAndAsk 57 = .ok (.return_, 1) := by decide +kernel
theorem dX4_addBounds_0 : decode cX4_addBounds 0 = .ok (.iconst 1, 1) := by decide +kernel
theorem dX4_addBounds_1 : decode cX4_addBounds 1 = .ok (.aload_n 1, 1) := by decide +kernel
theorem dX4_addBounds_2 : decode cX4_addBounds 2 = .ok (.getfield 276, 3) := by decide +kernel
theorem dX4_addBounds_5 : decode cX4_addBounds 5 = .ok (.isub, 1) := by decide +kernel
theorem dX4_addBounds_6 : decode cX4_addBounds 6 = .ok (.istore_n 3, 1) := by decide +kernel
theorem dX4_addBounds_7 : decode cX4_addBounds 7 = .ok (.iload_n 3, 1) := by decide +kernel
theorem dX4_addBounds_8 : decode cX4_addBounds 8 = .ok (.bipush 8, 2) := by decide +kernel
theorem dX4_addBounds_10 : decode cX4_addBounds 10 = .ok (.if_icmp .ge 66, 3) := by decide +kernel
theorem dX4_addBounds_13 : decode cX4_addBounds 13 = .ok (.aload_n 0, 1) := by decide +kernel
theorem dX4_addBounds_14 : decode cX4_addBounds 14 = .ok (.getfield 27, 3) := by decide +kernel
theorem dX4_addBounds_17 : decode cX4_addBounds 17 = .ok (.iload_n 3, 1) := by decide +kernel
theorem dX4_addBounds_18 : decode cX4_addBounds 18 = .ok (.aaload, 1) := by decide +kernel
theorem dX4_addBounds_19 : decode cX4_addBounds 19 = .ok (.astore 4, 2) := by decide +kernel
theorem dX4_addBounds_21 : decode cX4_addBounds 21 = .ok (.aload 4, 2) := by decide +kernel
theorem dX4_addBounds_23 : decode cX4_addBounds 23 = .ok (.getfield 97, 3) := by decide +kernel
theorem dX4_addBounds_26 : decode cX4_addBounds 26 = .ok (.ifCond .eq 44, 3) := by decide +kernel
theorem dX4_addBounds_29 : decode cX4_addBounds 29 = .ok (.aload_n 2, 1) := by decide +kernel
theorem dX4_addBounds_30 : decode cX4_addBounds 30 = .ok (.iconst 2, 1) := by decide +kernel
theorem dX4_addBounds_31 : decode cX4_addBounds 31 = .ok (.iload_n 3, 1) := by decide +kernel
theorem dX4_addBounds_32 : decode cX4_addBounds 32 = .ok (.aload 4, 2) := by decide +kernel
theorem dX4_addBounds_34 : decode cX4_addBounds 34 = .ok (.getfield 88, 3) := by decide +kernel
theorem dX4_addBounds_37 : decode cX4_addBounds 37 = .ok (.aload_n 0, 1) := by decide +kernel
theorem dX4_addBounds_38 : decode cX4_addBounds 38 = .ok (.getfield 13, 3) := by decide +kernel
theorem dX4_addBounds_41 : decode cX4_addBounds 41 = .ok (.iadd, 1) := by decide +kernel
theorem dX4_addBounds_42 : decode cX4_addBounds 42 = .ok (.iconst 0, 1) := by decide +kernel
theorem dX4_addBounds_43 : decode cX4_addBounds 43 = .ok (.invokevirtual 296, 3) := by decide +kernel
theorem dX4_addBounds_46 : decode cX4_addBounds 46 = .ok (.ifCond .eq 24, 3) := by decide +kernel
theorem dX4_addBounds_49 : decode cX4_addBounds 49 = .ok (.aload 4, 2) := by decide +kernel
theorem dX4_addBounds_51 : decode cX4_addBounds 51 = .ok (.iconst 0, 1) := by decide +kernel
theorem dX4_addBounds_52 : decode cX4_addBounds 52 = .ok (.putfield 97, 3) := by decide +kernel
theorem dX4_addBounds_55 : decode cX4_addBounds 55 = .ok (.aload 4, 2) := by decide +kernel
theorem dX4_addBounds_57 : decode cX4_addBounds 57 = .ok (.aload 4, 2) := by decide +kernel
theorem dX4_addBounds_59 : decode cX4_addBounds 59 = .ok (.getfield 88, 3) := by decide +kernel
theorem dX4_addBounds_62 : decode cX4_addBounds 62 = .ok (.aload_n 0, 1) := by decide +kernel
theorem dX4_addBounds_63 : decode cX4_addBounds 63 = .ok (.getfield 13, 3) := by decide +kernel
theorem dX4_addBounds_66 : decode cX4_addBounds 66 = .ok (.iadd, 1) := by decide +kernel
theorem dX4_addBounds_67 : decode cX4_addBounds 67 = .ok (.putfield 50, 3) := by decide +kernel
theorem dX4_addBounds_70 : decode cX4_addBounds 70 = .ok (.iinc 3 2, 3) := by decide +kernel
theorem dX4_addBounds_73 : decode cX4_addBounds 73 = .ok (.goto (-66), 3) := by decide +kernel
theorem dX4_addBounds_76 : decode cX4_addBounds 76 = .ok (.aload_n 0, 1) := by decide +kernel
theorem dX4_addBounds_77 : decode cX4_addBounds 77 = .ok (.aload_n 1, 1) := by decide +kernel
theorem dX4_addBounds_78 : decode cX4_addBounds 78 = .ok (.invokevirtual 100, 3) := by decide +kernel
theorem dX4_addBounds_81 : decode cX4_addBounds 81 = .ok (.aload_n 0, 1) := by decide +kernel
theorem dX4_addBounds_82 : decode cX4_addBounds 82 = .ok (.getfield 16, 3) := by decide +kernel
theorem dX4_addBounds_85 : decode cX4_addBounds 85 = .ok (.iadd, 1) := by decide +kernel
theorem dX4_addBounds_86 : decode cX4_addBounds 86 = .ok (.istore_n 3, 1) := by decide +kernel
theorem dX4_addBounds_87 : decode cX4_addBounds 87 = .ok (.aload_n 1, 1) := by decide +kernel
theorem dX4_addBounds_88 : decode cX4_addBounds 88 = .ok (.getfield 104, 3) := by decide +kernel
theorem dX4_addBounds_91 : decode cX4_addBounds 91 = .ok (.ifCond .eq 24, 3) := by decide +kernel
theorem dX4_addBounds_94 : decode cX4_addBounds 94 = .ok (.aload_n 2, 1) := by decide +kernel
theorem dX4_addBounds_95 : decode cX4_addBounds 95 = .ok (.iconst 3, 1) := by decide +kernel
theorem dX4_addBounds_96 : decode cX4_addBounds 96 = .ok (.iconst 0, 1) := by decide +kernel
theorem dX4_addBounds_97 : decode cX4_addBounds 97 = .ok (.iload_n 3, 1) := by decide +kernel
theorem dX4_addBounds_98 : decode cX4_addBounds 98 = .ok (.iconst 0, 1) := by decide +kernel
theorem dX4_addBounds_99 : decode cX4_addBounds 99 = .ok (.invokevirtual 296, 3) := by decide +kernel
theorem dX4_addBounds_102 : decode cX4_addBounds 102 = .ok (.ifCond .eq 13, 3) := by decide +kernel
theorem dX4_addBounds_105 : decode cX4_addBounds 105 = .ok (.aload_n 1, 1) := by decide +kernel
theorem dX4_addBounds_106 : decode cX4_addBounds 106 = .ok (.iconst 0, 1) := by decide +kernel
theorem dX4_addBounds_107 : decode cX4_addBounds 107 = .ok (.putfield 104, 3) := by decide +kernel
theorem dX4_addBounds_110 : decode cX4_addBounds 110 = .ok (.aload_n 1, 1) := by decide +kernel
theorem dX4_addBounds_111 : decode cX4_addBounds 111 = .ok (.iload_n 3, 1) := by decide +kernel
theorem dX4_addBounds_112 : decode cX4_addBounds 112 = .ok (.putfield 65, 3) := by decide +kernel
theorem dX4_addBounds_115 : decode cX4_addBounds 115 = .ok (.return_, 1) := by decide +kernel
theorem dX4_addCutOffs_0 : decode cX4_addCutOffs 0 = .ok (.aload_n 1, 1) := by decide +kernel
theorem dX4_addCutOffs_1 : decode cX4_addCutOffs 1 = .ok (.getfield 276, 3) := by decide +kernel
theorem dX4_addCutOffs_4 : decode cX4_addCutOffs 4 = .ok (.istore_n 3, 1) := by decide +kernel
theorem dX4_addCutOffs_5 : decode cX4_addCutOffs 5 = .ok (.iload_n 3, 1) := by decide +kernel
theorem dX4_addCutOffs_6 : decode cX4_addCutOffs 6 = .ok (.bipush 8, 2) := by decide +kernel
theorem dX4_addCutOffs_8 : decode cX4_addCutOffs 8 = .ok (.if_icmp .ge 42, 3) := by decide +kernel
theorem dX4_addCutOffs_11 : decode cX4_addCutOffs 11 = .ok (.aload_n 0, 1) := by decide +kernel
theorem dX4_addCutOffs_12 : decode cX4_addCutOffs 12 = .ok (.getfield 27, 3) := by decide +kernel
theorem dX4_addCutOffs_15 : decode cX4_addCutOffs 15 = .ok (.iload_n 3, 1) := by decide +kernel
theorem dX4_addCutOffs_16 : decode cX4_addCutOffs 16 = .ok (.aaload, 1) := by decide +kernel
theorem dX4_addCutOffs_17 : decode cX4_addCutOffs 17 = .ok (.getfield 82, 3) := by decide +kernel
theorem dX4_addCutOffs_20 : decode cX4_addCutOffs 20 = .ok (.ifCond .eq 24, 3) := by decide +kernel
theorem dX4_addCutOffs_23 : decode cX4_addCutOffs 23 = .ok (.aload_n 2, 1) := by decide +kernel
theorem dX4_addCutOffs_24 : decode cX4_addCutOffs 24 = .ok (.iconst 5, 1) := by decide +kernel
theorem dX4_addCutOffs_25 : decode cX4_addCutOffs 25 = .ok (.iload_n 3, 1) := by decide +kernel
theorem dX4_addCutOffs_26 : decode cX4_addCutOffs 26 = .ok (.iconst 0, 1) := by decide +kernel
theorem dX4_addCutOffs_27 : decode cX4_addCutOffs 27 = .ok (.iconst 0, 1) := by decide +kernel
theorem dX4_addCutOffs_28 : decode cX4_addCutOffs 28 = .ok (.invokevirtual 296, 3) := by decide +kernel
theorem dX4_addCutOffs_31 : decode cX4_addCutOffs 31 = .ok (.ifCond .eq 13, 3) := by decide +kernel
theorem dX4_addCutOffs_34 : decode cX4_addCutOffs 34 = .ok (.aload_n 0, 1) := by decide +kernel
theorem dX4_addCutOffs_35 : decode cX4_addCutOffs 35 = .ok (.getfield 27, 3) := by decide +kernel
theorem dX4_addCutOffs_38 : decode cX4_addCutOffs 38 = .ok (.iload_n 3, 1) := by decide +kernel
theorem dX4_addCutOffs_39 : decode cX4_addCutOffs 39 = .ok (.aaload, 1) := by decide +kernel
theorem dX4_addCutOffs_40 : decode cX4_addCutOffs 40 = .ok (.iconst 0, 1) := by decide +kernel
theorem dX4_addCutOffs_41 : decode cX4_addCutOffs 41 = .ok (.putfield 82, 3) := by decide +kernel
theorem dX4_addCutOffs_44 : decode cX4_addCutOffs 44 = .ok (.iinc 3 2, 3) := by decide +kernel
theorem dX4_addCutOffs_47 : decode cX4_addCutOffs 47 = .ok (.goto (-42), 3) := by decide +kernel
theorem dX4_addCutOffs_50 : decode cX4_addCutOffs 50 = .ok (.return_, 1) := by decide +kernel
theorem dX4_addBytes_0 : decode cX4_addBytes 0 = .ok (.aload_n 1, 1) := by decide +kernel
theorem dX4_addBytes_1 : decode cX4_addBytes 1 = .ok (.getfield 306, 3) := by decide +kernel
theorem dX4_addBytes_4 : decode cX4_addBytes 4 = .ok (.istore_n 3, 1) := by decide +kernel
theorem dX4_addBytes_5 : decode cX4_addBytes 5 = .ok (.iconst 0, 1) := by decide +kernel
theorem dX4_addBytes_6 : decode cX4_addBytes 6 = .ok (.istore 4, 2) := by decide +kernel
theorem dX4_addBytes_8 : decode cX4_addBytes 8 = .ok (.iload 4, 2) := by decide +kernel
theorem dX4_addBytes_10 : decode cX4_addBytes 10 = .ok (.iconst 4, 1) := by decide +kernel
theorem dX4_addBytes_11 : decode cX4_addBytes 11 = .ok (.if_icmp .ge 45, 3) := by decide +kernel
theorem dX4_addBytes_14 : decode cX4_addBytes 14 = .ok (.iload_n 3, 1) := by decide +kernel
theorem dX4_addBytes_15 : decode cX4_addBytes 15 = .ok (.iload 4, 2) := by decide +kernel
theorem dX4_addBytes_17 : decode cX4_addBytes 17 = .ok (.iadd, 1) := by decide +kernel
theorem dX4_addBytes_18 : decode cX4_addBytes 18 = .ok (.iconst 4, 1) := by decide +kernel
theorem dX4_addBytes_19 : decode cX4_addBytes 19 = .ok (.irem, 1) := by decide +kernel
theorem dX4_addBytes_20 : decode cX4_addBytes 20 = .ok (.istore 5, 2) := by decide +kernel
theorem dX4_addBytes_22 : decode cX4_addBytes 22 = .ok (.aload_n 0, 1) := by decide +kernel
theorem dX4_addBytes_23 : decode cX4_addBytes 23 = .ok (.aload_n 1, 1) := by decide +kernel
theorem dX4_addBytes_24 : decode cX4_addBytes 24 = .ok (.aload_n 1, 1) := by decide +kernel
theorem dX4_addBytes_25 : decode cX4_addBytes 25 = .ok (.getfield 276, 3) := by decide +kernel
theorem dX4_addBytes_28 : decode cX4_addBytes 28 = .ok (.iconst 2, 1) := by decide +kernel
theorem dX4_addBytes_29 : decode cX4_addBytes 29 = .ok (.iload 5, 2) := by decide +kernel
theorem dX4_addBytes_31 : decode cX4_addBytes 31 = .ok (.imul, 1) := by decide +kernel
theorem dX4_addBytes_32 : decode cX4_addBytes 32 = .ok (.iadd, 1) := by decide +kernel
theorem dX4_addBytes_33 : decode cX4_addBytes 33 = .ok (.aload_n 2, 1) := by decide +kernel
theorem dX4_addBytes_34 : decode cX4_addBytes 34 = .ok (.invokevirtual 309, 3) := by decide +kernel
theorem dX4_addBytes_37 : decode cX4_addBytes 37 = .ok (.ifCond .eq 13, 3) := by decide +kernel
theorem dX4_addBytes_40 : decode cX4_addBytes 40 = .ok (.aload_n 1, 1) := by decide +kernel
theorem dX4_addBytes_41 : decode cX4_addBytes 41 = .ok (.iload 5, 2) := by decide +kernel
theorem dX4_addBytes_43 : decode cX4_addBytes 43 = .ok (.iconst 1, 1) := by decide +kernel
theorem dX4_addBytes_44 : decode cX4_addBytes 44 = .ok (.iadd, 1) := by decide +kernel
theorem dX4_addBytes_45 : decode cX4_addBytes 45 = .ok (.iconst 4, 1) := by decide +kernel
theorem dX4_addBytes_46 : decode cX4_addBytes 46 = .ok (.irem, 1) := by decide +kernel
theorem dX4_addBytes_47 : decode cX4_addBytes 47 = .ok (.putfield 306, 3) := by decide +kernel
theorem dX4_addBytes_50 : decode cX4_addBytes 50 = .ok (.iinc 4 1, 3) := by decide +kernel
theorem dX4_addBytes_53 : decode cX4_addBytes 53 = .ok (.goto (-45), 3) := by decide +kernel
theorem dX4_addBytes_56 : decode cX4_addBytes 56 = .ok (.return_, 1) := by decide +kernel
theorem dX4_addBytesOf_0 : decode cX4_addBytesOf 0 = .ok (.aload_n 0, 1) := by decide +kernel
theorem dX4_addBytesOf_1 : decode cX4_addBytesOf 1 = .ok (.iload_n 2, 1) := by decide +kernel
theorem dX4_addBytesOf_2 : decode cX4_addBytesOf 2 = .ok (.invokevirtual 68, 3) := by decide +kernel
theorem dX4_addBytesOf_5 : decode cX4_addBytesOf 5 = .ok (.astore 4, 2) := by decide +kernel
theorem dX4_addBytesOf_7 : decode cX4_addBytesOf 7 = .ok (.aload 4, 2) := by decide +kernel
theorem dX4_addBytesOf_9 : decode cX4_addBytesOf 9 = .ok (.ifnull 11, 3) := by decide +kernel
theorem dX4_addBytesOf_12 : decode cX4_addBytesOf 12 = .ok (.aload 4, 2) := by decide +kernel
theorem dX4_addBytesOf_14 : decode cX4_addBytesOf 14 = .ok (.getfield 76, 3) := by decide +kernel
theorem dX4_addBytesOf_17 : decode cX4_addBytesOf 17 = .ok (.ifCond .eq 5, 3) := by decide +kernel
theorem dX4_addBytesOf_20 : decode cX4_addBytesOf 20 = .ok (.iconst 0, 1) := by decide +kernel
theorem dX4_addBytesOf_21 : decode cX4_addBytesOf 21 = .ok (.ireturn, 1) := by decide +kernel
theorem dX4_addBytesOf_22 : decode cX4_addBytesOf 22 = .ok (.aload 4, 2) := by decide +kernel
theorem dX4_addBytesOf_24 : decode cX4_addBytesOf 24 = .ok (.getfield 203, 3) := by decide +kernel
theorem dX4_addBytesOf_27 : decode cX4_addBytesOf 27 = .ok (.ifCond .le 11, 3) := by decide +kernel
theorem dX4_addBytesOf_30 : decode cX4_addBytesOf 30 = .ok (.aload 4, 2) := by decide +kernel
theorem dX4_addBytesOf_32 : decode cX4_addBytesOf 32 = .ok (.invokevirtual 313, 3) := by decide +kernel
theorem dX4_addBytesOf_35 : decode cX4_addBytesOf 35 = .ok (.goto 8, 3) := by decide +kernel
theorem dX4_addBytesOf_38 : decode cX4_addBytesOf 38 = .ok (.aload 4, 2) := by decide +kernel
theorem dX4_addBytesOf_40 : decode cX4_addBytesOf 40 = .ok (.getfield 197, 3) := by decide +kernel
theorem dX4_addBytesOf_43 : decode cX4_addBytesOf 43 = .ok (.istore 5, 2) := by decide +kernel
theorem dX4_addBytesOf_45 : decode cX4_addBytesOf 45 = .ok (.aload 4, 2) := by decide +kernel
theorem dX4_addBytesOf_47 : decode cX4_addBytesOf 47 = .ok (.getfield 203, 3) := by decide +kernel
theorem dX4_addBytesOf_50 : decode cX4_addBytesOf 50 = .ok (.ifCond .le 13, 3) := by decide +kernel
theorem dX4_addBytesOf_53 : decode cX4_addBytesOf 53 = .ok (.aload 4, 2) := by decide +kernel
theorem dX4_addBytesOf_55 : decode cX4_addBytesOf 55 = .ok (.iload 5, 2) := by decide +kernel
theorem dX4_addBytesOf_57 : decode cX4_addBytesOf 57 = .ok (.invokevirtual 317, 3) := by decide +kernel
theorem dX4_addBytesOf_60 : decode cX4_addBytesOf 60 = .ok (.goto 10, 3) := by decide +kernel
theorem dX4_addBytesOf_63 : decode cX4_addBytesOf 63 = .ok (.aload_n 0, 1) := by decide +kernel
theorem dX4_addBytesOf_64 : decode cX4_addBytesOf 64 = .ok (.aload_n 1, 1) := by decide +kernel
theorem dX4_addBytesOf_65 : decode cX4_addBytesOf 65 = .ok (.aload 4, 2) := by decide +kernel
theorem dX4_addBytesOf_67 : decode cX4_addBytesOf 67 = .ok (.invokevirtual 321, 3) := by decide +kernel
theorem dX4_addBytesOf_70 : decode cX4_addBytesOf 70 = .ok (.istore 6, 2) := by decide +kernel
theorem dX4_addBytesOf_72 : decode cX4_addBytesOf 72 = .ok (.iload 6, 2) := by decide +kernel
theorem dX4_addBytesOf_74 : decode cX4_addBytesOf 74 = .ok (.aload_n 3, 1) := by decide +kernel
theorem dX4_addBytesOf_75 : decode cX4_addBytesOf 75 = .ok (.invokevirtual 325, 3) := by decide +kernel
theorem dX4_addBytesOf_78 : decode cX4_addBytesOf 78 = .ok (.iconst 4, 1) := by decide +kernel
theorem dX4_addBytesOf_79 : decode cX4_addBytesOf 79 = .ok (.iconst 0, 1) := by decide +kernel
theorem dX4_addBytesOf_80 : decode cX4_addBytesOf 80 = .ok (.invokestatic 328, 3) := by decide +kernel
theorem dX4_addBytesOf_83 : decode cX4_addBytesOf 83 = .ok (.isub, 1) := by decide +kernel
theorem dX4_addBytesOf_84 : decode cX4_addBytesOf 84 = .ok (.invokestatic 91, 3) := by decide +kernel
theorem dX4_addBytesOf_87 : decode cX4_addBytesOf 87 = .ok (.istore 7, 2) := by decide +kernel
theorem dX4_addBytesOf_89 : decode cX4_addBytesOf 89 = .ok (.iload 6, 2) := by decide +kernel
theorem dX4_addBytesOf_91 : decode cX4_addBytesOf 91 = .ok (.ifCond .le 12, 3) := by decide +kernel
theorem dX4_addBytesOf_94 : decode cX4_addBytesOf 94 = .ok (.iload 7, 2) := by decide +kernel
theorem dX4_addBytesOf_96 : decode cX4_addBytesOf 96 = .ok (.iconst 1, 1) := by decide +kernel
theorem dX4_addBytesOf_97 : decode cX4_addBytesOf 97 = .ok (.if_icmp .ge 21, 3) := by decide +kernel
theorem dX4_addBytesOf_100 : decode cX4_addBytesOf 100 = .ok (.goto 16, 3) := by decide +kernel
theorem dX4_addBytesOf_103 : decode cX4_addBytesOf 103 = .ok (.aload 4, 2) := by decide +kernel
theorem dX4_addBytesOf_105 : decode cX4_addBytesOf 105 = .ok (.invokevirtual 331, 3) := by decide +kernel
theorem dX4_addBytesOf_108 : decode cX4_addBytesOf 108 = .ok (.ifCond .eq 8, 3) := by decide +kernel
theorem dX4_addBytesOf_111 : decode cX4_addBytesOf 111 = .ok (.iload 7, 2) := by decide +kernel
theorem dX4_addBytesOf_113 : decode cX4_addBytesOf 113 = .ok (.ifCond .ge 5, 3) := by decide +kernel
theorem dX4_addBytesOf_116 : decode cX4_addBytesOf 116 = .ok (.iconst 0, 1) := by decide +kernel
theorem dX4_addBytesOf_117 : decode cX4_addBytesOf 117 = .ok (.ireturn, 1) := by decide +kernel
theorem dX4_addBytesOf_118 : decode cX4_addBytesOf 118 = .ok (.aload 4, 2) := by decide +kernel
theorem dX4_addBytesOf_120 : decode cX4_addBytesOf 120 = .ok (.iload 5, 2) := by decide +kernel
theorem dX4_addBytesOf_122 : decode cX4_addBytesOf 122 = .ok (.iload 7, 2) := by decide +kernel
theorem dX4_addBytesOf_124 : decode cX4_addBytesOf 124 = .ok (.invokevirtual 334, 3) := by decide +kernel
theorem dX4_addBytesOf_127 : decode cX4_addBytesOf 127 = .ok (.aload 4, 2) := by decide +kernel
theorem dX4_addBytesOf_129 : decode cX4_addBytesOf 129 = .ok (.invokevirtual 331, 3) := by decide +kernel
theorem dX4_addBytesOf_132 : decode cX4_addBytesOf 132 = .ok (.istore 8, 2) := by decide +kernel
theorem dX4_addBytesOf_134 : decode cX4_addBytesOf 134 = .ok (.iload 8, 2) := by decide +kernel
theorem dX4_addBytesOf_136 : decode cX4_addBytesOf 136 = .ok (.ifCond .eq 9, 3) := by decide +kernel
theorem dX4_addBytesOf_139 : decode cX4_addBytesOf 139 = .ok (.aload 4, 2) := by decide +kernel
theorem dX4_addBytesOf_141 : decode cX4_addBytesOf 141 = .ok (.iconst 1, 1) := by decide +kernel
theorem dX4_addBytesOf_142 : decode cX4_addBytesOf 142 = .ok (.putfield 206, 3) := by decide +kernel
theorem dX4_addBytesOf_145 : decode cX4_addBytesOf 145 = .ok (.aload_n 3, 1) := by decide +kernel
theorem dX4_addBytesOf_146 : decode cX4_addBytesOf 146 = .ok (.iconst 4, 1) := by decide +kernel
theorem dX4_addBytesOf_147 : decode cX4_addBytesOf 147 = .ok (.iload_n 2, 1) := by decide +kernel
theorem dX4_addBytesOf_148 : decode cX4_addBytesOf 148 = .ok (.iload 5, 2) := by decide +kernel
theorem dX4_addBytesOf_150 : decode cX4_addBytesOf 150 = .ok (.iload 8, 2) := by decide +kernel
theorem dX4_addBytesOf_152 : decode cX4_addBytesOf 152 = .ok (.ifCond .eq 12, 3) := by decide +kernel
theorem dX4_addBytesOf_155 : decode cX4_addBytesOf 155 = .ok (.iload 7, 2) := by decide +kernel
theorem dX4_addBytesOf_157 : decode cX4_addBytesOf 157 = .ok (.sipush 10000, 3) := by decide +kernel
theorem dX4_addBytesOf_160 : decode cX4_addBytesOf 160 = .ok (.iadd, 1) := by decide +kernel
theorem dX4_addBytesOf_161 : decode cX4_addBytesOf 161 = .ok (.goto 5, 3) := by decide +kernel
theorem dX4_addBytesOf_164 : decode cX4_addBytesOf 164 = .ok (.iload 7, 2) := by decide +kernel
theorem dX4_addBytesOf_166 : decode cX4_addBytesOf 166 = .ok (.invokevirtual 296, 3) := by decide +kernel
theorem dX4_addBytesOf_169 : decode cX4_addBytesOf 169 = .ok (.ireturn, 1) := by decide +kernel
theorem dX4_newBytesOf_0 : decode cX4_newBytesOf 0 = .ok (.aload_n 1, 1) := by decide +kernel
theorem dX4_newBytesOf_1 : decode cX4_newBytesOf 1 = .ok (.getfield 62, 3) := by decide +kernel
theorem dX4_newBytesOf_4 : decode cX4_newBytesOf 4 = .ok (.aload_n 0, 1) := by decide +kernel
theorem dX4_newBytesOf_5 : decode cX4_newBytesOf 5 = .ok (.aload_n 1, 1) := by decide +kernel
theorem dX4_newBytesOf_6 : decode cX4_newBytesOf 6 = .ok (.invokevirtual 248, 3) := by decide +kernel
theorem dX4_newBytesOf_9 : decode cX4_newBytesOf 9 = .ok (.isub, 1) := by decide +kernel
theorem dX4_newBytesOf_10 : decode cX4_newBytesOf 10 = .ok (.istore_n 3, 1) := by decide +kernel
theorem dX4_newBytesOf_11 : decode cX4_newBytesOf 11 = .ok (.iconst 0, 1) := by decide +kernel
theorem dX4_newBytesOf_12 : decode cX4_newBytesOf 12 = .ok (.aload_n 2, 1) := by decide +kernel
theorem dX4_newBytesOf_13 : decode cX4_newBytesOf 13 = .ok (.getfield 79, 3) := by decide +kernel
theorem dX4_newBytesOf_16 : decode cX4_newBytesOf 16 = .ok (.aload_n 2, 1) := by decide +kernel
theorem dX4_newBytesOf_17 : decode cX4_newBytesOf 17 = .ok (.getfield 47, 3) := by decide +kernel
theorem dX4_newBytesOf_20 : decode cX4_newBytesOf 20 = .ok (.invokestatic 91, 3) := by decide +kernel
theorem dX4_newBytesOf_23 : decode cX4_newBytesOf 23 = .ok (.aload_n 2, 1) := by decide +kernel
theorem dX4_newBytesOf_24 : decode cX4_newBytesOf 24 = .ok (.getfield 197, 3) := by decide +kernel
theorem dX4_newBytesOf_27 : decode cX4_newBytesOf 27 = .ok (.isub, 1) := by decide +kernel
theorem dX4_newBytesOf_28 : decode cX4_newBytesOf 28 = .ok (.iload_n 3, 1) := by decide +kernel
theorem dX4_newBytesOf_29 : decode cX4_newBytesOf 29 = .ok (.invokestatic 91, 3) := by decide +kernel
theorem dX4_newBytesOf_32 : decode cX4_newBytesOf 32 = .ok (.invokestatic 180, 3) := by decide +kernel
theorem dX4_newBytesOf_35 : decode cX4_newBytesOf 35 = .ok (.ireturn, 1) := by decide +kernel
theorem dX4_putUnderWay_0 : decode cX4_putUnderWay 0 = .ok (.aload_n 1, 1) := by decide +kernel
theorem dX4_putUnderWay_1 : decode cX4_putUnderWay 1 = .ok (.getfield 114, 3) := by decide +kernel
theorem dX4_putUnderWay_4 : decode cX4_putUnderWay 4 = .ok (.sipush 300, 3) := by decide +kernel
theorem dX4_putUnderWay_7 : decode cX4_putUnderWay 7 = .ok (.if_icmp .ge 13, 3) := by decide +kernel
theorem dX4_putUnderWay_10 : decode cX4_putUnderWay 10 = .ok (.aload_n 0, 1) := by decide +kernel
theorem dX4_putUnderWay_11 : decode cX4_putUnderWay 11 = .ok (.getfield 117, 3) := by decide +kernel
theorem dX4_putUnderWay_14 : decode cX4_putUnderWay 14 = .ok (.sipush 400, 3) := by decide +kernel
theorem dX4_putUnderWay_17 : decode cX4_putUnderWay 17 = .ok (.if_icmp .lt 4, 3) := by decide +kernel
theorem dX4_putUnderWay_20 : decode cX4_putUnderWay 20 = .ok (.return_, 1) := by decide +kernel
theorem dX4_putUnderWay_21 : decode cX4_putUnderWay 21 = .ok (.aload_n 1, 1) := by decide +kernel
theorem dX4_putUnderWay_22 : decode cX4_putUnderWay 22 = .ok (.getfield 338, 3) := by decide +kernel
theorem dX4_putUnderWay_25 : decode cX4_putUnderWay 25 = .ok (.aload_n 1, 1) := by decide +kernel
theorem dX4_putUnderWay_26 : decode cX4_putUnderWay 26 = .ok (.getfield 114, 3) := by decide +kernel
theorem dX4_putUnderWay_29 : decode cX4_putUnderWay 29 = .ok (.aload_n 2, 1) := by decide +kernel
theorem dX4_putUnderWay_30 : decode cX4_putUnderWay 30 = .ok (.aastore, 1) := by decide +kernel
theorem dX4_putUnderWay_31 : decode cX4_putUnderWay 31 = .ok (.aload_n 1, 1) := by decide +kernel
theorem dX4_putUnderWay_32 : decode cX4_putUnderWay 32 = .ok (.dup, 1) := by decide +kernel
theorem dX4_putUnderWay_33 : decode cX4_putUnderWay 33 = .ok (.getfield 114, 3) := by decide +kernel
theorem dX4_putUnderWay_36 : decode cX4_putUnderWay 36 = .ok (.iconst 1, 1) := by decide +kernel
theorem dX4_putUnderWay_37 : decode cX4_putUnderWay 37 = .ok (.iadd, 1) := by decide +kernel
theorem dX4_putUnderWay_38 : decode cX4_putUnderWay 38 = .ok (.putfield 114, 3) := by decide +kernel
theorem dX4_putUnderWay_41 : decode cX4_putUnderWay 41 = .ok (.aload_n 0, 1) := by decide +kernel
theorem dX4_putUnderWay_42 : decode cX4_putUnderWay 42 = .ok (.getfield 21, 3) := by decide +kernel
theorem dX4_putUnderWay_45 : decode cX4_putUnderWay 45 = .ok (.aload_n 0, 1) := by decide +kernel
theorem dX4_putUnderWay_46 : decode cX4_putUnderWay 46 = .ok (.getfield 117, 3) := by decide +kernel
theorem dX4_putUnderWay_49 : decode cX4_putUnderWay 49 = .ok (.aload_n 2, 1) := by decide +kernel
theorem dX4_putUnderWay_50 : decode cX4_putUnderWay 50 = .ok (.aastore, 1) := by decide +kernel
theorem dX4_putUnderWay_51 : decode cX4_putUnderWay 51 = .ok (.aload_n 0, 1) := by decide +kernel
theorem dX4_putUnderWay_52 : decode cX4_putUnderWay 52 = .ok (.dup, 1) := by decide +kernel
theorem dX4_putUnderWay_53 : decode cX4_putUnderWay 53 = .ok (.getfield 117, 3) := by decide +kernel
theorem dX4_putUnderWay_56 : decode cX4_putUnderWay 56 = .ok (.iconst 1, 1) := by decide +kernel
theorem dX4_putUnderWay_57 : decode cX4_putUnderWay 57 = .ok (.iadd, 1) := by decide +kernel
theorem dX4_putUnderWay_58 : decode cX4_putUnderWay 58 = .ok (.putfield 117, 3) := by decide +kernel
theorem dX4_putUnderWay_61 : decode cX4_putUnderWay 61 = .ok (.aload_n 2, 1) := by decide +kernel
theorem dX4_putUnderWay_62 : decode cX4_putUnderWay 62 = .ok (.getfield 165, 3) := by decide +kernel
theorem dX4_putUnderWay_65 : decode cX4_putUnderWay 65 = .ok (.ifCond .eq 38, 3) := by decide +kernel
theorem dX4_putUnderWay_68 : decode cX4_putUnderWay 68 = .ok (.aload_n 1, 1) := by decide +kernel
theorem dX4_putUnderWay_69 : decode cX4_putUnderWay 69 = .ok (.getfield 53, 3) := by decide +kernel
theorem dX4_putUnderWay_72 : decode cX4_putUnderWay 72 = .ok (.dup, 1) := by decide +kernel
theorem dX4_putUnderWay_73 : decode cX4_putUnderWay 73 = .ok (.getfield 221, 3) := by decide +kernel
theorem dX4_putUnderWay_76 : decode cX4_putUnderWay 76 = .ok (.aload_n 2, 1) := by decide +kernel
theorem dX4_putUnderWay_77 : decode cX4_putUnderWay 77 = .ok (.getfield 256, 3) := by decide +kernel
theorem dX4_putUnderWay_80 : decode cX4_putUnderWay 80 = .ok (.iadd, 1) := by decide +kernel
theorem dX4_putUnderWay_81 : decode cX4_putUnderWay 81 = .ok (.putfield 221, 3) := by decide +kernel
theorem dX4_putUnderWay_84 : decode cX4_putUnderWay 84 = .ok (.aload_n 1, 1) := by decide +kernel
theorem dX4_putUnderWay_85 : decode cX4_putUnderWay 85 = .ok (.getfield 53, 3) := by decide +kernel
theorem dX4_putUnderWay_88 : decode cX4_putUnderWay 88 = .ok (.aload_n 0, 1) := by decide +kernel
theorem dX4_putUnderWay_89 : decode cX4_putUnderWay 89 = .ok (.getfield 129, 3) := by decide +kernel
theorem dX4_putUnderWay_92 : decode cX4_putUnderWay 92 = .ok (.putfield 341, 3) := by decide +kernel
theorem dX4_putUnderWay_95 : decode cX4_putUnderWay 95 = .ok (.aload_n 1, 1) := by decide +kernel
theorem dX4_putUnderWay_96 : decode cX4_putUnderWay 96 = .ok (.getfield 53, 3) := by decide +kernel
theorem dX4_putUnderWay_99 : decode cX4_putUnderWay 99 = .ok (.iconst 0, 1) := by decide +kernel
theorem dX4_putUnderWay_100 : decode cX4_putUnderWay 100 = .ok (.putfield 242, 3) := by decide +kernel
theorem dX4_putUnderWay_103 : decode cX4_putUnderWay 103 = .ok (.aload_n 1, 1) := by decide +kernel
theorem dX4_putUnderWay_104 : decode cX4_putUnderWay 104 = .ok (.getfield 276, 3) := by decide +kernel
theorem dX4_putUnderWay_107 : decode cX4_putUnderWay 107 = .ok (.iconst 1, 1) := by decide +kernel
theorem dX4_putUnderWay_108 : decode cX4_putUnderWay 108 = .ok (.if_icmp .ne 23, 3) := by decide +kernel
theorem dX4_putUnderWay_111 : decode cX4_putUnderWay 111 = .ok (.aload_n 0, 1) := by decide +kernel
theorem dX4_putUnderWay_112 : decode cX4_putUnderWay 112 = .ok (.getfield 120, 3) := by decide +kernel
theorem dX4_putUnderWay_115 : decode cX4_putUnderWay 115 = .ok (.ifCond .eq 16, 3) := by decide +kernel
theorem dX4_putUnderWay_118 : decode cX4_putUnderWay 118 = .ok (.aload_n 0, 1) := by decide +kernel
theorem dX4_putUnderWay_119 : decode cX4_putUnderWay 119 = .ok (.dup, 1) := by decide +kernel
theorem dX4_putUnderWay_120 : decode cX4_putUnderWay 120 = .ok (.getfield 123, 3) := by decide +kernel
theorem dX4_putUnderWay_123 : decode cX4_putUnderWay 123 = .ok (.aload_n 2, 1) := by decide +kernel
theorem dX4_putUnderWay_124 : decode cX4_putUnderWay 124 = .ok (.getfield 256, 3) := by decide +kernel
theorem dX4_putUnderWay_127 : decode cX4_putUnderWay 127 = .ok (.iadd, 1) := by decide +kernel
theorem dX4_putUnderWay_128 : decode cX4_putUnderWay 128 = .ok (.putfield 123, 3) := by decide +kernel
theorem dX4_putUnderWay_131 : decode cX4_putUnderWay 131 = .ok (.return_, 1) := by decide +kernel
theorem dX4_takeOffNet_0 : decode cX4_takeOffNet 0 = .ok (.iload_n 1, 1) := by decide +kernel
theorem dX4_takeOffNet_1 : decode cX4_takeOffNet 1 = .ok (.istore_n 2, 1) := by decide +kernel
theorem dX4_takeOffNet_2 : decode cX4_takeOffNet 2 = .ok (.iload_n 2, 1) := by decide +kernel
theorem dX4_takeOffNet_3 : decode cX4_takeOffNet 3 = .ok (.aload_n 0, 1) := by decide +kernel
theorem dX4_takeOffNet_4 : decode cX4_takeOffNet 4 = .ok (.getfield 117, 3) := by decide +kernel
theorem dX4_takeOffNet_7 : decode cX4_takeOffNet 7 = .ok (.iconst 1, 1) := by decide +kernel
theorem dX4_takeOffNet_8 : decode cX4_takeOffNet 8 = .ok (.isub, 1) := by decide +kernel
theorem dX4_takeOffNet_9 : decode cX4_takeOffNet 9 = .ok (.if_icmp .ge 23, 3) := by decide +kernel
theorem dX4_takeOffNet_12 : decode cX4_takeOffNet 12 = .ok (.aload_n 0, 1) := by decide +kernel
theorem dX4_takeOffNet_13 : decode cX4_takeOffNet 13 = .ok (.getfield 21, 3) := by decide +kernel
theorem dX4_takeOffNet_16 : decode cX4_takeOffNet 16 = .ok (.iload_n 2, 1) := by decide +kernel
theorem dX4_takeOffNet_17 : decode cX4_takeOffNet 17 = .ok (.aload_n 0, 1) := by decide +kernel
theorem dX4_takeOffNet_18 : decode cX4_takeOffNet 18 = .ok (.getfield 21, 3) := by decide +kernel
theorem dX4_takeOffNet_21 : decode cX4_takeOffNet 21 = .ok (.iload_n 2, 1) := by decide +kernel
theorem dX4_takeOffNet_22 : decode cX4_takeOffNet 22 = .ok (.iconst 1, 1) := by decide +kernel
theorem dX4_takeOffNet_23 : decode cX4_takeOffNet 23 = .ok (.iadd, 1) := by decide +kernel
theorem dX4_takeOffNet_24 : decode cX4_takeOffNet 24 = .ok (.aaload, 1) := by decide +kernel
theorem dX4_takeOffNet_25 : decode cX4_takeOffNet 25 = .ok (.aastore, 1) := by decide +kernel
theorem dX4_takeOffNet_26 : decode cX4_takeOffNet 26 = .ok (.iinc 2 1, 3) := by decide +kernel
theorem dX4_takeOffNet_29 : decode cX4_takeOffNet 29 = .ok (.goto (-27), 3) := by decide +kernel
theorem dX4_takeOffNet_32 : decode cX4_takeOffNet 32 = .ok (.aload_n 0, 1) := by decide +kernel
theorem dX4_takeOffNet_33 : decode cX4_takeOffNet 33 = .ok (.dup, 1) := by decide +kernel
theorem dX4_takeOffNet_34 : decode cX4_takeOffNet 34 = .ok (.getfield 117, 3) := by decide +kernel
theorem dX4_takeOffNet_37 : decode cX4_takeOffNet 37 = .ok (.iconst 1, 1) := by decide +kernel
theorem dX4_takeOffNet_38 : decode cX4_takeOffNet 38 = .ok (.isub, 1) := by decide +kernel
theorem dX4_takeOffNet_39 : decode cX4_takeOffNet 39 = .ok (.putfield 117, 3) := by decide +kernel
theorem dX4_takeOffNet_42 : decode cX4_takeOffNet 42 = .ok (.aload_n 0, 1) := by decide +kernel
theorem dX4_takeOffNet_43 : decode cX4_takeOffNet 43 = .ok (.getfield 21, 3) := by decide +kernel
theorem dX4_takeOffNet_46 : decode cX4_takeOffNet 46 = .ok (.aload_n 0, 1) := by decide +kernel
theorem dX4_takeOffNet_47 : decode cX4_takeOffNet 47 = .ok (.getfield 117, 3) := by decide +kernel
theorem dX4_takeOffNet_50 : decode cX4_takeOffNet 50 = .ok (.aconst_null, 1) := by decide +kernel
theorem dX4_takeOffNet_51 : decode cX4_takeOffNet 51 = .ok (.aastore, 1) := by decide +kernel
theorem dX4_takeOffNet_52 : decode cX4_takeOffNet 52 = .ok (.return_, 1) := by decide +kernel
theorem dX4_lookAtAddress_0 : decode cX4_lookAtAddress 0 = .ok (.aload_n 2, 1) := by decide +kernel
theorem dX4_lookAtAddress_1 : decode cX4_lookAtAddress 1 = .ok (.getfield 165, 3) := by decide +kernel
theorem dX4_lookAtAddress_4 : decode cX4_lookAtAddress 4 = .ok (.ifCond .eq 68, 3) := by decide +kernel
theorem dX4_lookAtAddress_7 : decode cX4_lookAtAddress 7 = .ok (.aload_n 2, 1) := by decide +kernel
theorem dX4_lookAtAddress_8 : decode cX4_lookAtAddress 8 = .ok (.getfield 148, 3) := by decide +kernel
theorem dX4_lookAtAddress_11 : decode cX4_lookAtAddress 11 = .ok (.aload_n 1, 1) := by decide +kernel
theorem dX4_lookAtAddress_12 : decode cX4_lookAtAddress 12 = .ok (.getfield 177, 3) := by decide +kernel
theorem dX4_lookAtAddress_15 : decode cX4_lookAtAddress 15 = .ok (.if_icmp .le 57, 3) := by decide +kernel
theorem dX4_lookAtAddress_18 : decode cX4_lookAtAddress 18 = .ok (.aload_n 2, 1) := by decide +kernel
theorem dX4_lookAtAddress_19 : decode cX4_lookAtAddress 19 = .ok (.getfield 161, 3) := by decide +kernel
theorem dX4_lookAtAddress_22 : decode cX4_lookAtAddress 22 = .ok (.aload_n 0, 1) := by decide +kernel
theorem dX4_lookAtAddress_23 : decode cX4_lookAtAddress 23 = .ok (.getfield 132, 3) := by decide +kernel
theorem dX4_lookAtAddress_26 : decode cX4_lookAtAddress 26 = .ok (.if_icmp .eq 46, 3) := by decide +kernel
theorem dX4_lookAtAddress_29 : decode cX4_lookAtAddress 29 = .ok (.aload_n 0, 1) := by decide +kernel
theorem dX4_lookAtAddress_30 : decode cX4_lookAtAddress 30 = .ok (.aload_n 2, 1) := by decide +kernel
theorem dX4_lookAtAddress_31 : decode cX4_lookAtAddress 31 = .ok (.getfield 161, 3) := by decide +kernel
theorem dX4_lookAtAddress_34 : decode cX4_lookAtAddress 34 = .ok (.putfield 132, 3) := by decide +kernel
theorem dX4_lookAtAddress_37 : decode cX4_lookAtAddress 37 = .ok (.aload_n 0, 1) := by decide +kernel
theorem dX4_lookAtAddress_38 : decode cX4_lookAtAddress 38 = .ok (.iconst 1, 1) := by decide +kernel
theorem dX4_lookAtAddress_39 : decode cX4_lookAtAddress 39 = .ok (.putfield 120, 3) := by decide +kernel
theorem dX4_lookAtAddress_42 : decode cX4_lookAtAddress 42 = .ok (.aload_n 0, 1) := by decide +kernel
theorem dX4_lookAtAddress_43 : decode cX4_lookAtAddress 43 = .ok (.iconst 0, 1) := by decide +kernel
theorem dX4_lookAtAddress_44 : decode cX4_lookAtAddress 44 = .ok (.putfield 126, 3) := by decide +kernel
theorem dX4_lookAtAddress_47 : decode cX4_lookAtAddress 47 = .ok (.aload_n 0, 1) := by decide +kernel
theorem dX4_lookAtAddress_48 : decode cX4_lookAtAddress 48 = .ok (.iconst 0, 1) := by decide +kernel
theorem dX4_lookAtAddress_49 : decode cX4_lookAtAddress 49 = .ok (.putfield 123, 3) := by decide +kernel
theorem dX4_lookAtAddress_52 : decode cX4_lookAtAddress 52 = .ok (.aload_n 1, 1) := by decide +kernel
theorem dX4_lookAtAddress_53 : decode cX4_lookAtAddress 53 = .ok (.iconst 1, 1) := by decide +kernel
theorem dX4_lookAtAddress_54 : decode cX4_lookAtAddress 54 = .ok (.putfield 303, 3) := by decide +kernel
theorem dX4_lookAtAddress_57 : decode cX4_lookAtAddress 57 = .ok (.aload_n 1, 1) := by decide +kernel
theorem dX4_lookAtAddress_58 : decode cX4_lookAtAddress 58 = .ok (.getfield 53, 3) := by decide +kernel
theorem dX4_lookAtAddress_61 : decode cX4_lookAtAddress 61 = .ok (.aload_n 0, 1) := by decide +kernel
theorem dX4_lookAtAddress_62 : decode cX4_lookAtAddress 62 = .ok (.getfield 7, 3) := by decide +kernel
theorem dX4_lookAtAddress_65 : decode cX4_lookAtAddress 65 = .ok (.aload_n 0, 1) := by decide +kernel
theorem dX4_lookAtAddress_66 : decode cX4_lookAtAddress 66 = .ok (.getfield 129, 3) := by decide +kernel
theorem dX4_lookAtAddress_69 : decode cX4_lookAtAddress 69 = .ok (.invokevirtual 344, 3) := by decide +kernel
theorem dX4_lookAtAddress_72 : decode cX4_lookAtAddress 72 = .ok (.aload_n 0, 1) := by decide +kernel
theorem dX4_lookAtAddress_73 : decode cX4_lookAtAddress 73 = .ok (.getfield 120, 3) := by decide +kernel
theorem dX4_lookAtAddress_76 : decode cX4_lookAtAddress 76 = .ok (.ifCond .eq 27, 3) := by decide +kernel
theorem dX4_lookAtAddress_79 : decode cX4_lookAtAddress 79 = .ok (.aload_n 2, 1) := by decide +kernel
theorem dX4_lookAtAddress_80 : decode cX4_lookAtAddress 80 = .ok (.getfield 161, 3) := by decide +kernel
theorem dX4_lookAtAddress_83 : decode cX4_lookAtAddress 83 = .ok (.aload_n 0, 1) := by decide +kernel
theorem dX4_lookAtAddress_84 : decode cX4_lookAtAddress 84 = .ok (.getfield 132, 3) := by decide +kernel
theorem dX4_lookAtAddress_87 : decode cX4_lookAtAddress 87 = .ok (.if_icmp .ne 16, 3) := by decide +kernel
theorem dX4_lookAtAddress_90 : decode cX4_lookAtAddress 90 = .ok (.aload_n 0, 1) := by decide +kernel
theorem dX4_lookAtAddress_91 : decode cX4_lookAtAddress 91 = .ok (.dup, 1) := by decide +kernel
theorem dX4_lookAtAddress_92 : decode cX4_lookAtAddress 92 = .ok (.getfield 126, 3) := by decide +kernel
theorem dX4_lookAtAddress_95 : decode cX4_lookAtAddress 95 = .ok (.aload_n 2, 1) := by decide +kernel
theorem dX4_lookAtAddress_96 : decode cX4_lookAtAddress 96 = .ok (.getfield 256, 3) := by decide +kernel
theorem dX4_lookAtAddress_99 : decode cX4_lookAtAddress 99 = .ok (.iadd, 1) := by decide +kernel
theorem dX4_lookAtAddress_100 : decode cX4_lookAtAddress 100 = .ok (.putfield 126, 3) := by decide +kernel
theorem dX4_lookAtAddress_103 : decode cX4_lookAtAddress 103 = .ok (.return_, 1) := by decide +kernel
theorem dX4_takeParts_0 : decode cX4_takeParts 0 = .ok (.iconst 0, 1) := by decide +kernel
theorem dX4_takeParts_1 : decode cX4_takeParts 1 = .ok (.istore_n 3, 1) := by decide +kernel
theorem dX4_takeParts_2 : decode cX4_takeParts 2 = .ok (.iload_n 3, 1) := by decide +kernel
theorem dX4_takeParts_3 : decode cX4_takeParts 3 = .ok (.aload_n 2, 1) := by decide +kernel
theorem dX4_takeParts_4 : decode cX4_takeParts 4 = .ok (.getfield 142, 3) := by decide +kernel
theorem dX4_takeParts_7 : decode cX4_takeParts 7 = .ok (.if_icmp .ge 219, 3) := by decide +kernel
theorem dX4_takeParts_10 : decode cX4_takeParts 10 = .ok (.aload_n 0, 1) := by decide +kernel
theorem dX4_takeParts_11 : decode cX4_takeParts 11 = .ok (.aload_n 2, 1) := by decide +kernel
theorem dX4_takeParts_12 : decode cX4_takeParts 12 = .ok (.iload_n 3, 1) := by decide +kernel
theorem dX4_takeParts_13 : decode cX4_takeParts 13 = .ok (.iconst 1, 1) := by decide +kernel
theorem dX4_takeParts_14 : decode cX4_takeParts 14 = .ok (.invokevirtual 265, 3) := by decide +kernel
theorem dX4_takeParts_17 : decode cX4_takeParts 17 = .ok (.invokevirtual 68, 3) := by decide +kernel
theorem dX4_takeParts_20 : decode cX4_takeParts 20 = .ok (.astore 4, 2) := by decide +kernel
theorem dX4_takeParts_22 : decode cX4_takeParts 22 = .ok (.aload_n 2, 1) := by decide +kernel
theorem dX4_takeParts_23 : decode cX4_takeParts 23 = .ok (.iload_n 3, 1) := by decide +kernel
theorem dX4_takeParts_24 : decode cX4_takeParts 24 = .ok (.iconst 2, 1) := by decide +kernel
theorem dX4_takeParts_25 : decode cX4_takeParts 25 = .ok (.invokevirtual 265, 3) := by decide +kernel
theorem dX4_takeParts_28 : decode cX4_takeParts 28 = .ok (.istore 5, 2) := by decide +kernel
theorem dX4_takeParts_30 : decode cX4_takeParts 30 = .ok (.aload_n 2, 1) := by decide +kernel
theorem dX4_takeParts_31 : decode cX4_takeParts 31 = .ok (.iload_n 3, 1) := by decide +kernel
theorem dX4_takeParts_32 : decode cX4_takeParts 32 = .ok (.iconst 3, 1) := by decide +kernel
theorem dX4_takeParts_33 : decode cX4_takeParts 33 = .ok (.invokevirtual 265, 3) := by decide +kernel
theorem dX4_takeParts_36 : decode cX4_takeParts 36 = .ok (.istore 6, 2) := by decide +kernel
theorem dX4_takeParts_38 : decode cX4_takeParts 38 = .ok (.aload 4, 2) := by decide +kernel
theorem dX4_takeParts_40 : decode cX4_takeParts 40 = .ok (.ifnonnull 7, 3) := by decide +kernel
theorem dX4_takeParts_43 : decode cX4_takeParts 43 = .ok (.iconst 0, 1) := by decide +kernel
theorem dX4_takeParts_44 : decode cX4_takeParts 44 = .ok (.goto 9, 3) := by decide +kernel
theorem dX4_takeParts_47 : decode cX4_takeParts 47 = .ok (.aload_n 2, 1) := by decide +kernel
theorem dX4_takeParts_48 : decode cX4_takeParts 48 = .ok (.iload_n 3, 1) := by decide +kernel
theorem dX4_takeParts_49 : decode cX4_takeParts 49 = .ok (.iconst 0, 1) := by decide +kernel
theorem dX4_takeParts_50 : decode cX4_takeParts 50 = .ok (.invokevirtual 265, 3) := by decide +kernel
theorem dX4_takeParts_53 : decode cX4_takeParts 53 = .ok (.tableswitch 167 1 7 #[43, 52, 70, 86, 124, 133, 142], 43) := by decide +kernel
theorem dX4_takeParts_96 : decode cX4_takeParts 96 = .ok (.aload_n 0, 1) := by decide +kernel
theorem dX4_takeParts_97 : decode cX4_takeParts 97 = .ok (.aload_n 1, 1) := by decide +kernel
theorem dX4_takeParts_98 : decode cX4_takeParts 98 = .ok (.aload_n 2, 1) := by decide +kernel
theorem dX4_takeParts_99 : decode cX4_takeParts 99 = .ok (.invokevirtual 347, 3) := by decide +kernel
theorem dX4_takeParts_102 : decode cX4_takeParts 102 = .ok (.goto 118, 3) := by decide +kernel
theorem dX4_takeParts_105 : decode cX4_takeParts 105 = .ok (.aload 4, 2) := by decide +kernel
theorem dX4_takeParts_107 : decode cX4_takeParts 107 = .ok (.aload 4, 2) := by decide +kernel
theorem dX4_takeParts_109 : decode cX4_takeParts 109 = .ok (.getfield 47, 3) := by decide +kernel
theorem dX4_takeParts_112 : decode cX4_takeParts 112 = .ok (.iload 5, 2) := by decide +kernel
theorem dX4_takeParts_114 : decode cX4_takeParts 114 = .ok (.invokestatic 180, 3) := by decide +kernel
theorem dX4_takeParts_117 : decode cX4_takeParts 117 = .ok (.putfield 47, 3) := by decide +kernel
theorem dX4_takeParts_120 : decode cX4_takeParts 120 = .ok (.goto 100, 3) := by decide +kernel
theorem dX4_takeParts_123 : decode cX4_takeParts 123 = .ok (.aload_n 1, 1) := by decide +kernel
theorem dX4_takeParts_124 : decode cX4_takeParts 124 = .ok (.aload_n 1, 1) := by decide +kernel
theorem dX4_takeParts_125 : decode cX4_takeParts 125 = .ok (.getfield 62, 3) := by decide +kernel
theorem dX4_takeParts_128 : decode cX4_takeParts 128 = .ok (.iload 5, 2) := by decide +kernel
theorem dX4_takeParts_130 : decode cX4_takeParts 130 = .ok (.invokestatic 180, 3) := by decide +kernel
theorem dX4_takeParts_133 : decode cX4_takeParts 133 = .ok (.putfield 62, 3) := by decide +kernel
theorem dX4_takeParts_136 : decode cX4_takeParts 136 = .ok (.goto 84, 3) := by decide +kernel
theorem dX4_takeParts_139 : decode cX4_takeParts 139 = .ok (.aload 4, 2) := by decide +kernel
theorem dX4_takeParts_141 : decode cX4_takeParts 141 = .ok (.iload 5, 2) := by decide +kernel
theorem dX4_takeParts_143 : decode cX4_takeParts 143 = .ok (.iload 6, 2) := by decide +kernel
theorem dX4_takeParts_145 : decode cX4_takeParts 145 = .ok (.sipush 10000, 3) := by decide +kernel
theorem dX4_takeParts_148 : decode cX4_takeParts 148 = .ok (.irem, 1) := by decide +kernel
theorem dX4_takeParts_149 : decode cX4_takeParts 149 = .ok (.invokevirtual 350, 3) := by decide +kernel
theorem dX4_takeParts_152 : decode cX4_takeParts 152 = .ok (.iload 6, 2) := by decide +kernel
theorem dX4_takeParts_154 : decode cX4_takeParts 154 = .ok (.sipush 10000, 3) := by decide +kernel
theorem dX4_takeParts_157 : decode cX4_takeParts 157 = .ok (.if_icmp .lt 63, 3) := by decide +kernel
theorem dX4_takeParts_160 : decode cX4_takeParts 160 = .ok (.aload 4, 2) := by decide +kernel
theorem dX4_takeParts_162 : decode cX4_takeParts 162 = .ok (.iload 5, 2) := by decide +kernel
theorem dX4_takeParts_164 : decode cX4_takeParts 164 = .ok (.iload 6, 2) := by decide +kernel
theorem dX4_takeParts_166 : decode cX4_takeParts 166 = .ok (.sipush 10000, 3) := by decide +kernel
theorem dX4_takeParts_169 : decode cX4_takeParts 169 = .ok (.irem, 1) := by decide +kernel
theorem dX4_takeParts_170 : decode cX4_takeParts 170 = .ok (.iadd, 1) := by decide +kernel
theorem dX4_takeParts_171 : decode cX4_takeParts 171 = .ok (.putfield 211, 3) := by decide +kernel
theorem dX4_takeParts_174 : decode cX4_takeParts 174 = .ok (.goto 46, 3) := by decide +kernel
theorem dX4_takeParts_177 : decode cX4_takeParts 177 = .ok (.aload 4, 2) := by decide +kernel
theorem dX4_takeParts_179 : decode cX4_takeParts 179 = .ok (.iconst 1, 1) := by decide +kernel
theorem dX4_takeParts_180 : decode cX4_takeParts 180 = .ok (.putfield 214, 3) := by decide +kernel
theorem dX4_takeParts_183 : decode cX4_takeParts 183 = .ok (.goto 37, 3) := by decide +kernel
theorem dX4_takeParts_186 : decode cX4_takeParts 186 = .ok (.aload_n 1, 1) := by decide +kernel
theorem dX4_takeParts_187 : decode cX4_takeParts 187 = .ok (.iload 5, 2) := by decide +kernel
theorem dX4_takeParts_189 : decode cX4_takeParts 189 = .ok (.putfield 300, 3) := by decide +kernel
theorem dX4_takeParts_192 : decode cX4_takeParts 192 = .ok (.goto 28, 3) := by decide +kernel
theorem dX4_takeParts_195 : decode cX4_takeParts 195 = .ok (.aload_n 1, 1) := by decide +kernel
theorem dX4_takeParts_196 : decode cX4_takeParts 196 = .ok (.getfield 276, 3) := by decide +kernel
theorem dX4_takeParts_199 : decode cX4_takeParts 199 = .ok (.iconst 1, 1) := by decide +kernel
theorem dX4_takeParts_200 : decode cX4_takeParts 200 = .ok (.if_icmp .ne 20, 3) := by decide +kernel
theorem dX4_takeParts_203 : decode cX4_takeParts 203 = .ok (.iload 5, 2) := by decide +kernel
theorem dX4_takeParts_205 : decode cX4_takeParts 205 = .ok (.aload_n 0, 1) := by decide +kernel
theorem dX4_takeParts_206 : decode cX4_takeParts 206 = .ok (.getfield 132, 3) := by decide +kernel
theorem dX4_takeParts_209 : decode cX4_takeParts 209 = .ok (.if_icmp .ne 11, 3) := by decide +kernel
theorem dX4_takeParts_212 : decode cX4_takeParts 212 = .ok (.aload_n 0, 1) := by decide +kernel
theorem dX4_takeParts_213 : decode cX4_takeParts 213 = .ok (.iconst 0, 1) := by decide +kernel
theorem dX4_takeParts_214 : decode cX4_takeParts 214 = .ok (.putfield 120, 3) := by decide +kernel
theorem dX4_takeParts_217 : decode cX4_takeParts 217 = .ok (.goto 3, 3) := by decide +kernel
theorem dX4_takeParts_220 : decode cX4_takeParts 220 = .ok (.iinc 3 1, 3) := by decide +kernel
theorem dX4_takeParts_223 : decode cX4_takeParts 223 = .ok (.goto (-221), 3) := by decide +kernel
theorem dX4_takeParts_226 : decode cX4_takeParts 226 = .ok (.return_, 1) := by decide +kernel
theorem dX4_takeTold_0 : decode cX4_takeTold 0 = .ok (.aload_n 2, 1) := by decide +kernel
theorem dX4_takeTold_1 : decode cX4_takeTold 1 = .ok (.getfield 268, 3) := by decide +kernel
theorem dX4_takeTold_4 : decode cX4_takeTold 4 = .ok (.iconst 1, 1) := by decide +kernel
theorem dX4_takeTold_5 : decode cX4_takeTold 5 = .ok (.iaload, 1) := by decide +kernel
theorem dX4_takeTold_6 : decode cX4_takeTold 6 = .ok (.istore_n 3, 1) := by decide +kernel
theorem dX4_takeTold_7 : decode cX4_takeTold 7 = .ok (.aload_n 1, 1) := by decide +kernel
theorem dX4_takeTold_8 : decode cX4_takeTold 8 = .ok (.iload_n 3, 1) := by decide +kernel
theorem dX4_takeTold_9 : decode cX4_takeTold 9 = .ok (.invokevirtual 272, 3) := by decide +kernel
theorem dX4_takeTold_12 : decode cX4_takeTold 12 = .ok (.astore 4, 2) := by decide +kernel
theorem dX4_takeTold_14 : decode cX4_takeTold 14 = .ok (.aload 4, 2) := by decide +kernel
theorem dX4_takeTold_16 : decode cX4_takeTold 16 = .ok (.ifnull 23, 3) := by decide +kernel
theorem dX4_takeTold_19 : decode cX4_takeTold 19 = .ok (.aload 4, 2) := by decide +kernel
theorem dX4_takeTold_21 : decode cX4_takeTold 21 = .ok (.getfield 165, 3) := by decide +kernel
theorem dX4_takeTold_24 : decode cX4_takeTold 24 = .ok (.ifCond .eq 15, 3) := by decide +kernel
theorem dX4_takeTold_27 : decode cX4_takeTold 27 = .ok (.aload 4, 2) := by decide +kernel
theorem dX4_takeTold_29 : decode cX4_takeTold 29 = .ok (.getfield 259, 3) := by decide +kernel
theorem dX4_takeTold_32 : decode cX4_takeTold 32 = .ok (.ifCond .ne 7, 3) := by decide +kernel
theorem dX4_takeTold_35 : decode cX4_takeTold 35 = .ok (.iconst 1, 1) := by decide +kernel
theorem dX4_takeTold_36 : decode cX4_takeTold 36 = .ok (.goto 4, 3) := by decide +kernel
theorem dX4_takeTold_39 : decode cX4_takeTold 39 = .ok (.iconst 0, 1) := by decide +kernel
theorem dX4_takeTold_40 : decode cX4_takeTold 40 = .ok (.istore 5, 2) := by decide +kernel
theorem dX4_takeTold_42 : decode cX4_takeTold 42 = .ok (.iconst 0, 1) := by decide +kernel
theorem dX4_takeTold_43 : decode cX4_takeTold 43 = .ok (.istore 6, 2) := by decide +kernel
theorem dX4_takeTold_45 : decode cX4_takeTold 45 = .ok (.iconst 3, 1) := by decide +kernel
theorem dX4_takeTold_46 : decode cX4_takeTold 46 = .ok (.istore 7, 2) := by decide +kernel
theorem dX4_takeTold_48 : decode cX4_takeTold 48 = .ok (.iload 7, 2) := by decide +kernel
theorem dX4_takeTold_50 : decode cX4_takeTold 50 = .ok (.ifCond .lt 94, 3) := by decide +kernel
theorem dX4_takeTold_53 : decode cX4_takeTold 53 = .ok (.iconst 0, 1) := by decide +kernel
theorem dX4_takeTold_54 : decode cX4_takeTold 54 = .ok (.aload_n 2, 1) := by decide +kernel
theorem dX4_takeTold_55 : decode cX4_takeTold 55 = .ok (.getfield 268, 3) := by decide +kernel
theorem dX4_takeTold_58 : decode cX4_takeTold 58 = .ok (.iconst 2, 1) := by decide +kernel
theorem dX4_takeTold_59 : decode cX4_takeTold 59 = .ok (.iload 7, 2) := by decide +kernel
theorem dX4_takeTold_61 : decode cX4_takeTold 61 = .ok (.imul, 1) := by decide +kernel
theorem dX4_takeTold_62 : decode cX4_takeTold 62 = .ok (.iaload, 1) := by decide +kernel
theorem dX4_takeTold_63 : decode cX4_takeTold 63 = .ok (.invokestatic 180, 3) := by decide +kernel
theorem dX4_takeTold_66 : decode cX4_takeTold 66 = .ok (.istore 8, 2) := by decide +kernel
theorem dX4_takeTold_68 : decode cX4_takeTold 68 = .ok (.iload 8, 2) := by decide +kernel
theorem dX4_takeTold_70 : decode cX4_takeTold 70 = .ok (.aload_n 2, 1) := by decide +kernel
theorem dX4_takeTold_71 : decode cX4_takeTold 71 = .ok (.getfield 268, 3) := by decide +kernel
theorem dX4_takeTold_74 : decode cX4_takeTold 74 = .ok (.iconst 2, 1) := by decide +kernel
theorem dX4_takeTold_75 : decode cX4_takeTold 75 = .ok (.iload 7, 2) := by decide +kernel
theorem dX4_takeTold_77 : decode cX4_takeTold 77 = .ok (.imul, 1) := by decide +kernel
theorem dX4_takeTold_78 : decode cX4_takeTold 78 = .ok (.iconst 1, 1) := by decide +kernel
theorem dX4_takeTold_79 : decode cX4_takeTold 79 = .ok (.iadd, 1) := by decide +kernel
theorem dX4_takeTold_80 : decode cX4_takeTold 80 = .ok (.iaload, 1) := by decide +kernel
theorem dX4_takeTold_81 : decode cX4_takeTold 81 = .ok (.if_icmp .gt 57, 3) := by decide +kernel
theorem dX4_takeTold_84 : decode cX4_takeTold 84 = .ok (.aload_n 1, 1) := by decide +kernel
theorem dX4_takeTold_85 : decode cX4_takeTold 85 = .ok (.iload 8, 2) := by decide +kernel
theorem dX4_takeTold_87 : decode cX4_takeTold 87 = .ok (.invokevirtual 272, 3) := by decide +kernel
theorem dX4_takeTold_90 : decode cX4_takeTold 90 = .ok (.astore 9, 2) := by decide +kernel
theorem dX4_takeTold_92 : decode cX4_takeTold 92 = .ok (.aload 9, 2) := by decide +kernel
theorem dX4_takeTold_94 : decode cX4_takeTold 94 = .ok (.ifnull 38, 3) := by decide +kernel
theorem dX4_takeTold_97 : decode cX4_takeTold 97 = .ok (.aload 9, 2) := by decide +kernel
theorem dX4_takeTold_99 : decode cX4_takeTold 99 = .ok (.getfield 259, 3) := by decide +kernel
theorem dX4_takeTold_102 : decode cX4_takeTold 102 = .ok (.ifCond .ne 30, 3) := by decide +kernel
theorem dX4_takeTold_105 : decode cX4_takeTold 105 = .ok (.iload 6, 2) := by decide +kernel
theorem dX4_takeTold_107 : decode cX4_takeTold 107 = .ok (.ifCond .ne 11, 3) := by decide +kernel
theorem dX4_takeTold_110 : decode cX4_takeTold 110 = .ok (.aload 9, 2) := by decide +kernel
theorem dX4_takeTold_112 : decode cX4_takeTold 112 = .ok (.getfield 165, 3) := by decide +kernel
theorem dX4_takeTold_115 : decode cX4_takeTold 115 = .ok (.ifCond .eq 7, 3) := by decide +kernel
theorem dX4_takeTold_118 : decode cX4_takeTold 118 = .ok (.iconst 1, 1) := by decide +kernel
theorem dX4_takeTold_119 : decode cX4_takeTold 119 = .ok (.goto 4, 3) := by decide +kernel
theorem dX4_takeTold_122 : decode cX4_takeTold 122 = .ok (.iconst 0, 1) := by decide +kernel
theorem dX4_takeTold_123 : decode cX4_takeTold 123 = .ok (.istore 6, 2) := by decide +kernel
theorem dX4_takeTold_125 : decode cX4_takeTold 125 = .ok (.aload_n 0, 1) := by decide +kernel
theorem dX4_takeTold_126 : decode cX4_takeTold 126 = .ok (.aload_n 1, 1) := by decide +kernel
theorem dX4_takeTold_127 : decode cX4_takeTold 127 = .ok (.aload 9, 2) := by decide +kernel
theorem dX4_takeTold_129 : decode cX4_takeTold 129 = .ok (.invokevirtual 353, 3) := by decide +kernel
theorem dX4_takeTold_132 : decode cX4_takeTold 132 = .ok (.iinc 8 1, 3) := by decide +kernel
theorem dX4_takeTold_135 : decode cX4_takeTold 135 = .ok (.goto (-67), 3) := by decide +kernel
theorem dX4_takeTold_138 : decode cX4_takeTold 138 = .ok (.iinc 7 (-1), 3) := by decide +kernel
theorem dX4_takeTold_141 : decode cX4_takeTold 141 = .ok (.goto (-93), 3) := by decide +kernel
theorem dX4_takeTold_144 : decode cX4_takeTold 144 = .ok (.aload_n 1, 1) := by decide +kernel
theorem dX4_takeTold_145 : decode cX4_takeTold 145 = .ok (.aload_n 1, 1) := by decide +kernel
theorem dX4_takeTold_146 : decode cX4_takeTold 146 = .ok (.getfield 245, 3) := by decide +kernel
theorem dX4_takeTold_149 : decode cX4_takeTold 149 = .ok (.iload_n 3, 1) := by decide +kernel
theorem dX4_takeTold_150 : decode cX4_takeTold 150 = .ok (.invokestatic 180, 3) := by decide +kernel
theorem dX4_takeTold_153 : decode cX4_takeTold 153 = .ok (.putfield 245, 3) := by decide +kernel
theorem dX4_takeTold_156 : decode cX4_takeTold 156 = .ok (.iload 5, 2) := by decide +kernel
theorem dX4_takeTold_158 : decode cX4_takeTold 158 = .ok (.ifCond .eq 20, 3) := by decide +kernel
theorem dX4_takeTold_161 : decode cX4_takeTold 161 = .ok (.aload_n 1, 1) := by decide +kernel
theorem dX4_takeTold_162 : decode cX4_takeTold 162 = .ok (.getfield 53, 3) := by decide +kernel
theorem dX4_takeTold_165 : decode cX4_takeTold 165 = .ok (.aload_n 0, 1) := by decide +kernel
theorem dX4_takeTold_166 : decode cX4_takeTold 166 = .ok (.getfield 129, 3) := by decide +kernel
theorem dX4_takeTold_169 : decode cX4_takeTold 169 = .ok (.aload 4, 2) := by decide +kernel
theorem dX4_takeTold_171 : decode cX4_takeTold 171 = .ok (.getfield 255, 3) := by decide +kernel
theorem dX4_takeTold_174 : decode cX4_takeTold 174 = .ok (.isub, 1) := by decide +kernel
theorem dX4_takeTold_175 : decode cX4_takeTold 175 = .ok (.invokevirtual 356, 3) := by decide +kernel
theorem dX4_takeTold_178 : decode cX4_takeTold 178 = .ok (.iload 6, 2) := by decide +kernel
theorem dX4_takeTold_180 : decode cX4_takeTold 180 = .ok (.ifCond .eq 11, 3) := by decide +kernel
theorem dX4_takeTold_183 : decode cX4_takeTold 183 = .ok (.aload_n 1, 1) := by decide +kernel
theorem dX4_takeTold_184 : decode cX4_takeTold 184 = .ok (.getfield 53, 3) := by decide +kernel
theorem dX4_takeTold_187 : decode cX4_takeTold 187 = .ok (.iconst 0, 1) := by decide +kernel
theorem dX4_takeTold_188 : decode cX4_takeTold 188 = .ok (.putfield 239, 3) := by decide +kernel
theorem dX4_takeTold_191 : decode cX4_takeTold 191 = .ok (.aload_n 0, 1) := by decide +kernel
theorem dX4_takeTold_192 : decode cX4_takeTold 192 = .ok (.aload_n 1, 1) := by decide +kernel
theorem dX4_takeTold_193 : decode cX4_takeTold 193 = .ok (.invokevirtual 186, 3) := by decide +kernel
theorem dX4_takeTold_196 : decode cX4_takeTold 196 = .ok (.return_, 1) := by decide +kernel
theorem dX4_settle_0 : decode cX4_settle 0 = .ok (.aload_n 2, 1) := by decide +kernel
theorem dX4_settle_1 : decode cX4_settle 1 = .ok (.invokevirtual 359, 3) := by decide +kernel
theorem dX4_settle_4 : decode cX4_settle 4 = .ok (.ifCond .eq 48, 3) := by decide +kernel
theorem dX4_settle_7 : decode cX4_settle 7 = .ok (.aload_n 1, 1) := by decide +kernel
theorem dX4_settle_8 : decode cX4_settle 8 = .ok (.getfield 53, 3) := by decide +kernel
theorem dX4_settle_11 : decode cX4_settle 11 = .ok (.dup, 1) := by decide +kernel
theorem dX4_settle_12 : decode cX4_settle 12 = .ok (.getfield 221, 3) := by decide +kernel
theorem dX4_settle_15 : decode cX4_settle 15 = .ok (.aload_n 2, 1) := by decide +kernel
theorem dX4_settle_16 : decode cX4_settle 16 = .ok (.getfield 256, 3) := by decide +kernel
theorem dX4_settle_19 : decode cX4_settle 19 = .ok (.isub, 1) := by decide +kernel
theorem dX4_settle_20 : decode cX4_settle 20 = .ok (.putfield 221, 3) := by decide +kernel
theorem dX4_settle_23 : decode cX4_settle 23 = .ok (.aload_n 2, 1) := by decide +kernel
theorem dX4_settle_24 : decode cX4_settle 24 = .ok (.getfield 255, 3) := by decide +kernel
theorem dX4_settle_27 : decode cX4_settle 27 = .ok (.aload_n 1, 1) := by decide +kernel
theorem dX4_settle_28 : decode cX4_settle 28 = .ok (.getfield 53, 3) := by decide +kernel
theorem dX4_settle_31 : decode cX4_settle 31 = .ok (.getfield 227, 3) := by decide +kernel
theorem dX4_settle_34 : decode cX4_settle 34 = .ok (.if_icmp .le 18, 3) := by decide +kernel
theorem dX4_settle_37 : decode cX4_settle 37 = .ok (.aload_n 1, 1) := by decide +kernel
theorem dX4_settle_38 : decode cX4_settle 38 = .ok (.getfield 53, 3) := by decide +kernel
theorem dX4_settle_41 : decode cX4_settle 41 = .ok (.aload_n 2, 1) := by decide +kernel
theorem dX4_settle_42 : decode cX4_settle 42 = .ok (.getfield 256, 3) := by decide +kernel
theorem dX4_settle_45 : decode cX4_settle 45 = .ok (.aload_n 0, 1) := by decide +kernel
theorem dX4_settle_46 : decode cX4_settle 46 = .ok (.getfield 7, 3) := by decide +kernel
theorem dX4_settle_49 : decode cX4_settle 49 = .ok (.invokevirtual 362, 3) := by decide +kernel
theorem dX4_settle_52 : decode cX4_settle 52 = .ok (.aload_n 2, 1) := by decide +kernel
theorem dX4_settle_53 : decode cX4_settle 53 = .ok (.iconst 1, 1) := by decide +kernel
theorem dX4_settle_54 : decode cX4_settle 54 = .ok (.putfield 259, 3) := by decide +kernel
theorem dX4_settle_57 : decode cX4_settle 57 = .ok (.iconst 0, 1) := by decide +kernel
theorem dX4_settle_58 : decode cX4_settle 58 = .ok (.istore_n 3, 1) := by decide +kernel
theorem dX4_settle_59 : decode cX4_settle 59 = .ok (.iload_n 3, 1) := by decide +kernel
theorem dX4_settle_60 : decode cX4_settle 60 = .ok (.aload_n 2, 1) := by decide +kernel
theorem dX4_settle_61 : decode cX4_settle 61 = .ok (.getfield 142, 3) := by decide +kernel
theorem dX4_settle_64 : decode cX4_settle 64 = .ok (.if_icmp .ge 75, 3) := by decide +kernel
theorem dX4_settle_67 : decode cX4_settle 67 = .ok (.aload_n 0, 1) := by decide +kernel
theorem dX4_settle_68 : decode cX4_settle 68 = .ok (.aload_n 2, 1) := by decide +kernel
theorem dX4_settle_69 : decode cX4_settle 69 = .ok (.iload_n 3, 1) := by decide +kernel
theorem dX4_settle_70 : decode cX4_settle 70 = .ok (.iconst 1, 1) := by decide +kernel
theorem dX4_settle_71 : decode cX4_settle 71 = .ok (.invokevirtual 265, 3) := by decide +kernel
theorem dX4_settle_74 : decode cX4_settle 74 = .ok (.invokevirtual 68, 3) := by decide +kernel
theorem dX4_settle_77 : decode cX4_settle 77 = .ok (.astore 4, 2) := by decide +kernel
theorem dX4_settle_79 : decode cX4_settle 79 = .ok (.aload_n 2, 1) := by decide +kernel
theorem dX4_settle_80 : decode cX4_settle 80 = .ok (.iload_n 3, 1) := by decide +kernel
theorem dX4_settle_81 : decode cX4_settle 81 = .ok (.iconst 0, 1) := by decide +kernel
theorem dX4_settle_82 : decode cX4_settle 82 = .ok (.invokevirtual 265, 3) := by decide +kernel
theorem dX4_settle_85 : decode cX4_settle 85 = .ok (.iconst 4, 1) := by decide +kernel
theorem dX4_settle_86 : decode cX4_settle 86 = .ok (.if_icmp .ne 47, 3) := by decide +kernel
theorem dX4_settle_89 : decode cX4_settle 89 = .ok (.aload 4, 2) := by decide +kernel
theorem dX4_settle_91 : decode cX4_settle 91 = .ok (.ifnull 42, 3) := by decide +kernel
theorem dX4_settle_94 : decode cX4_settle 94 = .ok (.aload_n 2, 1) := by decide +kernel
theorem dX4_settle_95 : decode cX4_settle 95 = .ok (.iload_n 3, 1) := by decide +kernel
theorem dX4_settle_96 : decode cX4_settle 96 = .ok (.iconst 3, 1) := by decide +kernel
theorem dX4_settle_97 : decode cX4_settle 97 = .ok (.invokevirtual 265, 3) := by decide +kernel
theorem dX4_settle_100 : decode cX4_settle 100 = .ok (.istore 5, 2) := by decide +kernel
theorem dX4_settle_102 : decode cX4_settle 102 = .ok (.aload 4, 2) := by decide +kernel
theorem dX4_settle_104 : decode cX4_settle 104 = .ok (.aload_n 2, 1) := by decide +kernel
theorem dX4_settle_105 : decode cX4_settle 105 = .ok (.iload_n 3, 1) := by decide +kernel
theorem dX4_settle_106 : decode cX4_settle 106 = .ok (.iconst 2, 1) := by decide +kernel
theorem dX4_settle_107 : decode cX4_settle 107 = .ok (.invokevirtual 265, 3) := by decide +kernel
theorem dX4_settle_110 : decode cX4_settle 110 = .ok (.iload 5, 2) := by decide +kernel
theorem dX4_settle_112 : decode cX4_settle 112 = .ok (.sipush 10000, 3) := by decide +kernel
theorem dX4_settle_115 : decode cX4_settle 115 = .ok (.irem, 1) := by decide +kernel
theorem dX4_settle_116 : decode cX4_settle 116 = .ok (.invokevirtual 365, 3) := by decide +kernel
theorem dX4_settle_119 : decode cX4_settle 119 = .ok (.iload 5, 2) := by decide +kernel
theorem dX4_settle_121 : decode cX4_settle 121 = .ok (.sipush 10000, 3) := by decide +kernel
theorem dX4_settle_124 : decode cX4_settle 124 = .ok (.if_icmp .lt 9, 3) := by decide +kernel
theorem dX4_settle_127 : decode cX4_settle 127 = .ok (.aload 4, 2) := by decide +kernel
theorem dX4_settle_129 : decode cX4_settle 129 = .ok (.iconst 3, 1) := by decide +kernel
theorem dX4_settle_130 : decode cX4_settle 130 = .ok (.putfield 206, 3) := by decide +kernel
theorem dX4_settle_133 : decode cX4_settle 133 = .ok (.iinc 3 1, 3) := by decide +kernel
theorem dX4_settle_136 : decode cX4_settle 136 = .ok (.goto (-77), 3) := by decide +kernel
theorem dX4_settle_139 : decode cX4_settle 139 = .ok (.return_, 1) := by decide +kernel
theorem dX4_lookForLost_0 : decode cX4_lookForLost 0 = .ok (.aload_n 1, 1) := by decide +kernel
theorem dX4_lookForLost_1 : decode cX4_lookForLost 1 = .ok (.getfield 245, 3) := by decide +kernel
theorem dX4_lookForLost_4 : decode cX4_lookForLost 4 = .ok (.istore_n 2, 1) := by decide +kernel
theorem dX4_lookForLost_5 : decode cX4_lookForLost 5 = .ok (.aload_n 1, 1) := by decide +kernel
theorem dX4_lookForLost_6 : decode cX4_lookForLost 6 = .ok (.getfield 53, 3) := by decide +kernel
theorem dX4_lookForLost_9 : decode cX4_lookForLost 9 = .ok (.invokevirtual 368, 3) := by decide +kernel
theorem dX4_lookForLost_12 : decode cX4_lookForLost 12 = .ok (.istore_n 3, 1) := by decide +kernel
theorem dX4_lookForLost_13 : decode cX4_lookForLost 13 = .ok (.aload_n 1, 1) := by decide +kernel
theorem dX4_lookForLost_14 : decode cX4_lookForLost 14 = .ok (.getfield 371, 3) := by decide +kernel
theorem dX4_lookForLost_17 : decode cX4_lookForLost 17 = .ok (.istore 4, 2) := by decide +kernel
theorem dX4_lookForLost_19 : decode cX4_lookForLost 19 = .ok (.iload 4, 2) := by decide +kernel
theorem dX4_lookForLost_21 : decode cX4_lookForLost 21 = .ok (.iload_n 2, 1) := by decide +kernel
theorem dX4_lookForLost_22 : decode cX4_lookForLost 22 = .ok (.if_icmp .ge 59, 3) := by decide +kernel
theorem dX4_lookForLost_25 : decode cX4_lookForLost 25 = .ok (.aload_n 1, 1) := by decide +kernel
theorem dX4_lookForLost_26 : decode cX4_lookForLost 26 = .ok (.iload 4, 2) := by decide +kernel
theorem dX4_lookForLost_28 : decode cX4_lookForLost 28 = .ok (.invokevirtual 272, 3) := by decide +kernel
theorem dX4_lookForLost_31 : decode cX4_lookForLost 31 = .ok (.astore 5, 2) := by decide +kernel
theorem dX4_lookForLost_33 : decode cX4_lookForLost 33 = .ok (.aload 5, 2) := by decide +kernel
theorem dX4_lookForLost_35 : decode cX4_lookForLost 35 = .ok (.ifnull 40, 3) := by decide +kernel
theorem dX4_lookForLost_38 : decode cX4_lookForLost 38 = .ok (.aload 5, 2) := by decide +kernel
theorem dX4_lookForLost_40 : decode cX4_lookForLost 40 = .ok (.invokevirtual 359, 3) := by decide +kernel
theorem dX4_lookForLost_43 : decode cX4_lookForLost 43 = .ok (.ifCond .eq 32, 3) := by decide +kernel
theorem dX4_lookForLost_46 : decode cX4_lookForLost 46 = .ok (.iload 4, 2) := by decide +kernel
theorem dX4_lookForLost_48 : decode cX4_lookForLost 48 = .ok (.iconst 3, 1) := by decide +kernel
theorem dX4_lookForLost_49 : decode cX4_lookForLost 49 = .ok (.iadd, 1) := by decide +kernel
theorem dX4_lookForLost_50 : decode cX4_lookForLost 50 = .ok (.iload_n 2, 1) := by decide +kernel
theorem dX4_lookForLost_51 : decode cX4_lookForLost 51 = .ok (.if_icmp .le 17, 3) := by decide +kernel
theorem dX4_lookForLost_54 : decode cX4_lookForLost 54 = .ok (.aload_n 0, 1) := by decide +kernel
theorem dX4_lookForLost_55 : decode cX4_lookForLost 55 = .ok (.getfield 129, 3) := by decide +kernel
theorem dX4_lookForLost_58 : decode cX4_lookForLost 58 = .ok (.aload 5, 2) := by decide +kernel
theorem dX4_lookForLost_60 : decode cX4_lookForLost 60 = .ok (.getfield 255, 3) := by decide +kernel
theorem dX4_lookForLost_63 : decode cX4_lookForLost 63 = .ok (.isub, 1) := by decide +kernel
theorem dX4_lookForLost_64 : decode cX4_lookForLost 64 = .ok (.iload_n 3, 1) := by decide +kernel
theorem dX4_lookForLost_65 : decode cX4_lookForLost 65 = .ok (.if_icmp .lt 10, 3) := by decide +kernel
theorem dX4_lookForLost_68 : decode cX4_lookForLost 68 = .ok (.aload_n 0, 1) := by decide +kernel
theorem dX4_lookForLost_69 : decode cX4_lookForLost 69 = .ok (.aload_n 1, 1) := by decide +kernel
theorem dX4_lookForLost_70 : decode cX4_lookForLost 70 = .ok (.aload 5, 2) := by decide +kernel
theorem dX4_lookForLost_72 : decode cX4_lookForLost 72 = .ok (.invokevirtual 374, 3) := by decide +kernel
theorem dX4_lookForLost_75 : decode cX4_lookForLost 75 = .ok (.iinc 4 1, 3) := by decide +kernel
theorem dX4_lookForLost_78 : decode cX4_lookForLost 78 = .ok (.goto (-59), 3) := by decide +kernel
theorem dX4_lookForLost_81 : decode cX4_lookForLost 81 = .ok (.aload_n 1, 1) := by decide +kernel
theorem dX4_lookForLost_82 : decode cX4_lookForLost 82 = .ok (.aload_n 1, 1) := by decide +kernel
theorem dX4_lookForLost_83 : decode cX4_lookForLost 83 = .ok (.getfield 371, 3) := by decide +kernel
theorem dX4_lookForLost_86 : decode cX4_lookForLost 86 = .ok (.iload_n 2, 1) := by decide +kernel
theorem dX4_lookForLost_87 : decode cX4_lookForLost 87 = .ok (.iconst 2, 1) := by decide +kernel
theorem dX4_lookForLost_88 : decode cX4_lookForLost 88 = .ok (.isub, 1) := by decide +kernel
theorem dX4_lookForLost_89 : decode cX4_lookForLost 89 = .ok (.invokestatic 180, 3) := by decide +kernel
theorem dX4_lookForLost_92 : decode cX4_lookForLost 92 = .ok (.putfield 371, 3) := by decide +kernel
theorem dX4_lookForLost_95 : decode cX4_lookForLost 95 = .ok (.return_, 1) := by decide +kernel
theorem dX4_lose_0 : decode cX4_lose 0 = .ok (.aload_n 2, 1) := by decide +kernel
theorem dX4_lose_1 : decode cX4_lose 1 = .ok (.iconst 1, 1) := by decide +kernel
theorem dX4_lose_2 : decode cX4_lose 2 = .ok (.putfield 262, 3) := by decide +kernel
theorem dX4_lose_5 : decode cX4_lose 5 = .ok (.aload_n 1, 1) := by decide +kernel
theorem dX4_lose_6 : decode cX4_lose 6 = .ok (.getfield 53, 3) := by decide +kernel
theorem dX4_lose_9 : decode cX4_lose 9 = .ok (.dup, 1) := by decide +kernel
theorem dX4_lose_10 : decode cX4_lose 10 = .ok (.getfield 221, 3) := by decide +kernel
theorem dX4_lose_13 : decode cX4_lose 13 = .ok (.aload_n 2, 1) := by decide +kernel
theorem dX4_lose_14 : decode cX4_lose 14 = .ok (.getfield 256, 3) := by decide +kernel
theorem dX4_lose_17 : decode cX4_lose 17 = .ok (.isub, 1) := by decide +kernel
theorem dX4_lose_18 : decode cX4_lose 18 = .ok (.putfield 221, 3) := by decide +kernel
theorem dX4_lose_21 : decode cX4_lose 21 = .ok (.iconst 0, 1) := by decide +kernel
theorem dX4_lose_22 : decode cX4_lose 22 = .ok (.istore_n 3, 1) := by decide +kernel
theorem dX4_lose_23 : decode cX4_lose 23 = .ok (.iload_n 3, 1) := by decide +kernel
theorem dX4_lose_24 : decode cX4_lose 24 = .ok (.aload_n 2, 1) := by decide +kernel
theorem dX4_lose_25 : decode cX4_lose 25 = .ok (.getfield 142, 3) := by decide +kernel
theorem dX4_lose_28 : decode cX4_lose 28 = .ok (.if_icmp .ge 199, 3) := by decide +kernel
theorem dX4_lose_31 : decode cX4_lose 31 = .ok (.aload_n 0, 1) := by decide +kernel
theorem dX4_lose_32 : decode cX4_lose 32 = .ok (.aload_n 2, 1) := by decide +kernel
theorem dX4_lose_33 : decode cX4_lose 33 = .ok (.iload_n 3, 1) := by decide +kernel
theorem dX4_lose_34 : decode cX4_lose 34 = .ok (.iconst 1, 1) := by decide +kernel
theorem dX4_lose_35 : decode cX4_lose 35 = .ok (.invokevirtual 265, 3) := by decide +kernel
theorem dX4_lose_38 : decode cX4_lose 38 = .ok (.invokevirtual 68, 3) := by decide +kernel
theorem dX4_lose_41 : decode cX4_lose 41 = .ok (.astore 4, 2) := by decide +kernel
theorem dX4_lose_43 : decode cX4_lose 43 = .ok (.aload_n 2, 1) := by decide +kernel
theorem dX4_lose_44 : decode cX4_lose 44 = .ok (.iload_n 3, 1) := by decide +kernel
theorem dX4_lose_45 : decode cX4_lose 45 = .ok (.iconst 2, 1) := by decide +kernel
theorem dX4_lose_46 : decode cX4_lose 46 = .ok (.invokevirtual 265, 3) := by decide +kernel
theorem dX4_lose_49 : decode cX4_lose 49 = .ok (.istore 5, 2) := by decide +kernel
theorem dX4_lose_51 : decode cX4_lose 51 = .ok (.aload_n 2, 1) := by decide +kernel
theorem dX4_lose_52 : decode cX4_lose 52 = .ok (.iload_n 3, 1) := by decide +kernel
theorem dX4_lose_53 : decode cX4_lose 53 = .ok (.iconst 3, 1) := by decide +kernel
theorem dX4_lose_54 : decode cX4_lose 54 = .ok (.invokevirtual 265, 3) := by decide +kernel
theorem dX4_lose_57 : decode cX4_lose 57 = .ok (.istore 6, 2) := by decide +kernel
theorem dX4_lose_59 : decode cX4_lose 59 = .ok (.aload 4, 2) := by decide +kernel
theorem dX4_lose_61 : decode cX4_lose 61 = .ok (.ifnonnull 7, 3) := by decide +kernel
theorem dX4_lose_64 : decode cX4_lose 64 = .ok (.iconst 0, 1) := by decide +kernel
theorem dX4_lose_65 : decode cX4_lose 65 = .ok (.goto 9, 3) := by decide +kernel
theorem dX4_lose_68 : decode cX4_lose 68 = .ok (.aload_n 2, 1) := by decide +kernel
theorem dX4_lose_69 : decode cX4_lose 69 = .ok (.iload_n 3, 1) := by decide +kernel
theorem dX4_lose_70 : decode cX4_lose 70 = .ok (.iconst 0, 1) := by decide +kernel
theorem dX4_lose_71 : decode cX4_lose 71 = .ok (.invokevirtual 265, 3) := by decide +kernel
theorem dX4_lose_74 : decode cX4_lose 74 = .ok (.tableswitch 147 2 7 #[38, 47, 55, 94, 103, 138], 38) := by decide +kernel
theorem dX4_lose_112 : decode cX4_lose 112 = .ok (.aload 4, 2) := by decide +kernel
theorem dX4_lose_114 : decode cX4_lose 114 = .ok (.iconst 1, 1) := by decide +kernel
theorem dX4_lose_115 : decode cX4_lose 115 = .ok (.putfield 97, 3) := by decide +kernel
theorem dX4_lose_118 : decode cX4_lose 118 = .ok (.goto 103, 3) := by decide +kernel
theorem dX4_lose_121 : decode cX4_lose 121 = .ok (.aload_n 1, 1) := by decide +kernel
theorem dX4_lose_122 : decode cX4_lose 122 = .ok (.iconst 1, 1) := by decide +kernel
theorem dX4_lose_123 : decode cX4_lose 123 = .ok (.putfield 104, 3) := by decide +kernel
theorem dX4_lose_126 : decode cX4_lose 126 = .ok (.goto 95, 3) := by decide +kernel
theorem dX4_lose_129 : decode cX4_lose 129 = .ok (.aload 4, 2) := by decide +kernel
theorem dX4_lose_131 : decode cX4_lose 131 = .ok (.iload 5, 2) := by decide +kernel
theorem dX4_lose_133 : decode cX4_lose 133 = .ok (.iload 6, 2) := by decide +kernel
theorem dX4_lose_135 : decode cX4_lose 135 = .ok (.sipush 10000, 3) := by decide +kernel
theorem dX4_lose_138 : decode cX4_lose 138 = .ok (.irem, 1) := by decide +kernel
theorem dX4_lose_139 : decode cX4_lose 139 = .ok (.invokevirtual 377, 3) := by decide +kernel
theorem dX4_lose_142 : decode cX4_lose 142 = .ok (.iload 6, 2) := by decide +kernel
theorem dX4_lose_144 : decode cX4_lose 144 = .ok (.sipush 10000, 3) := by decide +kernel
theorem dX4_lose_147 : decode cX4_lose 147 = .ok (.if_icmp .lt 74, 3) := by decide +kernel
theorem dX4_lose_150 : decode cX4_lose 150 = .ok (.aload 4, 2) := by decide +kernel
theorem dX4_lose_152 : decode cX4_lose 152 = .ok (.getfield 206, 3) := by decide +kernel
theorem dX4_lose_155 : decode cX4_lose 155 = .ok (.iconst 3, 1) := by decide +kernel
theorem dX4_lose_156 : decode cX4_lose 156 = .ok (.if_icmp .eq 65, 3) := by decide +kernel
theorem dX4_lose_159 : decode cX4_lose 159 = .ok (.aload 4, 2) := by decide +kernel
theorem dX4_lose_161 : decode cX4_lose 161 = .ok (.iconst 2, 1) := by decide +kernel
theorem dX4_lose_162 : decode cX4_lose 162 = .ok (.putfield 206, 3) := by decide +kernel
theorem dX4_lose_165 : decode cX4_lose 165 = .ok (.goto 56, 3) := by decide +kernel
theorem dX4_lose_168 : decode cX4_lose 168 = .ok (.aload 4, 2) := by decide +kernel
theorem dX4_lose_170 : decode cX4_lose 170 = .ok (.iconst 1, 1) := by decide +kernel
theorem dX4_lose_171 : decode cX4_lose 171 = .ok (.putfield 82, 3) := by decide +kernel
theorem dX4_lose_174 : decode cX4_lose 174 = .ok (.goto 47, 3) := by decide +kernel
theorem dX4_lose_177 : decode cX4_lose 177 = .ok (.aload_n 1, 1) := by decide +kernel
theorem dX4_lose_178 : decode cX4_lose 178 = .ok (.aload_n 1, 1) := by decide +kernel
theorem dX4_lose_179 : decode cX4_lose 179 = .ok (.getfield 303, 3) := by decide +kernel
theorem dX4_lose_182 : decode cX4_lose 182 = .ok (.ifCond .ne 19, 3) := by decide +kernel
theorem dX4_lose_185 : decode cX4_lose 185 = .ok (.aload_n 0, 1) := by decide +kernel
theorem dX4_lose_186 : decode cX4_lose 186 = .ok (.getfield 120, 3) := by decide +kernel
theorem dX4_lose_189 : decode cX4_lose 189 = .ok (.ifCond .eq 16, 3) := by decide +kernel
theorem dX4_lose_192 : decode cX4_lose 192 = .ok (.iload 5, 2) := by decide +kernel
theorem dX4_lose_194 : decode cX4_lose 194 = .ok (.aload_n 0, 1) := by decide +kernel
theorem dX4_lose_195 : decode cX4_lose 195 = .ok (.getfield 132, 3) := by decide +kernel
theorem dX4_lose_198 : decode cX4_lose 198 = .ok (.if_icmp .ne 7, 3) := by decide +kernel
theorem dX4_lose_201 : decode cX4_lose 201 = .ok (.iconst 1, 1) := by decide +kernel
theorem dX4_lose_202 : decode cX4_lose 202 = .ok (.goto 4, 3) := by decide +kernel
theorem dX4_lose_205 : decode cX4_lose 205 = .ok (.iconst 0, 1) := by decide +kernel
theorem dX4_lose_206 : decode cX4_lose 206 = .ok (.putfield 303, 3) := by decide +kernel
theorem dX4_lose_209 : decode cX4_lose 209 = .ok (.goto 12, 3) := by decide +kernel
theorem dX4_lose_212 : decode cX4_lose 212 = .ok (.aload_n 1, 1) := by decide +kernel
theorem dX4_lose_213 : decode cX4_lose 213 = .ok (.iload 5, 2) := by decide +kernel
theorem dX4_lose_215 : decode cX4_lose 215 = .ok (.putfield 300, 3) := by decide +kernel
theorem dX4_lose_218 : decode cX4_lose 218 = .ok (.goto 3, 3) := by decide +kernel
theorem dX4_lose_221 : decode cX4_lose 221 = .ok (.iinc 3 1, 3) := by decide +kernel
theorem dX4_lose_224 : decode cX4_lose 224 = .ok (.goto (-201), 3) := by decide +kernel
theorem dX4_lose_227 : decode cX4_lose 227 = .ok (.aload_n 2, 1) := by decide +kernel
theorem dX4_lose_228 : decode cX4_lose 228 = .ok (.getfield 255, 3) := by decide +kernel
theorem dX4_lose_231 : decode cX4_lose 231 = .ok (.aload_n 1, 1) := by decide +kernel
theorem dX4_lose_232 : decode cX4_lose 232 = .ok (.getfield 53, 3) := by decide +kernel
theorem dX4_lose_235 : decode cX4_lose 235 = .ok (.getfield 227, 3) := by decide +kernel
theorem dX4_lose_238 : decode cX4_lose 238 = .ok (.if_icmp .le 18, 3) := by decide +kernel
theorem dX4_lose_241 : decode cX4_lose 241 = .ok (.aload_n 1, 1) := by decide +kernel
theorem dX4_lose_242 : decode cX4_lose 242 = .ok (.getfield 53, 3) := by decide +kernel
theorem dX4_lose_245 : decode cX4_lose 245 = .ok (.aload_n 0, 1) := by decide +kernel
theorem dX4_lose_246 : decode cX4_lose 246 = .ok (.getfield 129, 3) := by decide +kernel
theorem dX4_lose_249 : decode cX4_lose 249 = .ok (.aload_n 0, 1) := by decide +kernel
theorem dX4_lose_250 : decode cX4_lose 250 = .ok (.getfield 7, 3) := by decide +kernel
theorem dX4_lose_253 : decode cX4_lose 253 = .ok (.invokevirtual 380, 3) := by decide +kernel
theorem dX4_lose_256 : decode cX4_lose 256 = .ok (.return_, 1) := by decide +kernel
theorem dX5_init_0 : decode cX5_init 0 = .ok (.aload_n 0, 1) := by decide +kernel
theorem dX5_init_1 : decode cX5_init 1 = .ok (.invokespecial 1, 3) := by decide +kernel
theorem dX5_init_4 : decode cX5_init 4 = .ok (.aload_n 0, 1) := by decide +kernel
theorem dX5_init_5 : decode cX5_init 5 = .ok (.sipush 200, 3) := by decide +kernel
theorem dX5_init_8 : decode cX5_init 8 = .ok (.putfield 7, 3) := by decide +kernel
theorem dX5_init_11 : decode cX5_init 11 = .ok (.aload_n 0, 1) := by decide +kernel
theorem dX5_init_12 : decode cX5_init 12 = .ok (.sipush 300, 3) := by decide +kernel
theorem dX5_init_15 : decode cX5_init 15 = .ok (.putfield 13, 3) := by decide +kernel
theorem dX5_init_18 : decode cX5_init 18 = .ok (.aload_n 0, 1) := by decide +kernel
theorem dX5_init_19 : decode cX5_init 19 = .ok (.sipush 600, 3) := by decide +kernel
theorem dX5_init_22 : decode cX5_init 22 = .ok (.putfield 16, 3) := by decide +kernel
theorem dX5_init_25 : decode cX5_init 25 = .ok (.aload_n 0, 1) := by decide +kernel
theorem dX5_init_26 : decode cX5_init 26 = .ok (.bipush 8, 2) := by decide +kernel
theorem dX5_init_28 : decode cX5_init 28 = .ok (.newarray .int, 2) := by decide +kernel
theorem dX5_init_30 : decode cX5_init 30 = .ok (.putfield 19, 3) := by decide +kernel
theorem dX5_init_33 : decode cX5_init 33 = .ok (.aload_n 0, 1) := by decide +kernel
theorem dX5_init_34 : decode cX5_init 34 = .ok (.bipush 8, 2) := by decide +kernel
theorem dX5_init_36 : decode cX5_init 36 = .ok (.newarray .boolean, 2) := by decide +kernel
theorem dX5_init_38 : decode cX5_init 38 = .ok (.putfield 23, 3) := by decide +kernel
theorem dX5_init_41 : decode cX5_init 41 = .ok (.aload_n 0, 1) := by decide +kernel
theorem dX5_init_42 : decode cX5_init 42 = .ok (.bipush 8, 2) := by decide +kernel
theorem dX5_init_44 : decode cX5_init 44 = .ok (.newarray .boolean, 2) := by decide +kernel
theorem dX5_init_46 : decode cX5_init 46 = .ok (.putfield 27, 3) := by decide +kernel
theorem dX5_init_49 : decode cX5_init 49 = .ok (.aload_n 0, 1) := by decide +kernel
theorem dX5_init_50 : decode cX5_init 50 = .ok (.bipush 8, 2) := by decide +kernel
theorem dX5_init_52 : decode cX5_init 52 = .ok (.newarray .boolean, 2) := by decide +kernel
theorem dX5_init_54 : decode cX5_init 54 = .ok (.putfield 30, 3) := by decide +kernel
theorem dX5_init_57 : decode cX5_init 57 = .ok (.aload_n 0, 1) := by decide +kernel
theorem dX5_init_58 : decode cX5_init 58 = .ok (.bipush 8, 2) := by decide +kernel
theorem dX5_init_60 : decode cX5_init 60 = .ok (.newarray .int, 2) := by decide +kernel
theorem dX5_init_62 : decode cX5_init 62 = .ok (.putfield 33, 3) := by decide +kernel
theorem dX5_init_65 : decode cX5_init 65 = .ok (.aload_n 0, 1) := by decide +kernel
theorem dX5_init_66 : decode cX5_init 66 = .ok (.bipush 8, 2) := by decide +kernel
theorem dX5_init_68 : decode cX5_init 68 = .ok (.newarray .boolean, 2) := by decide +kernel
theorem dX5_init_70 : decode cX5_init 70 = .ok (.putfield 36, 3) := by decide +kernel
theorem dX5_init_73 : decode cX5_init 73 = .ok (.aload_n 0, 1) := by decide +kernel
theorem dX5_init_74 : decode cX5_init 74 = .ok (.bipush 8, 2) := by decide +kernel
theorem dX5_init_76 : decode cX5_init 76 = .ok (.newarray .boolean, 2) := by decide +kernel
theorem dX5_init_78 : decode cX5_init 78 = .ok (.putfield 39, 3) := by decide +kernel
theorem dX5_init_81 : decode cX5_init 81 = .ok (.aload_n 0, 1) := by decide +kernel
theorem dX5_init_82 : decode cX5_init 82 = .ok (.bipush 8, 2) := by decide +kernel
theorem dX5_init_84 : decode cX5_init 84 = .ok (.newarray .boolean, 2) := by decide +kernel
theorem dX5_init_86 : decode cX5_init 86 = .ok (.putfield 42, 3) := by decide +kernel
theorem dX5_init_89 : decode cX5_init 89 = .ok (.aload_n 0, 1) := by decide +kernel
theorem dX5_init_90 : decode cX5_init 90 = .ok (.bipush 8, 2) := by decide +kernel
theorem dX5_init_92 : decode cX5_init 92 = .ok (.newarray .int, 2) := by decide +kernel
theorem dX5_init_94 : decode cX5_init 94 = .ok (.putfield 45, 3) := by decide +kernel
theorem dX5_init_97 : decode cX5_init 97 = .ok (.aload_n 0, 1) := by decide +kernel
theorem dX5_init_98 : decode cX5_init 98 = .ok (.sipush 8000, 3) := by decide +kernel
theorem dX5_init_101 : decode cX5_init 101 = .ok (.newarray .byte, 2) := by decide +kernel
theorem dX5_init_103 : decode cX5_init 103 = .ok (.putfield 48, 3) := by decide +kernel
theorem dX5_init_106 : decode cX5_init 106 = .ok (.aload_n 0, 1) := by decide +kernel
theorem dX5_init_107 : decode cX5_init 107 = .ok (.sipush 8000, 3) := by decide +kernel
theorem dX5_init_110 : decode cX5_init 110 = .ok (.newarray .boolean, 2) := by decide +kernel
theorem dX5_init_112 : decode cX5_init 112 = .ok (.putfield 52, 3) := by decide +kernel
theorem dX5_init_115 : decode cX5_init 115 = .ok (.aload_n 0, 1) := by decide +kernel
theorem dX5_init_116 : decode cX5_init 116 = .ok (.bipush 8, 2) := by decide +kernel
theorem dX5_init_118 : decode cX5_init 118 = .ok (.newarray .int, 2) := by decide +kernel
theorem dX5_init_120 : decode cX5_init 120 = .ok (.putfield 55, 3) := by decide +kernel
theorem dX5_init_123 : decode cX5_init 123 = .ok (.aload_n 0, 1) := by decide +kernel
theorem dX5_init_124 : decode cX5_init 124 = .ok (.bipush 8, 2) := by decide +kernel
theorem dX5_init_126 : decode cX5_init 126 = .ok (.newarray .int, 2) := by decide +kernel
theorem dX5_init_128 : decode cX5_init 128 = .ok (.putfield 58, 3) := by decide +kernel
theorem dX5_init_131 : decode cX5_init 131 = .ok (.aload_n 0, 1) := by decide +kernel
theorem dX5_init_132 : decode cX5_init 132 = .ok (.bipush 8, 2) := by decide +kernel
theorem dX5_init_134 : decode cX5_init 134 = .ok (.newarray .int, 2) := by decide +kernel
theorem dX5_init_136 : decode cX5_init 136 = .ok (.putfield 61, 3) := by decide +kernel
theorem dX5_init_139 : decode cX5_init 139 = .ok (.aload_n 0, 1) := by decide +kernel
theorem dX5_init_140 : decode cX5_init 140 = .ok (.bipush 8, 2) := by decide +kernel
theorem dX5_init_142 : decode cX5_init 142 = .ok (.newarray .boolean, 2) := by decide +kernel
theorem dX5_init_144 : decode cX5_init 144 = .ok (.putfield 64, 3) := by decide +kernel
theorem dX5_init_147 : decode cX5_init 147 = .ok (.aload_n 0, 1) := by decide +kernel
theorem dX5_init_148 : decode cX5_init 148 = .ok (.bipush 8, 2) := by decide +kernel
theorem dX5_init_150 : decode cX5_init 150 = .ok (.newarray .int, 2) := by decide +kernel
theorem dX5_init_152 : decode cX5_init 152 = .ok (.putfield 67, 3) := by decide +kernel
theorem dX5_init_155 : decode cX5_init 155 = .ok (.aload_n 0, 1) := by decide +kernel
theorem dX5_init_156 : decode cX5_init 156 = .ok (.bipush 8, 2) := by decide +kernel
theorem dX5_init_158 : decode cX5_init 158 = .ok (.newarray .boolean, 2) := by decide +kernel
theorem dX5_init_160 : decode cX5_init 160 = .ok (.putfield 70, 3) := by decide +kernel
theorem dX5_init_163 : decode cX5_init 163 = .ok (.aload_n 0, 1) := by decide +kernel
theorem dX5_init_164 : decode cX5_init 164 = .ok (.iconst 2, 1) := by decide +kernel
theorem dX5_init_165 : decode cX5_init 165 = .ok (.newarray .int, 2) := by decide +kernel
theorem dX5_init_167 : decode cX5_init 167 = .ok (.putfield 73, 3) := by decide +kernel
theorem dX5_init_170 : decode cX5_init 170 = .ok (.aload_n 0, 1) := by decide +kernel
theorem dX5_init_171 : decode cX5_init 171 = .ok (.iconst 2, 1) := by decide +kernel
theorem dX5_init_172 : decode cX5_init 172 = .ok (.newarray .int, 2) := by decide +kernel
theorem dX5_init_174 : decode cX5_init 174 = .ok (.putfield 76, 3) := by decide +kernel
theorem dX5_init_177 : decode cX5_init 177 = .ok (.aload_n 0, 1) := by decide +kernel
theorem dX5_init_178 : decode cX5_init 178 = .ok (.iconst 2, 1) := by decide +kernel
theorem dX5_init_179 : decode cX5_init 179 = .ok (.newarray .int, 2) := by decide +kernel
theorem dX5_init_181 : decode cX5_init 181 = .ok (.putfield 79, 3) := by decide +kernel
theorem dX5_init_184 : decode cX5_init 184 = .ok (.aload_n 0, 1) := by decide +kernel
theorem dX5_init_185 : decode cX5_init 185 = .ok (.iconst 2, 1) := by decide +kernel
theorem dX5_init_186 : decode cX5_init 186 = .ok (.newarray .int, 2) := by decide +kernel
theorem dX5_init_188 : decode cX5_init 188 = .ok (.putfield 82, 3) := by decide +kernel
theorem dX5_init_191 : decode cX5_init 191 = .ok (.aload_n 0, 1) := by decide +kernel
theorem dX5_init_192 : decode cX5_init 192 = .ok (.iconst 2, 1) := by decide +kernel
theorem dX5_init_193 : decode cX5_init 193 = .ok (.newarray .int, 2) := by decide +kernel
theorem dX5_init_195 : decode cX5_init 195 = .ok (.putfield 85, 3) := by decide +kernel
theorem dX5_init_198 : decode cX5_init 198 = .ok (.aload_n 0, 1) := by decide +kernel
theorem dX5_init_199 : decode cX5_init 199 = .ok (.iconst 2, 1) := by decide +kernel
theorem dX5_init_200 : decode cX5_init 200 = .ok (.newarray .int, 2) := by decide +kernel
theorem dX5_init_202 : decode cX5_init 202 = .ok (.putfield 88, 3) := by decide +kernel
theorem dX5_init_205 : decode cX5_init 205 = .ok (.aload_n 0, 1) := by decide +kernel
theorem dX5_init_206 : decode cX5_init 206 = .ok (.iconst 2, 1) := by decide +kernel
theorem dX5_init_207 : decode cX5_init 207 = .ok (.newarray .int, 2) := by decide +kernel
theorem dX5_init_209 : decode cX5_init 209 = .ok (.putfield 91, 3) := by decide +kernel
theorem dX5_init_212 : decode cX5_init 212 = .ok (.aload_n 0, 1) := by decide +kernel
theorem dX5_init_213 : decode cX5_init 213 = .ok (.iconst 2, 1) := by decide +kernel
theorem dX5_init_214 : decode cX5_init 214 = .ok (.newarray .int, 2) := by decide +kernel
theorem dX5_init_216 : decode cX5_init 216 = .ok (.putfield 94, 3) := by decide +kernel
theorem dX5_init_219 : decode cX5_init 219 = .ok (.aload_n 0, 1) := by decide +kernel
theorem dX5_init_220 : decode cX5_init 220 = .ok (.iconst 2, 1) := by decide +kernel
theorem dX5_init_221 : decode cX5_init 221 = .ok (.newarray .int, 2) := by decide +kernel
theorem dX5_init_223 : decode cX5_init 223 = .ok (.putfield 97, 3) := by decide +kernel
theorem dX5_init_226 : decode cX5_init 226 = .ok (.aload_n 0, 1) := by decide +kernel
theorem dX5_init_227 : decode cX5_init 227 = .ok (.iconst 2, 1) := by decide +kernel
theorem dX5_init_228 : decode cX5_init 228 = .ok (.newarray .boolean, 2) := by decide +kernel
theorem dX5_init_230 : decode cX5_init 230 = .ok (.putfield 100, 3) := by decide +kernel
theorem dX5_init_233 : decode cX5_init 233 = .ok (.aload_n 0, 1) := by decide +kernel
theorem dX5_init_234 : decode cX5_init 234 = .ok (.iconst 2, 1) := by decide +kernel
theorem dX5_init_235 : decode cX5_init 235 = .ok (.newarray .int, 2) := by decide +kernel
theorem dX5_init_237 : decode cX5_init 237 = .ok (.putfield 103, 3) := by decide +kernel
theorem dX5_init_240 : decode cX5_init 240 = .ok (.aload_n 0, 1) := by decide +kernel
theorem dX5_init_241 : decode cX5_init 241 = .ok (.iconst 2, 1) := by decide +kernel
theorem dX5_init_242 : decode cX5_init 242 = .ok (.newarray .int, 2) := by decide +kernel
theorem dX5_init_244 : decode cX5_init 244 = .ok (.putfield 106, 3) := by decide +kernel
theorem dX5_init_247 : decode cX5_init 247 = .ok (.aload_n 0, 1) := by decide +kernel
theorem dX5_init_248 : decode cX5_init 248 = .ok (.iconst 2, 1) := by decide +kernel
theorem dX5_init_249 : decode cX5_init 249 = .ok (.newarray .boolean, 2) := by decide +kernel
theorem dX5_init_251 : decode cX5_init 251 = .ok (.putfield 109, 3) := by decide +kernel
theorem dX5_init_254 : decode cX5_init 254 = .ok (.aload_n 0, 1) := by decide +kernel
theorem dX5_init_255 : decode cX5_init 255 = .ok (.iconst 2, 1) := by decide +kernel
theorem dX5_init_256 : decode cX5_init 256 = .ok (.newarray .int, 2) := by decide +kernel
theorem dX5_init_258 : decode cX5_init 258 = .ok (.putfield 112, 3) := by decide +kernel
theorem dX5_init_261 : decode cX5_init 261 = .ok (.aload_n 0, 1) := by decide +kernel
theorem dX5_init_262 : decode cX5_init 262 = .ok (.iconst 2, 1) := by decide +kernel
theorem dX5_init_263 : decode cX5_init 263 = .ok (.newarray .boolean, 2) := by decide +kernel
theorem dX5_init_265 : decode cX5_init 265 = .ok (.putfield 115, 3) := by decide +kernel
theorem dX5_init_268 : decode cX5_init 268 = .ok (.aload_n 0, 1) := by decide +kernel
theorem dX5_init_269 : decode cX5_init 269 = .ok (.iconst 2, 1) := by decide +kernel
theorem dX5_init_270 : decode cX5_init 270 = .ok (.newarray .int, 2) := by decide +kernel
theorem dX5_init_272 : decode cX5_init 272 = .ok (.putfield 118, 3) := by decide +kernel
theorem dX5_init_275 : decode cX5_init 275 = .ok (.aload_n 0, 1) := by decide +kernel
theorem dX5_init_276 : decode cX5_init 276 = .ok (.iconst 2, 1) := by decide +kernel
theorem dX5_init_277 : decode cX5_init 277 = .ok (.newarray .int, 2) := by decide +kernel
theorem dX5_init_279 : decode cX5_init 279 = .ok (.putfield 121, 3) := by decide +kernel
theorem dX5_init_282 : decode cX5_init 282 = .ok (.aload_n 0, 1) := by decide +kernel
theorem dX5_init_283 : decode cX5_init 283 = .ok (.iconst 2, 1) := by decide +kernel
theorem dX5_init_284 : decode cX5_init 284 = .ok (.newarray .int, 2) := by decide +kernel
theorem dX5_init_286 : decode cX5_init 286 = .ok (.putfield 124, 3) := by decide +kernel
theorem dX5_init_289 : decode cX5_init 289 = .ok (.aload_n 0, 1) := by decide +kernel
theorem dX5_init_290 : decode cX5_init 290 = .ok (.iconst 2, 1) := by decide +kernel
theorem dX5_init_291 : decode cX5_init 291 = .ok (.newarray .boolean, 2) := by decide +kernel
theorem dX5_init_293 : decode cX5_init 293 = .ok (.putfield 127, 3) := by decide +kernel
theorem dX5_init_296 : decode cX5_init 296 = .ok (.aload_n 0, 1) := by decide +kernel
theorem dX5_init_297 : decode cX5_init 297 = .ok (.iconst 2, 1) := by decide +kernel
theorem dX5_init_298 : decode cX5_init 298 = .ok (.newarray .int, 2) := by decide +kernel
theorem dX5_init_300 : decode cX5_init 300 = .ok (.putfield 130, 3) := by decide +kernel
theorem dX5_init_303 : decode cX5_init 303 = .ok (.aload_n 0, 1) := by decide +kernel
theorem dX5_init_304 : decode cX5_init 304 = .ok (.iconst 2, 1) := by decide +kernel
theorem dX5_init_305 : decode cX5_init 305 = .ok (.newarray .boolean, 2) := by decide +kernel
theorem dX5_init_307 : decode cX5_init 307 = .ok (.putfield 133, 3) := by decide +kernel
theorem dX5_init_310 : decode cX5_init 310 = .ok (.aload_n 0, 1) := by decide +kernel
theorem dX5_init_311 : decode cX5_init 311 = .ok (.iconst 2, 1) := by decide +kernel
theorem dX5_init_312 : decode cX5_init 312 = .ok (.newarray .int, 2) := by decide +kernel
theorem dX5_init_314 : decode cX5_init 314 = .ok (.putfield 136, 3) := by decide +kernel
theorem dX5_init_317 : decode cX5_init 317 = .ok (.aload_n 0, 1) := by decide +kernel
theorem dX5_init_318 : decode cX5_init 318 = .ok (.sipush 600, 3) := by decide +kernel
theorem dX5_init_321 : decode cX5_init 321 = .ok (.newarray .int, 2) := by decide +kernel
theorem dX5_init_323 : decode cX5_init 323 = .ok (.putfield 139, 3) := by decide +kernel
theorem dX5_init_326 : decode cX5_init 326 = .ok (.aload_n 0, 1) := by decide +kernel
theorem dX5_init_327 : decode cX5_init 327 = .ok (.sipush 600, 3) := by decide +kernel
theorem dX5_init_330 : decode cX5_init 330 = .ok (.newarray .int, 2) := by decide +kernel
theorem dX5_init_332 : decode cX5_init 332 = .ok (.putfield 142, 3) := by decide +kernel
theorem dX5_init_335 : decode cX5_init 335 = .ok (.aload_n 0, 1) := by decide +kernel
theorem dX5_init_336 : decode cX5_init 336 = .ok (.sipush 600, 3) := by decide +kernel
theorem dX5_init_339 : decode cX5_init 339 = .ok (.newarray .int, 2) := by decide +kernel
theorem dX5_init_341 : decode cX5_init 341 = .ok (.putfield 145, 3) := by decide +kernel
theorem dX5_init_344 : decode cX5_init 344 = .ok (.aload_n 0, 1) := by decide +kernel
theorem dX5_init_345 : decode cX5_init 345 = .ok (.sipush 600, 3) := by decide +kernel
theorem dX5_init_348 : decode cX5_init 348 = .ok (.newarray .int, 2) := by decide +kernel
theorem dX5_init_350 : decode cX5_init 350 = .ok (.putfield 148, 3) := by decide +kernel
theorem dX5_init_353 : decode cX5_init 353 = .ok (.aload_n 0, 1) := by decide +kernel
theorem dX5_init_354 : decode cX5_init 354 = .ok (.sipush 600, 3) := by decide +kernel
theorem dX5_init_357 : decode cX5_init 357 = .ok (.newarray .boolean, 2) := by decide +kernel
theorem dX5_init_359 : decode cX5_init 359 = .ok (.putfield 151, 3) := by decide +kernel
theorem dX5_init_362 : decode cX5_init 362 = .ok (.aload_n 0, 1) := by decide +kernel
theorem dX5_init_363 : decode cX5_init 363 = .ok (.sipush 600, 3) := by decide +kernel
theorem dX5_init_366 : decode cX5_init 366 = .ok (.newarray .boolean, 2) := by decide +kernel
theorem dX5_init_368 : decode cX5_init 368 = .ok (.putfield 154, 3) := by decide +kernel
theorem dX5_init_371 : decode cX5_init 371 = .ok (.aload_n 0, 1) := by decide +kernel
theorem dX5_init_372 : decode cX5_init 372 = .ok (.sipush 600, 3) := by decide +kernel
theorem dX5_init_375 : decode cX5_init 375 = .ok (.newarray .boolean, 2) := by decide +kernel
theorem dX5_init_377 : decode cX5_init 377 = .ok (.putfield 157, 3) := by decide +kernel
theorem dX5_init_380 : decode cX5_init 380 = .ok (.aload_n 0, 1) := by decide +kernel
theorem dX5_init_381 : decode cX5_init 381 = .ok (.sipush 600, 3) := by decide +kernel
theorem dX5_init_384 : decode cX5_init 384 = .ok (.newarray .boolean, 2) := by decide +kernel
theorem dX5_init_386 : decode cX5_init 386 = .ok (.putfield 160, 3) := by decide +kernel
theorem dX5_init_389 : decode cX5_init 389 = .ok (.aload_n 0, 1) := by decide +kernel
theorem dX5_init_390 : decode cX5_init 390 = .ok (.ldc 163, 2) := by decide +kernel
theorem dX5_init_392 : decode cX5_init 392 = .ok (.newarray .int, 2) := by decide +kernel
theorem dX5_init_394 : decode cX5_init 394 = .ok (.putfield 164, 3) := by decide +kernel
theorem dX5_init_397 : decode cX5_init 397 = .ok (.aload_n 0, 1) := by decide +kernel
theorem dX5_init_398 : decode cX5_init 398 = .ok (.sipush 4800, 3) := by decide +kernel
theorem dX5_init_401 : decode cX5_init 401 = .ok (.newarray .int, 2) := by decide +kernel
theorem dX5_init_403 : decode cX5_init 403 = .ok (.putfield 167, 3) := by decide +kernel
theorem dX5_init_406 : decode cX5_init 406 = .ok (.aload_n 0, 1) := by decide +kernel
theorem dX5_init_407 : decode cX5_init 407 = .ok (.sipush 400, 3) := by decide +kernel
theorem dX5_init_410 : decode cX5_init 410 = .ok (.newarray .int, 2) := by decide +kernel
theorem dX5_init_412 : decode cX5_init 412 = .ok (.putfield 170, 3) := by decide +kernel
theorem dX5_init_415 : decode cX5_init 415 = .ok (.aload_n 0, 1) := by decide +kernel
theorem dX5_init_416 : decode cX5_init 416 = .ok (.sipush 400, 3) := by decide +kernel
theorem dX5_init_419 : decode cX5_init 419 = .ok (.newarray .int, 2) := by decide +kernel
theorem dX5_init_421 : decode cX5_init 421 = .ok (.putfield 173, 3) := by decide +kernel
theorem dX5_init_424 : decode cX5_init 424 = .ok (.aload_n 0, 1) := by decide +kernel
theorem dX5_init_425 : decode cX5_init 425 = .ok (.sipush 300, 3) := by decide +kernel
theorem dX5_init_428 : decode cX5_init 428 = .ok (.newarray .boolean, 2) := by decide +kernel
theorem dX5_init_430 : decode cX5_init 430 = .ok (.putfield 176, 3) := by decide +kernel
theorem dX5_init_433 : decode cX5_init 433 = .ok (.aload_n 0, 1) := by decide +kernel
theorem dX5_init_434 : decode cX5_init 434 = .ok (.invokevirtual 179, 3) := by decide +kernel
theorem dX5_init_437 : decode cX5_init 437 = .ok (.return_, 1) := by decide +kernel
theorem dX5_in_0 : decode cX5_in 0 = .ok (.lload_n 0, 1) := by decide +kernel
theorem dX5_in_1 : decode cX5_in 1 = .ok (.lload_n 2, 1) := by decide +kernel
theorem dX5_in_2 : decode cX5_in 2 = .ok (.lcmp, 1) := by decide +kernel
theorem dX5_in_3 : decode cX5_in 3 = .ok (.ifCond .lt 14, 3) := by decide +kernel
theorem dX5_in_6 : decode cX5_in 6 = .ok (.lload_n 0, 1) := by decide +kernel
theorem dX5_in_7 : decode cX5_in 7 = .ok (.lload 4, 2) := by decide +kernel
theorem dX5_in_9 : decode cX5_in 9 = .ok (.lcmp, 1) := by decide +kernel
theorem dX5_in_10 : decode cX5_in 10 = .ok (.ifCond .gt 7, 3) := by decide +kernel
theorem dX5_in_13 : decode cX5_in 13 = .ok (.iconst 1, 1) := by decide +kernel
theorem dX5_in_14 : decode cX5_in 14 = .ok (.goto 4, 3) := by decide +kernel
theorem dX5_in_17 : decode cX5_in 17 = .ok (.iconst 0, 1) := by decide +kernel
theorem dX5_in_18 : decode cX5_in 18 = .ok (.ireturn, 1) := by decide +kernel
theorem dX5_begin_0 : decode cX5_begin 0 = .ok (.iconst 0, 1) := by decide +kernel
theorem dX5_begin_1 : decode cX5_begin 1 = .ok (.istore_n 1, 1) := by decide +kernel
theorem dX5_begin_2 : decode cX5_begin 2 = .ok (.iload_n 1, 1) := by decide +kernel
theorem dX5_begin_3 : decode cX5_begin 3 = .ok (.bipush 8, 2) := by decide +kernel
theorem dX5_begin_5 : decode cX5_begin 5 = .ok (.if_icmp .ge 37, 3) := by decide +kernel
theorem dX5_begin_8 : decode cX5_begin 8 = .ok (.aload_n 0, 1) := by decide +kernel
theorem dX5_begin_9 : decode cX5_begin 9 = .ok (.getfield 45, 3) := by decide +kernel
theorem dX5_begin_12 : decode cX5_begin 12 = .ok (.iload_n 1, 1) := by decide +kernel
theorem dX5_begin_13 : decode cX5_begin 13 = .ok (.aload_n 0, 1) := by decide +kernel
theorem dX5_begin_14 : decode cX5_begin 14 = .ok (.getfield 13, 3) := by decide +kernel
theorem dX5_begin_17 : decode cX5_begin 17 = .ok (.iastore, 1) := by decide +kernel
theorem dX5_begin_18 : decode cX5_begin 18 = .ok (.aload_n 0, 1) := by decide +kernel
theorem dX5_begin_19 : decode cX5_begin 19 = .ok (.getfield 61, 3) := by decide +kernel
theorem dX5_begin_22 : decode cX5_begin 22 = .ok (.iload_n 1, 1) := by decide +kernel
theorem dX5_begin_23 : decode cX5_begin 23 = .ok (.aload_n 0, 1) := by decide +kernel
theorem dX5_begin_24 : decode cX5_begin 24 = .ok (.getfield 13, 3) := by decide +kernel
theorem dX5_begin_27 : decode cX5_begin 27 = .ok (.iastore, 1) := by decide +kernel
theorem dX5_begin_28 : decode cX5_begin 28 = .ok (.aload_n 0, 1) := by decide +kernel
theorem dX5_begin_29 : decode cX5_begin 29 = .ok (.getfield 67, 3) := by decide +kernel
theorem dX5_begin_32 : decode cX5_begin 32 = .ok (.iload_n 1, 1) := by decide +kernel
theorem dX5_begin_33 : decode cX5_begin 33 = .ok (.bipush (-6), 2) := by decide +kernel
theorem dX5_begin_35 : decode cX5_begin 35 = .ok (.iastore, 1) := by decide +kernel
theorem dX5_begin_36 : decode cX5_begin 36 = .ok (.iinc 1 1, 3) := by decide +kernel
theorem dX5_begin_39 : decode cX5_begin 39 = .ok (.goto (-37), 3) := by decide +kernel
theorem dX5_begin_42 : decode cX5_begin 42 = .ok (.iconst 0, 1) := by decide +kernel
theorem dX5_begin_43 : decode cX5_begin 43 = .ok (.istore_n 1, 1) := by decide +kernel
theorem dX5_begin_44 : decode cX5_begin 44 = .ok (.iload_n 1, 1) := by decide +kernel
theorem dX5_begin_45 : decode cX5_begin 45 = .ok (.iconst 2, 1) := by decide +kernel
theorem dX5_begin_46 : decode cX5_begin 46 = .ok (.if_icmp .ge 107, 3) := by decide +kernel
theorem dX5_begin_49 : decode cX5_begin 49 = .ok (.aload_n 0, 1) := by decide +kernel
theorem dX5_begin_50 : decode cX5_begin 50 = .ok (.getfield 79, 3) := by decide +kernel
theorem dX5_begin_53 : decode cX5_begin 53 = .ok (.iload_n 1, 1) := by decide +kernel
theorem dX5_begin_54 : decode cX5_begin 54 = .ok (.bipush 10, 2) := by decide +kernel
theorem dX5_begin_56 : decode cX5_begin 56 = .ok (.aload_n 0, 1) := by decide +kernel
theorem dX5_begin_57 : decode cX5_begin 57 = .ok (.getfield 7, 3) := by decide +kernel
theorem dX5_begin_60 : decode cX5_begin 60 = .ok (.imul, 1) := by decide +kernel
theorem dX5_begin_61 : decode cX5_begin 61 = .ok (.iastore, 1) := by decide +kernel
theorem dX5_begin_62 : decode cX5_begin 62 = .ok (.aload_n 0, 1) := by decide +kernel
theorem dX5_begin_63 : decode cX5_begin 63 = .ok (.getfield 82, 3) := by decide +kernel
theorem dX5_begin_66 : decode cX5_begin 66 = .ok (.iload_n 1, 1) := by decide +kernel
theorem dX5_begin_67 : decode cX5_begin 67 = .ok (.ldc 182, 2) := by decide +kernel
theorem dX5_begin_69 : decode cX5_begin 69 = .ok (.iastore, 1) := by decide +kernel
theorem dX5_begin_70 : decode cX5_begin 70 = .ok (.aload_n 0, 1) := by decide +kernel
theorem dX5_begin_71 : decode cX5_begin 71 = .ok (.getfield 85, 3) := by decide +kernel
theorem dX5_begin_74 : decode cX5_begin 74 = .ok (.iload_n 1, 1) := by decide +kernel
theorem dX5_begin_75 : decode cX5_begin 75 = .ok (.iconst (-1), 1) := by decide +kernel
theorem dX5_begin_76 : decode cX5_begin 76 = .ok (.iastore, 1) := by decide +kernel
theorem dX5_begin_77 : decode cX5_begin 77 = .ok (.aload_n 0, 1) := by decide +kernel
theorem dX5_begin_78 : decode cX5_begin 78 = .ok (.getfield 88, 3) := by decide +kernel
theorem dX5_begin_81 : decode cX5_begin 81 = .ok (.iload_n 1, 1) := by decide +kernel
theorem dX5_begin_82 : decode cX5_begin 82 = .ok (.bipush (-6), 2) := by decide +kernel
theorem dX5_begin_84 : decode cX5_begin 84 = .ok (.iastore, 1) := by decide +kernel
theorem dX5_begin_85 : decode cX5_begin 85 = .ok (.aload_n 0, 1) := by decide +kernel
theorem dX5_begin_86 : decode cX5_begin 86 = .ok (.getfield 91, 3) := by decide +kernel
theorem dX5_begin_89 : decode cX5_begin 89 = .ok (.iload_n 1, 1) := by decide +kernel
theorem dX5_begin_90 : decode cX5_begin 90 = .ok (.bipush (-6), 2) := by decide +kernel
theorem dX5_begin_92 : decode cX5_begin 92 = .ok (.iastore, 1) := by decide +kernel
theorem dX5_begin_93 : decode cX5_begin 93 = .ok (.aload_n 0, 1) := by decide +kernel
theorem dX5_begin_94 : decode cX5_begin 94 = .ok (.getfield 94, 3) := by decide +kernel
theorem dX5_begin_97 : decode cX5_begin 97 = .ok (.iload_n 1, 1) := by decide +kernel
theorem dX5_begin_98 : decode cX5_begin 98 = .ok (.bipush (-6), 2) := by decide +kernel
theorem dX5_begin_100 : decode cX5_begin 100 = .ok (.iastore, 1) := by decide +kernel
theorem dX5_begin_101 : decode cX5_begin 101 = .ok (.aload_n 0, 1) := by decide +kernel
theorem dX5_begin_102 : decode cX5_begin 102 = .ok (.getfield 103, 3) := by decide +kernel
theorem dX5_begin_105 : decode cX5_begin 105 = .ok (.iload_n 1, 1) := by decide +kernel
theorem dX5_begin_106 : decode cX5_begin 106 = .ok (.bipush (-6), 2) := by decide +kernel
theorem dX5_begin_108 : decode cX5_begin 108 = .ok (.iastore, 1) := by decide +kernel
theorem dX5_begin_109 : decode cX5_begin 109 = .ok (.aload_n 0, 1) := by decide +kernel
theorem dX5_begin_110 : decode cX5_begin 110 = .ok (.getfield 106, 3) := by decide +kernel
theorem dX5_begin_113 : decode cX5_begin 113 = .ok (.iload_n 1, 1) := by decide +kernel
theorem dX5_begin_114 : decode cX5_begin 114 = .ok (.bipush (-6), 2) := by decide +kernel
theorem dX5_begin_116 : decode cX5_begin 116 = .ok (.iastore, 1) := by decide +kernel
theorem dX5_begin_117 : decode cX5_begin 117 = .ok (.aload_n 0, 1) := by decide +kernel
theorem dX5_begin_118 : decode cX5_begin 118 = .ok (.getfield 112, 3) := by decide +kernel
theorem dX5_begin_121 : decode cX5_begin 121 = .ok (.iload_n 1, 1) := by decide +kernel
theorem dX5_begin_122 : decode cX5_begin 122 = .ok (.aload_n 0, 1) := by decide +kernel
theorem dX5_begin_123 : decode cX5_begin 123 = .ok (.getfield 16, 3) := by decide +kernel
theorem dX5_begin_126 : decode cX5_begin 126 = .ok (.iastore, 1) := by decide +kernel
theorem dX5_begin_127 : decode cX5_begin 127 = .ok (.aload_n 0, 1) := by decide +kernel
theorem dX5_begin_128 : decode cX5_begin 128 = .ok (.getfield 118, 3) := by decide +kernel
theorem dX5_begin_131 : decode cX5_begin 131 = .ok (.iload_n 1, 1) := by decide +kernel
theorem dX5_begin_132 : decode cX5_begin 132 = .ok (.aload_n 0, 1) := by decide +kernel
theorem dX5_begin_133 : decode cX5_begin 133 = .ok (.getfield 16, 3) := by decide +kernel
theorem dX5_begin_136 : decode cX5_begin 136 = .ok (.iastore, 1) := by decide +kernel
theorem dX5_begin_137 : decode cX5_begin 137 = .ok (.aload_n 0, 1) := by decide +kernel
theorem dX5_begin_138 : decode cX5_begin 138 = .ok (.getfield 124, 3) := by decide +kernel
theorem dX5_begin_141 : decode cX5_begin 141 = .ok (.iload_n 1, 1) := by decide +kernel
theorem dX5_begin_142 : decode cX5_begin 142 = .ok (.iload_n 1, 1) := by decide +kernel
theorem dX5_begin_143 : decode cX5_begin 143 = .ok (.bipush 6, 2) := by decide +kernel
theorem dX5_begin_145 : decode cX5_begin 145 = .ok (.iadd, 1) := by decide +kernel
theorem dX5_begin_146 : decode cX5_begin 146 = .ok (.iastore, 1) := by decide +kernel
theorem dX5_begin_147 : decode cX5_begin 147 = .ok (.iinc 1 1, 3) := by decide +kernel
theorem dX5_begin_150 : decode cX5_begin 150 = .ok (.goto (-106), 3) := by decide +kernel
theorem dX5_begin_153 : decode cX5_begin 153 = .ok (.return_, 1) := by decide +kernel
theorem dX5_isStream_0 : decode cX5_isStream 0 = .ok (.iload_n 0, 1) := by decide +kernel
theorem dX5_isStream_1 : decode cX5_isStream 1 = .ok (.i2l, 1) := by decide +kernel
theorem dX5_isStream_2 : decode cX5_isStream 2 = .ok (.lconst 0, 1) := by decide +kernel
theorem dX5_isStream_3 : decode cX5_isStream 3 = .ok (.ldc2_w 183, 3) := by decide +kernel
theorem dX5_isStream_6 : decode cX5_isStream 6 = .ok (.invokestatic 185, 3) := by decide +kernel
theorem dX5_isStream_9 : decode cX5_isStream 9 = .ok (.ireturn, 1) := by decide +kernel
theorem dX5_isSide_0 : decode cX5_isSide 0 = .ok (.iload_n 0, 1) := by decide +kernel
theorem dX5_isSide_1 : decode cX5_isSide 1 = .ok (.i2l, 1) := by decide +kernel
theorem dX5_isSide_2 : decode cX5_isSide 2 = .ok (.lconst 0, 1) := by decide +kernel
theorem dX5_isSide_3 : decode cX5_isSide 3 = .ok (.lconst 1, 1) := by decide +kernel
theorem dX5_isSide_4 : decode cX5_isSide 4 = .ok (.invokestatic 185, 3) := by decide +kernel
theorem dX5_isSide_7 : decode cX5_isSide 7 = .ok (.ireturn, 1) := by decide +kernel
theorem dX5_shape_0 : decode cX5_shape 0 = .ok (.iload_n 1, 1) := by decide +kernel
theorem dX5_shape_1 : decode cX5_shape 1 = .ok (.i2l, 1) := by decide +kernel
theorem dX5_shape_2 : decode cX5_shape 2 = .ok (.ldc2_w 189, 3) := by decide +kernel
theorem dX5_shape_5 : decode cX5_shape 5 = .ok (.ldc2_w 191, 3) := by decide +kernel
theorem dX5_shape_8 : decode cX5_shape 8 = .ok (.invokestatic 185, 3) := by decide +kernel
theorem dX5_shape_11 : decode cX5_shape 11 = .ok (.ifCond .eq 31, 3) := by decide +kernel
theorem dX5_shape_14 : decode cX5_shape 14 = .ok (.iload_n 2, 1) := by decide +kernel
theorem dX5_shape_15 : decode cX5_shape 15 = .ok (.i2l, 1) := by decide +kernel
theorem dX5_shape_16 : decode cX5_shape 16 = .ok (.ldc2_w 193, 3) := by decide +kernel
theorem dX5_shape_19 : decode cX5_shape 19 = .ok (.ldc2_w 191, 3) := by decide +kernel
theorem dX5_shape_22 : decode cX5_shape 22 = .ok (.invokestatic 185, 3) := by decide +kernel
theorem dX5_shape_25 : decode cX5_shape 25 = .ok (.ifCond .eq 17, 3) := by decide +kernel
theorem dX5_shape_28 : decode cX5_shape 28 = .ok (.iload_n 3, 1) := by decide +kernel
theorem dX5_shape_29 : decode cX5_shape 29 = .ok (.i2l, 1) := by decide +kernel
theorem dX5_shape_30 : decode cX5_shape 30 = .ok (.ldc2_w 193, 3) := by decide +kernel
theorem dX5_shape_33 : decode cX5_shape 33 = .ok (.ldc2_w 195, 3) := by decide +kernel
theorem dX5_shape_36 : decode cX5_shape 36 = .ok (.invokestatic 185, 3) := by decide +kernel
theorem dX5_shape_39 : decode cX5_shape 39 = .ok (.ifCond .ne 6, 3) := by decide +kernel
theorem dX5_shape_42 : decode cX5_shape 42 = .ok (.bipush (-2), 2) := by decide +kernel
theorem dX5_shape_44 : decode cX5_shape 44 = .ok (.ireturn, 1) := by decide +kernel
theorem dX5_shape_45 : decode cX5_shape 45 = .ok (.aload_n 0, 1) := by decide +kernel
theorem dX5_shape_46 : decode cX5_shape 46 = .ok (.getfield 197, 3) := by decide +kernel
theorem dX5_shape_49 : decode cX5_shape 49 = .ok (.ifCond .eq 6, 3) := by decide +kernel
theorem dX5_shape_52 : decode cX5_shape 52 = .ok (.bipush (-3), 2) := by decide +kernel
theorem dX5_shape_54 : decode cX5_shape 54 = .ok (.ireturn, 1) := by decide +kernel
theorem dX5_shape_55 : decode cX5_shape 55 = .ok (.aload_n 0, 1) := by decide +kernel
theorem dX5_shape_56 : decode cX5_shape 56 = .ok (.iload_n 1, 1) := by decide +kernel
theorem dX5_shape_57 : decode cX5_shape 57 = .ok (.putfield 7, 3) := by decide +kernel
theorem dX5_shape_60 : decode cX5_shape 60 = .ok (.aload_n 0, 1) := by decide +kernel
theorem dX5_shape_61 : decode cX5_shape 61 = .ok (.iload_n 2, 1) := by decide +kernel
theorem dX5_shape_62 : decode cX5_shape 62 = .ok (.putfield 13, 3) := by decide +kernel
theorem dX5_shape_65 : decode cX5_shape 65 = .ok (.aload_n 0, 1) := by decide +kernel
theorem dX5_shape_66 : decode cX5_shape 66 = .ok (.iload_n 3, 1) := by decide +kernel
theorem dX5_shape_67 : decode cX5_shape 67 = .ok (.putfield 16, 3) := by decide +kernel
theorem dX5_shape_70 : decode cX5_shape 70 = .ok (.aload_n 0, 1) := by decide +kernel
theorem dX5_shape_71 : decode cX5_shape 71 = .ok (.invokevirtual 179, 3) := by decide +kernel
theorem dX5_shape_74 : decode cX5_shape 74 = .ok (.iconst 1, 1) := by decide +kernel
theorem dX5_shape_75 : decode cX5_shape 75 = .ok (.ireturn, 1) := by decide +kernel
theorem dX5_write_0 : decode cX5_write 0 = .ok (.iload_n 1, 1) := by decide +kernel
theorem dX5_write_1 : decode cX5_write 1 = .ok (.invokestatic 201, 3) := by decide +kernel
theorem dX5_write_4 : decode cX5_write 4 = .ok (.ifCond .ne 5, 3) := by decide +kernel
theorem dX5_write_7 : decode cX5_write 7 = .ok (.iconst (-1), 1) := by decide +kernel
theorem dX5_write_8 : decode cX5_write 8 = .ok (.ireturn, 1) := by decide +kernel
theorem dX5_write_9 : decode cX5_write 9 = .ok (.iload_n 2, 1) := by decide +kernel
theorem dX5_write_10 : decode cX5_write 10 = .ok (.i2l, 1) := by decide +kernel
theorem dX5_write_11 : decode cX5_write 11 = .ok (.lconst 1, 1) := by decide +kernel
theorem dX5_write_12 : decode cX5_write 12 = .ok (.ldc2_w 191, 3) := by decide +kernel
theorem dX5_write_15 : decode cX5_write 15 = .ok (.invokestatic 185, 3) := by decide +kernel
theorem dX5_write_18 : decode cX5_write 18 = .ok (.ifCond .ne 6, 3) := by decide +kernel
theorem dX5_write_21 : decode cX5_write 21 = .ok (.bipush (-2), 2) := by decide +kernel
theorem dX5_write_23 : decode cX5_write 23 = .ok (.ireturn, 1) := by decide +kernel
theorem dX5_write_24 : decode cX5_write 24 = .ok (.aload_n 0, 1) := by decide +kernel
theorem dX5_write_25 : decode cX5_write 25 = .ok (.getfield 23, 3) := by decide +kernel
theorem dX5_write_28 : decode cX5_write 28 = .ok (.iload_n 1, 1) := by decide +kernel
theorem dX5_write_29 : decode cX5_write 29 = .ok (.baload, 1) := by decide +kernel
theorem dX5_write_30 : decode cX5_write 30 = .ok (.ifCond .ne 12, 3) := by decide +kernel
theorem dX5_write_33 : decode cX5_write 33 = .ok (.aload_n 0, 1) := by decide +kernel
theorem dX5_write_34 : decode cX5_write 34 = .ok (.getfield 27, 3) := by decide +kernel
theorem dX5_write_37 : decode cX5_write 37 = .ok (.iload_n 1, 1) := by decide +kernel
theorem dX5_write_38 : decode cX5_write 38 = .ok (.baload, 1) := by decide +kernel
theorem dX5_write_39 : decode cX5_write 39 = .ok (.ifCond .eq 6, 3) := by decide +kernel
theorem dX5_write_42 : decode cX5_write 42 = .ok (.bipush (-3), 2) := by decide +kernel
theorem dX5_write_44 : decode cX5_write 44 = .ok (.ireturn, 1) := by decide +kernel
theorem dX5_write_45 : decode cX5_write 45 = .ok (.aload_n 0, 1) := by decide +kernel
theorem dX5_write_46 : decode cX5_write 46 = .ok (.getfield 19, 3) := by decide +kernel
theorem dX5_write_49 : decode cX5_write 49 = .ok (.iload_n 1, 1) := by decide +kernel
theorem dX5_write_50 : decode cX5_write 50 = .ok (.iaload, 1) := by decide +kernel
theorem dX5_write_51 : decode cX5_write 51 = .ok (.iload_n 2, 1) := by decide +kernel
theorem dX5_write_52 : decode cX5_write 52 = .ok (.iadd, 1) := by decide +kernel
theorem dX5_write_53 : decode cX5_write 53 = .ok (.sipush 1000, 3) := by decide +kernel
theorem dX5_write_56 : decode cX5_write 56 = .ok (.if_icmp .le 6, 3) := by decide +kernel
theorem dX5_write_59 : decode cX5_write 59 = .ok (.bipush (-4), 2) := by decide +kernel
theorem dX5_write_61 : decode cX5_write 61 = .ok (.ireturn, 1) := by decide +kernel
theorem dX5_write_62 : decode cX5_write 62 = .ok (.aload_n 0, 1) := by decide +kernel
theorem dX5_write_63 : decode cX5_write 63 = .ok (.getfield 19, 3) := by decide +kernel
theorem dX5_write_66 : decode cX5_write 66 = .ok (.iload_n 1, 1) := by decide +kernel
theorem dX5_write_67 : decode cX5_write 67 = .ok (.dup2, 1) := by decide +kernel
theorem dX5_write_68 : decode cX5_write 68 = .ok (.iaload, 1) := by decide +kernel
theorem dX5_write_69 : decode cX5_write 69 = .ok (.iload_n 2, 1) := by decide +kernel
theorem dX5_write_70 : decode cX5_write 70 = .ok (.iadd, 1) := by decide +kernel
theorem dX5_write_71 : decode cX5_write 71 = .ok (.iastore, 1) := by decide +kernel
theorem dX5_write_72 : decode cX5_write 72 = .ok (.aload_n 0, 1) := by decide +kernel
theorem dX5_write_73 : decode cX5_write 73 = .ok (.iconst 1, 1) := by decide +kernel
theorem dX5_write_74 : decode cX5_write 74 = .ok (.putfield 197, 3) := by decide +kernel
theorem dX5_write_77 : decode cX5_write 77 = .ok (.aload_n 0, 1) := by decide +kernel
theorem dX5_write_78 : decode cX5_write 78 = .ok (.getfield 19, 3) := by decide +kernel
theorem dX5_write_81 : decode cX5_write 81 = .ok (.iload_n 1, 1) := by decide +kernel
theorem dX5_write_82 : decode cX5_write 82 = .ok (.iaload, 1) := by decide +kernel
theorem dX5_write_83 : decode cX5_write 83 = .ok (.ireturn, 1) := by decide +kernel
theorem dX5_end_0 : decode cX5_end 0 = .ok (.iload_n 1, 1) := by decide +kernel
theorem dX5_end_1 : decode cX5_end 1 = .ok (.invokestatic 201, 3) := by decide +kernel
theorem dX5_end_4 : decode cX5_end 4 = .ok (.ifCond .ne 5, 3) := by decide +kernel
theorem dX5_end_7 : decode cX5_end 7 = .ok (.iconst (-1), 1) := by decide +kernel
theorem dX5_end_8 : decode cX5_end 8 = .ok (.ireturn, 1) := by decide +kernel
theorem dX5_end_9 : decode cX5_end 9 = .ok (.aload_n 0, 1) := by decide +kernel
theorem dX5_end_10 : decode cX5_end 10 = .ok (.getfield 23, 3) := by decide +kernel
theorem dX5_end_13 : decode cX5_end 13 = .ok (.iload_n 1, 1) := by decide +kernel
theorem dX5_end_14 : decode cX5_end 14 = .ok (.baload, 1) := by decide +kernel
theorem dX5_end_15 : decode cX5_end 15 = .ok (.ifCond .ne 12, 3) := by decide +kernel
theorem dX5_end_18 : decode cX5_end 18 = .ok (.aload_n 0, 1) := by decide +kernel
theorem dX5_end_19 : decode cX5_end 19 = .ok (.getfield 27, 3) := by decide +kernel
theorem dX5_end_22 : decode cX5_end 22 = .ok (.iload_n 1, 1) := by decide +kernel
theorem dX5_end_23 : decode cX5_end 23 = .ok (.baload, 1) := by decide +kernel
theorem dX5_end_24 : decode cX5_end 24 = .ok (.ifCond .eq 6, 3) := by decide +kernel
theorem dX5_end_27 : decode cX5_end 27 = .ok (.bipush (-3), 2) := by decide +kernel
theorem dX5_end_29 : decode cX5_end 29 = .ok (.ireturn, 1) := by decide +kernel
theorem dX5_end_30 : decode cX5_end 30 = .ok (.aload_n 0, 1) := by decide +kernel
theorem dX5_end_31 : decode cX5_end 31 = .ok (.getfield 23, 3) := by decide +kernel
theorem dX5_end_34 : decode cX5_end 34 = .ok (.iload_n 1, 1) := by decide +kernel
theorem dX5_end_35 : decode cX5_end 35 = .ok (.iconst 1, 1) := by decide +kernel
theorem dX5_end_36 : decode cX5_end 36 = .ok (.bastore, 1) := by decide +kernel
theorem dX5_end_37 : decode cX5_end 37 = .ok (.aload_n 0, 1) := by decide +kernel
theorem dX5_end_38 : decode cX5_end 38 = .ok (.iconst 1, 1) := by decide +kernel
theorem dX5_end_39 : decode cX5_end 39 = .ok (.putfield 197, 3) := by decide +kernel
theorem dX5_end_42 : decode cX5_end 42 = .ok (.iconst 1, 1) := by decide +kernel
theorem dX5_end_43 : decode cX5_end 43 = .ok (.ireturn, 1) := by decide +kernel
theorem dX5_cut_0 : decode cX5_cut 0 = .ok (.iload_n 1, 1) := by decide +kernel
theorem dX5_cut_1 : decode cX5_cut 1 = .ok (.invokestatic 201, 3) := by decide +kernel
theorem dX5_cut_4 : decode cX5_cut 4 = .ok (.ifCond .ne 5, 3) := by decide +kernel
theorem dX5_cut_7 : decode cX5_cut 7 = .ok (.iconst (-1), 1) := by decide +kernel
theorem dX5_cut_8 : decode cX5_cut 8 = .ok (.ireturn, 1) := by decide +kernel
theorem dX5_cut_9 : decode cX5_cut 9 = .ok (.aload_n 0, 1) := by decide +kernel
theorem dX5_cut_10 : decode cX5_cut 10 = .ok (.getfield 27, 3) := by decide +kernel
theorem dX5_cut_13 : decode cX5_cut 13 = .ok (.iload_n 1, 1) := by decide +kernel
theorem dX5_cut_14 : decode cX5_cut 14 = .ok (.baload, 1) := by decide +kernel
theorem dX5_cut_15 : decode cX5_cut 15 = .ok (.ifCond .eq 6, 3) := by decide +kernel
theorem dX5_cut_18 : decode cX5_cut 18 = .ok (.bipush (-3), 2) := by decide +kernel
theorem dX5_cut_20 : decode cX5_cut 20 = .ok (.ireturn, 1) := by decide +kernel
theorem dX5_cut_21 : decode cX5_cut 21 = .ok (.aload_n 0, 1) := by decide +kernel
theorem dX5_cut_22 : decode cX5_cut 22 = .ok (.getfield 27, 3) := by decide +kernel
theorem dX5_cut_25 : decode cX5_cut 25 = .ok (.iload_n 1, 1) := by decide +kernel
theorem dX5_cut_26 : decode cX5_cut 26 = .ok (.iconst 1, 1) := by decide +kernel
theorem dX5_cut_27 : decode cX5_cut 27 = .ok (.bastore, 1) := by decide +kernel
theorem dX5_cut_28 : decode cX5_cut 28 = .ok (.aload_n 0, 1) := by decide +kernel
theorem dX5_cut_29 : decode cX5_cut 29 = .ok (.getfield 30, 3) := by decide +kernel
theorem dX5_cut_32 : decode cX5_cut 32 = .ok (.iload_n 1, 1) := by decide +kernel
theorem dX5_cut_33 : decode cX5_cut 33 = .ok (.iconst 1, 1) := by decide +kernel
theorem dX5_cut_34 : decode cX5_cut 34 = .ok (.bastore, 1) := by decide +kernel
theorem dX5_cut_35 : decode cX5_cut 35 = .ok (.aload_n 0, 1) := by decide +kernel
theorem dX5_cut_36 : decode cX5_cut 36 = .ok (.iconst 1, 1) := by decide +kernel
theorem dX5_cut_37 : decode cX5_cut 37 = .ok (.putfield 197, 3) := by decide +kernel
theorem dX5_cut_40 : decode cX5_cut 40 = .ok (.iconst 1, 1) := by decide +kernel
theorem dX5_cut_41 : decode cX5_cut 41 = .ok (.ireturn, 1) := by decide +kernel
theorem dX5_allRead_0 : decode cX5_allRead 0 = .ok (.iconst 0, 1) := by decide +kernel
theorem dX5_allRead_1 : decode cX5_allRead 1 = .ok (.istore_n 2, 1) := by decide +kernel
theorem dX5_allRead_2 : decode cX5_allRead 2 = .ok (.iconst 1, 1) := by decide +kernel
theorem dX5_allRead_3 : decode cX5_allRead 3 = .ok (.iload_n 1, 1) := by decide +kernel
theorem dX5_allRead_4 : decode cX5_allRead 4 = .ok (.isub, 1) := by decide +kernel
theorem dX5_allRead_5 : decode cX5_allRead 5 = .ok (.istore_n 3, 1) := by decide +kernel
theorem dX5_allRead_6 : decode cX5_allRead 6 = .ok (.iload_n 3, 1) := by decide +kernel
theorem dX5_allRead_7 : decode cX5_allRead 7 = .ok (.bipush 8, 2) := by decide +kernel
theorem dX5_allRead_9 : decode cX5_allRead 9 = .ok (.if_icmp .ge 18, 3) := by decide +kernel
theorem dX5_allRead_12 : decode cX5_allRead 12 = .ok (.iload_n 2, 1) := by decide +kernel
theorem dX5_allRead_13 : decode cX5_allRead 13 = .ok (.aload_n 0, 1) := by decide +kernel
theorem dX5_allRead_14 : decode cX5_allRead 14 = .ok (.getfield 58, 3) := by decide +kernel
theorem dX5_allRead_17 : decode cX5_allRead 17 = .ok (.iload_n 3, 1) := by decide +kernel
theorem dX5_allRead_18 : decode cX5_allRead 18 = .ok (.iaload, 1) := by decide +kernel
theorem dX5_allRead_19 : decode cX5_allRead 19 = .ok (.iadd, 1) := by decide +kernel
theorem dX5_allRead_20 : decode cX5_allRead 20 = .ok (.istore_n 2, 1) := by decide +kernel
theorem dX5_allRead_21 : decode cX5_allRead 21 = .ok (.iinc 3 2, 3) := by decide +kernel
theorem dX5_allRead_24 : decode cX5_allRead 24 = .ok (.goto (-18), 3) := by decide +kernel
theorem dX5_allRead_27 : decode cX5_allRead 27 = .ok (.iload_n 2, 1) := by decide +kernel
theorem dX5_allRead_28 : decode cX5_allRead 28 = .ok (.ireturn, 1) := by decide +kernel
theorem dX5_read_0 : decode cX5_read 0 = .ok (.iload_n 1, 1) := by decide +kernel
theorem dX5_read_1 : decode cX5_read 1 = .ok (.invokestatic 201, 3) := by decide +kernel
theorem dX5_read_4 : decode cX5_read 4 = .ok (.ifCond .ne 5, 3) := by decide +kernel
theorem dX5_read_7 : decode cX5_read 7 = .ok (.iconst (-1), 1) := by decide +kernel
theorem dX5_read_8 : decode cX5_read 8 = .ok (.ireturn, 1) := by decide +kernel
theorem dX5_read_9 : decode cX5_read 9 = .ok (.iload_n 2, 1) := by decide +kernel
theorem dX5_read_10 : decode cX5_read 10 = .ok (.i2l, 1) := by decide +kernel
theorem dX5_read_11 : decode cX5_read 11 = .ok (.lconst 1, 1) := by decide +kernel
theorem dX5_read_12 : decode cX5_read 12 = .ok (.ldc2_w 191, 3) := by decide +kernel
theorem dX5_read_15 : decode cX5_read 15 = .ok (.invokestatic 185, 3) := by decide +kernel
theorem dX5_read_18 : decode cX5_read 18 = .ok (.ifCond .ne 6, 3) := by decide +kernel
theorem dX5_read_21 : decode cX5_read 21 = .ok (.bipush (-2), 2) := by decide +kernel
theorem dX5_read_23 : decode cX5_read 23 = .ok (.ireturn, 1) := by decide +kernel
theorem dX5_read_24 : decode cX5_read 24 = .ok (.aload_n 0, 1) := by decide +kernel
theorem dX5_read_25 : decode cX5_read 25 = .ok (.getfield 55, 3) := by decide +kernel
theorem dX5_read_28 : decode cX5_read 28 = .ok (.iload_n 1, 1) := by decide +kernel
theorem dX5_read_29 : decode cX5_read 29 = .ok (.iaload, 1) := by decide +kernel
theorem dX5_read_30 : decode cX5_read 30 = .ok (.aload_n 0, 1) := by decide +kernel
theorem dX5_read_31 : decode cX5_read 31 = .ok (.getfield 58, 3) := by decide +kernel
theorem dX5_read_34 : decode cX5_read 34 = .ok (.iload_n 1, 1) := by decide +kernel
theorem dX5_read_35 : decode cX5_read 35 = .ok (.iaload, 1) := by decide +kernel
theorem dX5_read_36 : decode cX5_read 36 = .ok (.isub, 1) := by decide +kernel
theorem dX5_read_37 : decode cX5_read 37 = .ok (.istore_n 3, 1) := by decide +kernel
theorem dX5_read_38 : decode cX5_read 38 = .ok (.iload_n 2, 1) := by decide +kernel
theorem dX5_read_39 : decode cX5_read 39 = .ok (.iload_n 3, 1) := by decide +kernel
theorem dX5_read_40 : decode cX5_read 40 = .ok (.if_icmp .ge 7, 3) := by decide +kernel
theorem dX5_read_43 : decode cX5_read 43 = .ok (.iload_n 2, 1) := by decide +kernel
theorem dX5_read_44 : decode cX5_read 44 = .ok (.goto 4, 3) := by decide +kernel
theorem dX5_read_47 : decode cX5_read 47 = .ok (.iload_n 3, 1) := by decide +kernel
theorem dX5_read_48 : decode cX5_read 48 = .ok (.istore 4, 2) := by decide +kernel
theorem dX5_read_50 : decode cX5_read 50 = .ok (.aload_n 0, 1) := by decide +kernel
theorem dX5_read_51 : decode cX5_read 51 = .ok (.getfield 58, 3) := by decide +kernel
theorem dX5_read_54 : decode cX5_read 54 = .ok (.iload_n 1, 1) := by decide +kernel
theorem dX5_read_55 : decode cX5_read 55 = .ok (.dup2, 1) := by decide +kernel
theorem dX5_read_56 : decode cX5_read 56 = .ok (.iaload, 1) := by decide +kernel
theorem dX5_read_57 : decode cX5_read 57 = .ok (.iload 4, 2) := by decide +kernel
theorem dX5_read_59 : decode cX5_read 59 = .ok (.iadd, 1) := by decide +kernel
theorem dX5_read_60 : decode cX5_read 60 = .ok (.iastore, 1) := by decide +kernel
theorem dX5_read_61 : decode cX5_read 61 = .ok (.iconst 1, 1) := by decide +kernel
theorem dX5_read_62 : decode cX5_read 62 = .ok (.iload_n 1, 1) := by decide +kernel
theorem dX5_read_63 : decode cX5_read 63 = .ok (.iconst 2, 1) := by decide +kernel
theorem dX5_read_64 : decode cX5_read 64 = .ok (.irem, 1) := by decide +kernel
theorem dX5_read_65 : decode cX5_read 65 = .ok (.isub, 1) := by decide +kernel
theorem dX5_read_66 : decode cX5_read 66 = .ok (.istore 5, 2) := by decide +kernel
theorem dX5_read_68 : decode cX5_read 68 = .ok (.aload_n 0, 1) := by decide +kernel
theorem dX5_read_69 : decode cX5_read 69 = .ok (.getfield 58, 3) := by decide +kernel
theorem dX5_read_72 : decode cX5_read 72 = .ok (.iload_n 1, 1) := by decide +kernel
theorem dX5_read_73 : decode cX5_read 73 = .ok (.iaload, 1) := by decide +kernel
theorem dX5_read_74 : decode cX5_read 74 = .ok (.aload_n 0, 1) := by decide +kernel
theorem dX5_read_75 : decode cX5_read 75 = .ok (.getfield 13, 3) := by decide +kernel
theorem dX5_read_78 : decode cX5_read 78 = .ok (.iadd, 1) := by decide +kernel
theorem dX5_read_79 : decode cX5_read 79 = .ok (.aload_n 0, 1) := by decide +kernel
theorem dX5_read_80 : decode cX5_read 80 = .ok (.getfield 61, 3) := by decide +kernel
theorem dX5_read_83 : decode cX5_read 83 = .ok (.iload_n 1, 1) := by decide +kernel
theorem dX5_read_84 : decode cX5_read 84 = .ok (.iaload, 1) := by decide +kernel
theorem dX5_read_85 : decode cX5_read 85 = .ok (.isub, 1) := by decide +kernel
theorem dX5_read_86 : decode cX5_read 86 = .ok (.aload_n 0, 1) := by decide +kernel
theorem dX5_read_87 : decode cX5_read 87 = .ok (.getfield 13, 3) := by decide +kernel
theorem dX5_read_90 : decode cX5_read 90 = .ok (.iconst 2, 1) := by decide +kernel
theorem dX5_read_91 : decode cX5_read 91 = .ok (.idiv, 1) := by decide +kernel
theorem dX5_read_92 : decode cX5_read 92 = .ok (.if_icmp .lt 10, 3) := by decide +kernel
theorem dX5_read_95 : decode cX5_read 95 = .ok (.aload_n 0, 1) := by decide +kernel
theorem dX5_read_96 : decode cX5_read 96 = .ok (.getfield 64, 3) := by decide +kernel
theorem dX5_read_99 : decode cX5_read 99 = .ok (.iload_n 1, 1) := by decide +kernel
theorem dX5_read_100 : decode cX5_read 100 = .ok (.iconst 1, 1) := by decide +kernel
theorem dX5_read_101 : decode cX5_read 101 = .ok (.bastore, 1) := by decide +kernel
theorem dX5_read_102 : decode cX5_read 102 = .ok (.aload_n 0, 1) := by decide +kernel
theorem dX5_read_103 : decode cX5_read 103 = .ok (.iload 5, 2) := by decide +kernel
theorem dX5_read_105 : decode cX5_read 105 = .ok (.invokevirtual 205, 3) := by decide +kernel
theorem dX5_read_108 : decode cX5_read 108 = .ok (.aload_n 0, 1) := by decide +kernel
theorem dX5_read_109 : decode cX5_read 109 = .ok (.getfield 16, 3) := by decide +kernel
theorem dX5_read_112 : decode cX5_read 112 = .ok (.iadd, 1) := by decide +kernel
theorem dX5_read_113 : decode cX5_read 113 = .ok (.aload_n 0, 1) := by decide +kernel
theorem dX5_read_114 : decode cX5_read 114 = .ok (.getfield 118, 3) := by decide +kernel
theorem dX5_read_117 : decode cX5_read 117 = .ok (.iload 5, 2) := by decide +kernel
theorem dX5_read_119 : decode cX5_read 119 = .ok (.iaload, 1) := by decide +kernel
theorem dX5_read_120 : decode cX5_read 120 = .ok (.isub, 1) := by decide +kernel
theorem dX5_read_121 : decode cX5_read 121 = .ok (.aload_n 0, 1) := by decide +kernel
theorem dX5_read_122 : decode cX5_read 122 = .ok (.getfield 16, 3) := by decide +kernel
theorem dX5_read_125 : decode cX5_read 125 = .ok (.iconst 2, 1) := by decide +kernel
theorem dX5_read_126 : decode cX5_read 126 = .ok (.idiv, 1) := by decide +kernel
theorem dX5_read_127 : decode cX5_read 127 = .ok (.if_icmp .lt 11, 3) := by decide +kernel
theorem dX5_read_130 : decode cX5_read 130 = .ok (.aload_n 0, 1) := by decide +kernel
theorem dX5_read_131 : decode cX5_read 131 = .ok (.getfield 115, 3) := by decide +kernel
theorem dX5_read_134 : decode cX5_read 134 = .ok (.iload 5, 2) := by decide +kernel
theorem dX5_read_136 : decode cX5_read 136 = .ok (.iconst 1, 1) := by decide +kernel
theorem dX5_read_137 : decode cX5_read 137 = .ok (.bastore, 1) := by decide +kernel
theorem dX5_read_138 : decode cX5_read 138 = .ok (.iload 4, 2) := by decide +kernel
theorem dX5_read_140 : decode cX5_read 140 = .ok (.ireturn, 1) := by decide +kernel
theorem dX5_move_0 : decode cX5_move 0 = .ok (.aload_n 0, 1) := by decide +kernel
theorem dX5_move_1 : decode cX5_move 1 = .ok (.getfield 209, 3) := by decide +kernel
theorem dX5_move_4 : decode cX5_move 4 = .ok (.bipush 50, 2) := by decide +kernel
theorem dX5_move_6 : decode cX5_move 6 = .ok (.if_icmp .ne 6, 3) := by decide +kernel
theorem dX5_move_9 : decode cX5_move 9 = .ok (.bipush (-4), 2) := by decide +kernel
theorem dX5_move_11 : decode cX5_move 11 = .ok (.ireturn, 1) := by decide +kernel
theorem dX5_move_12 : decode cX5_move 12 = .ok (.aload_n 0, 1) := by decide +kernel
theorem dX5_move_13 : decode cX5_move 13 = .ok (.dup, 1) := by decide +kernel
theorem dX5_move_14 : decode cX5_move 14 = .ok (.getfield 209, 3) := by decide +kernel
theorem dX5_move_17 : decode cX5_move 17 = .ok (.iconst 1, 1) := by decide +kernel
theorem dX5_move_18 : decode cX5_move 18 = .ok (.iadd, 1) := by decide +kernel
theorem dX5_move_19 : decode cX5_move 19 = .ok (.putfield 209, 3) := by decide +kernel
theorem dX5_move_22 : decode cX5_move 22 = .ok (.aload_n 0, 1) := by decide +kernel
theorem dX5_move_23 : decode cX5_move 23 = .ok (.getfield 209, 3) := by decide +kernel
theorem dX5_move_26 : decode cX5_move 26 = .ok (.ireturn, 1) := by decide +kernel
theorem dX5_at_0 : decode cX5_at 0 = .ok (.sipush 300, 3) := by decide +kernel
theorem dX5_at_3 : decode cX5_at 3 = .ok (.iload_n 1, 1) := by decide +kernel
theorem dX5_at_4 : decode cX5_at 4 = .ok (.imul, 1) := by decide +kernel
theorem dX5_at_5 : decode cX5_at 5 = .ok (.iload_n 2, 1) := by decide +kernel
theorem dX5_at_6 : decode cX5_at 6 = .ok (.iadd, 1) := by decide +kernel
theorem dX5_at_7 : decode cX5_at 7 = .ok (.ireturn, 1) := by decide +kernel
theorem dX5_put_0 : decode cX5_put 0 = .ok (.aload_n 0, 1) := by decide +kernel
theorem dX5_put_1 : decode cX5_put 1 = .ok (.getfield 145, 3) := by decide +kernel
theorem dX5_put_4 : decode cX5_put 4 = .ok (.aload_n 0, 1) := by decide +kernel
theorem dX5_put_5 : decode cX5_put 5 = .ok (.getfield 212, 3) := by decide +kernel
theorem dX5_put_8 : decode cX5_put 8 = .ok (.iaload, 1) := by decide +kernel
theorem dX5_put_9 : decode cX5_put 9 = .ok (.iload_n 2, 1) := by decide +kernel
theorem dX5_put_10 : decode cX5_put 10 = .ok (.iadd, 1) := by decide +kernel
theorem dX5_put_11 : decode cX5_put 11 = .ok (.aload_n 0, 1) := by decide +kernel
theorem dX5_put_12 : decode cX5_put 12 = .ok (.getfield 7, 3) := by decide +kernel
theorem dX5_put_15 : decode cX5_put 15 = .ok (.if_icmp .gt 17, 3) := by decide +kernel
theorem dX5_put_18 : decode cX5_put 18 = .ok (.aload_n 0, 1) := by decide +kernel
theorem dX5_put_19 : decode cX5_put 19 = .ok (.getfield 148, 3) := by decide +kernel
theorem dX5_put_22 : decode cX5_put 22 = .ok (.aload_n 0, 1) := by decide +kernel
theorem dX5_put_23 : decode cX5_put 23 = .ok (.getfield 212, 3) := by decide +kernel
theorem dX5_put_26 : decode cX5_put 26 = .ok (.iaload, 1) := by decide +kernel
theorem dX5_put_27 : decode cX5_put 27 = .ok (.bipush 24, 2) := by decide +kernel
theorem dX5_put_29 : decode cX5_put 29 = .ok (.if_icmp .ne 5, 3) := by decide +kernel
theorem dX5_put_32 : decode cX5_put 32 = .ok (.iconst 0, 1) := by decide +kernel
theorem dX5_put_33 : decode cX5_put 33 = .ok (.ireturn, 1) := by decide +kernel
theorem dX5_put_34 : decode cX5_put 34 = .ok (.iconst 4, 1) := by decide +kernel
theorem dX5_put_35 : decode cX5_put 35 = .ok (.bipush 24, 2) := by decide +kernel
theorem dX5_put_37 : decode cX5_put 37 = .ok (.aload_n 0, 1) := by decide +kernel
theorem dX5_put_38 : decode cX5_put 38 = .ok (.getfield 212, 3) := by decide +kernel
theorem dX5_put_41 : decode cX5_put 41 = .ok (.imul, 1) := by decide +kernel
theorem dX5_put_42 : decode cX5_put 42 = .ok (.aload_n 0, 1) := by decide +kernel
theorem dX5_put_43 : decode cX5_put 43 = .ok (.getfield 148, 3) := by decide +kernel
theorem dX5_put_46 : decode cX5_put 46 = .ok (.aload_n 0, 1) := by decide +kernel
theorem dX5_put_47 : decode cX5_put 47 = .ok (.getfield 212, 3) := by decide +kernel
theorem dX5_put_50 : decode cX5_put 50 = .ok (.iaload, 1) := by decide +kernel
theorem dX5_put_51 : decode cX5_put 51 = .ok (.iadd, 1) := by decide +kernel
theorem dX5_put_52 : decode cX5_put 52 = .ok (.imul, 1) := by decide +kernel
theorem dX5_put_53 : decode cX5_put 53 = .ok (.istore 6, 2) := by decide +kernel
theorem dX5_put_55 : decode cX5_put 55 = .ok (.aload_n 0, 1) := by decide +kernel
theorem dX5_put_56 : decode cX5_put 56 = .ok (.getfield 164, 3) := by decide +kernel
theorem dX5_put_59 : decode cX5_put 59 = .ok (.iload 6, 2) := by decide +kernel
theorem dX5_put_61 : decode cX5_put 61 = .ok (.iload_n 1, 1) := by decide +kernel
theorem dX5_put_62 : decode cX5_put 62 = .ok (.iastore, 1) := by decide +kernel
theorem dX5_put_63 : decode cX5_put 63 = .ok (.aload_n 0, 1) := by decide +kernel
theorem dX5_put_64 : decode cX5_put 64 = .ok (.getfield 164, 3) := by decide +kernel
theorem dX5_put_67 : decode cX5_put 67 = .ok (.iload 6, 2) := by decide +kernel
theorem dX5_put_69 : decode cX5_put 69 = .ok (.iconst 1, 1) := by decide +kernel
theorem dX5_put_70 : decode cX5_put 70 = .ok (.iadd, 1) := by decide +kernel
theorem dX5_put_71 : decode cX5_put 71 = .ok (.iload_n 3, 1) := by decide +kernel
theorem dX5_put_72 : decode cX5_put 72 = .ok (.iastore, 1) := by decide +kernel
theorem dX5_put_73 : decode cX5_put 73 = .ok (.aload_n 0, 1) := by decide +kernel
theorem dX5_put_74 : decode cX5_put 74 = .ok (.getfield 164, 3) := by decide +kernel
theorem dX5_put_77 : decode cX5_put 77 = .ok (.iload 6, 2) := by decide +kernel
theorem dX5_put_79 : decode cX5_put 79 = .ok (.iconst 2, 1) := by decide +kernel
theorem dX5_put_80 : decode cX5_put 80 = .ok (.iadd, 1) := by decide +kernel
theorem dX5_put_81 : decode cX5_put 81 = .ok (.iload 4, 2) := by decide +kernel
theorem dX5_put_83 : decode cX5_put 83 = .ok (.iastore, 1) := by decide +kernel
theorem dX5_put_84 : decode cX5_put 84 = .ok (.aload_n 0, 1) := by decide +kernel
theorem dX5_put_85 : decode cX5_put 85 = .ok (.getfield 164, 3) := by decide +kernel
theorem dX5_put_88 : decode cX5_put 88 = .ok (.iload 6, 2) := by decide +kernel
theorem dX5_put_90 : decode cX5_put 90 = .ok (.iconst 3, 1) := by decide +kernel
theorem dX5_put_91 : decode cX5_put 91 = .ok (.iadd, 1) := by decide +kernel
theorem dX5_put_92 : decode cX5_put 92 = .ok (.iload 5, 2) := by decide +kernel
theorem dX5_put_94 : decode cX5_put 94 = .ok (.iastore, 1) := by decide +kernel
theorem dX5_put_95 : decode cX5_put 95 = .ok (.aload_n 0, 1) := by decide +kernel
theorem dX5_put_96 : decode cX5_put 96 = .ok (.getfield 148, 3) := by decide +kernel
theorem dX5_put_99 : decode cX5_put 99 = .ok (.aload_n 0, 1) := by decide +kernel
theorem dX5_put_100 : decode cX5_put 100 = .ok (.getfield 212, 3) := by decide +kernel
theorem dX5_put_103 : decode cX5_put 103 = .ok (.dup2, 1) := by decide +kernel
theorem dX5_put_104 : decode cX5_put 104 = .ok (.iaload, 1) := by decide +kernel
theorem dX5_put_105 : decode cX5_put 105 = .ok (.iconst 1, 1) := by decide +kernel
theorem dX5_put_106 : decode cX5_put 106 = .ok (.iadd, 1) := by decide +kernel
theorem dX5_put_107 : decode cX5_put 107 = .ok (.iastore, 1) := by decide +kernel
theorem dX5_put_108 : decode cX5_put 108 = .ok (.aload_n 0, 1) := by decide +kernel
theorem dX5_put_109 : decode cX5_put 109 = .ok (.getfield 145, 3) := by decide +kernel
theorem dX5_put_112 : decode cX5_put 112 = .ok (.aload_n 0, 1) := by decide +kernel
theorem dX5_put_113 : decode cX5_put 113 = .ok (.getfield 212, 3) := by decide +kernel
theorem dX5_put_116 : decode cX5_put 116 = .ok (.dup2, 1) := by decide +kernel
theorem dX5_put_117 : decode cX5_put 117 = .ok (.iaload, 1) := by decide +kernel
theorem dX5_put_118 : decode cX5_put 118 = .ok (.iload_n 2, 1) := by decide +kernel
theorem dX5_put_119 : decode cX5_put 119 = .ok (.iadd, 1) := by decide +kernel
theorem dX5_put_120 : decode cX5_put 120 = .ok (.iastore, 1) := by decide +kernel
theorem dX5_put_121 : decode cX5_put 121 = .ok (.aload_n 0, 1) := by decide +kernel
theorem dX5_put_122 : decode cX5_put 122 = .ok (.getfield 151, 3) := by decide +kernel
theorem dX5_put_125 : decode cX5_put 125 = .ok (.aload_n 0, 1) := by decide +kernel
theorem dX5_put_126 : decode cX5_put 126 = .ok (.getfield 212, 3) := by decide +kernel
theorem dX5_put_129 : decode cX5_put 129 = .ok (.aload_n 0, 1) := by decide +kernel
theorem dX5_put_130 : decode cX5_put 130 = .ok (.getfield 151, 3) := by decide +kernel
theorem dX5_put_133 : decode cX5_put 133 = .ok (.aload_n 0, 1) := by decide +kernel
theorem dX5_put_134 : decode cX5_put 134 = .ok (.getfield 212, 3) := by decide +kernel
theorem dX5_put_137 : decode cX5_put 137 = .ok (.baload, 1) := by decide +kernel
theorem dX5_put_138 : decode cX5_put 138 = .ok (.ifCond .ne 8, 3) := by decide +kernel
theorem dX5_put_141 : decode cX5_put 141 = .ok (.iload_n 1, 1) := by decide +kernel
theorem dX5_put_142 : decode cX5_put 142 = .ok (.iconst 1, 1) := by decide +kernel
theorem dX5_put_143 : decode cX5_put 143 = .ok (.if_icmp .eq 7, 3) := by decide +kernel
theorem dX5_put_146 : decode cX5_put 146 = .ok (.iconst 1, 1) := by decide +kernel
theorem dX5_put_147 : decode cX5_put 147 = .ok (.goto 4, 3) := by decide +kernel
theorem dX5_put_150 : decode cX5_put 150 = .ok (.iconst 0, 1) := by decide +kernel
theorem dX5_put_151 : decode cX5_put 151 = .ok (.bastore, 1) := by decide +kernel
theorem dX5_put_152 : decode cX5_put 152 = .ok (.iconst 1, 1) := by decide +kernel
theorem dX5_put_153 : decode cX5_put 153 = .ok (.ireturn, 1) := by decide +kernel
theorem dX5_putTold_0 : decode cX5_putTold 0 = .ok (.iconst 0, 1) := by decide +kernel
theorem dX5_putTold_1 : decode cX5_putTold 1 = .ok (.istore_n 2, 1) := by decide +kernel
theorem dX5_putTold_2 : decode cX5_putTold 2 = .ok (.aload_n 0, 1) := by decide +kernel
theorem dX5_putTold_3 : decode cX5_putTold 3 = .ok (.getfield 106, 3) := by decide +kernel
theorem dX5_putTold_6 : decode cX5_putTold 6 = .ok (.iload_n 1, 1) := by decide +kernel
theorem dX5_putTold_7 : decode cX5_putTold 7 = .ok (.iaload, 1) := by decide +kernel
theorem dX5_putTold_8 : decode cX5_putTold 8 = .ok (.istore_n 3, 1) := by decide +kernel
theorem dX5_putTold_9 : decode cX5_putTold 9 = .ok (.iload_n 3, 1) := by decide +kernel
theorem dX5_putTold_10 : decode cX5_putTold 10 = .ok (.ifCond .lt 111, 3) := by decide +kernel
theorem dX5_putTold_13 : decode cX5_putTold 13 = .ok (.iload_n 2, 1) := by decide +kernel
theorem dX5_putTold_14 : decode cX5_putTold 14 = .ok (.iconst 4, 1) := by decide +kernel
theorem dX5_putTold_15 : decode cX5_putTold 15 = .ok (.if_icmp .ge 106, 3) := by decide +kernel
theorem dX5_putTold_18 : decode cX5_putTold 18 = .ok (.iload_n 3, 1) := by decide +kernel
theorem dX5_putTold_19 : decode cX5_putTold 19 = .ok (.istore 4, 2) := by decide +kernel
theorem dX5_putTold_21 : decode cX5_putTold 21 = .ok (.iload_n 3, 1) := by decide +kernel
theorem dX5_putTold_22 : decode cX5_putTold 22 = .ok (.ifCond .le 27, 3) := by decide +kernel
theorem dX5_putTold_25 : decode cX5_putTold 25 = .ok (.aload_n 0, 1) := by decide +kernel
theorem dX5_putTold_26 : decode cX5_putTold 26 = .ok (.getfield 160, 3) := by decide +kernel
theorem dX5_putTold_29 : decode cX5_putTold 29 = .ok (.aload_n 0, 1) := by decide +kernel
theorem dX5_putTold_30 : decode cX5_putTold 30 = .ok (.iconst 1, 1) := by decide +kernel
theorem dX5_putTold_31 : decode cX5_putTold 31 = .ok (.iload_n 1, 1) := by decide +kernel
theorem dX5_putTold_32 : decode cX5_putTold 32 = .ok (.isub, 1) := by decide +kernel
theorem dX5_putTold_33 : decode cX5_putTold 33 = .ok (.iload_n 3, 1) := by decide +kernel
theorem dX5_putTold_34 : decode cX5_putTold 34 = .ok (.iconst 1, 1) := by decide +kernel
theorem dX5_putTold_35 : decode cX5_putTold 35 = .ok (.isub, 1) := by decide +kernel
theorem dX5_putTold_36 : decode cX5_putTold 36 = .ok (.invokevirtual 215, 3) := by decide +kernel
theorem dX5_putTold_39 : decode cX5_putTold 39 = .ok (.baload, 1) := by decide +kernel
theorem dX5_putTold_40 : decode cX5_putTold 40 = .ok (.ifCond .eq 9, 3) := by decide +kernel
theorem dX5_putTold_43 : decode cX5_putTold 43 = .ok (.iinc 3 (-1), 3) := by decide +kernel
theorem dX5_putTold_46 : decode cX5_putTold 46 = .ok (.goto (-25), 3) := by decide +kernel
theorem dX5_putTold_49 : decode cX5_putTold 49 = .ok (.aload_n 0, 1) := by decide +kernel
theorem dX5_putTold_50 : decode cX5_putTold 50 = .ok (.getfield 167, 3) := by decide +kernel
theorem dX5_putTold_53 : decode cX5_putTold 53 = .ok (.bipush 8, 2) := by decide +kernel
theorem dX5_putTold_55 : decode cX5_putTold 55 = .ok (.aload_n 0, 1) := by decide +kernel
theorem dX5_putTold_56 : decode cX5_putTold 56 = .ok (.getfield 212, 3) := by decide +kernel
theorem dX5_putTold_59 : decode cX5_putTold 59 = .ok (.imul, 1) := by decide +kernel
theorem dX5_putTold_60 : decode cX5_putTold 60 = .ok (.iconst 2, 1) := by decide +kernel
theorem dX5_putTold_61 : decode cX5_putTold 61 = .ok (.iload_n 2, 1) := by decide +kernel
theorem dX5_putTold_62 : decode cX5_putTold 62 = .ok (.imul, 1) := by decide +kernel
theorem dX5_putTold_63 : decode cX5_putTold 63 = .ok (.iadd, 1) := by decide +kernel
theorem dX5_putTold_64 : decode cX5_putTold 64 = .ok (.iload_n 3, 1) := by decide +kernel
theorem dX5_putTold_65 : decode cX5_putTold 65 = .ok (.iastore, 1) := by decide +kernel
theorem dX5_putTold_66 : decode cX5_putTold 66 = .ok (.aload_n 0, 1) := by decide +kernel
theorem dX5_putTold_67 : decode cX5_putTold 67 = .ok (.getfield 167, 3) := by decide +kernel
theorem dX5_putTold_70 : decode cX5_putTold 70 = .ok (.bipush 8, 2) := by decide +kernel
theorem dX5_putTold_72 : decode cX5_putTold 72 = .ok (.aload_n 0, 1) := by decide +kernel
theorem dX5_putTold_73 : decode cX5_putTold 73 = .ok (.getfield 212, 3) := by decide +kernel
theorem dX5_putTold_76 : decode cX5_putTold 76 = .ok (.imul, 1) := by decide +kernel
theorem dX5_putTold_77 : decode cX5_putTold 77 = .ok (.iconst 2, 1) := by decide +kernel
theorem dX5_putTold_78 : decode cX5_putTold 78 = .ok (.iload_n 2, 1) := by decide +kernel
theorem dX5_putTold_79 : decode cX5_putTold 79 = .ok (.imul, 1) := by decide +kernel
theorem dX5_putTold_80 : decode cX5_putTold 80 = .ok (.iadd, 1) := by decide +kernel
theorem dX5_putTold_81 : decode cX5_putTold 81 = .ok (.iconst 1, 1) := by decide +kernel
theorem dX5_putTold_82 : decode cX5_putTold 82 = .ok (.iadd, 1) := by decide +kernel
theorem dX5_putTold_83 : decode cX5_putTold 83 = .ok (.iload 4, 2) := by decide +kernel
theorem dX5_putTold_85 : decode cX5_putTold 85 = .ok (.iastore, 1) := by decide +kernel
theorem dX5_putTold_86 : decode cX5_putTold 86 = .ok (.iinc 2 1, 3) := by decide +kernel
theorem dX5_putTold_89 : decode cX5_putTold 89 = .ok (.iinc 3 (-1), 3) := by decide +kernel
theorem dX5_putTold_92 : decode cX5_putTold 92 = .ok (.iload_n 3, 1) := by decide +kernel
theorem dX5_putTold_93 : decode cX5_putTold 93 = .ok (.ifCond .lt 25, 3) := by decide +kernel
theorem dX5_putTold_96 : decode cX5_putTold 96 = .ok (.aload_n 0, 1) := by decide +kernel
theorem dX5_putTold_97 : decode cX5_putTold 97 = .ok (.getfield 160, 3) := by decide +kernel
theorem dX5_putTold_100 : decode cX5_putTold 100 = .ok (.aload_n 0, 1) := by decide +kernel
theorem dX5_putTold_101 : decode cX5_putTold 101 = .ok (.iconst 1, 1) := by decide +kernel
theorem dX5_putTold_102 : decode cX5_putTold 102 = .ok (.iload_n 1, 1) := by decide +kernel
theorem dX5_putTold_103 : decode cX5_putTold 103 = .ok (.isub, 1) := by decide +kernel
theorem dX5_putTold_104 : decode cX5_putTold 104 = .ok (.iload_n 3, 1) := by decide +kernel
theorem dX5_putTold_105 : decode cX5_putTold 105 = .ok (.invokevirtual 215, 3) := by decide +kernel
theorem dX5_putTold_108 : decode cX5_putTold 108 = .ok (.baload, 1) := by decide +kernel
theorem dX5_putTold_109 : decode cX5_putTold 109 = .ok (.ifCond .ne 9, 3) := by decide +kernel
theorem dX5_putTold_112 : decode cX5_putTold 112 = .ok (.iinc 3 (-1), 3) := by decide +kernel
theorem dX5_putTold_115 : decode cX5_putTold 115 = .ok (.goto (-23), 3) := by decide +kernel
theorem dX5_putTold_118 : decode cX5_putTold 118 = .ok (.goto (-109), 3) := by decide +kernel
theorem dX5_putTold_121 : decode cX5_putTold 121 = .ok (.aload_n 0, 1) := by decide +kernel
theorem dX5_putTold_122 : decode cX5_putTold 122 = .ok (.iconst 1, 1) := by decide +kernel
theorem dX5_putTold_123 : decode cX5_putTold 123 = .ok (.bipush 6, 2) := by decide +kernel
theorem dX5_putTold_125 : decode cX5_putTold 125 = .ok (.iconst 4, 1) := by decide +kernel
theorem dX5_putTold_126 : decode cX5_putTold 126 = .ok (.iload_n 2, 1) := by decide +kernel
theorem dX5_putTold_127 : decode cX5_putTold 127 = .ok (.iconst 1, 1) := by decide +kernel
theorem dX5_putTold_128 : decode cX5_putTold 128 = .ok (.isub, 1) := by decide +kernel
theorem dX5_putTold_129 : decode cX5_putTold 129 = .ok (.imul, 1) := by decide +kernel
theorem dX5_putTold_130 : decode cX5_putTold 130 = .ok (.iadd, 1) := by decide +kernel
theorem dX5_putTold_131 : decode cX5_putTold 131 = .ok (.iconst 0, 1) := by decide +kernel
theorem dX5_putTold_132 : decode cX5_putTold 132 = .ok (.iconst 0, 1) := by decide +kernel
theorem dX5_putTold_133 : decode cX5_putTold 133 = .ok (.iload_n 2, 1) := by decide +kernel
theorem dX5_putTold_134 : decode cX5_putTold 134 = .ok (.invokevirtual 219, 3) := by decide +kernel
theorem dX5_putTold_137 : decode cX5_putTold 137 = .ok (.ifCond .eq 10, 3) := by decide +kernel
theorem dX5_putTold_140 : decode cX5_putTold 140 = .ok (.aload_n 0, 1) := by decide +kernel
theorem dX5_putTold_141 : decode cX5_putTold 141 = .ok (.getfield 109, 3) := by decide +kernel
theorem dX5_putTold_144 : decode cX5_putTold 144 = .ok (.iload_n 1, 1) := by decide +kernel
theorem dX5_putTold_145 : decode cX5_putTold 145 = .ok (.iconst 0, 1) := by decide +kernel
theorem dX5_putTold_146 : decode cX5_putTold 146 = .ok (.bastore, 1) := by decide +kernel
theorem dX5_putTold_147 : decode cX5_putTold 147 = .ok (.return_, 1) := by decide +kernel
theorem dX5_putBounds_0 : decode cX5_putBounds 0 = .ok (.iconst 1, 1) := by decide +kernel
theorem dX5_putBounds_1 : decode cX5_putBounds 1 = .ok (.iload_n 1, 1) := by decide +kernel
theorem dX5_putBounds_2 : decode cX5_putBounds 2 = .ok (.isub, 1) := by decide +kernel
theorem dX5_putBounds_3 : decode cX5_putBounds 3 = .ok (.istore_n 2, 1) := by decide +kernel
theorem dX5_putBounds_4 : decode cX5_putBounds 4 = .ok (.iload_n 2, 1) := by decide +kernel
theorem dX5_putBounds_5 : decode cX5_putBounds 5 = .ok (.bipush 8, 2) := by decide +kernel
theorem dX5_putBounds_7 : decode cX5_putBounds 7 = .ok (.if_icmp .ge 64, 3) := by decide +kernel
theorem dX5_putBounds_10 : decode cX5_putBounds 10 = .ok (.aload_n 0, 1) := by decide +kernel
theorem dX5_putBounds_11 : decode cX5_putBounds 11 = .ok (.getfield 64, 3) := by decide +kernel
theorem dX5_putBounds_14 : decode cX5_putBounds 14 = .ok (.iload_n 2, 1) := by decide +kernel
theorem dX5_putBounds_15 : decode cX5_putBounds 15 = .ok (.baload, 1) := by decide +kernel
theorem dX5_putBounds_16 : decode cX5_putBounds 16 = .ok (.ifCond .eq 49, 3) := by decide +kernel
theorem dX5_putBounds_19 : decode cX5_putBounds 19 = .ok (.aload_n 0, 1) := by decide +kernel
theorem dX5_putBounds_20 : decode cX5_putBounds 20 = .ok (.iconst 2, 1) := by decide +kernel
theorem dX5_putBounds_21 : decode cX5_putBounds 21 = .ok (.iconst 5, 1) := by decide +kernel
theorem dX5_putBounds_22 : decode cX5_putBounds 22 = .ok (.iload_n 2, 1) := by decide +kernel
theorem dX5_putBounds_23 : decode cX5_putBounds 23 = .ok (.aload_n 0, 1) := by decide +kernel
theorem dX5_putBounds_24 : decode cX5_putBounds 24 = .ok (.getfield 58, 3) := by decide +kernel
theorem dX5_putBounds_27 : decode cX5_putBounds 27 = .ok (.iload_n 2, 1) := by decide +kernel
theorem dX5_putBounds_28 : decode cX5_putBounds 28 = .ok (.iaload, 1) := by decide +kernel
theorem dX5_putBounds_29 : decode cX5_putBounds 29 = .ok (.aload_n 0, 1) := by decide +kernel
theorem dX5_putBounds_30 : decode cX5_putBounds 30 = .ok (.getfield 13, 3) := by decide +kernel
theorem dX5_putBounds_33 : decode cX5_putBounds 33 = .ok (.iadd, 1) := by decide +kernel
theorem dX5_putBounds_34 : decode cX5_putBounds 34 = .ok (.iconst 0, 1) := by decide +kernel
theorem dX5_putBounds_35 : decode cX5_putBounds 35 = .ok (.invokevirtual 219, 3) := by decide +kernel
theorem dX5_putBounds_38 : decode cX5_putBounds 38 = .ok (.ifCond .eq 27, 3) := by decide +kernel
theorem dX5_putBounds_41 : decode cX5_putBounds 41 = .ok (.aload_n 0, 1) := by decide +kernel
theorem dX5_putBounds_42 : decode cX5_putBounds 42 = .ok (.getfield 64, 3) := by decide +kernel
theorem dX5_putBounds_45 : decode cX5_putBounds 45 = .ok (.iload_n 2, 1) := by decide +kernel
theorem dX5_putBounds_46 : decode cX5_putBounds 46 = .ok (.iconst 0, 1) := by decide +kernel
theorem dX5_putBounds_47 : decode cX5_putBounds 47 = .ok (.bastore, 1) := by decide +kernel
theorem dX5_putBounds_48 : decode cX5_putBounds 48 = .ok (.aload_n 0, 1) := by decide +kernel
theorem dX5_putBounds_49 : decode cX5_putBounds 49 = .ok (.getfield 61, 3) := by decide +kernel
theorem dX5_putBounds_52 : decode cX5_putBounds 52 = .ok (.iload_n 2, 1) := by decide +kernel
theorem dX5_putBounds_53 : decode cX5_putBounds 53 = .ok (.aload_n 0, 1) := by decide +kernel
theorem dX5_putBounds_54 : decode cX5_putBounds 54 = .ok (.getfield 58, 3) := by decide +kernel
theorem dX5_putBounds_57 : decode cX5_putBounds 57 = .ok (.iload_n 2, 1) := by decide +kernel
theorem dX5_putBounds_58 : decode cX5_putBounds 58 = .ok (.iaload, 1) := by decide +kernel
theorem dX5_putBounds_59 : decode cX5_putBounds 59 = .ok (.aload_n 0, 1) := by decide +kernel
theorem dX5_putBounds_60 : decode cX5_putBounds 60 = .ok (.getfield 13, 3) := by decide +kernel
theorem dX5_putBounds_63 : decode cX5_putBounds 63 = .ok (.iadd, 1) := by decide +kernel
theorem dX5_putBounds_64 : decode cX5_putBounds 64 = .ok (.iastore, 1) := by decide +kernel
theorem dX5_putBounds_65 : decode cX5_putBounds 65 = .ok (.iinc 2 2, 3) := by decide +kernel
theorem dX5_putBounds_68 : decode cX5_putBounds 68 = .ok (.goto (-64), 3) := by decide +kernel
theorem dX5_putBounds_71 : decode cX5_putBounds 71 = .ok (.aload_n 0, 1) := by decide +kernel
theorem dX5_putBounds_72 : decode cX5_putBounds 72 = .ok (.getfield 115, 3) := by decide +kernel
theorem dX5_putBounds_75 : decode cX5_putBounds 75 = .ok (.iload_n 1, 1) := by decide +kernel
theorem dX5_putBounds_76 : decode cX5_putBounds 76 = .ok (.baload, 1) := by decide +kernel
theorem dX5_putBounds_77 : decode cX5_putBounds 77 = .ok (.ifCond .eq 47, 3) := by decide +kernel
theorem dX5_putBounds_80 : decode cX5_putBounds 80 = .ok (.aload_n 0, 1) := by decide +kernel
theorem dX5_putBounds_81 : decode cX5_putBounds 81 = .ok (.iconst 3, 1) := by decide +kernel
theorem dX5_putBounds_82 : decode cX5_putBounds 82 = .ok (.iconst 5, 1) := by decide +kernel
theorem dX5_putBounds_83 : decode cX5_putBounds 83 = .ok (.iconst 0, 1) := by decide +kernel
theorem dX5_putBounds_84 : decode cX5_putBounds 84 = .ok (.aload_n 0, 1) := by decide +kernel
theorem dX5_putBounds_85 : decode cX5_putBounds 85 = .ok (.iload_n 1, 1) := by decide +kernel
theorem dX5_putBounds_86 : decode cX5_putBounds 86 = .ok (.invokevirtual 205, 3) := by decide +kernel
theorem dX5_putBounds_89 : decode cX5_putBounds 89 = .ok (.aload_n 0, 1) := by decide +kernel
theorem dX5_putBounds_90 : decode cX5_putBounds 90 = .ok (.getfield 16, 3) := by decide +kernel
theorem dX5_putBounds_93 : decode cX5_putBounds 93 = .ok (.iadd, 1) := by decide +kernel
theorem dX5_putBounds_94 : decode cX5_putBounds 94 = .ok (.iconst 0, 1) := by decide +kernel
theorem dX5_putBounds_95 : decode cX5_putBounds 95 = .ok (.invokevirtual 219, 3) := by decide +kernel
theorem dX5_putBounds_98 : decode cX5_putBounds 98 = .ok (.ifCond .eq 26, 3) := by decide +kernel
theorem dX5_putBounds_101 : decode cX5_putBounds 101 = .ok (.aload_n 0, 1) := by decide +kernel
theorem dX5_putBounds_102 : decode cX5_putBounds 102 = .ok (.getfield 115, 3) := by decide +kernel
theorem dX5_putBounds_105 : decode cX5_putBounds 105 = .ok (.iload_n 1, 1) := by decide +kernel
theorem dX5_putBounds_106 : decode cX5_putBounds 106 = .ok (.iconst 0, 1) := by decide +kernel
theorem dX5_putBounds_107 : decode cX5_putBounds 107 = .ok (.bastore, 1) := by decide +kernel
theorem dX5_putBounds_108 : decode cX5_putBounds 108 = .ok (.aload_n 0, 1) := by decide +kernel
theorem dX5_putBounds_109 : decode cX5_putBounds 109 = .ok (.getfield 118, 3) := by decide +kernel
theorem dX5_putBounds_112 : decode cX5_putBounds 112 = .ok (.iload_n 1, 1) := by decide +kernel
theorem dX5_putBounds_113 : decode cX5_putBounds 113 = .ok (.aload_n 0, 1) := by decide +kernel
theorem dX5_putBounds_114 : decode cX5_putBounds 114 = .ok (.iload_n 1, 1) := by decide +kernel
theorem dX5_putBounds_115 : decode cX5_putBounds 115 = .ok (.invokevirtual 205, 3) := by decide +kernel
theorem dX5_putBounds_118 : decode cX5_putBounds 118 = .ok (.aload_n 0, 1) := by decide +kernel
theorem dX5_putBounds_119 : decode cX5_putBounds 119 = .ok (.getfield 16, 3) := by decide +kernel
theorem dX5_putBounds_122 : decode cX5_putBounds 122 = .ok (.iadd, 1) := by decide +kernel
theorem dX5_putBounds_123 : decode cX5_putBounds 123 = .ok (.iastore, 1) := by decide +kernel
theorem dX5_putBounds_124 : decode cX5_putBounds 124 = .ok (.iload_n 1, 1) := by decide +kernel
theorem dX5_putBounds_125 : decode cX5_putBounds 125 = .ok (.istore_n 2, 1) := by decide +kernel
theorem dX5_putBounds_126 : decode cX5_putBounds 126 = .ok (.iload_n 2, 1) := by decide +kernel
theorem dX5_putBounds_127 : decode cX5_putBounds 127 = .ok (.bipush 8, 2) := by decide +kernel
theorem dX5_putBounds_129 : decode cX5_putBounds 129 = .ok (.if_icmp .ge 38, 3) := by decide +kernel
theorem dX5_putBounds_132 : decode cX5_putBounds 132 = .ok (.aload_n 0, 1) := by decide +kernel
theorem dX5_putBounds_133 : decode cX5_putBounds 133 = .ok (.getfield 30, 3) := by decide +kernel
theorem dX5_putBounds_136 : decode cX5_putBounds 136 = .ok (.iload_n 2, 1) := by decide +kernel
theorem dX5_putBounds_137 : decode cX5_putBounds 137 = .ok (.baload, 1) := by decide +kernel
theorem dX5_putBounds_138 : decode cX5_putBounds 138 = .ok (.ifCond .eq 23, 3) := by decide +kernel
theorem dX5_putBounds_141 : decode cX5_putBounds 141 = .ok (.aload_n 0, 1) := by decide +kernel
theorem dX5_putBounds_142 : decode cX5_putBounds 142 = .ok (.iconst 5, 1) := by decide +kernel
theorem dX5_putBounds_143 : decode cX5_putBounds 143 = .ok (.bipush 7, 2) := by decide +kernel
theorem dX5_putBounds_145 : decode cX5_putBounds 145 = .ok (.iload_n 2, 1) := by decide +kernel
theorem dX5_putBounds_146 : decode cX5_putBounds 146 = .ok (.iconst 0, 1) := by decide +kernel
theorem dX5_putBounds_147 : decode cX5_putBounds 147 = .ok (.iconst 0, 1) := by decide +kernel
theorem dX5_putBounds_148 : decode cX5_putBounds 148 = .ok (.invokevirtual 219, 3) := by decide +kernel
theorem dX5_putBounds_151 : decode cX5_putBounds 151 = .ok (.ifCond .eq 10, 3) := by decide +kernel
theorem dX5_putBounds_154 : decode cX5_putBounds 154 = .ok (.aload_n 0, 1) := by decide +kernel
theorem dX5_putBounds_155 : decode cX5_putBounds 155 = .ok (.getfield 30, 3) := by decide +kernel
theorem dX5_putBounds_158 : decode cX5_putBounds 158 = .ok (.iload_n 2, 1) := by decide +kernel
theorem dX5_putBounds_159 : decode cX5_putBounds 159 = .ok (.iconst 0, 1) := by decide +kernel
theorem dX5_putBounds_160 : decode cX5_putBounds 160 = .ok (.bastore, 1) := by decide +kernel
theorem dX5_putBounds_161 : decode cX5_putBounds 161 = .ok (.iinc 2 2, 3) := by decide +kernel
theorem dX5_putBounds_164 : decode cX5_putBounds 164 = .ok (.goto (-38), 3) := by decide +kernel
theorem dX5_putBounds_167 : decode cX5_putBounds 167 = .ok (.return_, 1) := by decide +kernel
theorem dX5_counted_0 : decode cX5_counted 0 = .ok (.iconst 0, 1) := by decide +kernel
theorem dX5_counted_1 : decode cX5_counted 1 = .ok (.istore_n 2, 1) := by decide +kernel
theorem dX5_counted_2 : decode cX5_counted 2 = .ok (.iload_n 1, 1) := by decide +kernel
theorem dX5_counted_3 : decode cX5_counted 3 = .ok (.istore_n 3, 1) := by decide +kernel
theorem dX5_counted_4 : decode cX5_counted 4 = .ok (.iload_n 3, 1) := by decide +kernel
theorem dX5_counted_5 : decode cX5_counted 5 = .ok (.bipush 8, 2) := by decide +kernel
theorem dX5_counted_7 : decode cX5_counted 7 = .ok (.if_icmp .ge 18, 3) := by decide +kernel
theorem dX5_counted_10 : decode cX5_counted 10 = .ok (.iload_n 2, 1) := by decide +kernel
theorem dX5_counted_11 : decode cX5_counted 11 = .ok (.aload_n 0, 1) := by decide +kernel
theorem dX5_counted_12 : decode cX5_counted 12 = .ok (.getfield 33, 3) := by decide +kernel
theorem dX5_counted_15 : decode cX5_counted 15 = .ok (.iload_n 3, 1) := by decide +kernel
theorem dX5_counted_16 : decode cX5_counted 16 = .ok (.iaload, 1) := by decide +kernel
theorem dX5_counted_17 : decode cX5_counted 17 = .ok (.iadd, 1) := by decide +kernel
theorem dX5_counted_18 : decode cX5_counted 18 = .ok (.istore_n 2, 1) := by decide +kernel
theorem dX5_counted_19 : decode cX5_counted 19 = .ok (.iinc 3 2, 3) := by decide +kernel
theorem dX5_counted_22 : decode cX5_counted 22 = .ok (.goto (-18), 3) := by decide +kernel
theorem dX5_counted_25 : decode cX5_counted 25 = .ok (.iload_n 2, 1) := by decide +kernel
theorem dX5_counted_26 : decode cX5_counted 26 = .ok (.ireturn, 1) := by decide +kernel
theorem dX5_firstAgain_0 : decode cX5_firstAgain 0 = .ok (.iconst 0, 1) := by decide +kernel
theorem dX5_firstAgain_1 : decode cX5_firstAgain 1 = .ok (.istore_n 2, 1) := by decide +kernel
theorem dX5_firstAgain_2 : decode cX5_firstAgain 2 = .ok (.iload_n 2, 1) := by decide +kernel
theorem dX5_firstAgain_3 : decode cX5_firstAgain 3 = .ok (.aload_n 0, 1) := by decide +kernel
theorem dX5_firstAgain_4 : decode cX5_firstAgain 4 = .ok (.getfield 33, 3) := by decide +kernel
theorem dX5_firstAgain_7 : decode cX5_firstAgain 7 = .ok (.iload_n 1, 1) := by decide +kernel
theorem dX5_firstAgain_8 : decode cX5_firstAgain 8 = .ok (.iaload, 1) := by decide +kernel
theorem dX5_firstAgain_9 : decode cX5_firstAgain 9 = .ok (.if_icmp .ge 27, 3) := by decide +kernel
theorem dX5_firstAgain_12 : decode cX5_firstAgain 12 = .ok (.aload_n 0, 1) := by decide +kernel
theorem dX5_firstAgain_13 : decode cX5_firstAgain 13 = .ok (.getfield 48, 3) := by decide +kernel
theorem dX5_firstAgain_16 : decode cX5_firstAgain 16 = .ok (.sipush 1000, 3) := by decide +kernel
theorem dX5_firstAgain_19 : decode cX5_firstAgain 19 = .ok (.iload_n 1, 1) := by decide +kernel
theorem dX5_firstAgain_20 : decode cX5_firstAgain 20 = .ok (.imul, 1) := by decide +kernel
theorem dX5_firstAgain_21 : decode cX5_firstAgain 21 = .ok (.iload_n 2, 1) := by decide +kernel
theorem dX5_firstAgain_22 : decode cX5_firstAgain 22 = .ok (.iadd, 1) := by decide +kernel
theorem dX5_firstAgain_23 : decode cX5_firstAgain 23 = .ok (.baload, 1) := by decide +kernel
theorem dX5_firstAgain_24 : decode cX5_firstAgain 24 = .ok (.iconst 2, 1) := by decide +kernel
theorem dX5_firstAgain_25 : decode cX5_firstAgain 25 = .ok (.if_icmp .ne 5, 3) := by decide +kernel
theorem dX5_firstAgain_28 : decode cX5_firstAgain 28 = .ok (.iload_n 2, 1) := by decide +kernel
theorem dX5_firstAgain_29 : decode cX5_firstAgain 29 = .ok (.ireturn, 1) := by decide +kernel
theorem dX5_firstAgain_30 : decode cX5_firstAgain 30 = .ok (.iinc 2 1, 3) := by decide +kernel
theorem dX5_firstAgain_33 : decode cX5_firstAgain 33 = .ok (.goto (-31), 3) := by decide +kernel
theorem dX5_firstAgain_36 : decode cX5_firstAgain 36 = .ok (.iconst (-1), 1) := by decide +kernel
theorem dX5_firstAgain_37 : decode cX5_firstAgain 37 = .ok (.ireturn, 1) := by decide +kernel
theorem dX5_putBytes_0 : decode cX5_putBytes 0 = .ok (.aload_n 0, 1) := by decide +kernel
theorem dX5_putBytes_1 : decode cX5_putBytes 1 = .ok (.getfield 7, 3) := by decide +kernel
theorem dX5_putBytes_4 : decode cX5_putBytes 4 = .ok (.aload_n 0, 1) := by decide +kernel
theorem dX5_putBytes_5 : decode cX5_putBytes 5 = .ok (.getfield 145, 3) := by decide +kernel
theorem dX5_putBytes_8 : decode cX5_putBytes 8 = .ok (.aload_n 0, 1) := by decide +kernel
theorem dX5_putBytes_9 : decode cX5_putBytes 9 = .ok (.getfield 212, 3) := by decide +kernel
theorem dX5_putBytes_12 : decode cX5_putBytes 12 = .ok (.iaload, 1) := by decide +kernel
theorem dX5_putBytes_13 : decode cX5_putBytes 13 = .ok (.isub, 1) := by decide +kernel
theorem dX5_putBytes_14 : decode cX5_putBytes 14 = .ok (.bipush 8, 2) := by decide +kernel
theorem dX5_putBytes_16 : decode cX5_putBytes 16 = .ok (.isub, 1) := by decide +kernel
theorem dX5_putBytes_17 : decode cX5_putBytes 17 = .ok (.istore_n 3, 1) := by decide +kernel
theorem dX5_putBytes_18 : decode cX5_putBytes 18 = .ok (.aload_n 0, 1) := by decide +kernel
theorem dX5_putBytes_19 : decode cX5_putBytes 19 = .ok (.iload_n 2, 1) := by decide +kernel
theorem dX5_putBytes_20 : decode cX5_putBytes 20 = .ok (.invokevirtual 223, 3) := by decide +kernel
theorem dX5_putBytes_23 : decode cX5_putBytes 23 = .ok (.istore 4, 2) := by decide +kernel
theorem dX5_putBytes_25 : decode cX5_putBytes 25 = .ok (.iconst 0, 1) := by decide +kernel
theorem dX5_putBytes_26 : decode cX5_putBytes 26 = .ok (.istore 5, 2) := by decide +kernel
theorem dX5_putBytes_28 : decode cX5_putBytes 28 = .ok (.iload 4, 2) := by decide +kernel
theorem dX5_putBytes_30 : decode cX5_putBytes 30 = .ok (.ifCond .lt 43, 3) := by decide +kernel
theorem dX5_putBytes_33 : decode cX5_putBytes 33 = .ok (.iload 4, 2) := by decide +kernel
theorem dX5_putBytes_35 : decode cX5_putBytes 35 = .ok (.iload 5, 2) := by decide +kernel
theorem dX5_putBytes_37 : decode cX5_putBytes 37 = .ok (.iadd, 1) := by decide +kernel
theorem dX5_putBytes_38 : decode cX5_putBytes 38 = .ok (.aload_n 0, 1) := by decide +kernel
theorem dX5_putBytes_39 : decode cX5_putBytes 39 = .ok (.getfield 33, 3) := by decide +kernel
theorem dX5_putBytes_42 : decode cX5_putBytes 42 = .ok (.iload_n 2, 1) := by decide +kernel
theorem dX5_putBytes_43 : decode cX5_putBytes 43 = .ok (.iaload, 1) := by decide +kernel
theorem dX5_putBytes_44 : decode cX5_putBytes 44 = .ok (.if_icmp .ge 118, 3) := by decide +kernel
theorem dX5_putBytes_47 : decode cX5_putBytes 47 = .ok (.aload_n 0, 1) := by decide +kernel
theorem dX5_putBytes_48 : decode cX5_putBytes 48 = .ok (.getfield 48, 3) := by decide +kernel
theorem dX5_putBytes_51 : decode cX5_putBytes 51 = .ok (.sipush 1000, 3) := by decide +kernel
theorem dX5_putBytes_54 : decode cX5_putBytes 54 = .ok (.iload_n 2, 1) := by decide +kernel
theorem dX5_putBytes_55 : decode cX5_putBytes 55 = .ok (.imul, 1) := by decide +kernel
theorem dX5_putBytes_56 : decode cX5_putBytes 56 = .ok (.iload 4, 2) := by decide +kernel
theorem dX5_putBytes_58 : decode cX5_putBytes 58 = .ok (.iadd, 1) := by decide +kernel
theorem dX5_putBytes_59 : decode cX5_putBytes 59 = .ok (.iload 5, 2) := by decide +kernel
theorem dX5_putBytes_61 : decode cX5_putBytes 61 = .ok (.iadd, 1) := by decide +kernel
theorem dX5_putBytes_62 : decode cX5_putBytes 62 = .ok (.baload, 1) := by decide +kernel
theorem dX5_putBytes_63 : decode cX5_putBytes 63 = .ok (.iconst 2, 1) := by decide +kernel
theorem dX5_putBytes_64 : decode cX5_putBytes 64 = .ok (.if_icmp .ne 98, 3) := by decide +kernel
theorem dX5_putBytes_67 : decode cX5_putBytes 67 = .ok (.iinc 5 1, 3) := by decide +kernel
theorem dX5_putBytes_70 : decode cX5_putBytes 70 = .ok (.goto (-37), 3) := by decide +kernel
theorem dX5_putBytes_73 : decode cX5_putBytes 73 = .ok (.aload_n 0, 1) := by decide +kernel
theorem dX5_putBytes_74 : decode cX5_putBytes 74 = .ok (.getfield 33, 3) := by decide +kernel
theorem dX5_putBytes_77 : decode cX5_putBytes 77 = .ok (.iload_n 2, 1) := by decide +kernel
theorem dX5_putBytes_78 : decode cX5_putBytes 78 = .ok (.iaload, 1) := by decide +kernel
theorem dX5_putBytes_79 : decode cX5_putBytes 79 = .ok (.istore 4, 2) := by decide +kernel
theorem dX5_putBytes_81 : decode cX5_putBytes 81 = .ok (.aload_n 0, 1) := by decide +kernel
theorem dX5_putBytes_82 : decode cX5_putBytes 82 = .ok (.getfield 19, 3) := by decide +kernel
theorem dX5_putBytes_85 : decode cX5_putBytes 85 = .ok (.iload_n 2, 1) := by decide +kernel
theorem dX5_putBytes_86 : decode cX5_putBytes 86 = .ok (.iaload, 1) := by decide +kernel
theorem dX5_putBytes_87 : decode cX5_putBytes 87 = .ok (.aload_n 0, 1) := by decide +kernel
theorem dX5_putBytes_88 : decode cX5_putBytes 88 = .ok (.getfield 45, 3) := by decide +kernel
theorem dX5_putBytes_91 : decode cX5_putBytes 91 = .ok (.iload_n 2, 1) := by decide +kernel
theorem dX5_putBytes_92 : decode cX5_putBytes 92 = .ok (.iaload, 1) := by decide +kernel
theorem dX5_putBytes_93 : decode cX5_putBytes 93 = .ok (.if_icmp .ge 12, 3) := by decide +kernel
theorem dX5_putBytes_96 : decode cX5_putBytes 96 = .ok (.aload_n 0, 1) := by decide +kernel
theorem dX5_putBytes_97 : decode cX5_putBytes 97 = .ok (.getfield 19, 3) := by decide +kernel
theorem dX5_putBytes_100 : decode cX5_putBytes 100 = .ok (.iload_n 2, 1) := by decide +kernel
theorem dX5_putBytes_101 : decode cX5_putBytes 101 = .ok (.iaload, 1) := by decide +kernel
theorem dX5_putBytes_102 : decode cX5_putBytes 102 = .ok (.goto 9, 3) := by decide +kernel
theorem dX5_putBytes_105 : decode cX5_putBytes 105 = .ok (.aload_n 0, 1) := by decide +kernel
theorem dX5_putBytes_106 : decode cX5_putBytes 106 = .ok (.getfield 45, 3) := by decide +kernel
theorem dX5_putBytes_109 : decode cX5_putBytes 109 = .ok (.iload_n 2, 1) := by decide +kernel
theorem dX5_putBytes_110 : decode cX5_putBytes 110 = .ok (.iaload, 1) := by decide +kernel
theorem dX5_putBytes_111 : decode cX5_putBytes 111 = .ok (.istore 6, 2) := by decide +kernel
theorem dX5_putBytes_113 : decode cX5_putBytes 113 = .ok (.aload_n 0, 1) := by decide +kernel
theorem dX5_putBytes_114 : decode cX5_putBytes 114 = .ok (.getfield 112, 3) := by decide +kernel
theorem dX5_putBytes_117 : decode cX5_putBytes 117 = .ok (.iload_n 1, 1) := by decide +kernel
theorem dX5_putBytes_118 : decode cX5_putBytes 118 = .ok (.iaload, 1) := by decide +kernel
theorem dX5_putBytes_119 : decode cX5_putBytes 119 = .ok (.aload_n 0, 1) := by decide +kernel
theorem dX5_putBytes_120 : decode cX5_putBytes 120 = .ok (.iload_n 1, 1) := by decide +kernel
theorem dX5_putBytes_121 : decode cX5_putBytes 121 = .ok (.invokevirtual 226, 3) := by decide +kernel
theorem dX5_putBytes_124 : decode cX5_putBytes 124 = .ok (.isub, 1) := by decide +kernel
theorem dX5_putBytes_125 : decode cX5_putBytes 125 = .ok (.istore 7, 2) := by decide +kernel
theorem dX5_putBytes_127 : decode cX5_putBytes 127 = .ok (.iload 6, 2) := by decide +kernel
theorem dX5_putBytes_129 : decode cX5_putBytes 129 = .ok (.iload 4, 2) := by decide +kernel
theorem dX5_putBytes_131 : decode cX5_putBytes 131 = .ok (.isub, 1) := by decide +kernel
theorem dX5_putBytes_132 : decode cX5_putBytes 132 = .ok (.iload 7, 2) := by decide +kernel
theorem dX5_putBytes_134 : decode cX5_putBytes 134 = .ok (.if_icmp .ge 11, 3) := by decide +kernel
theorem dX5_putBytes_137 : decode cX5_putBytes 137 = .ok (.iload 6, 2) := by decide +kernel
theorem dX5_putBytes_139 : decode cX5_putBytes 139 = .ok (.iload 4, 2) := by decide +kernel
theorem dX5_putBytes_141 : decode cX5_putBytes 141 = .ok (.isub, 1) := by decide +kernel
theorem dX5_putBytes_142 : decode cX5_putBytes 142 = .ok (.goto 5, 3) := by decide +kernel
theorem dX5_putBytes_145 : decode cX5_putBytes 145 = .ok (.iload 7, 2) := by decide +kernel
theorem dX5_putBytes_147 : decode cX5_putBytes 147 = .ok (.istore 5, 2) := by decide +kernel
theorem dX5_putBytes_149 : decode cX5_putBytes 149 = .ok (.iload 5, 2) := by decide +kernel
theorem dX5_putBytes_151 : decode cX5_putBytes 151 = .ok (.ifCond .ge 7, 3) := by decide +kernel
theorem dX5_putBytes_154 : decode cX5_putBytes 154 = .ok (.iconst 0, 1) := by decide +kernel
theorem dX5_putBytes_155 : decode cX5_putBytes 155 = .ok (.goto 5, 3) := by decide +kernel
theorem dX5_putBytes_158 : decode cX5_putBytes 158 = .ok (.iload 5, 2) := by decide +kernel
theorem dX5_putBytes_160 : decode cX5_putBytes 160 = .ok (.istore 5, 2) := by decide +kernel
theorem dX5_putBytes_162 : decode cX5_putBytes 162 = .ok (.aload_n 0, 1) := by decide +kernel
theorem dX5_putBytes_163 : decode cX5_putBytes 163 = .ok (.getfield 23, 3) := by decide +kernel
theorem dX5_putBytes_166 : decode cX5_putBytes 166 = .ok (.iload_n 2, 1) := by decide +kernel
theorem dX5_putBytes_167 : decode cX5_putBytes 167 = .ok (.baload, 1) := by decide +kernel
theorem dX5_putBytes_168 : decode cX5_putBytes 168 = .ok (.ifCond .eq 34, 3) := by decide +kernel
theorem dX5_putBytes_171 : decode cX5_putBytes 171 = .ok (.aload_n 0, 1) := by decide +kernel
theorem dX5_putBytes_172 : decode cX5_putBytes 172 = .ok (.getfield 36, 3) := by decide +kernel
theorem dX5_putBytes_175 : decode cX5_putBytes 175 = .ok (.iload_n 2, 1) := by decide +kernel
theorem dX5_putBytes_176 : decode cX5_putBytes 176 = .ok (.baload, 1) := by decide +kernel
theorem dX5_putBytes_177 : decode cX5_putBytes 177 = .ok (.ifCond .eq 12, 3) := by decide +kernel
theorem dX5_putBytes_180 : decode cX5_putBytes 180 = .ok (.aload_n 0, 1) := by decide +kernel
theorem dX5_putBytes_181 : decode cX5_putBytes 181 = .ok (.getfield 39, 3) := by decide +kernel
theorem dX5_putBytes_184 : decode cX5_putBytes 184 = .ok (.iload_n 2, 1) := by decide +kernel
theorem dX5_putBytes_185 : decode cX5_putBytes 185 = .ok (.baload, 1) := by decide +kernel
theorem dX5_putBytes_186 : decode cX5_putBytes 186 = .ok (.ifCond .eq 16, 3) := by decide +kernel
theorem dX5_putBytes_189 : decode cX5_putBytes 189 = .ok (.aload_n 0, 1) := by decide +kernel
theorem dX5_putBytes_190 : decode cX5_putBytes 190 = .ok (.getfield 42, 3) := by decide +kernel
theorem dX5_putBytes_193 : decode cX5_putBytes 193 = .ok (.iload_n 2, 1) := by decide +kernel
theorem dX5_putBytes_194 : decode cX5_putBytes 194 = .ok (.baload, 1) := by decide +kernel
theorem dX5_putBytes_195 : decode cX5_putBytes 195 = .ok (.ifCond .ne 7, 3) := by decide +kernel
theorem dX5_putBytes_198 : decode cX5_putBytes 198 = .ok (.iconst 1, 1) := by decide +kernel
theorem dX5_putBytes_199 : decode cX5_putBytes 199 = .ok (.goto 4, 3) := by decide +kernel
theorem dX5_putBytes_202 : decode cX5_putBytes 202 = .ok (.iconst 0, 1) := by decide +kernel
theorem dX5_putBytes_203 : decode cX5_putBytes 203 = .ok (.istore 6, 2) := by decide +kernel
theorem dX5_putBytes_205 : decode cX5_putBytes 205 = .ok (.iload 5, 2) := by decide +kernel
theorem dX5_putBytes_207 : decode cX5_putBytes 207 = .ok (.ifCond .ne 24, 3) := by decide +kernel
theorem dX5_putBytes_210 : decode cX5_putBytes 210 = .ok (.iload 6, 2) := by decide +kernel
theorem dX5_putBytes_212 : decode cX5_putBytes 212 = .ok (.ifCond .eq 18, 3) := by decide +kernel
theorem dX5_putBytes_215 : decode cX5_putBytes 215 = .ok (.aload_n 0, 1) := by decide +kernel
theorem dX5_putBytes_216 : decode cX5_putBytes 216 = .ok (.getfield 33, 3) := by decide +kernel
theorem dX5_putBytes_219 : decode cX5_putBytes 219 = .ok (.iload_n 2, 1) := by decide +kernel
theorem dX5_putBytes_220 : decode cX5_putBytes 220 = .ok (.iaload, 1) := by decide +kernel
theorem dX5_putBytes_221 : decode cX5_putBytes 221 = .ok (.aload_n 0, 1) := by decide +kernel
theorem dX5_putBytes_222 : decode cX5_putBytes 222 = .ok (.getfield 19, 3) := by decide +kernel
theorem dX5_putBytes_225 : decode cX5_putBytes 225 = .ok (.iload_n 2, 1) := by decide +kernel
theorem dX5_putBytes_226 : decode cX5_putBytes 226 = .ok (.iaload, 1) := by decide +kernel
theorem dX5_putBytes_227 : decode cX5_putBytes 227 = .ok (.if_icmp .ge 4, 3) := by decide +kernel
theorem dX5_putBytes_230 : decode cX5_putBytes 230 = .ok (.return_, 1) := by decide +kernel
theorem dX5_putBytes_231 : decode cX5_putBytes 231 = .ok (.iload 5, 2) := by decide +kernel
theorem dX5_putBytes_233 : decode cX5_putBytes 233 = .ok (.ifCond .le 8, 3) := by decide +kernel
theorem dX5_putBytes_236 : decode cX5_putBytes 236 = .ok (.iload_n 3, 1) := by decide +kernel
theorem dX5_putBytes_237 : decode cX5_putBytes 237 = .ok (.iconst 1, 1) := by decide +kernel
theorem dX5_putBytes_238 : decode cX5_putBytes 238 = .ok (.if_icmp .lt 21, 3) := by decide +kernel
theorem dX5_putBytes_241 : decode cX5_putBytes 241 = .ok (.iload_n 3, 1) := by decide +kernel
theorem dX5_putBytes_242 : decode cX5_putBytes 242 = .ok (.ifCond .lt 17, 3) := by decide +kernel
theorem dX5_putBytes_245 : decode cX5_putBytes 245 = .ok (.aload_n 0, 1) := by decide +kernel
theorem dX5_putBytes_246 : decode cX5_putBytes 246 = .ok (.getfield 148, 3) := by decide +kernel
theorem dX5_putBytes_249 : decode cX5_putBytes 249 = .ok (.aload_n 0, 1) := by decide +kernel
theorem dX5_putBytes_250 : decode cX5_putBytes 250 = .ok (.getfield 212, 3) := by decide +kernel
theorem dX5_putBytes_253 : decode cX5_putBytes 253 = .ok (.iaload, 1) := by decide +kernel
theorem dX5_putBytes_254 : decode cX5_putBytes 254 = .ok (.bipush 24, 2) := by decide +kernel
theorem dX5_putBytes_256 : decode cX5_putBytes 256 = .ok (.if_icmp .ne 4, 3) := by decide +kernel
theorem dX5_putBytes_259 : decode cX5_putBytes 259 = .ok (.return_, 1) := by decide +kernel
theorem dX5_putBytes_260 : decode cX5_putBytes 260 = .ok (.iload 5, 2) := by decide +kernel
theorem dX5_putBytes_262 : decode cX5_putBytes 262 = .ok (.iload_n 3, 1) := by decide +kernel
theorem dX5_putBytes_263 : decode cX5_putBytes 263 = .ok (.if_icmp .ge 8, 3) := by decide +kernel
theorem dX5_putBytes_266 : decode cX5_putBytes 266 = .ok (.iload 5, 2) := by decide +kernel
theorem dX5_putBytes_268 : decode cX5_putBytes 268 = .ok (.goto 4, 3) := by decide +kernel
theorem dX5_putBytes_271 : decode cX5_putBytes 271 = .ok (.iload_n 3, 1) := by decide +kernel
theorem dX5_putBytes_272 : decode cX5_putBytes 272 = .ok (.istore 5, 2) := by decide +kernel
theorem dX5_putBytes_274 : decode cX5_putBytes 274 = .ok (.iconst 0, 1) := by decide +kernel
theorem dX5_putBytes_275 : decode cX5_putBytes 275 = .ok (.istore 7, 2) := by decide +kernel
theorem dX5_putBytes_277 : decode cX5_putBytes 277 = .ok (.iload 7, 2) := by decide +kernel
theorem dX5_putBytes_279 : decode cX5_putBytes 279 = .ok (.iload 5, 2) := by decide +kernel
theorem dX5_putBytes_281 : decode cX5_putBytes 281 = .ok (.if_icmp .ge 26, 3) := by decide +kernel
theorem dX5_putBytes_284 : decode cX5_putBytes 284 = .ok (.aload_n 0, 1) := by decide +kernel
theorem dX5_putBytes_285 : decode cX5_putBytes 285 = .ok (.getfield 48, 3) := by decide +kernel
theorem dX5_putBytes_288 : decode cX5_putBytes 288 = .ok (.sipush 1000, 3) := by decide +kernel
theorem dX5_putBytes_291 : decode cX5_putBytes 291 = .ok (.iload_n 2, 1) := by decide +kernel
theorem dX5_putBytes_292 : decode cX5_putBytes 292 = .ok (.imul, 1) := by decide +kernel
theorem dX5_putBytes_293 : decode cX5_putBytes 293 = .ok (.iload 4, 2) := by decide +kernel
theorem dX5_putBytes_295 : decode cX5_putBytes 295 = .ok (.iadd, 1) := by decide +kernel
theorem dX5_putBytes_296 : decode cX5_putBytes 296 = .ok (.iload 7, 2) := by decide +kernel
theorem dX5_putBytes_298 : decode cX5_putBytes 298 = .ok (.iadd, 1) := by decide +kernel
theorem dX5_putBytes_299 : decode cX5_putBytes 299 = .ok (.iconst 1, 1) := by decide +kernel
theorem dX5_putBytes_300 : decode cX5_putBytes 300 = .ok (.bastore, 1) := by decide +kernel
theorem dX5_putBytes_301 : decode cX5_putBytes 301 = .ok (.iinc 7 1, 3) := by decide +kernel
theorem dX5_putBytes_304 : decode cX5_putBytes 304 = .ok (.goto (-27), 3) := by decide +kernel
theorem dX5_putBytes_307 : decode cX5_putBytes 307 = .ok (.aload_n 0, 1) := by decide +kernel
theorem dX5_putBytes_308 : decode cX5_putBytes 308 = .ok (.getfield 33, 3) := by decide +kernel
theorem dX5_putBytes_311 : decode cX5_putBytes 311 = .ok (.iload_n 2, 1) := by decide +kernel
theorem dX5_putBytes_312 : decode cX5_putBytes 312 = .ok (.iload 4, 2) := by decide +kernel
theorem dX5_putBytes_314 : decode cX5_putBytes 314 = .ok (.iload 5, 2) := by decide +kernel
theorem dX5_putBytes_316 : decode cX5_putBytes 316 = .ok (.iadd, 1) := by decide +kernel
theorem dX5_putBytes_317 : decode cX5_putBytes 317 = .ok (.aload_n 0, 1) := by decide +kernel
theorem dX5_putBytes_318 : decode cX5_putBytes 318 = .ok (.getfield 33, 3) := by decide +kernel
theorem dX5_putBytes_321 : decode cX5_putBytes 321 = .ok (.iload_n 2, 1) := by decide +kernel
theorem dX5_putBytes_322 : decode cX5_putBytes 322 = .ok (.iaload, 1) := by decide +kernel
theorem dX5_putBytes_323 : decode cX5_putBytes 323 = .ok (.if_icmp .le 11, 3) := by decide +kernel
theorem dX5_putBytes_326 : decode cX5_putBytes 326 = .ok (.iload 4, 2) := by decide +kernel
theorem dX5_putBytes_328 : decode cX5_putBytes 328 = .ok (.iload 5, 2) := by decide +kernel
theorem dX5_putBytes_330 : decode cX5_putBytes 330 = .ok (.iadd, 1) := by decide +kernel
theorem dX5_putBytes_331 : decode cX5_putBytes 331 = .ok (.goto 9, 3) := by decide +kernel
theorem dX5_putBytes_334 : decode cX5_putBytes 334 = .ok (.aload_n 0, 1) := by decide +kernel
theorem dX5_putBytes_335 : decode cX5_putBytes 335 = .ok (.getfield 33, 3) := by decide +kernel
theorem dX5_putBytes_338 : decode cX5_putBytes 338 = .ok (.iload_n 2, 1) := by decide +kernel
theorem dX5_putBytes_339 : decode cX5_putBytes 339 = .ok (.iaload, 1) := by decide +kernel
theorem dX5_putBytes_340 : decode cX5_putBytes 340 = .ok (.iastore, 1) := by decide +kernel
theorem dX5_putBytes_341 : decode cX5_putBytes 341 = .ok (.iload 6, 2) := by decide +kernel
theorem dX5_putBytes_343 : decode cX5_putBytes 343 = .ok (.ifCond .eq 22, 3) := by decide +kernel
theorem dX5_putBytes_346 : decode cX5_putBytes 346 = .ok (.aload_n 0, 1) := by decide +kernel
theorem dX5_putBytes_347 : decode cX5_putBytes 347 = .ok (.getfield 33, 3) := by decide +kernel
theorem dX5_putBytes_350 : decode cX5_putBytes 350 = .ok (.iload_n 2, 1) := by decide +kernel
theorem dX5_putBytes_351 : decode cX5_putBytes 351 = .ok (.iaload, 1) := by decide +kernel
theorem dX5_putBytes_352 : decode cX5_putBytes 352 = .ok (.aload_n 0, 1) := by decide +kernel
theorem dX5_putBytes_353 : decode cX5_putBytes 353 = .ok (.getfield 19, 3) := by decide +kernel
theorem dX5_putBytes_356 : decode cX5_putBytes 356 = .ok (.iload_n 2, 1) := by decide +kernel
theorem dX5_putBytes_357 : decode cX5_putBytes 357 = .ok (.iaload, 1) := by decide +kernel
theorem dX5_putBytes_358 : decode cX5_putBytes 358 = .ok (.if_icmp .ne 7, 3) := by decide +kernel
theorem dX5_putBytes_361 : decode cX5_putBytes 361 = .ok (.iconst 1, 1) := by decide +kernel
theorem dX5_putBytes_362 : decode cX5_putBytes 362 = .ok (.goto 4, 3) := by decide +kernel
theorem dX5_putBytes_365 : decode cX5_putBytes 365 = .ok (.iconst 0, 1) := by decide +kernel
theorem dX5_putBytes_366 : decode cX5_putBytes 366 = .ok (.istore 7, 2) := by decide +kernel
theorem dX5_putBytes_368 : decode cX5_putBytes 368 = .ok (.iload 7, 2) := by decide +kernel
theorem dX5_putBytes_370 : decode cX5_putBytes 370 = .ok (.ifCond .eq 17, 3) := by decide +kernel
theorem dX5_putBytes_373 : decode cX5_putBytes 373 = .ok (.aload_n 0, 1) := by decide +kernel
theorem dX5_putBytes_374 : decode cX5_putBytes 374 = .ok (.getfield 36, 3) := by decide +kernel
theorem dX5_putBytes_377 : decode cX5_putBytes 377 = .ok (.iload_n 2, 1) := by decide +kernel
theorem dX5_putBytes_378 : decode cX5_putBytes 378 = .ok (.iconst 1, 1) := by decide +kernel
theorem dX5_putBytes_379 : decode cX5_putBytes 379 = .ok (.bastore, 1) := by decide +kernel
theorem dX5_putBytes_380 : decode cX5_putBytes 380 = .ok (.aload_n 0, 1) := by decide +kernel
theorem dX5_putBytes_381 : decode cX5_putBytes 381 = .ok (.getfield 39, 3) := by decide +kernel
theorem dX5_putBytes_384 : decode cX5_putBytes 384 = .ok (.iload_n 2, 1) := by decide +kernel
theorem dX5_putBytes_385 : decode cX5_putBytes 385 = .ok (.iconst 0, 1) := by decide +kernel
theorem dX5_putBytes_386 : decode cX5_putBytes 386 = .ok (.bastore, 1) := by decide +kernel
theorem dX5_putBytes_387 : decode cX5_putBytes 387 = .ok (.aload_n 0, 1) := by decide +kernel
theorem dX5_putBytes_388 : decode cX5_putBytes 388 = .ok (.iconst 4, 1) := by decide +kernel
theorem dX5_putBytes_389 : decode cX5_putBytes 389 = .ok (.bipush 8, 2) := by decide +kernel
theorem dX5_putBytes_391 : decode cX5_putBytes 391 = .ok (.iload 5, 2) := by decide +kernel
theorem dX5_putBytes_393 : decode cX5_putBytes 393 = .ok (.iadd, 1) := by decide +kernel
theorem dX5_putBytes_394 : decode cX5_putBytes 394 = .ok (.iload_n 2, 1) := by decide +kernel
theorem dX5_putBytes_395 : decode cX5_putBytes 395 = .ok (.iload 4, 2) := by decide +kernel
theorem dX5_putBytes_397 : decode cX5_putBytes 397 = .ok (.iload 5, 2) := by decide +kernel
theorem dX5_putBytes_399 : decode cX5_putBytes 399 = .ok (.iload 7, 2) := by decide +kernel
theorem dX5_putBytes_401 : decode cX5_putBytes 401 = .ok (.ifCond .eq 9, 3) := by decide +kernel
theorem dX5_putBytes_404 : decode cX5_putBytes 404 = .ok (.sipush 10000, 3) := by decide +kernel
theorem dX5_putBytes_407 : decode cX5_putBytes 407 = .ok (.goto 4, 3) := by decide +kernel
theorem dX5_putBytes_410 : decode cX5_putBytes 410 = .ok (.iconst 0, 1) := by decide +kernel
theorem dX5_putBytes_411 : decode cX5_putBytes 411 = .ok (.iadd, 1) := by decide +kernel
theorem dX5_putBytes_412 : decode cX5_putBytes 412 = .ok (.invokevirtual 219, 3) := by decide +kernel
theorem dX5_putBytes_415 : decode cX5_putBytes 415 = .ok (.istore 8, 2) := by decide +kernel
theorem dX5_putBytes_417 : decode cX5_putBytes 417 = .ok (.aload_n 0, 1) := by decide +kernel
theorem dX5_putBytes_418 : decode cX5_putBytes 418 = .ok (.getfield 124, 3) := by decide +kernel
theorem dX5_putBytes_421 : decode cX5_putBytes 421 = .ok (.iload_n 1, 1) := by decide +kernel
theorem dX5_putBytes_422 : decode cX5_putBytes 422 = .ok (.iload 8, 2) := by decide +kernel
theorem dX5_putBytes_424 : decode cX5_putBytes 424 = .ok (.ifCond .eq 7, 3) := by decide +kernel
theorem dX5_putBytes_427 : decode cX5_putBytes 427 = .ok (.iload_n 2, 1) := by decide +kernel
theorem dX5_putBytes_428 : decode cX5_putBytes 428 = .ok (.goto 9, 3) := by decide +kernel
theorem dX5_putBytes_431 : decode cX5_putBytes 431 = .ok (.aload_n 0, 1) := by decide +kernel
theorem dX5_putBytes_432 : decode cX5_putBytes 432 = .ok (.getfield 124, 3) := by decide +kernel
theorem dX5_putBytes_435 : decode cX5_putBytes 435 = .ok (.iload_n 1, 1) := by decide +kernel
theorem dX5_putBytes_436 : decode cX5_putBytes 436 = .ok (.iaload, 1) := by decide +kernel
theorem dX5_putBytes_437 : decode cX5_putBytes 437 = .ok (.iastore, 1) := by decide +kernel
theorem dX5_putBytes_438 : decode cX5_putBytes 438 = .ok (.return_, 1) := by decide +kernel
theorem dX5_send_0 : decode cX5_send 0 = .ok (.iload_n 1, 1) := by decide +kernel
theorem dX5_send_1 : decode cX5_send 1 = .ok (.invokestatic 229, 3) := by decide +kernel
theorem dX5_send_4 : decode cX5_send 4 = .ok (.ifCond .ne 5, 3) := by decide +kernel
theorem dX5_send_7 : decode cX5_send 7 = .ok (.iconst (-1), 1) := by decide +kernel
theorem dX5_send_8 : decode cX5_send 8 = .ok (.ireturn, 1) := by decide +kernel
theorem dX5_send_9 : decode cX5_send 9 = .ok (.aload_n 0, 1) := by decide +kernel
theorem dX5_send_10 : decode cX5_send 10 = .ok (.getfield 73, 3) := by decide +kernel
theorem dX5_send_13 : decode cX5_send 13 = .ok (.iload_n 1, 1) := by decide +kernel
theorem dX5_send_14 : decode cX5_send 14 = .ok (.iaload, 1) := by decide +kernel
theorem dX5_send_15 : decode cX5_send 15 = .ok (.sipush 300, 3) := by decide +kernel
theorem dX5_send_18 : decode cX5_send 18 = .ok (.if_icmp .eq 13, 3) := by decide +kernel
theorem dX5_send_21 : decode cX5_send 21 = .ok (.aload_n 0, 1) := by decide +kernel
theorem dX5_send_22 : decode cX5_send 22 = .ok (.getfield 232, 3) := by decide +kernel
theorem dX5_send_25 : decode cX5_send 25 = .ok (.sipush 400, 3) := by decide +kernel
theorem dX5_send_28 : decode cX5_send 28 = .ok (.if_icmp .ne 6, 3) := by decide +kernel
theorem dX5_send_31 : decode cX5_send 31 = .ok (.bipush (-4), 2) := by decide +kernel
theorem dX5_send_33 : decode cX5_send 33 = .ok (.ireturn, 1) := by decide +kernel
theorem dX5_send_34 : decode cX5_send 34 = .ok (.iload_n 1, 1) := by decide +kernel
theorem dX5_send_35 : decode cX5_send 35 = .ok (.iconst 1, 1) := by decide +kernel
theorem dX5_send_36 : decode cX5_send 36 = .ok (.if_icmp .ne 31, 3) := by decide +kernel
theorem dX5_send_39 : decode cX5_send 39 = .ok (.aload_n 0, 1) := by decide +kernel
theorem dX5_send_40 : decode cX5_send 40 = .ok (.getfield 235, 3) := by decide +kernel
theorem dX5_send_43 : decode cX5_send 43 = .ok (.ifCond .eq 24, 3) := by decide +kernel
theorem dX5_send_46 : decode cX5_send 46 = .ok (.aload_n 0, 1) := by decide +kernel
theorem dX5_send_47 : decode cX5_send 47 = .ok (.getfield 238, 3) := by decide +kernel
theorem dX5_send_50 : decode cX5_send 50 = .ok (.aload_n 0, 1) := by decide +kernel
theorem dX5_send_51 : decode cX5_send 51 = .ok (.getfield 7, 3) := by decide +kernel
theorem dX5_send_54 : decode cX5_send 54 = .ok (.iadd, 1) := by decide +kernel
theorem dX5_send_55 : decode cX5_send 55 = .ok (.iconst 3, 1) := by decide +kernel
theorem dX5_send_56 : decode cX5_send 56 = .ok (.aload_n 0, 1) := by decide +kernel
theorem dX5_send_57 : decode cX5_send 57 = .ok (.getfield 241, 3) := by decide +kernel
theorem dX5_send_60 : decode cX5_send 60 = .ok (.imul, 1) := by decide +kernel
theorem dX5_send_61 : decode cX5_send 61 = .ok (.if_icmp .le 6, 3) := by decide +kernel
theorem dX5_send_64 : decode cX5_send 64 = .ok (.bipush (-5), 2) := by decide +kernel
theorem dX5_send_66 : decode cX5_send 66 = .ok (.ireturn, 1) := by decide +kernel
theorem dX5_send_67 : decode cX5_send 67 = .ok (.aload_n 0, 1) := by decide +kernel
theorem dX5_send_68 : decode cX5_send 68 = .ok (.aload_n 0, 1) := by decide +kernel
theorem dX5_send_69 : decode cX5_send 69 = .ok (.iload_n 1, 1) := by decide +kernel
theorem dX5_send_70 : decode cX5_send 70 = .ok (.aload_n 0, 1) := by decide +kernel
theorem dX5_send_71 : decode cX5_send 71 = .ok (.getfield 73, 3) := by decide +kernel
theorem dX5_send_74 : decode cX5_send 74 = .ok (.iload_n 1, 1) := by decide +kernel
theorem dX5_send_75 : decode cX5_send 75 = .ok (.iaload, 1) := by decide +kernel
theorem dX5_send_76 : decode cX5_send 76 = .ok (.invokevirtual 215, 3) := by decide +kernel
theorem dX5_send_79 : decode cX5_send 79 = .ok (.putfield 212, 3) := by decide +kernel
theorem dX5_send_82 : decode cX5_send 82 = .ok (.aload_n 0, 1) := by decide +kernel
theorem dX5_send_83 : decode cX5_send 83 = .ok (.getfield 145, 3) := by decide +kernel
theorem dX5_send_86 : decode cX5_send 86 = .ok (.aload_n 0, 1) := by decide +kernel
theorem dX5_send_87 : decode cX5_send 87 = .ok (.getfield 212, 3) := by decide +kernel
theorem dX5_send_90 : decode cX5_send 90 = .ok (.bipush 10, 2) := by decide +kernel
theorem dX5_send_92 : decode cX5_send 92 = .ok (.iastore, 1) := by decide +kernel
theorem dX5_send_93 : decode cX5_send 93 = .ok (.aload_n 0, 1) := by decide +kernel
theorem dX5_send_94 : decode cX5_send 94 = .ok (.getfield 148, 3) := by decide +kernel
theorem dX5_send_97 : decode cX5_send 97 = .ok (.aload_n 0, 1) := by decide +kernel
theorem dX5_send_98 : decode cX5_send 98 = .ok (.getfield 212, 3) := by decide +kernel
theorem dX5_send_101 : decode cX5_send 101 = .ok (.iconst 0, 1) := by decide +kernel
theorem dX5_send_102 : decode cX5_send 102 = .ok (.iastore, 1) := by decide +kernel
theorem dX5_send_103 : decode cX5_send 103 = .ok (.aload_n 0, 1) := by decide +kernel
theorem dX5_send_104 : decode cX5_send 104 = .ok (.getfield 151, 3) := by decide +kernel
theorem dX5_send_107 : decode cX5_send 107 = .ok (.aload_n 0, 1) := by decide +kernel
theorem dX5_send_108 : decode cX5_send 108 = .ok (.getfield 212, 3) := by decide +kernel
theorem dX5_send_111 : decode cX5_send 111 = .ok (.iconst 0, 1) := by decide +kernel
theorem dX5_send_112 : decode cX5_send 112 = .ok (.bastore, 1) := by decide +kernel
theorem dX5_send_113 : decode cX5_send 113 = .ok (.aload_n 0, 1) := by decide +kernel
theorem dX5_send_114 : decode cX5_send 114 = .ok (.getfield 109, 3) := by decide +kernel
theorem dX5_send_117 : decode cX5_send 117 = .ok (.iload_n 1, 1) := by decide +kernel
theorem dX5_send_118 : decode cX5_send 118 = .ok (.baload, 1) := by decide +kernel
theorem dX5_send_119 : decode cX5_send 119 = .ok (.ifCond .eq 8, 3) := by decide +kernel
theorem dX5_send_122 : decode cX5_send 122 = .ok (.aload_n 0, 1) := by decide +kernel
theorem dX5_send_123 : decode cX5_send 123 = .ok (.iload_n 1, 1) := by decide +kernel
theorem dX5_send_124 : decode cX5_send 124 = .ok (.invokevirtual 244, 3) := by decide +kernel
theorem dX5_send_127 : decode cX5_send 127 = .ok (.aload_n 0, 1) := by decide +kernel
theorem dX5_send_128 : decode cX5_send 128 = .ok (.getfield 76, 3) := by decide +kernel
theorem dX5_send_131 : decode cX5_send 131 = .ok (.iload_n 1, 1) := by decide +kernel
theorem dX5_send_132 : decode cX5_send 132 = .ok (.iaload, 1) := by decide +kernel
theorem dX5_send_133 : decode cX5_send 133 = .ok (.aload_n 0, 1) := by decide +kernel
theorem dX5_send_134 : decode cX5_send 134 = .ok (.getfield 7, 3) := by decide +kernel
theorem dX5_send_137 : decode cX5_send 137 = .ok (.iadd, 1) := by decide +kernel
theorem dX5_send_138 : decode cX5_send 138 = .ok (.aload_n 0, 1) := by decide +kernel
theorem dX5_send_139 : decode cX5_send 139 = .ok (.getfield 79, 3) := by decide +kernel
theorem dX5_send_142 : decode cX5_send 142 = .ok (.iload_n 1, 1) := by decide +kernel
theorem dX5_send_143 : decode cX5_send 143 = .ok (.iaload, 1) := by decide +kernel
theorem dX5_send_144 : decode cX5_send 144 = .ok (.if_icmp .le 12, 3) := by decide +kernel
theorem dX5_send_147 : decode cX5_send 147 = .ok (.aload_n 0, 1) := by decide +kernel
theorem dX5_send_148 : decode cX5_send 148 = .ok (.getfield 100, 3) := by decide +kernel
theorem dX5_send_151 : decode cX5_send 151 = .ok (.iload_n 1, 1) := by decide +kernel
theorem dX5_send_152 : decode cX5_send 152 = .ok (.baload, 1) := by decide +kernel
theorem dX5_send_153 : decode cX5_send 153 = .ok (.ifCond .eq 8, 3) := by decide +kernel
theorem dX5_send_156 : decode cX5_send 156 = .ok (.aload_n 0, 1) := by decide +kernel
theorem dX5_send_157 : decode cX5_send 157 = .ok (.iload_n 1, 1) := by decide +kernel
theorem dX5_send_158 : decode cX5_send 158 = .ok (.invokevirtual 248, 3) := by decide +kernel
theorem dX5_send_161 : decode cX5_send 161 = .ok (.aload_n 0, 1) := by decide +kernel
theorem dX5_send_162 : decode cX5_send 162 = .ok (.getfield 148, 3) := by decide +kernel
theorem dX5_send_165 : decode cX5_send 165 = .ok (.aload_n 0, 1) := by decide +kernel
theorem dX5_send_166 : decode cX5_send 166 = .ok (.getfield 212, 3) := by decide +kernel
theorem dX5_send_169 : decode cX5_send 169 = .ok (.iaload, 1) := by decide +kernel
theorem dX5_send_170 : decode cX5_send 170 = .ok (.ifCond .ne 6, 3) := by decide +kernel
theorem dX5_send_173 : decode cX5_send 173 = .ok (.bipush (-5), 2) := by decide +kernel
theorem dX5_send_175 : decode cX5_send 175 = .ok (.ireturn, 1) := by decide +kernel
theorem dX5_send_176 : decode cX5_send 176 = .ok (.aload_n 0, 1) := by decide +kernel
theorem dX5_send_177 : decode cX5_send 177 = .ok (.getfield 139, 3) := by decide +kernel
theorem dX5_send_180 : decode cX5_send 180 = .ok (.aload_n 0, 1) := by decide +kernel
theorem dX5_send_181 : decode cX5_send 181 = .ok (.getfield 212, 3) := by decide +kernel
theorem dX5_send_184 : decode cX5_send 184 = .ok (.aload_n 0, 1) := by decide +kernel
theorem dX5_send_185 : decode cX5_send 185 = .ok (.getfield 251, 3) := by decide +kernel
theorem dX5_send_188 : decode cX5_send 188 = .ok (.iastore, 1) := by decide +kernel
theorem dX5_send_189 : decode cX5_send 189 = .ok (.aload_n 0, 1) := by decide +kernel
theorem dX5_send_190 : decode cX5_send 190 = .ok (.getfield 142, 3) := by decide +kernel
theorem dX5_send_193 : decode cX5_send 193 = .ok (.aload_n 0, 1) := by decide +kernel
theorem dX5_send_194 : decode cX5_send 194 = .ok (.getfield 212, 3) := by decide +kernel
theorem dX5_send_197 : decode cX5_send 197 = .ok (.iload_n 1, 1) := by decide +kernel
theorem dX5_send_198 : decode cX5_send 198 = .ok (.ifCond .ne 10, 3) := by decide +kernel
theorem dX5_send_201 : decode cX5_send 201 = .ok (.aload_n 0, 1) := by decide +kernel
theorem dX5_send_202 : decode cX5_send 202 = .ok (.getfield 209, 3) := by decide +kernel
theorem dX5_send_205 : decode cX5_send 205 = .ok (.goto 7, 3) := by decide +kernel
theorem dX5_send_208 : decode cX5_send 208 = .ok (.aload_n 0, 1) := by decide +kernel
theorem dX5_send_209 : decode cX5_send 209 = .ok (.getfield 254, 3) := by decide +kernel
theorem dX5_send_212 : decode cX5_send 212 = .ok (.iastore, 1) := by decide +kernel
theorem dX5_send_213 : decode cX5_send 213 = .ok (.aload_n 0, 1) := by decide +kernel
theorem dX5_send_214 : decode cX5_send 214 = .ok (.getfield 151, 3) := by decide +kernel
theorem dX5_send_217 : decode cX5_send 217 = .ok (.aload_n 0, 1) := by decide +kernel
theorem dX5_send_218 : decode cX5_send 218 = .ok (.getfield 212, 3) := by decide +kernel
theorem dX5_send_221 : decode cX5_send 221 = .ok (.baload, 1) := by decide +kernel
theorem dX5_send_222 : decode cX5_send 222 = .ok (.ifCond .eq 38, 3) := by decide +kernel
theorem dX5_send_225 : decode cX5_send 225 = .ok (.aload_n 0, 1) := by decide +kernel
theorem dX5_send_226 : decode cX5_send 226 = .ok (.getfield 76, 3) := by decide +kernel
theorem dX5_send_229 : decode cX5_send 229 = .ok (.iload_n 1, 1) := by decide +kernel
theorem dX5_send_230 : decode cX5_send 230 = .ok (.dup2, 1) := by decide +kernel
theorem dX5_send_231 : decode cX5_send 231 = .ok (.iaload, 1) := by decide +kernel
theorem dX5_send_232 : decode cX5_send 232 = .ok (.aload_n 0, 1) := by decide +kernel
theorem dX5_send_233 : decode cX5_send 233 = .ok (.getfield 145, 3) := by decide +kernel
theorem dX5_send_236 : decode cX5_send 236 = .ok (.aload_n 0, 1) := by decide +kernel
theorem dX5_send_237 : decode cX5_send 237 = .ok (.getfield 212, 3) := by decide +kernel
theorem dX5_send_240 : decode cX5_send 240 = .ok (.iaload, 1) := by decide +kernel
theorem dX5_send_241 : decode cX5_send 241 = .ok (.iadd, 1) := by decide +kernel
theorem dX5_send_242 : decode cX5_send 242 = .ok (.iastore, 1) := by decide +kernel
theorem dX5_send_243 : decode cX5_send 243 = .ok (.aload_n 0, 1) := by decide +kernel
theorem dX5_send_244 : decode cX5_send 244 = .ok (.getfield 100, 3) := by decide +kernel
theorem dX5_send_247 : decode cX5_send 247 = .ok (.iload_n 1, 1) := by decide +kernel
theorem dX5_send_248 : decode cX5_send 248 = .ok (.iconst 0, 1) := by decide +kernel
theorem dX5_send_249 : decode cX5_send 249 = .ok (.bastore, 1) := by decide +kernel
theorem dX5_send_250 : decode cX5_send 250 = .ok (.aload_n 0, 1) := by decide +kernel
theorem dX5_send_251 : decode cX5_send 251 = .ok (.getfield 121, 3) := by decide +kernel
theorem dX5_send_254 : decode cX5_send 254 = .ok (.iload_n 1, 1) := by decide +kernel
theorem dX5_send_255 : decode cX5_send 255 = .ok (.aload_n 0, 1) := by decide +kernel
theorem dX5_send_256 : decode cX5_send 256 = .ok (.getfield 251, 3) := by decide +kernel
theorem dX5_send_259 : decode cX5_send 259 = .ok (.iastore, 1) := by decide +kernel
theorem dX5_send_260 : decode cX5_send 260 = .ok (.aload_n 0, 1) := by decide +kernel
theorem dX5_send_261 : decode cX5_send 261 = .ok (.dup, 1) := by decide +kernel
theorem dX5_send_262 : decode cX5_send 262 = .ok (.getfield 238, 3) := by decide +kernel
theorem dX5_send_265 : decode cX5_send 265 = .ok (.iload_n 1, 1) := by decide +kernel
theorem dX5_send_266 : decode cX5_send 266 = .ok (.iconst 1, 1) := by decide +kernel
theorem dX5_send_267 : decode cX5_send 267 = .ok (.if_icmp .ne 22, 3) := by decide +kernel
theorem dX5_send_270 : decode cX5_send 270 = .ok (.aload_n 0, 1) := by decide +kernel
theorem dX5_send_271 : decode cX5_send 271 = .ok (.getfield 235, 3) := by decide +kernel
theorem dX5_send_274 : decode cX5_send 274 = .ok (.ifCond .eq 15, 3) := by decide +kernel
theorem dX5_send_277 : decode cX5_send 277 = .ok (.aload_n 0, 1) := by decide +kernel
theorem dX5_send_278 : decode cX5_send 278 = .ok (.getfield 145, 3) := by decide +kernel
theorem dX5_send_281 : decode cX5_send 281 = .ok (.aload_n 0, 1) := by decide +kernel
theorem dX5_send_282 : decode cX5_send 282 = .ok (.getfield 212, 3) := by decide +kernel
theorem dX5_send_285 : decode cX5_send 285 = .ok (.iaload, 1) := by decide +kernel
theorem dX5_send_286 : decode cX5_send 286 = .ok (.goto 4, 3) := by decide +kernel
theorem dX5_send_289 : decode cX5_send 289 = .ok (.iconst 0, 1) := by decide +kernel
theorem dX5_send_290 : decode cX5_send 290 = .ok (.iadd, 1) := by decide +kernel
theorem dX5_send_291 : decode cX5_send 291 = .ok (.putfield 238, 3) := by decide +kernel
theorem dX5_send_294 : decode cX5_send 294 = .ok (.aload_n 0, 1) := by decide +kernel
theorem dX5_send_295 : decode cX5_send 295 = .ok (.getfield 170, 3) := by decide +kernel
theorem dX5_send_298 : decode cX5_send 298 = .ok (.aload_n 0, 1) := by decide +kernel
theorem dX5_send_299 : decode cX5_send 299 = .ok (.getfield 232, 3) := by decide +kernel
theorem dX5_send_302 : decode cX5_send 302 = .ok (.iload_n 1, 1) := by decide +kernel
theorem dX5_send_303 : decode cX5_send 303 = .ok (.iastore, 1) := by decide +kernel
theorem dX5_send_304 : decode cX5_send 304 = .ok (.aload_n 0, 1) := by decide +kernel
theorem dX5_send_305 : decode cX5_send 305 = .ok (.getfield 173, 3) := by decide +kernel
theorem dX5_send_308 : decode cX5_send 308 = .ok (.aload_n 0, 1) := by decide +kernel
theorem dX5_send_309 : decode cX5_send 309 = .ok (.getfield 232, 3) := by decide +kernel
theorem dX5_send_312 : decode cX5_send 312 = .ok (.aload_n 0, 1) := by decide +kernel
theorem dX5_send_313 : decode cX5_send 313 = .ok (.getfield 73, 3) := by decide +kernel
theorem dX5_send_316 : decode cX5_send 316 = .ok (.iload_n 1, 1) := by decide +kernel
theorem dX5_send_317 : decode cX5_send 317 = .ok (.iaload, 1) := by decide +kernel
theorem dX5_send_318 : decode cX5_send 318 = .ok (.iastore, 1) := by decide +kernel
theorem dX5_send_319 : decode cX5_send 319 = .ok (.aload_n 0, 1) := by decide +kernel
theorem dX5_send_320 : decode cX5_send 320 = .ok (.dup, 1) := by decide +kernel
theorem dX5_send_321 : decode cX5_send 321 = .ok (.getfield 232, 3) := by decide +kernel
theorem dX5_send_324 : decode cX5_send 324 = .ok (.iconst 1, 1) := by decide +kernel
theorem dX5_send_325 : decode cX5_send 325 = .ok (.iadd, 1) := by decide +kernel
theorem dX5_send_326 : decode cX5_send 326 = .ok (.putfield 232, 3) := by decide +kernel
theorem dX5_send_329 : decode cX5_send 329 = .ok (.aload_n 0, 1) := by decide +kernel
theorem dX5_send_330 : decode cX5_send 330 = .ok (.getfield 73, 3) := by decide +kernel
theorem dX5_send_333 : decode cX5_send 333 = .ok (.iload_n 1, 1) := by decide +kernel
theorem dX5_send_334 : decode cX5_send 334 = .ok (.dup2, 1) := by decide +kernel
theorem dX5_send_335 : decode cX5_send 335 = .ok (.iaload, 1) := by decide +kernel
theorem dX5_send_336 : decode cX5_send 336 = .ok (.iconst 1, 1) := by decide +kernel
theorem dX5_send_337 : decode cX5_send 337 = .ok (.iadd, 1) := by decide +kernel
theorem dX5_send_338 : decode cX5_send 338 = .ok (.iastore, 1) := by decide +kernel
theorem dX5_send_339 : decode cX5_send 339 = .ok (.aload_n 0, 1) := by decide +kernel
theorem dX5_send_340 : decode cX5_send 340 = .ok (.iconst 1, 1) := by decide +kernel
theorem dX5_send_341 : decode cX5_send 341 = .ok (.putfield 197, 3) := by decide +kernel
theorem dX5_send_344 : decode cX5_send 344 = .ok (.aload_n 0, 1) := by decide +kernel
theorem dX5_send_345 : decode cX5_send 345 = .ok (.getfield 73, 3) := by decide +kernel
theorem dX5_send_348 : decode cX5_send 348 = .ok (.iload_n 1, 1) := by decide +kernel
theorem dX5_send_349 : decode cX5_send 349 = .ok (.iaload, 1) := by decide +kernel
theorem dX5_send_350 : decode cX5_send 350 = .ok (.iconst 1, 1) := by decide +kernel
theorem dX5_send_351 : decode cX5_send 351 = .ok (.isub, 1) := by decide +kernel
theorem dX5_send_352 : decode cX5_send 352 = .ok (.ireturn, 1) := by decide +kernel
theorem dX5_putRest_0 : decode cX5_putRest 0 = .ok (.aload_n 0, 1) := by decide +kernel
theorem dX5_putRest_1 : decode cX5_putRest 1 = .ok (.getfield 133, 3) := by decide +kernel
theorem dX5_putRest_4 : decode cX5_putRest 4 = .ok (.iload_n 1, 1) := by decide +kernel
theorem dX5_putRest_5 : decode cX5_putRest 5 = .ok (.baload, 1) := by decide +kernel
theorem dX5_putRest_6 : decode cX5_putRest 6 = .ok (.ifCond .eq 29, 3) := by decide +kernel
theorem dX5_putRest_9 : decode cX5_putRest 9 = .ok (.aload_n 0, 1) := by decide +kernel
theorem dX5_putRest_10 : decode cX5_putRest 10 = .ok (.bipush 7, 2) := by decide +kernel
theorem dX5_putRest_12 : decode cX5_putRest 12 = .ok (.bipush 9, 2) := by decide +kernel
theorem dX5_putRest_14 : decode cX5_putRest 14 = .ok (.iconst 0, 1) := by decide +kernel
theorem dX5_putRest_15 : decode cX5_putRest 15 = .ok (.aload_n 0, 1) := by decide +kernel
theorem dX5_putRest_16 : decode cX5_putRest 16 = .ok (.getfield 136, 3) := by decide +kernel
theorem dX5_putRest_19 : decode cX5_putRest 19 = .ok (.iload_n 1, 1) := by decide +kernel
theorem dX5_putRest_20 : decode cX5_putRest 20 = .ok (.iaload, 1) := by decide +kernel
theorem dX5_putRest_21 : decode cX5_putRest 21 = .ok (.iconst 0, 1) := by decide +kernel
theorem dX5_putRest_22 : decode cX5_putRest 22 = .ok (.invokevirtual 219, 3) := by decide +kernel
theorem dX5_putRest_25 : decode cX5_putRest 25 = .ok (.ifCond .eq 10, 3) := by decide +kernel
theorem dX5_putRest_28 : decode cX5_putRest 28 = .ok (.aload_n 0, 1) := by decide +kernel
theorem dX5_putRest_29 : decode cX5_putRest 29 = .ok (.getfield 133, 3) := by decide +kernel
theorem dX5_putRest_32 : decode cX5_putRest 32 = .ok (.iload_n 1, 1) := by decide +kernel
theorem dX5_putRest_33 : decode cX5_putRest 33 = .ok (.iconst 0, 1) := by decide +kernel
theorem dX5_putRest_34 : decode cX5_putRest 34 = .ok (.bastore, 1) := by decide +kernel
theorem dX5_putRest_35 : decode cX5_putRest 35 = .ok (.aload_n 0, 1) := by decide +kernel
theorem dX5_putRest_36 : decode cX5_putRest 36 = .ok (.getfield 127, 3) := by decide +kernel
theorem dX5_putRest_39 : decode cX5_putRest 39 = .ok (.iload_n 1, 1) := by decide +kernel
theorem dX5_putRest_40 : decode cX5_putRest 40 = .ok (.baload, 1) := by decide +kernel
theorem dX5_putRest_41 : decode cX5_putRest 41 = .ok (.ifCond .eq 29, 3) := by decide +kernel
theorem dX5_putRest_44 : decode cX5_putRest 44 = .ok (.aload_n 0, 1) := by decide +kernel
theorem dX5_putRest_45 : decode cX5_putRest 45 = .ok (.bipush 6, 2) := by decide +kernel
theorem dX5_putRest_47 : decode cX5_putRest 47 = .ok (.bipush 9, 2) := by decide +kernel
theorem dX5_putRest_49 : decode cX5_putRest 49 = .ok (.iconst 0, 1) := by decide +kernel
theorem dX5_putRest_50 : decode cX5_putRest 50 = .ok (.aload_n 0, 1) := by decide +kernel
theorem dX5_putRest_51 : decode cX5_putRest 51 = .ok (.getfield 130, 3) := by decide +kernel
theorem dX5_putRest_54 : decode cX5_putRest 54 = .ok (.iload_n 1, 1) := by decide +kernel
theorem dX5_putRest_55 : decode cX5_putRest 55 = .ok (.iaload, 1) := by decide +kernel
theorem dX5_putRest_56 : decode cX5_putRest 56 = .ok (.iconst 0, 1) := by decide +kernel
theorem dX5_putRest_57 : decode cX5_putRest 57 = .ok (.invokevirtual 219, 3) := by decide +kernel
theorem dX5_putRest_60 : decode cX5_putRest 60 = .ok (.ifCond .eq 10, 3) := by decide +kernel
theorem dX5_putRest_63 : decode cX5_putRest 63 = .ok (.aload_n 0, 1) := by decide +kernel
theorem dX5_putRest_64 : decode cX5_putRest 64 = .ok (.getfield 127, 3) := by decide +kernel
theorem dX5_putRest_67 : decode cX5_putRest 67 = .ok (.iload_n 1, 1) := by decide +kernel
theorem dX5_putRest_68 : decode cX5_putRest 68 = .ok (.iconst 0, 1) := by decide +kernel
theorem dX5_putRest_69 : decode cX5_putRest 69 = .ok (.bastore, 1) := by decide +kernel
theorem dX5_putRest_70 : decode cX5_putRest 70 = .ok (.aload_n 0, 1) := by decide +kernel
theorem dX5_putRest_71 : decode cX5_putRest 71 = .ok (.iload_n 1, 1) := by decide +kernel
theorem dX5_putRest_72 : decode cX5_putRest 72 = .ok (.invokevirtual 257, 3) := by decide +kernel
theorem dX5_putRest_75 : decode cX5_putRest 75 = .ok (.aload_n 0, 1) := by decide +kernel
theorem dX5_putRest_76 : decode cX5_putRest 76 = .ok (.getfield 124, 3) := by decide +kernel
theorem dX5_putRest_79 : decode cX5_putRest 79 = .ok (.iload_n 1, 1) := by decide +kernel
theorem dX5_putRest_80 : decode cX5_putRest 80 = .ok (.iaload, 1) := by decide +kernel
theorem dX5_putRest_81 : decode cX5_putRest 81 = .ok (.istore_n 2, 1) := by decide +kernel
theorem dX5_putRest_82 : decode cX5_putRest 82 = .ok (.iconst 1, 1) := by decide +kernel
theorem dX5_putRest_83 : decode cX5_putRest 83 = .ok (.istore_n 3, 1) := by decide +kernel
theorem dX5_putRest_84 : decode cX5_putRest 84 = .ok (.iload_n 3, 1) := by decide +kernel
theorem dX5_putRest_85 : decode cX5_putRest 85 = .ok (.iconst 4, 1) := by decide +kernel
theorem dX5_putRest_86 : decode cX5_putRest 86 = .ok (.if_icmp .gt 36, 3) := by decide +kernel
theorem dX5_putRest_89 : decode cX5_putRest 89 = .ok (.iload_n 2, 1) := by decide +kernel
theorem dX5_putRest_90 : decode cX5_putRest 90 = .ok (.iconst 2, 1) := by decide +kernel
theorem dX5_putRest_91 : decode cX5_putRest 91 = .ok (.iload_n 3, 1) := by decide +kernel
theorem dX5_putRest_92 : decode cX5_putRest 92 = .ok (.imul, 1) := by decide +kernel
theorem dX5_putRest_93 : decode cX5_putRest 93 = .ok (.iadd, 1) := by decide +kernel
theorem dX5_putRest_94 : decode cX5_putRest 94 = .ok (.bipush 8, 2) := by decide +kernel
theorem dX5_putRest_96 : decode cX5_putRest 96 = .ok (.irem, 1) := by decide +kernel
theorem dX5_putRest_97 : decode cX5_putRest 97 = .ok (.istore 4, 2) := by decide +kernel
theorem dX5_putRest_99 : decode cX5_putRest 99 = .ok (.aload_n 0, 1) := by decide +kernel
theorem dX5_putRest_100 : decode cX5_putRest 100 = .ok (.getfield 27, 3) := by decide +kernel
theorem dX5_putRest_103 : decode cX5_putRest 103 = .ok (.iload 4, 2) := by decide +kernel
theorem dX5_putRest_105 : decode cX5_putRest 105 = .ok (.baload, 1) := by decide +kernel
theorem dX5_putRest_106 : decode cX5_putRest 106 = .ok (.ifCond .ne 10, 3) := by decide +kernel
theorem dX5_putRest_109 : decode cX5_putRest 109 = .ok (.aload_n 0, 1) := by decide +kernel
theorem dX5_putRest_110 : decode cX5_putRest 110 = .ok (.iload_n 1, 1) := by decide +kernel
theorem dX5_putRest_111 : decode cX5_putRest 111 = .ok (.iload 4, 2) := by decide +kernel
theorem dX5_putRest_113 : decode cX5_putRest 113 = .ok (.invokevirtual 260, 3) := by decide +kernel
theorem dX5_putRest_116 : decode cX5_putRest 116 = .ok (.iinc 3 1, 3) := by decide +kernel
theorem dX5_putRest_119 : decode cX5_putRest 119 = .ok (.goto (-35), 3) := by decide +kernel
theorem dX5_putRest_122 : decode cX5_putRest 122 = .ok (.aload_n 0, 1) := by decide +kernel
theorem dX5_putRest_123 : decode cX5_putRest 123 = .ok (.getfield 100, 3) := by decide +kernel
theorem dX5_putRest_126 : decode cX5_putRest 126 = .ok (.iload_n 1, 1) := by decide +kernel
theorem dX5_putRest_127 : decode cX5_putRest 127 = .ok (.baload, 1) := by decide +kernel
theorem dX5_putRest_128 : decode cX5_putRest 128 = .ok (.ifCond .eq 26, 3) := by decide +kernel
theorem dX5_putRest_131 : decode cX5_putRest 131 = .ok (.aload_n 0, 1) := by decide +kernel
theorem dX5_putRest_132 : decode cX5_putRest 132 = .ok (.getfield 151, 3) := by decide +kernel
theorem dX5_putRest_135 : decode cX5_putRest 135 = .ok (.aload_n 0, 1) := by decide +kernel
theorem dX5_putRest_136 : decode cX5_putRest 136 = .ok (.getfield 212, 3) := by decide +kernel
theorem dX5_putRest_139 : decode cX5_putRest 139 = .ok (.baload, 1) := by decide +kernel
theorem dX5_putRest_140 : decode cX5_putRest 140 = .ok (.ifCond .ne 14, 3) := by decide +kernel
theorem dX5_putRest_143 : decode cX5_putRest 143 = .ok (.aload_n 0, 1) := by decide +kernel
theorem dX5_putRest_144 : decode cX5_putRest 144 = .ok (.bipush 8, 2) := by decide +kernel
theorem dX5_putRest_146 : decode cX5_putRest 146 = .ok (.iconst 1, 1) := by decide +kernel
theorem dX5_putRest_147 : decode cX5_putRest 147 = .ok (.iconst 0, 1) := by decide +kernel
theorem dX5_putRest_148 : decode cX5_putRest 148 = .ok (.iconst 0, 1) := by decide +kernel
theorem dX5_putRest_149 : decode cX5_putRest 149 = .ok (.iconst 0, 1) := by decide +kernel
theorem dX5_putRest_150 : decode cX5_putRest 150 = .ok (.invokevirtual 219, 3) := by decide +kernel
theorem dX5_putRest_153 : decode cX5_putRest 153 = .ok (.pop, 1) := by decide +kernel
theorem dX5_putRest_154 : decode cX5_putRest 154 = .ok (.return_, 1) := by decide +kernel
theorem dX5_takeOut_0 : decode cX5_takeOut 0 = .ok (.aload_n 0, 1) := by decide +kernel
theorem dX5_takeOut_1 : decode cX5_takeOut 1 = .ok (.dup, 1) := by decide +kernel
theorem dX5_takeOut_2 : decode cX5_takeOut 2 = .ok (.getfield 232, 3) := by decide +kernel
theorem dX5_takeOut_5 : decode cX5_takeOut 5 = .ok (.iconst 1, 1) := by decide +kernel
theorem dX5_takeOut_6 : decode cX5_takeOut 6 = .ok (.isub, 1) := by decide +kernel
theorem dX5_takeOut_7 : decode cX5_takeOut 7 = .ok (.putfield 232, 3) := by decide +kernel
theorem dX5_takeOut_10 : decode cX5_takeOut 10 = .ok (.iload_n 1, 1) := by decide +kernel
theorem dX5_takeOut_11 : decode cX5_takeOut 11 = .ok (.istore_n 2, 1) := by decide +kernel
theorem dX5_takeOut_12 : decode cX5_takeOut 12 = .ok (.iload_n 2, 1) := by decide +kernel
theorem dX5_takeOut_13 : decode cX5_takeOut 13 = .ok (.aload_n 0, 1) := by decide +kernel
theorem dX5_takeOut_14 : decode cX5_takeOut 14 = .ok (.getfield 232, 3) := by decide +kernel
theorem dX5_takeOut_17 : decode cX5_takeOut 17 = .ok (.if_icmp .ge 37, 3) := by decide +kernel
theorem dX5_takeOut_20 : decode cX5_takeOut 20 = .ok (.aload_n 0, 1) := by decide +kernel
theorem dX5_takeOut_21 : decode cX5_takeOut 21 = .ok (.getfield 170, 3) := by decide +kernel
theorem dX5_takeOut_24 : decode cX5_takeOut 24 = .ok (.iload_n 2, 1) := by decide +kernel
theorem dX5_takeOut_25 : decode cX5_takeOut 25 = .ok (.aload_n 0, 1) := by decide +kernel
theorem dX5_takeOut_26 : decode cX5_takeOut 26 = .ok (.getfield 170, 3) := by decide +kernel
theorem dX5_takeOut_29 : decode cX5_takeOut 29 = .ok (.iload_n 2, 1) := by decide +kernel
theorem dX5_takeOut_30 : decode cX5_takeOut 30 = .ok (.iconst 1, 1) := by decide +kernel
theorem dX5_takeOut_31 : decode cX5_takeOut 31 = .ok (.iadd, 1) := by decide +kernel
theorem dX5_takeOut_32 : decode cX5_takeOut 32 = .ok (.iaload, 1) := by decide +kernel
theorem dX5_takeOut_33 : decode cX5_takeOut 33 = .ok (.iastore, 1) := by decide +kernel
theorem dX5_takeOut_34 : decode cX5_takeOut 34 = .ok (.aload_n 0, 1) := by decide +kernel
theorem dX5_takeOut_35 : decode cX5_takeOut 35 = .ok (.getfield 173, 3) := by decide +kernel
theorem dX5_takeOut_38 : decode cX5_takeOut 38 = .ok (.iload_n 2, 1) := by decide +kernel
theorem dX5_takeOut_39 : decode cX5_takeOut 39 = .ok (.aload_n 0, 1) := by decide +kernel
theorem dX5_takeOut_40 : decode cX5_takeOut 40 = .ok (.getfield 173, 3) := by decide +kernel
theorem dX5_takeOut_43 : decode cX5_takeOut 43 = .ok (.iload_n 2, 1) := by decide +kernel
theorem dX5_takeOut_44 : decode cX5_takeOut 44 = .ok (.iconst 1, 1) := by decide +kernel
theorem dX5_takeOut_45 : decode cX5_takeOut 45 = .ok (.iadd, 1) := by decide +kernel
theorem dX5_takeOut_46 : decode cX5_takeOut 46 = .ok (.iaload, 1) := by decide +kernel
theorem dX5_takeOut_47 : decode cX5_takeOut 47 = .ok (.iastore, 1) := by decide +kernel
theorem dX5_takeOut_48 : decode cX5_takeOut 48 = .ok (.iinc 2 1, 3) := by decide +kernel
theorem dX5_takeOut_51 : decode cX5_takeOut 51 = .ok (.goto (-39), 3) := by decide +kernel
theorem dX5_takeOut_54 : decode cX5_takeOut 54 = .ok (.return_, 1) := by decide +kernel
theorem dX5_come_0 : decode cX5_come 0 = .ok (.iload_n 1, 1) := by decide +kernel
theorem dX5_come_1 : decode cX5_come 1 = .ok (.i2l, 1) := by decide +kernel
theorem dX5_come_2 : decode cX5_come 2 = .ok (.lconst 0, 1) := by decide +kernel
theorem dX5_come_3 : decode cX5_come 3 = .ok (.aload_n 0, 1) := by decide +kernel
theorem dX5_come_4 : decode cX5_come 4 = .ok (.getfield 232, 3) := by decide +kernel
theorem dX5_come_7 : decode cX5_come 7 = .ok (.iconst 1, 1) := by decide +kernel
theorem dX5_come_8 : decode cX5_come 8 = .ok (.isub, 1) := by decide +kernel
theorem dX5_come_9 : decode cX5_come 9 = .ok (.i2l, 1) := by decide +kernel
theorem dX5_come_10 : decode cX5_come 10 = .ok (.invokestatic 185, 3) := by decide +kernel
theorem dX5_come_13 : decode cX5_come 13 = .ok (.ifCond .ne 5, 3) := by decide +kernel
theorem dX5_come_16 : decode cX5_come 16 = .ok (.iconst (-1), 1) := by decide +kernel
theorem dX5_come_17 : decode cX5_come 17 = .ok (.ireturn, 1) := by decide +kernel
theorem dX5_come_18 : decode cX5_come 18 = .ok (.aload_n 0, 1) := by decide +kernel
theorem dX5_come_19 : decode cX5_come 19 = .ok (.getfield 170, 3) := by decide +kernel
theorem dX5_come_22 : decode cX5_come 22 = .ok (.iload_n 1, 1) := by decide +kernel
theorem dX5_come_23 : decode cX5_come 23 = .ok (.iaload, 1) := by decide +kernel
theorem dX5_come_24 : decode cX5_come 24 = .ok (.istore_n 2, 1) := by decide +kernel
theorem dX5_come_25 : decode cX5_come 25 = .ok (.aload_n 0, 1) := by decide +kernel
theorem dX5_come_26 : decode cX5_come 26 = .ok (.getfield 173, 3) := by decide +kernel
theorem dX5_come_29 : decode cX5_come 29 = .ok (.iload_n 1, 1) := by decide +kernel
theorem dX5_come_30 : decode cX5_come 30 = .ok (.iaload, 1) := by decide +kernel
theorem dX5_come_31 : decode cX5_come 31 = .ok (.istore_n 3, 1) := by decide +kernel
theorem dX5_come_32 : decode cX5_come 32 = .ok (.aload_n 0, 1) := by decide +kernel
theorem dX5_come_33 : decode cX5_come 33 = .ok (.iload_n 1, 1) := by decide +kernel
theorem dX5_come_34 : decode cX5_come 34 = .ok (.invokevirtual 264, 3) := by decide +kernel
theorem dX5_come_37 : decode cX5_come 37 = .ok (.iconst 1, 1) := by decide +kernel
theorem dX5_come_38 : decode cX5_come 38 = .ok (.iload_n 2, 1) := by decide +kernel
theorem dX5_come_39 : decode cX5_come 39 = .ok (.isub, 1) := by decide +kernel
theorem dX5_come_40 : decode cX5_come 40 = .ok (.istore 4, 2) := by decide +kernel
theorem dX5_come_42 : decode cX5_come 42 = .ok (.aload_n 0, 1) := by decide +kernel
theorem dX5_come_43 : decode cX5_come 43 = .ok (.iload_n 2, 1) := by decide +kernel
theorem dX5_come_44 : decode cX5_come 44 = .ok (.iload_n 3, 1) := by decide +kernel
theorem dX5_come_45 : decode cX5_come 45 = .ok (.invokevirtual 215, 3) := by decide +kernel
theorem dX5_come_48 : decode cX5_come 48 = .ok (.istore 5, 2) := by decide +kernel
theorem dX5_come_50 : decode cX5_come 50 = .ok (.iload_n 2, 1) := by decide +kernel
theorem dX5_come_51 : decode cX5_come 51 = .ok (.iconst 1, 1) := by decide +kernel
theorem dX5_come_52 : decode cX5_come 52 = .ok (.if_icmp .ne 29, 3) := by decide +kernel
theorem dX5_come_55 : decode cX5_come 55 = .ok (.aload_n 0, 1) := by decide +kernel
theorem dX5_come_56 : decode cX5_come 56 = .ok (.getfield 142, 3) := by decide +kernel
theorem dX5_come_59 : decode cX5_come 59 = .ok (.iload 5, 2) := by decide +kernel
theorem dX5_come_61 : decode cX5_come 61 = .ok (.iaload, 1) := by decide +kernel
theorem dX5_come_62 : decode cX5_come 62 = .ok (.aload_n 0, 1) := by decide +kernel
theorem dX5_come_63 : decode cX5_come 63 = .ok (.getfield 209, 3) := by decide +kernel
theorem dX5_come_66 : decode cX5_come 66 = .ok (.if_icmp .eq 15, 3) := by decide +kernel
theorem dX5_come_69 : decode cX5_come 69 = .ok (.aload_n 0, 1) := by decide +kernel
theorem dX5_come_70 : decode cX5_come 70 = .ok (.dup, 1) := by decide +kernel
theorem dX5_come_71 : decode cX5_come 71 = .ok (.getfield 267, 3) := by decide +kernel
theorem dX5_come_74 : decode cX5_come 74 = .ok (.iconst 1, 1) := by decide +kernel
theorem dX5_come_75 : decode cX5_come 75 = .ok (.iadd, 1) := by decide +kernel
theorem dX5_come_76 : decode cX5_come 76 = .ok (.putfield 267, 3) := by decide +kernel
theorem dX5_come_79 : decode cX5_come 79 = .ok (.iconst 2, 1) := by decide +kernel
theorem dX5_come_80 : decode cX5_come 80 = .ok (.ireturn, 1) := by decide +kernel
theorem dX5_come_81 : decode cX5_come 81 = .ok (.aload_n 0, 1) := by decide +kernel
theorem dX5_come_82 : decode cX5_come 82 = .ok (.getfield 151, 3) := by decide +kernel
theorem dX5_come_85 : decode cX5_come 85 = .ok (.iload 5, 2) := by decide +kernel
theorem dX5_come_87 : decode cX5_come 87 = .ok (.baload, 1) := by decide +kernel
theorem dX5_come_88 : decode cX5_come 88 = .ok (.ifCond .eq 11, 3) := by decide +kernel
theorem dX5_come_91 : decode cX5_come 91 = .ok (.aload_n 0, 1) := by decide +kernel
theorem dX5_come_92 : decode cX5_come 92 = .ok (.getfield 109, 3) := by decide +kernel
theorem dX5_come_95 : decode cX5_come 95 = .ok (.iload 4, 2) := by decide +kernel
theorem dX5_come_97 : decode cX5_come 97 = .ok (.iconst 1, 1) := by decide +kernel
theorem dX5_come_98 : decode cX5_come 98 = .ok (.bastore, 1) := by decide +kernel
theorem dX5_come_99 : decode cX5_come 99 = .ok (.iload_n 2, 1) := by decide +kernel
theorem dX5_come_100 : decode cX5_come 100 = .ok (.ifCond .ne 10, 3) := by decide +kernel
theorem dX5_come_103 : decode cX5_come 103 = .ok (.aload_n 0, 1) := by decide +kernel
theorem dX5_come_104 : decode cX5_come 104 = .ok (.iload 5, 2) := by decide +kernel
theorem dX5_come_106 : decode cX5_come 106 = .ok (.iload_n 3, 1) := by decide +kernel
theorem dX5_come_107 : decode cX5_come 107 = .ok (.invokevirtual 270, 3) := by decide +kernel
theorem dX5_come_110 : decode cX5_come 110 = .ok (.aload_n 0, 1) := by decide +kernel
theorem dX5_come_111 : decode cX5_come 111 = .ok (.getfield 160, 3) := by decide +kernel
theorem dX5_come_114 : decode cX5_come 114 = .ok (.iload 5, 2) := by decide +kernel
theorem dX5_come_116 : decode cX5_come 116 = .ok (.baload, 1) := by decide +kernel
theorem dX5_come_117 : decode cX5_come 117 = .ok (.ifCond .eq 5, 3) := by decide +kernel
theorem dX5_come_120 : decode cX5_come 120 = .ok (.iconst 0, 1) := by decide +kernel
theorem dX5_come_121 : decode cX5_come 121 = .ok (.ireturn, 1) := by decide +kernel
theorem dX5_come_122 : decode cX5_come 122 = .ok (.aload_n 0, 1) := by decide +kernel
theorem dX5_come_123 : decode cX5_come 123 = .ok (.getfield 160, 3) := by decide +kernel
theorem dX5_come_126 : decode cX5_come 126 = .ok (.iload 5, 2) := by decide +kernel
theorem dX5_come_128 : decode cX5_come 128 = .ok (.iconst 1, 1) := by decide +kernel
theorem dX5_come_129 : decode cX5_come 129 = .ok (.bastore, 1) := by decide +kernel
theorem dX5_come_130 : decode cX5_come 130 = .ok (.aload_n 0, 1) := by decide +kernel
theorem dX5_come_131 : decode cX5_come 131 = .ok (.getfield 106, 3) := by decide +kernel
theorem dX5_come_134 : decode cX5_come 134 = .ok (.iload 4, 2) := by decide +kernel
theorem dX5_come_136 : decode cX5_come 136 = .ok (.iload_n 3, 1) := by decide +kernel
theorem dX5_come_137 : decode cX5_come 137 = .ok (.aload_n 0, 1) := by decide +kernel
theorem dX5_come_138 : decode cX5_come 138 = .ok (.getfield 106, 3) := by decide +kernel
theorem dX5_come_141 : decode cX5_come 141 = .ok (.iload 4, 2) := by decide +kernel
theorem dX5_come_143 : decode cX5_come 143 = .ok (.iaload, 1) := by decide +kernel
theorem dX5_come_144 : decode cX5_come 144 = .ok (.if_icmp .le 7, 3) := by decide +kernel
theorem dX5_come_147 : decode cX5_come 147 = .ok (.iload_n 3, 1) := by decide +kernel
theorem dX5_come_148 : decode cX5_come 148 = .ok (.goto 10, 3) := by decide +kernel
theorem dX5_come_151 : decode cX5_come 151 = .ok (.aload_n 0, 1) := by decide +kernel
theorem dX5_come_152 : decode cX5_come 152 = .ok (.getfield 106, 3) := by decide +kernel
theorem dX5_come_155 : decode cX5_come 155 = .ok (.iload 4, 2) := by decide +kernel
theorem dX5_come_157 : decode cX5_come 157 = .ok (.iaload, 1) := by decide +kernel
theorem dX5_come_158 : decode cX5_come 158 = .ok (.iastore, 1) := by decide +kernel
theorem dX5_come_159 : decode cX5_come 159 = .ok (.iconst 0, 1) := by decide +kernel
theorem dX5_come_160 : decode cX5_come 160 = .ok (.istore 6, 2) := by decide +kernel
theorem dX5_come_162 : decode cX5_come 162 = .ok (.iload 6, 2) := by decide +kernel
theorem dX5_come_164 : decode cX5_come 164 = .ok (.aload_n 0, 1) := by decide +kernel
theorem dX5_come_165 : decode cX5_come 165 = .ok (.getfield 148, 3) := by decide +kernel
theorem dX5_come_168 : decode cX5_come 168 = .ok (.iload 5, 2) := by decide +kernel
theorem dX5_come_170 : decode cX5_come 170 = .ok (.iaload, 1) := by decide +kernel
theorem dX5_come_171 : decode cX5_come 171 = .ok (.if_icmp .ge 63, 3) := by decide +kernel
theorem dX5_come_174 : decode cX5_come 174 = .ok (.iconst 4, 1) := by decide +kernel
theorem dX5_come_175 : decode cX5_come 175 = .ok (.bipush 24, 2) := by decide +kernel
theorem dX5_come_177 : decode cX5_come 177 = .ok (.iload 5, 2) := by decide +kernel
theorem dX5_come_179 : decode cX5_come 179 = .ok (.imul, 1) := by decide +kernel
theorem dX5_come_180 : decode cX5_come 180 = .ok (.iload 6, 2) := by decide +kernel
theorem dX5_come_182 : decode cX5_come 182 = .ok (.iadd, 1) := by decide +kernel
theorem dX5_come_183 : decode cX5_come 183 = .ok (.imul, 1) := by decide +kernel
theorem dX5_come_184 : decode cX5_come 184 = .ok (.istore 7, 2) := by decide +kernel
theorem dX5_come_186 : decode cX5_come 186 = .ok (.aload_n 0, 1) := by decide +kernel
theorem dX5_come_187 : decode cX5_come 187 = .ok (.iload 4, 2) := by decide +kernel
theorem dX5_come_189 : decode cX5_come 189 = .ok (.iload 5, 2) := by decide +kernel
theorem dX5_come_191 : decode cX5_come 191 = .ok (.aload_n 0, 1) := by decide +kernel
theorem dX5_come_192 : decode cX5_come 192 = .ok (.getfield 164, 3) := by decide +kernel
theorem dX5_come_195 : decode cX5_come 195 = .ok (.iload 7, 2) := by decide +kernel
theorem dX5_come_197 : decode cX5_come 197 = .ok (.iaload, 1) := by decide +kernel
theorem dX5_come_198 : decode cX5_come 198 = .ok (.aload_n 0, 1) := by decide +kernel
theorem dX5_come_199 : decode cX5_come 199 = .ok (.getfield 164, 3) := by decide +kernel
theorem dX5_come_202 : decode cX5_come 202 = .ok (.iload 7, 2) := by decide +kernel
theorem dX5_come_204 : decode cX5_come 204 = .ok (.iconst 1, 1) := by decide +kernel
theorem dX5_come_205 : decode cX5_come 205 = .ok (.iadd, 1) := by decide +kernel
theorem dX5_come_206 : decode cX5_come 206 = .ok (.iaload, 1) := by decide +kernel
theorem dX5_come_207 : decode cX5_come 207 = .ok (.aload_n 0, 1) := by decide +kernel
theorem dX5_come_208 : decode cX5_come 208 = .ok (.getfield 164, 3) := by decide +kernel
theorem dX5_come_211 : decode cX5_come 211 = .ok (.iload 7, 2) := by decide +kernel
theorem dX5_come_213 : decode cX5_come 213 = .ok (.iconst 2, 1) := by decide +kernel
theorem dX5_come_214 : decode cX5_come 214 = .ok (.iadd, 1) := by decide +kernel
theorem dX5_come_215 : decode cX5_come 215 = .ok (.iaload, 1) := by decide +kernel
theorem dX5_come_216 : decode cX5_come 216 = .ok (.aload_n 0, 1) := by decide +kernel
theorem dX5_come_217 : decode cX5_come 217 = .ok (.getfield 164, 3) := by decide +kernel
theorem dX5_come_220 : decode cX5_come 220 = .ok (.iload 7, 2) := by decide +kernel
theorem dX5_come_222 : decode cX5_come 222 = .ok (.iconst 3, 1) := by decide +kernel
theorem dX5_come_223 : decode cX5_come 223 = .ok (.iadd, 1) := by decide +kernel
theorem dX5_come_224 : decode cX5_come 224 = .ok (.iaload, 1) := by decide +kernel
theorem dX5_come_225 : decode cX5_come 225 = .ok (.invokevirtual 273, 3) := by decide +kernel
theorem dX5_come_228 : decode cX5_come 228 = .ok (.iinc 6 1, 3) := by decide +kernel
theorem dX5_come_231 : decode cX5_come 231 = .ok (.goto (-69), 3) := by decide +kernel
theorem dX5_come_234 : decode cX5_come 234 = .ok (.iconst 1, 1) := by decide +kernel
theorem dX5_come_235 : decode cX5_come 235 = .ok (.ireturn, 1) := by decide +kernel
theorem dX5_lookAtPath_0 : decode cX5_lookAtPath 0 = .ok (.aload_n 0, 1) := by decide +kernel
theorem dX5_lookAtPath_1 : decode cX5_lookAtPath 1 = .ok (.getfield 151, 3) := by decide +kernel
theorem dX5_lookAtPath_4 : decode cX5_lookAtPath 4 = .ok (.iload_n 1, 1) := by decide +kernel
theorem dX5_lookAtPath_5 : decode cX5_lookAtPath 5 = .ok (.baload, 1) := by decide +kernel
theorem dX5_lookAtPath_6 : decode cX5_lookAtPath 6 = .ok (.ifCond .eq 132, 3) := by decide +kernel
theorem dX5_lookAtPath_9 : decode cX5_lookAtPath 9 = .ok (.aload_n 0, 1) := by decide +kernel
theorem dX5_lookAtPath_10 : decode cX5_lookAtPath 10 = .ok (.getfield 160, 3) := by decide +kernel
theorem dX5_lookAtPath_13 : decode cX5_lookAtPath 13 = .ok (.iload_n 1, 1) := by decide +kernel
theorem dX5_lookAtPath_14 : decode cX5_lookAtPath 14 = .ok (.baload, 1) := by decide +kernel
theorem dX5_lookAtPath_15 : decode cX5_lookAtPath 15 = .ok (.ifCond .ne 123, 3) := by decide +kernel
theorem dX5_lookAtPath_18 : decode cX5_lookAtPath 18 = .ok (.iload_n 2, 1) := by decide +kernel
theorem dX5_lookAtPath_19 : decode cX5_lookAtPath 19 = .ok (.aload_n 0, 1) := by decide +kernel
theorem dX5_lookAtPath_20 : decode cX5_lookAtPath 20 = .ok (.getfield 106, 3) := by decide +kernel
theorem dX5_lookAtPath_23 : decode cX5_lookAtPath 23 = .ok (.iconst 1, 1) := by decide +kernel
theorem dX5_lookAtPath_24 : decode cX5_lookAtPath 24 = .ok (.iaload, 1) := by decide +kernel
theorem dX5_lookAtPath_25 : decode cX5_lookAtPath 25 = .ok (.if_icmp .le 113, 3) := by decide +kernel
theorem dX5_lookAtPath_28 : decode cX5_lookAtPath 28 = .ok (.aload_n 0, 1) := by decide +kernel
theorem dX5_lookAtPath_29 : decode cX5_lookAtPath 29 = .ok (.getfield 142, 3) := by decide +kernel
theorem dX5_lookAtPath_32 : decode cX5_lookAtPath 32 = .ok (.iload_n 1, 1) := by decide +kernel
theorem dX5_lookAtPath_33 : decode cX5_lookAtPath 33 = .ok (.iaload, 1) := by decide +kernel
theorem dX5_lookAtPath_34 : decode cX5_lookAtPath 34 = .ok (.aload_n 0, 1) := by decide +kernel
theorem dX5_lookAtPath_35 : decode cX5_lookAtPath 35 = .ok (.getfield 254, 3) := by decide +kernel
theorem dX5_lookAtPath_38 : decode cX5_lookAtPath 38 = .ok (.if_icmp .eq 100, 3) := by decide +kernel
theorem dX5_lookAtPath_41 : decode cX5_lookAtPath 41 = .ok (.aload_n 0, 1) := by decide +kernel
theorem dX5_lookAtPath_42 : decode cX5_lookAtPath 42 = .ok (.aload_n 0, 1) := by decide +kernel
theorem dX5_lookAtPath_43 : decode cX5_lookAtPath 43 = .ok (.getfield 142, 3) := by decide +kernel
theorem dX5_lookAtPath_46 : decode cX5_lookAtPath 46 = .ok (.iload_n 1, 1) := by decide +kernel
theorem dX5_lookAtPath_47 : decode cX5_lookAtPath 47 = .ok (.iaload, 1) := by decide +kernel
theorem dX5_lookAtPath_48 : decode cX5_lookAtPath 48 = .ok (.putfield 254, 3) := by decide +kernel
theorem dX5_lookAtPath_51 : decode cX5_lookAtPath 51 = .ok (.aload_n 0, 1) := by decide +kernel
theorem dX5_lookAtPath_52 : decode cX5_lookAtPath 52 = .ok (.iconst 1, 1) := by decide +kernel
theorem dX5_lookAtPath_53 : decode cX5_lookAtPath 53 = .ok (.putfield 235, 3) := by decide +kernel
theorem dX5_lookAtPath_56 : decode cX5_lookAtPath 56 = .ok (.aload_n 0, 1) := by decide +kernel
theorem dX5_lookAtPath_57 : decode cX5_lookAtPath 57 = .ok (.getfield 127, 3) := by decide +kernel
theorem dX5_lookAtPath_60 : decode cX5_lookAtPath 60 = .ok (.iconst 1, 1) := by decide +kernel
theorem dX5_lookAtPath_61 : decode cX5_lookAtPath 61 = .ok (.iconst 1, 1) := by decide +kernel
theorem dX5_lookAtPath_62 : decode cX5_lookAtPath 62 = .ok (.bastore, 1) := by decide +kernel
theorem dX5_lookAtPath_63 : decode cX5_lookAtPath 63 = .ok (.aload_n 0, 1) := by decide +kernel
theorem dX5_lookAtPath_64 : decode cX5_lookAtPath 64 = .ok (.getfield 130, 3) := by decide +kernel
theorem dX5_lookAtPath_67 : decode cX5_lookAtPath 67 = .ok (.iconst 1, 1) := by decide +kernel
theorem dX5_lookAtPath_68 : decode cX5_lookAtPath 68 = .ok (.aload_n 0, 1) := by decide +kernel
theorem dX5_lookAtPath_69 : decode cX5_lookAtPath 69 = .ok (.getfield 254, 3) := by decide +kernel
theorem dX5_lookAtPath_72 : decode cX5_lookAtPath 72 = .ok (.iastore, 1) := by decide +kernel
theorem dX5_lookAtPath_73 : decode cX5_lookAtPath 73 = .ok (.aload_n 0, 1) := by decide +kernel
theorem dX5_lookAtPath_74 : decode cX5_lookAtPath 74 = .ok (.getfield 79, 3) := by decide +kernel
theorem dX5_lookAtPath_77 : decode cX5_lookAtPath 77 = .ok (.iconst 1, 1) := by decide +kernel
theorem dX5_lookAtPath_78 : decode cX5_lookAtPath 78 = .ok (.bipush 10, 2) := by decide +kernel
theorem dX5_lookAtPath_80 : decode cX5_lookAtPath 80 = .ok (.aload_n 0, 1) := by decide +kernel
theorem dX5_lookAtPath_81 : decode cX5_lookAtPath 81 = .ok (.getfield 7, 3) := by decide +kernel
theorem dX5_lookAtPath_84 : decode cX5_lookAtPath 84 = .ok (.imul, 1) := by decide +kernel
theorem dX5_lookAtPath_85 : decode cX5_lookAtPath 85 = .ok (.iastore, 1) := by decide +kernel
theorem dX5_lookAtPath_86 : decode cX5_lookAtPath 86 = .ok (.aload_n 0, 1) := by decide +kernel
theorem dX5_lookAtPath_87 : decode cX5_lookAtPath 87 = .ok (.getfield 82, 3) := by decide +kernel
theorem dX5_lookAtPath_90 : decode cX5_lookAtPath 90 = .ok (.iconst 1, 1) := by decide +kernel
theorem dX5_lookAtPath_91 : decode cX5_lookAtPath 91 = .ok (.ldc 182, 2) := by decide +kernel
theorem dX5_lookAtPath_93 : decode cX5_lookAtPath 93 = .ok (.iastore, 1) := by decide +kernel
theorem dX5_lookAtPath_94 : decode cX5_lookAtPath 94 = .ok (.aload_n 0, 1) := by decide +kernel
theorem dX5_lookAtPath_95 : decode cX5_lookAtPath 95 = .ok (.getfield 85, 3) := by decide +kernel
theorem dX5_lookAtPath_98 : decode cX5_lookAtPath 98 = .ok (.iconst 1, 1) := by decide +kernel
theorem dX5_lookAtPath_99 : decode cX5_lookAtPath 99 = .ok (.aload_n 0, 1) := by decide +kernel
theorem dX5_lookAtPath_100 : decode cX5_lookAtPath 100 = .ok (.getfield 251, 3) := by decide +kernel
theorem dX5_lookAtPath_103 : decode cX5_lookAtPath 103 = .ok (.iastore, 1) := by decide +kernel
theorem dX5_lookAtPath_104 : decode cX5_lookAtPath 104 = .ok (.aload_n 0, 1) := by decide +kernel
theorem dX5_lookAtPath_105 : decode cX5_lookAtPath 105 = .ok (.getfield 88, 3) := by decide +kernel
theorem dX5_lookAtPath_108 : decode cX5_lookAtPath 108 = .ok (.iconst 1, 1) := by decide +kernel
theorem dX5_lookAtPath_109 : decode cX5_lookAtPath 109 = .ok (.bipush (-6), 2) := by decide +kernel
theorem dX5_lookAtPath_111 : decode cX5_lookAtPath 111 = .ok (.iastore, 1) := by decide +kernel
theorem dX5_lookAtPath_112 : decode cX5_lookAtPath 112 = .ok (.aload_n 0, 1) := by decide +kernel
theorem dX5_lookAtPath_113 : decode cX5_lookAtPath 113 = .ok (.getfield 91, 3) := by decide +kernel
theorem dX5_lookAtPath_116 : decode cX5_lookAtPath 116 = .ok (.iconst 1, 1) := by decide +kernel
theorem dX5_lookAtPath_117 : decode cX5_lookAtPath 117 = .ok (.bipush (-6), 2) := by decide +kernel
theorem dX5_lookAtPath_119 : decode cX5_lookAtPath 119 = .ok (.iastore, 1) := by decide +kernel
theorem dX5_lookAtPath_120 : decode cX5_lookAtPath 120 = .ok (.aload_n 0, 1) := by decide +kernel
theorem dX5_lookAtPath_121 : decode cX5_lookAtPath 121 = .ok (.getfield 94, 3) := by decide +kernel
theorem dX5_lookAtPath_124 : decode cX5_lookAtPath 124 = .ok (.iconst 1, 1) := by decide +kernel
theorem dX5_lookAtPath_125 : decode cX5_lookAtPath 125 = .ok (.bipush (-6), 2) := by decide +kernel
theorem dX5_lookAtPath_127 : decode cX5_lookAtPath 127 = .ok (.iastore, 1) := by decide +kernel
theorem dX5_lookAtPath_128 : decode cX5_lookAtPath 128 = .ok (.aload_n 0, 1) := by decide +kernel
theorem dX5_lookAtPath_129 : decode cX5_lookAtPath 129 = .ok (.iconst 0, 1) := by decide +kernel
theorem dX5_lookAtPath_130 : decode cX5_lookAtPath 130 = .ok (.putfield 241, 3) := by decide +kernel
theorem dX5_lookAtPath_133 : decode cX5_lookAtPath 133 = .ok (.aload_n 0, 1) := by decide +kernel
theorem dX5_lookAtPath_134 : decode cX5_lookAtPath 134 = .ok (.iconst 0, 1) := by decide +kernel
theorem dX5_lookAtPath_135 : decode cX5_lookAtPath 135 = .ok (.putfield 238, 3) := by decide +kernel
theorem dX5_lookAtPath_138 : decode cX5_lookAtPath 138 = .ok (.aload_n 0, 1) := by decide +kernel
theorem dX5_lookAtPath_139 : decode cX5_lookAtPath 139 = .ok (.dup, 1) := by decide +kernel
theorem dX5_lookAtPath_140 : decode cX5_lookAtPath 140 = .ok (.getfield 241, 3) := by decide +kernel
theorem dX5_lookAtPath_143 : decode cX5_lookAtPath 143 = .ok (.aload_n 0, 1) := by decide +kernel
theorem dX5_lookAtPath_144 : decode cX5_lookAtPath 144 = .ok (.getfield 235, 3) := by decide +kernel
theorem dX5_lookAtPath_147 : decode cX5_lookAtPath 147 = .ok (.ifCond .eq 34, 3) := by decide +kernel
theorem dX5_lookAtPath_150 : decode cX5_lookAtPath 150 = .ok (.aload_n 0, 1) := by decide +kernel
theorem dX5_lookAtPath_151 : decode cX5_lookAtPath 151 = .ok (.getfield 160, 3) := by decide +kernel
theorem dX5_lookAtPath_154 : decode cX5_lookAtPath 154 = .ok (.iload_n 1, 1) := by decide +kernel
theorem dX5_lookAtPath_155 : decode cX5_lookAtPath 155 = .ok (.baload, 1) := by decide +kernel
theorem dX5_lookAtPath_156 : decode cX5_lookAtPath 156 = .ok (.ifCond .ne 25, 3) := by decide +kernel
theorem dX5_lookAtPath_159 : decode cX5_lookAtPath 159 = .ok (.aload_n 0, 1) := by decide +kernel
theorem dX5_lookAtPath_160 : decode cX5_lookAtPath 160 = .ok (.getfield 142, 3) := by decide +kernel
theorem dX5_lookAtPath_163 : decode cX5_lookAtPath 163 = .ok (.iload_n 1, 1) := by decide +kernel
theorem dX5_lookAtPath_164 : decode cX5_lookAtPath 164 = .ok (.iaload, 1) := by decide +kernel
theorem dX5_lookAtPath_165 : decode cX5_lookAtPath 165 = .ok (.aload_n 0, 1) := by decide +kernel
theorem dX5_lookAtPath_166 : decode cX5_lookAtPath 166 = .ok (.getfield 254, 3) := by decide +kernel
theorem dX5_lookAtPath_169 : decode cX5_lookAtPath 169 = .ok (.if_icmp .ne 12, 3) := by decide +kernel
theorem dX5_lookAtPath_172 : decode cX5_lookAtPath 172 = .ok (.aload_n 0, 1) := by decide +kernel
theorem dX5_lookAtPath_173 : decode cX5_lookAtPath 173 = .ok (.getfield 145, 3) := by decide +kernel
theorem dX5_lookAtPath_176 : decode cX5_lookAtPath 176 = .ok (.iload_n 1, 1) := by decide +kernel
theorem dX5_lookAtPath_177 : decode cX5_lookAtPath 177 = .ok (.iaload, 1) := by decide +kernel
theorem dX5_lookAtPath_178 : decode cX5_lookAtPath 178 = .ok (.goto 4, 3) := by decide +kernel
theorem dX5_lookAtPath_181 : decode cX5_lookAtPath 181 = .ok (.iconst 0, 1) := by decide +kernel
theorem dX5_lookAtPath_182 : decode cX5_lookAtPath 182 = .ok (.iadd, 1) := by decide +kernel
theorem dX5_lookAtPath_183 : decode cX5_lookAtPath 183 = .ok (.putfield 241, 3) := by decide +kernel
theorem dX5_lookAtPath_186 : decode cX5_lookAtPath 186 = .ok (.return_, 1) := by decide +kernel
theorem dX5_partComes_0 : decode cX5_partComes 0 = .ok (.iload_n 3, 1) := by decide +kernel
theorem dX5_partComes_1 : decode cX5_partComes 1 = .ok (.tableswitch 210 1 7 #[43, 54, 88, 119, 149, 160, 178], 43) := by decide +kernel
theorem dX5_partComes_44 : decode cX5_partComes 44 = .ok (.aload_n 0, 1) := by decide +kernel
theorem dX5_partComes_45 : decode cX5_partComes 45 = .ok (.iload_n 1, 1) := by decide +kernel
theorem dX5_partComes_46 : decode cX5_partComes 46 = .ok (.iload_n 2, 1) := by decide +kernel
theorem dX5_partComes_47 : decode cX5_partComes 47 = .ok (.iload 6, 2) := by decide +kernel
theorem dX5_partComes_49 : decode cX5_partComes 49 = .ok (.invokevirtual 277, 3) := by decide +kernel
theorem dX5_partComes_52 : decode cX5_partComes 52 = .ok (.goto 159, 3) := by decide +kernel
theorem dX5_partComes_55 : decode cX5_partComes 55 = .ok (.aload_n 0, 1) := by decide +kernel
theorem dX5_partComes_56 : decode cX5_partComes 56 = .ok (.getfield 45, 3) := by decide +kernel
theorem dX5_partComes_59 : decode cX5_partComes 59 = .ok (.iload 4, 2) := by decide +kernel
theorem dX5_partComes_61 : decode cX5_partComes 61 = .ok (.iload 5, 2) := by decide +kernel
theorem dX5_partComes_63 : decode cX5_partComes 63 = .ok (.aload_n 0, 1) := by decide +kernel
theorem dX5_partComes_64 : decode cX5_partComes 64 = .ok (.getfield 45, 3) := by decide +kernel
theorem dX5_partComes_67 : decode cX5_partComes 67 = .ok (.iload 4, 2) := by decide +kernel
theorem dX5_partComes_69 : decode cX5_partComes 69 = .ok (.iaload, 1) := by decide +kernel
theorem dX5_partComes_70 : decode cX5_partComes 70 = .ok (.if_icmp .le 8, 3) := by decide +kernel
theorem dX5_partComes_73 : decode cX5_partComes 73 = .ok (.iload 5, 2) := by decide +kernel
theorem dX5_partComes_75 : decode cX5_partComes 75 = .ok (.goto 10, 3) := by decide +kernel
theorem dX5_partComes_78 : decode cX5_partComes 78 = .ok (.aload_n 0, 1) := by decide +kernel
theorem dX5_partComes_79 : decode cX5_partComes 79 = .ok (.getfield 45, 3) := by decide +kernel
theorem dX5_partComes_82 : decode cX5_partComes 82 = .ok (.iload 4, 2) := by decide +kernel
theorem dX5_partComes_84 : decode cX5_partComes 84 = .ok (.iaload, 1) := by decide +kernel
theorem dX5_partComes_85 : decode cX5_partComes 85 = .ok (.iastore, 1) := by decide +kernel
theorem dX5_partComes_86 : decode cX5_partComes 86 = .ok (.goto 125, 3) := by decide +kernel
theorem dX5_partComes_89 : decode cX5_partComes 89 = .ok (.aload_n 0, 1) := by decide +kernel
theorem dX5_partComes_90 : decode cX5_partComes 90 = .ok (.getfield 112, 3) := by decide +kernel
theorem dX5_partComes_93 : decode cX5_partComes 93 = .ok (.iload_n 1, 1) := by decide +kernel
theorem dX5_partComes_94 : decode cX5_partComes 94 = .ok (.iload 5, 2) := by decide +kernel
theorem dX5_partComes_96 : decode cX5_partComes 96 = .ok (.aload_n 0, 1) := by decide +kernel
theorem dX5_partComes_97 : decode cX5_partComes 97 = .ok (.getfield 112, 3) := by decide +kernel
theorem dX5_partComes_100 : decode cX5_partComes 100 = .ok (.iload_n 1, 1) := by decide +kernel
theorem dX5_partComes_101 : decode cX5_partComes 101 = .ok (.iaload, 1) := by decide +kernel
theorem dX5_partComes_102 : decode cX5_partComes 102 = .ok (.if_icmp .le 8, 3) := by decide +kernel
theorem dX5_partComes_105 : decode cX5_partComes 105 = .ok (.iload 5, 2) := by decide +kernel
theorem dX5_partComes_107 : decode cX5_partComes 107 = .ok (.goto 9, 3) := by decide +kernel
theorem dX5_partComes_110 : decode cX5_partComes 110 = .ok (.aload_n 0, 1) := by decide +kernel
theorem dX5_partComes_111 : decode cX5_partComes 111 = .ok (.getfield 112, 3) := by decide +kernel
theorem dX5_partComes_114 : decode cX5_partComes 114 = .ok (.iload_n 1, 1) := by decide +kernel
theorem dX5_partComes_115 : decode cX5_partComes 115 = .ok (.iaload, 1) := by decide +kernel
theorem dX5_partComes_116 : decode cX5_partComes 116 = .ok (.iastore, 1) := by decide +kernel
theorem dX5_partComes_117 : decode cX5_partComes 117 = .ok (.goto 94, 3) := by decide +kernel
theorem dX5_partComes_120 : decode cX5_partComes 120 = .ok (.aload_n 0, 1) := by decide +kernel
theorem dX5_partComes_121 : decode cX5_partComes 121 = .ok (.iload 4, 2) := by decide +kernel
theorem dX5_partComes_123 : decode cX5_partComes 123 = .ok (.iload 5, 2) := by decide +kernel
theorem dX5_partComes_125 : decode cX5_partComes 125 = .ok (.iload 6, 2) := by decide +kernel
theorem dX5_partComes_127 : decode cX5_partComes 127 = .ok (.sipush 10000, 3) := by decide +kernel
theorem dX5_partComes_130 : decode cX5_partComes 130 = .ok (.irem, 1) := by decide +kernel
theorem dX5_partComes_131 : decode cX5_partComes 131 = .ok (.iload 6, 2) := by decide +kernel
theorem dX5_partComes_133 : decode cX5_partComes 133 = .ok (.sipush 10000, 3) := by decide +kernel
theorem dX5_partComes_136 : decode cX5_partComes 136 = .ok (.if_icmp .lt 7, 3) := by decide +kernel
theorem dX5_partComes_139 : decode cX5_partComes 139 = .ok (.iconst 1, 1) := by decide +kernel
theorem dX5_partComes_140 : decode cX5_partComes 140 = .ok (.goto 4, 3) := by decide +kernel
theorem dX5_partComes_143 : decode cX5_partComes 143 = .ok (.iconst 0, 1) := by decide +kernel
theorem dX5_partComes_144 : decode cX5_partComes 144 = .ok (.invokevirtual 281, 3) := by decide +kernel
theorem dX5_partComes_147 : decode cX5_partComes 147 = .ok (.goto 64, 3) := by decide +kernel
theorem dX5_partComes_150 : decode cX5_partComes 150 = .ok (.aload_n 0, 1) := by decide +kernel
theorem dX5_partComes_151 : decode cX5_partComes 151 = .ok (.getfield 70, 3) := by decide +kernel
theorem dX5_partComes_154 : decode cX5_partComes 154 = .ok (.iload 4, 2) := by decide +kernel
theorem dX5_partComes_156 : decode cX5_partComes 156 = .ok (.iconst 1, 1) := by decide +kernel
theorem dX5_partComes_157 : decode cX5_partComes 157 = .ok (.bastore, 1) := by decide +kernel
theorem dX5_partComes_158 : decode cX5_partComes 158 = .ok (.goto 53, 3) := by decide +kernel
theorem dX5_partComes_161 : decode cX5_partComes 161 = .ok (.aload_n 0, 1) := by decide +kernel
theorem dX5_partComes_162 : decode cX5_partComes 162 = .ok (.getfield 133, 3) := by decide +kernel
theorem dX5_partComes_165 : decode cX5_partComes 165 = .ok (.iload_n 1, 1) := by decide +kernel
theorem dX5_partComes_166 : decode cX5_partComes 166 = .ok (.iconst 1, 1) := by decide +kernel
theorem dX5_partComes_167 : decode cX5_partComes 167 = .ok (.bastore, 1) := by decide +kernel
theorem dX5_partComes_168 : decode cX5_partComes 168 = .ok (.aload_n 0, 1) := by decide +kernel
theorem dX5_partComes_169 : decode cX5_partComes 169 = .ok (.getfield 136, 3) := by decide +kernel
theorem dX5_partComes_172 : decode cX5_partComes 172 = .ok (.iload_n 1, 1) := by decide +kernel
theorem dX5_partComes_173 : decode cX5_partComes 173 = .ok (.iload 5, 2) := by decide +kernel
theorem dX5_partComes_175 : decode cX5_partComes 175 = .ok (.iastore, 1) := by decide +kernel
theorem dX5_partComes_176 : decode cX5_partComes 176 = .ok (.goto 35, 3) := by decide +kernel
theorem dX5_partComes_179 : decode cX5_partComes 179 = .ok (.aload_n 0, 1) := by decide +kernel
theorem dX5_partComes_180 : decode cX5_partComes 180 = .ok (.aload_n 0, 1) := by decide +kernel
theorem dX5_partComes_181 : decode cX5_partComes 181 = .ok (.getfield 235, 3) := by decide +kernel
theorem dX5_partComes_184 : decode cX5_partComes 184 = .ok (.ifCond .eq 20, 3) := by decide +kernel
theorem dX5_partComes_187 : decode cX5_partComes 187 = .ok (.iload_n 1, 1) := by decide +kernel
theorem dX5_partComes_188 : decode cX5_partComes 188 = .ok (.ifCond .eq 12, 3) := by decide +kernel
theorem dX5_partComes_191 : decode cX5_partComes 191 = .ok (.iload 5, 2) := by decide +kernel
theorem dX5_partComes_193 : decode cX5_partComes 193 = .ok (.aload_n 0, 1) := by decide +kernel
theorem dX5_partComes_194 : decode cX5_partComes 194 = .ok (.getfield 254, 3) := by decide +kernel
theorem dX5_partComes_197 : decode cX5_partComes 197 = .ok (.if_icmp .eq 7, 3) := by decide +kernel
theorem dX5_partComes_200 : decode cX5_partComes 200 = .ok (.iconst 1, 1) := by decide +kernel
theorem dX5_partComes_201 : decode cX5_partComes 201 = .ok (.goto 4, 3) := by decide +kernel
theorem dX5_partComes_204 : decode cX5_partComes 204 = .ok (.iconst 0, 1) := by decide +kernel
theorem dX5_partComes_205 : decode cX5_partComes 205 = .ok (.putfield 235, 3) := by decide +kernel
theorem dX5_partComes_208 : decode cX5_partComes 208 = .ok (.goto 3, 3) := by decide +kernel
theorem dX5_partComes_211 : decode cX5_partComes 211 = .ok (.return_, 1) := by decide +kernel
theorem dX5_bytesCome_0 : decode cX5_bytesCome 0 = .ok (.iconst 0, 1) := by decide +kernel
theorem dX5_bytesCome_1 : decode cX5_bytesCome 1 = .ok (.istore 5, 2) := by decide +kernel
theorem dX5_bytesCome_3 : decode cX5_bytesCome 3 = .ok (.iload 5, 2) := by decide +kernel
theorem dX5_bytesCome_5 : decode cX5_bytesCome 5 = .ok (.iload_n 3, 1) := by decide +kernel
theorem dX5_bytesCome_6 : decode cX5_bytesCome 6 = .ok (.if_icmp .ge 25, 3) := by decide +kernel
theorem dX5_bytesCome_9 : decode cX5_bytesCome 9 = .ok (.aload_n 0, 1) := by decide +kernel
theorem dX5_bytesCome_10 : decode cX5_bytesCome 10 = .ok (.getfield 52, 3) := by decide +kernel
theorem dX5_bytesCome_13 : decode cX5_bytesCome 13 = .ok (.sipush 1000, 3) := by decide +kernel
theorem dX5_bytesCome_16 : decode cX5_bytesCome 16 = .ok (.iload_n 1, 1) := by decide +kernel
theorem dX5_bytesCome_17 : decode cX5_bytesCome 17 = .ok (.imul, 1) := by decide +kernel
theorem dX5_bytesCome_18 : decode cX5_bytesCome 18 = .ok (.iload_n 2, 1) := by decide +kernel
theorem dX5_bytesCome_19 : decode cX5_bytesCome 19 = .ok (.iadd, 1) := by decide +kernel
theorem dX5_bytesCome_20 : decode cX5_bytesCome 20 = .ok (.iload 5, 2) := by decide +kernel
theorem dX5_bytesCome_22 : decode cX5_bytesCome 22 = .ok (.iadd, 1) := by decide +kernel
theorem dX5_bytesCome_23 : decode cX5_bytesCome 23 = .ok (.iconst 1, 1) := by decide +kernel
theorem dX5_bytesCome_24 : decode cX5_bytesCome 24 = .ok (.bastore, 1) := by decide +kernel
theorem dX5_bytesCome_25 : decode cX5_bytesCome 25 = .ok (.iinc 5 1, 3) := by decide +kernel
theorem dX5_bytesCome_28 : decode cX5_bytesCome 28 = .ok (.goto (-25), 3) := by decide +kernel
theorem dX5_bytesCome_31 : decode cX5_bytesCome 31 = .ok (.aload_n 0, 1) := by decide +kernel
theorem dX5_bytesCome_32 : decode cX5_bytesCome 32 = .ok (.getfield 55, 3) := by decide +kernel
theorem dX5_bytesCome_35 : decode cX5_bytesCome 35 = .ok (.iload_n 1, 1) := by decide +kernel
theorem dX5_bytesCome_36 : decode cX5_bytesCome 36 = .ok (.iaload, 1) := by decide +kernel
theorem dX5_bytesCome_37 : decode cX5_bytesCome 37 = .ok (.sipush 1000, 3) := by decide +kernel
theorem dX5_bytesCome_40 : decode cX5_bytesCome 40 = .ok (.if_icmp .ge 36, 3) := by decide +kernel
theorem dX5_bytesCome_43 : decode cX5_bytesCome 43 = .ok (.aload_n 0, 1) := by decide +kernel
theorem dX5_bytesCome_44 : decode cX5_bytesCome 44 = .ok (.getfield 52, 3) := by decide +kernel
theorem dX5_bytesCome_47 : decode cX5_bytesCome 47 = .ok (.sipush 1000, 3) := by decide +kernel
theorem dX5_bytesCome_50 : decode cX5_bytesCome 50 = .ok (.iload_n 1, 1) := by decide +kernel
theorem dX5_bytesCome_51 : decode cX5_bytesCome 51 = .ok (.imul, 1) := by decide +kernel
theorem dX5_bytesCome_52 : decode cX5_bytesCome 52 = .ok (.aload_n 0, 1) := by decide +kernel
theorem dX5_bytesCome_53 : decode cX5_bytesCome 53 = .ok (.getfield 55, 3) := by decide +kernel
theorem dX5_bytesCome_56 : decode cX5_bytesCome 56 = .ok (.iload_n 1, 1) := by decide +kernel
theorem dX5_bytesCome_57 : decode cX5_bytesCome 57 = .ok (.iaload, 1) := by decide +kernel
theorem dX5_bytesCome_58 : decode cX5_bytesCome 58 = .ok (.iadd, 1) := by decide +kernel
theorem dX5_bytesCome_59 : decode cX5_bytesCome 59 = .ok (.baload, 1) := by decide +kernel
theorem dX5_bytesCome_60 : decode cX5_bytesCome 60 = .ok (.ifCond .eq 16, 3) := by decide +kernel
theorem dX5_bytesCome_63 : decode cX5_bytesCome 63 = .ok (.aload_n 0, 1) := by decide +kernel
theorem dX5_bytesCome_64 : decode cX5_bytesCome 64 = .ok (.getfield 55, 3) := by decide +kernel
theorem dX5_bytesCome_67 : decode cX5_bytesCome 67 = .ok (.iload_n 1, 1) := by decide +kernel
theorem dX5_bytesCome_68 : decode cX5_bytesCome 68 = .ok (.dup2, 1) := by decide +kernel
theorem dX5_bytesCome_69 : decode cX5_bytesCome 69 = .ok (.iaload, 1) := by decide +kernel
theorem dX5_bytesCome_70 : decode cX5_bytesCome 70 = .ok (.iconst 1, 1) := by decide +kernel
theorem dX5_bytesCome_71 : decode cX5_bytesCome 71 = .ok (.iadd, 1) := by decide +kernel
theorem dX5_bytesCome_72 : decode cX5_bytesCome 72 = .ok (.iastore, 1) := by decide +kernel
theorem dX5_bytesCome_73 : decode cX5_bytesCome 73 = .ok (.goto (-42), 3) := by decide +kernel
theorem dX5_bytesCome_76 : decode cX5_bytesCome 76 = .ok (.aload_n 0, 1) := by decide +kernel
theorem dX5_bytesCome_77 : decode cX5_bytesCome 77 = .ok (.getfield 67, 3) := by decide +kernel
theorem dX5_bytesCome_80 : decode cX5_bytesCome 80 = .ok (.iload_n 1, 1) := by decide +kernel
theorem dX5_bytesCome_81 : decode cX5_bytesCome 81 = .ok (.iload 4, 2) := by decide +kernel
theorem dX5_bytesCome_83 : decode cX5_bytesCome 83 = .ok (.ifCond .eq 9, 3) := by decide +kernel
theorem dX5_bytesCome_86 : decode cX5_bytesCome 86 = .ok (.iload_n 2, 1) := by decide +kernel
theorem dX5_bytesCome_87 : decode cX5_bytesCome 87 = .ok (.iload_n 3, 1) := by decide +kernel
theorem dX5_bytesCome_88 : decode cX5_bytesCome 88 = .ok (.iadd, 1) := by decide +kernel
theorem dX5_bytesCome_89 : decode cX5_bytesCome 89 = .ok (.goto 9, 3) := by decide +kernel
theorem dX5_bytesCome_92 : decode cX5_bytesCome 92 = .ok (.aload_n 0, 1) := by decide +kernel
theorem dX5_bytesCome_93 : decode cX5_bytesCome 93 = .ok (.getfield 67, 3) := by decide +kernel
theorem dX5_bytesCome_96 : decode cX5_bytesCome 96 = .ok (.iload_n 1, 1) := by decide +kernel
theorem dX5_bytesCome_97 : decode cX5_bytesCome 97 = .ok (.iaload, 1) := by decide +kernel
theorem dX5_bytesCome_98 : decode cX5_bytesCome 98 = .ok (.iastore, 1) := by decide +kernel
theorem dX5_bytesCome_99 : decode cX5_bytesCome 99 = .ok (.return_, 1) := by decide +kernel
theorem dX5_toldComes_0 : decode cX5_toldComes 0 = .ok (.iconst 0, 1) := by decide +kernel
theorem dX5_toldComes_1 : decode cX5_toldComes 1 = .ok (.istore 4, 2) := by decide +kernel
theorem dX5_toldComes_3 : decode cX5_toldComes 3 = .ok (.iload 4, 2) := by decide +kernel
theorem dX5_toldComes_5 : decode cX5_toldComes 5 = .ok (.sipush 300, 3) := by decide +kernel
theorem dX5_toldComes_8 : decode cX5_toldComes 8 = .ok (.if_icmp .ge 17, 3) := by decide +kernel
theorem dX5_toldComes_11 : decode cX5_toldComes 11 = .ok (.aload_n 0, 1) := by decide +kernel
theorem dX5_toldComes_12 : decode cX5_toldComes 12 = .ok (.getfield 176, 3) := by decide +kernel
theorem dX5_toldComes_15 : decode cX5_toldComes 15 = .ok (.iload 4, 2) := by decide +kernel
theorem dX5_toldComes_17 : decode cX5_toldComes 17 = .ok (.iconst 0, 1) := by decide +kernel
theorem dX5_toldComes_18 : decode cX5_toldComes 18 = .ok (.bastore, 1) := by decide +kernel
theorem dX5_toldComes_19 : decode cX5_toldComes 19 = .ok (.iinc 4 1, 3) := by decide +kernel
theorem dX5_toldComes_22 : decode cX5_toldComes 22 = .ok (.goto (-19), 3) := by decide +kernel
theorem dX5_toldComes_25 : decode cX5_toldComes 25 = .ok (.iconst 0, 1) := by decide +kernel
theorem dX5_toldComes_26 : decode cX5_toldComes 26 = .ok (.istore 4, 2) := by decide +kernel
theorem dX5_toldComes_28 : decode cX5_toldComes 28 = .ok (.iload 4, 2) := by decide +kernel
theorem dX5_toldComes_30 : decode cX5_toldComes 30 = .ok (.iload_n 3, 1) := by decide +kernel
theorem dX5_toldComes_31 : decode cX5_toldComes 31 = .ok (.if_icmp .ge 79, 3) := by decide +kernel
theorem dX5_toldComes_34 : decode cX5_toldComes 34 = .ok (.aload_n 0, 1) := by decide +kernel
theorem dX5_toldComes_35 : decode cX5_toldComes 35 = .ok (.getfield 167, 3) := by decide +kernel
theorem dX5_toldComes_38 : decode cX5_toldComes 38 = .ok (.bipush 8, 2) := by decide +kernel
theorem dX5_toldComes_40 : decode cX5_toldComes 40 = .ok (.iload_n 2, 1) := by decide +kernel
theorem dX5_toldComes_41 : decode cX5_toldComes 41 = .ok (.imul, 1) := by decide +kernel
theorem dX5_toldComes_42 : decode cX5_toldComes 42 = .ok (.iconst 2, 1) := by decide +kernel
theorem dX5_toldComes_43 : decode cX5_toldComes 43 = .ok (.iload 4, 2) := by decide +kernel
theorem dX5_toldComes_45 : decode cX5_toldComes 45 = .ok (.imul, 1) := by decide +kernel
theorem dX5_toldComes_46 : decode cX5_toldComes 46 = .ok (.iadd, 1) := by decide +kernel
theorem dX5_toldComes_47 : decode cX5_toldComes 47 = .ok (.iaload, 1) := by decide +kernel
theorem dX5_toldComes_48 : decode cX5_toldComes 48 = .ok (.istore 5, 2) := by decide +kernel
theorem dX5_toldComes_50 : decode cX5_toldComes 50 = .ok (.iload 5, 2) := by decide +kernel
theorem dX5_toldComes_52 : decode cX5_toldComes 52 = .ok (.aload_n 0, 1) := by decide +kernel
theorem dX5_toldComes_53 : decode cX5_toldComes 53 = .ok (.getfield 167, 3) := by decide +kernel
theorem dX5_toldComes_56 : decode cX5_toldComes 56 = .ok (.bipush 8, 2) := by decide +kernel
theorem dX5_toldComes_58 : decode cX5_toldComes 58 = .ok (.iload_n 2, 1) := by decide +kernel
theorem dX5_toldComes_59 : decode cX5_toldComes 59 = .ok (.imul, 1) := by decide +kernel
theorem dX5_toldComes_60 : decode cX5_toldComes 60 = .ok (.iconst 2, 1) := by decide +kernel
theorem dX5_toldComes_61 : decode cX5_toldComes 61 = .ok (.iload 4, 2) := by decide +kernel
theorem dX5_toldComes_63 : decode cX5_toldComes 63 = .ok (.imul, 1) := by decide +kernel
theorem dX5_toldComes_64 : decode cX5_toldComes 64 = .ok (.iadd, 1) := by decide +kernel
theorem dX5_toldComes_65 : decode cX5_toldComes 65 = .ok (.iconst 1, 1) := by decide +kernel
theorem dX5_toldComes_66 : decode cX5_toldComes 66 = .ok (.iadd, 1) := by decide +kernel
theorem dX5_toldComes_67 : decode cX5_toldComes 67 = .ok (.iaload, 1) := by decide +kernel
theorem dX5_toldComes_68 : decode cX5_toldComes 68 = .ok (.if_icmp .gt 36, 3) := by decide +kernel
theorem dX5_toldComes_71 : decode cX5_toldComes 71 = .ok (.aload_n 0, 1) := by decide +kernel
theorem dX5_toldComes_72 : decode cX5_toldComes 72 = .ok (.getfield 176, 3) := by decide +kernel
theorem dX5_toldComes_75 : decode cX5_toldComes 75 = .ok (.iload 5, 2) := by decide +kernel
theorem dX5_toldComes_77 : decode cX5_toldComes 77 = .ok (.aload_n 0, 1) := by decide +kernel
theorem dX5_toldComes_78 : decode cX5_toldComes 78 = .ok (.getfield 154, 3) := by decide +kernel
theorem dX5_toldComes_81 : decode cX5_toldComes 81 = .ok (.aload_n 0, 1) := by decide +kernel
theorem dX5_toldComes_82 : decode cX5_toldComes 82 = .ok (.iload_n 1, 1) := by decide +kernel
theorem dX5_toldComes_83 : decode cX5_toldComes 83 = .ok (.iload 5, 2) := by decide +kernel
theorem dX5_toldComes_85 : decode cX5_toldComes 85 = .ok (.invokevirtual 215, 3) := by decide +kernel
theorem dX5_toldComes_88 : decode cX5_toldComes 88 = .ok (.baload, 1) := by decide +kernel
theorem dX5_toldComes_89 : decode cX5_toldComes 89 = .ok (.ifCond .ne 7, 3) := by decide +kernel
theorem dX5_toldComes_92 : decode cX5_toldComes 92 = .ok (.iconst 1, 1) := by decide +kernel
theorem dX5_toldComes_93 : decode cX5_toldComes 93 = .ok (.goto 4, 3) := by decide +kernel
theorem dX5_toldComes_96 : decode cX5_toldComes 96 = .ok (.iconst 0, 1) := by decide +kernel
theorem dX5_toldComes_97 : decode cX5_toldComes 97 = .ok (.bastore, 1) := by decide +kernel
theorem dX5_toldComes_98 : decode cX5_toldComes 98 = .ok (.iinc 5 1, 3) := by decide +kernel
theorem dX5_toldComes_101 : decode cX5_toldComes 101 = .ok (.goto (-51), 3) := by decide +kernel
theorem dX5_toldComes_104 : decode cX5_toldComes 104 = .ok (.iinc 4 1, 3) := by decide +kernel
theorem dX5_toldComes_107 : decode cX5_toldComes 107 = .ok (.goto (-79), 3) := by decide +kernel
theorem dX5_toldComes_110 : decode cX5_toldComes 110 = .ok (.iconst 0, 1) := by decide +kernel
theorem dX5_toldComes_111 : decode cX5_toldComes 111 = .ok (.istore 4, 2) := by decide +kernel
theorem dX5_toldComes_113 : decode cX5_toldComes 113 = .ok (.aload_n 0, 1) := by decide +kernel
theorem dX5_toldComes_114 : decode cX5_toldComes 114 = .ok (.getfield 167, 3) := by decide +kernel
theorem dX5_toldComes_117 : decode cX5_toldComes 117 = .ok (.bipush 8, 2) := by decide +kernel
theorem dX5_toldComes_119 : decode cX5_toldComes 119 = .ok (.iload_n 2, 1) := by decide +kernel
theorem dX5_toldComes_120 : decode cX5_toldComes 120 = .ok (.imul, 1) := by decide +kernel
theorem dX5_toldComes_121 : decode cX5_toldComes 121 = .ok (.iconst 1, 1) := by decide +kernel
theorem dX5_toldComes_122 : decode cX5_toldComes 122 = .ok (.iadd, 1) := by decide +kernel
theorem dX5_toldComes_123 : decode cX5_toldComes 123 = .ok (.iaload, 1) := by decide +kernel
theorem dX5_toldComes_124 : decode cX5_toldComes 124 = .ok (.istore 5, 2) := by decide +kernel
theorem dX5_toldComes_126 : decode cX5_toldComes 126 = .ok (.iconst 0, 1) := by decide +kernel
theorem dX5_toldComes_127 : decode cX5_toldComes 127 = .ok (.istore 6, 2) := by decide +kernel
theorem dX5_toldComes_129 : decode cX5_toldComes 129 = .ok (.iload 6, 2) := by decide +kernel
theorem dX5_toldComes_131 : decode cX5_toldComes 131 = .ok (.aload_n 0, 1) := by decide +kernel
theorem dX5_toldComes_132 : decode cX5_toldComes 132 = .ok (.getfield 73, 3) := by decide +kernel
theorem dX5_toldComes_135 : decode cX5_toldComes 135 = .ok (.iload_n 1, 1) := by decide +kernel
theorem dX5_toldComes_136 : decode cX5_toldComes 136 = .ok (.iaload, 1) := by decide +kernel
theorem dX5_toldComes_137 : decode cX5_toldComes 137 = .ok (.if_icmp .ge 104, 3) := by decide +kernel
theorem dX5_toldComes_140 : decode cX5_toldComes 140 = .ok (.aload_n 0, 1) := by decide +kernel
theorem dX5_toldComes_141 : decode cX5_toldComes 141 = .ok (.getfield 176, 3) := by decide +kernel
theorem dX5_toldComes_144 : decode cX5_toldComes 144 = .ok (.iload 6, 2) := by decide +kernel
theorem dX5_toldComes_146 : decode cX5_toldComes 146 = .ok (.baload, 1) := by decide +kernel
theorem dX5_toldComes_147 : decode cX5_toldComes 147 = .ok (.ifCond .eq 88, 3) := by decide +kernel
theorem dX5_toldComes_150 : decode cX5_toldComes 150 = .ok (.aload_n 0, 1) := by decide +kernel
theorem dX5_toldComes_151 : decode cX5_toldComes 151 = .ok (.iload_n 1, 1) := by decide +kernel
theorem dX5_toldComes_152 : decode cX5_toldComes 152 = .ok (.iload 6, 2) := by decide +kernel
theorem dX5_toldComes_154 : decode cX5_toldComes 154 = .ok (.invokevirtual 215, 3) := by decide +kernel
theorem dX5_toldComes_157 : decode cX5_toldComes 157 = .ok (.istore 7, 2) := by decide +kernel
theorem dX5_toldComes_159 : decode cX5_toldComes 159 = .ok (.aload_n 0, 1) := by decide +kernel
theorem dX5_toldComes_160 : decode cX5_toldComes 160 = .ok (.getfield 154, 3) := by decide +kernel
theorem dX5_toldComes_163 : decode cX5_toldComes 163 = .ok (.iload 7, 2) := by decide +kernel
theorem dX5_toldComes_165 : decode cX5_toldComes 165 = .ok (.iconst 1, 1) := by decide +kernel
theorem dX5_toldComes_166 : decode cX5_toldComes 166 = .ok (.bastore, 1) := by decide +kernel
theorem dX5_toldComes_167 : decode cX5_toldComes 167 = .ok (.aload_n 0, 1) := by decide +kernel
theorem dX5_toldComes_168 : decode cX5_toldComes 168 = .ok (.iload 7, 2) := by decide +kernel
theorem dX5_toldComes_170 : decode cX5_toldComes 170 = .ok (.invokevirtual 285, 3) := by decide +kernel
theorem dX5_toldComes_173 : decode cX5_toldComes 173 = .ok (.iload 4, 2) := by decide +kernel
theorem dX5_toldComes_175 : decode cX5_toldComes 175 = .ok (.ifCond .ne 13, 3) := by decide +kernel
theorem dX5_toldComes_178 : decode cX5_toldComes 178 = .ok (.aload_n 0, 1) := by decide +kernel
theorem dX5_toldComes_179 : decode cX5_toldComes 179 = .ok (.getfield 151, 3) := by decide +kernel
theorem dX5_toldComes_182 : decode cX5_toldComes 182 = .ok (.iload 7, 2) := by decide +kernel
theorem dX5_toldComes_184 : decode cX5_toldComes 184 = .ok (.baload, 1) := by decide +kernel
theorem dX5_toldComes_185 : decode cX5_toldComes 185 = .ok (.ifCond .eq 7, 3) := by decide +kernel
theorem dX5_toldComes_188 : decode cX5_toldComes 188 = .ok (.iconst 1, 1) := by decide +kernel
theorem dX5_toldComes_189 : decode cX5_toldComes 189 = .ok (.goto 4, 3) := by decide +kernel
theorem dX5_toldComes_192 : decode cX5_toldComes 192 = .ok (.iconst 0, 1) := by decide +kernel
theorem dX5_toldComes_193 : decode cX5_toldComes 193 = .ok (.istore 4, 2) := by decide +kernel
theorem dX5_toldComes_195 : decode cX5_toldComes 195 = .ok (.aload_n 0, 1) := by decide +kernel
theorem dX5_toldComes_196 : decode cX5_toldComes 196 = .ok (.getfield 76, 3) := by decide +kernel
theorem dX5_toldComes_199 : decode cX5_toldComes 199 = .ok (.iload_n 1, 1) := by decide +kernel
theorem dX5_toldComes_200 : decode cX5_toldComes 200 = .ok (.dup2, 1) := by decide +kernel
theorem dX5_toldComes_201 : decode cX5_toldComes 201 = .ok (.iaload, 1) := by decide +kernel
theorem dX5_toldComes_202 : decode cX5_toldComes 202 = .ok (.aload_n 0, 1) := by decide +kernel
theorem dX5_toldComes_203 : decode cX5_toldComes 203 = .ok (.getfield 151, 3) := by decide +kernel
theorem dX5_toldComes_206 : decode cX5_toldComes 206 = .ok (.iload 7, 2) := by decide +kernel
theorem dX5_toldComes_208 : decode cX5_toldComes 208 = .ok (.baload, 1) := by decide +kernel
theorem dX5_toldComes_209 : decode cX5_toldComes 209 = .ok (.ifCond .eq 23, 3) := by decide +kernel
theorem dX5_toldComes_212 : decode cX5_toldComes 212 = .ok (.aload_n 0, 1) := by decide +kernel
theorem dX5_toldComes_213 : decode cX5_toldComes 213 = .ok (.getfield 157, 3) := by decide +kernel
theorem dX5_toldComes_216 : decode cX5_toldComes 216 = .ok (.iload 7, 2) := by decide +kernel
theorem dX5_toldComes_218 : decode cX5_toldComes 218 = .ok (.baload, 1) := by decide +kernel
theorem dX5_toldComes_219 : decode cX5_toldComes 219 = .ok (.ifCond .ne 13, 3) := by decide +kernel
theorem dX5_toldComes_222 : decode cX5_toldComes 222 = .ok (.aload_n 0, 1) := by decide +kernel
theorem dX5_toldComes_223 : decode cX5_toldComes 223 = .ok (.getfield 145, 3) := by decide +kernel
theorem dX5_toldComes_226 : decode cX5_toldComes 226 = .ok (.iload 7, 2) := by decide +kernel
theorem dX5_toldComes_228 : decode cX5_toldComes 228 = .ok (.iaload, 1) := by decide +kernel
theorem dX5_toldComes_229 : decode cX5_toldComes 229 = .ok (.goto 4, 3) := by decide +kernel
theorem dX5_toldComes_232 : decode cX5_toldComes 232 = .ok (.iconst 0, 1) := by decide +kernel
theorem dX5_toldComes_233 : decode cX5_toldComes 233 = .ok (.isub, 1) := by decide +kernel
theorem dX5_toldComes_234 : decode cX5_toldComes 234 = .ok (.iastore, 1) := by decide +kernel
theorem dX5_toldComes_235 : decode cX5_toldComes 235 = .ok (.iinc 6 1, 3) := by decide +kernel
theorem dX5_toldComes_238 : decode cX5_toldComes 238 = .ok (.goto (-109), 3) := by decide +kernel
theorem dX5_toldComes_241 : decode cX5_toldComes 241 = .ok (.aload_n 0, 1) := by decide +kernel
theorem dX5_toldComes_242 : decode cX5_toldComes 242 = .ok (.getfield 103, 3) := by decide +kernel
theorem dX5_toldComes_245 : decode cX5_toldComes 245 = .ok (.iload_n 1, 1) := by decide +kernel
theorem dX5_toldComes_246 : decode cX5_toldComes 246 = .ok (.iload 5, 2) := by decide +kernel
theorem dX5_toldComes_248 : decode cX5_toldComes 248 = .ok (.aload_n 0, 1) := by decide +kernel
theorem dX5_toldComes_249 : decode cX5_toldComes 249 = .ok (.getfield 103, 3) := by decide +kernel
theorem dX5_toldComes_252 : decode cX5_toldComes 252 = .ok (.iload_n 1, 1) := by decide +kernel
theorem dX5_toldComes_253 : decode cX5_toldComes 253 = .ok (.iaload, 1) := by decide +kernel
theorem dX5_toldComes_254 : decode cX5_toldComes 254 = .ok (.if_icmp .le 8, 3) := by decide +kernel
theorem dX5_toldComes_257 : decode cX5_toldComes 257 = .ok (.iload 5, 2) := by decide +kernel
theorem dX5_toldComes_259 : decode cX5_toldComes 259 = .ok (.goto 9, 3) := by decide +kernel
theorem dX5_toldComes_262 : decode cX5_toldComes 262 = .ok (.aload_n 0, 1) := by decide +kernel
theorem dX5_toldComes_263 : decode cX5_toldComes 263 = .ok (.getfield 103, 3) := by decide +kernel
theorem dX5_toldComes_266 : decode cX5_toldComes 266 = .ok (.iload_n 1, 1) := by decide +kernel
theorem dX5_toldComes_267 : decode cX5_toldComes 267 = .ok (.iaload, 1) := by decide +kernel
theorem dX5_toldComes_268 : decode cX5_toldComes 268 = .ok (.iastore, 1) := by decide +kernel
theorem dX5_toldComes_269 : decode cX5_toldComes 269 = .ok (.aload_n 0, 1) := by decide +kernel
theorem dX5_toldComes_270 : decode cX5_toldComes 270 = .ok (.getfield 176, 3) := by decide +kernel
theorem dX5_toldComes_273 : decode cX5_toldComes 273 = .ok (.iload 5, 2) := by decide +kernel
theorem dX5_toldComes_275 : decode cX5_toldComes 275 = .ok (.baload, 1) := by decide +kernel
theorem dX5_toldComes_276 : decode cX5_toldComes 276 = .ok (.ifCond .eq 40, 3) := by decide +kernel
theorem dX5_toldComes_279 : decode cX5_toldComes 279 = .ok (.aload_n 0, 1) := by decide +kernel
theorem dX5_toldComes_280 : decode cX5_toldComes 280 = .ok (.getfield 151, 3) := by decide +kernel
theorem dX5_toldComes_283 : decode cX5_toldComes 283 = .ok (.aload_n 0, 1) := by decide +kernel
theorem dX5_toldComes_284 : decode cX5_toldComes 284 = .ok (.iload_n 1, 1) := by decide +kernel
theorem dX5_toldComes_285 : decode cX5_toldComes 285 = .ok (.iload 5, 2) := by decide +kernel
theorem dX5_toldComes_287 : decode cX5_toldComes 287 = .ok (.invokevirtual 215, 3) := by decide +kernel
theorem dX5_toldComes_290 : decode cX5_toldComes 290 = .ok (.baload, 1) := by decide +kernel
theorem dX5_toldComes_291 : decode cX5_toldComes 291 = .ok (.ifCond .eq 25, 3) := by decide +kernel
theorem dX5_toldComes_294 : decode cX5_toldComes 294 = .ok (.aload_n 0, 1) := by decide +kernel
theorem dX5_toldComes_295 : decode cX5_toldComes 295 = .ok (.iload_n 1, 1) := by decide +kernel
theorem dX5_toldComes_296 : decode cX5_toldComes 296 = .ok (.aload_n 0, 1) := by decide +kernel
theorem dX5_toldComes_297 : decode cX5_toldComes 297 = .ok (.getfield 251, 3) := by decide +kernel
theorem dX5_toldComes_300 : decode cX5_toldComes 300 = .ok (.aload_n 0, 1) := by decide +kernel
theorem dX5_toldComes_301 : decode cX5_toldComes 301 = .ok (.getfield 139, 3) := by decide +kernel
theorem dX5_toldComes_304 : decode cX5_toldComes 304 = .ok (.aload_n 0, 1) := by decide +kernel
theorem dX5_toldComes_305 : decode cX5_toldComes 305 = .ok (.iload_n 1, 1) := by decide +kernel
theorem dX5_toldComes_306 : decode cX5_toldComes 306 = .ok (.iload 5, 2) := by decide +kernel
theorem dX5_toldComes_308 : decode cX5_toldComes 308 = .ok (.invokevirtual 215, 3) := by decide +kernel
theorem dX5_toldComes_311 : decode cX5_toldComes 311 = .ok (.iaload, 1) := by decide +kernel
theorem dX5_toldComes_312 : decode cX5_toldComes 312 = .ok (.isub, 1) := by decide +kernel
theorem dX5_toldComes_313 : decode cX5_toldComes 313 = .ok (.invokevirtual 288, 3) := by decide +kernel
theorem dX5_toldComes_316 : decode cX5_toldComes 316 = .ok (.iconst 0, 1) := by decide +kernel
theorem dX5_toldComes_317 : decode cX5_toldComes 317 = .ok (.istore 6, 2) := by decide +kernel
theorem dX5_toldComes_319 : decode cX5_toldComes 319 = .ok (.iload 6, 2) := by decide +kernel
theorem dX5_toldComes_321 : decode cX5_toldComes 321 = .ok (.aload_n 0, 1) := by decide +kernel
theorem dX5_toldComes_322 : decode cX5_toldComes 322 = .ok (.getfield 73, 3) := by decide +kernel
theorem dX5_toldComes_325 : decode cX5_toldComes 325 = .ok (.iload_n 1, 1) := by decide +kernel
theorem dX5_toldComes_326 : decode cX5_toldComes 326 = .ok (.iaload, 1) := by decide +kernel
theorem dX5_toldComes_327 : decode cX5_toldComes 327 = .ok (.if_icmp .ge 117, 3) := by decide +kernel
theorem dX5_toldComes_330 : decode cX5_toldComes 330 = .ok (.aload_n 0, 1) := by decide +kernel
theorem dX5_toldComes_331 : decode cX5_toldComes 331 = .ok (.iload_n 1, 1) := by decide +kernel
theorem dX5_toldComes_332 : decode cX5_toldComes 332 = .ok (.iload 6, 2) := by decide +kernel
theorem dX5_toldComes_334 : decode cX5_toldComes 334 = .ok (.invokevirtual 215, 3) := by decide +kernel
theorem dX5_toldComes_337 : decode cX5_toldComes 337 = .ok (.istore 7, 2) := by decide +kernel
theorem dX5_toldComes_339 : decode cX5_toldComes 339 = .ok (.aload_n 0, 1) := by decide +kernel
theorem dX5_toldComes_340 : decode cX5_toldComes 340 = .ok (.getfield 176, 3) := by decide +kernel
theorem dX5_toldComes_343 : decode cX5_toldComes 343 = .ok (.iload 6, 2) := by decide +kernel
theorem dX5_toldComes_345 : decode cX5_toldComes 345 = .ok (.baload, 1) := by decide +kernel
theorem dX5_toldComes_346 : decode cX5_toldComes 346 = .ok (.ifCond .eq 92, 3) := by decide +kernel
theorem dX5_toldComes_349 : decode cX5_toldComes 349 = .ok (.aload_n 0, 1) := by decide +kernel
theorem dX5_toldComes_350 : decode cX5_toldComes 350 = .ok (.getfield 151, 3) := by decide +kernel
theorem dX5_toldComes_353 : decode cX5_toldComes 353 = .ok (.iload 7, 2) := by decide +kernel
theorem dX5_toldComes_355 : decode cX5_toldComes 355 = .ok (.baload, 1) := by decide +kernel
theorem dX5_toldComes_356 : decode cX5_toldComes 356 = .ok (.ifCond .eq 82, 3) := by decide +kernel
theorem dX5_toldComes_359 : decode cX5_toldComes 359 = .ok (.aload_n 0, 1) := by decide +kernel
theorem dX5_toldComes_360 : decode cX5_toldComes 360 = .ok (.getfield 157, 3) := by decide +kernel
theorem dX5_toldComes_363 : decode cX5_toldComes 363 = .ok (.iload 7, 2) := by decide +kernel
theorem dX5_toldComes_365 : decode cX5_toldComes 365 = .ok (.baload, 1) := by decide +kernel
theorem dX5_toldComes_366 : decode cX5_toldComes 366 = .ok (.ifCond .ne 72, 3) := by decide +kernel
theorem dX5_toldComes_369 : decode cX5_toldComes 369 = .ok (.aload_n 0, 1) := by decide +kernel
theorem dX5_toldComes_370 : decode cX5_toldComes 370 = .ok (.getfield 139, 3) := by decide +kernel
theorem dX5_toldComes_373 : decode cX5_toldComes 373 = .ok (.iload 7, 2) := by decide +kernel
theorem dX5_toldComes_375 : decode cX5_toldComes 375 = .ok (.iaload, 1) := by decide +kernel
theorem dX5_toldComes_376 : decode cX5_toldComes 376 = .ok (.aload_n 0, 1) := by decide +kernel
theorem dX5_toldComes_377 : decode cX5_toldComes 377 = .ok (.getfield 85, 3) := by decide +kernel
theorem dX5_toldComes_380 : decode cX5_toldComes 380 = .ok (.iload_n 1, 1) := by decide +kernel
theorem dX5_toldComes_381 : decode cX5_toldComes 381 = .ok (.iaload, 1) := by decide +kernel
theorem dX5_toldComes_382 : decode cX5_toldComes 382 = .ok (.if_icmp .le 56, 3) := by decide +kernel
theorem dX5_toldComes_385 : decode cX5_toldComes 385 = .ok (.aload_n 0, 1) := by decide +kernel
theorem dX5_toldComes_386 : decode cX5_toldComes 386 = .ok (.getfield 79, 3) := by decide +kernel
theorem dX5_toldComes_389 : decode cX5_toldComes 389 = .ok (.iload_n 1, 1) := by decide +kernel
theorem dX5_toldComes_390 : decode cX5_toldComes 390 = .ok (.dup2, 1) := by decide +kernel
theorem dX5_toldComes_391 : decode cX5_toldComes 391 = .ok (.iaload, 1) := by decide +kernel
theorem dX5_toldComes_392 : decode cX5_toldComes 392 = .ok (.aload_n 0, 1) := by decide +kernel
theorem dX5_toldComes_393 : decode cX5_toldComes 393 = .ok (.getfield 79, 3) := by decide +kernel
theorem dX5_toldComes_396 : decode cX5_toldComes 396 = .ok (.iload_n 1, 1) := by decide +kernel
theorem dX5_toldComes_397 : decode cX5_toldComes 397 = .ok (.iaload, 1) := by decide +kernel
theorem dX5_toldComes_398 : decode cX5_toldComes 398 = .ok (.aload_n 0, 1) := by decide +kernel
theorem dX5_toldComes_399 : decode cX5_toldComes 399 = .ok (.getfield 82, 3) := by decide +kernel
theorem dX5_toldComes_402 : decode cX5_toldComes 402 = .ok (.iload_n 1, 1) := by decide +kernel
theorem dX5_toldComes_403 : decode cX5_toldComes 403 = .ok (.iaload, 1) := by decide +kernel
theorem dX5_toldComes_404 : decode cX5_toldComes 404 = .ok (.if_icmp .ge 13, 3) := by decide +kernel
theorem dX5_toldComes_407 : decode cX5_toldComes 407 = .ok (.aload_n 0, 1) := by decide +kernel
theorem dX5_toldComes_408 : decode cX5_toldComes 408 = .ok (.getfield 145, 3) := by decide +kernel
theorem dX5_toldComes_411 : decode cX5_toldComes 411 = .ok (.iload 7, 2) := by decide +kernel
theorem dX5_toldComes_413 : decode cX5_toldComes 413 = .ok (.iaload, 1) := by decide +kernel
theorem dX5_toldComes_414 : decode cX5_toldComes 414 = .ok (.goto 22, 3) := by decide +kernel
theorem dX5_toldComes_417 : decode cX5_toldComes 417 = .ok (.aload_n 0, 1) := by decide +kernel
theorem dX5_toldComes_418 : decode cX5_toldComes 418 = .ok (.getfield 7, 3) := by decide +kernel
theorem dX5_toldComes_421 : decode cX5_toldComes 421 = .ok (.aload_n 0, 1) := by decide +kernel
theorem dX5_toldComes_422 : decode cX5_toldComes 422 = .ok (.getfield 145, 3) := by decide +kernel
theorem dX5_toldComes_425 : decode cX5_toldComes 425 = .ok (.iload 7, 2) := by decide +kernel
theorem dX5_toldComes_427 : decode cX5_toldComes 427 = .ok (.iaload, 1) := by decide +kernel
theorem dX5_toldComes_428 : decode cX5_toldComes 428 = .ok (.imul, 1) := by decide +kernel
theorem dX5_toldComes_429 : decode cX5_toldComes 429 = .ok (.aload_n 0, 1) := by decide +kernel
theorem dX5_toldComes_430 : decode cX5_toldComes 430 = .ok (.getfield 79, 3) := by decide +kernel
theorem dX5_toldComes_433 : decode cX5_toldComes 433 = .ok (.iload_n 1, 1) := by decide +kernel
theorem dX5_toldComes_434 : decode cX5_toldComes 434 = .ok (.iaload, 1) := by decide +kernel
theorem dX5_toldComes_435 : decode cX5_toldComes 435 = .ok (.idiv, 1) := by decide +kernel
theorem dX5_toldComes_436 : decode cX5_toldComes 436 = .ok (.iadd, 1) := by decide +kernel
theorem dX5_toldComes_437 : decode cX5_toldComes 437 = .ok (.iastore, 1) := by decide +kernel
theorem dX5_toldComes_438 : decode cX5_toldComes 438 = .ok (.iinc 6 1, 3) := by decide +kernel
theorem dX5_toldComes_441 : decode cX5_toldComes 441 = .ok (.goto (-122), 3) := by decide +kernel
theorem dX5_toldComes_444 : decode cX5_toldComes 444 = .ok (.aload_n 0, 1) := by decide +kernel
theorem dX5_toldComes_445 : decode cX5_toldComes 445 = .ok (.getfield 97, 3) := by decide +kernel
theorem dX5_toldComes_448 : decode cX5_toldComes 448 = .ok (.iload_n 1, 1) := by decide +kernel
theorem dX5_toldComes_449 : decode cX5_toldComes 449 = .ok (.iload 4, 2) := by decide +kernel
theorem dX5_toldComes_451 : decode cX5_toldComes 451 = .ok (.ifCond .eq 7, 3) := by decide +kernel
theorem dX5_toldComes_454 : decode cX5_toldComes 454 = .ok (.iconst 0, 1) := by decide +kernel
theorem dX5_toldComes_455 : decode cX5_toldComes 455 = .ok (.goto 9, 3) := by decide +kernel
theorem dX5_toldComes_458 : decode cX5_toldComes 458 = .ok (.aload_n 0, 1) := by decide +kernel
theorem dX5_toldComes_459 : decode cX5_toldComes 459 = .ok (.getfield 97, 3) := by decide +kernel
theorem dX5_toldComes_462 : decode cX5_toldComes 462 = .ok (.iload_n 1, 1) := by decide +kernel
theorem dX5_toldComes_463 : decode cX5_toldComes 463 = .ok (.iaload, 1) := by decide +kernel
theorem dX5_toldComes_464 : decode cX5_toldComes 464 = .ok (.iastore, 1) := by decide +kernel
theorem dX5_toldComes_465 : decode cX5_toldComes 465 = .ok (.aload_n 0, 1) := by decide +kernel
theorem dX5_toldComes_466 : decode cX5_toldComes 466 = .ok (.iload_n 1, 1) := by decide +kernel
theorem dX5_toldComes_467 : decode cX5_toldComes 467 = .ok (.invokevirtual 291, 3) := by decide +kernel
theorem dX5_toldComes_470 : decode cX5_toldComes 470 = .ok (.return_, 1) := by decide +kernel
theorem dX5_measure_0 : decode cX5_measure 0 = .ok (.aload_n 0, 1) := by decide +kernel
theorem dX5_measure_1 : decode cX5_measure 1 = .ok (.getfield 88, 3) := by decide +kernel
theorem dX5_measure_4 : decode cX5_measure 4 = .ok (.iload_n 1, 1) := by decide +kernel
theorem dX5_measure_5 : decode cX5_measure 5 = .ok (.iload_n 2, 1) := by decide +kernel
theorem dX5_measure_6 : decode cX5_measure 6 = .ok (.iastore, 1) := by decide +kernel
theorem dX5_measure_7 : decode cX5_measure 7 = .ok (.aload_n 0, 1) := by decide +kernel
theorem dX5_measure_8 : decode cX5_measure 8 = .ok (.getfield 91, 3) := by decide +kernel
theorem dX5_measure_11 : decode cX5_measure 11 = .ok (.iload_n 1, 1) := by decide +kernel
theorem dX5_measure_12 : decode cX5_measure 12 = .ok (.iaload, 1) := by decide +kernel
theorem dX5_measure_13 : decode cX5_measure 13 = .ok (.ifCond .ge 25, 3) := by decide +kernel
theorem dX5_measure_16 : decode cX5_measure 16 = .ok (.aload_n 0, 1) := by decide +kernel
theorem dX5_measure_17 : decode cX5_measure 17 = .ok (.getfield 91, 3) := by decide +kernel
theorem dX5_measure_20 : decode cX5_measure 20 = .ok (.iload_n 1, 1) := by decide +kernel
theorem dX5_measure_21 : decode cX5_measure 21 = .ok (.bipush 8, 2) := by decide +kernel
theorem dX5_measure_23 : decode cX5_measure 23 = .ok (.iload_n 2, 1) := by decide +kernel
theorem dX5_measure_24 : decode cX5_measure 24 = .ok (.imul, 1) := by decide +kernel
theorem dX5_measure_25 : decode cX5_measure 25 = .ok (.iastore, 1) := by decide +kernel
theorem dX5_measure_26 : decode cX5_measure 26 = .ok (.aload_n 0, 1) := by decide +kernel
theorem dX5_measure_27 : decode cX5_measure 27 = .ok (.getfield 94, 3) := by decide +kernel
theorem dX5_measure_30 : decode cX5_measure 30 = .ok (.iload_n 1, 1) := by decide +kernel
theorem dX5_measure_31 : decode cX5_measure 31 = .ok (.iconst 4, 1) := by decide +kernel
theorem dX5_measure_32 : decode cX5_measure 32 = .ok (.iload_n 2, 1) := by decide +kernel
theorem dX5_measure_33 : decode cX5_measure 33 = .ok (.imul, 1) := by decide +kernel
theorem dX5_measure_34 : decode cX5_measure 34 = .ok (.iastore, 1) := by decide +kernel
theorem dX5_measure_35 : decode cX5_measure 35 = .ok (.goto 65, 3) := by decide +kernel
theorem dX5_measure_38 : decode cX5_measure 38 = .ok (.aload_n 0, 1) := by decide +kernel
theorem dX5_measure_39 : decode cX5_measure 39 = .ok (.getfield 91, 3) := by decide +kernel
theorem dX5_measure_42 : decode cX5_measure 42 = .ok (.iload_n 1, 1) := by decide +kernel
theorem dX5_measure_43 : decode cX5_measure 43 = .ok (.iaload, 1) := by decide +kernel
theorem dX5_measure_44 : decode cX5_measure 44 = .ok (.bipush 8, 2) := by decide +kernel
theorem dX5_measure_46 : decode cX5_measure 46 = .ok (.iload_n 2, 1) := by decide +kernel
theorem dX5_measure_47 : decode cX5_measure 47 = .ok (.imul, 1) := by decide +kernel
theorem dX5_measure_48 : decode cX5_measure 48 = .ok (.isub, 1) := by decide +kernel
theorem dX5_measure_49 : decode cX5_measure 49 = .ok (.istore_n 3, 1) := by decide +kernel
theorem dX5_measure_50 : decode cX5_measure 50 = .ok (.aload_n 0, 1) := by decide +kernel
theorem dX5_measure_51 : decode cX5_measure 51 = .ok (.getfield 94, 3) := by decide +kernel
theorem dX5_measure_54 : decode cX5_measure 54 = .ok (.iload_n 1, 1) := by decide +kernel
theorem dX5_measure_55 : decode cX5_measure 55 = .ok (.iconst 3, 1) := by decide +kernel
theorem dX5_measure_56 : decode cX5_measure 56 = .ok (.aload_n 0, 1) := by decide +kernel
theorem dX5_measure_57 : decode cX5_measure 57 = .ok (.getfield 94, 3) := by decide +kernel
theorem dX5_measure_60 : decode cX5_measure 60 = .ok (.iload_n 1, 1) := by decide +kernel
theorem dX5_measure_61 : decode cX5_measure 61 = .ok (.iaload, 1) := by decide +kernel
theorem dX5_measure_62 : decode cX5_measure 62 = .ok (.imul, 1) := by decide +kernel
theorem dX5_measure_63 : decode cX5_measure 63 = .ok (.iload_n 3, 1) := by decide +kernel
theorem dX5_measure_64 : decode cX5_measure 64 = .ok (.ifCond .ge 8, 3) := by decide +kernel
theorem dX5_measure_67 : decode cX5_measure 67 = .ok (.iload_n 3, 1) := by decide +kernel
theorem dX5_measure_68 : decode cX5_measure 68 = .ok (.ineg, 1) := by decide +kernel
theorem dX5_measure_69 : decode cX5_measure 69 = .ok (.goto 4, 3) := by decide +kernel
theorem dX5_measure_72 : decode cX5_measure 72 = .ok (.iload_n 3, 1) := by decide +kernel
theorem dX5_measure_73 : decode cX5_measure 73 = .ok (.iadd, 1) := by decide +kernel
theorem dX5_measure_74 : decode cX5_measure 74 = .ok (.iconst 4, 1) := by decide +kernel
theorem dX5_measure_75 : decode cX5_measure 75 = .ok (.idiv, 1) := by decide +kernel
theorem dX5_measure_76 : decode cX5_measure 76 = .ok (.iastore, 1) := by decide +kernel
theorem dX5_measure_77 : decode cX5_measure 77 = .ok (.aload_n 0, 1) := by decide +kernel
theorem dX5_measure_78 : decode cX5_measure 78 = .ok (.getfield 91, 3) := by decide +kernel
theorem dX5_measure_81 : decode cX5_measure 81 = .ok (.iload_n 1, 1) := by decide +kernel
theorem dX5_measure_82 : decode cX5_measure 82 = .ok (.bipush 7, 2) := by decide +kernel
theorem dX5_measure_84 : decode cX5_measure 84 = .ok (.aload_n 0, 1) := by decide +kernel
theorem dX5_measure_85 : decode cX5_measure 85 = .ok (.getfield 91, 3) := by decide +kernel
theorem dX5_measure_88 : decode cX5_measure 88 = .ok (.iload_n 1, 1) := by decide +kernel
theorem dX5_measure_89 : decode cX5_measure 89 = .ok (.iaload, 1) := by decide +kernel
theorem dX5_measure_90 : decode cX5_measure 90 = .ok (.imul, 1) := by decide +kernel
theorem dX5_measure_91 : decode cX5_measure 91 = .ok (.bipush 8, 2) := by decide +kernel
theorem dX5_measure_93 : decode cX5_measure 93 = .ok (.iload_n 2, 1) := by decide +kernel
theorem dX5_measure_94 : decode cX5_measure 94 = .ok (.imul, 1) := by decide +kernel
theorem dX5_measure_95 : decode cX5_measure 95 = .ok (.iadd, 1) := by decide +kernel
theorem dX5_measure_96 : decode cX5_measure 96 = .ok (.bipush 8, 2) := by decide +kernel
theorem dX5_measure_98 : decode cX5_measure 98 = .ok (.idiv, 1) := by decide +kernel
theorem dX5_measure_99 : decode cX5_measure 99 = .ok (.iastore, 1) := by decide +kernel
theorem dX5_measure_100 : decode cX5_measure 100 = .ok (.return_, 1) := by decide +kernel
theorem dX5_arrives_0 : decode cX5_arrives 0 = .ok (.iconst 0, 1) := by decide +kernel
theorem dX5_arrives_1 : decode cX5_arrives 1 = .ok (.istore_n 2, 1) := by decide +kernel
theorem dX5_arrives_2 : decode cX5_arrives 2 = .ok (.iload_n 2, 1) := by decide +kernel
theorem dX5_arrives_3 : decode cX5_arrives 3 = .ok (.aload_n 0, 1) := by decide +kernel
theorem dX5_arrives_4 : decode cX5_arrives 4 = .ok (.getfield 148, 3) := by decide +kernel
theorem dX5_arrives_7 : decode cX5_arrives 7 = .ok (.iload_n 1, 1) := by decide +kernel
theorem dX5_arrives_8 : decode cX5_arrives 8 = .ok (.iaload, 1) := by decide +kernel
theorem dX5_arrives_9 : decode cX5_arrives 9 = .ok (.if_icmp .ge 122, 3) := by decide +kernel
theorem dX5_arrives_12 : decode cX5_arrives 12 = .ok (.iconst 4, 1) := by decide +kernel
theorem dX5_arrives_13 : decode cX5_arrives 13 = .ok (.bipush 24, 2) := by decide +kernel
theorem dX5_arrives_15 : decode cX5_arrives 15 = .ok (.iload_n 1, 1) := by decide +kernel
theorem dX5_arrives_16 : decode cX5_arrives 16 = .ok (.imul, 1) := by decide +kernel
theorem dX5_arrives_17 : decode cX5_arrives 17 = .ok (.iload_n 2, 1) := by decide +kernel
theorem dX5_arrives_18 : decode cX5_arrives 18 = .ok (.iadd, 1) := by decide +kernel
theorem dX5_arrives_19 : decode cX5_arrives 19 = .ok (.imul, 1) := by decide +kernel
theorem dX5_arrives_20 : decode cX5_arrives 20 = .ok (.istore_n 3, 1) := by decide +kernel
theorem dX5_arrives_21 : decode cX5_arrives 21 = .ok (.aload_n 0, 1) := by decide +kernel
theorem dX5_arrives_22 : decode cX5_arrives 22 = .ok (.getfield 164, 3) := by decide +kernel
theorem dX5_arrives_25 : decode cX5_arrives 25 = .ok (.iload_n 3, 1) := by decide +kernel
theorem dX5_arrives_26 : decode cX5_arrives 26 = .ok (.iaload, 1) := by decide +kernel
theorem dX5_arrives_27 : decode cX5_arrives 27 = .ok (.iconst 4, 1) := by decide +kernel
theorem dX5_arrives_28 : decode cX5_arrives 28 = .ok (.if_icmp .ne 97, 3) := by decide +kernel
theorem dX5_arrives_31 : decode cX5_arrives 31 = .ok (.aload_n 0, 1) := by decide +kernel
theorem dX5_arrives_32 : decode cX5_arrives 32 = .ok (.getfield 164, 3) := by decide +kernel
theorem dX5_arrives_35 : decode cX5_arrives 35 = .ok (.iload_n 3, 1) := by decide +kernel
theorem dX5_arrives_36 : decode cX5_arrives 36 = .ok (.iconst 1, 1) := by decide +kernel
theorem dX5_arrives_37 : decode cX5_arrives 37 = .ok (.iadd, 1) := by decide +kernel
theorem dX5_arrives_38 : decode cX5_arrives 38 = .ok (.iaload, 1) := by decide +kernel
theorem dX5_arrives_39 : decode cX5_arrives 39 = .ok (.istore 4, 2) := by decide +kernel
theorem dX5_arrives_41 : decode cX5_arrives 41 = .ok (.aload_n 0, 1) := by decide +kernel
theorem dX5_arrives_42 : decode cX5_arrives 42 = .ok (.getfield 164, 3) := by decide +kernel
theorem dX5_arrives_45 : decode cX5_arrives 45 = .ok (.iload_n 3, 1) := by decide +kernel
theorem dX5_arrives_46 : decode cX5_arrives 46 = .ok (.iconst 3, 1) := by decide +kernel
theorem dX5_arrives_47 : decode cX5_arrives 47 = .ok (.iadd, 1) := by decide +kernel
theorem dX5_arrives_48 : decode cX5_arrives 48 = .ok (.iaload, 1) := by decide +kernel
theorem dX5_arrives_49 : decode cX5_arrives 49 = .ok (.sipush 10000, 3) := by decide +kernel
theorem dX5_arrives_52 : decode cX5_arrives 52 = .ok (.irem, 1) := by decide +kernel
theorem dX5_arrives_53 : decode cX5_arrives 53 = .ok (.istore 5, 2) := by decide +kernel
theorem dX5_arrives_55 : decode cX5_arrives 55 = .ok (.iconst 0, 1) := by decide +kernel
theorem dX5_arrives_56 : decode cX5_arrives 56 = .ok (.istore 6, 2) := by decide +kernel
theorem dX5_arrives_58 : decode cX5_arrives 58 = .ok (.iload 6, 2) := by decide +kernel
theorem dX5_arrives_60 : decode cX5_arrives 60 = .ok (.iload 5, 2) := by decide +kernel
theorem dX5_arrives_62 : decode cX5_arrives 62 = .ok (.if_icmp .ge 33, 3) := by decide +kernel
theorem dX5_arrives_65 : decode cX5_arrives 65 = .ok (.aload_n 0, 1) := by decide +kernel
theorem dX5_arrives_66 : decode cX5_arrives 66 = .ok (.getfield 48, 3) := by decide +kernel
theorem dX5_arrives_69 : decode cX5_arrives 69 = .ok (.sipush 1000, 3) := by decide +kernel
theorem dX5_arrives_72 : decode cX5_arrives 72 = .ok (.iload 4, 2) := by decide +kernel
theorem dX5_arrives_74 : decode cX5_arrives 74 = .ok (.imul, 1) := by decide +kernel
theorem dX5_arrives_75 : decode cX5_arrives 75 = .ok (.aload_n 0, 1) := by decide +kernel
theorem dX5_arrives_76 : decode cX5_arrives 76 = .ok (.getfield 164, 3) := by decide +kernel
theorem dX5_arrives_79 : decode cX5_arrives 79 = .ok (.iload_n 3, 1) := by decide +kernel
theorem dX5_arrives_80 : decode cX5_arrives 80 = .ok (.iconst 2, 1) := by decide +kernel
theorem dX5_arrives_81 : decode cX5_arrives 81 = .ok (.iadd, 1) := by decide +kernel
theorem dX5_arrives_82 : decode cX5_arrives 82 = .ok (.iaload, 1) := by decide +kernel
theorem dX5_arrives_83 : decode cX5_arrives 83 = .ok (.iadd, 1) := by decide +kernel
theorem dX5_arrives_84 : decode cX5_arrives 84 = .ok (.iload 6, 2) := by decide +kernel
theorem dX5_arrives_86 : decode cX5_arrives 86 = .ok (.iadd, 1) := by decide +kernel
theorem dX5_arrives_87 : decode cX5_arrives 87 = .ok (.iconst 3, 1) := by decide +kernel
theorem dX5_arrives_88 : decode cX5_arrives 88 = .ok (.bastore, 1) := by decide +kernel
theorem dX5_arrives_89 : decode cX5_arrives 89 = .ok (.iinc 6 1, 3) := by decide +kernel
theorem dX5_arrives_92 : decode cX5_arrives 92 = .ok (.goto (-34), 3) := by decide +kernel
theorem dX5_arrives_95 : decode cX5_arrives 95 = .ok (.aload_n 0, 1) := by decide +kernel
theorem dX5_arrives_96 : decode cX5_arrives 96 = .ok (.getfield 164, 3) := by decide +kernel
theorem dX5_arrives_99 : decode cX5_arrives 99 = .ok (.iload_n 3, 1) := by decide +kernel
theorem dX5_arrives_100 : decode cX5_arrives 100 = .ok (.iconst 3, 1) := by decide +kernel
theorem dX5_arrives_101 : decode cX5_arrives 101 = .ok (.iadd, 1) := by decide +kernel
theorem dX5_arrives_102 : decode cX5_arrives 102 = .ok (.iaload, 1) := by decide +kernel
theorem dX5_arrives_103 : decode cX5_arrives 103 = .ok (.sipush 10000, 3) := by decide +kernel
theorem dX5_arrives_106 : decode cX5_arrives 106 = .ok (.if_icmp .lt 19, 3) := by decide +kernel
theorem dX5_arrives_109 : decode cX5_arrives 109 = .ok (.aload_n 0, 1) := by decide +kernel
theorem dX5_arrives_110 : decode cX5_arrives 110 = .ok (.getfield 42, 3) := by decide +kernel
theorem dX5_arrives_113 : decode cX5_arrives 113 = .ok (.iload 4, 2) := by decide +kernel
theorem dX5_arrives_115 : decode cX5_arrives 115 = .ok (.iconst 1, 1) := by decide +kernel
theorem dX5_arrives_116 : decode cX5_arrives 116 = .ok (.bastore, 1) := by decide +kernel
theorem dX5_arrives_117 : decode cX5_arrives 117 = .ok (.aload_n 0, 1) := by decide +kernel
theorem dX5_arrives_118 : decode cX5_arrives 118 = .ok (.getfield 39, 3) := by decide +kernel
theorem dX5_arrives_121 : decode cX5_arrives 121 = .ok (.iload 4, 2) := by decide +kernel
theorem dX5_arrives_123 : decode cX5_arrives 123 = .ok (.iconst 0, 1) := by decide +kernel
theorem dX5_arrives_124 : decode cX5_arrives 124 = .ok (.bastore, 1) := by decide +kernel
theorem dX5_arrives_125 : decode cX5_arrives 125 = .ok (.iinc 2 1, 3) := by decide +kernel
theorem dX5_arrives_128 : decode cX5_arrives 128 = .ok (.goto (-126), 3) := by decide +kernel
theorem dX5_arrives_131 : decode cX5_arrives 131 = .ok (.return_, 1) := by decide +kernel
theorem dX5_limit_0 : decode cX5_limit 0 = .ok (.aload_n 0, 1) := by decide +kernel
theorem dX5_limit_1 : decode cX5_limit 1 = .ok (.getfield 88, 3) := by decide +kernel
theorem dX5_limit_4 : decode cX5_limit 4 = .ok (.iload_n 1, 1) := by decide +kernel
theorem dX5_limit_5 : decode cX5_limit 5 = .ok (.iaload, 1) := by decide +kernel
theorem dX5_limit_6 : decode cX5_limit 6 = .ok (.ifCond .ge 6, 3) := by decide +kernel
theorem dX5_limit_9 : decode cX5_limit 9 = .ok (.bipush 8, 2) := by decide +kernel
theorem dX5_limit_11 : decode cX5_limit 11 = .ok (.ireturn, 1) := by decide +kernel
theorem dX5_limit_12 : decode cX5_limit 12 = .ok (.aload_n 0, 1) := by decide +kernel
theorem dX5_limit_13 : decode cX5_limit 13 = .ok (.getfield 91, 3) := by decide +kernel
theorem dX5_limit_16 : decode cX5_limit 16 = .ok (.iload_n 1, 1) := by decide +kernel
theorem dX5_limit_17 : decode cX5_limit 17 = .ok (.iaload, 1) := by decide +kernel
theorem dX5_limit_18 : decode cX5_limit 18 = .ok (.bipush 8, 2) := by decide +kernel
theorem dX5_limit_20 : decode cX5_limit 20 = .ok (.aload_n 0, 1) := by decide +kernel
theorem dX5_limit_21 : decode cX5_limit 21 = .ok (.getfield 88, 3) := by decide +kernel
theorem dX5_limit_24 : decode cX5_limit 24 = .ok (.iload_n 1, 1) := by decide +kernel
theorem dX5_limit_25 : decode cX5_limit 25 = .ok (.iaload, 1) := by decide +kernel
theorem dX5_limit_26 : decode cX5_limit 26 = .ok (.imul, 1) := by decide +kernel
theorem dX5_limit_27 : decode cX5_limit 27 = .ok (.if_icmp .le 12, 3) := by decide +kernel
theorem dX5_limit_30 : decode cX5_limit 30 = .ok (.aload_n 0, 1) := by decide +kernel
theorem dX5_limit_31 : decode cX5_limit 31 = .ok (.getfield 91, 3) := by decide +kernel
theorem dX5_limit_34 : decode cX5_limit 34 = .ok (.iload_n 1, 1) := by decide +kernel
theorem dX5_limit_35 : decode cX5_limit 35 = .ok (.iaload, 1) := by decide +kernel
theorem dX5_limit_36 : decode cX5_limit 36 = .ok (.goto 12, 3) := by decide +kernel
theorem dX5_limit_39 : decode cX5_limit 39 = .ok (.bipush 8, 2) := by decide +kernel
theorem dX5_limit_41 : decode cX5_limit 41 = .ok (.aload_n 0, 1) := by decide +kernel
theorem dX5_limit_42 : decode cX5_limit 42 = .ok (.getfield 88, 3) := by decide +kernel
theorem dX5_limit_45 : decode cX5_limit 45 = .ok (.iload_n 1, 1) := by decide +kernel
theorem dX5_limit_46 : decode cX5_limit 46 = .ok (.iaload, 1) := by decide +kernel
theorem dX5_limit_47 : decode cX5_limit 47 = .ok (.imul, 1) := by decide +kernel
theorem dX5_limit_48 : decode cX5_limit 48 = .ok (.istore_n 2, 1) := by decide +kernel
theorem dX5_limit_49 : decode cX5_limit 49 = .ok (.bipush 9, 2) := by decide +kernel
theorem dX5_limit_51 : decode cX5_limit 51 = .ok (.iload_n 2, 1) := by decide +kernel
theorem dX5_limit_52 : decode cX5_limit 52 = .ok (.imul, 1) := by decide +kernel
theorem dX5_limit_53 : decode cX5_limit 53 = .ok (.bipush 64, 2) := by decide +kernel
theorem dX5_limit_55 : decode cX5_limit 55 = .ok (.idiv, 1) := by decide +kernel
theorem dX5_limit_56 : decode cX5_limit 56 = .ok (.istore_n 3, 1) := by decide +kernel
theorem dX5_limit_57 : decode cX5_limit 57 = .ok (.iload_n 3, 1) := by decide +kernel
theorem dX5_limit_58 : decode cX5_limit 58 = .ok (.iconst 1, 1) := by decide +kernel
theorem dX5_limit_59 : decode cX5_limit 59 = .ok (.if_icmp .ge 7, 3) := by decide +kernel
theorem dX5_limit_62 : decode cX5_limit 62 = .ok (.iconst 1, 1) := by decide +kernel
theorem dX5_limit_63 : decode cX5_limit 63 = .ok (.goto 4, 3) := by decide +kernel
theorem dX5_limit_66 : decode cX5_limit 66 = .ok (.iload_n 3, 1) := by decide +kernel
theorem dX5_limit_67 : decode cX5_limit 67 = .ok (.ireturn, 1) := by decide +kernel
theorem dX5_lookForLost_0 : decode cX5_lookForLost 0 = .ok (.aload_n 0, 1) := by decide +kernel
theorem dX5_lookForLost_1 : decode cX5_lookForLost 1 = .ok (.iload_n 1, 1) := by decide +kernel
theorem dX5_lookForLost_2 : decode cX5_lookForLost 2 = .ok (.invokevirtual 294, 3) := by decide +kernel
theorem dX5_lookForLost_5 : decode cX5_lookForLost 5 = .ok (.istore_n 2, 1) := by decide +kernel
theorem dX5_lookForLost_6 : decode cX5_lookForLost 6 = .ok (.iconst 0, 1) := by decide +kernel
theorem dX5_lookForLost_7 : decode cX5_lookForLost 7 = .ok (.istore_n 3, 1) := by decide +kernel
theorem dX5_lookForLost_8 : decode cX5_lookForLost 8 = .ok (.iload_n 3, 1) := by decide +kernel
theorem dX5_lookForLost_9 : decode cX5_lookForLost 9 = .ok (.aload_n 0, 1) := by decide +kernel
theorem dX5_lookForLost_10 : decode cX5_lookForLost 10 = .ok (.getfield 103, 3) := by decide +kernel
theorem dX5_lookForLost_13 : decode cX5_lookForLost 13 = .ok (.iload_n 1, 1) := by decide +kernel
theorem dX5_lookForLost_14 : decode cX5_lookForLost 14 = .ok (.iaload, 1) := by decide +kernel
theorem dX5_lookForLost_15 : decode cX5_lookForLost 15 = .ok (.if_icmp .ge 249, 3) := by decide +kernel
theorem dX5_lookForLost_18 : decode cX5_lookForLost 18 = .ok (.aload_n 0, 1) := by decide +kernel
theorem dX5_lookForLost_19 : decode cX5_lookForLost 19 = .ok (.iload_n 1, 1) := by decide +kernel
theorem dX5_lookForLost_20 : decode cX5_lookForLost 20 = .ok (.iload_n 3, 1) := by decide +kernel
theorem dX5_lookForLost_21 : decode cX5_lookForLost 21 = .ok (.invokevirtual 215, 3) := by decide +kernel
theorem dX5_lookForLost_24 : decode cX5_lookForLost 24 = .ok (.istore 4, 2) := by decide +kernel
theorem dX5_lookForLost_26 : decode cX5_lookForLost 26 = .ok (.aload_n 0, 1) := by decide +kernel
theorem dX5_lookForLost_27 : decode cX5_lookForLost 27 = .ok (.getfield 151, 3) := by decide +kernel
theorem dX5_lookForLost_30 : decode cX5_lookForLost 30 = .ok (.iload 4, 2) := by decide +kernel
theorem dX5_lookForLost_32 : decode cX5_lookForLost 32 = .ok (.baload, 1) := by decide +kernel
theorem dX5_lookForLost_33 : decode cX5_lookForLost 33 = .ok (.ifCond .eq 225, 3) := by decide +kernel
theorem dX5_lookForLost_36 : decode cX5_lookForLost 36 = .ok (.aload_n 0, 1) := by decide +kernel
theorem dX5_lookForLost_37 : decode cX5_lookForLost 37 = .ok (.getfield 154, 3) := by decide +kernel
theorem dX5_lookForLost_40 : decode cX5_lookForLost 40 = .ok (.iload 4, 2) := by decide +kernel
theorem dX5_lookForLost_42 : decode cX5_lookForLost 42 = .ok (.baload, 1) := by decide +kernel
theorem dX5_lookForLost_43 : decode cX5_lookForLost 43 = .ok (.ifCond .ne 215, 3) := by decide +kernel
theorem dX5_lookForLost_46 : decode cX5_lookForLost 46 = .ok (.aload_n 0, 1) := by decide +kernel
theorem dX5_lookForLost_47 : decode cX5_lookForLost 47 = .ok (.getfield 157, 3) := by decide +kernel
theorem dX5_lookForLost_50 : decode cX5_lookForLost 50 = .ok (.iload 4, 2) := by decide +kernel
theorem dX5_lookForLost_52 : decode cX5_lookForLost 52 = .ok (.baload, 1) := by decide +kernel
theorem dX5_lookForLost_53 : decode cX5_lookForLost 53 = .ok (.ifCond .ne 205, 3) := by decide +kernel
theorem dX5_lookForLost_56 : decode cX5_lookForLost 56 = .ok (.iload_n 3, 1) := by decide +kernel
theorem dX5_lookForLost_57 : decode cX5_lookForLost 57 = .ok (.iconst 3, 1) := by decide +kernel
theorem dX5_lookForLost_58 : decode cX5_lookForLost 58 = .ok (.iadd, 1) := by decide +kernel
theorem dX5_lookForLost_59 : decode cX5_lookForLost 59 = .ok (.aload_n 0, 1) := by decide +kernel
theorem dX5_lookForLost_60 : decode cX5_lookForLost 60 = .ok (.getfield 103, 3) := by decide +kernel
theorem dX5_lookForLost_63 : decode cX5_lookForLost 63 = .ok (.iload_n 1, 1) := by decide +kernel
theorem dX5_lookForLost_64 : decode cX5_lookForLost 64 = .ok (.iaload, 1) := by decide +kernel
theorem dX5_lookForLost_65 : decode cX5_lookForLost 65 = .ok (.if_icmp .le 19, 3) := by decide +kernel
theorem dX5_lookForLost_68 : decode cX5_lookForLost 68 = .ok (.aload_n 0, 1) := by decide +kernel
theorem dX5_lookForLost_69 : decode cX5_lookForLost 69 = .ok (.getfield 251, 3) := by decide +kernel
theorem dX5_lookForLost_72 : decode cX5_lookForLost 72 = .ok (.aload_n 0, 1) := by decide +kernel
theorem dX5_lookForLost_73 : decode cX5_lookForLost 73 = .ok (.getfield 139, 3) := by decide +kernel
theorem dX5_lookForLost_76 : decode cX5_lookForLost 76 = .ok (.iload 4, 2) := by decide +kernel
theorem dX5_lookForLost_78 : decode cX5_lookForLost 78 = .ok (.iaload, 1) := by decide +kernel
theorem dX5_lookForLost_79 : decode cX5_lookForLost 79 = .ok (.isub, 1) := by decide +kernel
theorem dX5_lookForLost_80 : decode cX5_lookForLost 80 = .ok (.iload_n 2, 1) := by decide +kernel
theorem dX5_lookForLost_81 : decode cX5_lookForLost 81 = .ok (.if_icmp .lt 177, 3) := by decide +kernel
theorem dX5_lookForLost_84 : decode cX5_lookForLost 84 = .ok (.aload_n 0, 1) := by decide +kernel
theorem dX5_lookForLost_85 : decode cX5_lookForLost 85 = .ok (.getfield 157, 3) := by decide +kernel
theorem dX5_lookForLost_88 : decode cX5_lookForLost 88 = .ok (.iload 4, 2) := by decide +kernel
theorem dX5_lookForLost_90 : decode cX5_lookForLost 90 = .ok (.iconst 1, 1) := by decide +kernel
theorem dX5_lookForLost_91 : decode cX5_lookForLost 91 = .ok (.bastore, 1) := by decide +kernel
theorem dX5_lookForLost_92 : decode cX5_lookForLost 92 = .ok (.aload_n 0, 1) := by decide +kernel
theorem dX5_lookForLost_93 : decode cX5_lookForLost 93 = .ok (.getfield 76, 3) := by decide +kernel
theorem dX5_lookForLost_96 : decode cX5_lookForLost 96 = .ok (.iload_n 1, 1) := by decide +kernel
theorem dX5_lookForLost_97 : decode cX5_lookForLost 97 = .ok (.dup2, 1) := by decide +kernel
theorem dX5_lookForLost_98 : decode cX5_lookForLost 98 = .ok (.iaload, 1) := by decide +kernel
theorem dX5_lookForLost_99 : decode cX5_lookForLost 99 = .ok (.aload_n 0, 1) := by decide +kernel
theorem dX5_lookForLost_100 : decode cX5_lookForLost 100 = .ok (.getfield 145, 3) := by decide +kernel
theorem dX5_lookForLost_103 : decode cX5_lookForLost 103 = .ok (.iload 4, 2) := by decide +kernel
theorem dX5_lookForLost_105 : decode cX5_lookForLost 105 = .ok (.iaload, 1) := by decide +kernel
theorem dX5_lookForLost_106 : decode cX5_lookForLost 106 = .ok (.isub, 1) := by decide +kernel
theorem dX5_lookForLost_107 : decode cX5_lookForLost 107 = .ok (.iastore, 1) := by decide +kernel
theorem dX5_lookForLost_108 : decode cX5_lookForLost 108 = .ok (.iconst 0, 1) := by decide +kernel
theorem dX5_lookForLost_109 : decode cX5_lookForLost 109 = .ok (.istore 5, 2) := by decide +kernel
theorem dX5_lookForLost_111 : decode cX5_lookForLost 111 = .ok (.iload 5, 2) := by decide +kernel
theorem dX5_lookForLost_113 : decode cX5_lookForLost 113 = .ok (.aload_n 0, 1) := by decide +kernel
theorem dX5_lookForLost_114 : decode cX5_lookForLost 114 = .ok (.getfield 148, 3) := by decide +kernel
theorem dX5_lookForLost_117 : decode cX5_lookForLost 117 = .ok (.iload 4, 2) := by decide +kernel
theorem dX5_lookForLost_119 : decode cX5_lookForLost 119 = .ok (.iaload, 1) := by decide +kernel
theorem dX5_lookForLost_120 : decode cX5_lookForLost 120 = .ok (.if_icmp .ge 60, 3) := by decide +kernel
theorem dX5_lookForLost_123 : decode cX5_lookForLost 123 = .ok (.iconst 4, 1) := by decide +kernel
theorem dX5_lookForLost_124 : decode cX5_lookForLost 124 = .ok (.bipush 24, 2) := by decide +kernel
theorem dX5_lookForLost_126 : decode cX5_lookForLost 126 = .ok (.iload 4, 2) := by decide +kernel
theorem dX5_lookForLost_128 : decode cX5_lookForLost 128 = .ok (.imul, 1) := by decide +kernel
theorem dX5_lookForLost_129 : decode cX5_lookForLost 129 = .ok (.iload 5, 2) := by decide +kernel
theorem dX5_lookForLost_131 : decode cX5_lookForLost 131 = .ok (.iadd, 1) := by decide +kernel
theorem dX5_lookForLost_132 : decode cX5_lookForLost 132 = .ok (.imul, 1) := by decide +kernel
theorem dX5_lookForLost_133 : decode cX5_lookForLost 133 = .ok (.istore 6, 2) := by decide +kernel
theorem dX5_lookForLost_135 : decode cX5_lookForLost 135 = .ok (.aload_n 0, 1) := by decide +kernel
theorem dX5_lookForLost_136 : decode cX5_lookForLost 136 = .ok (.iload_n 1, 1) := by decide +kernel
theorem dX5_lookForLost_137 : decode cX5_lookForLost 137 = .ok (.aload_n 0, 1) := by decide +kernel
theorem dX5_lookForLost_138 : decode cX5_lookForLost 138 = .ok (.getfield 164, 3) := by decide +kernel
theorem dX5_lookForLost_141 : decode cX5_lookForLost 141 = .ok (.iload 6, 2) := by decide +kernel
theorem dX5_lookForLost_143 : decode cX5_lookForLost 143 = .ok (.iaload, 1) := by decide +kernel
theorem dX5_lookForLost_144 : decode cX5_lookForLost 144 = .ok (.aload_n 0, 1) := by decide +kernel
theorem dX5_lookForLost_145 : decode cX5_lookForLost 145 = .ok (.getfield 164, 3) := by decide +kernel
theorem dX5_lookForLost_148 : decode cX5_lookForLost 148 = .ok (.iload 6, 2) := by decide +kernel
theorem dX5_lookForLost_150 : decode cX5_lookForLost 150 = .ok (.iconst 1, 1) := by decide +kernel
theorem dX5_lookForLost_151 : decode cX5_lookForLost 151 = .ok (.iadd, 1) := by decide +kernel
theorem dX5_lookForLost_152 : decode cX5_lookForLost 152 = .ok (.iaload, 1) := by decide +kernel
theorem dX5_lookForLost_153 : decode cX5_lookForLost 153 = .ok (.aload_n 0, 1) := by decide +kernel
theorem dX5_lookForLost_154 : decode cX5_lookForLost 154 = .ok (.getfield 164, 3) := by decide +kernel
theorem dX5_lookForLost_157 : decode cX5_lookForLost 157 = .ok (.iload 6, 2) := by decide +kernel
theorem dX5_lookForLost_159 : decode cX5_lookForLost 159 = .ok (.iconst 2, 1) := by decide +kernel
theorem dX5_lookForLost_160 : decode cX5_lookForLost 160 = .ok (.iadd, 1) := by decide +kernel
theorem dX5_lookForLost_161 : decode cX5_lookForLost 161 = .ok (.iaload, 1) := by decide +kernel
theorem dX5_lookForLost_162 : decode cX5_lookForLost 162 = .ok (.aload_n 0, 1) := by decide +kernel
theorem dX5_lookForLost_163 : decode cX5_lookForLost 163 = .ok (.getfield 164, 3) := by decide +kernel
theorem dX5_lookForLost_166 : decode cX5_lookForLost 166 = .ok (.iload 6, 2) := by decide +kernel
theorem dX5_lookForLost_168 : decode cX5_lookForLost 168 = .ok (.iconst 3, 1) := by decide +kernel
theorem dX5_lookForLost_169 : decode cX5_lookForLost 169 = .ok (.iadd, 1) := by decide +kernel
theorem dX5_lookForLost_170 : decode cX5_lookForLost 170 = .ok (.iaload, 1) := by decide +kernel
theorem dX5_lookForLost_171 : decode cX5_lookForLost 171 = .ok (.invokevirtual 297, 3) := by decide +kernel
theorem dX5_lookForLost_174 : decode cX5_lookForLost 174 = .ok (.iinc 5 1, 3) := by decide +kernel
theorem dX5_lookForLost_177 : decode cX5_lookForLost 177 = .ok (.goto (-66), 3) := by decide +kernel
theorem dX5_lookForLost_180 : decode cX5_lookForLost 180 = .ok (.aload_n 0, 1) := by decide +kernel
theorem dX5_lookForLost_181 : decode cX5_lookForLost 181 = .ok (.getfield 139, 3) := by decide +kernel
theorem dX5_lookForLost_184 : decode cX5_lookForLost 184 = .ok (.iload 4, 2) := by decide +kernel
theorem dX5_lookForLost_186 : decode cX5_lookForLost 186 = .ok (.iaload, 1) := by decide +kernel
theorem dX5_lookForLost_187 : decode cX5_lookForLost 187 = .ok (.aload_n 0, 1) := by decide +kernel
theorem dX5_lookForLost_188 : decode cX5_lookForLost 188 = .ok (.getfield 85, 3) := by decide +kernel
theorem dX5_lookForLost_191 : decode cX5_lookForLost 191 = .ok (.iload_n 1, 1) := by decide +kernel
theorem dX5_lookForLost_192 : decode cX5_lookForLost 192 = .ok (.iaload, 1) := by decide +kernel
theorem dX5_lookForLost_193 : decode cX5_lookForLost 193 = .ok (.if_icmp .le 65, 3) := by decide +kernel
theorem dX5_lookForLost_196 : decode cX5_lookForLost 196 = .ok (.aload_n 0, 1) := by decide +kernel
theorem dX5_lookForLost_197 : decode cX5_lookForLost 197 = .ok (.getfield 85, 3) := by decide +kernel
theorem dX5_lookForLost_200 : decode cX5_lookForLost 200 = .ok (.iload_n 1, 1) := by decide +kernel
theorem dX5_lookForLost_201 : decode cX5_lookForLost 201 = .ok (.aload_n 0, 1) := by decide +kernel
theorem dX5_lookForLost_202 : decode cX5_lookForLost 202 = .ok (.getfield 251, 3) := by decide +kernel
theorem dX5_lookForLost_205 : decode cX5_lookForLost 205 = .ok (.iastore, 1) := by decide +kernel
theorem dX5_lookForLost_206 : decode cX5_lookForLost 206 = .ok (.aload_n 0, 1) := by decide +kernel
theorem dX5_lookForLost_207 : decode cX5_lookForLost 207 = .ok (.getfield 79, 3) := by decide +kernel
theorem dX5_lookForLost_210 : decode cX5_lookForLost 210 = .ok (.iload_n 1, 1) := by decide +kernel
theorem dX5_lookForLost_211 : decode cX5_lookForLost 211 = .ok (.aload_n 0, 1) := by decide +kernel
theorem dX5_lookForLost_212 : decode cX5_lookForLost 212 = .ok (.getfield 79, 3) := by decide +kernel
theorem dX5_lookForLost_215 : decode cX5_lookForLost 215 = .ok (.iload_n 1, 1) := by decide +kernel
theorem dX5_lookForLost_216 : decode cX5_lookForLost 216 = .ok (.iaload, 1) := by decide +kernel
theorem dX5_lookForLost_217 : decode cX5_lookForLost 217 = .ok (.iconst 2, 1) := by decide +kernel
theorem dX5_lookForLost_218 : decode cX5_lookForLost 218 = .ok (.idiv, 1) := by decide +kernel
theorem dX5_lookForLost_219 : decode cX5_lookForLost 219 = .ok (.iconst 2, 1) := by decide +kernel
theorem dX5_lookForLost_220 : decode cX5_lookForLost 220 = .ok (.aload_n 0, 1) := by decide +kernel
theorem dX5_lookForLost_221 : decode cX5_lookForLost 221 = .ok (.getfield 7, 3) := by decide +kernel
theorem dX5_lookForLost_224 : decode cX5_lookForLost 224 = .ok (.imul, 1) := by decide +kernel
theorem dX5_lookForLost_225 : decode cX5_lookForLost 225 = .ok (.if_icmp .ge 12, 3) := by decide +kernel
theorem dX5_lookForLost_228 : decode cX5_lookForLost 228 = .ok (.iconst 2, 1) := by decide +kernel
theorem dX5_lookForLost_229 : decode cX5_lookForLost 229 = .ok (.aload_n 0, 1) := by decide +kernel
theorem dX5_lookForLost_230 : decode cX5_lookForLost 230 = .ok (.getfield 7, 3) := by decide +kernel
theorem dX5_lookForLost_233 : decode cX5_lookForLost 233 = .ok (.imul, 1) := by decide +kernel
theorem dX5_lookForLost_234 : decode cX5_lookForLost 234 = .ok (.goto 11, 3) := by decide +kernel
theorem dX5_lookForLost_237 : decode cX5_lookForLost 237 = .ok (.aload_n 0, 1) := by decide +kernel
theorem dX5_lookForLost_238 : decode cX5_lookForLost 238 = .ok (.getfield 79, 3) := by decide +kernel
theorem dX5_lookForLost_241 : decode cX5_lookForLost 241 = .ok (.iload_n 1, 1) := by decide +kernel
theorem dX5_lookForLost_242 : decode cX5_lookForLost 242 = .ok (.iaload, 1) := by decide +kernel
theorem dX5_lookForLost_243 : decode cX5_lookForLost 243 = .ok (.iconst 2, 1) := by decide +kernel
theorem dX5_lookForLost_244 : decode cX5_lookForLost 244 = .ok (.idiv, 1) := by decide +kernel
theorem dX5_lookForLost_245 : decode cX5_lookForLost 245 = .ok (.iastore, 1) := by decide +kernel
theorem dX5_lookForLost_246 : decode cX5_lookForLost 246 = .ok (.aload_n 0, 1) := by decide +kernel
theorem dX5_lookForLost_247 : decode cX5_lookForLost 247 = .ok (.getfield 82, 3) := by decide +kernel
theorem dX5_lookForLost_250 : decode cX5_lookForLost 250 = .ok (.iload_n 1, 1) := by decide +kernel
theorem dX5_lookForLost_251 : decode cX5_lookForLost 251 = .ok (.aload_n 0, 1) := by decide +kernel
theorem dX5_lookForLost_252 : decode cX5_lookForLost 252 = .ok (.getfield 79, 3) := by decide +kernel
theorem dX5_lookForLost_255 : decode cX5_lookForLost 255 = .ok (.iload_n 1, 1) := by decide +kernel
theorem dX5_lookForLost_256 : decode cX5_lookForLost 256 = .ok (.iaload, 1) := by decide +kernel
theorem dX5_lookForLost_257 : decode cX5_lookForLost 257 = .ok (.iastore, 1) := by decide +kernel
theorem dX5_lookForLost_258 : decode cX5_lookForLost 258 = .ok (.iinc 3 1, 3) := by decide +kernel
theorem dX5_lookForLost_261 : decode cX5_lookForLost 261 = .ok (.goto (-253), 3) := by decide +kernel
theorem dX5_lookForLost_264 : decode cX5_lookForLost 264 = .ok (.return_, 1) := by decide +kernel
theorem dX5_loses_0 : decode cX5_loses 0 = .ok (.iload_n 2, 1) := by decide +kernel
theorem dX5_loses_1 : decode cX5_loses 1 = .ok (.tableswitch 223 2 7 #[39, 49, 59, 161, 171, 205], 39) := by decide +kernel
theorem dX5_loses_40 : decode cX5_loses 40 = .ok (.aload_n 0, 1) := by decide +kernel
theorem dX5_loses_41 : decode cX5_loses 41 = .ok (.getfield 64, 3) := by decide +kernel
theorem dX5_loses_44 : decode cX5_loses 44 = .ok (.iload_n 3, 1) := by decide +kernel
theorem dX5_loses_45 : decode cX5_loses 45 = .ok (.iconst 1, 1) := by decide +kernel
theorem dX5_loses_46 : decode cX5_loses 46 = .ok (.bastore, 1) := by decide +kernel
theorem dX5_loses_47 : decode cX5_loses 47 = .ok (.goto 177, 3) := by decide +kernel
theorem dX5_loses_50 : decode cX5_loses 50 = .ok (.aload_n 0, 1) := by decide +kernel
theorem dX5_loses_51 : decode cX5_loses 51 = .ok (.getfield 115, 3) := by decide +kernel
theorem dX5_loses_54 : decode cX5_loses 54 = .ok (.iload_n 1, 1) := by decide +kernel
theorem dX5_loses_55 : decode cX5_loses 55 = .ok (.iconst 1, 1) := by decide +kernel
theorem dX5_loses_56 : decode cX5_loses 56 = .ok (.bastore, 1) := by decide +kernel
theorem dX5_loses_57 : decode cX5_loses 57 = .ok (.goto 167, 3) := by decide +kernel
theorem dX5_loses_60 : decode cX5_loses 60 = .ok (.iconst 0, 1) := by decide +kernel
theorem dX5_loses_61 : decode cX5_loses 61 = .ok (.istore 6, 2) := by decide +kernel
theorem dX5_loses_63 : decode cX5_loses 63 = .ok (.iload 6, 2) := by decide +kernel
theorem dX5_loses_65 : decode cX5_loses 65 = .ok (.iload 5, 2) := by decide +kernel
theorem dX5_loses_67 : decode cX5_loses 67 = .ok (.sipush 10000, 3) := by decide +kernel
theorem dX5_loses_70 : decode cX5_loses 70 = .ok (.irem, 1) := by decide +kernel
theorem dX5_loses_71 : decode cX5_loses 71 = .ok (.if_icmp .ge 51, 3) := by decide +kernel
theorem dX5_loses_74 : decode cX5_loses 74 = .ok (.sipush 1000, 3) := by decide +kernel
theorem dX5_loses_77 : decode cX5_loses 77 = .ok (.iload_n 3, 1) := by decide +kernel
theorem dX5_loses_78 : decode cX5_loses 78 = .ok (.imul, 1) := by decide +kernel
theorem dX5_loses_79 : decode cX5_loses 79 = .ok (.iload 4, 2) := by decide +kernel
theorem dX5_loses_81 : decode cX5_loses 81 = .ok (.iadd, 1) := by decide +kernel
theorem dX5_loses_82 : decode cX5_loses 82 = .ok (.iload 6, 2) := by decide +kernel
theorem dX5_loses_84 : decode cX5_loses 84 = .ok (.iadd, 1) := by decide +kernel
theorem dX5_loses_85 : decode cX5_loses 85 = .ok (.istore 7, 2) := by decide +kernel
theorem dX5_loses_87 : decode cX5_loses 87 = .ok (.aload_n 0, 1) := by decide +kernel
theorem dX5_loses_88 : decode cX5_loses 88 = .ok (.getfield 48, 3) := by decide +kernel
theorem dX5_loses_91 : decode cX5_loses 91 = .ok (.iload 7, 2) := by decide +kernel
theorem dX5_loses_93 : decode cX5_loses 93 = .ok (.aload_n 0, 1) := by decide +kernel
theorem dX5_loses_94 : decode cX5_loses 94 = .ok (.getfield 48, 3) := by decide +kernel
theorem dX5_loses_97 : decode cX5_loses 97 = .ok (.iload 7, 2) := by decide +kernel
theorem dX5_loses_99 : decode cX5_loses 99 = .ok (.baload, 1) := by decide +kernel
theorem dX5_loses_100 : decode cX5_loses 100 = .ok (.iconst 1, 1) := by decide +kernel
theorem dX5_loses_101 : decode cX5_loses 101 = .ok (.if_icmp .ne 7, 3) := by decide +kernel
theorem dX5_loses_104 : decode cX5_loses 104 = .ok (.iconst 2, 1) := by decide +kernel
theorem dX5_loses_105 : decode cX5_loses 105 = .ok (.goto 10, 3) := by decide +kernel
theorem dX5_loses_108 : decode cX5_loses 108 = .ok (.aload_n 0, 1) := by decide +kernel
theorem dX5_loses_109 : decode cX5_loses 109 = .ok (.getfield 48, 3) := by decide +kernel
theorem dX5_loses_112 : decode cX5_loses 112 = .ok (.iload 7, 2) := by decide +kernel
theorem dX5_loses_114 : decode cX5_loses 114 = .ok (.baload, 1) := by decide +kernel
theorem dX5_loses_115 : decode cX5_loses 115 = .ok (.bastore, 1) := by decide +kernel
theorem dX5_loses_116 : decode cX5_loses 116 = .ok (.iinc 6 1, 3) := by decide +kernel
theorem dX5_loses_119 : decode cX5_loses 119 = .ok (.goto (-56), 3) := by decide +kernel
theorem dX5_loses_122 : decode cX5_loses 122 = .ok (.aload_n 0, 1) := by decide +kernel
theorem dX5_loses_123 : decode cX5_loses 123 = .ok (.getfield 39, 3) := by decide +kernel
theorem dX5_loses_126 : decode cX5_loses 126 = .ok (.iload_n 3, 1) := by decide +kernel
theorem dX5_loses_127 : decode cX5_loses 127 = .ok (.aload_n 0, 1) := by decide +kernel
theorem dX5_loses_128 : decode cX5_loses 128 = .ok (.getfield 39, 3) := by decide +kernel
theorem dX5_loses_131 : decode cX5_loses 131 = .ok (.iload_n 3, 1) := by decide +kernel
theorem dX5_loses_132 : decode cX5_loses 132 = .ok (.baload, 1) := by decide +kernel
theorem dX5_loses_133 : decode cX5_loses 133 = .ok (.ifCond .ne 20, 3) := by decide +kernel
theorem dX5_loses_136 : decode cX5_loses 136 = .ok (.iload 5, 2) := by decide +kernel
theorem dX5_loses_138 : decode cX5_loses 138 = .ok (.sipush 10000, 3) := by decide +kernel
theorem dX5_loses_141 : decode cX5_loses 141 = .ok (.if_icmp .lt 16, 3) := by decide +kernel
theorem dX5_loses_144 : decode cX5_loses 144 = .ok (.aload_n 0, 1) := by decide +kernel
theorem dX5_loses_145 : decode cX5_loses 145 = .ok (.getfield 42, 3) := by decide +kernel
theorem dX5_loses_148 : decode cX5_loses 148 = .ok (.iload_n 3, 1) := by decide +kernel
theorem dX5_loses_149 : decode cX5_loses 149 = .ok (.baload, 1) := by decide +kernel
theorem dX5_loses_150 : decode cX5_loses 150 = .ok (.ifCond .ne 7, 3) := by decide +kernel
theorem dX5_loses_153 : decode cX5_loses 153 = .ok (.iconst 1, 1) := by decide +kernel
theorem dX5_loses_154 : decode cX5_loses 154 = .ok (.goto 4, 3) := by decide +kernel
theorem dX5_loses_157 : decode cX5_loses 157 = .ok (.iconst 0, 1) := by decide +kernel
theorem dX5_loses_158 : decode cX5_loses 158 = .ok (.bastore, 1) := by decide +kernel
theorem dX5_loses_159 : decode cX5_loses 159 = .ok (.goto 65, 3) := by decide +kernel
theorem dX5_loses_162 : decode cX5_loses 162 = .ok (.aload_n 0, 1) := by decide +kernel
theorem dX5_loses_163 : decode cX5_loses 163 = .ok (.getfield 30, 3) := by decide +kernel
theorem dX5_loses_166 : decode cX5_loses 166 = .ok (.iload_n 3, 1) := by decide +kernel
theorem dX5_loses_167 : decode cX5_loses 167 = .ok (.iconst 1, 1) := by decide +kernel
theorem dX5_loses_168 : decode cX5_loses 168 = .ok (.bastore, 1) := by decide +kernel
theorem dX5_loses_169 : decode cX5_loses 169 = .ok (.goto 55, 3) := by decide +kernel
theorem dX5_loses_172 : decode cX5_loses 172 = .ok (.aload_n 0, 1) := by decide +kernel
theorem dX5_loses_173 : decode cX5_loses 173 = .ok (.getfield 235, 3) := by decide +kernel
theorem dX5_loses_176 : decode cX5_loses 176 = .ok (.ifCond .eq 48, 3) := by decide +kernel
theorem dX5_loses_179 : decode cX5_loses 179 = .ok (.iload 4, 2) := by decide +kernel
theorem dX5_loses_181 : decode cX5_loses 181 = .ok (.aload_n 0, 1) := by decide +kernel
theorem dX5_loses_182 : decode cX5_loses 182 = .ok (.getfield 254, 3) := by decide +kernel
theorem dX5_loses_185 : decode cX5_loses 185 = .ok (.if_icmp .ne 39, 3) := by decide +kernel
theorem dX5_loses_188 : decode cX5_loses 188 = .ok (.aload_n 0, 1) := by decide +kernel
theorem dX5_loses_189 : decode cX5_loses 189 = .ok (.getfield 127, 3) := by decide +kernel
theorem dX5_loses_192 : decode cX5_loses 192 = .ok (.iload_n 1, 1) := by decide +kernel
theorem dX5_loses_193 : decode cX5_loses 193 = .ok (.iconst 1, 1) := by decide +kernel
theorem dX5_loses_194 : decode cX5_loses 194 = .ok (.bastore, 1) := by decide +kernel
theorem dX5_loses_195 : decode cX5_loses 195 = .ok (.aload_n 0, 1) := by decide +kernel
theorem dX5_loses_196 : decode cX5_loses 196 = .ok (.getfield 130, 3) := by decide +kernel
theorem dX5_loses_199 : decode cX5_loses 199 = .ok (.iload_n 1, 1) := by decide +kernel
theorem dX5_loses_200 : decode cX5_loses 200 = .ok (.iload 4, 2) := by decide +kernel
theorem dX5_loses_202 : decode cX5_loses 202 = .ok (.iastore, 1) := by decide +kernel
theorem dX5_loses_203 : decode cX5_loses 203 = .ok (.goto 21, 3) := by decide +kernel
theorem dX5_loses_206 : decode cX5_loses 206 = .ok (.aload_n 0, 1) := by decide +kernel
theorem dX5_loses_207 : decode cX5_loses 207 = .ok (.getfield 133, 3) := by decide +kernel
theorem dX5_loses_210 : decode cX5_loses 210 = .ok (.iload_n 1, 1) := by decide +kernel
theorem dX5_loses_211 : decode cX5_loses 211 = .ok (.iconst 1, 1) := by decide +kernel
theorem dX5_loses_212 : decode cX5_loses 212 = .ok (.bastore, 1) := by decide +kernel
theorem dX5_loses_213 : decode cX5_loses 213 = .ok (.aload_n 0, 1) := by decide +kernel
theorem dX5_loses_214 : decode cX5_loses 214 = .ok (.getfield 136, 3) := by decide +kernel
theorem dX5_loses_217 : decode cX5_loses 217 = .ok (.iload_n 1, 1) := by decide +kernel
theorem dX5_loses_218 : decode cX5_loses 218 = .ok (.iload 4, 2) := by decide +kernel
theorem dX5_loses_220 : decode cX5_loses 220 = .ok (.iastore, 1) := by decide +kernel
theorem dX5_loses_221 : decode cX5_loses 221 = .ok (.goto 3, 3) := by decide +kernel
theorem dX5_loses_224 : decode cX5_loses 224 = .ok (.return_, 1) := by decide +kernel
theorem dX5_drop_0 : decode cX5_drop 0 = .ok (.iload_n 1, 1) := by decide +kernel
theorem dX5_drop_1 : decode cX5_drop 1 = .ok (.i2l, 1) := by decide +kernel
theorem dX5_drop_2 : decode cX5_drop 2 = .ok (.lconst 0, 1) := by decide +kernel
theorem dX5_drop_3 : decode cX5_drop 3 = .ok (.aload_n 0, 1) := by decide +kernel
theorem dX5_drop_4 : decode cX5_drop 4 = .ok (.getfield 232, 3) := by decide +kernel
theorem dX5_drop_7 : decode cX5_drop 7 = .ok (.iconst 1, 1) := by decide +kernel
theorem dX5_drop_8 : decode cX5_drop 8 = .ok (.isub, 1) := by decide +kernel
theorem dX5_drop_9 : decode cX5_drop 9 = .ok (.i2l, 1) := by decide +kernel
theorem dX5_drop_10 : decode cX5_drop 10 = .ok (.invokestatic 185, 3) := by decide +kernel
theorem dX5_drop_13 : decode cX5_drop 13 = .ok (.ifCond .ne 5, 3) := by decide +kernel
theorem dX5_drop_16 : decode cX5_drop 16 = .ok (.iconst (-1), 1) := by decide +kernel
theorem dX5_drop_17 : decode cX5_drop 17 = .ok (.ireturn, 1) := by decide +kernel
theorem dX5_drop_18 : decode cX5_drop 18 = .ok (.aload_n 0, 1) := by decide +kernel
theorem dX5_drop_19 : decode cX5_drop 19 = .ok (.iload_n 1, 1) := by decide +kernel
theorem dX5_drop_20 : decode cX5_drop 20 = .ok (.invokevirtual 264, 3) := by decide +kernel
theorem dX5_drop_23 : decode cX5_drop 23 = .ok (.aload_n 0, 1) := by decide +kernel
theorem dX5_drop_24 : decode cX5_drop 24 = .ok (.getfield 232, 3) := by decide +kernel
theorem dX5_drop_27 : decode cX5_drop 27 = .ok (.ireturn, 1) := by decide +kernel
theorem dX5_twice_0 : decode cX5_twice 0 = .ok (.iload_n 1, 1) := by decide +kernel
theorem dX5_twice_1 : decode cX5_twice 1 = .ok (.i2l, 1) := by decide +kernel
theorem dX5_twice_2 : decode cX5_twice 2 = .ok (.lconst 0, 1) := by decide +kernel
theorem dX5_twice_3 : decode cX5_twice 3 = .ok (.aload_n 0, 1) := by decide +kernel
theorem dX5_twice_4 : decode cX5_twice 4 = .ok (.getfield 232, 3) := by decide +kernel
theorem dX5_twice_7 : decode cX5_twice 7 = .ok (.iconst 1, 1) := by decide +kernel
theorem dX5_twice_8 : decode cX5_twice 8 = .ok (.isub, 1) := by decide +kernel
theorem dX5_twice_9 : decode cX5_twice 9 = .ok (.i2l, 1) := by decide +kernel
theorem dX5_twice_10 : decode cX5_twice 10 = .ok (.invokestatic 185, 3) := by decide +kernel
theorem dX5_twice_13 : decode cX5_twice 13 = .ok (.ifCond .ne 5, 3) := by decide +kernel
theorem dX5_twice_16 : decode cX5_twice 16 = .ok (.iconst (-1), 1) := by decide +kernel
theorem dX5_twice_17 : decode cX5_twice 17 = .ok (.ireturn, 1) := by decide +kernel
theorem dX5_twice_18 : decode cX5_twice 18 = .ok (.aload_n 0, 1) := by decide +kernel
theorem dX5_twice_19 : decode cX5_twice 19 = .ok (.getfield 232, 3) := by decide +kernel
theorem dX5_twice_22 : decode cX5_twice 22 = .ok (.sipush 400, 3) := by decide +kernel
theorem dX5_twice_25 : decode cX5_twice 25 = .ok (.if_icmp .ne 6, 3) := by decide +kernel
theorem dX5_twice_28 : decode cX5_twice 28 = .ok (.bipush (-4), 2) := by decide +kernel
theorem dX5_twice_30 : decode cX5_twice 30 = .ok (.ireturn, 1) := by decide +kernel
theorem dX5_twice_31 : decode cX5_twice 31 = .ok (.aload_n 0, 1) := by decide +kernel
theorem dX5_twice_32 : decode cX5_twice 32 = .ok (.getfield 170, 3) := by decide +kernel
theorem dX5_twice_35 : decode cX5_twice 35 = .ok (.aload_n 0, 1) := by decide +kernel
theorem dX5_twice_36 : decode cX5_twice 36 = .ok (.getfield 232, 3) := by decide +kernel
theorem dX5_twice_39 : decode cX5_twice 39 = .ok (.aload_n 0, 1) := by decide +kernel
theorem dX5_twice_40 : decode cX5_twice 40 = .ok (.getfield 170, 3) := by decide +kernel
theorem dX5_twice_43 : decode cX5_twice 43 = .ok (.iload_n 1, 1) := by decide +kernel
theorem dX5_twice_44 : decode cX5_twice 44 = .ok (.iaload, 1) := by decide +kernel
theorem dX5_twice_45 : decode cX5_twice 45 = .ok (.iastore, 1) := by decide +kernel
theorem dX5_twice_46 : decode cX5_twice 46 = .ok (.aload_n 0, 1) := by decide +kernel
theorem dX5_twice_47 : decode cX5_twice 47 = .ok (.getfield 173, 3) := by decide +kernel
theorem dX5_twice_50 : decode cX5_twice 50 = .ok (.aload_n 0, 1) := by decide +kernel
theorem dX5_twice_51 : decode cX5_twice 51 = .ok (.getfield 232, 3) := by decide +kernel
theorem dX5_twice_54 : decode cX5_twice 54 = .ok (.aload_n 0, 1) := by decide +kernel
theorem dX5_twice_55 : decode cX5_twice 55 = .ok (.getfield 173, 3) := by decide +kernel
theorem dX5_twice_58 : decode cX5_twice 58 = .ok (.iload_n 1, 1) := by decide +kernel
theorem dX5_twice_59 : decode cX5_twice 59 = .ok (.iaload, 1) := by decide +kernel
theorem dX5_twice_60 : decode cX5_twice 60 = .ok (.iastore, 1) := by decide +kernel
theorem dX5_twice_61 : decode cX5_twice 61 = .ok (.aload_n 0, 1) := by decide +kernel
theorem dX5_twice_62 : decode cX5_twice 62 = .ok (.dup, 1) := by decide +kernel
theorem dX5_twice_63 : decode cX5_twice 63 = .ok (.getfield 232, 3) := by decide +kernel
theorem dX5_twice_66 : decode cX5_twice 66 = .ok (.iconst 1, 1) := by decide +kernel
theorem dX5_twice_67 : decode cX5_twice 67 = .ok (.iadd, 1) := by decide +kernel
theorem dX5_twice_68 : decode cX5_twice 68 = .ok (.putfield 232, 3) := by decide +kernel
theorem dX5_twice_71 : decode cX5_twice 71 = .ok (.aload_n 0, 1) := by decide +kernel
theorem dX5_twice_72 : decode cX5_twice 72 = .ok (.getfield 232, 3) := by decide +kernel
theorem dX5_twice_75 : decode cX5_twice 75 = .ok (.ireturn, 1) := by decide +kernel
theorem dX5_waitOf_0 : decode cX5_waitOf 0 = .ok (.aload_n 0, 1) := by decide +kernel
theorem dX5_waitOf_1 : decode cX5_waitOf 1 = .ok (.getfield 88, 3) := by decide +kernel
theorem dX5_waitOf_4 : decode cX5_waitOf 4 = .ok (.iload_n 1, 1) := by decide +kernel
theorem dX5_waitOf_5 : decode cX5_waitOf 5 = .ok (.iaload, 1) := by decide +kernel
theorem dX5_waitOf_6 : decode cX5_waitOf 6 = .ok (.ifCond .ge 6, 3) := by decide +kernel
theorem dX5_waitOf_9 : decode cX5_waitOf 9 = .ok (.bipush 8, 2) := by decide +kernel
theorem dX5_waitOf_11 : decode cX5_waitOf 11 = .ok (.ireturn, 1) := by decide +kernel
theorem dX5_waitOf_12 : decode cX5_waitOf 12 = .ok (.iconst 4, 1) := by decide +kernel
theorem dX5_waitOf_13 : decode cX5_waitOf 13 = .ok (.aload_n 0, 1) := by decide +kernel
theorem dX5_waitOf_14 : decode cX5_waitOf 14 = .ok (.getfield 94, 3) := by decide +kernel
theorem dX5_waitOf_17 : decode cX5_waitOf 17 = .ok (.iload_n 1, 1) := by decide +kernel
theorem dX5_waitOf_18 : decode cX5_waitOf 18 = .ok (.iaload, 1) := by decide +kernel
theorem dX5_waitOf_19 : decode cX5_waitOf 19 = .ok (.imul, 1) := by decide +kernel
theorem dX5_waitOf_20 : decode cX5_waitOf 20 = .ok (.bipush 8, 2) := by decide +kernel
theorem dX5_waitOf_22 : decode cX5_waitOf 22 = .ok (.if_icmp .le 14, 3) := by decide +kernel
theorem dX5_waitOf_25 : decode cX5_waitOf 25 = .ok (.iconst 4, 1) := by decide +kernel
theorem dX5_waitOf_26 : decode cX5_waitOf 26 = .ok (.aload_n 0, 1) := by decide +kernel
theorem dX5_waitOf_27 : decode cX5_waitOf 27 = .ok (.getfield 94, 3) := by decide +kernel
theorem dX5_waitOf_30 : decode cX5_waitOf 30 = .ok (.iload_n 1, 1) := by decide +kernel
theorem dX5_waitOf_31 : decode cX5_waitOf 31 = .ok (.iaload, 1) := by decide +kernel
theorem dX5_waitOf_32 : decode cX5_waitOf 32 = .ok (.imul, 1) := by decide +kernel
theorem dX5_waitOf_33 : decode cX5_waitOf 33 = .ok (.goto 5, 3) := by decide +kernel
theorem dX5_waitOf_36 : decode cX5_waitOf 36 = .ok (.bipush 8, 2) := by decide +kernel
theorem dX5_waitOf_38 : decode cX5_waitOf 38 = .ok (.istore_n 2, 1) := by decide +kernel
theorem dX5_waitOf_39 : decode cX5_waitOf 39 = .ok (.aload_n 0, 1) := by decide +kernel
theorem dX5_waitOf_40 : decode cX5_waitOf 40 = .ok (.getfield 91, 3) := by decide +kernel
theorem dX5_waitOf_43 : decode cX5_waitOf 43 = .ok (.iload_n 1, 1) := by decide +kernel
theorem dX5_waitOf_44 : decode cX5_waitOf 44 = .ok (.iaload, 1) := by decide +kernel
theorem dX5_waitOf_45 : decode cX5_waitOf 45 = .ok (.iload_n 2, 1) := by decide +kernel
theorem dX5_waitOf_46 : decode cX5_waitOf 46 = .ok (.iadd, 1) := by decide +kernel
theorem dX5_waitOf_47 : decode cX5_waitOf 47 = .ok (.bipush 8, 2) := by decide +kernel
theorem dX5_waitOf_49 : decode cX5_waitOf 49 = .ok (.idiv, 1) := by decide +kernel
theorem dX5_waitOf_50 : decode cX5_waitOf 50 = .ok (.iconst 2, 1) := by decide +kernel
theorem dX5_waitOf_51 : decode cX5_waitOf 51 = .ok (.iadd, 1) := by decide +kernel
theorem dX5_waitOf_52 : decode cX5_waitOf 52 = .ok (.ireturn, 1) := by decide +kernel
theorem dX5_tick_0 : decode cX5_tick 0 = .ok (.iload_n 1, 1) := by decide +kernel
theorem dX5_tick_1 : decode cX5_tick 1 = .ok (.i2l, 1) := by decide +kernel
theorem dX5_tick_2 : decode cX5_tick 2 = .ok (.lconst 1, 1) := by decide +kernel
theorem dX5_tick_3 : decode cX5_tick 3 = .ok (.ldc2_w 191, 3) := by decide +kernel
theorem dX5_tick_6 : decode cX5_tick 6 = .ok (.invokestatic 185, 3) := by decide +kernel
theorem dX5_tick_9 : decode cX5_tick 9 = .ok (.ifCond .ne 6, 3) := by decide +kernel
theorem dX5_tick_12 : decode cX5_tick 12 = .ok (.bipush (-2), 2) := by decide +kernel
theorem dX5_tick_14 : decode cX5_tick 14 = .ok (.ireturn, 1) := by decide +kernel
theorem dX5_tick_15 : decode cX5_tick 15 = .ok (.iconst 0, 1) := by decide +kernel
theorem dX5_tick_16 : decode cX5_tick 16 = .ok (.istore_n 2, 1) := by decide +kernel
theorem dX5_tick_17 : decode cX5_tick 17 = .ok (.iload_n 2, 1) := by decide +kernel
theorem dX5_tick_18 : decode cX5_tick 18 = .ok (.iload_n 1, 1) := by decide +kernel
theorem dX5_tick_19 : decode cX5_tick 19 = .ok (.if_icmp .ge 113, 3) := by decide +kernel
theorem dX5_tick_22 : decode cX5_tick 22 = .ok (.aload_n 0, 1) := by decide +kernel
theorem dX5_tick_23 : decode cX5_tick 23 = .ok (.dup, 1) := by decide +kernel
theorem dX5_tick_24 : decode cX5_tick 24 = .ok (.getfield 251, 3) := by decide +kernel
theorem dX5_tick_27 : decode cX5_tick 27 = .ok (.iconst 1, 1) := by decide +kernel
theorem dX5_tick_28 : decode cX5_tick 28 = .ok (.iadd, 1) := by decide +kernel
theorem dX5_tick_29 : decode cX5_tick 29 = .ok (.putfield 251, 3) := by decide +kernel
theorem dX5_tick_32 : decode cX5_tick 32 = .ok (.iconst 0, 1) := by decide +kernel
theorem dX5_tick_33 : decode cX5_tick 33 = .ok (.istore_n 3, 1) := by decide +kernel
theorem dX5_tick_34 : decode cX5_tick 34 = .ok (.iload_n 3, 1) := by decide +kernel
theorem dX5_tick_35 : decode cX5_tick 35 = .ok (.iconst 2, 1) := by decide +kernel
theorem dX5_tick_36 : decode cX5_tick 36 = .ok (.if_icmp .ge 90, 3) := by decide +kernel
theorem dX5_tick_39 : decode cX5_tick 39 = .ok (.aload_n 0, 1) := by decide +kernel
theorem dX5_tick_40 : decode cX5_tick 40 = .ok (.iload_n 3, 1) := by decide +kernel
theorem dX5_tick_41 : decode cX5_tick 41 = .ok (.invokevirtual 291, 3) := by decide +kernel
theorem dX5_tick_44 : decode cX5_tick 44 = .ok (.aload_n 0, 1) := by decide +kernel
theorem dX5_tick_45 : decode cX5_tick 45 = .ok (.iload_n 3, 1) := by decide +kernel
theorem dX5_tick_46 : decode cX5_tick 46 = .ok (.invokevirtual 301, 3) := by decide +kernel
theorem dX5_tick_49 : decode cX5_tick 49 = .ok (.i2l, 1) := by decide +kernel
theorem dX5_tick_50 : decode cX5_tick 50 = .ok (.aload_n 0, 1) := by decide +kernel
theorem dX5_tick_51 : decode cX5_tick 51 = .ok (.getfield 97, 3) := by decide +kernel
theorem dX5_tick_54 : decode cX5_tick 54 = .ok (.iload_n 3, 1) := by decide +kernel
theorem dX5_tick_55 : decode cX5_tick 55 = .ok (.iaload, 1) := by decide +kernel
theorem dX5_tick_56 : decode cX5_tick 56 = .ok (.bipush 6, 2) := by decide +kernel
theorem dX5_tick_58 : decode cX5_tick 58 = .ok (.if_icmp .le 8, 3) := by decide +kernel
theorem dX5_tick_61 : decode cX5_tick 61 = .ok (.bipush 6, 2) := by decide +kernel
theorem dX5_tick_63 : decode cX5_tick 63 = .ok (.goto 9, 3) := by decide +kernel
theorem dX5_tick_66 : decode cX5_tick 66 = .ok (.aload_n 0, 1) := by decide +kernel
theorem dX5_tick_67 : decode cX5_tick 67 = .ok (.getfield 97, 3) := by decide +kernel
theorem dX5_tick_70 : decode cX5_tick 70 = .ok (.iload_n 3, 1) := by decide +kernel
theorem dX5_tick_71 : decode cX5_tick 71 = .ok (.iaload, 1) := by decide +kernel
theorem dX5_tick_72 : decode cX5_tick 72 = .ok (.lshl, 1) := by decide +kernel
theorem dX5_tick_73 : decode cX5_tick 73 = .ok (.lstore 4, 2) := by decide +kernel
theorem dX5_tick_75 : decode cX5_tick 75 = .ok (.aload_n 0, 1) := by decide +kernel
theorem dX5_tick_76 : decode cX5_tick 76 = .ok (.getfield 76, 3) := by decide +kernel
theorem dX5_tick_79 : decode cX5_tick 79 = .ok (.iload_n 3, 1) := by decide +kernel
theorem dX5_tick_80 : decode cX5_tick 80 = .ok (.iaload, 1) := by decide +kernel
theorem dX5_tick_81 : decode cX5_tick 81 = .ok (.ifCond .le 39, 3) := by decide +kernel
theorem dX5_tick_84 : decode cX5_tick 84 = .ok (.aload_n 0, 1) := by decide +kernel
theorem dX5_tick_85 : decode cX5_tick 85 = .ok (.getfield 251, 3) := by decide +kernel
theorem dX5_tick_88 : decode cX5_tick 88 = .ok (.i2l, 1) := by decide +kernel
theorem dX5_tick_89 : decode cX5_tick 89 = .ok (.aload_n 0, 1) := by decide +kernel
theorem dX5_tick_90 : decode cX5_tick 90 = .ok (.getfield 121, 3) := by decide +kernel
theorem dX5_tick_93 : decode cX5_tick 93 = .ok (.iload_n 3, 1) := by decide +kernel
theorem dX5_tick_94 : decode cX5_tick 94 = .ok (.iaload, 1) := by decide +kernel
theorem dX5_tick_95 : decode cX5_tick 95 = .ok (.i2l, 1) := by decide +kernel
theorem dX5_tick_96 : decode cX5_tick 96 = .ok (.lload 4, 2) := by decide +kernel
theorem dX5_tick_98 : decode cX5_tick 98 = .ok (.ladd, 1) := by decide +kernel
theorem dX5_tick_99 : decode cX5_tick 99 = .ok (.lcmp, 1) := by decide +kernel
theorem dX5_tick_100 : decode cX5_tick 100 = .ok (.ifCond .lt 20, 3) := by decide +kernel
theorem dX5_tick_103 : decode cX5_tick 103 = .ok (.aload_n 0, 1) := by decide +kernel
theorem dX5_tick_104 : decode cX5_tick 104 = .ok (.getfield 100, 3) := by decide +kernel
theorem dX5_tick_107 : decode cX5_tick 107 = .ok (.iload_n 3, 1) := by decide +kernel
theorem dX5_tick_108 : decode cX5_tick 108 = .ok (.iconst 1, 1) := by decide +kernel
theorem dX5_tick_109 : decode cX5_tick 109 = .ok (.bastore, 1) := by decide +kernel
theorem dX5_tick_110 : decode cX5_tick 110 = .ok (.aload_n 0, 1) := by decide +kernel
theorem dX5_tick_111 : decode cX5_tick 111 = .ok (.getfield 97, 3) := by decide +kernel
theorem dX5_tick_114 : decode cX5_tick 114 = .ok (.iload_n 3, 1) := by decide +kernel
theorem dX5_tick_115 : decode cX5_tick 115 = .ok (.dup2, 1) := by decide +kernel
theorem dX5_tick_116 : decode cX5_tick 116 = .ok (.iaload, 1) := by decide +kernel
theorem dX5_tick_117 : decode cX5_tick 117 = .ok (.iconst 1, 1) := by decide +kernel
theorem dX5_tick_118 : decode cX5_tick 118 = .ok (.iadd, 1) := by decide +kernel
theorem dX5_tick_119 : decode cX5_tick 119 = .ok (.iastore, 1) := by decide +kernel
theorem dX5_tick_120 : decode cX5_tick 120 = .ok (.iinc 3 1, 3) := by decide +kernel
theorem dX5_tick_123 : decode cX5_tick 123 = .ok (.goto (-89), 3) := by decide +kernel
theorem dX5_tick_126 : decode cX5_tick 126 = .ok (.iinc 2 1, 3) := by decide +kernel
theorem dX5_tick_129 : decode cX5_tick 129 = .ok (.goto (-112), 3) := by decide +kernel
theorem dX5_tick_132 : decode cX5_tick 132 = .ok (.aload_n 0, 1) := by decide +kernel
theorem dX5_tick_133 : decode cX5_tick 133 = .ok (.getfield 251, 3) := by decide +kernel
theorem dX5_tick_136 : decode cX5_tick 136 = .ok (.ireturn, 1) := by decide +kernel
theorem dX5_asInt_0 : decode cX5_asInt 0 = .ok (.iload_n 0, 1) := by decide +kernel
theorem dX5_asInt_1 : decode cX5_asInt 1 = .ok (.ifCond .eq 7, 3) := by decide +kernel
theorem dX5_asInt_4 : decode cX5_asInt 4 = .ok (.iconst 1, 1) := by decide +kernel
theorem dX5_asInt_5 : decode cX5_asInt 5 = .ok (.goto 4, 3) := by decide +kernel
theorem dX5_asInt_8 : decode cX5_asInt 8 = .ok (.iconst 0, 1) := by decide +kernel
theorem dX5_asInt_9 : decode cX5_asInt 9 = .ok (.ireturn, 1) := by decide +kernel
theorem dX5_many_0 : decode cX5_many 0 = .ok (.iconst 0, 1) := by decide +kernel
theorem dX5_many_1 : decode cX5_many 1 = .ok (.istore_n 3, 1) := by decide +kernel
theorem dX5_many_2 : decode cX5_many 2 = .ok (.iconst 0, 1) := by decide +kernel
theorem dX5_many_3 : decode cX5_many 3 = .ok (.istore 4, 2) := by decide +kernel
theorem dX5_many_5 : decode cX5_many 5 = .ok (.iload 4, 2) := by decide +kernel
theorem dX5_many_7 : decode cX5_many 7 = .ok (.sipush 1000, 3) := by decide +kernel
theorem dX5_many_10 : decode cX5_many 10 = .ok (.if_icmp .ge 34, 3) := by decide +kernel
theorem dX5_many_13 : decode cX5_many 13 = .ok (.iload_n 3, 1) := by decide +kernel
theorem dX5_many_14 : decode cX5_many 14 = .ok (.aload_n 0, 1) := by decide +kernel
theorem dX5_many_15 : decode cX5_many 15 = .ok (.getfield 48, 3) := by decide +kernel
theorem dX5_many_18 : decode cX5_many 18 = .ok (.sipush 1000, 3) := by decide +kernel
theorem dX5_many_21 : decode cX5_many 21 = .ok (.iload_n 1, 1) := by decide +kernel
theorem dX5_many_22 : decode cX5_many 22 = .ok (.imul, 1) := by decide +kernel
theorem dX5_many_23 : decode cX5_many 23 = .ok (.iload 4, 2) := by decide +kernel
theorem dX5_many_25 : decode cX5_many 25 = .ok (.iadd, 1) := by decide +kernel
theorem dX5_many_26 : decode cX5_many 26 = .ok (.baload, 1) := by decide +kernel
theorem dX5_many_27 : decode cX5_many 27 = .ok (.iload_n 2, 1) := by decide +kernel
theorem dX5_many_28 : decode cX5_many 28 = .ok (.if_icmp .ne 7, 3) := by decide +kernel
theorem dX5_many_31 : decode cX5_many 31 = .ok (.iconst 1, 1) := by decide +kernel
theorem dX5_many_32 : decode cX5_many 32 = .ok (.goto 4, 3) := by decide +kernel
theorem dX5_many_35 : decode cX5_many 35 = .ok (.iconst 0, 1) := by decide +kernel
theorem dX5_many_36 : decode cX5_many 36 = .ok (.iadd, 1) := by decide +kernel
theorem dX5_many_37 : decode cX5_many 37 = .ok (.istore_n 3, 1) := by decide +kernel
theorem dX5_many_38 : decode cX5_many 38 = .ok (.iinc 4 1, 3) := by decide +kernel
theorem dX5_many_41 : decode cX5_many 41 = .ok (.goto (-36), 3) := by decide +kernel
theorem dX5_many_44 : decode cX5_many 44 = .ok (.iload_n 3, 1) := by decide +kernel
theorem dX5_many_45 : decode cX5_many 45 = .ok (.ireturn, 1) := by decide +kernel
theorem dX5_cameMany_0 : decode cX5_cameMany 0 = .ok (.iconst 0, 1) := by decide +kernel
theorem dX5_cameMany_1 : decode cX5_cameMany 1 = .ok (.istore_n 2, 1) := by decide +kernel
theorem dX5_cameMany_2 : decode cX5_cameMany 2 = .ok (.iconst 0, 1) := by decide +kernel
theorem dX5_cameMany_3 : decode cX5_cameMany 3 = .ok (.istore_n 3, 1) := by decide +kernel
theorem dX5_cameMany_4 : decode cX5_cameMany 4 = .ok (.iload_n 3, 1) := by decide +kernel
theorem dX5_cameMany_5 : decode cX5_cameMany 5 = .ok (.sipush 1000, 3) := by decide +kernel
theorem dX5_cameMany_8 : decode cX5_cameMany 8 = .ok (.if_icmp .ge 32, 3) := by decide +kernel
theorem dX5_cameMany_11 : decode cX5_cameMany 11 = .ok (.iload_n 2, 1) := by decide +kernel
theorem dX5_cameMany_12 : decode cX5_cameMany 12 = .ok (.aload_n 0, 1) := by decide +kernel
theorem dX5_cameMany_13 : decode cX5_cameMany 13 = .ok (.getfield 52, 3) := by decide +kernel
theorem dX5_cameMany_16 : decode cX5_cameMany 16 = .ok (.sipush 1000, 3) := by decide +kernel
theorem dX5_cameMany_19 : decode cX5_cameMany 19 = .ok (.iload_n 1, 1) := by decide +kernel
theorem dX5_cameMany_20 : decode cX5_cameMany 20 = .ok (.imul, 1) := by decide +kernel
theorem dX5_cameMany_21 : decode cX5_cameMany 21 = .ok (.iload_n 3, 1) := by decide +kernel
theorem dX5_cameMany_22 : decode cX5_cameMany 22 = .ok (.iadd, 1) := by decide +kernel
theorem dX5_cameMany_23 : decode cX5_cameMany 23 = .ok (.baload, 1) := by decide +kernel
theorem dX5_cameMany_24 : decode cX5_cameMany 24 = .ok (.ifCond .eq 7, 3) := by decide +kernel
theorem dX5_cameMany_27 : decode cX5_cameMany 27 = .ok (.iconst 1, 1) := by decide +kernel
theorem dX5_cameMany_28 : decode cX5_cameMany 28 = .ok (.goto 4, 3) := by decide +kernel
theorem dX5_cameMany_31 : decode cX5_cameMany 31 = .ok (.iconst 0, 1) := by decide +kernel
theorem dX5_cameMany_32 : decode cX5_cameMany 32 = .ok (.iadd, 1) := by decide +kernel
theorem dX5_cameMany_33 : decode cX5_cameMany 33 = .ok (.istore_n 2, 1) := by decide +kernel
theorem dX5_cameMany_34 : decode cX5_cameMany 34 = .ok (.iinc 3 1, 3) := by decide +kernel
theorem dX5_cameMany_37 : decode cX5_cameMany 37 = .ok (.goto (-33), 3) := by decide +kernel
theorem dX5_cameMany_40 : decode cX5_cameMany 40 = .ok (.iload_n 2, 1) := by decide +kernel
theorem dX5_cameMany_41 : decode cX5_cameMany 41 = .ok (.ireturn, 1) := by decide +kernel
theorem dX5_stream_0 : decode cX5_stream 0 = .ok (.iload_n 1, 1) := by decide +kernel
theorem dX5_stream_1 : decode cX5_stream 1 = .ok (.invokestatic 201, 3) := by decide +kernel
theorem dX5_stream_4 : decode cX5_stream 4 = .ok (.ifCond .ne 5, 3) := by decide +kernel
theorem dX5_stream_7 : decode cX5_stream 7 = .ok (.iconst (-1), 1) := by decide +kernel
theorem dX5_stream_8 : decode cX5_stream 8 = .ok (.ireturn, 1) := by decide +kernel
theorem dX5_stream_9 : decode cX5_stream 9 = .ok (.iload_n 2, 1) := by decide +kernel
theorem dX5_stream_10 : decode cX5_stream 10 = .ok (.tableswitch 193 0 14 #[74, 81, 91, 101, 108, 115, 122, 129, 139, 145, 152, 159, 166, 176, 183], 74) := by decide +kernel
theorem dX5_stream_84 : decode cX5_stream 84 = .ok (.aload_n 0, 1) := by decide +kernel
theorem dX5_stream_85 : decode cX5_stream 85 = .ok (.getfield 19, 3) := by decide +kernel
theorem dX5_stream_88 : decode cX5_stream 88 = .ok (.iload_n 1, 1) := by decide +kernel
theorem dX5_stream_89 : decode cX5_stream 89 = .ok (.iaload, 1) := by decide +kernel
theorem dX5_stream_90 : decode cX5_stream 90 = .ok (.ireturn, 1) := by decide +kernel
theorem dX5_stream_91 : decode cX5_stream 91 = .ok (.aload_n 0, 1) := by decide +kernel
theorem dX5_stream_92 : decode cX5_stream 92 = .ok (.getfield 23, 3) := by decide +kernel
theorem dX5_stream_95 : decode cX5_stream 95 = .ok (.iload_n 1, 1) := by decide +kernel
theorem dX5_stream_96 : decode cX5_stream 96 = .ok (.baload, 1) := by decide +kernel
theorem dX5_stream_97 : decode cX5_stream 97 = .ok (.invokestatic 304, 3) := by decide +kernel
theorem dX5_stream_100 : decode cX5_stream 100 = .ok (.ireturn, 1) := by decide +kernel
theorem dX5_stream_101 : decode cX5_stream 101 = .ok (.aload_n 0, 1) := by decide +kernel
theorem dX5_stream_102 : decode cX5_stream 102 = .ok (.getfield 27, 3) := by decide +kernel
theorem dX5_stream_105 : decode cX5_stream 105 = .ok (.iload_n 1, 1) := by decide +kernel
theorem dX5_stream_106 : decode cX5_stream 106 = .ok (.baload, 1) := by decide +kernel
theorem dX5_stream_107 : decode cX5_stream 107 = .ok (.invokestatic 304, 3) := by decide +kernel
theorem dX5_stream_110 : decode cX5_stream 110 = .ok (.ireturn, 1) := by decide +kernel
theorem dX5_stream_111 : decode cX5_stream 111 = .ok (.aload_n 0, 1) := by decide +kernel
theorem dX5_stream_112 : decode cX5_stream 112 = .ok (.getfield 33, 3) := by decide +kernel
theorem dX5_stream_115 : decode cX5_stream 115 = .ok (.iload_n 1, 1) := by decide +kernel
theorem dX5_stream_116 : decode cX5_stream 116 = .ok (.iaload, 1) := by decide +kernel
theorem dX5_stream_117 : decode cX5_stream 117 = .ok (.ireturn, 1) := by decide +kernel
theorem dX5_stream_118 : decode cX5_stream 118 = .ok (.aload_n 0, 1) := by decide +kernel
theorem dX5_stream_119 : decode cX5_stream 119 = .ok (.iload_n 1, 1) := by decide +kernel
theorem dX5_stream_120 : decode cX5_stream 120 = .ok (.iconst 3, 1) := by decide +kernel
theorem dX5_stream_121 : decode cX5_stream 121 = .ok (.invokevirtual 308, 3) := by decide +kernel
theorem dX5_stream_124 : decode cX5_stream 124 = .ok (.ireturn, 1) := by decide +kernel
theorem dX5_stream_125 : decode cX5_stream 125 = .ok (.aload_n 0, 1) := by decide +kernel
theorem dX5_stream_126 : decode cX5_stream 126 = .ok (.iload_n 1, 1) := by decide +kernel
theorem dX5_stream_127 : decode cX5_stream 127 = .ok (.iconst 2, 1) := by decide +kernel
theorem dX5_stream_128 : decode cX5_stream 128 = .ok (.invokevirtual 308, 3) := by decide +kernel
theorem dX5_stream_131 : decode cX5_stream 131 = .ok (.ireturn, 1) := by decide +kernel
theorem dX5_stream_132 : decode cX5_stream 132 = .ok (.aload_n 0, 1) := by decide +kernel
theorem dX5_stream_133 : decode cX5_stream 133 = .ok (.getfield 45, 3) := by decide +kernel
theorem dX5_stream_136 : decode cX5_stream 136 = .ok (.iload_n 1, 1) := by decide +kernel
theorem dX5_stream_137 : decode cX5_stream 137 = .ok (.iaload, 1) := by decide +kernel
theorem dX5_stream_138 : decode cX5_stream 138 = .ok (.ireturn, 1) := by decide +kernel
theorem dX5_stream_139 : decode cX5_stream 139 = .ok (.aload_n 0, 1) := by decide +kernel
theorem dX5_stream_140 : decode cX5_stream 140 = .ok (.getfield 42, 3) := by decide +kernel
theorem dX5_stream_143 : decode cX5_stream 143 = .ok (.iload_n 1, 1) := by decide +kernel
theorem dX5_stream_144 : decode cX5_stream 144 = .ok (.baload, 1) := by decide +kernel
theorem dX5_stream_145 : decode cX5_stream 145 = .ok (.invokestatic 304, 3) := by decide +kernel
theorem dX5_stream_148 : decode cX5_stream 148 = .ok (.ireturn, 1) := by decide +kernel
theorem dX5_stream_149 : decode cX5_stream 149 = .ok (.aload_n 0, 1) := by decide +kernel
theorem dX5_stream_150 : decode cX5_stream 150 = .ok (.iload_n 1, 1) := by decide +kernel
theorem dX5_stream_151 : decode cX5_stream 151 = .ok (.invokevirtual 311, 3) := by decide +kernel
theorem dX5_stream_154 : decode cX5_stream 154 = .ok (.ireturn, 1) := by decide +kernel
theorem dX5_stream_155 : decode cX5_stream 155 = .ok (.aload_n 0, 1) := by decide +kernel
theorem dX5_stream_156 : decode cX5_stream 156 = .ok (.getfield 55, 3) := by decide +kernel
theorem dX5_stream_159 : decode cX5_stream 159 = .ok (.iload_n 1, 1) := by decide +kernel
theorem dX5_stream_160 : decode cX5_stream 160 = .ok (.iaload, 1) := by decide +kernel
theorem dX5_stream_161 : decode cX5_stream 161 = .ok (.ireturn, 1) := by decide +kernel
theorem dX5_stream_162 : decode cX5_stream 162 = .ok (.aload_n 0, 1) := by decide +kernel
theorem dX5_stream_163 : decode cX5_stream 163 = .ok (.getfield 58, 3) := by decide +kernel
theorem dX5_stream_166 : decode cX5_stream 166 = .ok (.iload_n 1, 1) := by decide +kernel
theorem dX5_stream_167 : decode cX5_stream 167 = .ok (.iaload, 1) := by decide +kernel
theorem dX5_stream_168 : decode cX5_stream 168 = .ok (.ireturn, 1) := by decide +kernel
theorem dX5_stream_169 : decode cX5_stream 169 = .ok (.aload_n 0, 1) := by decide +kernel
theorem dX5_stream_170 : decode cX5_stream 170 = .ok (.getfield 61, 3) := by decide +kernel
theorem dX5_stream_173 : decode cX5_stream 173 = .ok (.iload_n 1, 1) := by decide +kernel
theorem dX5_stream_174 : decode cX5_stream 174 = .ok (.iaload, 1) := by decide +kernel
theorem dX5_stream_175 : decode cX5_stream 175 = .ok (.ireturn, 1) := by decide +kernel
theorem dX5_stream_176 : decode cX5_stream 176 = .ok (.aload_n 0, 1) := by decide +kernel
theorem dX5_stream_177 : decode cX5_stream 177 = .ok (.getfield 64, 3) := by decide +kernel
theorem dX5_stream_180 : decode cX5_stream 180 = .ok (.iload_n 1, 1) := by decide +kernel
theorem dX5_stream_181 : decode cX5_stream 181 = .ok (.baload, 1) := by decide +kernel
theorem dX5_stream_182 : decode cX5_stream 182 = .ok (.invokestatic 304, 3) := by decide +kernel
theorem dX5_stream_185 : decode cX5_stream 185 = .ok (.ireturn, 1) := by decide +kernel
theorem dX5_stream_186 : decode cX5_stream 186 = .ok (.aload_n 0, 1) := by decide +kernel
theorem dX5_stream_187 : decode cX5_stream 187 = .ok (.getfield 67, 3) := by decide +kernel
theorem dX5_stream_190 : decode cX5_stream 190 = .ok (.iload_n 1, 1) := by decide +kernel
theorem dX5_stream_191 : decode cX5_stream 191 = .ok (.iaload, 1) := by decide +kernel
theorem dX5_stream_192 : decode cX5_stream 192 = .ok (.ireturn, 1) := by decide +kernel
theorem dX5_stream_193 : decode cX5_stream 193 = .ok (.aload_n 0, 1) := by decide +kernel
theorem dX5_stream_194 : decode cX5_stream 194 = .ok (.getfield 70, 3) := by decide +kernel
theorem dX5_stream_197 : decode cX5_stream 197 = .ok (.iload_n 1, 1) := by decide +kernel
theorem dX5_stream_198 : decode cX5_stream 198 = .ok (.baload, 1) := by decide +kernel
theorem dX5_stream_199 : decode cX5_stream 199 = .ok (.invokestatic 304, 3) := by decide +kernel
theorem dX5_stream_202 : decode cX5_stream 202 = .ok (.ireturn, 1) := by decide +kernel
theorem dX5_stream_203 : decode cX5_stream 203 = .ok (.bipush (-2), 2) := by decide +kernel
theorem dX5_stream_205 : decode cX5_stream 205 = .ok (.ireturn, 1) := by decide +kernel
theorem dX5_state_0 : decode cX5_state 0 = .ok (.iload_n 1, 1) := by decide +kernel
theorem dX5_state_1 : decode cX5_state 1 = .ok (.invokestatic 201, 3) := by decide +kernel
theorem dX5_state_4 : decode cX5_state 4 = .ok (.ifCond .eq 15, 3) := by decide +kernel
theorem dX5_state_7 : decode cX5_state 7 = .ok (.iload_n 2, 1) := by decide +kernel
theorem dX5_state_8 : decode cX5_state 8 = .ok (.i2l, 1) := by decide +kernel
theorem dX5_state_9 : decode cX5_state 9 = .ok (.lconst 0, 1) := by decide +kernel
theorem dX5_state_10 : decode cX5_state 10 = .ok (.ldc2_w 314, 3) := by decide +kernel
theorem dX5_state_13 : decode cX5_state 13 = .ok (.invokestatic 185, 3) := by decide +kernel
theorem dX5_state_16 : decode cX5_state 16 = .ok (.ifCond .ne 5, 3) := by decide +kernel
theorem dX5_state_19 : decode cX5_state 19 = .ok (.iconst (-1), 1) := by decide +kernel
theorem dX5_state_20 : decode cX5_state 20 = .ok (.ireturn, 1) := by decide +kernel
theorem dX5_state_21 : decode cX5_state 21 = .ok (.aload_n 0, 1) := by decide +kernel
theorem dX5_state_22 : decode cX5_state 22 = .ok (.getfield 48, 3) := by decide +kernel
theorem dX5_state_25 : decode cX5_state 25 = .ok (.sipush 1000, 3) := by decide +kernel
theorem dX5_state_28 : decode cX5_state 28 = .ok (.iload_n 1, 1) := by decide +kernel
theorem dX5_state_29 : decode cX5_state 29 = .ok (.imul, 1) := by decide +kernel
theorem dX5_state_30 : decode cX5_state 30 = .ok (.iload_n 2, 1) := by decide +kernel
theorem dX5_state_31 : decode cX5_state 31 = .ok (.iadd, 1) := by decide +kernel
theorem dX5_state_32 : decode cX5_state 32 = .ok (.baload, 1) := by decide +kernel
theorem dX5_state_33 : decode cX5_state 33 = .ok (.aload_n 0, 1) := by decide +kernel
theorem dX5_state_34 : decode cX5_state 34 = .ok (.getfield 52, 3) := by decide +kernel
theorem dX5_state_37 : decode cX5_state 37 = .ok (.sipush 1000, 3) := by decide +kernel
theorem dX5_state_40 : decode cX5_state 40 = .ok (.iload_n 1, 1) := by decide +kernel
theorem dX5_state_41 : decode cX5_state 41 = .ok (.imul, 1) := by decide +kernel
theorem dX5_state_42 : decode cX5_state 42 = .ok (.iload_n 2, 1) := by decide +kernel
theorem dX5_state_43 : decode cX5_state 43 = .ok (.iadd, 1) := by decide +kernel
theorem dX5_state_44 : decode cX5_state 44 = .ok (.baload, 1) := by decide +kernel
theorem dX5_state_45 : decode cX5_state 45 = .ok (.ifCond .eq 7, 3) := by decide +kernel
theorem dX5_state_48 : decode cX5_state 48 = .ok (.iconst 4, 1) := by decide +kernel
theorem dX5_state_49 : decode cX5_state 49 = .ok (.goto 4, 3) := by decide +kernel
theorem dX5_state_52 : decode cX5_state 52 = .ok (.iconst 0, 1) := by decide +kernel
theorem dX5_state_53 : decode cX5_state 53 = .ok (.iadd, 1) := by decide +kernel
theorem dX5_state_54 : decode cX5_state 54 = .ok (.ireturn, 1) := by decide +kernel
theorem dX5_side_0 : decode cX5_side 0 = .ok (.iload_n 1, 1) := by decide +kernel
theorem dX5_side_1 : decode cX5_side 1 = .ok (.invokestatic 229, 3) := by decide +kernel
theorem dX5_side_4 : decode cX5_side 4 = .ok (.ifCond .ne 5, 3) := by decide +kernel
theorem dX5_side_7 : decode cX5_side 7 = .ok (.iconst (-1), 1) := by decide +kernel
theorem dX5_side_8 : decode cX5_side 8 = .ok (.ireturn, 1) := by decide +kernel
theorem dX5_side_9 : decode cX5_side 9 = .ok (.iload_n 2, 1) := by decide +kernel
theorem dX5_side_10 : decode cX5_side 10 = .ok (.tableswitch 209 0 16 #[82, 89, 96, 103, 110, 117, 124, 131, 138, 145, 155, 162, 169, 179, 186, 192, 202], 82) := by decide +kernel
theorem dX5_side_92 : decode cX5_side 92 = .ok (.aload_n 0, 1) := by decide +kernel
theorem dX5_side_93 : decode cX5_side 93 = .ok (.getfield 73, 3) := by decide +kernel
theorem dX5_side_96 : decode cX5_side 96 = .ok (.iload_n 1, 1) := by decide +kernel
theorem dX5_side_97 : decode cX5_side 97 = .ok (.iaload, 1) := by decide +kernel
theorem dX5_side_98 : decode cX5_side 98 = .ok (.ireturn, 1) := by decide +kernel
theorem dX5_side_99 : decode cX5_side 99 = .ok (.aload_n 0, 1) := by decide +kernel
theorem dX5_side_100 : decode cX5_side 100 = .ok (.getfield 76, 3) := by decide +kernel
theorem dX5_side_103 : decode cX5_side 103 = .ok (.iload_n 1, 1) := by decide +kernel
theorem dX5_side_104 : decode cX5_side 104 = .ok (.iaload, 1) := by decide +kernel
theorem dX5_side_105 : decode cX5_side 105 = .ok (.ireturn, 1) := by decide +kernel
theorem dX5_side_106 : decode cX5_side 106 = .ok (.aload_n 0, 1) := by decide +kernel
theorem dX5_side_107 : decode cX5_side 107 = .ok (.getfield 79, 3) := by decide +kernel
theorem dX5_side_110 : decode cX5_side 110 = .ok (.iload_n 1, 1) := by decide +kernel
theorem dX5_side_111 : decode cX5_side 111 = .ok (.iaload, 1) := by decide +kernel
theorem dX5_side_112 : decode cX5_side 112 = .ok (.ireturn, 1) := by decide +kernel
theorem dX5_side_113 : decode cX5_side 113 = .ok (.aload_n 0, 1) := by decide +kernel
theorem dX5_side_114 : decode cX5_side 114 = .ok (.getfield 82, 3) := by decide +kernel
theorem dX5_side_117 : decode cX5_side 117 = .ok (.iload_n 1, 1) := by decide +kernel
theorem dX5_side_118 : decode cX5_side 118 = .ok (.iaload, 1) := by decide +kernel
theorem dX5_side_119 : decode cX5_side 119 = .ok (.ireturn, 1) := by decide +kernel
theorem dX5_side_120 : decode cX5_side 120 = .ok (.aload_n 0, 1) := by decide +kernel
theorem dX5_side_121 : decode cX5_side 121 = .ok (.getfield 85, 3) := by decide +kernel
theorem dX5_side_124 : decode cX5_side 124 = .ok (.iload_n 1, 1) := by decide +kernel
theorem dX5_side_125 : decode cX5_side 125 = .ok (.iaload, 1) := by decide +kernel
theorem dX5_side_126 : decode cX5_side 126 = .ok (.ireturn, 1) := by decide +kernel
theorem dX5_side_127 : decode cX5_side 127 = .ok (.aload_n 0, 1) := by decide +kernel
theorem dX5_side_128 : decode cX5_side 128 = .ok (.getfield 88, 3) := by decide +kernel
theorem dX5_side_131 : decode cX5_side 131 = .ok (.iload_n 1, 1) := by decide +kernel
theorem dX5_side_132 : decode cX5_side 132 = .ok (.iaload, 1) := by decide +kernel
theorem dX5_side_133 : decode cX5_side 133 = .ok (.ireturn, 1) := by decide +kernel
theorem dX5_side_134 : decode cX5_side 134 = .ok (.aload_n 0, 1) := by decide +kernel
theorem dX5_side_135 : decode cX5_side 135 = .ok (.getfield 91, 3) := by decide +kernel
theorem dX5_side_138 : decode cX5_side 138 = .ok (.iload_n 1, 1) := by decide +kernel
theorem dX5_side_139 : decode cX5_side 139 = .ok (.iaload, 1) := by decide +kernel
theorem dX5_side_140 : decode cX5_side 140 = .ok (.ireturn, 1) := by decide +kernel
theorem dX5_side_141 : decode cX5_side 141 = .ok (.aload_n 0, 1) := by decide +kernel
theorem dX5_side_142 : decode cX5_side 142 = .ok (.getfield 94, 3) := by decide +kernel
theorem dX5_side_145 : decode cX5_side 145 = .ok (.iload_n 1, 1) := by decide +kernel
theorem dX5_side_146 : decode cX5_side 146 = .ok (.iaload, 1) := by decide +kernel
theorem dX5_side_147 : decode cX5_side 147 = .ok (.ireturn, 1) := by decide +kernel
theorem dX5_side_148 : decode cX5_side 148 = .ok (.aload_n 0, 1) := by decide +kernel
theorem dX5_side_149 : decode cX5_side 149 = .ok (.getfield 97, 3) := by decide +kernel
theorem dX5_side_152 : decode cX5_side 152 = .ok (.iload_n 1, 1) := by decide +kernel
theorem dX5_side_153 : decode cX5_side 153 = .ok (.iaload, 1) := by decide +kernel
theorem dX5_side_154 : decode cX5_side 154 = .ok (.ireturn, 1) := by decide +kernel
theorem dX5_side_155 : decode cX5_side 155 = .ok (.aload_n 0, 1) := by decide +kernel
theorem dX5_side_156 : decode cX5_side 156 = .ok (.getfield 100, 3) := by decide +kernel
theorem dX5_side_159 : decode cX5_side 159 = .ok (.iload_n 1, 1) := by decide +kernel
theorem dX5_side_160 : decode cX5_side 160 = .ok (.baload, 1) := by decide +kernel
theorem dX5_side_161 : decode cX5_side 161 = .ok (.invokestatic 304, 3) := by decide +kernel
theorem dX5_side_164 : decode cX5_side 164 = .ok (.ireturn, 1) := by decide +kernel
theorem dX5_side_165 : decode cX5_side 165 = .ok (.aload_n 0, 1) := by decide +kernel
theorem dX5_side_166 : decode cX5_side 166 = .ok (.getfield 103, 3) := by decide +kernel
theorem dX5_side_169 : decode cX5_side 169 = .ok (.iload_n 1, 1) := by decide +kernel
theorem dX5_side_170 : decode cX5_side 170 = .ok (.iaload, 1) := by decide +kernel
theorem dX5_side_171 : decode cX5_side 171 = .ok (.ireturn, 1) := by decide +kernel
theorem dX5_side_172 : decode cX5_side 172 = .ok (.aload_n 0, 1) := by decide +kernel
theorem dX5_side_173 : decode cX5_side 173 = .ok (.getfield 106, 3) := by decide +kernel
theorem dX5_side_176 : decode cX5_side 176 = .ok (.iload_n 1, 1) := by decide +kernel
theorem dX5_side_177 : decode cX5_side 177 = .ok (.iaload, 1) := by decide +kernel
theorem dX5_side_178 : decode cX5_side 178 = .ok (.ireturn, 1) := by decide +kernel
theorem dX5_side_179 : decode cX5_side 179 = .ok (.aload_n 0, 1) := by decide +kernel
theorem dX5_side_180 : decode cX5_side 180 = .ok (.getfield 109, 3) := by decide +kernel
theorem dX5_side_183 : decode cX5_side 183 = .ok (.iload_n 1, 1) := by decide +kernel
theorem dX5_side_184 : decode cX5_side 184 = .ok (.baload, 1) := by decide +kernel
theorem dX5_side_185 : decode cX5_side 185 = .ok (.invokestatic 304, 3) := by decide +kernel
theorem dX5_side_188 : decode cX5_side 188 = .ok (.ireturn, 1) := by decide +kernel
theorem dX5_side_189 : decode cX5_side 189 = .ok (.aload_n 0, 1) := by decide +kernel
theorem dX5_side_190 : decode cX5_side 190 = .ok (.getfield 112, 3) := by decide +kernel
theorem dX5_side_193 : decode cX5_side 193 = .ok (.iload_n 1, 1) := by decide +kernel
theorem dX5_side_194 : decode cX5_side 194 = .ok (.iaload, 1) := by decide +kernel
theorem dX5_side_195 : decode cX5_side 195 = .ok (.ireturn, 1) := by decide +kernel
theorem dX5_side_196 : decode cX5_side 196 = .ok (.aload_n 0, 1) := by decide +kernel
theorem dX5_side_197 : decode cX5_side 197 = .ok (.iload_n 1, 1) := by decide +kernel
theorem dX5_side_198 : decode cX5_side 198 = .ok (.invokevirtual 226, 3) := by decide +kernel
theorem dX5_side_201 : decode cX5_side 201 = .ok (.ireturn, 1) := by decide +kernel
theorem dX5_side_202 : decode cX5_side 202 = .ok (.aload_n 0, 1) := by decide +kernel
theorem dX5_side_203 : decode cX5_side 203 = .ok (.getfield 115, 3) := by decide +kernel
theorem dX5_side_206 : decode cX5_side 206 = .ok (.iload_n 1, 1) := by decide +kernel
theorem dX5_side_207 : decode cX5_side 207 = .ok (.baload, 1) := by decide +kernel
theorem dX5_side_208 : decode cX5_side 208 = .ok (.invokestatic 304, 3) := by decide +kernel
theorem dX5_side_211 : decode cX5_side 211 = .ok (.ireturn, 1) := by decide +kernel
theorem dX5_side_212 : decode cX5_side 212 = .ok (.aload_n 0, 1) := by decide +kernel
theorem dX5_side_213 : decode cX5_side 213 = .ok (.getfield 118, 3) := by decide +kernel
theorem dX5_side_216 : decode cX5_side 216 = .ok (.iload_n 1, 1) := by decide +kernel
theorem dX5_side_217 : decode cX5_side 217 = .ok (.iaload, 1) := by decide +kernel
theorem dX5_side_218 : decode cX5_side 218 = .ok (.ireturn, 1) := by decide +kernel
theorem dX5_side_219 : decode cX5_side 219 = .ok (.bipush (-2), 2) := by decide +kernel
theorem dX5_side_221 : decode cX5_side 221 = .ok (.ireturn, 1) := by decide +kernel
theorem dX5_isPacket_0 : decode cX5_isPacket 0 = .ok (.iload_n 1, 1) := by decide +kernel
theorem dX5_isPacket_1 : decode cX5_isPacket 1 = .ok (.invokestatic 229, 3) := by decide +kernel
theorem dX5_isPacket_4 : decode cX5_isPacket 4 = .ok (.ifCond .eq 25, 3) := by decide +kernel
theorem dX5_isPacket_7 : decode cX5_isPacket 7 = .ok (.iload_n 2, 1) := by decide +kernel
theorem dX5_isPacket_8 : decode cX5_isPacket 8 = .ok (.i2l, 1) := by decide +kernel
theorem dX5_isPacket_9 : decode cX5_isPacket 9 = .ok (.lconst 0, 1) := by decide +kernel
theorem dX5_isPacket_10 : decode cX5_isPacket 10 = .ok (.aload_n 0, 1) := by decide +kernel
theorem dX5_isPacket_11 : decode cX5_isPacket 11 = .ok (.getfield 73, 3) := by decide +kernel
theorem dX5_isPacket_14 : decode cX5_isPacket 14 = .ok (.iload_n 1, 1) := by decide +kernel
theorem dX5_isPacket_15 : decode cX5_isPacket 15 = .ok (.iaload, 1) := by decide +kernel
theorem dX5_isPacket_16 : decode cX5_isPacket 16 = .ok (.iconst 1, 1) := by decide +kernel
theorem dX5_isPacket_17 : decode cX5_isPacket 17 = .ok (.isub, 1) := by decide +kernel
theorem dX5_isPacket_18 : decode cX5_isPacket 18 = .ok (.i2l, 1) := by decide +kernel
theorem dX5_isPacket_19 : decode cX5_isPacket 19 = .ok (.invokestatic 185, 3) := by decide +kernel
theorem dX5_isPacket_22 : decode cX5_isPacket 22 = .ok (.ifCond .eq 7, 3) := by decide +kernel
theorem dX5_isPacket_25 : decode cX5_isPacket 25 = .ok (.iconst 1, 1) := by decide +kernel
theorem dX5_isPacket_26 : decode cX5_isPacket 26 = .ok (.goto 4, 3) := by decide +kernel
theorem dX5_isPacket_29 : decode cX5_isPacket 29 = .ok (.iconst 0, 1) := by decide +kernel
theorem dX5_isPacket_30 : decode cX5_isPacket 30 = .ok (.ireturn, 1) := by decide +kernel
theorem dX5_packet_0 : decode cX5_packet 0 = .ok (.aload_n 0, 1) := by decide +kernel
theorem dX5_packet_1 : decode cX5_packet 1 = .ok (.iload_n 1, 1) := by decide +kernel
theorem dX5_packet_2 : decode cX5_packet 2 = .ok (.iload_n 2, 1) := by decide +kernel
theorem dX5_packet_3 : decode cX5_packet 3 = .ok (.invokevirtual 316, 3) := by decide +kernel
theorem dX5_packet_6 : decode cX5_packet 6 = .ok (.ifCond .ne 5, 3) := by decide +kernel
theorem dX5_packet_9 : decode cX5_packet 9 = .ok (.iconst (-1), 1) := by decide +kernel
theorem dX5_packet_10 : decode cX5_packet 10 = .ok (.ireturn, 1) := by decide +kernel
theorem dX5_packet_11 : decode cX5_packet 11 = .ok (.aload_n 0, 1) := by decide +kernel
theorem dX5_packet_12 : decode cX5_packet 12 = .ok (.iload_n 1, 1) := by decide +kernel
theorem dX5_packet_13 : decode cX5_packet 13 = .ok (.iload_n 2, 1) := by decide +kernel
theorem dX5_packet_14 : decode cX5_packet 14 = .ok (.invokevirtual 215, 3) := by decide +kernel
theorem dX5_packet_17 : decode cX5_packet 17 = .ok (.istore 4, 2) := by decide +kernel
theorem dX5_packet_19 : decode cX5_packet 19 = .ok (.iload_n 3, 1) := by decide +kernel
theorem dX5_packet_20 : decode cX5_packet 20 = .ok (.tableswitch 124 0 7 #[48, 56, 64, 72, 80, 91, 102, 113], 48) := by decide +kernel
theorem dX5_packet_68 : decode cX5_packet 68 = .ok (.aload_n 0, 1) := by decide +kernel
theorem dX5_packet_69 : decode cX5_packet 69 = .ok (.getfield 139, 3) := by decide +kernel
theorem dX5_packet_72 : decode cX5_packet 72 = .ok (.iload 4, 2) := by decide +kernel
theorem dX5_packet_74 : decode cX5_packet 74 = .ok (.iaload, 1) := by decide +kernel
theorem dX5_packet_75 : decode cX5_packet 75 = .ok (.ireturn, 1) := by decide +kernel
theorem dX5_packet_76 : decode cX5_packet 76 = .ok (.aload_n 0, 1) := by decide +kernel
theorem dX5_packet_77 : decode cX5_packet 77 = .ok (.getfield 142, 3) := by decide +kernel
theorem dX5_packet_80 : decode cX5_packet 80 = .ok (.iload 4, 2) := by decide +kernel
theorem dX5_packet_82 : decode cX5_packet 82 = .ok (.iaload, 1) := by decide +kernel
theorem dX5_packet_83 : decode cX5_packet 83 = .ok (.ireturn, 1) := by decide +kernel
theorem dX5_packet_84 : decode cX5_packet 84 = .ok (.aload_n 0, 1) := by decide +kernel
theorem dX5_packet_85 : decode cX5_packet 85 = .ok (.getfield 145, 3) := by decide +kernel
theorem dX5_packet_88 : decode cX5_packet 88 = .ok (.iload 4, 2) := by decide +kernel
theorem dX5_packet_90 : decode cX5_packet 90 = .ok (.iaload, 1) := by decide +kernel
theorem dX5_packet_91 : decode cX5_packet 91 = .ok (.ireturn, 1) := by decide +kernel
theorem dX5_packet_92 : decode cX5_packet 92 = .ok (.aload_n 0, 1) := by decide +kernel
theorem dX5_packet_93 : decode cX5_packet 93 = .ok (.getfield 148, 3) := by decide +kernel
theorem dX5_packet_96 : decode cX5_packet 96 = .ok (.iload 4, 2) := by decide +kernel
theorem dX5_packet_98 : decode cX5_packet 98 = .ok (.iaload, 1) := by decide +kernel
theorem dX5_packet_99 : decode cX5_packet 99 = .ok (.ireturn, 1) := by decide +kernel
theorem dX5_packet_100 : decode cX5_packet 100 = .ok (.aload_n 0, 1) := by decide +kernel
theorem dX5_packet_101 : decode cX5_packet 101 = .ok (.getfield 151, 3) := by decide +kernel
theorem dX5_packet_104 : decode cX5_packet 104 = .ok (.iload 4, 2) := by decide +kernel
theorem dX5_packet_106 : decode cX5_packet 106 = .ok (.baload, 1) := by decide +kernel
theorem dX5_packet_107 : decode cX5_packet 107 = .ok (.invokestatic 304, 3) := by decide +kernel
theorem dX5_packet_110 : decode cX5_packet 110 = .ok (.ireturn, 1) := by decide +kernel
theorem dX5_packet_111 : decode cX5_packet 111 = .ok (.aload_n 0, 1) := by decide +kernel
theorem dX5_packet_112 : decode cX5_packet 112 = .ok (.getfield 154, 3) := by decide +kernel
theorem dX5_packet_115 : decode cX5_packet 115 = .ok (.iload 4, 2) := by decide +kernel
theorem dX5_packet_117 : decode cX5_packet 117 = .ok (.baload, 1) := by decide +kernel
theorem dX5_packet_118 : decode cX5_packet 118 = .ok (.invokestatic 304, 3) := by decide +kernel
theorem dX5_packet_121 : decode cX5_packet 121 = .ok (.ireturn, 1) := by decide +kernel
theorem dX5_packet_122 : decode cX5_packet 122 = .ok (.aload_n 0, 1) := by decide +kernel
theorem dX5_packet_123 : decode cX5_packet 123 = .ok (.getfield 157, 3) := by decide +kernel
theorem dX5_packet_126 : decode cX5_packet 126 = .ok (.iload 4, 2) := by decide +kernel
theorem dX5_packet_128 : decode cX5_packet 128 = .ok (.baload, 1) := by decide +kernel
theorem dX5_packet_129 : decode cX5_packet 129 = .ok (.invokestatic 304, 3) := by decide +kernel
theorem dX5_packet_132 : decode cX5_packet 132 = .ok (.ireturn, 1) := by decide +kernel
theorem dX5_packet_133 : decode cX5_packet 133 = .ok (.aload_n 0, 1) := by decide +kernel
theorem dX5_packet_134 : decode cX5_packet 134 = .ok (.getfield 160, 3) := by decide +kernel
theorem dX5_packet_137 : decode cX5_packet 137 = .ok (.iload 4, 2) := by decide +kernel
theorem dX5_packet_139 : decode cX5_packet 139 = .ok (.baload, 1) := by decide +kernel
theorem dX5_packet_140 : decode cX5_packet 140 = .ok (.invokestatic 304, 3) := by decide +kernel
theorem dX5_packet_143 : decode cX5_packet 143 = .ok (.ireturn, 1) := by decide +kernel
theorem dX5_packet_144 : decode cX5_packet 144 = .ok (.bipush (-2), 2) := by decide +kernel
theorem dX5_packet_146 : decode cX5_packet 146 = .ok (.ireturn, 1) := by decide +kernel
theorem dX5_part_0 : decode cX5_part 0 = .ok (.aload_n 0, 1) := by decide +kernel
theorem dX5_part_1 : decode cX5_part 1 = .ok (.iload_n 1, 1) := by decide +kernel
theorem dX5_part_2 : decode cX5_part 2 = .ok (.iload_n 2, 1) := by decide +kernel
theorem dX5_part_3 : decode cX5_part 3 = .ok (.invokevirtual 316, 3) := by decide +kernel
theorem dX5_part_6 : decode cX5_part 6 = .ok (.ifCond .eq 26, 3) := by decide +kernel
theorem dX5_part_9 : decode cX5_part 9 = .ok (.iload_n 3, 1) := by decide +kernel
theorem dX5_part_10 : decode cX5_part 10 = .ok (.i2l, 1) := by decide +kernel
theorem dX5_part_11 : decode cX5_part 11 = .ok (.lconst 0, 1) := by decide +kernel
theorem dX5_part_12 : decode cX5_part 12 = .ok (.aload_n 0, 1) := by decide +kernel
theorem dX5_part_13 : decode cX5_part 13 = .ok (.getfield 148, 3) := by decide +kernel
theorem dX5_part_16 : decode cX5_part 16 = .ok (.aload_n 0, 1) := by decide +kernel
theorem dX5_part_17 : decode cX5_part 17 = .ok (.iload_n 1, 1) := by decide +kernel
theorem dX5_part_18 : decode cX5_part 18 = .ok (.iload_n 2, 1) := by decide +kernel
theorem dX5_part_19 : decode cX5_part 19 = .ok (.invokevirtual 215, 3) := by decide +kernel
theorem dX5_part_22 : decode cX5_part 22 = .ok (.iaload, 1) := by decide +kernel
theorem dX5_part_23 : decode cX5_part 23 = .ok (.iconst 1, 1) := by decide +kernel
theorem dX5_part_24 : decode cX5_part 24 = .ok (.isub, 1) := by decide +kernel
theorem dX5_part_25 : decode cX5_part 25 = .ok (.i2l, 1) := by decide +kernel
theorem dX5_part_26 : decode cX5_part 26 = .ok (.invokestatic 185, 3) := by decide +kernel
theorem dX5_part_29 : decode cX5_part 29 = .ok (.ifCond .ne 5, 3) := by decide +kernel
theorem dX5_part_32 : decode cX5_part 32 = .ok (.iconst (-1), 1) := by decide +kernel
theorem dX5_part_33 : decode cX5_part 33 = .ok (.ireturn, 1) := by decide +kernel
theorem dX5_part_34 : decode cX5_part 34 = .ok (.iload 4, 2) := by decide +kernel
theorem dX5_part_36 : decode cX5_part 36 = .ok (.i2l, 1) := by decide +kernel
theorem dX5_part_37 : decode cX5_part 37 = .ok (.lconst 0, 1) := by decide +kernel
theorem dX5_part_38 : decode cX5_part 38 = .ok (.ldc2_w 320, 3) := by decide +kernel
theorem dX5_part_41 : decode cX5_part 41 = .ok (.invokestatic 185, 3) := by decide +kernel
theorem dX5_part_44 : decode cX5_part 44 = .ok (.ifCond .ne 6, 3) := by decide +kernel
theorem dX5_part_47 : decode cX5_part 47 = .ok (.bipush (-2), 2) := by decide +kernel
theorem dX5_part_49 : decode cX5_part 49 = .ok (.ireturn, 1) := by decide +kernel
theorem dX5_part_50 : decode cX5_part 50 = .ok (.aload_n 0, 1) := by decide +kernel
theorem dX5_part_51 : decode cX5_part 51 = .ok (.iload_n 1, 1) := by decide +kernel
theorem dX5_part_52 : decode cX5_part 52 = .ok (.iload_n 2, 1) := by decide +kernel
theorem dX5_part_53 : decode cX5_part 53 = .ok (.invokevirtual 215, 3) := by decide +kernel
theorem dX5_part_56 : decode cX5_part 56 = .ok (.istore 5, 2) := by decide +kernel
theorem dX5_part_58 : decode cX5_part 58 = .ok (.iconst 4, 1) := by decide +kernel
theorem dX5_part_59 : decode cX5_part 59 = .ok (.bipush 24, 2) := by decide +kernel
theorem dX5_part_61 : decode cX5_part 61 = .ok (.iload 5, 2) := by decide +kernel
theorem dX5_part_63 : decode cX5_part 63 = .ok (.imul, 1) := by decide +kernel
theorem dX5_part_64 : decode cX5_part 64 = .ok (.iload_n 3, 1) := by decide +kernel
theorem dX5_part_65 : decode cX5_part 65 = .ok (.iadd, 1) := by decide +kernel
theorem dX5_part_66 : decode cX5_part 66 = .ok (.imul, 1) := by decide +kernel
theorem dX5_part_67 : decode cX5_part 67 = .ok (.istore 6, 2) := by decide +kernel
theorem dX5_part_69 : decode cX5_part 69 = .ok (.iload 4, 2) := by decide +kernel
theorem dX5_part_71 : decode cX5_part 71 = .ok (.iconst 4, 1) := by decide +kernel
theorem dX5_part_72 : decode cX5_part 72 = .ok (.if_icmp .ge 14, 3) := by decide +kernel
theorem dX5_part_75 : decode cX5_part 75 = .ok (.aload_n 0, 1) := by decide +kernel
theorem dX5_part_76 : decode cX5_part 76 = .ok (.getfield 164, 3) := by decide +kernel
theorem dX5_part_79 : decode cX5_part 79 = .ok (.iload 6, 2) := by decide +kernel
theorem dX5_part_81 : decode cX5_part 81 = .ok (.iload 4, 2) := by decide +kernel
theorem dX5_part_83 : decode cX5_part 83 = .ok (.iadd, 1) := by decide +kernel
theorem dX5_part_84 : decode cX5_part 84 = .ok (.iaload, 1) := by decide +kernel
theorem dX5_part_85 : decode cX5_part 85 = .ok (.ireturn, 1) := by decide +kernel
theorem dX5_part_86 : decode cX5_part 86 = .ok (.aload_n 0, 1) := by decide +kernel
theorem dX5_part_87 : decode cX5_part 87 = .ok (.getfield 164, 3) := by decide +kernel
theorem dX5_part_90 : decode cX5_part 90 = .ok (.iload 6, 2) := by decide +kernel
theorem dX5_part_92 : decode cX5_part 92 = .ok (.iaload, 1) := by decide +kernel
theorem dX5_part_93 : decode cX5_part 93 = .ok (.iconst 1, 1) := by decide +kernel
theorem dX5_part_94 : decode cX5_part 94 = .ok (.if_icmp .ne 25, 3) := by decide +kernel
theorem dX5_part_97 : decode cX5_part 97 = .ok (.iload 4, 2) := by decide +kernel
theorem dX5_part_99 : decode cX5_part 99 = .ok (.iconst 4, 1) := by decide +kernel
theorem dX5_part_100 : decode cX5_part 100 = .ok (.isub, 1) := by decide +kernel
theorem dX5_part_101 : decode cX5_part 101 = .ok (.iconst 2, 1) := by decide +kernel
theorem dX5_part_102 : decode cX5_part 102 = .ok (.idiv, 1) := by decide +kernel
theorem dX5_part_103 : decode cX5_part 103 = .ok (.aload_n 0, 1) := by decide +kernel
theorem dX5_part_104 : decode cX5_part 104 = .ok (.getfield 164, 3) := by decide +kernel
theorem dX5_part_107 : decode cX5_part 107 = .ok (.iload 6, 2) := by decide +kernel
theorem dX5_part_109 : decode cX5_part 109 = .ok (.iconst 3, 1) := by decide +kernel
theorem dX5_part_110 : decode cX5_part 110 = .ok (.iadd, 1) := by decide +kernel
theorem dX5_part_111 : decode cX5_part 111 = .ok (.iaload, 1) := by decide +kernel
theorem dX5_part_112 : decode cX5_part 112 = .ok (.if_icmp .ge 7, 3) := by decide +kernel
theorem dX5_part_115 : decode cX5_part 115 = .ok (.iconst 1, 1) := by decide +kernel
theorem dX5_part_116 : decode cX5_part 116 = .ok (.goto 4, 3) := by decide +kernel
theorem dX5_part_119 : decode cX5_part 119 = .ok (.iconst 0, 1) := by decide +kernel
theorem dX5_part_120 : decode cX5_part 120 = .ok (.istore 7, 2) := by decide +kernel
theorem dX5_part_122 : decode cX5_part 122 = .ok (.iload 7, 2) := by decide +kernel
theorem dX5_part_124 : decode cX5_part 124 = .ok (.ifCond .eq 21, 3) := by decide +kernel
theorem dX5_part_127 : decode cX5_part 127 = .ok (.aload_n 0, 1) := by decide +kernel
theorem dX5_part_128 : decode cX5_part 128 = .ok (.getfield 167, 3) := by decide +kernel
theorem dX5_part_131 : decode cX5_part 131 = .ok (.bipush 8, 2) := by decide +kernel
theorem dX5_part_133 : decode cX5_part 133 = .ok (.iload 5, 2) := by decide +kernel
theorem dX5_part_135 : decode cX5_part 135 = .ok (.imul, 1) := by decide +kernel
theorem dX5_part_136 : decode cX5_part 136 = .ok (.iload 4, 2) := by decide +kernel
theorem dX5_part_138 : decode cX5_part 138 = .ok (.iadd, 1) := by decide +kernel
theorem dX5_part_139 : decode cX5_part 139 = .ok (.iconst 4, 1) := by decide +kernel
theorem dX5_part_140 : decode cX5_part 140 = .ok (.isub, 1) := by decide +kernel
theorem dX5_part_141 : decode cX5_part 141 = .ok (.iaload, 1) := by decide +kernel
theorem dX5_part_142 : decode cX5_part 142 = .ok (.goto 5, 3) := by decide +kernel
theorem dX5_part_145 : decode cX5_part 145 = .ok (.bipush (-6), 2) := by decide +kernel
theorem dX5_part_147 : decode cX5_part 147 = .ok (.ireturn, 1) := by decide +kernel
theorem dX5_net_0 : decode cX5_net 0 = .ok (.iload_n 1, 1) := by decide +kernel
theorem dX5_net_1 : decode cX5_net 1 = .ok (.i2l, 1) := by decide +kernel
theorem dX5_net_2 : decode cX5_net 2 = .ok (.lconst 0, 1) := by decide +kernel
theorem dX5_net_3 : decode cX5_net 3 = .ok (.aload_n 0, 1) := by decide +kernel
theorem dX5_net_4 : decode cX5_net 4 = .ok (.getfield 232, 3) := by decide +kernel
theorem dX5_net_7 : decode cX5_net 7 = .ok (.iconst 1, 1) := by decide +kernel
theorem dX5_net_8 : decode cX5_net 8 = .ok (.isub, 1) := by decide +kernel
theorem dX5_net_9 : decode cX5_net 9 = .ok (.i2l, 1) := by decide +kernel
theorem dX5_net_10 : decode cX5_net 10 = .ok (.invokestatic 185, 3) := by decide +kernel
theorem dX5_net_13 : decode cX5_net 13 = .ok (.ifCond .ne 5, 3) := by decide +kernel
theorem dX5_net_16 : decode cX5_net 16 = .ok (.iconst (-1), 1) := by decide +kernel
theorem dX5_net_17 : decode cX5_net 17 = .ok (.ireturn, 1) := by decide +kernel
theorem dX5_net_18 : decode cX5_net 18 = .ok (.iload_n 2, 1) := by decide +kernel
theorem dX5_net_19 : decode cX5_net 19 = .ok (.ifCond .ne 12, 3) := by decide +kernel
theorem dX5_net_22 : decode cX5_net 22 = .ok (.aload_n 0, 1) := by decide +kernel
theorem dX5_net_23 : decode cX5_net 23 = .ok (.getfield 170, 3) := by decide +kernel
theorem dX5_net_26 : decode cX5_net 26 = .ok (.iload_n 1, 1) := by decide +kernel
theorem dX5_net_27 : decode cX5_net 27 = .ok (.iaload, 1) := by decide +kernel
theorem dX5_net_28 : decode cX5_net 28 = .ok (.goto 19, 3) := by decide +kernel
theorem dX5_net_31 : decode cX5_net 31 = .ok (.iload_n 2, 1) := by decide +kernel
theorem dX5_net_32 : decode cX5_net 32 = .ok (.iconst 1, 1) := by decide +kernel
theorem dX5_net_33 : decode cX5_net 33 = .ok (.if_icmp .ne 12, 3) := by decide +kernel
theorem dX5_net_36 : decode cX5_net 36 = .ok (.aload_n 0, 1) := by decide +kernel
theorem dX5_net_37 : decode cX5_net 37 = .ok (.getfield 173, 3) := by decide +kernel
theorem dX5_net_40 : decode cX5_net 40 = .ok (.iload_n 1, 1) := by decide +kernel
theorem dX5_net_41 : decode cX5_net 41 = .ok (.iaload, 1) := by decide +kernel
theorem dX5_net_42 : decode cX5_net 42 = .ok (.goto 5, 3) := by decide +kernel
theorem dX5_net_45 : decode cX5_net 45 = .ok (.bipush (-2), 2) := by decide +kernel
theorem dX5_net_47 : decode cX5_net 47 = .ok (.ireturn, 1) := by decide +kernel
theorem dX5_told_0 : decode cX5_told 0 = .ok (.iload_n 1, 1) := by decide +kernel
theorem dX5_told_1 : decode cX5_told 1 = .ok (.tableswitch 90 0 7 #[47, 52, 57, 62, 67, 75, 80, 85], 47) := by decide +kernel
theorem dX5_told_48 : decode cX5_told 48 = .ok (.aload_n 0, 1) := by decide +kernel
theorem dX5_told_49 : decode cX5_told 49 = .ok (.getfield 251, 3) := by decide +kernel
theorem dX5_told_52 : decode cX5_told 52 = .ok (.ireturn, 1) := by decide +kernel
theorem dX5_told_53 : decode cX5_told 53 = .ok (.aload_n 0, 1) := by decide +kernel
theorem dX5_told_54 : decode cX5_told 54 = .ok (.getfield 232, 3) := by decide +kernel
theorem dX5_told_57 : decode cX5_told 57 = .ok (.ireturn, 1) := by decide +kernel
theorem dX5_told_58 : decode cX5_told 58 = .ok (.aload_n 0, 1) := by decide +kernel
theorem dX5_told_59 : decode cX5_told 59 = .ok (.getfield 209, 3) := by decide +kernel
theorem dX5_told_62 : decode cX5_told 62 = .ok (.ireturn, 1) := by decide +kernel
theorem dX5_told_63 : decode cX5_told 63 = .ok (.aload_n 0, 1) := by decide +kernel
theorem dX5_told_64 : decode cX5_told 64 = .ok (.getfield 254, 3) := by decide +kernel
theorem dX5_told_67 : decode cX5_told 67 = .ok (.ireturn, 1) := by decide +kernel
theorem dX5_told_68 : decode cX5_told 68 = .ok (.aload_n 0, 1) := by decide +kernel
theorem dX5_told_69 : decode cX5_told 69 = .ok (.getfield 235, 3) := by decide +kernel
theorem dX5_told_72 : decode cX5_told 72 = .ok (.invokestatic 304, 3) := by decide +kernel
theorem dX5_told_75 : decode cX5_told 75 = .ok (.ireturn, 1) := by decide +kernel
theorem dX5_told_76 : decode cX5_told 76 = .ok (.aload_n 0, 1) := by decide +kernel
theorem dX5_told_77 : decode cX5_told 77 = .ok (.getfield 241, 3) := by decide +kernel
theorem dX5_told_80 : decode cX5_told 80 = .ok (.ireturn, 1) := by decide +kernel
theorem dX5_told_81 : decode cX5_told 81 = .ok (.aload_n 0, 1) := by decide +kernel
theorem dX5_told_82 : decode cX5_told 82 = .ok (.getfield 238, 3) := by decide +kernel
theorem dX5_told_85 : decode cX5_told 85 = .ok (.ireturn, 1) := by decide +kernel
theorem dX5_told_86 : decode cX5_told 86 = .ok (.aload_n 0, 1) := by decide +kernel
theorem dX5_told_87 : decode cX5_told 87 = .ok (.getfield 267, 3) := by decide +kernel
theorem dX5_told_90 : decode cX5_told 90 = .ok (.ireturn, 1) := by decide +kernel
theorem dX5_told_91 : decode cX5_told 91 = .ok (.bipush (-2), 2) := by decide +kernel
theorem dX5_told_93 : decode cX5_told 93 = .ok (.ireturn, 1) := by decide +kernel
theorem dJ9_abs_0f7a4_0 : decode cJ9_abs_0f7a4 0 = .ok (.iload_n 0, 1) := by decide +kernel
theorem dJ9_abs_0f7a4_1 : decode cJ9_abs_0f7a4 1 = .ok (.ifCond .ge 8, 3) := by decide +kernel
theorem dJ9_abs_0f7a4_4 : decode cJ9_abs_0f7a4 4 = .ok (.iload_n 0, 1) := by decide +kernel
theorem dJ9_abs_0f7a4_5 : decode cJ9_abs_0f7a4 5 = .ok (.ineg, 1) := by decide +kernel
theorem dJ9_abs_0f7a4_6 : decode cJ9_abs_0f7a4 6 = .ok (.goto 4, 3) := by decide +kernel
theorem dJ9_abs_0f7a4_9 : decode cJ9_abs_0f7a4 9 = .ok (.iload_n 0, 1) := by decide +kernel
theorem dJ9_abs_0f7a4_10 : decode cJ9_abs_0f7a4 10 = .ok (.ireturn, 1) := by decide +kernel
theorem dJ9_max_7cf53_0 : decode cJ9_max_7cf53 0 = .ok (.iload_n 0, 1) := by decide +kernel
theorem dJ9_max_7cf53_1 : decode cJ9_max_7cf53 1 = .ok (.iload_n 1, 1) := by decide +kernel
theorem dJ9_max_7cf53_2 : decode cJ9_max_7cf53 2 = .ok (.if_icmp .lt 7, 3) := by decide +kernel
theorem dJ9_max_7cf53_5 : decode cJ9_max_7cf53 5 = .ok (.iload_n 0, 1) := by decide +kernel
theorem dJ9_max_7cf53_6 : decode cJ9_max_7cf53 6 = .ok (.goto 4, 3) := by decide +kernel
theorem dJ9_max_7cf53_9 : decode cJ9_max_7cf53 9 = .ok (.iload_n 1, 1) := by decide +kernel
theorem dJ9_max_7cf53_10 : decode cJ9_max_7cf53 10 = .ok (.ireturn, 1) := by decide +kernel
theorem dJ9_min_7cf53_0 : decode cJ9_min_7cf53 0 = .ok (.iload_n 0, 1) := by decide +kernel
theorem dJ9_min_7cf53_1 : decode cJ9_min_7cf53 1 = .ok (.iload_n 1, 1) := by decide +kernel
theorem dJ9_min_7cf53_2 : decode cJ9_min_7cf53 2 = .ok (.if_icmp .gt 7, 3) := by decide +kernel
theorem dJ9_min_7cf53_5 : decode cJ9_min_7cf53 5 = .ok (.iload_n 0, 1) := by decide +kernel
theorem dJ9_min_7cf53_6 : decode cJ9_min_7cf53 6 = .ok (.goto 4, 3) := by decide +kernel
theorem dJ9_min_7cf53_9 : decode cJ9_min_7cf53 9 = .ok (.iload_n 1, 1) := by decide +kernel
theorem dJ9_min_7cf53_10 : decode cJ9_min_7cf53 10 = .ok (.ireturn, 1) := by decide +kernel
theorem dL_law_0 : decode cL_law 0 = .ok (.new 7, 3) := by decide +kernel
theorem dL_law_3 : decode cL_law 3 = .ok (.dup, 1) := by decide +kernel
theorem dL_law_4 : decode cL_law 4 = .ok (.invokespecial 9, 3) := by decide +kernel
theorem dL_law_7 : decode cL_law 7 = .ok (.astore_n 1, 1) := by decide +kernel
theorem dL_law_8 : decode cL_law 8 = .ok (.new 10, 3) := by decide +kernel
theorem dL_law_11 : decode cL_law 11 = .ok (.dup, 1) := by decide +kernel
theorem dL_law_12 : decode cL_law 12 = .ok (.invokespecial 12, 3) := by decide +kernel
theorem dL_law_15 : decode cL_law 15 = .ok (.astore_n 2, 1) := by decide +kernel
theorem dL_law_16 : decode cL_law 16 = .ok (.iconst 0, 1) := by decide +kernel
theorem dL_law_17 : decode cL_law 17 = .ok (.istore_n 3, 1) := by decide +kernel
theorem dL_law_18 : decode cL_law 18 = .ok (.iload_n 3, 1) := by decide +kernel
theorem dL_law_19 : decode cL_law 19 = .ok (.aload_n 0, 1) := by decide +kernel
theorem dL_law_20 : decode cL_law 20 = .ok (.arraylength, 1) := by decide +kernel
theorem dL_law_21 : decode cL_law 21 = .ok (.iconst 5, 1) := by decide +kernel
theorem dL_law_22 : decode cL_law 22 = .ok (.isub, 1) := by decide +kernel
theorem dL_law_23 : decode cL_law 23 = .ok (.if_icmp .gt 637, 3) := by decide +kernel
theorem dL_law_26 : decode cL_law 26 = .ok (.aload_n 0, 1) := by decide +kernel
theorem dL_law_27 : decode cL_law 27 = .ok (.iload_n 3, 1) := by decide +kernel
theorem dL_law_28 : decode cL_law 28 = .ok (.iaload, 1) := by decide +kernel
theorem dL_law_29 : decode cL_law 29 = .ok (.bipush 31, 2) := by decide +kernel
theorem dL_law_31 : decode cL_law 31 = .ok (.iand, 1) := by decide +kernel
theorem dL_law_32 : decode cL_law 32 = .ok (.tableswitch 622 0 17 #[88, 131, 164, 187, 210, 243, 256, 279, 302, 325, 348, 371, 404, 437, 470, 513, 566, 599], 88) := by decide +kernel
theorem dL_law_120 : decode cL_law 120 = .ok (.aload_n 1, 1) := by decide +kernel
theorem dL_law_121 : decode cL_law 121 = .ok (.aload_n 0, 1) := by decide +kernel
theorem dL_law_122 : decode cL_law 122 = .ok (.iload_n 3, 1) := by decide +kernel
theorem dL_law_123 : decode cL_law 123 = .ok (.iconst 1, 1) := by decide +kernel
theorem dL_law_124 : decode cL_law 124 = .ok (.iadd, 1) := by decide +kernel
theorem dL_law_125 : decode cL_law 125 = .ok (.iaload, 1) := by decide +kernel
theorem dL_law_126 : decode cL_law 126 = .ok (.aload_n 0, 1) := by decide +kernel
theorem dL_law_127 : decode cL_law 127 = .ok (.iload_n 3, 1) := by decide +kernel
theorem dL_law_128 : decode cL_law 128 = .ok (.iconst 2, 1) := by decide +kernel
theorem dL_law_129 : decode cL_law 129 = .ok (.iadd, 1) := by decide +kernel
theorem dL_law_130 : decode cL_law 130 = .ok (.iaload, 1) := by decide +kernel
theorem dL_law_131 : decode cL_law 131 = .ok (.aload_n 0, 1) := by decide +kernel
theorem dL_law_132 : decode cL_law 132 = .ok (.iload_n 3, 1) := by decide +kernel
theorem dL_law_133 : decode cL_law 133 = .ok (.iconst 3, 1) := by decide +kernel
theorem dL_law_134 : decode cL_law 134 = .ok (.iadd, 1) := by decide +kernel
theorem dL_law_135 : decode cL_law 135 = .ok (.iaload, 1) := by decide +kernel
theorem dL_law_136 : decode cL_law 136 = .ok (.invokevirtual 13, 3) := by decide +kernel
theorem dL_law_139 : decode cL_law 139 = .ok (.aload_n 2, 1) := by decide +kernel
theorem dL_law_140 : decode cL_law 140 = .ok (.aload_n 0, 1) := by decide +kernel
theorem dL_law_141 : decode cL_law 141 = .ok (.iload_n 3, 1) := by decide +kernel
theorem dL_law_142 : decode cL_law 142 = .ok (.iconst 1, 1) := by decide +kernel
theorem dL_law_143 : decode cL_law 143 = .ok (.iadd, 1) := by decide +kernel
theorem dL_law_144 : decode cL_law 144 = .ok (.iaload, 1) := by decide +kernel
theorem dL_law_145 : decode cL_law 145 = .ok (.aload_n 0, 1) := by decide +kernel
theorem dL_law_146 : decode cL_law 146 = .ok (.iload_n 3, 1) := by decide +kernel
theorem dL_law_147 : decode cL_law 147 = .ok (.iconst 2, 1) := by decide +kernel
theorem dL_law_148 : decode cL_law 148 = .ok (.iadd, 1) := by decide +kernel
theorem dL_law_149 : decode cL_law 149 = .ok (.iaload, 1) := by decide +kernel
theorem dL_law_150 : decode cL_law 150 = .ok (.aload_n 0, 1) := by decide +kernel
theorem dL_law_151 : decode cL_law 151 = .ok (.iload_n 3, 1) := by decide +kernel
theorem dL_law_152 : decode cL_law 152 = .ok (.iconst 3, 1) := by decide +kernel
theorem dL_law_153 : decode cL_law 153 = .ok (.iadd, 1) := by decide +kernel
theorem dL_law_154 : decode cL_law 154 = .ok (.iaload, 1) := by decide +kernel
theorem dL_law_155 : decode cL_law 155 = .ok (.invokevirtual 17, 3) := by decide +kernel
theorem dL_law_158 : decode cL_law 158 = .ok (.if_icmp .eq 496, 3) := by decide +kernel
theorem dL_law_161 : decode cL_law 161 = .ok (.iconst 0, 1) := by decide +kernel
theorem dL_law_162 : decode cL_law 162 = .ok (.ireturn, 1) := by decide +kernel
theorem dL_law_163 : decode cL_law 163 = .ok (.aload_n 1, 1) := by decide +kernel
theorem dL_law_164 : decode cL_law 164 = .ok (.aload_n 0, 1) := by decide +kernel
theorem dL_law_165 : decode cL_law 165 = .ok (.iload_n 3, 1) := by decide +kernel
theorem dL_law_166 : decode cL_law 166 = .ok (.iconst 1, 1) := by decide +kernel
theorem dL_law_167 : decode cL_law 167 = .ok (.iadd, 1) := by decide +kernel
theorem dL_law_168 : decode cL_law 168 = .ok (.iaload, 1) := by decide +kernel
theorem dL_law_169 : decode cL_law 169 = .ok (.aload_n 0, 1) := by decide +kernel
theorem dL_law_170 : decode cL_law 170 = .ok (.iload_n 3, 1) := by decide +kernel
theorem dL_law_171 : decode cL_law 171 = .ok (.iconst 2, 1) := by decide +kernel
theorem dL_law_172 : decode cL_law 172 = .ok (.iadd, 1) := by decide +kernel
theorem dL_law_173 : decode cL_law 173 = .ok (.iaload, 1) := by decide +kernel
theorem dL_law_174 : decode cL_law 174 = .ok (.invokevirtual 18, 3) := by decide +kernel
theorem dL_law_177 : decode cL_law 177 = .ok (.aload_n 2, 1) := by decide +kernel
theorem dL_law_178 : decode cL_law 178 = .ok (.aload_n 0, 1) := by decide +kernel
theorem dL_law_179 : decode cL_law 179 = .ok (.iload_n 3, 1) := by decide +kernel
theorem dL_law_180 : decode cL_law 180 = .ok (.iconst 1, 1) := by decide +kernel
theorem dL_law_181 : decode cL_law 181 = .ok (.iadd, 1) := by decide +kernel
theorem dL_law_182 : decode cL_law 182 = .ok (.iaload, 1) := by decide +kernel
theorem dL_law_183 : decode cL_law 183 = .ok (.aload_n 0, 1) := by decide +kernel
theorem dL_law_184 : decode cL_law 184 = .ok (.iload_n 3, 1) := by decide +kernel
theorem dL_law_185 : decode cL_law 185 = .ok (.iconst 2, 1) := by decide +kernel
theorem dL_law_186 : decode cL_law 186 = .ok (.iadd, 1) := by decide +kernel
theorem dL_law_187 : decode cL_law 187 = .ok (.iaload, 1) := by decide +kernel
theorem dL_law_188 : decode cL_law 188 = .ok (.invokevirtual 22, 3) := by decide +kernel
theorem dL_law_191 : decode cL_law 191 = .ok (.if_icmp .eq 463, 3) := by decide +kernel
theorem dL_law_194 : decode cL_law 194 = .ok (.iconst 0, 1) := by decide +kernel
theorem dL_law_195 : decode cL_law 195 = .ok (.ireturn, 1) := by decide +kernel
theorem dL_law_196 : decode cL_law 196 = .ok (.aload_n 1, 1) := by decide +kernel
theorem dL_law_197 : decode cL_law 197 = .ok (.aload_n 0, 1) := by decide +kernel
theorem dL_law_198 : decode cL_law 198 = .ok (.iload_n 3, 1) := by decide +kernel
theorem dL_law_199 : decode cL_law 199 = .ok (.iconst 1, 1) := by decide +kernel
theorem dL_law_200 : decode cL_law 200 = .ok (.iadd, 1) := by decide +kernel
theorem dL_law_201 : decode cL_law 201 = .ok (.iaload, 1) := by decide +kernel
theorem dL_law_202 : decode cL_law 202 = .ok (.invokevirtual 23, 3) := by decide +kernel
theorem dL_law_205 : decode cL_law 205 = .ok (.aload_n 2, 1) := by decide +kernel
theorem dL_law_206 : decode cL_law 206 = .ok (.aload_n 0, 1) := by decide +kernel
theorem dL_law_207 : decode cL_law 207 = .ok (.iload_n 3, 1) := by decide +kernel
theorem dL_law_208 : decode cL_law 208 = .ok (.iconst 1, 1) := by decide +kernel
theorem dL_law_209 : decode cL_law 209 = .ok (.iadd, 1) := by decide +kernel
theorem dL_law_210 : decode cL_law 210 = .ok (.iaload, 1) := by decide +kernel
theorem dL_law_211 : decode cL_law 211 = .ok (.invokevirtual 27, 3) := by decide +kernel
theorem dL_law_214 : decode cL_law 214 = .ok (.if_icmp .eq 440, 3) := by decide +kernel
theorem dL_law_217 : decode cL_law 217 = .ok (.iconst 0, 1) := by decide +kernel
theorem dL_law_218 : decode cL_law 218 = .ok (.ireturn, 1) := by decide +kernel
theorem dL_law_219 : decode cL_law 219 = .ok (.aload_n 1, 1) := by decide +kernel
theorem dL_law_220 : decode cL_law 220 = .ok (.aload_n 0, 1) := by decide +kernel
theorem dL_law_221 : decode cL_law 221 = .ok (.iload_n 3, 1) := by decide +kernel
theorem dL_law_222 : decode cL_law 222 = .ok (.iconst 1, 1) := by decide +kernel
theorem dL_law_223 : decode cL_law 223 = .ok (.iadd, 1) := by decide +kernel
theorem dL_law_224 : decode cL_law 224 = .ok (.iaload, 1) := by decide +kernel
theorem dL_law_225 : decode cL_law 225 = .ok (.invokevirtual 28, 3) := by decide +kernel
theorem dL_law_228 : decode cL_law 228 = .ok (.aload_n 2, 1) := by decide +kernel
theorem dL_law_229 : decode cL_law 229 = .ok (.aload_n 0, 1) := by decide +kernel
theorem dL_law_230 : decode cL_law 230 = .ok (.iload_n 3, 1) := by decide +kernel
theorem dL_law_231 : decode cL_law 231 = .ok (.iconst 1, 1) := by decide +kernel
theorem dL_law_232 : decode cL_law 232 = .ok (.iadd, 1) := by decide +kernel
theorem dL_law_233 : decode cL_law 233 = .ok (.iaload, 1) := by decide +kernel
theorem dL_law_234 : decode cL_law 234 = .ok (.invokevirtual 31, 3) := by decide +kernel
theorem dL_law_237 : decode cL_law 237 = .ok (.if_icmp .eq 417, 3) := by decide +kernel
theorem dL_law_240 : decode cL_law 240 = .ok (.iconst 0, 1) := by decide +kernel
theorem dL_law_241 : decode cL_law 241 = .ok (.ireturn, 1) := by decide +kernel
theorem dL_law_242 : decode cL_law 242 = .ok (.aload_n 1, 1) := by decide +kernel
theorem dL_law_243 : decode cL_law 243 = .ok (.aload_n 0, 1) := by decide +kernel
theorem dL_law_244 : decode cL_law 244 = .ok (.iload_n 3, 1) := by decide +kernel
theorem dL_law_245 : decode cL_law 245 = .ok (.iconst 1, 1) := by decide +kernel
theorem dL_law_246 : decode cL_law 246 = .ok (.iadd, 1) := by decide +kernel
theorem dL_law_247 : decode cL_law 247 = .ok (.iaload, 1) := by decide +kernel
theorem dL_law_248 : decode cL_law 248 = .ok (.aload_n 0, 1) := by decide +kernel
theorem dL_law_249 : decode cL_law 249 = .ok (.iload_n 3, 1) := by decide +kernel
theorem dL_law_250 : decode cL_law 250 = .ok (.iconst 2, 1) := by decide +kernel
theorem dL_law_251 : decode cL_law 251 = .ok (.iadd, 1) := by decide +kernel
theorem dL_law_252 : decode cL_law 252 = .ok (.iaload, 1) := by decide +kernel
theorem dL_law_253 : decode cL_law 253 = .ok (.invokevirtual 32, 3) := by decide +kernel
theorem dL_law_256 : decode cL_law 256 = .ok (.aload_n 2, 1) := by decide +kernel
theorem dL_law_257 : decode cL_law 257 = .ok (.aload_n 0, 1) := by decide +kernel
theorem dL_law_258 : decode cL_law 258 = .ok (.iload_n 3, 1) := by decide +kernel
theorem dL_law_259 : decode cL_law 259 = .ok (.iconst 1, 1) := by decide +kernel
theorem dL_law_260 : decode cL_law 260 = .ok (.iadd, 1) := by decide +kernel
theorem dL_law_261 : decode cL_law 261 = .ok (.iaload, 1) := by decide +kernel
theorem dL_law_262 : decode cL_law 262 = .ok (.aload_n 0, 1) := by decide +kernel
theorem dL_law_263 : decode cL_law 263 = .ok (.iload_n 3, 1) := by decide +kernel
theorem dL_law_264 : decode cL_law 264 = .ok (.iconst 2, 1) := by decide +kernel
theorem dL_law_265 : decode cL_law 265 = .ok (.iadd, 1) := by decide +kernel
theorem dL_law_266 : decode cL_law 266 = .ok (.iaload, 1) := by decide +kernel
theorem dL_law_267 : decode cL_law 267 = .ok (.invokevirtual 35, 3) := by decide +kernel
theorem dL_law_270 : decode cL_law 270 = .ok (.if_icmp .eq 384, 3) := by decide +kernel
theorem dL_law_273 : decode cL_law 273 = .ok (.iconst 0, 1) := by decide +kernel
theorem dL_law_274 : decode cL_law 274 = .ok (.ireturn, 1) := by decide +kernel
theorem dL_law_275 : decode cL_law 275 = .ok (.aload_n 1, 1) := by decide +kernel
theorem dL_law_276 : decode cL_law 276 = .ok (.invokevirtual 36, 3) := by decide +kernel
theorem dL_law_279 : decode cL_law 279 = .ok (.aload_n 2, 1) := by decide +kernel
theorem dL_law_280 : decode cL_law 280 = .ok (.invokevirtual 40, 3) := by decide +kernel
theorem dL_law_283 : decode cL_law 283 = .ok (.if_icmp .eq 371, 3) := by decide +kernel
theorem dL_law_286 : decode cL_law 286 = .ok (.iconst 0, 1) := by decide +kernel
theorem dL_law_287 : decode cL_law 287 = .ok (.ireturn, 1) := by decide +kernel
theorem dL_law_288 : decode cL_law 288 = .ok (.aload_n 1, 1) := by decide +kernel
theorem dL_law_289 : decode cL_law 289 = .ok (.aload_n 0, 1) := by decide +kernel
theorem dL_law_290 : decode cL_law 290 = .ok (.iload_n 3, 1) := by decide +kernel
theorem dL_law_291 : decode cL_law 291 = .ok (.iconst 1, 1) := by decide +kernel
theorem dL_law_292 : decode cL_law 292 = .ok (.iadd, 1) := by decide +kernel
theorem dL_law_293 : decode cL_law 293 = .ok (.iaload, 1) := by decide +kernel
theorem dL_law_294 : decode cL_law 294 = .ok (.invokevirtual 41, 3) := by decide +kernel
theorem dL_law_297 : decode cL_law 297 = .ok (.aload_n 2, 1) := by decide +kernel
theorem dL_law_298 : decode cL_law 298 = .ok (.aload_n 0, 1) := by decide +kernel
theorem dL_law_299 : decode cL_law 299 = .ok (.iload_n 3, 1) := by decide +kernel
theorem dL_law_300 : decode cL_law 300 = .ok (.iconst 1, 1) := by decide +kernel
theorem dL_law_301 : decode cL_law 301 = .ok (.iadd, 1) := by decide +kernel
theorem dL_law_302 : decode cL_law 302 = .ok (.iaload, 1) := by decide +kernel
theorem dL_law_303 : decode cL_law 303 = .ok (.invokevirtual 44, 3) := by decide +kernel
theorem dL_law_306 : decode cL_law 306 = .ok (.if_icmp .eq 348, 3) := by decide +kernel
theorem dL_law_309 : decode cL_law 309 = .ok (.iconst 0, 1) := by decide +kernel
theorem dL_law_310 : decode cL_law 310 = .ok (.ireturn, 1) := by decide +kernel
theorem dL_law_311 : decode cL_law 311 = .ok (.aload_n 1, 1) := by decide +kernel
theorem dL_law_312 : decode cL_law 312 = .ok (.aload_n 0, 1) := by decide +kernel
theorem dL_law_313 : decode cL_law 313 = .ok (.iload_n 3, 1) := by decide +kernel
theorem dL_law_314 : decode cL_law 314 = .ok (.iconst 1, 1) := by decide +kernel
theorem dL_law_315 : decode cL_law 315 = .ok (.iadd, 1) := by decide +kernel
theorem dL_law_316 : decode cL_law 316 = .ok (.iaload, 1) := by decide +kernel
theorem dL_law_317 : decode cL_law 317 = .ok (.invokevirtual 45, 3) := by decide +kernel
theorem dL_law_320 : decode cL_law 320 = .ok (.aload_n 2, 1) := by decide +kernel
theorem dL_law_321 : decode cL_law 321 = .ok (.aload_n 0, 1) := by decide +kernel
theorem dL_law_322 : decode cL_law 322 = .ok (.iload_n 3, 1) := by decide +kernel
theorem dL_law_323 : decode cL_law 323 = .ok (.iconst 1, 1) := by decide +kernel
theorem dL_law_324 : decode cL_law 324 = .ok (.iadd, 1) := by decide +kernel
theorem dL_law_325 : decode cL_law 325 = .ok (.iaload, 1) := by decide +kernel
theorem dL_law_326 : decode cL_law 326 = .ok (.invokevirtual 48, 3) := by decide +kernel
theorem dL_law_329 : decode cL_law 329 = .ok (.if_icmp .eq 325, 3) := by decide +kernel
theorem dL_law_332 : decode cL_law 332 = .ok (.iconst 0, 1) := by decide +kernel
theorem dL_law_333 : decode cL_law 333 = .ok (.ireturn, 1) := by decide +kernel
theorem dL_law_334 : decode cL_law 334 = .ok (.aload_n 1, 1) := by decide +kernel
theorem dL_law_335 : decode cL_law 335 = .ok (.aload_n 0, 1) := by decide +kernel
theorem dL_law_336 : decode cL_law 336 = .ok (.iload_n 3, 1) := by decide +kernel
theorem dL_law_337 : decode cL_law 337 = .ok (.iconst 1, 1) := by decide +kernel
theorem dL_law_338 : decode cL_law 338 = .ok (.iadd, 1) := by decide +kernel
theorem dL_law_339 : decode cL_law 339 = .ok (.iaload, 1) := by decide +kernel
theorem dL_law_340 : decode cL_law 340 = .ok (.invokevirtual 49, 3) := by decide +kernel
theorem dL_law_343 : decode cL_law 343 = .ok (.aload_n 2, 1) := by decide +kernel
theorem dL_law_344 : decode cL_law 344 = .ok (.aload_n 0, 1) := by decide +kernel
theorem dL_law_345 : decode cL_law 345 = .ok (.iload_n 3, 1) := by decide +kernel
theorem dL_law_346 : decode cL_law 346 = .ok (.iconst 1, 1) := by decide +kernel
theorem dL_law_347 : decode cL_law 347 = .ok (.iadd, 1) := by decide +kernel
theorem dL_law_348 : decode cL_law 348 = .ok (.iaload, 1) := by decide +kernel
theorem dL_law_349 : decode cL_law 349 = .ok (.invokevirtual 52, 3) := by decide +kernel
theorem dL_law_352 : decode cL_law 352 = .ok (.if_icmp .eq 302, 3) := by decide +kernel
theorem dL_law_355 : decode cL_law 355 = .ok (.iconst 0, 1) := by decide +kernel
theorem dL_law_356 : decode cL_law 356 = .ok (.ireturn, 1) := by decide +kernel
theorem dL_law_357 : decode cL_law 357 = .ok (.aload_n 1, 1) := by decide +kernel
theorem dL_law_358 : decode cL_law 358 = .ok (.aload_n 0, 1) := by decide +kernel
theorem dL_law_359 : decode cL_law 359 = .ok (.iload_n 3, 1) := by decide +kernel
theorem dL_law_360 : decode cL_law 360 = .ok (.iconst 1, 1) := by decide +kernel
theorem dL_law_361 : decode cL_law 361 = .ok (.iadd, 1) := by decide +kernel
theorem dL_law_362 : decode cL_law 362 = .ok (.iaload, 1) := by decide +kernel
theorem dL_law_363 : decode cL_law 363 = .ok (.invokevirtual 53, 3) := by decide +kernel
theorem dL_law_366 : decode cL_law 366 = .ok (.aload_n 2, 1) := by decide +kernel
theorem dL_law_367 : decode cL_law 367 = .ok (.aload_n 0, 1) := by decide +kernel
theorem dL_law_368 : decode cL_law 368 = .ok (.iload_n 3, 1) := by decide +kernel
theorem dL_law_369 : decode cL_law 369 = .ok (.iconst 1, 1) := by decide +kernel
theorem dL_law_370 : decode cL_law 370 = .ok (.iadd, 1) := by decide +kernel
theorem dL_law_371 : decode cL_law 371 = .ok (.iaload, 1) := by decide +kernel
theorem dL_law_372 : decode cL_law 372 = .ok (.invokevirtual 56, 3) := by decide +kernel
theorem dL_law_375 : decode cL_law 375 = .ok (.if_icmp .eq 279, 3) := by decide +kernel
theorem dL_law_378 : decode cL_law 378 = .ok (.iconst 0, 1) := by decide +kernel
theorem dL_law_379 : decode cL_law 379 = .ok (.ireturn, 1) := by decide +kernel
theorem dL_law_380 : decode cL_law 380 = .ok (.aload_n 1, 1) := by decide +kernel
theorem dL_law_381 : decode cL_law 381 = .ok (.aload_n 0, 1) := by decide +kernel
theorem dL_law_382 : decode cL_law 382 = .ok (.iload_n 3, 1) := by decide +kernel
theorem dL_law_383 : decode cL_law 383 = .ok (.iconst 1, 1) := by decide +kernel
theorem dL_law_384 : decode cL_law 384 = .ok (.iadd, 1) := by decide +kernel
theorem dL_law_385 : decode cL_law 385 = .ok (.iaload, 1) := by decide +kernel
theorem dL_law_386 : decode cL_law 386 = .ok (.invokevirtual 57, 3) := by decide +kernel
theorem dL_law_389 : decode cL_law 389 = .ok (.aload_n 2, 1) := by decide +kernel
theorem dL_law_390 : decode cL_law 390 = .ok (.aload_n 0, 1) := by decide +kernel
theorem dL_law_391 : decode cL_law 391 = .ok (.iload_n 3, 1) := by decide +kernel
theorem dL_law_392 : decode cL_law 392 = .ok (.iconst 1, 1) := by decide +kernel
theorem dL_law_393 : decode cL_law 393 = .ok (.iadd, 1) := by decide +kernel
theorem dL_law_394 : decode cL_law 394 = .ok (.iaload, 1) := by decide +kernel
theorem dL_law_395 : decode cL_law 395 = .ok (.invokevirtual 60, 3) := by decide +kernel
theorem dL_law_398 : decode cL_law 398 = .ok (.if_icmp .eq 256, 3) := by decide +kernel
theorem dL_law_401 : decode cL_law 401 = .ok (.iconst 0, 1) := by decide +kernel
theorem dL_law_402 : decode cL_law 402 = .ok (.ireturn, 1) := by decide +kernel
theorem dL_law_403 : decode cL_law 403 = .ok (.aload_n 1, 1) := by decide +kernel
theorem dL_law_404 : decode cL_law 404 = .ok (.aload_n 0, 1) := by decide +kernel
theorem dL_law_405 : decode cL_law 405 = .ok (.iload_n 3, 1) := by decide +kernel
theorem dL_law_406 : decode cL_law 406 = .ok (.iconst 1, 1) := by decide +kernel
theorem dL_law_407 : decode cL_law 407 = .ok (.iadd, 1) := by decide +kernel
theorem dL_law_408 : decode cL_law 408 = .ok (.iaload, 1) := by decide +kernel
theorem dL_law_409 : decode cL_law 409 = .ok (.aload_n 0, 1) := by decide +kernel
theorem dL_law_410 : decode cL_law 410 = .ok (.iload_n 3, 1) := by decide +kernel
theorem dL_law_411 : decode cL_law 411 = .ok (.iconst 2, 1) := by decide +kernel
theorem dL_law_412 : decode cL_law 412 = .ok (.iadd, 1) := by decide +kernel
theorem dL_law_413 : decode cL_law 413 = .ok (.iaload, 1) := by decide +kernel
theorem dL_law_414 : decode cL_law 414 = .ok (.invokevirtual 61, 3) := by decide +kernel
theorem dL_law_417 : decode cL_law 417 = .ok (.aload_n 2, 1) := by decide +kernel
theorem dL_law_418 : decode cL_law 418 = .ok (.aload_n 0, 1) := by decide +kernel
theorem dL_law_419 : decode cL_law 419 = .ok (.iload_n 3, 1) := by decide +kernel
theorem dL_law_420 : decode cL_law 420 = .ok (.iconst 1, 1) := by decide +kernel
theorem dL_law_421 : decode cL_law 421 = .ok (.iadd, 1) := by decide +kernel
theorem dL_law_422 : decode cL_law 422 = .ok (.iaload, 1) := by decide +kernel
theorem dL_law_423 : decode cL_law 423 = .ok (.aload_n 0, 1) := by decide +kernel
theorem dL_law_424 : decode cL_law 424 = .ok (.iload_n 3, 1) := by decide +kernel
theorem dL_law_425 : decode cL_law 425 = .ok (.iconst 2, 1) := by decide +kernel
theorem dL_law_426 : decode cL_law 426 = .ok (.iadd, 1) := by decide +kernel
theorem dL_law_427 : decode cL_law 427 = .ok (.iaload, 1) := by decide +kernel
theorem dL_law_428 : decode cL_law 428 = .ok (.invokevirtual 64, 3) := by decide +kernel
theorem dL_law_431 : decode cL_law 431 = .ok (.if_icmp .eq 223, 3) := by decide +kernel
theorem dL_law_434 : decode cL_law 434 = .ok (.iconst 0, 1) := by decide +kernel
theorem dL_law_435 : decode cL_law 435 = .ok (.ireturn, 1) := by decide +kernel
theorem dL_law_436 : decode cL_law 436 = .ok (.aload_n 1, 1) := by decide +kernel
theorem dL_law_437 : decode cL_law 437 = .ok (.aload_n 0, 1) := by decide +kernel
theorem dL_law_438 : decode cL_law 438 = .ok (.iload_n 3, 1) := by decide +kernel
theorem dL_law_439 : decode cL_law 439 = .ok (.iconst 1, 1) := by decide +kernel
theorem dL_law_440 : decode cL_law 440 = .ok (.iadd, 1) := by decide +kernel
theorem dL_law_441 : decode cL_law 441 = .ok (.iaload, 1) := by decide +kernel
theorem dL_law_442 : decode cL_law 442 = .ok (.aload_n 0, 1) := by decide +kernel
theorem dL_law_443 : decode cL_law 443 = .ok (.iload_n 3, 1) := by decide +kernel
theorem dL_law_444 : decode cL_law 444 = .ok (.iconst 2, 1) := by decide +kernel
theorem dL_law_445 : decode cL_law 445 = .ok (.iadd, 1) := by decide +kernel
theorem dL_law_446 : decode cL_law 446 = .ok (.iaload, 1) := by decide +kernel
theorem dL_law_447 : decode cL_law 447 = .ok (.invokevirtual 65, 3) := by decide +kernel
theorem dL_law_450 : decode cL_law 450 = .ok (.aload_n 2, 1) := by decide +kernel
theorem dL_law_451 : decode cL_law 451 = .ok (.aload_n 0, 1) := by decide +kernel
theorem dL_law_452 : decode cL_law 452 = .ok (.iload_n 3, 1) := by decide +kernel
theorem dL_law_453 : decode cL_law 453 = .ok (.iconst 1, 1) := by decide +kernel
theorem dL_law_454 : decode cL_law 454 = .ok (.iadd, 1) := by decide +kernel
theorem dL_law_455 : decode cL_law 455 = .ok (.iaload, 1) := by decide +kernel
theorem dL_law_456 : decode cL_law 456 = .ok (.aload_n 0, 1) := by decide +kernel
theorem dL_law_457 : decode cL_law 457 = .ok (.iload_n 3, 1) := by decide +kernel
theorem dL_law_458 : decode cL_law 458 = .ok (.iconst 2, 1) := by decide +kernel
theorem dL_law_459 : decode cL_law 459 = .ok (.iadd, 1) := by decide +kernel
theorem dL_law_460 : decode cL_law 460 = .ok (.iaload, 1) := by decide +kernel
theorem dL_law_461 : decode cL_law 461 = .ok (.invokevirtual 68, 3) := by decide +kernel
theorem dL_law_464 : decode cL_law 464 = .ok (.if_icmp .eq 190, 3) := by decide +kernel
theorem dL_law_467 : decode cL_law 467 = .ok (.iconst 0, 1) := by decide +kernel
theorem dL_law_468 : decode cL_law 468 = .ok (.ireturn, 1) := by decide +kernel
theorem dL_law_469 : decode cL_law 469 = .ok (.aload_n 1, 1) := by decide +kernel
theorem dL_law_470 : decode cL_law 470 = .ok (.aload_n 0, 1) := by decide +kernel
theorem dL_law_471 : decode cL_law 471 = .ok (.iload_n 3, 1) := by decide +kernel
theorem dL_law_472 : decode cL_law 472 = .ok (.iconst 1, 1) := by decide +kernel
theorem dL_law_473 : decode cL_law 473 = .ok (.iadd, 1) := by decide +kernel
theorem dL_law_474 : decode cL_law 474 = .ok (.iaload, 1) := by decide +kernel
theorem dL_law_475 : decode cL_law 475 = .ok (.aload_n 0, 1) := by decide +kernel
theorem dL_law_476 : decode cL_law 476 = .ok (.iload_n 3, 1) := by decide +kernel
theorem dL_law_477 : decode cL_law 477 = .ok (.iconst 2, 1) := by decide +kernel
theorem dL_law_478 : decode cL_law 478 = .ok (.iadd, 1) := by decide +kernel
theorem dL_law_479 : decode cL_law 479 = .ok (.iaload, 1) := by decide +kernel
theorem dL_law_480 : decode cL_law 480 = .ok (.invokevirtual 69, 3) := by decide +kernel
theorem dL_law_483 : decode cL_law 483 = .ok (.aload_n 2, 1) := by decide +kernel
theorem dL_law_484 : decode cL_law 484 = .ok (.aload_n 0, 1) := by decide +kernel
theorem dL_law_485 : decode cL_law 485 = .ok (.iload_n 3, 1) := by decide +kernel
theorem dL_law_486 : decode cL_law 486 = .ok (.iconst 1, 1) := by decide +kernel
theorem dL_law_487 : decode cL_law 487 = .ok (.iadd, 1) := by decide +kernel
theorem dL_law_488 : decode cL_law 488 = .ok (.iaload, 1) := by decide +kernel
theorem dL_law_489 : decode cL_law 489 = .ok (.aload_n 0, 1) := by decide +kernel
theorem dL_law_490 : decode cL_law 490 = .ok (.iload_n 3, 1) := by decide +kernel
theorem dL_law_491 : decode cL_law 491 = .ok (.iconst 2, 1) := by decide +kernel
theorem dL_law_492 : decode cL_law 492 = .ok (.iadd, 1) := by decide +kernel
theorem dL_law_493 : decode cL_law 493 = .ok (.iaload, 1) := by decide +kernel
theorem dL_law_494 : decode cL_law 494 = .ok (.invokevirtual 72, 3) := by decide +kernel
theorem dL_law_497 : decode cL_law 497 = .ok (.if_icmp .eq 157, 3) := by decide +kernel
theorem dL_law_500 : decode cL_law 500 = .ok (.iconst 0, 1) := by decide +kernel
theorem dL_law_501 : decode cL_law 501 = .ok (.ireturn, 1) := by decide +kernel
theorem dL_law_502 : decode cL_law 502 = .ok (.aload_n 1, 1) := by decide +kernel
theorem dL_law_503 : decode cL_law 503 = .ok (.aload_n 0, 1) := by decide +kernel
theorem dL_law_504 : decode cL_law 504 = .ok (.iload_n 3, 1) := by decide +kernel
theorem dL_law_505 : decode cL_law 505 = .ok (.iconst 1, 1) := by decide +kernel
theorem dL_law_506 : decode cL_law 506 = .ok (.iadd, 1) := by decide +kernel
theorem dL_law_507 : decode cL_law 507 = .ok (.iaload, 1) := by decide +kernel
theorem dL_law_508 : decode cL_law 508 = .ok (.aload_n 0, 1) := by decide +kernel
theorem dL_law_509 : decode cL_law 509 = .ok (.iload_n 3, 1) := by decide +kernel
theorem dL_law_510 : decode cL_law 510 = .ok (.iconst 2, 1) := by decide +kernel
theorem dL_law_511 : decode cL_law 511 = .ok (.iadd, 1) := by decide +kernel
theorem dL_law_512 : decode cL_law 512 = .ok (.iaload, 1) := by decide +kernel
theorem dL_law_513 : decode cL_law 513 = .ok (.aload_n 0, 1) := by decide +kernel
theorem dL_law_514 : decode cL_law 514 = .ok (.iload_n 3, 1) := by decide +kernel
theorem dL_law_515 : decode cL_law 515 = .ok (.iconst 3, 1) := by decide +kernel
theorem dL_law_516 : decode cL_law 516 = .ok (.iadd, 1) := by decide +kernel
theorem dL_law_517 : decode cL_law 517 = .ok (.iaload, 1) := by decide +kernel
theorem dL_law_518 : decode cL_law 518 = .ok (.invokevirtual 73, 3) := by decide +kernel
theorem dL_law_521 : decode cL_law 521 = .ok (.aload_n 2, 1) := by decide +kernel
theorem dL_law_522 : decode cL_law 522 = .ok (.aload_n 0, 1) := by decide +kernel
theorem dL_law_523 : decode cL_law 523 = .ok (.iload_n 3, 1) := by decide +kernel
theorem dL_law_524 : decode cL_law 524 = .ok (.iconst 1, 1) := by decide +kernel
theorem dL_law_525 : decode cL_law 525 = .ok (.iadd, 1) := by decide +kernel
theorem dL_law_526 : decode cL_law 526 = .ok (.iaload, 1) := by decide +kernel
theorem dL_law_527 : decode cL_law 527 = .ok (.aload_n 0, 1) := by decide +kernel
theorem dL_law_528 : decode cL_law 528 = .ok (.iload_n 3, 1) := by decide +kernel
theorem dL_law_529 : decode cL_law 529 = .ok (.iconst 2, 1) := by decide +kernel
theorem dL_law_530 : decode cL_law 530 = .ok (.iadd, 1) := by decide +kernel
theorem dL_law_531 : decode cL_law 531 = .ok (.iaload, 1) := by decide +kernel
theorem dL_law_532 : decode cL_law 532 = .ok (.aload_n 0, 1) := by decide +kernel
theorem dL_law_533 : decode cL_law 533 = .ok (.iload_n 3, 1) := by decide +kernel
theorem dL_law_534 : decode cL_law 534 = .ok (.iconst 3, 1) := by decide +kernel
theorem dL_law_535 : decode cL_law 535 = .ok (.iadd, 1) := by decide +kernel
theorem dL_law_536 : decode cL_law 536 = .ok (.iaload, 1) := by decide +kernel
theorem dL_law_537 : decode cL_law 537 = .ok (.invokevirtual 76, 3) := by decide +kernel
theorem dL_law_540 : decode cL_law 540 = .ok (.if_icmp .eq 114, 3) := by decide +kernel
theorem dL_law_543 : decode cL_law 543 = .ok (.iconst 0, 1) := by decide +kernel
theorem dL_law_544 : decode cL_law 544 = .ok (.ireturn, 1) := by decide +kernel
theorem dL_law_545 : decode cL_law 545 = .ok (.aload_n 1, 1) := by decide +kernel
theorem dL_law_546 : decode cL_law 546 = .ok (.aload_n 0, 1) := by decide +kernel
theorem dL_law_547 : decode cL_law 547 = .ok (.iload_n 3, 1) := by decide +kernel
theorem dL_law_548 : decode cL_law 548 = .ok (.iconst 1, 1) := by decide +kernel
theorem dL_law_549 : decode cL_law 549 = .ok (.iadd, 1) := by decide +kernel
theorem dL_law_550 : decode cL_law 550 = .ok (.iaload, 1) := by decide +kernel
theorem dL_law_551 : decode cL_law 551 = .ok (.aload_n 0, 1) := by decide +kernel
theorem dL_law_552 : decode cL_law 552 = .ok (.iload_n 3, 1) := by decide +kernel
theorem dL_law_553 : decode cL_law 553 = .ok (.iconst 2, 1) := by decide +kernel
theorem dL_law_554 : decode cL_law 554 = .ok (.iadd, 1) := by decide +kernel
theorem dL_law_555 : decode cL_law 555 = .ok (.iaload, 1) := by decide +kernel
theorem dL_law_556 : decode cL_law 556 = .ok (.aload_n 0, 1) := by decide +kernel
theorem dL_law_557 : decode cL_law 557 = .ok (.iload_n 3, 1) := by decide +kernel
theorem dL_law_558 : decode cL_law 558 = .ok (.iconst 3, 1) := by decide +kernel
theorem dL_law_559 : decode cL_law 559 = .ok (.iadd, 1) := by decide +kernel
theorem dL_law_560 : decode cL_law 560 = .ok (.iaload, 1) := by decide +kernel
theorem dL_law_561 : decode cL_law 561 = .ok (.aload_n 0, 1) := by decide +kernel
theorem dL_law_562 : decode cL_law 562 = .ok (.iload_n 3, 1) := by decide +kernel
theorem dL_law_563 : decode cL_law 563 = .ok (.iconst 4, 1) := by decide +kernel
theorem dL_law_564 : decode cL_law 564 = .ok (.iadd, 1) := by decide +kernel
theorem dL_law_565 : decode cL_law 565 = .ok (.iaload, 1) := by decide +kernel
theorem dL_law_566 : decode cL_law 566 = .ok (.invokevirtual 77, 3) := by decide +kernel
theorem dL_law_569 : decode cL_law 569 = .ok (.aload_n 2, 1) := by decide +kernel
theorem dL_law_570 : decode cL_law 570 = .ok (.aload_n 0, 1) := by decide +kernel
theorem dL_law_571 : decode cL_law 571 = .ok (.iload_n 3, 1) := by decide +kernel
theorem dL_law_572 : decode cL_law 572 = .ok (.iconst 1, 1) := by decide +kernel
theorem dL_law_573 : decode cL_law 573 = .ok (.iadd, 1) := by decide +kernel
theorem dL_law_574 : decode cL_law 574 = .ok (.iaload, 1) := by decide +kernel
theorem dL_law_575 : decode cL_law 575 = .ok (.aload_n 0, 1) := by decide +kernel
theorem dL_law_576 : decode cL_law 576 = .ok (.iload_n 3, 1) := by decide +kernel
theorem dL_law_577 : decode cL_law 577 = .ok (.iconst 2, 1) := by decide +kernel
theorem dL_law_578 : decode cL_law 578 = .ok (.iadd, 1) := by decide +kernel
theorem dL_law_579 : decode cL_law 579 = .ok (.iaload, 1) := by decide +kernel
theorem dL_law_580 : decode cL_law 580 = .ok (.aload_n 0, 1) := by decide +kernel
theorem dL_law_581 : decode cL_law 581 = .ok (.iload_n 3, 1) := by decide +kernel
theorem dL_law_582 : decode cL_law 582 = .ok (.iconst 3, 1) := by decide +kernel
theorem dL_law_583 : decode cL_law 583 = .ok (.iadd, 1) := by decide +kernel
theorem dL_law_584 : decode cL_law 584 = .ok (.iaload, 1) := by decide +kernel
theorem dL_law_585 : decode cL_law 585 = .ok (.aload_n 0, 1) := by decide +kernel
theorem dL_law_586 : decode cL_law 586 = .ok (.iload_n 3, 1) := by decide +kernel
theorem dL_law_587 : decode cL_law 587 = .ok (.iconst 4, 1) := by decide +kernel
theorem dL_law_588 : decode cL_law 588 = .ok (.iadd, 1) := by decide +kernel
theorem dL_law_589 : decode cL_law 589 = .ok (.iaload, 1) := by decide +kernel
theorem dL_law_590 : decode cL_law 590 = .ok (.invokevirtual 81, 3) := by decide +kernel
theorem dL_law_593 : decode cL_law 593 = .ok (.if_icmp .eq 61, 3) := by decide +kernel
theorem dL_law_596 : decode cL_law 596 = .ok (.iconst 0, 1) := by decide +kernel
theorem dL_law_597 : decode cL_law 597 = .ok (.ireturn, 1) := by decide +kernel
theorem dL_law_598 : decode cL_law 598 = .ok (.aload_n 1, 1) := by decide +kernel
theorem dL_law_599 : decode cL_law 599 = .ok (.aload_n 0, 1) := by decide +kernel
theorem dL_law_600 : decode cL_law 600 = .ok (.iload_n 3, 1) := by decide +kernel
theorem dL_law_601 : decode cL_law 601 = .ok (.iconst 1, 1) := by decide +kernel
theorem dL_law_602 : decode cL_law 602 = .ok (.iadd, 1) := by decide +kernel
theorem dL_law_603 : decode cL_law 603 = .ok (.iaload, 1) := by decide +kernel
theorem dL_law_604 : decode cL_law 604 = .ok (.aload_n 0, 1) := by decide +kernel
theorem dL_law_605 : decode cL_law 605 = .ok (.iload_n 3, 1) := by decide +kernel
theorem dL_law_606 : decode cL_law 606 = .ok (.iconst 2, 1) := by decide +kernel
theorem dL_law_607 : decode cL_law 607 = .ok (.iadd, 1) := by decide +kernel
theorem dL_law_608 : decode cL_law 608 = .ok (.iaload, 1) := by decide +kernel
theorem dL_law_609 : decode cL_law 609 = .ok (.invokevirtual 82, 3) := by decide +kernel
theorem dL_law_612 : decode cL_law 612 = .ok (.aload_n 2, 1) := by decide +kernel
theorem dL_law_613 : decode cL_law 613 = .ok (.aload_n 0, 1) := by decide +kernel
theorem dL_law_614 : decode cL_law 614 = .ok (.iload_n 3, 1) := by decide +kernel
theorem dL_law_615 : decode cL_law 615 = .ok (.iconst 1, 1) := by decide +kernel
theorem dL_law_616 : decode cL_law 616 = .ok (.iadd, 1) := by decide +kernel
theorem dL_law_617 : decode cL_law 617 = .ok (.iaload, 1) := by decide +kernel
theorem dL_law_618 : decode cL_law 618 = .ok (.aload_n 0, 1) := by decide +kernel
theorem dL_law_619 : decode cL_law 619 = .ok (.iload_n 3, 1) := by decide +kernel
theorem dL_law_620 : decode cL_law 620 = .ok (.iconst 2, 1) := by decide +kernel
theorem dL_law_621 : decode cL_law 621 = .ok (.iadd, 1) := by decide +kernel
theorem dL_law_622 : decode cL_law 622 = .ok (.iaload, 1) := by decide +kernel
theorem dL_law_623 : decode cL_law 623 = .ok (.invokevirtual 85, 3) := by decide +kernel
theorem dL_law_626 : decode cL_law 626 = .ok (.if_icmp .eq 28, 3) := by decide +kernel
theorem dL_law_629 : decode cL_law 629 = .ok (.iconst 0, 1) := by decide +kernel
theorem dL_law_630 : decode cL_law 630 = .ok (.ireturn, 1) := by decide +kernel
theorem dL_law_631 : decode cL_law 631 = .ok (.aload_n 1, 1) := by decide +kernel
theorem dL_law_632 : decode cL_law 632 = .ok (.aload_n 0, 1) := by decide +kernel
theorem dL_law_633 : decode cL_law 633 = .ok (.iload_n 3, 1) := by decide +kernel
theorem dL_law_634 : decode cL_law 634 = .ok (.iconst 1, 1) := by decide +kernel
theorem dL_law_635 : decode cL_law 635 = .ok (.iadd, 1) := by decide +kernel
theorem dL_law_636 : decode cL_law 636 = .ok (.iaload, 1) := by decide +kernel
theorem dL_law_637 : decode cL_law 637 = .ok (.invokevirtual 86, 3) := by decide +kernel
theorem dL_law_640 : decode cL_law 640 = .ok (.aload_n 2, 1) := by decide +kernel
theorem dL_law_641 : decode cL_law 641 = .ok (.aload_n 0, 1) := by decide +kernel
theorem dL_law_642 : decode cL_law 642 = .ok (.iload_n 3, 1) := by decide +kernel
theorem dL_law_643 : decode cL_law 643 = .ok (.iconst 1, 1) := by decide +kernel
theorem dL_law_644 : decode cL_law 644 = .ok (.iadd, 1) := by decide +kernel
theorem dL_law_645 : decode cL_law 645 = .ok (.iaload, 1) := by decide +kernel
theorem dL_law_646 : decode cL_law 646 = .ok (.invokevirtual 89, 3) := by decide +kernel
theorem dL_law_649 : decode cL_law 649 = .ok (.if_icmp .eq 5, 3) := by decide +kernel
theorem dL_law_652 : decode cL_law 652 = .ok (.iconst 0, 1) := by decide +kernel
theorem dL_law_653 : decode cL_law 653 = .ok (.ireturn, 1) := by decide +kernel
theorem dL_law_654 : decode cL_law 654 = .ok (.iinc 3 5, 3) := by decide +kernel
theorem dL_law_657 : decode cL_law 657 = .ok (.goto (-639), 3) := by decide +kernel
theorem dL_law_660 : decode cL_law 660 = .ok (.iconst 1, 1) := by decide +kernel
theorem dL_law_661 : decode cL_law 661 = .ok (.ireturn, 1) := by decide +kernel
