theorem dX0_init_0 : decode cX0_init 0 = .ok (.aload_n 0, 1) := by decide +kernel
theorem dX0_init_1 : decode cX0_init 1 = .ok (.invokespecial 1, 3) := by decide +kernel
theorem dX0_init_4 : decode cX0_init 4 = .ok (.return_, 1) := by decide +kernel
theorem dX0_start_0 : decode cX0_start 0 = .ok (.aload_n 0, 1) := by decide +kernel
theorem dX0_start_1 : decode cX0_start 1 = .ok (.iload_n 1, 1) := by decide +kernel
theorem dX0_start_2 : decode cX0_start 2 = .ok (.putfield 7, 3) := by decide +kernel
theorem dX0_start_5 : decode cX0_start 5 = .ok (.aload_n 0, 1) := by decide +kernel
theorem dX0_start_6 : decode cX0_start 6 = .ok (.iload_n 2, 1) := by decide +kernel
theorem dX0_start_7 : decode cX0_start 7 = .ok (.putfield 13, 3) := by decide +kernel
theorem dX0_start_10 : decode cX0_start 10 = .ok (.aload_n 0, 1) := by decide +kernel
theorem dX0_start_11 : decode cX0_start 11 = .ok (.iload_n 1, 1) := by decide +kernel
theorem dX0_start_12 : decode cX0_start 12 = .ok (.putfield 16, 3) := by decide +kernel
theorem dX0_start_15 : decode cX0_start 15 = .ok (.return_, 1) := by decide +kernel
theorem dX0_goesOn_0 : decode cX0_goesOn 0 = .ok (.aload_n 0, 1) := by decide +kernel
theorem dX0_goesOn_1 : decode cX0_goesOn 1 = .ok (.getfield 13, 3) := by decide +kernel
theorem dX0_goesOn_4 : decode cX0_goesOn 4 = .ok (.ifCond .le 7, 3) := by decide +kernel
theorem dX0_goesOn_7 : decode cX0_goesOn 7 = .ok (.iconst 1, 1) := by decide +kernel
theorem dX0_goesOn_8 : decode cX0_goesOn 8 = .ok (.goto 4, 3) := by decide +kernel
theorem dX0_goesOn_11 : decode cX0_goesOn 11 = .ok (.iconst 0, 1) := by decide +kernel
theorem dX0_goesOn_12 : decode cX0_goesOn 12 = .ok (.ireturn, 1) := by decide +kernel
theorem dX0_step_0 : decode cX0_step 0 = .ok (.aload_n 0, 1) := by decide +kernel
theorem dX0_step_1 : decode cX0_step 1 = .ok (.getfield 13, 3) := by decide +kernel
theorem dX0_step_4 : decode cX0_step 4 = .ok (.ifCond .gt 5, 3) := by decide +kernel
theorem dX0_step_7 : decode cX0_step 7 = .ok (.iconst 0, 1) := by decide +kernel
theorem dX0_step_8 : decode cX0_step 8 = .ok (.ireturn, 1) := by decide +kernel
theorem dX0_step_9 : decode cX0_step 9 = .ok (.aload_n 0, 1) := by decide +kernel
theorem dX0_step_10 : decode cX0_step 10 = .ok (.getfield 7, 3) := by decide +kernel
theorem dX0_step_13 : decode cX0_step 13 = .ok (.i2l, 1) := by decide +kernel
theorem dX0_step_14 : decode cX0_step 14 = .ok (.aload_n 0, 1) := by decide +kernel
theorem dX0_step_15 : decode cX0_step 15 = .ok (.getfield 13, 3) := by decide +kernel
theorem dX0_step_18 : decode cX0_step 18 = .ok (.i2l, 1) := by decide +kernel
theorem dX0_step_19 : decode cX0_step 19 = .ok (.ladd, 1) := by decide +kernel
theorem dX0_step_20 : decode cX0_step 20 = .ok (.lconst 1, 1) := by decide +kernel
theorem dX0_step_21 : decode cX0_step 21 = .ok (.lsub, 1) := by decide +kernel
theorem dX0_step_22 : decode cX0_step 22 = .ok (.aload_n 0, 1) := by decide +kernel
theorem dX0_step_23 : decode cX0_step 23 = .ok (.getfield 13, 3) := by decide +kernel
theorem dX0_step_26 : decode cX0_step 26 = .ok (.i2l, 1) := by decide +kernel
theorem dX0_step_27 : decode cX0_step 27 = .ok (.invokestatic 19, 3) := by decide +kernel
theorem dX0_step_30 : decode cX0_step 30 = .ok (.l2i, 1) := by decide +kernel
theorem dX0_step_31 : decode cX0_step 31 = .ok (.istore_n 1, 1) := by decide +kernel
theorem dX0_step_32 : decode cX0_step 32 = .ok (.iload_n 1, 1) := by decide +kernel
theorem dX0_step_33 : decode cX0_step 33 = .ok (.aload_n 0, 1) := by decide +kernel
theorem dX0_step_34 : decode cX0_step 34 = .ok (.getfield 13, 3) := by decide +kernel
theorem dX0_step_37 : decode cX0_step 37 = .ok (.imul, 1) := by decide +kernel
theorem dX0_step_38 : decode cX0_step 38 = .ok (.aload_n 0, 1) := by decide +kernel
theorem dX0_step_39 : decode cX0_step 39 = .ok (.getfield 7, 3) := by decide +kernel
theorem dX0_step_42 : decode cX0_step 42 = .ok (.isub, 1) := by decide +kernel
theorem dX0_step_43 : decode cX0_step 43 = .ok (.istore_n 2, 1) := by decide +kernel
theorem dX0_step_44 : decode cX0_step 44 = .ok (.aload_n 0, 1) := by decide +kernel
theorem dX0_step_45 : decode cX0_step 45 = .ok (.aload_n 0, 1) := by decide +kernel
theorem dX0_step_46 : decode cX0_step 46 = .ok (.getfield 13, 3) := by decide +kernel
theorem dX0_step_49 : decode cX0_step 49 = .ok (.putfield 7, 3) := by decide +kernel
theorem dX0_step_52 : decode cX0_step 52 = .ok (.aload_n 0, 1) := by decide +kernel
theorem dX0_step_53 : decode cX0_step 53 = .ok (.iload_n 2, 1) := by decide +kernel
theorem dX0_step_54 : decode cX0_step 54 = .ok (.putfield 13, 3) := by decide +kernel
theorem dX0_step_57 : decode cX0_step 57 = .ok (.iload_n 1, 1) := by decide +kernel
theorem dX0_step_58 : decode cX0_step 58 = .ok (.ireturn, 1) := by decide +kernel
theorem dX0_countAll_0 : decode cX0_countAll 0 = .ok (.iconst 0, 1) := by decide +kernel
theorem dX0_countAll_1 : decode cX0_countAll 1 = .ok (.istore_n 1, 1) := by decide +kernel
theorem dX0_countAll_2 : decode cX0_countAll 2 = .ok (.aload_n 0, 1) := by decide +kernel
theorem dX0_countAll_3 : decode cX0_countAll 3 = .ok (.invokevirtual 25, 3) := by decide +kernel
theorem dX0_countAll_6 : decode cX0_countAll 6 = .ok (.ifCond .eq 22, 3) := by decide +kernel
theorem dX0_countAll_9 : decode cX0_countAll 9 = .ok (.iload_n 1, 1) := by decide +kernel
theorem dX0_countAll_10 : decode cX0_countAll 10 = .ok (.aload_n 0, 1) := by decide +kernel
theorem dX0_countAll_11 : decode cX0_countAll 11 = .ok (.getfield 16, 3) := by decide +kernel
theorem dX0_countAll_14 : decode cX0_countAll 14 = .ok (.if_icmp .ge 14, 3) := by decide +kernel
theorem dX0_countAll_17 : decode cX0_countAll 17 = .ok (.aload_n 0, 1) := by decide +kernel
theorem dX0_countAll_18 : decode cX0_countAll 18 = .ok (.invokevirtual 29, 3) := by decide +kernel
theorem dX0_countAll_21 : decode cX0_countAll 21 = .ok (.pop, 1) := by decide +kernel
theorem dX0_countAll_22 : decode cX0_countAll 22 = .ok (.iinc 1 1, 3) := by decide +kernel
theorem dX0_countAll_25 : decode cX0_countAll 25 = .ok (.goto (-23), 3) := by decide +kernel
theorem dX0_countAll_28 : decode cX0_countAll 28 = .ok (.iload_n 1, 1) := by decide +kernel
theorem dX0_countAll_29 : decode cX0_countAll 29 = .ok (.ireturn, 1) := by decide +kernel
theorem dX0_skipTo_0 : decode cX0_skipTo 0 = .ok (.iconst 0, 1) := by decide +kernel
theorem dX0_skipTo_1 : decode cX0_skipTo 1 = .ok (.istore_n 2, 1) := by decide +kernel
theorem dX0_skipTo_2 : decode cX0_skipTo 2 = .ok (.iload_n 2, 1) := by decide +kernel
theorem dX0_skipTo_3 : decode cX0_skipTo 3 = .ok (.iload_n 1, 1) := by decide +kernel
theorem dX0_skipTo_4 : decode cX0_skipTo 4 = .ok (.if_icmp .ge 29, 3) := by decide +kernel
theorem dX0_skipTo_7 : decode cX0_skipTo 7 = .ok (.iload_n 2, 1) := by decide +kernel
theorem dX0_skipTo_8 : decode cX0_skipTo 8 = .ok (.aload_n 0, 1) := by decide +kernel
theorem dX0_skipTo_9 : decode cX0_skipTo 9 = .ok (.getfield 16, 3) := by decide +kernel
theorem dX0_skipTo_12 : decode cX0_skipTo 12 = .ok (.if_icmp .ge 21, 3) := by decide +kernel
theorem dX0_skipTo_15 : decode cX0_skipTo 15 = .ok (.aload_n 0, 1) := by decide +kernel
theorem dX0_skipTo_16 : decode cX0_skipTo 16 = .ok (.invokevirtual 25, 3) := by decide +kernel
theorem dX0_skipTo_19 : decode cX0_skipTo 19 = .ok (.ifCond .eq 14, 3) := by decide +kernel
theorem dX0_skipTo_22 : decode cX0_skipTo 22 = .ok (.aload_n 0, 1) := by decide +kernel
theorem dX0_skipTo_23 : decode cX0_skipTo 23 = .ok (.invokevirtual 29, 3) := by decide +kernel
theorem dX0_skipTo_26 : decode cX0_skipTo 26 = .ok (.pop, 1) := by decide +kernel
theorem dX0_skipTo_27 : decode cX0_skipTo 27 = .ok (.iinc 2 1, 3) := by decide +kernel
theorem dX0_skipTo_30 : decode cX0_skipTo 30 = .ok (.goto (-28), 3) := by decide +kernel
theorem dX0_skipTo_33 : decode cX0_skipTo 33 = .ok (.aload_n 0, 1) := by decide +kernel
theorem dX0_skipTo_34 : decode cX0_skipTo 34 = .ok (.invokevirtual 25, 3) := by decide +kernel
theorem dX0_skipTo_37 : decode cX0_skipTo 37 = .ok (.ireturn, 1) := by decide +kernel
theorem dX1_init_0 : decode cX1_init 0 = .ok (.aload_n 0, 1) := by decide +kernel
theorem dX1_init_1 : decode cX1_init 1 = .ok (.invokespecial 3, 3) := by decide +kernel
theorem dX1_init_4 : decode cX1_init 4 = .ok (.aload_n 0, 1) := by decide +kernel
theorem dX1_init_5 : decode cX1_init 5 = .ok (.bipush 24, 2) := by decide +kernel
theorem dX1_init_7 : decode cX1_init 7 = .ok (.newarray .int, 2) := by decide +kernel
theorem dX1_init_9 : decode cX1_init 9 = .ok (.putfield 11, 3) := by decide +kernel
theorem dX1_init_12 : decode cX1_init 12 = .ok (.aload_n 0, 1) := by decide +kernel
theorem dX1_init_13 : decode cX1_init 13 = .ok (.bipush 24, 2) := by decide +kernel
theorem dX1_init_15 : decode cX1_init 15 = .ok (.newarray .int, 2) := by decide +kernel
theorem dX1_init_17 : decode cX1_init 17 = .ok (.putfield 15, 3) := by decide +kernel
theorem dX1_init_20 : decode cX1_init 20 = .ok (.aload_n 0, 1) := by decide +kernel
theorem dX1_init_21 : decode cX1_init 21 = .ok (.sipush 144, 3) := by decide +kernel
theorem dX1_init_24 : decode cX1_init 24 = .ok (.newarray .int, 2) := by decide +kernel
theorem dX1_init_26 : decode cX1_init 26 = .ok (.putfield 18, 3) := by decide +kernel
theorem dX1_init_29 : decode cX1_init 29 = .ok (.return_, 1) := by decide +kernel
theorem dX1_copyFrom_0 : decode cX1_copyFrom 0 = .ok (.aload_n 0, 1) := by decide +kernel
theorem dX1_copyFrom_1 : decode cX1_copyFrom 1 = .ok (.aload_n 1, 1) := by decide +kernel
theorem dX1_copyFrom_2 : decode cX1_copyFrom 2 = .ok (.getfield 21, 3) := by decide +kernel
theorem dX1_copyFrom_5 : decode cX1_copyFrom 5 = .ok (.putfield 21, 3) := by decide +kernel
theorem dX1_copyFrom_8 : decode cX1_copyFrom 8 = .ok (.aload_n 0, 1) := by decide +kernel
theorem dX1_copyFrom_9 : decode cX1_copyFrom 9 = .ok (.aload_n 1, 1) := by decide +kernel
theorem dX1_copyFrom_10 : decode cX1_copyFrom 10 = .ok (.getfield 25, 3) := by decide +kernel
theorem dX1_copyFrom_13 : decode cX1_copyFrom 13 = .ok (.putfield 25, 3) := by decide +kernel
theorem dX1_copyFrom_16 : decode cX1_copyFrom 16 = .ok (.aload_n 1, 1) := by decide +kernel
theorem dX1_copyFrom_17 : decode cX1_copyFrom 17 = .ok (.getfield 11, 3) := by decide +kernel
theorem dX1_copyFrom_20 : decode cX1_copyFrom 20 = .ok (.iconst 0, 1) := by decide +kernel
theorem dX1_copyFrom_21 : decode cX1_copyFrom 21 = .ok (.aload_n 0, 1) := by decide +kernel
theorem dX1_copyFrom_22 : decode cX1_copyFrom 22 = .ok (.getfield 11, 3) := by decide +kernel
theorem dX1_copyFrom_25 : decode cX1_copyFrom 25 = .ok (.iconst 0, 1) := by decide +kernel
theorem dX1_copyFrom_26 : decode cX1_copyFrom 26 = .ok (.bipush 24, 2) := by decide +kernel
theorem dX1_copyFrom_28 : decode cX1_copyFrom 28 = .ok (.invokestatic 28, 3) := by decide +kernel
theorem dX1_copyFrom_31 : decode cX1_copyFrom 31 = .ok (.aload_n 1, 1) := by decide +kernel
theorem dX1_copyFrom_32 : decode cX1_copyFrom 32 = .ok (.getfield 15, 3) := by decide +kernel
theorem dX1_copyFrom_35 : decode cX1_copyFrom 35 = .ok (.iconst 0, 1) := by decide +kernel
theorem dX1_copyFrom_36 : decode cX1_copyFrom 36 = .ok (.aload_n 0, 1) := by decide +kernel
theorem dX1_copyFrom_37 : decode cX1_copyFrom 37 = .ok (.getfield 15, 3) := by decide +kernel
theorem dX1_copyFrom_40 : decode cX1_copyFrom 40 = .ok (.iconst 0, 1) := by decide +kernel
theorem dX1_copyFrom_41 : decode cX1_copyFrom 41 = .ok (.bipush 24, 2) := by decide +kernel
theorem dX1_copyFrom_43 : decode cX1_copyFrom 43 = .ok (.invokestatic 28, 3) := by decide +kernel
theorem dX1_copyFrom_46 : decode cX1_copyFrom 46 = .ok (.aload_n 1, 1) := by decide +kernel
theorem dX1_copyFrom_47 : decode cX1_copyFrom 47 = .ok (.getfield 18, 3) := by decide +kernel
theorem dX1_copyFrom_50 : decode cX1_copyFrom 50 = .ok (.iconst 0, 1) := by decide +kernel
theorem dX1_copyFrom_51 : decode cX1_copyFrom 51 = .ok (.aload_n 0, 1) := by decide +kernel
theorem dX1_copyFrom_52 : decode cX1_copyFrom 52 = .ok (.getfield 18, 3) := by decide +kernel
theorem dX1_copyFrom_55 : decode cX1_copyFrom 55 = .ok (.iconst 0, 1) := by decide +kernel
theorem dX1_copyFrom_56 : decode cX1_copyFrom 56 = .ok (.sipush 144, 3) := by decide +kernel
theorem dX1_copyFrom_59 : decode cX1_copyFrom 59 = .ok (.invokestatic 28, 3) := by decide +kernel
theorem dX1_copyFrom_62 : decode cX1_copyFrom 62 = .ok (.return_, 1) := by decide +kernel
theorem dX1_build_0 : decode cX1_build 0 = .ok (.aload_n 0, 1) := by decide +kernel
theorem dX1_build_1 : decode cX1_build 1 = .ok (.iconst 0, 1) := by decide +kernel
theorem dX1_build_2 : decode cX1_build 2 = .ok (.putfield 21, 3) := by decide +kernel
theorem dX1_build_5 : decode cX1_build 5 = .ok (.aload_n 0, 1) := by decide +kernel
theorem dX1_build_6 : decode cX1_build 6 = .ok (.aload_n 1, 1) := by decide +kernel
theorem dX1_build_7 : decode cX1_build 7 = .ok (.getfield 34, 3) := by decide +kernel
theorem dX1_build_10 : decode cX1_build 10 = .ok (.putfield 25, 3) := by decide +kernel
theorem dX1_build_13 : decode cX1_build 13 = .ok (.iconst 0, 1) := by decide +kernel
theorem dX1_build_14 : decode cX1_build 14 = .ok (.istore_n 2, 1) := by decide +kernel
theorem dX1_build_15 : decode cX1_build 15 = .ok (.iload_n 2, 1) := by decide +kernel
theorem dX1_build_16 : decode cX1_build 16 = .ok (.aload_n 1, 1) := by decide +kernel
theorem dX1_build_17 : decode cX1_build 17 = .ok (.getfield 39, 3) := by decide +kernel
theorem dX1_build_20 : decode cX1_build 20 = .ok (.if_icmp .ge 67, 3) := by decide +kernel
theorem dX1_build_23 : decode cX1_build 23 = .ok (.iload_n 2, 1) := by decide +kernel
theorem dX1_build_24 : decode cX1_build 24 = .ok (.aload_n 1, 1) := by decide +kernel
theorem dX1_build_25 : decode cX1_build 25 = .ok (.getfield 42, 3) := by decide +kernel
theorem dX1_build_28 : decode cX1_build 28 = .ok (.arraylength, 1) := by decide +kernel
theorem dX1_build_29 : decode cX1_build 29 = .ok (.if_icmp .ge 58, 3) := by decide +kernel
theorem dX1_build_32 : decode cX1_build 32 = .ok (.aload_n 0, 1) := by decide +kernel
theorem dX1_build_33 : decode cX1_build 33 = .ok (.aload_n 1, 1) := by decide +kernel
theorem dX1_build_34 : decode cX1_build 34 = .ok (.getfield 42, 3) := by decide +kernel
theorem dX1_build_37 : decode cX1_build 37 = .ok (.iload_n 2, 1) := by decide +kernel
theorem dX1_build_38 : decode cX1_build 38 = .ok (.iaload, 1) := by decide +kernel
theorem dX1_build_39 : decode cX1_build 39 = .ok (.aload_n 1, 1) := by decide +kernel
theorem dX1_build_40 : decode cX1_build 40 = .ok (.getfield 43, 3) := by decide +kernel
theorem dX1_build_43 : decode cX1_build 43 = .ok (.iload_n 2, 1) := by decide +kernel
theorem dX1_build_44 : decode cX1_build 44 = .ok (.iaload, 1) := by decide +kernel
theorem dX1_build_45 : decode cX1_build 45 = .ok (.invokevirtual 44, 3) := by decide +kernel
theorem dX1_build_48 : decode cX1_build 48 = .ok (.istore_n 3, 1) := by decide +kernel
theorem dX1_build_49 : decode cX1_build 49 = .ok (.iconst 0, 1) := by decide +kernel
theorem dX1_build_50 : decode cX1_build 50 = .ok (.istore 4, 2) := by decide +kernel
theorem dX1_build_52 : decode cX1_build 52 = .ok (.iload 4, 2) := by decide +kernel
theorem dX1_build_54 : decode cX1_build 54 = .ok (.aload_n 0, 1) := by decide +kernel
theorem dX1_build_55 : decode cX1_build 55 = .ok (.getfield 25, 3) := by decide +kernel
theorem dX1_build_58 : decode cX1_build 58 = .ok (.if_icmp .ge 23, 3) := by decide +kernel
theorem dX1_build_61 : decode cX1_build 61 = .ok (.aload_n 0, 1) := by decide +kernel
theorem dX1_build_62 : decode cX1_build 62 = .ok (.iload 4, 2) := by decide +kernel
theorem dX1_build_64 : decode cX1_build 64 = .ok (.iload_n 3, 1) := by decide +kernel
theorem dX1_build_65 : decode cX1_build 65 = .ok (.aload_n 1, 1) := by decide +kernel
theorem dX1_build_66 : decode cX1_build 66 = .ok (.iload 4, 2) := by decide +kernel
theorem dX1_build_68 : decode cX1_build 68 = .ok (.iload_n 2, 1) := by decide +kernel
theorem dX1_build_69 : decode cX1_build 69 = .ok (.invokevirtual 48, 3) := by decide +kernel
theorem dX1_build_72 : decode cX1_build 72 = .ok (.invokevirtual 51, 3) := by decide +kernel
theorem dX1_build_75 : decode cX1_build 75 = .ok (.iinc 4 1, 3) := by decide +kernel
theorem dX1_build_78 : decode cX1_build 78 = .ok (.goto (-26), 3) := by decide +kernel
theorem dX1_build_81 : decode cX1_build 81 = .ok (.iinc 2 1, 3) := by decide +kernel
theorem dX1_build_84 : decode cX1_build 84 = .ok (.goto (-69), 3) := by decide +kernel
theorem dX1_build_87 : decode cX1_build 87 = .ok (.return_, 1) := by decide +kernel
theorem dX1_isClosed_0 : decode cX1_isClosed 0 = .ok (.aload_n 0, 1) := by decide +kernel
theorem dX1_isClosed_1 : decode cX1_isClosed 1 = .ok (.getfield 21, 3) := by decide +kernel
theorem dX1_isClosed_4 : decode cX1_isClosed 4 = .ok (.iconst 3, 1) := by decide +kernel
theorem dX1_isClosed_5 : decode cX1_isClosed 5 = .ok (.if_icmp .ge 5, 3) := by decide +kernel
theorem dX1_isClosed_8 : decode cX1_isClosed 8 = .ok (.iconst 0, 1) := by decide +kernel
theorem dX1_isClosed_9 : decode cX1_isClosed 9 = .ok (.ireturn, 1) := by decide +kernel
theorem dX1_isClosed_10 : decode cX1_isClosed 10 = .ok (.iconst 0, 1) := by decide +kernel
theorem dX1_isClosed_11 : decode cX1_isClosed 11 = .ok (.istore_n 1, 1) := by decide +kernel
theorem dX1_isClosed_12 : decode cX1_isClosed 12 = .ok (.iload_n 1, 1) := by decide +kernel
theorem dX1_isClosed_13 : decode cX1_isClosed 13 = .ok (.aload_n 0, 1) := by decide +kernel
theorem dX1_isClosed_14 : decode cX1_isClosed 14 = .ok (.getfield 21, 3) := by decide +kernel
theorem dX1_isClosed_17 : decode cX1_isClosed 17 = .ok (.if_icmp .ge 19, 3) := by decide +kernel
theorem dX1_isClosed_20 : decode cX1_isClosed 20 = .ok (.aload_n 0, 1) := by decide +kernel
theorem dX1_isClosed_21 : decode cX1_isClosed 21 = .ok (.iload_n 1, 1) := by decide +kernel
theorem dX1_isClosed_22 : decode cX1_isClosed 22 = .ok (.invokevirtual 55, 3) := by decide +kernel
theorem dX1_isClosed_25 : decode cX1_isClosed 25 = .ok (.ifCond .gt 5, 3) := by decide +kernel
theorem dX1_isClosed_28 : decode cX1_isClosed 28 = .ok (.iconst 0, 1) := by decide +kernel
theorem dX1_isClosed_29 : decode cX1_isClosed 29 = .ok (.ireturn, 1) := by decide +kernel
theorem dX1_isClosed_30 : decode cX1_isClosed 30 = .ok (.iinc 1 1, 3) := by decide +kernel
theorem dX1_isClosed_33 : decode cX1_isClosed 33 = .ok (.goto (-21), 3) := by decide +kernel
theorem dX1_isClosed_36 : decode cX1_isClosed 36 = .ok (.iconst 1, 1) := by decide +kernel
theorem dX1_isClosed_37 : decode cX1_isClosed 37 = .ok (.ireturn, 1) := by decide +kernel
theorem dX1_x_0 : decode cX1_x 0 = .ok (.iload_n 1, 1) := by decide +kernel
theorem dX1_x_1 : decode cX1_x 1 = .ok (.ifCond .lt 18, 3) := by decide +kernel
theorem dX1_x_4 : decode cX1_x 4 = .ok (.iload_n 1, 1) := by decide +kernel
theorem dX1_x_5 : decode cX1_x 5 = .ok (.bipush 24, 2) := by decide +kernel
theorem dX1_x_7 : decode cX1_x 7 = .ok (.if_icmp .ge 12, 3) := by decide +kernel
theorem dX1_x_10 : decode cX1_x 10 = .ok (.aload_n 0, 1) := by decide +kernel
theorem dX1_x_11 : decode cX1_x 11 = .ok (.getfield 11, 3) := by decide +kernel
theorem dX1_x_14 : decode cX1_x 14 = .ok (.iload_n 1, 1) := by decide +kernel
theorem dX1_x_15 : decode cX1_x 15 = .ok (.iaload, 1) := by decide +kernel
theorem dX1_x_16 : decode cX1_x 16 = .ok (.goto 4, 3) := by decide +kernel
theorem dX1_x_19 : decode cX1_x 19 = .ok (.iconst 0, 1) := by decide +kernel
theorem dX1_x_20 : decode cX1_x 20 = .ok (.ireturn, 1) := by decide +kernel
theorem dX1_y_0 : decode cX1_y 0 = .ok (.iload_n 1, 1) := by decide +kernel
theorem dX1_y_1 : decode cX1_y 1 = .ok (.ifCond .lt 18, 3) := by decide +kernel
theorem dX1_y_4 : decode cX1_y 4 = .ok (.iload_n 1, 1) := by decide +kernel
theorem dX1_y_5 : decode cX1_y 5 = .ok (.bipush 24, 2) := by decide +kernel
theorem dX1_y_7 : decode cX1_y 7 = .ok (.if_icmp .ge 12, 3) := by decide +kernel
theorem dX1_y_10 : decode cX1_y 10 = .ok (.aload_n 0, 1) := by decide +kernel
theorem dX1_y_11 : decode cX1_y 11 = .ok (.getfield 15, 3) := by decide +kernel
theorem dX1_y_14 : decode cX1_y 14 = .ok (.iload_n 1, 1) := by decide +kernel
theorem dX1_y_15 : decode cX1_y 15 = .ok (.iaload, 1) := by decide +kernel
theorem dX1_y_16 : decode cX1_y 16 = .ok (.goto 4, 3) := by decide +kernel
theorem dX1_y_19 : decode cX1_y 19 = .ok (.iconst 0, 1) := by decide +kernel
theorem dX1_y_20 : decode cX1_y 20 = .ok (.ireturn, 1) := by decide +kernel
theorem dX1_number_0 : decode cX1_number 0 = .ok (.iload_n 1, 1) := by decide +kernel
theorem dX1_number_1 : decode cX1_number 1 = .ok (.bipush 24, 2) := by decide +kernel
theorem dX1_number_3 : decode cX1_number 3 = .ok (.imul, 1) := by decide +kernel
theorem dX1_number_4 : decode cX1_number 4 = .ok (.iload_n 2, 1) := by decide +kernel
theorem dX1_number_5 : decode cX1_number 5 = .ok (.iadd, 1) := by decide +kernel
theorem dX1_number_6 : decode cX1_number 6 = .ok (.istore_n 3, 1) := by decide +kernel
theorem dX1_number_7 : decode cX1_number 7 = .ok (.iload_n 3, 1) := by decide +kernel
theorem dX1_number_8 : decode cX1_number 8 = .ok (.ifCond .lt 21, 3) := by decide +kernel
theorem dX1_number_11 : decode cX1_number 11 = .ok (.iload_n 3, 1) := by decide +kernel
theorem dX1_number_12 : decode cX1_number 12 = .ok (.aload_n 0, 1) := by decide +kernel
theorem dX1_number_13 : decode cX1_number 13 = .ok (.getfield 18, 3) := by decide +kernel
theorem dX1_number_16 : decode cX1_number 16 = .ok (.arraylength, 1) := by decide +kernel
theorem dX1_number_17 : decode cX1_number 17 = .ok (.if_icmp .ge 12, 3) := by decide +kernel
theorem dX1_number_20 : decode cX1_number 20 = .ok (.aload_n 0, 1) := by decide +kernel
theorem dX1_number_21 : decode cX1_number 21 = .ok (.getfield 18, 3) := by decide +kernel
theorem dX1_number_24 : decode cX1_number 24 = .ok (.iload_n 3, 1) := by decide +kernel
theorem dX1_number_25 : decode cX1_number 25 = .ok (.iaload, 1) := by decide +kernel
theorem dX1_number_26 : decode cX1_number 26 = .ok (.goto 4, 3) := by decide +kernel
theorem dX1_number_29 : decode cX1_number 29 = .ok (.iconst 0, 1) := by decide +kernel
theorem dX1_number_30 : decode cX1_number 30 = .ok (.ireturn, 1) := by decide +kernel
theorem dX1_put_0 : decode cX1_put 0 = .ok (.iload_n 1, 1) := by decide +kernel
theorem dX1_put_1 : decode cX1_put 1 = .ok (.bipush 24, 2) := by decide +kernel
theorem dX1_put_3 : decode cX1_put 3 = .ok (.imul, 1) := by decide +kernel
theorem dX1_put_4 : decode cX1_put 4 = .ok (.iload_n 2, 1) := by decide +kernel
theorem dX1_put_5 : decode cX1_put 5 = .ok (.iadd, 1) := by decide +kernel
theorem dX1_put_6 : decode cX1_put 6 = .ok (.istore 4, 2) := by decide +kernel
theorem dX1_put_8 : decode cX1_put 8 = .ok (.iload 4, 2) := by decide +kernel
theorem dX1_put_10 : decode cX1_put 10 = .ok (.ifCond .lt 21, 3) := by decide +kernel
theorem dX1_put_13 : decode cX1_put 13 = .ok (.iload 4, 2) := by decide +kernel
theorem dX1_put_15 : decode cX1_put 15 = .ok (.aload_n 0, 1) := by decide +kernel
theorem dX1_put_16 : decode cX1_put 16 = .ok (.getfield 18, 3) := by decide +kernel
theorem dX1_put_19 : decode cX1_put 19 = .ok (.arraylength, 1) := by decide +kernel
theorem dX1_put_20 : decode cX1_put 20 = .ok (.if_icmp .ge 11, 3) := by decide +kernel
theorem dX1_put_23 : decode cX1_put 23 = .ok (.aload_n 0, 1) := by decide +kernel
theorem dX1_put_24 : decode cX1_put 24 = .ok (.getfield 18, 3) := by decide +kernel
theorem dX1_put_27 : decode cX1_put 27 = .ok (.iload 4, 2) := by decide +kernel
theorem dX1_put_29 : decode cX1_put 29 = .ok (.iload_n 3, 1) := by decide +kernel
theorem dX1_put_30 : decode cX1_put 30 = .ok (.iastore, 1) := by decide +kernel
theorem dX1_put_31 : decode cX1_put 31 = .ok (.return_, 1) := by decide +kernel
theorem dX1_behind_0 : decode cX1_behind 0 = .ok (.iload_n 1, 1) := by decide +kernel
theorem dX1_behind_1 : decode cX1_behind 1 = .ok (.iconst 1, 1) := by decide +kernel
theorem dX1_behind_2 : decode cX1_behind 2 = .ok (.iadd, 1) := by decide +kernel
theorem dX1_behind_3 : decode cX1_behind 3 = .ok (.aload_n 0, 1) := by decide +kernel
theorem dX1_behind_4 : decode cX1_behind 4 = .ok (.getfield 21, 3) := by decide +kernel
theorem dX1_behind_7 : decode cX1_behind 7 = .ok (.if_icmp .lt 7, 3) := by decide +kernel
theorem dX1_behind_10 : decode cX1_behind 10 = .ok (.iconst 0, 1) := by decide +kernel
theorem dX1_behind_11 : decode cX1_behind 11 = .ok (.goto 6, 3) := by decide +kernel
theorem dX1_behind_14 : decode cX1_behind 14 = .ok (.iload_n 1, 1) := by decide +kernel
theorem dX1_behind_15 : decode cX1_behind 15 = .ok (.iconst 1, 1) := by decide +kernel
theorem dX1_behind_16 : decode cX1_behind 16 = .ok (.iadd, 1) := by decide +kernel
theorem dX1_behind_17 : decode cX1_behind 17 = .ok (.ireturn, 1) := by decide +kernel
theorem dX1_ahead_0 : decode cX1_ahead 0 = .ok (.iload_n 1, 1) := by decide +kernel
theorem dX1_ahead_1 : decode cX1_ahead 1 = .ok (.ifCond .gt 12, 3) := by decide +kernel
theorem dX1_ahead_4 : decode cX1_ahead 4 = .ok (.aload_n 0, 1) := by decide +kernel
theorem dX1_ahead_5 : decode cX1_ahead 5 = .ok (.getfield 21, 3) := by decide +kernel
theorem dX1_ahead_8 : decode cX1_ahead 8 = .ok (.iconst 1, 1) := by decide +kernel
theorem dX1_ahead_9 : decode cX1_ahead 9 = .ok (.isub, 1) := by decide +kernel
theorem dX1_ahead_10 : decode cX1_ahead 10 = .ok (.goto 6, 3) := by decide +kernel
theorem dX1_ahead_13 : decode cX1_ahead 13 = .ok (.iload_n 1, 1) := by decide +kernel
theorem dX1_ahead_14 : decode cX1_ahead 14 = .ok (.iconst 1, 1) := by decide +kernel
theorem dX1_ahead_15 : decode cX1_ahead 15 = .ok (.isub, 1) := by decide +kernel
theorem dX1_ahead_16 : decode cX1_ahead 16 = .ok (.ireturn, 1) := by decide +kernel
theorem dX1_turn_0 : decode cX1_turn 0 = .ok (.aload_n 0, 1) := by decide +kernel
theorem dX1_turn_1 : decode cX1_turn 1 = .ok (.iload_n 1, 1) := by decide +kernel
theorem dX1_turn_2 : decode cX1_turn 2 = .ok (.aload_n 0, 1) := by decide +kernel
theorem dX1_turn_3 : decode cX1_turn 3 = .ok (.iload_n 1, 1) := by decide +kernel
theorem dX1_turn_4 : decode cX1_turn 4 = .ok (.invokevirtual 59, 3) := by decide +kernel
theorem dX1_turn_7 : decode cX1_turn 7 = .ok (.invokevirtual 62, 3) := by decide +kernel
theorem dX1_turn_10 : decode cX1_turn 10 = .ok (.ireturn, 1) := by decide +kernel
theorem dX1_turnBetween_0 : decode cX1_turnBetween 0 = .ok (.aload_n 0, 1) := by decide +kernel
theorem dX1_turnBetween_1 : decode cX1_turnBetween 1 = .ok (.iload_n 1, 1) := by decide +kernel
theorem dX1_turnBetween_2 : decode cX1_turnBetween 2 = .ok (.invokevirtual 65, 3) := by decide +kernel
theorem dX1_turnBetween_5 : decode cX1_turnBetween 5 = .ok (.aload_n 0, 1) := by decide +kernel
theorem dX1_turnBetween_6 : decode cX1_turnBetween 6 = .ok (.iload_n 2, 1) := by decide +kernel
theorem dX1_turnBetween_7 : decode cX1_turnBetween 7 = .ok (.invokevirtual 68, 3) := by decide +kernel
theorem dX1_turnBetween_10 : decode cX1_turnBetween 10 = .ok (.imul, 1) := by decide +kernel
theorem dX1_turnBetween_11 : decode cX1_turnBetween 11 = .ok (.aload_n 0, 1) := by decide +kernel
theorem dX1_turnBetween_12 : decode cX1_turnBetween 12 = .ok (.iload_n 1, 1) := by decide +kernel
theorem dX1_turnBetween_13 : decode cX1_turnBetween 13 = .ok (.invokevirtual 68, 3) := by decide +kernel
theorem dX1_turnBetween_16 : decode cX1_turnBetween 16 = .ok (.aload_n 0, 1) := by decide +kernel
theorem dX1_turnBetween_17 : decode cX1_turnBetween 17 = .ok (.iload_n 2, 1) := by decide +kernel
theorem dX1_turnBetween_18 : decode cX1_turnBetween 18 = .ok (.invokevirtual 65, 3) := by decide +kernel
theorem dX1_turnBetween_21 : decode cX1_turnBetween 21 = .ok (.imul, 1) := by decide +kernel
theorem dX1_turnBetween_22 : decode cX1_turnBetween 22 = .ok (.isub, 1) := by decide +kernel
theorem dX1_turnBetween_23 : decode cX1_turnBetween 23 = .ok (.ireturn, 1) := by decide +kernel
theorem dX1_turnAround_0 : decode cX1_turnAround 0 = .ok (.aload_n 0, 1) := by decide +kernel
theorem dX1_turnAround_1 : decode cX1_turnAround 1 = .ok (.aload_n 0, 1) := by decide +kernel
theorem dX1_turnAround_2 : decode cX1_turnAround 2 = .ok (.iload_n 1, 1) := by decide +kernel
theorem dX1_turnAround_3 : decode cX1_turnAround 3 = .ok (.invokevirtual 71, 3) := by decide +kernel
theorem dX1_turnAround_6 : decode cX1_turnAround 6 = .ok (.aload_n 0, 1) := by decide +kernel
theorem dX1_turnAround_7 : decode cX1_turnAround 7 = .ok (.iload_n 1, 1) := by decide +kernel
theorem dX1_turnAround_8 : decode cX1_turnAround 8 = .ok (.invokevirtual 59, 3) := by decide +kernel
theorem dX1_turnAround_11 : decode cX1_turnAround 11 = .ok (.invokevirtual 62, 3) := by decide +kernel
theorem dX1_turnAround_14 : decode cX1_turnAround 14 = .ok (.ireturn, 1) := by decide +kernel
theorem dX1_kind_0 : decode cX1_kind 0 = .ok (.aload_n 0, 1) := by decide +kernel
theorem dX1_kind_1 : decode cX1_kind 1 = .ok (.iload_n 1, 1) := by decide +kernel
theorem dX1_kind_2 : decode cX1_kind 2 = .ok (.invokevirtual 59, 3) := by decide +kernel
theorem dX1_kind_5 : decode cX1_kind 5 = .ok (.istore_n 2, 1) := by decide +kernel
theorem dX1_kind_6 : decode cX1_kind 6 = .ok (.aload_n 0, 1) := by decide +kernel
theorem dX1_kind_7 : decode cX1_kind 7 = .ok (.iload_n 1, 1) := by decide +kernel
theorem dX1_kind_8 : decode cX1_kind 8 = .ok (.invokevirtual 65, 3) := by decide +kernel
theorem dX1_kind_11 : decode cX1_kind 11 = .ok (.aload_n 0, 1) := by decide +kernel
theorem dX1_kind_12 : decode cX1_kind 12 = .ok (.iload_n 1, 1) := by decide +kernel
theorem dX1_kind_13 : decode cX1_kind 13 = .ok (.invokevirtual 68, 3) := by decide +kernel
theorem dX1_kind_16 : decode cX1_kind 16 = .ok (.invokestatic 74, 3) := by decide +kernel
theorem dX1_kind_19 : decode cX1_kind 19 = .ok (.istore_n 3, 1) := by decide +kernel
theorem dX1_kind_20 : decode cX1_kind 20 = .ok (.aload_n 0, 1) := by decide +kernel
theorem dX1_kind_21 : decode cX1_kind 21 = .ok (.iload_n 1, 1) := by decide +kernel
theorem dX1_kind_22 : decode cX1_kind 22 = .ok (.invokevirtual 68, 3) := by decide +kernel
theorem dX1_kind_25 : decode cX1_kind 25 = .ok (.ifCond .ne 7, 3) := by decide +kernel
theorem dX1_kind_28 : decode cX1_kind 28 = .ok (.lconst 0, 1) := by decide +kernel
theorem dX1_kind_29 : decode cX1_kind 29 = .ok (.goto 23, 3) := by decide +kernel
theorem dX1_kind_32 : decode cX1_kind 32 = .ok (.lconst 1, 1) := by decide +kernel
theorem dX1_kind_33 : decode cX1_kind 33 = .ok (.iload_n 3, 1) := by decide +kernel
theorem dX1_kind_34 : decode cX1_kind 34 = .ok (.i2l, 1) := by decide +kernel
theorem dX1_kind_35 : decode cX1_kind 35 = .ok (.aload_n 0, 1) := by decide +kernel
theorem dX1_kind_36 : decode cX1_kind 36 = .ok (.iload_n 1, 1) := by decide +kernel
theorem dX1_kind_37 : decode cX1_kind 37 = .ok (.invokevirtual 65, 3) := by decide +kernel
theorem dX1_kind_40 : decode cX1_kind 40 = .ok (.i2l, 1) := by decide +kernel
theorem dX1_kind_41 : decode cX1_kind 41 = .ok (.lmul, 1) := by decide +kernel
theorem dX1_kind_42 : decode cX1_kind 42 = .ok (.lsub, 1) := by decide +kernel
theorem dX1_kind_43 : decode cX1_kind 43 = .ok (.aload_n 0, 1) := by decide +kernel
theorem dX1_kind_44 : decode cX1_kind 44 = .ok (.iload_n 1, 1) := by decide +kernel
theorem dX1_kind_45 : decode cX1_kind 45 = .ok (.invokevirtual 68, 3) := by decide +kernel
theorem dX1_kind_48 : decode cX1_kind 48 = .ok (.i2l, 1) := by decide +kernel
theorem dX1_kind_49 : decode cX1_kind 49 = .ok (.invokestatic 79, 3) := by decide +kernel
theorem dX1_kind_52 : decode cX1_kind 52 = .ok (.lstore 4, 2) := by decide +kernel
theorem dX1_kind_54 : decode cX1_kind 54 = .ok (.iload_n 3, 1) := by decide +kernel
theorem dX1_kind_55 : decode cX1_kind 55 = .ok (.i2l, 1) := by decide +kernel
theorem dX1_kind_56 : decode cX1_kind 56 = .ok (.aload_n 0, 1) := by decide +kernel
theorem dX1_kind_57 : decode cX1_kind 57 = .ok (.iload_n 2, 1) := by decide +kernel
theorem dX1_kind_58 : decode cX1_kind 58 = .ok (.invokevirtual 65, 3) := by decide +kernel
theorem dX1_kind_61 : decode cX1_kind 61 = .ok (.i2l, 1) := by decide +kernel
theorem dX1_kind_62 : decode cX1_kind 62 = .ok (.lmul, 1) := by decide +kernel
theorem dX1_kind_63 : decode cX1_kind 63 = .ok (.lload 4, 2) := by decide +kernel
theorem dX1_kind_65 : decode cX1_kind 65 = .ok (.aload_n 0, 1) := by decide +kernel
theorem dX1_kind_66 : decode cX1_kind 66 = .ok (.iload_n 2, 1) := by decide +kernel
theorem dX1_kind_67 : decode cX1_kind 67 = .ok (.invokevirtual 68, 3) := by decide +kernel
theorem dX1_kind_70 : decode cX1_kind 70 = .ok (.i2l, 1) := by decide +kernel
theorem dX1_kind_71 : decode cX1_kind 71 = .ok (.lmul, 1) := by decide +kernel
theorem dX1_kind_72 : decode cX1_kind 72 = .ok (.ladd, 1) := by decide +kernel
theorem dX1_kind_73 : decode cX1_kind 73 = .ok (.lneg, 1) := by decide +kernel
theorem dX1_kind_74 : decode cX1_kind 74 = .ok (.aload_n 0, 1) := by decide +kernel
theorem dX1_kind_75 : decode cX1_kind 75 = .ok (.iload_n 1, 1) := by decide +kernel
theorem dX1_kind_76 : decode cX1_kind 76 = .ok (.invokevirtual 55, 3) := by decide +kernel
theorem dX1_kind_79 : decode cX1_kind 79 = .ok (.i2l, 1) := by decide +kernel
theorem dX1_kind_80 : decode cX1_kind 80 = .ok (.invokestatic 83, 3) := by decide +kernel
theorem dX1_kind_83 : decode cX1_kind 83 = .ok (.l2i, 1) := by decide +kernel
theorem dX1_kind_84 : decode cX1_kind 84 = .ok (.ireturn, 1) := by decide +kernel
theorem dX1_wholeCones_0 : decode cX1_wholeCones 0 = .ok (.iconst 0, 1) := by decide +kernel
theorem dX1_wholeCones_1 : decode cX1_wholeCones 1 = .ok (.istore_n 1, 1) := by decide +kernel
theorem dX1_wholeCones_2 : decode cX1_wholeCones 2 = .ok (.iconst 0, 1) := by decide +kernel
theorem dX1_wholeCones_3 : decode cX1_wholeCones 3 = .ok (.istore_n 2, 1) := by decide +kernel
theorem dX1_wholeCones_4 : decode cX1_wholeCones 4 = .ok (.iload_n 2, 1) := by decide +kernel
theorem dX1_wholeCones_5 : decode cX1_wholeCones 5 = .ok (.aload_n 0, 1) := by decide +kernel
theorem dX1_wholeCones_6 : decode cX1_wholeCones 6 = .ok (.getfield 21, 3) := by decide +kernel
theorem dX1_wholeCones_9 : decode cX1_wholeCones 9 = .ok (.if_icmp .ge 26, 3) := by decide +kernel
theorem dX1_wholeCones_12 : decode cX1_wholeCones 12 = .ok (.iload_n 1, 1) := by decide +kernel
theorem dX1_wholeCones_13 : decode cX1_wholeCones 13 = .ok (.aload_n 0, 1) := by decide +kernel
theorem dX1_wholeCones_14 : decode cX1_wholeCones 14 = .ok (.iload_n 2, 1) := by decide +kernel
theorem dX1_wholeCones_15 : decode cX1_wholeCones 15 = .ok (.invokevirtual 55, 3) := by decide +kernel
theorem dX1_wholeCones_18 : decode cX1_wholeCones 18 = .ok (.iconst 1, 1) := by decide +kernel
theorem dX1_wholeCones_19 : decode cX1_wholeCones 19 = .ok (.if_icmp .ne 7, 3) := by decide +kernel
theorem dX1_wholeCones_22 : decode cX1_wholeCones 22 = .ok (.iconst 1, 1) := by decide +kernel
theorem dX1_wholeCones_23 : decode cX1_wholeCones 23 = .ok (.goto 4, 3) := by decide +kernel
theorem dX1_wholeCones_26 : decode cX1_wholeCones 26 = .ok (.iconst 0, 1) := by decide +kernel
theorem dX1_wholeCones_27 : decode cX1_wholeCones 27 = .ok (.iadd, 1) := by decide +kernel
theorem dX1_wholeCones_28 : decode cX1_wholeCones 28 = .ok (.istore_n 1, 1) := by decide +kernel
theorem dX1_wholeCones_29 : decode cX1_wholeCones 29 = .ok (.iinc 2 1, 3) := by decide +kernel
theorem dX1_wholeCones_32 : decode cX1_wholeCones 32 = .ok (.goto (-28), 3) := by decide +kernel
theorem dX1_wholeCones_35 : decode cX1_wholeCones 35 = .ok (.iload_n 1, 1) := by decide +kernel
theorem dX1_wholeCones_36 : decode cX1_wholeCones 36 = .ok (.ireturn, 1) := by decide +kernel
theorem dX1_greatestTurn_0 : decode cX1_greatestTurn 0 = .ok (.iconst 0, 1) := by decide +kernel
theorem dX1_greatestTurn_1 : decode cX1_greatestTurn 1 = .ok (.istore_n 1, 1) := by decide +kernel
theorem dX1_greatestTurn_2 : decode cX1_greatestTurn 2 = .ok (.iconst 0, 1) := by decide +kernel
theorem dX1_greatestTurn_3 : decode cX1_greatestTurn 3 = .ok (.istore_n 2, 1) := by decide +kernel
theorem dX1_greatestTurn_4 : decode cX1_greatestTurn 4 = .ok (.iload_n 2, 1) := by decide +kernel
theorem dX1_greatestTurn_5 : decode cX1_greatestTurn 5 = .ok (.aload_n 0, 1) := by decide +kernel
theorem dX1_greatestTurn_6 : decode cX1_greatestTurn 6 = .ok (.getfield 21, 3) := by decide +kernel
theorem dX1_greatestTurn_9 : decode cX1_greatestTurn 9 = .ok (.if_icmp .ge 19, 3) := by decide +kernel
theorem dX1_greatestTurn_12 : decode cX1_greatestTurn 12 = .ok (.iload_n 1, 1) := by decide +kernel
theorem dX1_greatestTurn_13 : decode cX1_greatestTurn 13 = .ok (.aload_n 0, 1) := by decide +kernel
theorem dX1_greatestTurn_14 : decode cX1_greatestTurn 14 = .ok (.iload_n 2, 1) := by decide +kernel
theorem dX1_greatestTurn_15 : decode cX1_greatestTurn 15 = .ok (.invokevirtual 55, 3) := by decide +kernel
theorem dX1_greatestTurn_18 : decode cX1_greatestTurn 18 = .ok (.invokestatic 86, 3) := by decide +kernel
theorem dX1_greatestTurn_21 : decode cX1_greatestTurn 21 = .ok (.istore_n 1, 1) := by decide +kernel
theorem dX1_greatestTurn_22 : decode cX1_greatestTurn 22 = .ok (.iinc 2 1, 3) := by decide +kernel
theorem dX1_greatestTurn_25 : decode cX1_greatestTurn 25 = .ok (.goto (-21), 3) := by decide +kernel
theorem dX1_greatestTurn_28 : decode cX1_greatestTurn 28 = .ok (.iload_n 1, 1) := by decide +kernel
theorem dX1_greatestTurn_29 : decode cX1_greatestTurn 29 = .ok (.ireturn, 1) := by decide +kernel
theorem dX1_index_0 : decode cX1_index 0 = .ok (.lconst 0, 1) := by decide +kernel
theorem dX1_index_1 : decode cX1_index 1 = .ok (.lstore_n 1, 1) := by decide +kernel
theorem dX1_index_2 : decode cX1_index 2 = .ok (.iconst 0, 1) := by decide +kernel
theorem dX1_index_3 : decode cX1_index 3 = .ok (.istore_n 3, 1) := by decide +kernel
theorem dX1_index_4 : decode cX1_index 4 = .ok (.iload_n 3, 1) := by decide +kernel
theorem dX1_index_5 : decode cX1_index 5 = .ok (.aload_n 0, 1) := by decide +kernel
theorem dX1_index_6 : decode cX1_index 6 = .ok (.getfield 21, 3) := by decide +kernel
theorem dX1_index_9 : decode cX1_index 9 = .ok (.if_icmp .ge 37, 3) := by decide +kernel
theorem dX1_index_12 : decode cX1_index 12 = .ok (.iconst 0, 1) := by decide +kernel
theorem dX1_index_13 : decode cX1_index 13 = .ok (.istore 4, 2) := by decide +kernel
theorem dX1_index_15 : decode cX1_index 15 = .ok (.iload 4, 2) := by decide +kernel
theorem dX1_index_17 : decode cX1_index 17 = .ok (.iload_n 3, 1) := by decide +kernel
theorem dX1_index_18 : decode cX1_index 18 = .ok (.if_icmp .ge 22, 3) := by decide +kernel
theorem dX1_index_21 : decode cX1_index 21 = .ok (.lload_n 1, 1) := by decide +kernel
theorem dX1_index_22 : decode cX1_index 22 = .ok (.aload_n 0, 1) := by decide +kernel
theorem dX1_index_23 : decode cX1_index 23 = .ok (.iload_n 3, 1) := by decide +kernel
theorem dX1_index_24 : decode cX1_index 24 = .ok (.iload 4, 2) := by decide +kernel
theorem dX1_index_26 : decode cX1_index 26 = .ok (.invokevirtual 62, 3) := by decide +kernel
theorem dX1_index_29 : decode cX1_index 29 = .ok (.i2l, 1) := by decide +kernel
theorem dX1_index_30 : decode cX1_index 30 = .ok (.invokestatic 91, 3) := by decide +kernel
theorem dX1_index_33 : decode cX1_index 33 = .ok (.lstore_n 1, 1) := by decide +kernel
theorem dX1_index_34 : decode cX1_index 34 = .ok (.iinc 4 1, 3) := by decide +kernel
theorem dX1_index_37 : decode cX1_index 37 = .ok (.goto (-22), 3) := by decide +kernel
theorem dX1_index_40 : decode cX1_index 40 = .ok (.iinc 3 1, 3) := by decide +kernel
theorem dX1_index_43 : decode cX1_index 43 = .ok (.goto (-39), 3) := by decide +kernel
theorem dX1_index_46 : decode cX1_index 46 = .ok (.lload_n 1, 1) := by decide +kernel
theorem dX1_index_47 : decode cX1_index 47 = .ok (.l2i, 1) := by decide +kernel
theorem dX1_index_48 : decode cX1_index 48 = .ok (.ireturn, 1) := by decide +kernel
theorem dX1_commonTurn_0 : decode cX1_commonTurn 0 = .ok (.lconst 1, 1) := by decide +kernel
theorem dX1_commonTurn_1 : decode cX1_commonTurn 1 = .ok (.lstore_n 1, 1) := by decide +kernel
theorem dX1_commonTurn_2 : decode cX1_commonTurn 2 = .ok (.iconst 0, 1) := by decide +kernel
theorem dX1_commonTurn_3 : decode cX1_commonTurn 3 = .ok (.istore_n 3, 1) := by decide +kernel
theorem dX1_commonTurn_4 : decode cX1_commonTurn 4 = .ok (.iload_n 3, 1) := by decide +kernel
theorem dX1_commonTurn_5 : decode cX1_commonTurn 5 = .ok (.aload_n 0, 1) := by decide +kernel
theorem dX1_commonTurn_6 : decode cX1_commonTurn 6 = .ok (.getfield 21, 3) := by decide +kernel
theorem dX1_commonTurn_9 : decode cX1_commonTurn 9 = .ok (.if_icmp .ge 43, 3) := by decide +kernel
theorem dX1_commonTurn_12 : decode cX1_commonTurn 12 = .ok (.aload_n 0, 1) := by decide +kernel
theorem dX1_commonTurn_13 : decode cX1_commonTurn 13 = .ok (.iload_n 3, 1) := by decide +kernel
theorem dX1_commonTurn_14 : decode cX1_commonTurn 14 = .ok (.invokevirtual 55, 3) := by decide +kernel
theorem dX1_commonTurn_17 : decode cX1_commonTurn 17 = .ok (.i2l, 1) := by decide +kernel
theorem dX1_commonTurn_18 : decode cX1_commonTurn 18 = .ok (.lstore 4, 2) := by decide +kernel
theorem dX1_commonTurn_20 : decode cX1_commonTurn 20 = .ok (.lload_n 1, 1) := by decide +kernel
theorem dX1_commonTurn_21 : decode cX1_commonTurn 21 = .ok (.lload_n 1, 1) := by decide +kernel
theorem dX1_commonTurn_22 : decode cX1_commonTurn 22 = .ok (.lload 4, 2) := by decide +kernel
theorem dX1_commonTurn_24 : decode cX1_commonTurn 24 = .ok (.invokestatic 91, 3) := by decide +kernel
theorem dX1_commonTurn_27 : decode cX1_commonTurn 27 = .ok (.invokestatic 79, 3) := by decide +kernel
theorem dX1_commonTurn_30 : decode cX1_commonTurn 30 = .ok (.lload 4, 2) := by decide +kernel
theorem dX1_commonTurn_32 : decode cX1_commonTurn 32 = .ok (.lmul, 1) := by decide +kernel
theorem dX1_commonTurn_33 : decode cX1_commonTurn 33 = .ok (.lstore_n 1, 1) := by decide +kernel
theorem dX1_commonTurn_34 : decode cX1_commonTurn 34 = .ok (.lload_n 1, 1) := by decide +kernel
theorem dX1_commonTurn_35 : decode cX1_commonTurn 35 = .ok (.ldc2_w 94, 3) := by decide +kernel
theorem dX1_commonTurn_38 : decode cX1_commonTurn 38 = .ok (.lcmp, 1) := by decide +kernel
theorem dX1_commonTurn_39 : decode cX1_commonTurn 39 = .ok (.ifCond .le 7, 3) := by decide +kernel
theorem dX1_commonTurn_42 : decode cX1_commonTurn 42 = .ok (.ldc2_w 96, 3) := by decide +kernel
theorem dX1_commonTurn_45 : decode cX1_commonTurn 45 = .ok (.lreturn, 1) := by decide +kernel
theorem dX1_commonTurn_46 : decode cX1_commonTurn 46 = .ok (.iinc 3 1, 3) := by decide +kernel
theorem dX1_commonTurn_49 : decode cX1_commonTurn 49 = .ok (.goto (-45), 3) := by decide +kernel
theorem dX1_commonTurn_52 : decode cX1_commonTurn 52 = .ok (.lload_n 1, 1) := by decide +kernel
theorem dX1_commonTurn_53 : decode cX1_commonTurn 53 = .ok (.lreturn, 1) := by decide +kernel
theorem dX1_canGo_0 : decode cX1_canGo 0 = .ok (.aload_n 0, 1) := by decide +kernel
theorem dX1_canGo_1 : decode cX1_canGo 1 = .ok (.getfield 21, 3) := by decide +kernel
theorem dX1_canGo_4 : decode cX1_canGo 4 = .ok (.iconst 3, 1) := by decide +kernel
theorem dX1_canGo_5 : decode cX1_canGo 5 = .ok (.if_icmp .le 15, 3) := by decide +kernel
theorem dX1_canGo_8 : decode cX1_canGo 8 = .ok (.aload_n 0, 1) := by decide +kernel
theorem dX1_canGo_9 : decode cX1_canGo 9 = .ok (.iload_n 1, 1) := by decide +kernel
theorem dX1_canGo_10 : decode cX1_canGo 10 = .ok (.invokevirtual 98, 3) := by decide +kernel
theorem dX1_canGo_13 : decode cX1_canGo 13 = .ok (.ifCond .le 7, 3) := by decide +kernel
theorem dX1_canGo_16 : decode cX1_canGo 16 = .ok (.iconst 1, 1) := by decide +kernel
theorem dX1_canGo_17 : decode cX1_canGo 17 = .ok (.goto 4, 3) := by decide +kernel
theorem dX1_canGo_20 : decode cX1_canGo 20 = .ok (.iconst 0, 1) := by decide +kernel
theorem dX1_canGo_21 : decode cX1_canGo 21 = .ok (.ireturn, 1) := by decide +kernel
theorem dX1_isLight_0 : decode cX1_isLight 0 = .ok (.aload_n 0, 1) := by decide +kernel
theorem dX1_isLight_1 : decode cX1_isLight 1 = .ok (.iload_n 1, 1) := by decide +kernel
theorem dX1_isLight_2 : decode cX1_isLight 2 = .ok (.invokevirtual 71, 3) := by decide +kernel
theorem dX1_isLight_5 : decode cX1_isLight 5 = .ok (.istore_n 2, 1) := by decide +kernel
theorem dX1_isLight_6 : decode cX1_isLight 6 = .ok (.aload_n 0, 1) := by decide +kernel
theorem dX1_isLight_7 : decode cX1_isLight 7 = .ok (.iload_n 1, 1) := by decide +kernel
theorem dX1_isLight_8 : decode cX1_isLight 8 = .ok (.invokevirtual 59, 3) := by decide +kernel
theorem dX1_isLight_11 : decode cX1_isLight 11 = .ok (.istore_n 3, 1) := by decide +kernel
theorem dX1_isLight_12 : decode cX1_isLight 12 = .ok (.aload_n 0, 1) := by decide +kernel
theorem dX1_isLight_13 : decode cX1_isLight 13 = .ok (.iload_n 1, 1) := by decide +kernel
theorem dX1_isLight_14 : decode cX1_isLight 14 = .ok (.invokevirtual 101, 3) := by decide +kernel
theorem dX1_isLight_17 : decode cX1_isLight 17 = .ok (.ifCond .eq 45, 3) := by decide +kernel
theorem dX1_isLight_20 : decode cX1_isLight 20 = .ok (.aload_n 0, 1) := by decide +kernel
theorem dX1_isLight_21 : decode cX1_isLight 21 = .ok (.iload_n 1, 1) := by decide +kernel
theorem dX1_isLight_22 : decode cX1_isLight 22 = .ok (.invokevirtual 65, 3) := by decide +kernel
theorem dX1_isLight_25 : decode cX1_isLight 25 = .ok (.aload_n 0, 1) := by decide +kernel
theorem dX1_isLight_26 : decode cX1_isLight 26 = .ok (.iload_n 2, 1) := by decide +kernel
theorem dX1_isLight_27 : decode cX1_isLight 27 = .ok (.invokevirtual 65, 3) := by decide +kernel
theorem dX1_isLight_30 : decode cX1_isLight 30 = .ok (.aload_n 0, 1) := by decide +kernel
theorem dX1_isLight_31 : decode cX1_isLight 31 = .ok (.iload_n 3, 1) := by decide +kernel
theorem dX1_isLight_32 : decode cX1_isLight 32 = .ok (.invokevirtual 65, 3) := by decide +kernel
theorem dX1_isLight_35 : decode cX1_isLight 35 = .ok (.iadd, 1) := by decide +kernel
theorem dX1_isLight_36 : decode cX1_isLight 36 = .ok (.if_icmp .ne 26, 3) := by decide +kernel
theorem dX1_isLight_39 : decode cX1_isLight 39 = .ok (.aload_n 0, 1) := by decide +kernel
theorem dX1_isLight_40 : decode cX1_isLight 40 = .ok (.iload_n 1, 1) := by decide +kernel
theorem dX1_isLight_41 : decode cX1_isLight 41 = .ok (.invokevirtual 68, 3) := by decide +kernel
theorem dX1_isLight_44 : decode cX1_isLight 44 = .ok (.aload_n 0, 1) := by decide +kernel
theorem dX1_isLight_45 : decode cX1_isLight 45 = .ok (.iload_n 2, 1) := by decide +kernel
theorem dX1_isLight_46 : decode cX1_isLight 46 = .ok (.invokevirtual 68, 3) := by decide +kernel
theorem dX1_isLight_49 : decode cX1_isLight 49 = .ok (.aload_n 0, 1) := by decide +kernel
theorem dX1_isLight_50 : decode cX1_isLight 50 = .ok (.iload_n 3, 1) := by decide +kernel
theorem dX1_isLight_51 : decode cX1_isLight 51 = .ok (.invokevirtual 68, 3) := by decide +kernel
theorem dX1_isLight_54 : decode cX1_isLight 54 = .ok (.iadd, 1) := by decide +kernel
theorem dX1_isLight_55 : decode cX1_isLight 55 = .ok (.if_icmp .ne 7, 3) := by decide +kernel
theorem dX1_isLight_58 : decode cX1_isLight 58 = .ok (.iconst 1, 1) := by decide +kernel
theorem dX1_isLight_59 : decode cX1_isLight 59 = .ok (.goto 4, 3) := by decide +kernel
theorem dX1_isLight_62 : decode cX1_isLight 62 = .ok (.iconst 0, 1) := by decide +kernel
theorem dX1_isLight_63 : decode cX1_isLight 63 = .ok (.ireturn, 1) := by decide +kernel
theorem dX1_goers_0 : decode cX1_goers 0 = .ok (.iconst 0, 1) := by decide +kernel
theorem dX1_goers_1 : decode cX1_goers 1 = .ok (.istore_n 1, 1) := by decide +kernel
theorem dX1_goers_2 : decode cX1_goers 2 = .ok (.iconst 0, 1) := by decide +kernel
theorem dX1_goers_3 : decode cX1_goers 3 = .ok (.istore_n 2, 1) := by decide +kernel
theorem dX1_goers_4 : decode cX1_goers 4 = .ok (.iload_n 2, 1) := by decide +kernel
theorem dX1_goers_5 : decode cX1_goers 5 = .ok (.aload_n 0, 1) := by decide +kernel
theorem dX1_goers_6 : decode cX1_goers 6 = .ok (.getfield 21, 3) := by decide +kernel
theorem dX1_goers_9 : decode cX1_goers 9 = .ok (.if_icmp .ge 27, 3) := by decide +kernel
theorem dX1_goers_12 : decode cX1_goers 12 = .ok (.iload_n 1, 1) := by decide +kernel
theorem dX1_goers_13 : decode cX1_goers 13 = .ok (.aload_n 0, 1) := by decide +kernel
theorem dX1_goers_14 : decode cX1_goers 14 = .ok (.iload_n 2, 1) := by decide +kernel
theorem dX1_goers_15 : decode cX1_goers 15 = .ok (.invokevirtual 101, 3) := by decide +kernel
theorem dX1_goers_18 : decode cX1_goers 18 = .ok (.ifCond .eq 9, 3) := by decide +kernel
theorem dX1_goers_21 : decode cX1_goers 21 = .ok (.iconst 1, 1) := by decide +kernel
theorem dX1_goers_22 : decode cX1_goers 22 = .ok (.iload_n 2, 1) := by decide +kernel
theorem dX1_goers_23 : decode cX1_goers 23 = .ok (.ishl, 1) := by decide +kernel
theorem dX1_goers_24 : decode cX1_goers 24 = .ok (.goto 4, 3) := by decide +kernel
theorem dX1_goers_27 : decode cX1_goers 27 = .ok (.iconst 0, 1) := by decide +kernel
theorem dX1_goers_28 : decode cX1_goers 28 = .ok (.ior, 1) := by decide +kernel
theorem dX1_goers_29 : decode cX1_goers 29 = .ok (.istore_n 1, 1) := by decide +kernel
theorem dX1_goers_30 : decode cX1_goers 30 = .ok (.iinc 2 1, 3) := by decide +kernel
theorem dX1_goers_33 : decode cX1_goers 33 = .ok (.goto (-29), 3) := by decide +kernel
theorem dX1_goers_36 : decode cX1_goers 36 = .ok (.iload_n 1, 1) := by decide +kernel
theorem dX1_goers_37 : decode cX1_goers 37 = .ok (.ireturn, 1) := by decide +kernel
theorem dX1_lights_0 : decode cX1_lights 0 = .ok (.iconst 0, 1) := by decide +kernel
theorem dX1_lights_1 : decode cX1_lights 1 = .ok (.istore_n 1, 1) := by decide +kernel
theorem dX1_lights_2 : decode cX1_lights 2 = .ok (.iconst 0, 1) := by decide +kernel
theorem dX1_lights_3 : decode cX1_lights 3 = .ok (.istore_n 2, 1) := by decide +kernel
theorem dX1_lights_4 : decode cX1_lights 4 = .ok (.iload_n 2, 1) := by decide +kernel
theorem dX1_lights_5 : decode cX1_lights 5 = .ok (.aload_n 0, 1) := by decide +kernel
theorem dX1_lights_6 : decode cX1_lights 6 = .ok (.getfield 21, 3) := by decide +kernel
theorem dX1_lights_9 : decode cX1_lights 9 = .ok (.if_icmp .ge 27, 3) := by decide +kernel
theorem dX1_lights_12 : decode cX1_lights 12 = .ok (.iload_n 1, 1) := by decide +kernel
theorem dX1_lights_13 : decode cX1_lights 13 = .ok (.aload_n 0, 1) := by decide +kernel
theorem dX1_lights_14 : decode cX1_lights 14 = .ok (.iload_n 2, 1) := by decide +kernel
theorem dX1_lights_15 : decode cX1_lights 15 = .ok (.invokevirtual 105, 3) := by decide +kernel
theorem dX1_lights_18 : decode cX1_lights 18 = .ok (.ifCond .eq 9, 3) := by decide +kernel
theorem dX1_lights_21 : decode cX1_lights 21 = .ok (.iconst 1, 1) := by decide +kernel
theorem dX1_lights_22 : decode cX1_lights 22 = .ok (.iload_n 2, 1) := by decide +kernel
theorem dX1_lights_23 : decode cX1_lights 23 = .ok (.ishl, 1) := by decide +kernel
theorem dX1_lights_24 : decode cX1_lights 24 = .ok (.goto 4, 3) := by decide +kernel
theorem dX1_lights_27 : decode cX1_lights 27 = .ok (.iconst 0, 1) := by decide +kernel
theorem dX1_lights_28 : decode cX1_lights 28 = .ok (.ior, 1) := by decide +kernel
theorem dX1_lights_29 : decode cX1_lights 29 = .ok (.istore_n 1, 1) := by decide +kernel
theorem dX1_lights_30 : decode cX1_lights 30 = .ok (.iinc 2 1, 3) := by decide +kernel
theorem dX1_lights_33 : decode cX1_lights 33 = .ok (.goto (-29), 3) := by decide +kernel
theorem dX1_lights_36 : decode cX1_lights 36 = .ok (.iload_n 1, 1) := by decide +kernel
theorem dX1_lights_37 : decode cX1_lights 37 = .ok (.ireturn, 1) := by decide +kernel
theorem dX1_firstLight_0 : decode cX1_firstLight 0 = .ok (.iconst 0, 1) := by decide +kernel
theorem dX1_firstLight_1 : decode cX1_firstLight 1 = .ok (.istore_n 1, 1) := by decide +kernel
theorem dX1_firstLight_2 : decode cX1_firstLight 2 = .ok (.iload_n 1, 1) := by decide +kernel
theorem dX1_firstLight_3 : decode cX1_firstLight 3 = .ok (.aload_n 0, 1) := by decide +kernel
theorem dX1_firstLight_4 : decode cX1_firstLight 4 = .ok (.getfield 21, 3) := by decide +kernel
theorem dX1_firstLight_7 : decode cX1_firstLight 7 = .ok (.if_icmp .ge 19, 3) := by decide +kernel
theorem dX1_firstLight_10 : decode cX1_firstLight 10 = .ok (.aload_n 0, 1) := by decide +kernel
theorem dX1_firstLight_11 : decode cX1_firstLight 11 = .ok (.iload_n 1, 1) := by decide +kernel
theorem dX1_firstLight_12 : decode cX1_firstLight 12 = .ok (.invokevirtual 105, 3) := by decide +kernel
theorem dX1_firstLight_15 : decode cX1_firstLight 15 = .ok (.ifCond .eq 5, 3) := by decide +kernel
theorem dX1_firstLight_18 : decode cX1_firstLight 18 = .ok (.iload_n 1, 1) := by decide +kernel
theorem dX1_firstLight_19 : decode cX1_firstLight 19 = .ok (.ireturn, 1) := by decide +kernel
theorem dX1_firstLight_20 : decode cX1_firstLight 20 = .ok (.iinc 1 1, 3) := by decide +kernel
theorem dX1_firstLight_23 : decode cX1_firstLight 23 = .ok (.goto (-21), 3) := by decide +kernel
theorem dX1_firstLight_26 : decode cX1_firstLight 26 = .ok (.iconst (-1), 1) := by decide +kernel
theorem dX1_firstLight_27 : decode cX1_firstLight 27 = .ok (.ireturn, 1) := by decide +kernel
theorem dX1_coneOf_0 : decode cX1_coneOf 0 = .ok (.iconst 0, 1) := by decide +kernel
theorem dX1_coneOf_1 : decode cX1_coneOf 1 = .ok (.istore_n 3, 1) := by decide +kernel
theorem dX1_coneOf_2 : decode cX1_coneOf 2 = .ok (.iload_n 3, 1) := by decide +kernel
theorem dX1_coneOf_3 : decode cX1_coneOf 3 = .ok (.aload_n 0, 1) := by decide +kernel
theorem dX1_coneOf_4 : decode cX1_coneOf 4 = .ok (.getfield 21, 3) := by decide +kernel
theorem dX1_coneOf_7 : decode cX1_coneOf 7 = .ok (.if_icmp .ge 56, 3) := by decide +kernel
theorem dX1_coneOf_10 : decode cX1_coneOf 10 = .ok (.aload_n 0, 1) := by decide +kernel
theorem dX1_coneOf_11 : decode cX1_coneOf 11 = .ok (.iload_n 3, 1) := by decide +kernel
theorem dX1_coneOf_12 : decode cX1_coneOf 12 = .ok (.invokevirtual 59, 3) := by decide +kernel
theorem dX1_coneOf_15 : decode cX1_coneOf 15 = .ok (.istore 4, 2) := by decide +kernel
theorem dX1_coneOf_17 : decode cX1_coneOf 17 = .ok (.aload_n 0, 1) := by decide +kernel
theorem dX1_coneOf_18 : decode cX1_coneOf 18 = .ok (.iload_n 3, 1) := by decide +kernel
theorem dX1_coneOf_19 : decode cX1_coneOf 19 = .ok (.invokevirtual 65, 3) := by decide +kernel
theorem dX1_coneOf_22 : decode cX1_coneOf 22 = .ok (.iload_n 2, 1) := by decide +kernel
theorem dX1_coneOf_23 : decode cX1_coneOf 23 = .ok (.imul, 1) := by decide +kernel
theorem dX1_coneOf_24 : decode cX1_coneOf 24 = .ok (.aload_n 0, 1) := by decide +kernel
theorem dX1_coneOf_25 : decode cX1_coneOf 25 = .ok (.iload_n 3, 1) := by decide +kernel
theorem dX1_coneOf_26 : decode cX1_coneOf 26 = .ok (.invokevirtual 68, 3) := by decide +kernel
theorem dX1_coneOf_29 : decode cX1_coneOf 29 = .ok (.iload_n 1, 1) := by decide +kernel
theorem dX1_coneOf_30 : decode cX1_coneOf 30 = .ok (.imul, 1) := by decide +kernel
theorem dX1_coneOf_31 : decode cX1_coneOf 31 = .ok (.isub, 1) := by decide +kernel
theorem dX1_coneOf_32 : decode cX1_coneOf 32 = .ok (.ifCond .lt 25, 3) := by decide +kernel
theorem dX1_coneOf_35 : decode cX1_coneOf 35 = .ok (.iload_n 1, 1) := by decide +kernel
theorem dX1_coneOf_36 : decode cX1_coneOf 36 = .ok (.aload_n 0, 1) := by decide +kernel
theorem dX1_coneOf_37 : decode cX1_coneOf 37 = .ok (.iload 4, 2) := by decide +kernel
theorem dX1_coneOf_39 : decode cX1_coneOf 39 = .ok (.invokevirtual 68, 3) := by decide +kernel
theorem dX1_coneOf_42 : decode cX1_coneOf 42 = .ok (.imul, 1) := by decide +kernel
theorem dX1_coneOf_43 : decode cX1_coneOf 43 = .ok (.iload_n 2, 1) := by decide +kernel
theorem dX1_coneOf_44 : decode cX1_coneOf 44 = .ok (.aload_n 0, 1) := by decide +kernel
theorem dX1_coneOf_45 : decode cX1_coneOf 45 = .ok (.iload 4, 2) := by decide +kernel
theorem dX1_coneOf_47 : decode cX1_coneOf 47 = .ok (.invokevirtual 65, 3) := by decide +kernel
theorem dX1_coneOf_50 : decode cX1_coneOf 50 = .ok (.imul, 1) := by decide +kernel
theorem dX1_coneOf_51 : decode cX1_coneOf 51 = .ok (.isub, 1) := by decide +kernel
theorem dX1_coneOf_52 : decode cX1_coneOf 52 = .ok (.ifCond .le 5, 3) := by decide +kernel
theorem dX1_coneOf_55 : decode cX1_coneOf 55 = .ok (.iload_n 3, 1) := by decide +kernel
theorem dX1_coneOf_56 : decode cX1_coneOf 56 = .ok (.ireturn, 1) := by decide +kernel
theorem dX1_coneOf_57 : decode cX1_coneOf 57 = .ok (.iinc 3 1, 3) := by decide +kernel
theorem dX1_coneOf_60 : decode cX1_coneOf 60 = .ok (.goto (-58), 3) := by decide +kernel
theorem dX1_coneOf_63 : decode cX1_coneOf 63 = .ok (.iconst 0, 1) := by decide +kernel
theorem dX1_coneOf_64 : decode cX1_coneOf 64 = .ok (.ireturn, 1) := by decide +kernel
theorem dX1_functionTimesTurn_0 : decode cX1_functionTimesTurn 0 = .ok (.aload_n 0, 1) := by decide +kernel
theorem dX1_functionTimesTurn_1 : decode cX1_functionTimesTurn 1 = .ok (.iload_n 2, 1) := by decide +kernel
theorem dX1_functionTimesTurn_2 : decode cX1_functionTimesTurn 2 = .ok (.invokevirtual 59, 3) := by decide +kernel
theorem dX1_functionTimesTurn_5 : decode cX1_functionTimesTurn 5 = .ok (.istore 5, 2) := by decide +kernel
theorem dX1_functionTimesTurn_7 : decode cX1_functionTimesTurn 7 = .ok (.iload_n 3, 1) := by decide +kernel
theorem dX1_functionTimesTurn_8 : decode cX1_functionTimesTurn 8 = .ok (.i2l, 1) := by decide +kernel
theorem dX1_functionTimesTurn_9 : decode cX1_functionTimesTurn 9 = .ok (.aload_n 0, 1) := by decide +kernel
theorem dX1_functionTimesTurn_10 : decode cX1_functionTimesTurn 10 = .ok (.iload 5, 2) := by decide +kernel
theorem dX1_functionTimesTurn_12 : decode cX1_functionTimesTurn 12 = .ok (.invokevirtual 68, 3) := by decide +kernel
theorem dX1_functionTimesTurn_15 : decode cX1_functionTimesTurn 15 = .ok (.i2l, 1) := by decide +kernel
theorem dX1_functionTimesTurn_16 : decode cX1_functionTimesTurn 16 = .ok (.lmul, 1) := by decide +kernel
theorem dX1_functionTimesTurn_17 : decode cX1_functionTimesTurn 17 = .ok (.iload 4, 2) := by decide +kernel
theorem dX1_functionTimesTurn_19 : decode cX1_functionTimesTurn 19 = .ok (.i2l, 1) := by decide +kernel
theorem dX1_functionTimesTurn_20 : decode cX1_functionTimesTurn 20 = .ok (.aload_n 0, 1) := by decide +kernel
theorem dX1_functionTimesTurn_21 : decode cX1_functionTimesTurn 21 = .ok (.iload 5, 2) := by decide +kernel
theorem dX1_functionTimesTurn_23 : decode cX1_functionTimesTurn 23 = .ok (.invokevirtual 65, 3) := by decide +kernel
theorem dX1_functionTimesTurn_26 : decode cX1_functionTimesTurn 26 = .ok (.i2l, 1) := by decide +kernel
theorem dX1_functionTimesTurn_27 : decode cX1_functionTimesTurn 27 = .ok (.lmul, 1) := by decide +kernel
theorem dX1_functionTimesTurn_28 : decode cX1_functionTimesTurn 28 = .ok (.lsub, 1) := by decide +kernel
theorem dX1_functionTimesTurn_29 : decode cX1_functionTimesTurn 29 = .ok (.lstore 6, 2) := by decide +kernel
theorem dX1_functionTimesTurn_31 : decode cX1_functionTimesTurn 31 = .ok (.aload_n 0, 1) := by decide +kernel
theorem dX1_functionTimesTurn_32 : decode cX1_functionTimesTurn 32 = .ok (.iload_n 2, 1) := by decide +kernel
theorem dX1_functionTimesTurn_33 : decode cX1_functionTimesTurn 33 = .ok (.invokevirtual 65, 3) := by decide +kernel
theorem dX1_functionTimesTurn_36 : decode cX1_functionTimesTurn 36 = .ok (.i2l, 1) := by decide +kernel
theorem dX1_functionTimesTurn_37 : decode cX1_functionTimesTurn 37 = .ok (.iload 4, 2) := by decide +kernel
theorem dX1_functionTimesTurn_39 : decode cX1_functionTimesTurn 39 = .ok (.i2l, 1) := by decide +kernel
theorem dX1_functionTimesTurn_40 : decode cX1_functionTimesTurn 40 = .ok (.lmul, 1) := by decide +kernel
theorem dX1_functionTimesTurn_41 : decode cX1_functionTimesTurn 41 = .ok (.aload_n 0, 1) := by decide +kernel
theorem dX1_functionTimesTurn_42 : decode cX1_functionTimesTurn 42 = .ok (.iload_n 2, 1) := by decide +kernel
theorem dX1_functionTimesTurn_43 : decode cX1_functionTimesTurn 43 = .ok (.invokevirtual 68, 3) := by decide +kernel
theorem dX1_functionTimesTurn_46 : decode cX1_functionTimesTurn 46 = .ok (.i2l, 1) := by decide +kernel
theorem dX1_functionTimesTurn_47 : decode cX1_functionTimesTurn 47 = .ok (.iload_n 3, 1) := by decide +kernel
theorem dX1_functionTimesTurn_48 : decode cX1_functionTimesTurn 48 = .ok (.i2l, 1) := by decide +kernel
theorem dX1_functionTimesTurn_49 : decode cX1_functionTimesTurn 49 = .ok (.lmul, 1) := by decide +kernel
theorem dX1_functionTimesTurn_50 : decode cX1_functionTimesTurn 50 = .ok (.lsub, 1) := by decide +kernel
theorem dX1_functionTimesTurn_51 : decode cX1_functionTimesTurn 51 = .ok (.lstore 8, 2) := by decide +kernel
theorem dX1_functionTimesTurn_53 : decode cX1_functionTimesTurn 53 = .ok (.lload 6, 2) := by decide +kernel
theorem dX1_functionTimesTurn_55 : decode cX1_functionTimesTurn 55 = .ok (.aload_n 0, 1) := by decide +kernel
theorem dX1_functionTimesTurn_56 : decode cX1_functionTimesTurn 56 = .ok (.iload_n 1, 1) := by decide +kernel
theorem dX1_functionTimesTurn_57 : decode cX1_functionTimesTurn 57 = .ok (.iload_n 2, 1) := by decide +kernel
theorem dX1_functionTimesTurn_58 : decode cX1_functionTimesTurn 58 = .ok (.invokevirtual 108, 3) := by decide +kernel
theorem dX1_functionTimesTurn_61 : decode cX1_functionTimesTurn 61 = .ok (.i2l, 1) := by decide +kernel
theorem dX1_functionTimesTurn_62 : decode cX1_functionTimesTurn 62 = .ok (.lmul, 1) := by decide +kernel
theorem dX1_functionTimesTurn_63 : decode cX1_functionTimesTurn 63 = .ok (.lload 8, 2) := by decide +kernel
theorem dX1_functionTimesTurn_65 : decode cX1_functionTimesTurn 65 = .ok (.aload_n 0, 1) := by decide +kernel
theorem dX1_functionTimesTurn_66 : decode cX1_functionTimesTurn 66 = .ok (.iload_n 1, 1) := by decide +kernel
theorem dX1_functionTimesTurn_67 : decode cX1_functionTimesTurn 67 = .ok (.iload 5, 2) := by decide +kernel
theorem dX1_functionTimesTurn_69 : decode cX1_functionTimesTurn 69 = .ok (.invokevirtual 108, 3) := by decide +kernel
theorem dX1_functionTimesTurn_72 : decode cX1_functionTimesTurn 72 = .ok (.i2l, 1) := by decide +kernel
theorem dX1_functionTimesTurn_73 : decode cX1_functionTimesTurn 73 = .ok (.lmul, 1) := by decide +kernel
theorem dX1_functionTimesTurn_74 : decode cX1_functionTimesTurn 74 = .ok (.ladd, 1) := by decide +kernel
theorem dX1_functionTimesTurn_75 : decode cX1_functionTimesTurn 75 = .ok (.lreturn, 1) := by decide +kernel
theorem dX1_pieceAlong_0 : decode cX1_pieceAlong 0 = .ok (.aload_n 0, 1) := by decide +kernel
theorem dX1_pieceAlong_1 : decode cX1_pieceAlong 1 = .ok (.iload_n 2, 1) := by decide +kernel
theorem dX1_pieceAlong_2 : decode cX1_pieceAlong 2 = .ok (.invokevirtual 59, 3) := by decide +kernel
theorem dX1_pieceAlong_5 : decode cX1_pieceAlong 5 = .ok (.istore_n 3, 1) := by decide +kernel
theorem dX1_pieceAlong_6 : decode cX1_pieceAlong 6 = .ok (.aload_n 0, 1) := by decide +kernel
theorem dX1_pieceAlong_7 : decode cX1_pieceAlong 7 = .ok (.iload_n 1, 1) := by decide +kernel
theorem dX1_pieceAlong_8 : decode cX1_pieceAlong 8 = .ok (.iload_n 3, 1) := by decide +kernel
theorem dX1_pieceAlong_9 : decode cX1_pieceAlong 9 = .ok (.invokevirtual 108, 3) := by decide +kernel
theorem dX1_pieceAlong_12 : decode cX1_pieceAlong 12 = .ok (.i2l, 1) := by decide +kernel
theorem dX1_pieceAlong_13 : decode cX1_pieceAlong 13 = .ok (.aload_n 0, 1) := by decide +kernel
theorem dX1_pieceAlong_14 : decode cX1_pieceAlong 14 = .ok (.iload_n 2, 1) := by decide +kernel
theorem dX1_pieceAlong_15 : decode cX1_pieceAlong 15 = .ok (.invokevirtual 68, 3) := by decide +kernel
theorem dX1_pieceAlong_18 : decode cX1_pieceAlong 18 = .ok (.i2l, 1) := by decide +kernel
theorem dX1_pieceAlong_19 : decode cX1_pieceAlong 19 = .ok (.lmul, 1) := by decide +kernel
theorem dX1_pieceAlong_20 : decode cX1_pieceAlong 20 = .ok (.aload_n 0, 1) := by decide +kernel
theorem dX1_pieceAlong_21 : decode cX1_pieceAlong 21 = .ok (.iload_n 1, 1) := by decide +kernel
theorem dX1_pieceAlong_22 : decode cX1_pieceAlong 22 = .ok (.iload_n 2, 1) := by decide +kernel
theorem dX1_pieceAlong_23 : decode cX1_pieceAlong 23 = .ok (.invokevirtual 108, 3) := by decide +kernel
theorem dX1_pieceAlong_26 : decode cX1_pieceAlong 26 = .ok (.i2l, 1) := by decide +kernel
theorem dX1_pieceAlong_27 : decode cX1_pieceAlong 27 = .ok (.aload_n 0, 1) := by decide +kernel
theorem dX1_pieceAlong_28 : decode cX1_pieceAlong 28 = .ok (.iload_n 3, 1) := by decide +kernel
theorem dX1_pieceAlong_29 : decode cX1_pieceAlong 29 = .ok (.invokevirtual 68, 3) := by decide +kernel
theorem dX1_pieceAlong_32 : decode cX1_pieceAlong 32 = .ok (.i2l, 1) := by decide +kernel
theorem dX1_pieceAlong_33 : decode cX1_pieceAlong 33 = .ok (.lmul, 1) := by decide +kernel
theorem dX1_pieceAlong_34 : decode cX1_pieceAlong 34 = .ok (.lsub, 1) := by decide +kernel
theorem dX1_pieceAlong_35 : decode cX1_pieceAlong 35 = .ok (.lreturn, 1) := by decide +kernel
theorem dX1_pieceUp_0 : decode cX1_pieceUp 0 = .ok (.aload_n 0, 1) := by decide +kernel
theorem dX1_pieceUp_1 : decode cX1_pieceUp 1 = .ok (.iload_n 2, 1) := by decide +kernel
theorem dX1_pieceUp_2 : decode cX1_pieceUp 2 = .ok (.invokevirtual 59, 3) := by decide +kernel
theorem dX1_pieceUp_5 : decode cX1_pieceUp 5 = .ok (.istore_n 3, 1) := by decide +kernel
theorem dX1_pieceUp_6 : decode cX1_pieceUp 6 = .ok (.aload_n 0, 1) := by decide +kernel
theorem dX1_pieceUp_7 : decode cX1_pieceUp 7 = .ok (.iload_n 1, 1) := by decide +kernel
theorem dX1_pieceUp_8 : decode cX1_pieceUp 8 = .ok (.iload_n 2, 1) := by decide +kernel
theorem dX1_pieceUp_9 : decode cX1_pieceUp 9 = .ok (.invokevirtual 108, 3) := by decide +kernel
theorem dX1_pieceUp_12 : decode cX1_pieceUp 12 = .ok (.i2l, 1) := by decide +kernel
theorem dX1_pieceUp_13 : decode cX1_pieceUp 13 = .ok (.aload_n 0, 1) := by decide +kernel
theorem dX1_pieceUp_14 : decode cX1_pieceUp 14 = .ok (.iload_n 3, 1) := by decide +kernel
theorem dX1_pieceUp_15 : decode cX1_pieceUp 15 = .ok (.invokevirtual 65, 3) := by decide +kernel
theorem dX1_pieceUp_18 : decode cX1_pieceUp 18 = .ok (.i2l, 1) := by decide +kernel
theorem dX1_pieceUp_19 : decode cX1_pieceUp 19 = .ok (.lmul, 1) := by decide +kernel
theorem dX1_pieceUp_20 : decode cX1_pieceUp 20 = .ok (.aload_n 0, 1) := by decide +kernel
theorem dX1_pieceUp_21 : decode cX1_pieceUp 21 = .ok (.iload_n 1, 1) := by decide +kernel
theorem dX1_pieceUp_22 : decode cX1_pieceUp 22 = .ok (.iload_n 3, 1) := by decide +kernel
theorem dX1_pieceUp_23 : decode cX1_pieceUp 23 = .ok (.invokevirtual 108, 3) := by decide +kernel
theorem dX1_pieceUp_26 : decode cX1_pieceUp 26 = .ok (.i2l, 1) := by decide +kernel
theorem dX1_pieceUp_27 : decode cX1_pieceUp 27 = .ok (.aload_n 0, 1) := by decide +kernel
theorem dX1_pieceUp_28 : decode cX1_pieceUp 28 = .ok (.iload_n 2, 1) := by decide +kernel
theorem dX1_pieceUp_29 : decode cX1_pieceUp 29 = .ok (.invokevirtual 65, 3) := by decide +kernel
theorem dX1_pieceUp_32 : decode cX1_pieceUp 32 = .ok (.i2l, 1) := by decide +kernel
theorem dX1_pieceUp_33 : decode cX1_pieceUp 33 = .ok (.lmul, 1) := by decide +kernel
theorem dX1_pieceUp_34 : decode cX1_pieceUp 34 = .ok (.lsub, 1) := by decide +kernel
theorem dX1_pieceUp_35 : decode cX1_pieceUp 35 = .ok (.lreturn, 1) := by decide +kernel
theorem dX1_isPieceWhole_0 : decode cX1_isPieceWhole 0 = .ok (.aload_n 0, 1) := by decide +kernel
theorem dX1_isPieceWhole_1 : decode cX1_isPieceWhole 1 = .ok (.iload_n 2, 1) := by decide +kernel
theorem dX1_isPieceWhole_2 : decode cX1_isPieceWhole 2 = .ok (.invokevirtual 55, 3) := by decide +kernel
theorem dX1_isPieceWhole_5 : decode cX1_isPieceWhole 5 = .ok (.istore_n 3, 1) := by decide +kernel
theorem dX1_isPieceWhole_6 : decode cX1_isPieceWhole 6 = .ok (.aload_n 0, 1) := by decide +kernel
theorem dX1_isPieceWhole_7 : decode cX1_isPieceWhole 7 = .ok (.iload_n 1, 1) := by decide +kernel
theorem dX1_isPieceWhole_8 : decode cX1_isPieceWhole 8 = .ok (.iload_n 2, 1) := by decide +kernel
theorem dX1_isPieceWhole_9 : decode cX1_isPieceWhole 9 = .ok (.invokevirtual 111, 3) := by decide +kernel
theorem dX1_isPieceWhole_12 : decode cX1_isPieceWhole 12 = .ok (.iload_n 3, 1) := by decide +kernel
theorem dX1_isPieceWhole_13 : decode cX1_isPieceWhole 13 = .ok (.i2l, 1) := by decide +kernel
theorem dX1_isPieceWhole_14 : decode cX1_isPieceWhole 14 = .ok (.invokestatic 83, 3) := by decide +kernel
theorem dX1_isPieceWhole_17 : decode cX1_isPieceWhole 17 = .ok (.lconst 0, 1) := by decide +kernel
theorem dX1_isPieceWhole_18 : decode cX1_isPieceWhole 18 = .ok (.lcmp, 1) := by decide +kernel
theorem dX1_isPieceWhole_19 : decode cX1_isPieceWhole 19 = .ok (.ifCond .ne 23, 3) := by decide +kernel
theorem dX1_isPieceWhole_22 : decode cX1_isPieceWhole 22 = .ok (.aload_n 0, 1) := by decide +kernel
theorem dX1_isPieceWhole_23 : decode cX1_isPieceWhole 23 = .ok (.iload_n 1, 1) := by decide +kernel
theorem dX1_isPieceWhole_24 : decode cX1_isPieceWhole 24 = .ok (.iload_n 2, 1) := by decide +kernel
theorem dX1_isPieceWhole_25 : decode cX1_isPieceWhole 25 = .ok (.invokevirtual 115, 3) := by decide +kernel
theorem dX1_isPieceWhole_28 : decode cX1_isPieceWhole 28 = .ok (.iload_n 3, 1) := by decide +kernel
theorem dX1_isPieceWhole_29 : decode cX1_isPieceWhole 29 = .ok (.i2l, 1) := by decide +kernel
theorem dX1_isPieceWhole_30 : decode cX1_isPieceWhole 30 = .ok (.invokestatic 83, 3) := by decide +kernel
theorem dX1_isPieceWhole_33 : decode cX1_isPieceWhole 33 = .ok (.lconst 0, 1) := by decide +kernel
theorem dX1_isPieceWhole_34 : decode cX1_isPieceWhole 34 = .ok (.lcmp, 1) := by decide +kernel
theorem dX1_isPieceWhole_35 : decode cX1_isPieceWhole 35 = .ok (.ifCond .ne 7, 3) := by decide +kernel
theorem dX1_isPieceWhole_38 : decode cX1_isPieceWhole 38 = .ok (.iconst 1, 1) := by decide +kernel
theorem dX1_isPieceWhole_39 : decode cX1_isPieceWhole 39 = .ok (.goto 4, 3) := by decide +kernel
theorem dX1_isPieceWhole_42 : decode cX1_isPieceWhole 42 = .ok (.iconst 0, 1) := by decide +kernel
theorem dX1_isPieceWhole_43 : decode cX1_isPieceWhole 43 = .ok (.ireturn, 1) := by decide +kernel
theorem dX1_brokenPieces_0 : decode cX1_brokenPieces 0 = .ok (.iconst 0, 1) := by decide +kernel
theorem dX1_brokenPieces_1 : decode cX1_brokenPieces 1 = .ok (.istore_n 2, 1) := by decide +kernel
theorem dX1_brokenPieces_2 : decode cX1_brokenPieces 2 = .ok (.iconst 0, 1) := by decide +kernel
theorem dX1_brokenPieces_3 : decode cX1_brokenPieces 3 = .ok (.istore_n 3, 1) := by decide +kernel
theorem dX1_brokenPieces_4 : decode cX1_brokenPieces 4 = .ok (.iload_n 3, 1) := by decide +kernel
theorem dX1_brokenPieces_5 : decode cX1_brokenPieces 5 = .ok (.aload_n 0, 1) := by decide +kernel
theorem dX1_brokenPieces_6 : decode cX1_brokenPieces 6 = .ok (.getfield 21, 3) := by decide +kernel
theorem dX1_brokenPieces_9 : decode cX1_brokenPieces 9 = .ok (.if_icmp .ge 28, 3) := by decide +kernel
theorem dX1_brokenPieces_12 : decode cX1_brokenPieces 12 = .ok (.iload_n 2, 1) := by decide +kernel
theorem dX1_brokenPieces_13 : decode cX1_brokenPieces 13 = .ok (.aload_n 0, 1) := by decide +kernel
theorem dX1_brokenPieces_14 : decode cX1_brokenPieces 14 = .ok (.iload_n 1, 1) := by decide +kernel
theorem dX1_brokenPieces_15 : decode cX1_brokenPieces 15 = .ok (.iload_n 3, 1) := by decide +kernel
theorem dX1_brokenPieces_16 : decode cX1_brokenPieces 16 = .ok (.invokevirtual 118, 3) := by decide +kernel
theorem dX1_brokenPieces_19 : decode cX1_brokenPieces 19 = .ok (.ifCond .eq 7, 3) := by decide +kernel
theorem dX1_brokenPieces_22 : decode cX1_brokenPieces 22 = .ok (.iconst 0, 1) := by decide +kernel
theorem dX1_brokenPieces_23 : decode cX1_brokenPieces 23 = .ok (.goto 6, 3) := by decide +kernel
theorem dX1_brokenPieces_26 : decode cX1_brokenPieces 26 = .ok (.iconst 1, 1) := by decide +kernel
theorem dX1_brokenPieces_27 : decode cX1_brokenPieces 27 = .ok (.iload_n 3, 1) := by decide +kernel
theorem dX1_brokenPieces_28 : decode cX1_brokenPieces 28 = .ok (.ishl, 1) := by decide +kernel
theorem dX1_brokenPieces_29 : decode cX1_brokenPieces 29 = .ok (.ior, 1) := by decide +kernel
theorem dX1_brokenPieces_30 : decode cX1_brokenPieces 30 = .ok (.istore_n 2, 1) := by decide +kernel
theorem dX1_brokenPieces_31 : decode cX1_brokenPieces 31 = .ok (.iinc 3 1, 3) := by decide +kernel
theorem dX1_brokenPieces_34 : decode cX1_brokenPieces 34 = .ok (.goto (-30), 3) := by decide +kernel
theorem dX1_brokenPieces_37 : decode cX1_brokenPieces 37 = .ok (.iload_n 2, 1) := by decide +kernel
theorem dX1_brokenPieces_38 : decode cX1_brokenPieces 38 = .ok (.ireturn, 1) := by decide +kernel
theorem dX1_bending_0 : decode cX1_bending 0 = .ok (.iconst 2, 1) := by decide +kernel
theorem dX1_bending_1 : decode cX1_bending 1 = .ok (.istore_n 2, 1) := by decide +kernel
theorem dX1_bending_2 : decode cX1_bending 2 = .ok (.iconst 0, 1) := by decide +kernel
theorem dX1_bending_3 : decode cX1_bending 3 = .ok (.istore_n 3, 1) := by decide +kernel
theorem dX1_bending_4 : decode cX1_bending 4 = .ok (.iload_n 3, 1) := by decide +kernel
theorem dX1_bending_5 : decode cX1_bending 5 = .ok (.aload_n 0, 1) := by decide +kernel
theorem dX1_bending_6 : decode cX1_bending 6 = .ok (.getfield 21, 3) := by decide +kernel
theorem dX1_bending_9 : decode cX1_bending 9 = .ok (.if_icmp .ge 95, 3) := by decide +kernel
theorem dX1_bending_12 : decode cX1_bending 12 = .ok (.aload_n 0, 1) := by decide +kernel
theorem dX1_bending_13 : decode cX1_bending 13 = .ok (.iload_n 1, 1) := by decide +kernel
theorem dX1_bending_14 : decode cX1_bending 14 = .ok (.aload_n 0, 1) := by decide +kernel
theorem dX1_bending_15 : decode cX1_bending 15 = .ok (.iload_n 3, 1) := by decide +kernel
theorem dX1_bending_16 : decode cX1_bending 16 = .ok (.invokevirtual 71, 3) := by decide +kernel
theorem dX1_bending_19 : decode cX1_bending 19 = .ok (.invokevirtual 108, 3) := by decide +kernel
theorem dX1_bending_22 : decode cX1_bending 22 = .ok (.i2l, 1) := by decide +kernel
theorem dX1_bending_23 : decode cX1_bending 23 = .ok (.aload_n 0, 1) := by decide +kernel
theorem dX1_bending_24 : decode cX1_bending 24 = .ok (.iload_n 3, 1) := by decide +kernel
theorem dX1_bending_25 : decode cX1_bending 25 = .ok (.invokevirtual 55, 3) := by decide +kernel
theorem dX1_bending_28 : decode cX1_bending 28 = .ok (.i2l, 1) := by decide +kernel
theorem dX1_bending_29 : decode cX1_bending 29 = .ok (.lmul, 1) := by decide +kernel
theorem dX1_bending_30 : decode cX1_bending 30 = .ok (.aload_n 0, 1) := by decide +kernel
theorem dX1_bending_31 : decode cX1_bending 31 = .ok (.iload_n 1, 1) := by decide +kernel
theorem dX1_bending_32 : decode cX1_bending 32 = .ok (.aload_n 0, 1) := by decide +kernel
theorem dX1_bending_33 : decode cX1_bending 33 = .ok (.iload_n 3, 1) := by decide +kernel
theorem dX1_bending_34 : decode cX1_bending 34 = .ok (.invokevirtual 59, 3) := by decide +kernel
theorem dX1_bending_37 : decode cX1_bending 37 = .ok (.invokevirtual 108, 3) := by decide +kernel
theorem dX1_bending_40 : decode cX1_bending 40 = .ok (.i2l, 1) := by decide +kernel
theorem dX1_bending_41 : decode cX1_bending 41 = .ok (.aload_n 0, 1) := by decide +kernel
theorem dX1_bending_42 : decode cX1_bending 42 = .ok (.aload_n 0, 1) := by decide +kernel
theorem dX1_bending_43 : decode cX1_bending 43 = .ok (.iload_n 3, 1) := by decide +kernel
theorem dX1_bending_44 : decode cX1_bending 44 = .ok (.invokevirtual 71, 3) := by decide +kernel
theorem dX1_bending_47 : decode cX1_bending 47 = .ok (.invokevirtual 55, 3) := by decide +kernel
theorem dX1_bending_50 : decode cX1_bending 50 = .ok (.i2l, 1) := by decide +kernel
theorem dX1_bending_51 : decode cX1_bending 51 = .ok (.lmul, 1) := by decide +kernel
theorem dX1_bending_52 : decode cX1_bending 52 = .ok (.ladd, 1) := by decide +kernel
theorem dX1_bending_53 : decode cX1_bending 53 = .ok (.aload_n 0, 1) := by decide +kernel
theorem dX1_bending_54 : decode cX1_bending 54 = .ok (.iload_n 1, 1) := by decide +kernel
theorem dX1_bending_55 : decode cX1_bending 55 = .ok (.iload_n 3, 1) := by decide +kernel
theorem dX1_bending_56 : decode cX1_bending 56 = .ok (.invokevirtual 108, 3) := by decide +kernel
theorem dX1_bending_59 : decode cX1_bending 59 = .ok (.i2l, 1) := by decide +kernel
theorem dX1_bending_60 : decode cX1_bending 60 = .ok (.aload_n 0, 1) := by decide +kernel
theorem dX1_bending_61 : decode cX1_bending 61 = .ok (.iload_n 3, 1) := by decide +kernel
theorem dX1_bending_62 : decode cX1_bending 62 = .ok (.invokevirtual 98, 3) := by decide +kernel
theorem dX1_bending_65 : decode cX1_bending 65 = .ok (.i2l, 1) := by decide +kernel
theorem dX1_bending_66 : decode cX1_bending 66 = .ok (.lmul, 1) := by decide +kernel
theorem dX1_bending_67 : decode cX1_bending 67 = .ok (.lsub, 1) := by decide +kernel
theorem dX1_bending_68 : decode cX1_bending 68 = .ok (.lstore 4, 2) := by decide +kernel
theorem dX1_bending_70 : decode cX1_bending 70 = .ok (.iload_n 2, 1) := by decide +kernel
theorem dX1_bending_71 : decode cX1_bending 71 = .ok (.lload 4, 2) := by decide +kernel
theorem dX1_bending_73 : decode cX1_bending 73 = .ok (.lconst 0, 1) := by decide +kernel
theorem dX1_bending_74 : decode cX1_bending 74 = .ok (.lcmp, 1) := by decide +kernel
theorem dX1_bending_75 : decode cX1_bending 75 = .ok (.ifCond .le 7, 3) := by decide +kernel
theorem dX1_bending_78 : decode cX1_bending 78 = .ok (.iconst 2, 1) := by decide +kernel
theorem dX1_bending_79 : decode cX1_bending 79 = .ok (.goto 15, 3) := by decide +kernel
theorem dX1_bending_82 : decode cX1_bending 82 = .ok (.lload 4, 2) := by decide +kernel
theorem dX1_bending_84 : decode cX1_bending 84 = .ok (.lconst 0, 1) := by decide +kernel
theorem dX1_bending_85 : decode cX1_bending 85 = .ok (.lcmp, 1) := by decide +kernel
theorem dX1_bending_86 : decode cX1_bending 86 = .ok (.ifCond .ne 7, 3) := by decide +kernel
theorem dX1_bending_89 : decode cX1_bending 89 = .ok (.iconst 1, 1) := by decide +kernel
theorem dX1_bending_90 : decode cX1_bending 90 = .ok (.goto 4, 3) := by decide +kernel
theorem dX1_bending_93 : decode cX1_bending 93 = .ok (.iconst 0, 1) := by decide +kernel
theorem dX1_bending_94 : decode cX1_bending 94 = .ok (.invokestatic 122, 3) := by decide +kernel
theorem dX1_bending_97 : decode cX1_bending 97 = .ok (.istore_n 2, 1) := by decide +kernel
theorem dX1_bending_98 : decode cX1_bending 98 = .ok (.iinc 3 1, 3) := by decide +kernel
theorem dX1_bending_101 : decode cX1_bending 101 = .ok (.goto (-97), 3) := by decide +kernel
theorem dX1_bending_104 : decode cX1_bending 104 = .ok (.iload_n 2, 1) := by decide +kernel
theorem dX1_bending_105 : decode cX1_bending 105 = .ok (.ireturn, 1) := by decide +kernel
theorem dX1_differWholly_0 : decode cX1_differWholly 0 = .ok (.aload_n 0, 1) := by decide +kernel
theorem dX1_differWholly_1 : decode cX1_differWholly 1 = .ok (.iconst 0, 1) := by decide +kernel
theorem dX1_differWholly_2 : decode cX1_differWholly 2 = .ok (.invokevirtual 55, 3) := by decide +kernel
theorem dX1_differWholly_5 : decode cX1_differWholly 5 = .ok (.istore_n 3, 1) := by decide +kernel
theorem dX1_differWholly_6 : decode cX1_differWholly 6 = .ok (.aload_n 0, 1) := by decide +kernel
theorem dX1_differWholly_7 : decode cX1_differWholly 7 = .ok (.iload_n 2, 1) := by decide +kernel
theorem dX1_differWholly_8 : decode cX1_differWholly 8 = .ok (.iconst 0, 1) := by decide +kernel
theorem dX1_differWholly_9 : decode cX1_differWholly 9 = .ok (.invokevirtual 111, 3) := by decide +kernel
theorem dX1_differWholly_12 : decode cX1_differWholly 12 = .ok (.aload_n 0, 1) := by decide +kernel
theorem dX1_differWholly_13 : decode cX1_differWholly 13 = .ok (.iload_n 1, 1) := by decide +kernel
theorem dX1_differWholly_14 : decode cX1_differWholly 14 = .ok (.iconst 0, 1) := by decide +kernel
theorem dX1_differWholly_15 : decode cX1_differWholly 15 = .ok (.invokevirtual 111, 3) := by decide +kernel
theorem dX1_differWholly_18 : decode cX1_differWholly 18 = .ok (.lsub, 1) := by decide +kernel
theorem dX1_differWholly_19 : decode cX1_differWholly 19 = .ok (.lstore 4, 2) := by decide +kernel
theorem dX1_differWholly_21 : decode cX1_differWholly 21 = .ok (.aload_n 0, 1) := by decide +kernel
theorem dX1_differWholly_22 : decode cX1_differWholly 22 = .ok (.iload_n 2, 1) := by decide +kernel
theorem dX1_differWholly_23 : decode cX1_differWholly 23 = .ok (.iconst 0, 1) := by decide +kernel
theorem dX1_differWholly_24 : decode cX1_differWholly 24 = .ok (.invokevirtual 115, 3) := by decide +kernel
theorem dX1_differWholly_27 : decode cX1_differWholly 27 = .ok (.aload_n 0, 1) := by decide +kernel
theorem dX1_differWholly_28 : decode cX1_differWholly 28 = .ok (.iload_n 1, 1) := by decide +kernel
theorem dX1_differWholly_29 : decode cX1_differWholly 29 = .ok (.iconst 0, 1) := by decide +kernel
theorem dX1_differWholly_30 : decode cX1_differWholly 30 = .ok (.invokevirtual 115, 3) := by decide +kernel
theorem dX1_differWholly_33 : decode cX1_differWholly 33 = .ok (.lsub, 1) := by decide +kernel
theorem dX1_differWholly_34 : decode cX1_differWholly 34 = .ok (.lstore 6, 2) := by decide +kernel
theorem dX1_differWholly_36 : decode cX1_differWholly 36 = .ok (.lload 4, 2) := by decide +kernel
theorem dX1_differWholly_38 : decode cX1_differWholly 38 = .ok (.iload_n 3, 1) := by decide +kernel
theorem dX1_differWholly_39 : decode cX1_differWholly 39 = .ok (.i2l, 1) := by decide +kernel
theorem dX1_differWholly_40 : decode cX1_differWholly 40 = .ok (.invokestatic 83, 3) := by decide +kernel
theorem dX1_differWholly_43 : decode cX1_differWholly 43 = .ok (.lconst 0, 1) := by decide +kernel
theorem dX1_differWholly_44 : decode cX1_differWholly 44 = .ok (.lcmp, 1) := by decide +kernel
theorem dX1_differWholly_45 : decode cX1_differWholly 45 = .ok (.ifCond .ne 15, 3) := by decide +kernel
theorem dX1_differWholly_48 : decode cX1_differWholly 48 = .ok (.lload 6, 2) := by decide +kernel
theorem dX1_differWholly_50 : decode cX1_differWholly 50 = .ok (.iload_n 3, 1) := by decide +kernel
theorem dX1_differWholly_51 : decode cX1_differWholly 51 = .ok (.i2l, 1) := by decide +kernel
theorem dX1_differWholly_52 : decode cX1_differWholly 52 = .ok (.invokestatic 83, 3) := by decide +kernel
theorem dX1_differWholly_55 : decode cX1_differWholly 55 = .ok (.lconst 0, 1) := by decide +kernel
theorem dX1_differWholly_56 : decode cX1_differWholly 56 = .ok (.lcmp, 1) := by decide +kernel
theorem dX1_differWholly_57 : decode cX1_differWholly 57 = .ok (.ifCond .eq 5, 3) := by decide +kernel
theorem dX1_differWholly_60 : decode cX1_differWholly 60 = .ok (.iconst 0, 1) := by decide +kernel
theorem dX1_differWholly_61 : decode cX1_differWholly 61 = .ok (.ireturn, 1) := by decide +kernel
theorem dX1_differWholly_62 : decode cX1_differWholly 62 = .ok (.lload 4, 2) := by decide +kernel
theorem dX1_differWholly_64 : decode cX1_differWholly 64 = .ok (.iload_n 3, 1) := by decide +kernel
theorem dX1_differWholly_65 : decode cX1_differWholly 65 = .ok (.i2l, 1) := by decide +kernel
theorem dX1_differWholly_66 : decode cX1_differWholly 66 = .ok (.invokestatic 79, 3) := by decide +kernel
theorem dX1_differWholly_69 : decode cX1_differWholly 69 = .ok (.lstore 4, 2) := by decide +kernel
theorem dX1_differWholly_71 : decode cX1_differWholly 71 = .ok (.lload 6, 2) := by decide +kernel
theorem dX1_differWholly_73 : decode cX1_differWholly 73 = .ok (.iload_n 3, 1) := by decide +kernel
theorem dX1_differWholly_74 : decode cX1_differWholly 74 = .ok (.i2l, 1) := by decide +kernel
theorem dX1_differWholly_75 : decode cX1_differWholly 75 = .ok (.invokestatic 79, 3) := by decide +kernel
theorem dX1_differWholly_78 : decode cX1_differWholly 78 = .ok (.lstore 6, 2) := by decide +kernel
theorem dX1_differWholly_80 : decode cX1_differWholly 80 = .ok (.iconst 0, 1) := by decide +kernel
theorem dX1_differWholly_81 : decode cX1_differWholly 81 = .ok (.istore 8, 2) := by decide +kernel
theorem dX1_differWholly_83 : decode cX1_differWholly 83 = .ok (.iload 8, 2) := by decide +kernel
theorem dX1_differWholly_85 : decode cX1_differWholly 85 = .ok (.aload_n 0, 1) := by decide +kernel
theorem dX1_differWholly_86 : decode cX1_differWholly 86 = .ok (.getfield 21, 3) := by decide +kernel
theorem dX1_differWholly_89 : decode cX1_differWholly 89 = .ok (.if_icmp .ge 52, 3) := by decide +kernel
theorem dX1_differWholly_92 : decode cX1_differWholly 92 = .ok (.aload_n 0, 1) := by decide +kernel
theorem dX1_differWholly_93 : decode cX1_differWholly 93 = .ok (.iload_n 1, 1) := by decide +kernel
theorem dX1_differWholly_94 : decode cX1_differWholly 94 = .ok (.iload 8, 2) := by decide +kernel
theorem dX1_differWholly_96 : decode cX1_differWholly 96 = .ok (.invokevirtual 108, 3) := by decide +kernel
theorem dX1_differWholly_99 : decode cX1_differWholly 99 = .ok (.aload_n 0, 1) := by decide +kernel
theorem dX1_differWholly_100 : decode cX1_differWholly 100 = .ok (.iload_n 2, 1) := by decide +kernel
theorem dX1_differWholly_101 : decode cX1_differWholly 101 = .ok (.iload 8, 2) := by decide +kernel
theorem dX1_differWholly_103 : decode cX1_differWholly 103 = .ok (.invokevirtual 108, 3) := by decide +kernel
theorem dX1_differWholly_106 : decode cX1_differWholly 106 = .ok (.isub, 1) := by decide +kernel
theorem dX1_differWholly_107 : decode cX1_differWholly 107 = .ok (.i2l, 1) := by decide +kernel
theorem dX1_differWholly_108 : decode cX1_differWholly 108 = .ok (.lload 4, 2) := by decide +kernel
theorem dX1_differWholly_110 : decode cX1_differWholly 110 = .ok (.aload_n 0, 1) := by decide +kernel
theorem dX1_differWholly_111 : decode cX1_differWholly 111 = .ok (.iload 8, 2) := by decide +kernel
theorem dX1_differWholly_113 : decode cX1_differWholly 113 = .ok (.invokevirtual 65, 3) := by decide +kernel
theorem dX1_differWholly_116 : decode cX1_differWholly 116 = .ok (.i2l, 1) := by decide +kernel
theorem dX1_differWholly_117 : decode cX1_differWholly 117 = .ok (.lmul, 1) := by decide +kernel
theorem dX1_differWholly_118 : decode cX1_differWholly 118 = .ok (.lload 6, 2) := by decide +kernel
theorem dX1_differWholly_120 : decode cX1_differWholly 120 = .ok (.aload_n 0, 1) := by decide +kernel
theorem dX1_differWholly_121 : decode cX1_differWholly 121 = .ok (.iload 8, 2) := by decide +kernel
theorem dX1_differWholly_123 : decode cX1_differWholly 123 = .ok (.invokevirtual 68, 3) := by decide +kernel
theorem dX1_differWholly_126 : decode cX1_differWholly 126 = .ok (.i2l, 1) := by decide +kernel
theorem dX1_differWholly_127 : decode cX1_differWholly 127 = .ok (.lmul, 1) := by decide +kernel
theorem dX1_differWholly_128 : decode cX1_differWholly 128 = .ok (.ladd, 1) := by decide +kernel
theorem dX1_differWholly_129 : decode cX1_differWholly 129 = .ok (.lcmp, 1) := by decide +kernel
theorem dX1_differWholly_130 : decode cX1_differWholly 130 = .ok (.ifCond .eq 5, 3) := by decide +kernel
theorem dX1_differWholly_133 : decode cX1_differWholly 133 = .ok (.iconst 0, 1) := by decide +kernel
theorem dX1_differWholly_134 : decode cX1_differWholly 134 = .ok (.ireturn, 1) := by decide +kernel
theorem dX1_differWholly_135 : decode cX1_differWholly 135 = .ok (.iinc 8 1, 3) := by decide +kernel
theorem dX1_differWholly_138 : decode cX1_differWholly 138 = .ok (.goto (-55), 3) := by decide +kernel
theorem dX1_differWholly_141 : decode cX1_differWholly 141 = .ok (.iconst 1, 1) := by decide +kernel
theorem dX1_differWholly_142 : decode cX1_differWholly 142 = .ok (.ireturn, 1) := by decide +kernel
theorem dX1_raysMeet_0 : decode cX1_raysMeet 0 = .ok (.iload_n 1, 1) := by decide +kernel
theorem dX1_raysMeet_1 : decode cX1_raysMeet 1 = .ok (.iload_n 2, 1) := by decide +kernel
theorem dX1_raysMeet_2 : decode cX1_raysMeet 2 = .ok (.if_icmp .ne 33, 3) := by decide +kernel
theorem dX1_raysMeet_5 : decode cX1_raysMeet 5 = .ok (.aload_n 0, 1) := by decide +kernel
theorem dX1_raysMeet_6 : decode cX1_raysMeet 6 = .ok (.iload_n 1, 1) := by decide +kernel
theorem dX1_raysMeet_7 : decode cX1_raysMeet 7 = .ok (.invokevirtual 98, 3) := by decide +kernel
theorem dX1_raysMeet_10 : decode cX1_raysMeet 10 = .ok (.i2l, 1) := by decide +kernel
theorem dX1_raysMeet_11 : decode cX1_raysMeet 11 = .ok (.lload_n 3, 1) := by decide +kernel
theorem dX1_raysMeet_12 : decode cX1_raysMeet 12 = .ok (.lmul, 1) := by decide +kernel
theorem dX1_raysMeet_13 : decode cX1_raysMeet 13 = .ok (.aload_n 0, 1) := by decide +kernel
theorem dX1_raysMeet_14 : decode cX1_raysMeet 14 = .ok (.aload_n 0, 1) := by decide +kernel
theorem dX1_raysMeet_15 : decode cX1_raysMeet 15 = .ok (.iload_n 1, 1) := by decide +kernel
theorem dX1_raysMeet_16 : decode cX1_raysMeet 16 = .ok (.invokevirtual 71, 3) := by decide +kernel
theorem dX1_raysMeet_19 : decode cX1_raysMeet 19 = .ok (.invokevirtual 55, 3) := by decide +kernel
theorem dX1_raysMeet_22 : decode cX1_raysMeet 22 = .ok (.i2l, 1) := by decide +kernel
theorem dX1_raysMeet_23 : decode cX1_raysMeet 23 = .ok (.aload_n 0, 1) := by decide +kernel
theorem dX1_raysMeet_24 : decode cX1_raysMeet 24 = .ok (.iload_n 1, 1) := by decide +kernel
theorem dX1_raysMeet_25 : decode cX1_raysMeet 25 = .ok (.invokevirtual 55, 3) := by decide +kernel
theorem dX1_raysMeet_28 : decode cX1_raysMeet 28 = .ok (.i2l, 1) := by decide +kernel
theorem dX1_raysMeet_29 : decode cX1_raysMeet 29 = .ok (.lmul, 1) := by decide +kernel
theorem dX1_raysMeet_30 : decode cX1_raysMeet 30 = .ok (.invokestatic 79, 3) := by decide +kernel
theorem dX1_raysMeet_33 : decode cX1_raysMeet 33 = .ok (.lneg, 1) := by decide +kernel
theorem dX1_raysMeet_34 : decode cX1_raysMeet 34 = .ok (.lreturn, 1) := by decide +kernel
theorem dX1_raysMeet_35 : decode cX1_raysMeet 35 = .ok (.aload_n 0, 1) := by decide +kernel
theorem dX1_raysMeet_36 : decode cX1_raysMeet 36 = .ok (.iload_n 1, 1) := by decide +kernel
theorem dX1_raysMeet_37 : decode cX1_raysMeet 37 = .ok (.invokevirtual 59, 3) := by decide +kernel
theorem dX1_raysMeet_40 : decode cX1_raysMeet 40 = .ok (.iload_n 2, 1) := by decide +kernel
theorem dX1_raysMeet_41 : decode cX1_raysMeet 41 = .ok (.if_icmp .ne 14, 3) := by decide +kernel
theorem dX1_raysMeet_44 : decode cX1_raysMeet 44 = .ok (.lload_n 3, 1) := by decide +kernel
theorem dX1_raysMeet_45 : decode cX1_raysMeet 45 = .ok (.aload_n 0, 1) := by decide +kernel
theorem dX1_raysMeet_46 : decode cX1_raysMeet 46 = .ok (.iload_n 1, 1) := by decide +kernel
theorem dX1_raysMeet_47 : decode cX1_raysMeet 47 = .ok (.invokevirtual 55, 3) := by decide +kernel
theorem dX1_raysMeet_50 : decode cX1_raysMeet 50 = .ok (.i2l, 1) := by decide +kernel
theorem dX1_raysMeet_51 : decode cX1_raysMeet 51 = .ok (.invokestatic 79, 3) := by decide +kernel
theorem dX1_raysMeet_54 : decode cX1_raysMeet 54 = .ok (.lreturn, 1) := by decide +kernel
theorem dX1_raysMeet_55 : decode cX1_raysMeet 55 = .ok (.aload_n 0, 1) := by decide +kernel
theorem dX1_raysMeet_56 : decode cX1_raysMeet 56 = .ok (.iload_n 2, 1) := by decide +kernel
theorem dX1_raysMeet_57 : decode cX1_raysMeet 57 = .ok (.invokevirtual 59, 3) := by decide +kernel
theorem dX1_raysMeet_60 : decode cX1_raysMeet 60 = .ok (.iload_n 1, 1) := by decide +kernel
theorem dX1_raysMeet_61 : decode cX1_raysMeet 61 = .ok (.if_icmp .ne 16, 3) := by decide +kernel
theorem dX1_raysMeet_64 : decode cX1_raysMeet 64 = .ok (.lload_n 3, 1) := by decide +kernel
theorem dX1_raysMeet_65 : decode cX1_raysMeet 65 = .ok (.aload_n 0, 1) := by decide +kernel
theorem dX1_raysMeet_66 : decode cX1_raysMeet 66 = .ok (.iload_n 2, 1) := by decide +kernel
theorem dX1_raysMeet_67 : decode cX1_raysMeet 67 = .ok (.invokevirtual 55, 3) := by decide +kernel
theorem dX1_raysMeet_70 : decode cX1_raysMeet 70 = .ok (.i2l, 1) := by decide +kernel
theorem dX1_raysMeet_71 : decode cX1_raysMeet 71 = .ok (.invokestatic 79, 3) := by decide +kernel
theorem dX1_raysMeet_74 : decode cX1_raysMeet 74 = .ok (.goto 4, 3) := by decide +kernel
theorem dX1_raysMeet_77 : decode cX1_raysMeet 77 = .ok (.lconst 0, 1) := by decide +kernel
theorem dX1_raysMeet_78 : decode cX1_raysMeet 78 = .ok (.lreturn, 1) := by decide +kernel
theorem dX1_loadMeetsRay_0 : decode cX1_loadMeetsRay 0 = .ok (.aload_n 0, 1) := by decide +kernel
theorem dX1_loadMeetsRay_1 : decode cX1_loadMeetsRay 1 = .ok (.iload_n 2, 1) := by decide +kernel
theorem dX1_loadMeetsRay_2 : decode cX1_loadMeetsRay 2 = .ok (.invokevirtual 71, 3) := by decide +kernel
theorem dX1_loadMeetsRay_5 : decode cX1_loadMeetsRay 5 = .ok (.istore 5, 2) := by decide +kernel
theorem dX1_loadMeetsRay_7 : decode cX1_loadMeetsRay 7 = .ok (.aload_n 0, 1) := by decide +kernel
theorem dX1_loadMeetsRay_8 : decode cX1_loadMeetsRay 8 = .ok (.iload_n 2, 1) := by decide +kernel
theorem dX1_loadMeetsRay_9 : decode cX1_loadMeetsRay 9 = .ok (.invokevirtual 59, 3) := by decide +kernel
theorem dX1_loadMeetsRay_12 : decode cX1_loadMeetsRay 12 = .ok (.istore 6, 2) := by decide +kernel
theorem dX1_loadMeetsRay_14 : decode cX1_loadMeetsRay 14 = .ok (.aload_n 0, 1) := by decide +kernel
theorem dX1_loadMeetsRay_15 : decode cX1_loadMeetsRay 15 = .ok (.iload_n 1, 1) := by decide +kernel
theorem dX1_loadMeetsRay_16 : decode cX1_loadMeetsRay 16 = .ok (.iload 5, 2) := by decide +kernel
theorem dX1_loadMeetsRay_18 : decode cX1_loadMeetsRay 18 = .ok (.invokevirtual 108, 3) := by decide +kernel
theorem dX1_loadMeetsRay_21 : decode cX1_loadMeetsRay 21 = .ok (.i2l, 1) := by decide +kernel
theorem dX1_loadMeetsRay_22 : decode cX1_loadMeetsRay 22 = .ok (.aload_n 0, 1) := by decide +kernel
theorem dX1_loadMeetsRay_23 : decode cX1_loadMeetsRay 23 = .ok (.iload 5, 2) := by decide +kernel
theorem dX1_loadMeetsRay_25 : decode cX1_loadMeetsRay 25 = .ok (.iload_n 2, 1) := by decide +kernel
theorem dX1_loadMeetsRay_26 : decode cX1_loadMeetsRay 26 = .ok (.lload_n 3, 1) := by decide +kernel
theorem dX1_loadMeetsRay_27 : decode cX1_loadMeetsRay 27 = .ok (.invokevirtual 125, 3) := by decide +kernel
theorem dX1_loadMeetsRay_30 : decode cX1_loadMeetsRay 30 = .ok (.lmul, 1) := by decide +kernel
theorem dX1_loadMeetsRay_31 : decode cX1_loadMeetsRay 31 = .ok (.aload_n 0, 1) := by decide +kernel
theorem dX1_loadMeetsRay_32 : decode cX1_loadMeetsRay 32 = .ok (.iload_n 1, 1) := by decide +kernel
theorem dX1_loadMeetsRay_33 : decode cX1_loadMeetsRay 33 = .ok (.iload_n 2, 1) := by decide +kernel
theorem dX1_loadMeetsRay_34 : decode cX1_loadMeetsRay 34 = .ok (.invokevirtual 108, 3) := by decide +kernel
theorem dX1_loadMeetsRay_37 : decode cX1_loadMeetsRay 37 = .ok (.i2l, 1) := by decide +kernel
theorem dX1_loadMeetsRay_38 : decode cX1_loadMeetsRay 38 = .ok (.aload_n 0, 1) := by decide +kernel
theorem dX1_loadMeetsRay_39 : decode cX1_loadMeetsRay 39 = .ok (.iload_n 2, 1) := by decide +kernel
theorem dX1_loadMeetsRay_40 : decode cX1_loadMeetsRay 40 = .ok (.iload_n 2, 1) := by decide +kernel
theorem dX1_loadMeetsRay_41 : decode cX1_loadMeetsRay 41 = .ok (.lload_n 3, 1) := by decide +kernel
theorem dX1_loadMeetsRay_42 : decode cX1_loadMeetsRay 42 = .ok (.invokevirtual 125, 3) := by decide +kernel
theorem dX1_loadMeetsRay_45 : decode cX1_loadMeetsRay 45 = .ok (.lmul, 1) := by decide +kernel
theorem dX1_loadMeetsRay_46 : decode cX1_loadMeetsRay 46 = .ok (.ladd, 1) := by decide +kernel
theorem dX1_loadMeetsRay_47 : decode cX1_loadMeetsRay 47 = .ok (.aload_n 0, 1) := by decide +kernel
theorem dX1_loadMeetsRay_48 : decode cX1_loadMeetsRay 48 = .ok (.iload_n 1, 1) := by decide +kernel
theorem dX1_loadMeetsRay_49 : decode cX1_loadMeetsRay 49 = .ok (.iload 6, 2) := by decide +kernel
theorem dX1_loadMeetsRay_51 : decode cX1_loadMeetsRay 51 = .ok (.invokevirtual 108, 3) := by decide +kernel
theorem dX1_loadMeetsRay_54 : decode cX1_loadMeetsRay 54 = .ok (.i2l, 1) := by decide +kernel
theorem dX1_loadMeetsRay_55 : decode cX1_loadMeetsRay 55 = .ok (.aload_n 0, 1) := by decide +kernel
theorem dX1_loadMeetsRay_56 : decode cX1_loadMeetsRay 56 = .ok (.iload_n 2, 1) := by decide +kernel
theorem dX1_loadMeetsRay_57 : decode cX1_loadMeetsRay 57 = .ok (.iload 6, 2) := by decide +kernel
theorem dX1_loadMeetsRay_59 : decode cX1_loadMeetsRay 59 = .ok (.lload_n 3, 1) := by decide +kernel
theorem dX1_loadMeetsRay_60 : decode cX1_loadMeetsRay 60 = .ok (.invokevirtual 125, 3) := by decide +kernel
theorem dX1_loadMeetsRay_63 : decode cX1_loadMeetsRay 63 = .ok (.lmul, 1) := by decide +kernel
theorem dX1_loadMeetsRay_64 : decode cX1_loadMeetsRay 64 = .ok (.ladd, 1) := by decide +kernel
theorem dX1_loadMeetsRay_65 : decode cX1_loadMeetsRay 65 = .ok (.lreturn, 1) := by decide +kernel
theorem dX1_loadsMeet_0 : decode cX1_loadsMeet 0 = .ok (.lconst 0, 1) := by decide +kernel
theorem dX1_loadsMeet_1 : decode cX1_loadsMeet 1 = .ok (.lstore 5, 2) := by decide +kernel
theorem dX1_loadsMeet_3 : decode cX1_loadsMeet 3 = .ok (.iconst 0, 1) := by decide +kernel
theorem dX1_loadsMeet_4 : decode cX1_loadsMeet 4 = .ok (.istore 7, 2) := by decide +kernel
theorem dX1_loadsMeet_6 : decode cX1_loadsMeet 6 = .ok (.iload 7, 2) := by decide +kernel
theorem dX1_loadsMeet_8 : decode cX1_loadsMeet 8 = .ok (.aload_n 0, 1) := by decide +kernel
theorem dX1_loadsMeet_9 : decode cX1_loadsMeet 9 = .ok (.getfield 21, 3) := by decide +kernel
theorem dX1_loadsMeet_12 : decode cX1_loadsMeet 12 = .ok (.if_icmp .ge 31, 3) := by decide +kernel
theorem dX1_loadsMeet_15 : decode cX1_loadsMeet 15 = .ok (.lload 5, 2) := by decide +kernel
theorem dX1_loadsMeet_17 : decode cX1_loadsMeet 17 = .ok (.aload_n 0, 1) := by decide +kernel
theorem dX1_loadsMeet_18 : decode cX1_loadsMeet 18 = .ok (.iload_n 2, 1) := by decide +kernel
theorem dX1_loadsMeet_19 : decode cX1_loadsMeet 19 = .ok (.iload 7, 2) := by decide +kernel
theorem dX1_loadsMeet_21 : decode cX1_loadsMeet 21 = .ok (.invokevirtual 108, 3) := by decide +kernel
theorem dX1_loadsMeet_24 : decode cX1_loadsMeet 24 = .ok (.i2l, 1) := by decide +kernel
theorem dX1_loadsMeet_25 : decode cX1_loadsMeet 25 = .ok (.aload_n 0, 1) := by decide +kernel
theorem dX1_loadsMeet_26 : decode cX1_loadsMeet 26 = .ok (.iload_n 1, 1) := by decide +kernel
theorem dX1_loadsMeet_27 : decode cX1_loadsMeet 27 = .ok (.iload 7, 2) := by decide +kernel
theorem dX1_loadsMeet_29 : decode cX1_loadsMeet 29 = .ok (.lload_n 3, 1) := by decide +kernel
theorem dX1_loadsMeet_30 : decode cX1_loadsMeet 30 = .ok (.invokevirtual 129, 3) := by decide +kernel
theorem dX1_loadsMeet_33 : decode cX1_loadsMeet 33 = .ok (.lmul, 1) := by decide +kernel
theorem dX1_loadsMeet_34 : decode cX1_loadsMeet 34 = .ok (.ladd, 1) := by decide +kernel
theorem dX1_loadsMeet_35 : decode cX1_loadsMeet 35 = .ok (.lstore 5, 2) := by decide +kernel
theorem dX1_loadsMeet_37 : decode cX1_loadsMeet 37 = .ok (.iinc 7 1, 3) := by decide +kernel
theorem dX1_loadsMeet_40 : decode cX1_loadsMeet 40 = .ok (.goto (-34), 3) := by decide +kernel
theorem dX1_loadsMeet_43 : decode cX1_loadsMeet 43 = .ok (.lload 5, 2) := by decide +kernel
theorem dX1_loadsMeet_45 : decode cX1_loadsMeet 45 = .ok (.lreturn, 1) := by decide +kernel
theorem dX1_addLoad_0 : decode cX1_addLoad 0 = .ok (.iconst 1, 1) := by decide +kernel
theorem dX1_addLoad_1 : decode cX1_addLoad 1 = .ok (.istore 4, 2) := by decide +kernel
theorem dX1_addLoad_3 : decode cX1_addLoad 3 = .ok (.iconst 0, 1) := by decide +kernel
theorem dX1_addLoad_4 : decode cX1_addLoad 4 = .ok (.istore 5, 2) := by decide +kernel
theorem dX1_addLoad_6 : decode cX1_addLoad 6 = .ok (.iload 5, 2) := by decide +kernel
theorem dX1_addLoad_8 : decode cX1_addLoad 8 = .ok (.aload_n 0, 1) := by decide +kernel
theorem dX1_addLoad_9 : decode cX1_addLoad 9 = .ok (.getfield 21, 3) := by decide +kernel
theorem dX1_addLoad_12 : decode cX1_addLoad 12 = .ok (.if_icmp .ge 58, 3) := by decide +kernel
theorem dX1_addLoad_15 : decode cX1_addLoad 15 = .ok (.aload_n 0, 1) := by decide +kernel
theorem dX1_addLoad_16 : decode cX1_addLoad 16 = .ok (.iload_n 1, 1) := by decide +kernel
theorem dX1_addLoad_17 : decode cX1_addLoad 17 = .ok (.iload 5, 2) := by decide +kernel
theorem dX1_addLoad_19 : decode cX1_addLoad 19 = .ok (.invokevirtual 108, 3) := by decide +kernel
theorem dX1_addLoad_22 : decode cX1_addLoad 22 = .ok (.iload_n 3, 1) := by decide +kernel
theorem dX1_addLoad_23 : decode cX1_addLoad 23 = .ok (.aload_n 0, 1) := by decide +kernel
theorem dX1_addLoad_24 : decode cX1_addLoad 24 = .ok (.iload_n 2, 1) := by decide +kernel
theorem dX1_addLoad_25 : decode cX1_addLoad 25 = .ok (.iload 5, 2) := by decide +kernel
theorem dX1_addLoad_27 : decode cX1_addLoad 27 = .ok (.invokevirtual 108, 3) := by decide +kernel
theorem dX1_addLoad_30 : decode cX1_addLoad 30 = .ok (.imul, 1) := by decide +kernel
theorem dX1_addLoad_31 : decode cX1_addLoad 31 = .ok (.iadd, 1) := by decide +kernel
theorem dX1_addLoad_32 : decode cX1_addLoad 32 = .ok (.istore 6, 2) := by decide +kernel
theorem dX1_addLoad_34 : decode cX1_addLoad 34 = .ok (.iload 4, 2) := by decide +kernel
theorem dX1_addLoad_36 : decode cX1_addLoad 36 = .ok (.ifCond .eq 16, 3) := by decide +kernel
theorem dX1_addLoad_39 : decode cX1_addLoad 39 = .ok (.iload 6, 2) := by decide +kernel
theorem dX1_addLoad_41 : decode cX1_addLoad 41 = .ok (.i2l, 1) := by decide +kernel
theorem dX1_addLoad_42 : decode cX1_addLoad 42 = .ok (.invokestatic 132, 3) := by decide +kernel
theorem dX1_addLoad_45 : decode cX1_addLoad 45 = .ok (.ifCond .eq 7, 3) := by decide +kernel
theorem dX1_addLoad_48 : decode cX1_addLoad 48 = .ok (.iconst 1, 1) := by decide +kernel
theorem dX1_addLoad_49 : decode cX1_addLoad 49 = .ok (.goto 4, 3) := by decide +kernel
theorem dX1_addLoad_52 : decode cX1_addLoad 52 = .ok (.iconst 0, 1) := by decide +kernel
theorem dX1_addLoad_53 : decode cX1_addLoad 53 = .ok (.istore 4, 2) := by decide +kernel
theorem dX1_addLoad_55 : decode cX1_addLoad 55 = .ok (.aload_n 0, 1) := by decide +kernel
theorem dX1_addLoad_56 : decode cX1_addLoad 56 = .ok (.iload_n 1, 1) := by decide +kernel
theorem dX1_addLoad_57 : decode cX1_addLoad 57 = .ok (.iload 5, 2) := by decide +kernel
theorem dX1_addLoad_59 : decode cX1_addLoad 59 = .ok (.iload 6, 2) := by decide +kernel
theorem dX1_addLoad_61 : decode cX1_addLoad 61 = .ok (.invokevirtual 51, 3) := by decide +kernel
theorem dX1_addLoad_64 : decode cX1_addLoad 64 = .ok (.iinc 5 1, 3) := by decide +kernel
theorem dX1_addLoad_67 : decode cX1_addLoad 67 = .ok (.goto (-61), 3) := by decide +kernel
theorem dX1_addLoad_70 : decode cX1_addLoad 70 = .ok (.iload 4, 2) := by decide +kernel
theorem dX1_addLoad_72 : decode cX1_addLoad 72 = .ok (.ireturn, 1) := by decide +kernel
theorem dX1_addWhole_0 : decode cX1_addWhole 0 = .ok (.iconst 1, 1) := by decide +kernel
theorem dX1_addWhole_1 : decode cX1_addWhole 1 = .ok (.istore 4, 2) := by decide +kernel
theorem dX1_addWhole_3 : decode cX1_addWhole 3 = .ok (.iconst 0, 1) := by decide +kernel
theorem dX1_addWhole_4 : decode cX1_addWhole 4 = .ok (.istore 5, 2) := by decide +kernel
theorem dX1_addWhole_6 : decode cX1_addWhole 6 = .ok (.iload 5, 2) := by decide +kernel
theorem dX1_addWhole_8 : decode cX1_addWhole 8 = .ok (.aload_n 0, 1) := by decide +kernel
theorem dX1_addWhole_9 : decode cX1_addWhole 9 = .ok (.getfield 21, 3) := by decide +kernel
theorem dX1_addWhole_12 : decode cX1_addWhole 12 = .ok (.if_icmp .ge 66, 3) := by decide +kernel
theorem dX1_addWhole_15 : decode cX1_addWhole 15 = .ok (.aload_n 0, 1) := by decide +kernel
theorem dX1_addWhole_16 : decode cX1_addWhole 16 = .ok (.iload_n 1, 1) := by decide +kernel
theorem dX1_addWhole_17 : decode cX1_addWhole 17 = .ok (.iload 5, 2) := by decide +kernel
theorem dX1_addWhole_19 : decode cX1_addWhole 19 = .ok (.invokevirtual 108, 3) := by decide +kernel
theorem dX1_addWhole_22 : decode cX1_addWhole 22 = .ok (.iload_n 2, 1) := by decide +kernel
theorem dX1_addWhole_23 : decode cX1_addWhole 23 = .ok (.aload_n 0, 1) := by decide +kernel
theorem dX1_addWhole_24 : decode cX1_addWhole 24 = .ok (.iload 5, 2) := by decide +kernel
theorem dX1_addWhole_26 : decode cX1_addWhole 26 = .ok (.invokevirtual 65, 3) := by decide +kernel
theorem dX1_addWhole_29 : decode cX1_addWhole 29 = .ok (.imul, 1) := by decide +kernel
theorem dX1_addWhole_30 : decode cX1_addWhole 30 = .ok (.iadd, 1) := by decide +kernel
theorem dX1_addWhole_31 : decode cX1_addWhole 31 = .ok (.iload_n 3, 1) := by decide +kernel
theorem dX1_addWhole_32 : decode cX1_addWhole 32 = .ok (.aload_n 0, 1) := by decide +kernel
theorem dX1_addWhole_33 : decode cX1_addWhole 33 = .ok (.iload 5, 2) := by decide +kernel
theorem dX1_addWhole_35 : decode cX1_addWhole 35 = .ok (.invokevirtual 68, 3) := by decide +kernel
theorem dX1_addWhole_38 : decode cX1_addWhole 38 = .ok (.imul, 1) := by decide +kernel
theorem dX1_addWhole_39 : decode cX1_addWhole 39 = .ok (.iadd, 1) := by decide +kernel
theorem dX1_addWhole_40 : decode cX1_addWhole 40 = .ok (.istore 6, 2) := by decide +kernel
theorem dX1_addWhole_42 : decode cX1_addWhole 42 = .ok (.iload 4, 2) := by decide +kernel
theorem dX1_addWhole_44 : decode cX1_addWhole 44 = .ok (.ifCond .eq 16, 3) := by decide +kernel
theorem dX1_addWhole_47 : decode cX1_addWhole 47 = .ok (.iload 6, 2) := by decide +kernel
theorem dX1_addWhole_49 : decode cX1_addWhole 49 = .ok (.i2l, 1) := by decide +kernel
theorem dX1_addWhole_50 : decode cX1_addWhole 50 = .ok (.invokestatic 132, 3) := by decide +kernel
theorem dX1_addWhole_53 : decode cX1_addWhole 53 = .ok (.ifCond .eq 7, 3) := by decide +kernel
theorem dX1_addWhole_56 : decode cX1_addWhole 56 = .ok (.iconst 1, 1) := by decide +kernel
theorem dX1_addWhole_57 : decode cX1_addWhole 57 = .ok (.goto 4, 3) := by decide +kernel
theorem dX1_addWhole_60 : decode cX1_addWhole 60 = .ok (.iconst 0, 1) := by decide +kernel
theorem dX1_addWhole_61 : decode cX1_addWhole 61 = .ok (.istore 4, 2) := by decide +kernel
theorem dX1_addWhole_63 : decode cX1_addWhole 63 = .ok (.aload_n 0, 1) := by decide +kernel
theorem dX1_addWhole_64 : decode cX1_addWhole 64 = .ok (.iload_n 1, 1) := by decide +kernel
theorem dX1_addWhole_65 : decode cX1_addWhole 65 = .ok (.iload 5, 2) := by decide +kernel
theorem dX1_addWhole_67 : decode cX1_addWhole 67 = .ok (.iload 6, 2) := by decide +kernel
theorem dX1_addWhole_69 : decode cX1_addWhole 69 = .ok (.invokevirtual 51, 3) := by decide +kernel
theorem dX1_addWhole_72 : decode cX1_addWhole 72 = .ok (.iinc 5 1, 3) := by decide +kernel
theorem dX1_addWhole_75 : decode cX1_addWhole 75 = .ok (.goto (-69), 3) := by decide +kernel
theorem dX1_addWhole_78 : decode cX1_addWhole 78 = .ok (.iload 4, 2) := by decide +kernel
theorem dX1_addWhole_80 : decode cX1_addWhole 80 = .ok (.ireturn, 1) := by decide +kernel
theorem dX1_insert_0 : decode cX1_insert 0 = .ok (.aload_n 0, 1) := by decide +kernel
theorem dX1_insert_1 : decode cX1_insert 1 = .ok (.getfield 21, 3) := by decide +kernel
theorem dX1_insert_4 : decode cX1_insert 4 = .ok (.bipush 24, 2) := by decide +kernel
theorem dX1_insert_6 : decode cX1_insert 6 = .ok (.if_icmp .ge 26, 3) := by decide +kernel
theorem dX1_insert_9 : decode cX1_insert 9 = .ok (.iload_n 3, 1) := by decide +kernel
theorem dX1_insert_10 : decode cX1_insert 10 = .ok (.i2l, 1) := by decide +kernel
theorem dX1_insert_11 : decode cX1_insert 11 = .ok (.ldc2_w 136, 3) := by decide +kernel
theorem dX1_insert_14 : decode cX1_insert 14 = .ok (.invokestatic 138, 3) := by decide +kernel
theorem dX1_insert_17 : decode cX1_insert 17 = .ok (.ifCond .ne 15, 3) := by decide +kernel
theorem dX1_insert_20 : decode cX1_insert 20 = .ok (.iload 4, 2) := by decide +kernel
theorem dX1_insert_22 : decode cX1_insert 22 = .ok (.i2l, 1) := by decide +kernel
theorem dX1_insert_23 : decode cX1_insert 23 = .ok (.ldc2_w 136, 3) := by decide +kernel
theorem dX1_insert_26 : decode cX1_insert 26 = .ok (.invokestatic 138, 3) := by decide +kernel
theorem dX1_insert_29 : decode cX1_insert 29 = .ok (.ifCond .eq 5, 3) := by decide +kernel
theorem dX1_insert_32 : decode cX1_insert 32 = .ok (.iconst (-1), 1) := by decide +kernel
theorem dX1_insert_33 : decode cX1_insert 33 = .ok (.ireturn, 1) := by decide +kernel
theorem dX1_insert_34 : decode cX1_insert 34 = .ok (.aload_n 0, 1) := by decide +kernel
theorem dX1_insert_35 : decode cX1_insert 35 = .ok (.iload_n 3, 1) := by decide +kernel
theorem dX1_insert_36 : decode cX1_insert 36 = .ok (.iload 4, 2) := by decide +kernel
theorem dX1_insert_38 : decode cX1_insert 38 = .ok (.invokevirtual 44, 3) := by decide +kernel
theorem dX1_insert_41 : decode cX1_insert 41 = .ok (.istore 5, 2) := by decide +kernel
theorem dX1_insert_43 : decode cX1_insert 43 = .ok (.iconst 0, 1) := by decide +kernel
theorem dX1_insert_44 : decode cX1_insert 44 = .ok (.istore 6, 2) := by decide +kernel
theorem dX1_insert_46 : decode cX1_insert 46 = .ok (.iload 6, 2) := by decide +kernel
theorem dX1_insert_48 : decode cX1_insert 48 = .ok (.aload_n 0, 1) := by decide +kernel
theorem dX1_insert_49 : decode cX1_insert 49 = .ok (.getfield 25, 3) := by decide +kernel
theorem dX1_insert_52 : decode cX1_insert 52 = .ok (.if_icmp .ge 51, 3) := by decide +kernel
theorem dX1_insert_55 : decode cX1_insert 55 = .ok (.aload_n 1, 1) := by decide +kernel
theorem dX1_insert_56 : decode cX1_insert 56 = .ok (.iload 6, 2) := by decide +kernel
theorem dX1_insert_58 : decode cX1_insert 58 = .ok (.iload_n 2, 1) := by decide +kernel
theorem dX1_insert_59 : decode cX1_insert 59 = .ok (.iload_n 3, 1) := by decide +kernel
theorem dX1_insert_60 : decode cX1_insert 60 = .ok (.iload 4, 2) := by decide +kernel
theorem dX1_insert_62 : decode cX1_insert 62 = .ok (.invokevirtual 142, 3) := by decide +kernel
theorem dX1_insert_65 : decode cX1_insert 65 = .ok (.aload_n 1, 1) := by decide +kernel
theorem dX1_insert_66 : decode cX1_insert 66 = .ok (.iload_n 2, 1) := by decide +kernel
theorem dX1_insert_67 : decode cX1_insert 67 = .ok (.invokevirtual 55, 3) := by decide +kernel
theorem dX1_insert_70 : decode cX1_insert 70 = .ok (.i2l, 1) := by decide +kernel
theorem dX1_insert_71 : decode cX1_insert 71 = .ok (.invokestatic 146, 3) := by decide +kernel
theorem dX1_insert_74 : decode cX1_insert 74 = .ok (.lstore 7, 2) := by decide +kernel
theorem dX1_insert_76 : decode cX1_insert 76 = .ok (.lload 7, 2) := by decide +kernel
theorem dX1_insert_78 : decode cX1_insert 78 = .ok (.invokestatic 132, 3) := by decide +kernel
theorem dX1_insert_81 : decode cX1_insert 81 = .ok (.ifCond .ne 5, 3) := by decide +kernel
theorem dX1_insert_84 : decode cX1_insert 84 = .ok (.iconst (-1), 1) := by decide +kernel
theorem dX1_insert_85 : decode cX1_insert 85 = .ok (.ireturn, 1) := by decide +kernel
theorem dX1_insert_86 : decode cX1_insert 86 = .ok (.aload_n 0, 1) := by decide +kernel
theorem dX1_insert_87 : decode cX1_insert 87 = .ok (.iload 6, 2) := by decide +kernel
theorem dX1_insert_89 : decode cX1_insert 89 = .ok (.iload 5, 2) := by decide +kernel
theorem dX1_insert_91 : decode cX1_insert 91 = .ok (.lload 7, 2) := by decide +kernel
theorem dX1_insert_93 : decode cX1_insert 93 = .ok (.l2i, 1) := by decide +kernel
theorem dX1_insert_94 : decode cX1_insert 94 = .ok (.invokevirtual 51, 3) := by decide +kernel
theorem dX1_insert_97 : decode cX1_insert 97 = .ok (.iinc 6 1, 3) := by decide +kernel
theorem dX1_insert_100 : decode cX1_insert 100 = .ok (.goto (-54), 3) := by decide +kernel
theorem dX1_insert_103 : decode cX1_insert 103 = .ok (.iload 5, 2) := by decide +kernel
theorem dX1_insert_105 : decode cX1_insert 105 = .ok (.ireturn, 1) := by decide +kernel
theorem dX1_remove_0 : decode cX1_remove 0 = .ok (.iload_n 1, 1) := by decide +kernel
theorem dX1_remove_1 : decode cX1_remove 1 = .ok (.istore_n 2, 1) := by decide +kernel
theorem dX1_remove_2 : decode cX1_remove 2 = .ok (.iload_n 2, 1) := by decide +kernel
theorem dX1_remove_3 : decode cX1_remove 3 = .ok (.iconst 1, 1) := by decide +kernel
theorem dX1_remove_4 : decode cX1_remove 4 = .ok (.iadd, 1) := by decide +kernel
theorem dX1_remove_5 : decode cX1_remove 5 = .ok (.aload_n 0, 1) := by decide +kernel
theorem dX1_remove_6 : decode cX1_remove 6 = .ok (.getfield 21, 3) := by decide +kernel
theorem dX1_remove_9 : decode cX1_remove 9 = .ok (.if_icmp .ge 17, 3) := by decide +kernel
theorem dX1_remove_12 : decode cX1_remove 12 = .ok (.aload_n 0, 1) := by decide +kernel
theorem dX1_remove_13 : decode cX1_remove 13 = .ok (.iload_n 2, 1) := by decide +kernel
theorem dX1_remove_14 : decode cX1_remove 14 = .ok (.iconst 1, 1) := by decide +kernel
theorem dX1_remove_15 : decode cX1_remove 15 = .ok (.iadd, 1) := by decide +kernel
theorem dX1_remove_16 : decode cX1_remove 16 = .ok (.iload_n 2, 1) := by decide +kernel
theorem dX1_remove_17 : decode cX1_remove 17 = .ok (.invokevirtual 149, 3) := by decide +kernel
theorem dX1_remove_20 : decode cX1_remove 20 = .ok (.iinc 2 1, 3) := by decide +kernel
theorem dX1_remove_23 : decode cX1_remove 23 = .ok (.goto (-21), 3) := by decide +kernel
theorem dX1_remove_26 : decode cX1_remove 26 = .ok (.aload_n 0, 1) := by decide +kernel
theorem dX1_remove_27 : decode cX1_remove 27 = .ok (.dup, 1) := by decide +kernel
theorem dX1_remove_28 : decode cX1_remove 28 = .ok (.getfield 21, 3) := by decide +kernel
theorem dX1_remove_31 : decode cX1_remove 31 = .ok (.iconst 1, 1) := by decide +kernel
theorem dX1_remove_32 : decode cX1_remove 32 = .ok (.isub, 1) := by decide +kernel
theorem dX1_remove_33 : decode cX1_remove 33 = .ok (.putfield 21, 3) := by decide +kernel
theorem dX1_remove_36 : decode cX1_remove 36 = .ok (.return_, 1) := by decide +kernel
theorem dX1_open_0 : decode cX1_open 0 = .ok (.iconst 0, 1) := by decide +kernel
theorem dX1_open_1 : decode cX1_open 1 = .ok (.istore_n 3, 1) := by decide +kernel
theorem dX1_open_2 : decode cX1_open 2 = .ok (.iload_n 3, 1) := by decide +kernel
theorem dX1_open_3 : decode cX1_open 3 = .ok (.aload_n 0, 1) := by decide +kernel
theorem dX1_open_4 : decode cX1_open 4 = .ok (.getfield 21, 3) := by decide +kernel
theorem dX1_open_7 : decode cX1_open 7 = .ok (.if_icmp .ge 27, 3) := by decide +kernel
theorem dX1_open_10 : decode cX1_open 10 = .ok (.aload_n 0, 1) := by decide +kernel
theorem dX1_open_11 : decode cX1_open 11 = .ok (.iload_n 3, 1) := by decide +kernel
theorem dX1_open_12 : decode cX1_open 12 = .ok (.invokevirtual 65, 3) := by decide +kernel
theorem dX1_open_15 : decode cX1_open 15 = .ok (.aload_n 0, 1) := by decide +kernel
theorem dX1_open_16 : decode cX1_open 16 = .ok (.iload_n 3, 1) := by decide +kernel
theorem dX1_open_17 : decode cX1_open 17 = .ok (.invokevirtual 68, 3) := by decide +kernel
theorem dX1_open_20 : decode cX1_open 20 = .ok (.iload_n 1, 1) := by decide +kernel
theorem dX1_open_21 : decode cX1_open 21 = .ok (.iload_n 2, 1) := by decide +kernel
theorem dX1_open_22 : decode cX1_open 22 = .ok (.invokestatic 153, 3) := by decide +kernel
theorem dX1_open_25 : decode cX1_open 25 = .ok (.ifCond .eq 9, 3) := by decide +kernel
theorem dX1_open_28 : decode cX1_open 28 = .ok (.iinc 3 1, 3) := by decide +kernel
theorem dX1_open_31 : decode cX1_open 31 = .ok (.goto (-29), 3) := by decide +kernel
theorem dX1_open_34 : decode cX1_open 34 = .ok (.aload_n 0, 1) := by decide +kernel
theorem dX1_open_35 : decode cX1_open 35 = .ok (.getfield 21, 3) := by decide +kernel
theorem dX1_open_38 : decode cX1_open 38 = .ok (.bipush 24, 2) := by decide +kernel
theorem dX1_open_40 : decode cX1_open 40 = .ok (.if_icmp .ge 9, 3) := by decide +kernel
theorem dX1_open_43 : decode cX1_open 43 = .ok (.iload_n 3, 1) := by decide +kernel
theorem dX1_open_44 : decode cX1_open 44 = .ok (.bipush 24, 2) := by decide +kernel
theorem dX1_open_46 : decode cX1_open 46 = .ok (.if_icmp .lt 5, 3) := by decide +kernel
theorem dX1_open_49 : decode cX1_open 49 = .ok (.iconst (-1), 1) := by decide +kernel
theorem dX1_open_50 : decode cX1_open 50 = .ok (.ireturn, 1) := by decide +kernel
theorem dX1_open_51 : decode cX1_open 51 = .ok (.aload_n 0, 1) := by decide +kernel
theorem dX1_open_52 : decode cX1_open 52 = .ok (.getfield 21, 3) := by decide +kernel
theorem dX1_open_55 : decode cX1_open 55 = .ok (.istore 4, 2) := by decide +kernel
theorem dX1_open_57 : decode cX1_open 57 = .ok (.iload 4, 2) := by decide +kernel
theorem dX1_open_59 : decode cX1_open 59 = .ok (.iload_n 3, 1) := by decide +kernel
theorem dX1_open_60 : decode cX1_open 60 = .ok (.if_icmp .le 19, 3) := by decide +kernel
theorem dX1_open_63 : decode cX1_open 63 = .ok (.aload_n 0, 1) := by decide +kernel
theorem dX1_open_64 : decode cX1_open 64 = .ok (.iload 4, 2) := by decide +kernel
theorem dX1_open_66 : decode cX1_open 66 = .ok (.iconst 1, 1) := by decide +kernel
theorem dX1_open_67 : decode cX1_open 67 = .ok (.isub, 1) := by decide +kernel
theorem dX1_open_68 : decode cX1_open 68 = .ok (.iload 4, 2) := by decide +kernel
theorem dX1_open_70 : decode cX1_open 70 = .ok (.invokevirtual 149, 3) := by decide +kernel
theorem dX1_open_73 : decode cX1_open 73 = .ok (.iinc 4 (-1), 3) := by decide +kernel
theorem dX1_open_76 : decode cX1_open 76 = .ok (.goto (-19), 3) := by decide +kernel
theorem dX1_open_79 : decode cX1_open 79 = .ok (.aload_n 0, 1) := by decide +kernel
theorem dX1_open_80 : decode cX1_open 80 = .ok (.getfield 11, 3) := by decide +kernel
theorem dX1_open_83 : decode cX1_open 83 = .ok (.iload_n 3, 1) := by decide +kernel
theorem dX1_open_84 : decode cX1_open 84 = .ok (.iload_n 1, 1) := by decide +kernel
theorem dX1_open_85 : decode cX1_open 85 = .ok (.iastore, 1) := by decide +kernel
theorem dX1_open_86 : decode cX1_open 86 = .ok (.aload_n 0, 1) := by decide +kernel
theorem dX1_open_87 : decode cX1_open 87 = .ok (.getfield 15, 3) := by decide +kernel
theorem dX1_open_90 : decode cX1_open 90 = .ok (.iload_n 3, 1) := by decide +kernel
theorem dX1_open_91 : decode cX1_open 91 = .ok (.iload_n 2, 1) := by decide +kernel
theorem dX1_open_92 : decode cX1_open 92 = .ok (.iastore, 1) := by decide +kernel
theorem dX1_open_93 : decode cX1_open 93 = .ok (.aload_n 0, 1) := by decide +kernel
theorem dX1_open_94 : decode cX1_open 94 = .ok (.dup, 1) := by decide +kernel
theorem dX1_open_95 : decode cX1_open 95 = .ok (.getfield 21, 3) := by decide +kernel
theorem dX1_open_98 : decode cX1_open 98 = .ok (.iconst 1, 1) := by decide +kernel
theorem dX1_open_99 : decode cX1_open 99 = .ok (.iadd, 1) := by decide +kernel
theorem dX1_open_100 : decode cX1_open 100 = .ok (.putfield 21, 3) := by decide +kernel
theorem dX1_open_103 : decode cX1_open 103 = .ok (.iload_n 3, 1) := by decide +kernel
theorem dX1_open_104 : decode cX1_open 104 = .ok (.ireturn, 1) := by decide +kernel
theorem dX1_move_0 : decode cX1_move 0 = .ok (.iload_n 1, 1) := by decide +kernel
theorem dX1_move_1 : decode cX1_move 1 = .ok (.ifCond .lt 19, 3) := by decide +kernel
theorem dX1_move_4 : decode cX1_move 4 = .ok (.iload_n 2, 1) := by decide +kernel
theorem dX1_move_5 : decode cX1_move 5 = .ok (.ifCond .lt 15, 3) := by decide +kernel
theorem dX1_move_8 : decode cX1_move 8 = .ok (.iload_n 1, 1) := by decide +kernel
theorem dX1_move_9 : decode cX1_move 9 = .ok (.bipush 24, 2) := by decide +kernel
theorem dX1_move_11 : decode cX1_move 11 = .ok (.if_icmp .ge 9, 3) := by decide +kernel
theorem dX1_move_14 : decode cX1_move 14 = .ok (.iload_n 2, 1) := by decide +kernel
theorem dX1_move_15 : decode cX1_move 15 = .ok (.bipush 24, 2) := by decide +kernel
theorem dX1_move_17 : decode cX1_move 17 = .ok (.if_icmp .lt 4, 3) := by decide +kernel
theorem dX1_move_20 : decode cX1_move 20 = .ok (.return_, 1) := by decide +kernel
theorem dX1_move_21 : decode cX1_move 21 = .ok (.aload_n 0, 1) := by decide +kernel
theorem dX1_move_22 : decode cX1_move 22 = .ok (.getfield 11, 3) := by decide +kernel
theorem dX1_move_25 : decode cX1_move 25 = .ok (.iload_n 2, 1) := by decide +kernel
theorem dX1_move_26 : decode cX1_move 26 = .ok (.aload_n 0, 1) := by decide +kernel
theorem dX1_move_27 : decode cX1_move 27 = .ok (.getfield 11, 3) := by decide +kernel
theorem dX1_move_30 : decode cX1_move 30 = .ok (.iload_n 1, 1) := by decide +kernel
theorem dX1_move_31 : decode cX1_move 31 = .ok (.iaload, 1) := by decide +kernel
theorem dX1_move_32 : decode cX1_move 32 = .ok (.iastore, 1) := by decide +kernel
theorem dX1_move_33 : decode cX1_move 33 = .ok (.aload_n 0, 1) := by decide +kernel
theorem dX1_move_34 : decode cX1_move 34 = .ok (.getfield 15, 3) := by decide +kernel
theorem dX1_move_37 : decode cX1_move 37 = .ok (.iload_n 2, 1) := by decide +kernel
theorem dX1_move_38 : decode cX1_move 38 = .ok (.aload_n 0, 1) := by decide +kernel
theorem dX1_move_39 : decode cX1_move 39 = .ok (.getfield 15, 3) := by decide +kernel
theorem dX1_move_42 : decode cX1_move 42 = .ok (.iload_n 1, 1) := by decide +kernel
theorem dX1_move_43 : decode cX1_move 43 = .ok (.iaload, 1) := by decide +kernel
theorem dX1_move_44 : decode cX1_move 44 = .ok (.iastore, 1) := by decide +kernel
theorem dX1_move_45 : decode cX1_move 45 = .ok (.iconst 0, 1) := by decide +kernel
theorem dX1_move_46 : decode cX1_move 46 = .ok (.istore_n 3, 1) := by decide +kernel
theorem dX1_move_47 : decode cX1_move 47 = .ok (.iload_n 3, 1) := by decide +kernel
theorem dX1_move_48 : decode cX1_move 48 = .ok (.aload_n 0, 1) := by decide +kernel
theorem dX1_move_49 : decode cX1_move 49 = .ok (.getfield 25, 3) := by decide +kernel
theorem dX1_move_52 : decode cX1_move 52 = .ok (.if_icmp .ge 21, 3) := by decide +kernel
theorem dX1_move_55 : decode cX1_move 55 = .ok (.aload_n 0, 1) := by decide +kernel
theorem dX1_move_56 : decode cX1_move 56 = .ok (.iload_n 3, 1) := by decide +kernel
theorem dX1_move_57 : decode cX1_move 57 = .ok (.iload_n 2, 1) := by decide +kernel
theorem dX1_move_58 : decode cX1_move 58 = .ok (.aload_n 0, 1) := by decide +kernel
theorem dX1_move_59 : decode cX1_move 59 = .ok (.iload_n 3, 1) := by decide +kernel
theorem dX1_move_60 : decode cX1_move 60 = .ok (.iload_n 1, 1) := by decide +kernel
theorem dX1_move_61 : decode cX1_move 61 = .ok (.invokevirtual 108, 3) := by decide +kernel
theorem dX1_move_64 : decode cX1_move 64 = .ok (.invokevirtual 51, 3) := by decide +kernel
theorem dX1_move_67 : decode cX1_move 67 = .ok (.iinc 3 1, 3) := by decide +kernel
theorem dX1_move_70 : decode cX1_move 70 = .ok (.goto (-23), 3) := by decide +kernel
theorem dX1_move_73 : decode cX1_move 73 = .ok (.return_, 1) := by decide +kernel
theorem dX1_isHeld_0 : decode cX1_isHeld 0 = .ok (.lload_n 0, 1) := by decide +kernel
theorem dX1_isHeld_1 : decode cX1_isHeld 1 = .ok (.ldc2_w 157, 3) := by decide +kernel
theorem dX1_isHeld_4 : decode cX1_isHeld 4 = .ok (.invokestatic 138, 3) := by decide +kernel
theorem dX1_isHeld_7 : decode cX1_isHeld 7 = .ok (.ifCond .ne 7, 3) := by decide +kernel
theorem dX1_isHeld_10 : decode cX1_isHeld 10 = .ok (.iconst 1, 1) := by decide +kernel
theorem dX1_isHeld_11 : decode cX1_isHeld 11 = .ok (.goto 4, 3) := by decide +kernel
theorem dX1_isHeld_14 : decode cX1_isHeld 14 = .ok (.iconst 0, 1) := by decide +kernel
theorem dX1_isHeld_15 : decode cX1_isHeld 15 = .ok (.ireturn, 1) := by decide +kernel
theorem dX1_comesBefore_0 : decode cX1_comesBefore 0 = .ok (.iload_n 0, 1) := by decide +kernel
theorem dX1_comesBefore_1 : decode cX1_comesBefore 1 = .ok (.iload_n 1, 1) := by decide +kernel
theorem dX1_comesBefore_2 : decode cX1_comesBefore 2 = .ok (.invokestatic 159, 3) := by decide +kernel
theorem dX1_comesBefore_5 : decode cX1_comesBefore 5 = .ok (.istore 4, 2) := by decide +kernel
theorem dX1_comesBefore_7 : decode cX1_comesBefore 7 = .ok (.iload 4, 2) := by decide +kernel
theorem dX1_comesBefore_9 : decode cX1_comesBefore 9 = .ok (.iload_n 2, 1) := by decide +kernel
theorem dX1_comesBefore_10 : decode cX1_comesBefore 10 = .ok (.iload_n 3, 1) := by decide +kernel
theorem dX1_comesBefore_11 : decode cX1_comesBefore 11 = .ok (.invokestatic 159, 3) := by decide +kernel
theorem dX1_comesBefore_14 : decode cX1_comesBefore 14 = .ok (.if_icmp .eq 6, 3) := by decide +kernel
theorem dX1_comesBefore_17 : decode cX1_comesBefore 17 = .ok (.iload 4, 2) := by decide +kernel
theorem dX1_comesBefore_19 : decode cX1_comesBefore 19 = .ok (.ireturn, 1) := by decide +kernel
theorem dX1_comesBefore_20 : decode cX1_comesBefore 20 = .ok (.iload_n 0, 1) := by decide +kernel
theorem dX1_comesBefore_21 : decode cX1_comesBefore 21 = .ok (.iload_n 3, 1) := by decide +kernel
theorem dX1_comesBefore_22 : decode cX1_comesBefore 22 = .ok (.imul, 1) := by decide +kernel
theorem dX1_comesBefore_23 : decode cX1_comesBefore 23 = .ok (.iload_n 1, 1) := by decide +kernel
theorem dX1_comesBefore_24 : decode cX1_comesBefore 24 = .ok (.iload_n 2, 1) := by decide +kernel
theorem dX1_comesBefore_25 : decode cX1_comesBefore 25 = .ok (.imul, 1) := by decide +kernel
theorem dX1_comesBefore_26 : decode cX1_comesBefore 26 = .ok (.isub, 1) := by decide +kernel
theorem dX1_comesBefore_27 : decode cX1_comesBefore 27 = .ok (.ifCond .le 7, 3) := by decide +kernel
theorem dX1_comesBefore_30 : decode cX1_comesBefore 30 = .ok (.iconst 1, 1) := by decide +kernel
theorem dX1_comesBefore_31 : decode cX1_comesBefore 31 = .ok (.goto 4, 3) := by decide +kernel
theorem dX1_comesBefore_34 : decode cX1_comesBefore 34 = .ok (.iconst 0, 1) := by decide +kernel
theorem dX1_comesBefore_35 : decode cX1_comesBefore 35 = .ok (.ireturn, 1) := by decide +kernel
theorem dX1_isInFirstHalf_0 : decode cX1_isInFirstHalf 0 = .ok (.iload_n 1, 1) := by decide +kernel
theorem dX1_isInFirstHalf_1 : decode cX1_isInFirstHalf 1 = .ok (.ifCond .gt 11, 3) := by decide +kernel
theorem dX1_isInFirstHalf_4 : decode cX1_isInFirstHalf 4 = .ok (.iload_n 1, 1) := by decide +kernel
theorem dX1_isInFirstHalf_5 : decode cX1_isInFirstHalf 5 = .ok (.ifCond .ne 11, 3) := by decide +kernel
theorem dX1_isInFirstHalf_8 : decode cX1_isInFirstHalf 8 = .ok (.iload_n 0, 1) := by decide +kernel
theorem dX1_isInFirstHalf_9 : decode cX1_isInFirstHalf 9 = .ok (.ifCond .le 7, 3) := by decide +kernel
theorem dX1_isInFirstHalf_12 : decode cX1_isInFirstHalf 12 = .ok (.iconst 1, 1) := by decide +kernel
theorem dX1_isInFirstHalf_13 : decode cX1_isInFirstHalf 13 = .ok (.goto 4, 3) := by decide +kernel
theorem dX1_isInFirstHalf_16 : decode cX1_isInFirstHalf 16 = .ok (.iconst 0, 1) := by decide +kernel
theorem dX1_isInFirstHalf_17 : decode cX1_isInFirstHalf 17 = .ok (.ireturn, 1) := by decide +kernel
theorem dX2_init_0 : decode cX2_init 0 = .ok (.aload_n 0, 1) := by decide +kernel
theorem dX2_init_1 : decode cX2_init 1 = .ok (.invokespecial 3, 3) := by decide +kernel
theorem dX2_init_4 : decode cX2_init 4 = .ok (.aload_n 0, 1) := by decide +kernel
theorem dX2_init_5 : decode cX2_init 5 = .ok (.bipush 24, 2) := by decide +kernel
theorem dX2_init_7 : decode cX2_init 7 = .ok (.newarray .int, 2) := by decide +kernel
theorem dX2_init_9 : decode cX2_init 9 = .ok (.putfield 11, 3) := by decide +kernel
theorem dX2_init_12 : decode cX2_init 12 = .ok (.aload_n 0, 1) := by decide +kernel
theorem dX2_init_13 : decode cX2_init 13 = .ok (.bipush 24, 2) := by decide +kernel
theorem dX2_init_15 : decode cX2_init 15 = .ok (.newarray .int, 2) := by decide +kernel
theorem dX2_init_17 : decode cX2_init 17 = .ok (.putfield 17, 3) := by decide +kernel
theorem dX2_init_20 : decode cX2_init 20 = .ok (.aload_n 0, 1) := by decide +kernel
theorem dX2_init_21 : decode cX2_init 21 = .ok (.bipush 24, 2) := by decide +kernel
theorem dX2_init_23 : decode cX2_init 23 = .ok (.newarray .long, 2) := by decide +kernel
theorem dX2_init_25 : decode cX2_init 25 = .ok (.putfield 20, 3) := by decide +kernel
theorem dX2_init_28 : decode cX2_init 28 = .ok (.return_, 1) := by decide +kernel
theorem dX2_countAll_0 : decode cX2_countAll 0 = .ok (.aload_n 0, 1) := by decide +kernel
theorem dX2_countAll_1 : decode cX2_countAll 1 = .ok (.aload_n 1, 1) := by decide +kernel
theorem dX2_countAll_2 : decode cX2_countAll 2 = .ok (.getfield 24, 3) := by decide +kernel
theorem dX2_countAll_5 : decode cX2_countAll 5 = .ok (.bipush 24, 2) := by decide +kernel
theorem dX2_countAll_7 : decode cX2_countAll 7 = .ok (.invokestatic 28, 3) := by decide +kernel
theorem dX2_countAll_10 : decode cX2_countAll 10 = .ok (.putfield 34, 3) := by decide +kernel
theorem dX2_countAll_13 : decode cX2_countAll 13 = .ok (.iconst 0, 1) := by decide +kernel
theorem dX2_countAll_14 : decode cX2_countAll 14 = .ok (.istore 5, 2) := by decide +kernel
theorem dX2_countAll_16 : decode cX2_countAll 16 = .ok (.iload 5, 2) := by decide +kernel
theorem dX2_countAll_18 : decode cX2_countAll 18 = .ok (.aload_n 0, 1) := by decide +kernel
theorem dX2_countAll_19 : decode cX2_countAll 19 = .ok (.getfield 34, 3) := by decide +kernel
theorem dX2_countAll_22 : decode cX2_countAll 22 = .ok (.if_icmp .ge 57, 3) := by decide +kernel
theorem dX2_countAll_25 : decode cX2_countAll 25 = .ok (.aload_n 0, 1) := by decide +kernel
theorem dX2_countAll_26 : decode cX2_countAll 26 = .ok (.getfield 11, 3) := by decide +kernel
theorem dX2_countAll_29 : decode cX2_countAll 29 = .ok (.iload 5, 2) := by decide +kernel
theorem dX2_countAll_31 : decode cX2_countAll 31 = .ok (.aload_n 1, 1) := by decide +kernel
theorem dX2_countAll_32 : decode cX2_countAll 32 = .ok (.iload 5, 2) := by decide +kernel
theorem dX2_countAll_34 : decode cX2_countAll 34 = .ok (.invokevirtual 35, 3) := by decide +kernel
theorem dX2_countAll_37 : decode cX2_countAll 37 = .ok (.iastore, 1) := by decide +kernel
theorem dX2_countAll_38 : decode cX2_countAll 38 = .ok (.aload_n 0, 1) := by decide +kernel
theorem dX2_countAll_39 : decode cX2_countAll 39 = .ok (.getfield 17, 3) := by decide +kernel
theorem dX2_countAll_42 : decode cX2_countAll 42 = .ok (.iload 5, 2) := by decide +kernel
theorem dX2_countAll_44 : decode cX2_countAll 44 = .ok (.aload_n 1, 1) := by decide +kernel
theorem dX2_countAll_45 : decode cX2_countAll 45 = .ok (.iload 5, 2) := by decide +kernel
theorem dX2_countAll_47 : decode cX2_countAll 47 = .ok (.invokevirtual 39, 3) := by decide +kernel
theorem dX2_countAll_50 : decode cX2_countAll 50 = .ok (.iastore, 1) := by decide +kernel
theorem dX2_countAll_51 : decode cX2_countAll 51 = .ok (.aload_n 0, 1) := by decide +kernel
theorem dX2_countAll_52 : decode cX2_countAll 52 = .ok (.getfield 20, 3) := by decide +kernel
theorem dX2_countAll_55 : decode cX2_countAll 55 = .ok (.iload 5, 2) := by decide +kernel
theorem dX2_countAll_57 : decode cX2_countAll 57 = .ok (.iload_n 3, 1) := by decide +kernel
theorem dX2_countAll_58 : decode cX2_countAll 58 = .ok (.i2l, 1) := by decide +kernel
theorem dX2_countAll_59 : decode cX2_countAll 59 = .ok (.aload_n 1, 1) := by decide +kernel
theorem dX2_countAll_60 : decode cX2_countAll 60 = .ok (.iload_n 2, 1) := by decide +kernel
theorem dX2_countAll_61 : decode cX2_countAll 61 = .ok (.iload 5, 2) := by decide +kernel
theorem dX2_countAll_63 : decode cX2_countAll 63 = .ok (.invokevirtual 42, 3) := by decide +kernel
theorem dX2_countAll_66 : decode cX2_countAll 66 = .ok (.i2l, 1) := by decide +kernel
theorem dX2_countAll_67 : decode cX2_countAll 67 = .ok (.lmul, 1) := by decide +kernel
theorem dX2_countAll_68 : decode cX2_countAll 68 = .ok (.iload 4, 2) := by decide +kernel
theorem dX2_countAll_70 : decode cX2_countAll 70 = .ok (.i2l, 1) := by decide +kernel
theorem dX2_countAll_71 : decode cX2_countAll 71 = .ok (.lsub, 1) := by decide +kernel
theorem dX2_countAll_72 : decode cX2_countAll 72 = .ok (.lastore, 1) := by decide +kernel
theorem dX2_countAll_73 : decode cX2_countAll 73 = .ok (.iinc 5 1, 3) := by decide +kernel
theorem dX2_countAll_76 : decode cX2_countAll 76 = .ok (.goto (-60), 3) := by decide +kernel
theorem dX2_countAll_79 : decode cX2_countAll 79 = .ok (.aload_n 0, 1) := by decide +kernel
theorem dX2_countAll_80 : decode cX2_countAll 80 = .ok (.invokevirtual 45, 3) := by decide +kernel
theorem dX2_countAll_83 : decode cX2_countAll 83 = .ok (.aload_n 0, 1) := by decide +kernel
theorem dX2_countAll_84 : decode cX2_countAll 84 = .ok (.aload_n 0, 1) := by decide +kernel
theorem dX2_countAll_85 : decode cX2_countAll 85 = .ok (.getfield 48, 3) := by decide +kernel
theorem dX2_countAll_88 : decode cX2_countAll 88 = .ok (.invokevirtual 52, 3) := by decide +kernel
theorem dX2_countAll_91 : decode cX2_countAll 91 = .ok (.lreturn, 1) := by decide +kernel
theorem dX2_columnOf_0 : decode cX2_columnOf 0 = .ok (.aload_n 0, 1) := by decide +kernel
theorem dX2_columnOf_1 : decode cX2_columnOf 1 = .ok (.getfield 56, 3) := by decide +kernel
theorem dX2_columnOf_4 : decode cX2_columnOf 4 = .ok (.lstore_n 3, 1) := by decide +kernel
theorem dX2_columnOf_5 : decode cX2_columnOf 5 = .ok (.aload_n 0, 1) := by decide +kernel
theorem dX2_columnOf_6 : decode cX2_columnOf 6 = .ok (.getfield 48, 3) := by decide +kernel
theorem dX2_columnOf_9 : decode cX2_columnOf 9 = .ok (.lstore 5, 2) := by decide +kernel
theorem dX2_columnOf_11 : decode cX2_columnOf 11 = .ok (.iconst 0, 1) := by decide +kernel
theorem dX2_columnOf_12 : decode cX2_columnOf 12 = .ok (.istore 7, 2) := by decide +kernel
theorem dX2_columnOf_14 : decode cX2_columnOf 14 = .ok (.iload 7, 2) := by decide +kernel
theorem dX2_columnOf_16 : decode cX2_columnOf 16 = .ok (.bipush 64, 2) := by decide +kernel
theorem dX2_columnOf_18 : decode cX2_columnOf 18 = .ok (.if_icmp .ge 51, 3) := by decide +kernel
theorem dX2_columnOf_21 : decode cX2_columnOf 21 = .ok (.lload_n 3, 1) := by decide +kernel
theorem dX2_columnOf_22 : decode cX2_columnOf 22 = .ok (.lload 5, 2) := by decide +kernel
theorem dX2_columnOf_24 : decode cX2_columnOf 24 = .ok (.lcmp, 1) := by decide +kernel
theorem dX2_columnOf_25 : decode cX2_columnOf 25 = .ok (.ifCond .ge 44, 3) := by decide +kernel
theorem dX2_columnOf_28 : decode cX2_columnOf 28 = .ok (.lload_n 3, 1) := by decide +kernel
theorem dX2_columnOf_29 : decode cX2_columnOf 29 = .ok (.lload 5, 2) := by decide +kernel
theorem dX2_columnOf_31 : decode cX2_columnOf 31 = .ok (.ladd, 1) := by decide +kernel
theorem dX2_columnOf_32 : decode cX2_columnOf 32 = .ok (.ldc2_w 59, 3) := by decide +kernel
theorem dX2_columnOf_35 : decode cX2_columnOf 35 = .ok (.invokestatic 61, 3) := by decide +kernel
theorem dX2_columnOf_38 : decode cX2_columnOf 38 = .ok (.lstore 8, 2) := by decide +kernel
theorem dX2_columnOf_40 : decode cX2_columnOf 40 = .ok (.aload_n 0, 1) := by decide +kernel
theorem dX2_columnOf_41 : decode cX2_columnOf 41 = .ok (.lload 8, 2) := by decide +kernel
theorem dX2_columnOf_43 : decode cX2_columnOf 43 = .ok (.invokevirtual 52, 3) := by decide +kernel
theorem dX2_columnOf_46 : decode cX2_columnOf 46 = .ok (.lload_n 1, 1) := by decide +kernel
theorem dX2_columnOf_47 : decode cX2_columnOf 47 = .ok (.lcmp, 1) := by decide +kernel
theorem dX2_columnOf_48 : decode cX2_columnOf 48 = .ok (.ifCond .le 10, 3) := by decide +kernel
theorem dX2_columnOf_51 : decode cX2_columnOf 51 = .ok (.lload 8, 2) := by decide +kernel
theorem dX2_columnOf_53 : decode cX2_columnOf 53 = .ok (.lstore 5, 2) := by decide +kernel
theorem dX2_columnOf_55 : decode cX2_columnOf 55 = .ok (.goto 8, 3) := by decide +kernel
theorem dX2_columnOf_58 : decode cX2_columnOf 58 = .ok (.lload 8, 2) := by decide +kernel
theorem dX2_columnOf_60 : decode cX2_columnOf 60 = .ok (.lconst 1, 1) := by decide +kernel
theorem dX2_columnOf_61 : decode cX2_columnOf 61 = .ok (.ladd, 1) := by decide +kernel
theorem dX2_columnOf_62 : decode cX2_columnOf 62 = .ok (.lstore_n 3, 1) := by decide +kernel
theorem dX2_columnOf_63 : decode cX2_columnOf 63 = .ok (.iinc 7 1, 3) := by decide +kernel
theorem dX2_columnOf_66 : decode cX2_columnOf 66 = .ok (.goto (-52), 3) := by decide +kernel
theorem dX2_columnOf_69 : decode cX2_columnOf 69 = .ok (.lload_n 3, 1) := by decide +kernel
theorem dX2_columnOf_70 : decode cX2_columnOf 70 = .ok (.lreturn, 1) := by decide +kernel
theorem dX2_heightOf_0 : decode cX2_heightOf 0 = .ok (.aload_n 0, 1) := by decide +kernel
theorem dX2_heightOf_1 : decode cX2_heightOf 1 = .ok (.iconst 1, 1) := by decide +kernel
theorem dX2_heightOf_2 : decode cX2_heightOf 2 = .ok (.lload_n 3, 1) := by decide +kernel
theorem dX2_heightOf_3 : decode cX2_heightOf 3 = .ok (.invokevirtual 65, 3) := by decide +kernel
theorem dX2_heightOf_6 : decode cX2_heightOf 6 = .ok (.istore 5, 2) := by decide +kernel
theorem dX2_heightOf_8 : decode cX2_heightOf 8 = .ok (.iload 5, 2) := by decide +kernel
theorem dX2_heightOf_10 : decode cX2_heightOf 10 = .ok (.iconst (-1), 1) := by decide +kernel
theorem dX2_heightOf_11 : decode cX2_heightOf 11 = .ok (.if_icmp .ne 5, 3) := by decide +kernel
theorem dX2_heightOf_14 : decode cX2_heightOf 14 = .ok (.lconst 0, 1) := by decide +kernel
theorem dX2_heightOf_15 : decode cX2_heightOf 15 = .ok (.lreturn, 1) := by decide +kernel
theorem dX2_heightOf_16 : decode cX2_heightOf 16 = .ok (.lload_n 1, 1) := by decide +kernel
theorem dX2_heightOf_17 : decode cX2_heightOf 17 = .ok (.aload_n 0, 1) := by decide +kernel
theorem dX2_heightOf_18 : decode cX2_heightOf 18 = .ok (.lload_n 3, 1) := by decide +kernel
theorem dX2_heightOf_19 : decode cX2_heightOf 19 = .ok (.lconst 1, 1) := by decide +kernel
theorem dX2_heightOf_20 : decode cX2_heightOf 20 = .ok (.lsub, 1) := by decide +kernel
theorem dX2_heightOf_21 : decode cX2_heightOf 21 = .ok (.invokevirtual 52, 3) := by decide +kernel
theorem dX2_heightOf_24 : decode cX2_heightOf 24 = .ok (.lsub, 1) := by decide +kernel
theorem dX2_heightOf_25 : decode cX2_heightOf 25 = .ok (.aload_n 0, 1) := by decide +kernel
theorem dX2_heightOf_26 : decode cX2_heightOf 26 = .ok (.iload 5, 2) := by decide +kernel
theorem dX2_heightOf_28 : decode cX2_heightOf 28 = .ok (.lload_n 3, 1) := by decide +kernel
theorem dX2_heightOf_29 : decode cX2_heightOf 29 = .ok (.invokevirtual 69, 3) := by decide +kernel
theorem dX2_heightOf_32 : decode cX2_heightOf 32 = .ok (.aload_n 0, 1) := by decide +kernel
theorem dX2_heightOf_33 : decode cX2_heightOf 33 = .ok (.getfield 17, 3) := by decide +kernel
theorem dX2_heightOf_36 : decode cX2_heightOf 36 = .ok (.iload 5, 2) := by decide +kernel
theorem dX2_heightOf_38 : decode cX2_heightOf 38 = .ok (.iaload, 1) := by decide +kernel
theorem dX2_heightOf_39 : decode cX2_heightOf 39 = .ok (.i2l, 1) := by decide +kernel
theorem dX2_heightOf_40 : decode cX2_heightOf 40 = .ok (.invokestatic 73, 3) := by decide +kernel
theorem dX2_heightOf_43 : decode cX2_heightOf 43 = .ok (.lsub, 1) := by decide +kernel
theorem dX2_heightOf_44 : decode cX2_heightOf 44 = .ok (.lreturn, 1) := by decide +kernel
theorem dX2_limitColumns_0 : decode cX2_limitColumns 0 = .ok (.aload_n 0, 1) := by decide +kernel
theorem dX2_limitColumns_1 : decode cX2_limitColumns 1 = .ok (.ldc2_w 78, 3) := by decide +kernel
theorem dX2_limitColumns_4 : decode cX2_limitColumns 4 = .ok (.putfield 56, 3) := by decide +kernel
theorem dX2_limitColumns_7 : decode cX2_limitColumns 7 = .ok (.aload_n 0, 1) := by decide +kernel
theorem dX2_limitColumns_8 : decode cX2_limitColumns 8 = .ok (.ldc2_w 80, 3) := by decide +kernel
theorem dX2_limitColumns_11 : decode cX2_limitColumns 11 = .ok (.putfield 48, 3) := by decide +kernel
theorem dX2_limitColumns_14 : decode cX2_limitColumns 14 = .ok (.iconst 0, 1) := by decide +kernel
theorem dX2_limitColumns_15 : decode cX2_limitColumns 15 = .ok (.istore_n 1, 1) := by decide +kernel
theorem dX2_limitColumns_16 : decode cX2_limitColumns 16 = .ok (.iload_n 1, 1) := by decide +kernel
theorem dX2_limitColumns_17 : decode cX2_limitColumns 17 = .ok (.aload_n 0, 1) := by decide +kernel
theorem dX2_limitColumns_18 : decode cX2_limitColumns 18 = .ok (.getfield 34, 3) := by decide +kernel
theorem dX2_limitColumns_21 : decode cX2_limitColumns 21 = .ok (.if_icmp .ge 133, 3) := by decide +kernel
theorem dX2_limitColumns_24 : decode cX2_limitColumns 24 = .ok (.aload_n 0, 1) := by decide +kernel
theorem dX2_limitColumns_25 : decode cX2_limitColumns 25 = .ok (.getfield 17, 3) := by decide +kernel
theorem dX2_limitColumns_28 : decode cX2_limitColumns 28 = .ok (.iload_n 1, 1) := by decide +kernel
theorem dX2_limitColumns_29 : decode cX2_limitColumns 29 = .ok (.iaload, 1) := by decide +kernel
theorem dX2_limitColumns_30 : decode cX2_limitColumns 30 = .ok (.ifCond .ne 20, 3) := by decide +kernel
theorem dX2_limitColumns_33 : decode cX2_limitColumns 33 = .ok (.aload_n 0, 1) := by decide +kernel
theorem dX2_limitColumns_34 : decode cX2_limitColumns 34 = .ok (.aload_n 0, 1) := by decide +kernel
theorem dX2_limitColumns_35 : decode cX2_limitColumns 35 = .ok (.getfield 11, 3) := by decide +kernel
theorem dX2_limitColumns_38 : decode cX2_limitColumns 38 = .ok (.iload_n 1, 1) := by decide +kernel
theorem dX2_limitColumns_39 : decode cX2_limitColumns 39 = .ok (.iaload, 1) := by decide +kernel
theorem dX2_limitColumns_40 : decode cX2_limitColumns 40 = .ok (.i2l, 1) := by decide +kernel
theorem dX2_limitColumns_41 : decode cX2_limitColumns 41 = .ok (.aload_n 0, 1) := by decide +kernel
theorem dX2_limitColumns_42 : decode cX2_limitColumns 42 = .ok (.getfield 20, 3) := by decide +kernel
theorem dX2_limitColumns_45 : decode cX2_limitColumns 45 = .ok (.iload_n 1, 1) := by decide +kernel
theorem dX2_limitColumns_46 : decode cX2_limitColumns 46 = .ok (.laload, 1) := by decide +kernel
theorem dX2_limitColumns_47 : decode cX2_limitColumns 47 = .ok (.invokevirtual 82, 3) := by decide +kernel
theorem dX2_limitColumns_50 : decode cX2_limitColumns 50 = .ok (.iconst 0, 1) := by decide +kernel
theorem dX2_limitColumns_51 : decode cX2_limitColumns 51 = .ok (.istore_n 2, 1) := by decide +kernel
theorem dX2_limitColumns_52 : decode cX2_limitColumns 52 = .ok (.iload_n 2, 1) := by decide +kernel
theorem dX2_limitColumns_53 : decode cX2_limitColumns 53 = .ok (.aload_n 0, 1) := by decide +kernel
theorem dX2_limitColumns_54 : decode cX2_limitColumns 54 = .ok (.getfield 34, 3) := by decide +kernel
theorem dX2_limitColumns_57 : decode cX2_limitColumns 57 = .ok (.if_icmp .ge 91, 3) := by decide +kernel
theorem dX2_limitColumns_60 : decode cX2_limitColumns 60 = .ok (.aload_n 0, 1) := by decide +kernel
theorem dX2_limitColumns_61 : decode cX2_limitColumns 61 = .ok (.getfield 17, 3) := by decide +kernel
theorem dX2_limitColumns_64 : decode cX2_limitColumns 64 = .ok (.iload_n 1, 1) := by decide +kernel
theorem dX2_limitColumns_65 : decode cX2_limitColumns 65 = .ok (.iaload, 1) := by decide +kernel
theorem dX2_limitColumns_66 : decode cX2_limitColumns 66 = .ok (.ifCond .le 82, 3) := by decide +kernel
theorem dX2_limitColumns_69 : decode cX2_limitColumns 69 = .ok (.aload_n 0, 1) := by decide +kernel
theorem dX2_limitColumns_70 : decode cX2_limitColumns 70 = .ok (.getfield 17, 3) := by decide +kernel
theorem dX2_limitColumns_73 : decode cX2_limitColumns 73 = .ok (.iload_n 2, 1) := by decide +kernel
theorem dX2_limitColumns_74 : decode cX2_limitColumns 74 = .ok (.iaload, 1) := by decide +kernel
theorem dX2_limitColumns_75 : decode cX2_limitColumns 75 = .ok (.ifCond .ge 67, 3) := by decide +kernel
theorem dX2_limitColumns_78 : decode cX2_limitColumns 78 = .ok (.aload_n 0, 1) := by decide +kernel
theorem dX2_limitColumns_79 : decode cX2_limitColumns 79 = .ok (.aload_n 0, 1) := by decide +kernel
theorem dX2_limitColumns_80 : decode cX2_limitColumns 80 = .ok (.getfield 11, 3) := by decide +kernel
theorem dX2_limitColumns_83 : decode cX2_limitColumns 83 = .ok (.iload_n 2, 1) := by decide +kernel
theorem dX2_limitColumns_84 : decode cX2_limitColumns 84 = .ok (.iaload, 1) := by decide +kernel
theorem dX2_limitColumns_85 : decode cX2_limitColumns 85 = .ok (.i2l, 1) := by decide +kernel
theorem dX2_limitColumns_86 : decode cX2_limitColumns 86 = .ok (.aload_n 0, 1) := by decide +kernel
theorem dX2_limitColumns_87 : decode cX2_limitColumns 87 = .ok (.getfield 17, 3) := by decide +kernel
theorem dX2_limitColumns_90 : decode cX2_limitColumns 90 = .ok (.iload_n 1, 1) := by decide +kernel
theorem dX2_limitColumns_91 : decode cX2_limitColumns 91 = .ok (.iaload, 1) := by decide +kernel
theorem dX2_limitColumns_92 : decode cX2_limitColumns 92 = .ok (.i2l, 1) := by decide +kernel
theorem dX2_limitColumns_93 : decode cX2_limitColumns 93 = .ok (.lmul, 1) := by decide +kernel
theorem dX2_limitColumns_94 : decode cX2_limitColumns 94 = .ok (.aload_n 0, 1) := by decide +kernel
theorem dX2_limitColumns_95 : decode cX2_limitColumns 95 = .ok (.getfield 11, 3) := by decide +kernel
theorem dX2_limitColumns_98 : decode cX2_limitColumns 98 = .ok (.iload_n 1, 1) := by decide +kernel
theorem dX2_limitColumns_99 : decode cX2_limitColumns 99 = .ok (.iaload, 1) := by decide +kernel
theorem dX2_limitColumns_100 : decode cX2_limitColumns 100 = .ok (.i2l, 1) := by decide +kernel
theorem dX2_limitColumns_101 : decode cX2_limitColumns 101 = .ok (.aload_n 0, 1) := by decide +kernel
theorem dX2_limitColumns_102 : decode cX2_limitColumns 102 = .ok (.getfield 17, 3) := by decide +kernel
theorem dX2_limitColumns_105 : decode cX2_limitColumns 105 = .ok (.iload_n 2, 1) := by decide +kernel
theorem dX2_limitColumns_106 : decode cX2_limitColumns 106 = .ok (.iaload, 1) := by decide +kernel
theorem dX2_limitColumns_107 : decode cX2_limitColumns 107 = .ok (.i2l, 1) := by decide +kernel
theorem dX2_limitColumns_108 : decode cX2_limitColumns 108 = .ok (.lmul, 1) := by decide +kernel
theorem dX2_limitColumns_109 : decode cX2_limitColumns 109 = .ok (.lsub, 1) := by decide +kernel
theorem dX2_limitColumns_110 : decode cX2_limitColumns 110 = .ok (.aload_n 0, 1) := by decide +kernel
theorem dX2_limitColumns_111 : decode cX2_limitColumns 111 = .ok (.getfield 20, 3) := by decide +kernel
theorem dX2_limitColumns_114 : decode cX2_limitColumns 114 = .ok (.iload_n 2, 1) := by decide +kernel
theorem dX2_limitColumns_115 : decode cX2_limitColumns 115 = .ok (.laload, 1) := by decide +kernel
theorem dX2_limitColumns_116 : decode cX2_limitColumns 116 = .ok (.aload_n 0, 1) := by decide +kernel
theorem dX2_limitColumns_117 : decode cX2_limitColumns 117 = .ok (.getfield 17, 3) := by decide +kernel
theorem dX2_limitColumns_120 : decode cX2_limitColumns 120 = .ok (.iload_n 1, 1) := by decide +kernel
theorem dX2_limitColumns_121 : decode cX2_limitColumns 121 = .ok (.iaload, 1) := by decide +kernel
theorem dX2_limitColumns_122 : decode cX2_limitColumns 122 = .ok (.i2l, 1) := by decide +kernel
theorem dX2_limitColumns_123 : decode cX2_limitColumns 123 = .ok (.lmul, 1) := by decide +kernel
theorem dX2_limitColumns_124 : decode cX2_limitColumns 124 = .ok (.aload_n 0, 1) := by decide +kernel
theorem dX2_limitColumns_125 : decode cX2_limitColumns 125 = .ok (.getfield 20, 3) := by decide +kernel
theorem dX2_limitColumns_128 : decode cX2_limitColumns 128 = .ok (.iload_n 1, 1) := by decide +kernel
theorem dX2_limitColumns_129 : decode cX2_limitColumns 129 = .ok (.laload, 1) := by decide +kernel
theorem dX2_limitColumns_130 : decode cX2_limitColumns 130 = .ok (.aload_n 0, 1) := by decide +kernel
theorem dX2_limitColumns_131 : decode cX2_limitColumns 131 = .ok (.getfield 17, 3) := by decide +kernel
theorem dX2_limitColumns_134 : decode cX2_limitColumns 134 = .ok (.iload_n 2, 1) := by decide +kernel
theorem dX2_limitColumns_135 : decode cX2_limitColumns 135 = .ok (.iaload, 1) := by decide +kernel
theorem dX2_limitColumns_136 : decode cX2_limitColumns 136 = .ok (.i2l, 1) := by decide +kernel
theorem dX2_limitColumns_137 : decode cX2_limitColumns 137 = .ok (.lmul, 1) := by decide +kernel
theorem dX2_limitColumns_138 : decode cX2_limitColumns 138 = .ok (.lsub, 1) := by decide +kernel
theorem dX2_limitColumns_139 : decode cX2_limitColumns 139 = .ok (.invokevirtual 82, 3) := by decide +kernel
theorem dX2_limitColumns_142 : decode cX2_limitColumns 142 = .ok (.iinc 2 1, 3) := by decide +kernel
theorem dX2_limitColumns_145 : decode cX2_limitColumns 145 = .ok (.goto (-93), 3) := by decide +kernel
theorem dX2_limitColumns_148 : decode cX2_limitColumns 148 = .ok (.iinc 1 1, 3) := by decide +kernel
theorem dX2_limitColumns_151 : decode cX2_limitColumns 151 = .ok (.goto (-135), 3) := by decide +kernel
theorem dX2_limitColumns_154 : decode cX2_limitColumns 154 = .ok (.return_, 1) := by decide +kernel
theorem dX2_limit_0 : decode cX2_limit 0 = .ok (.lload_n 1, 1) := by decide +kernel
theorem dX2_limit_1 : decode cX2_limit 1 = .ok (.lconst 0, 1) := by decide +kernel
theorem dX2_limit_2 : decode cX2_limit 2 = .ok (.lcmp, 1) := by decide +kernel
theorem dX2_limit_3 : decode cX2_limit 3 = .ok (.ifCond .le 23, 3) := by decide +kernel
theorem dX2_limit_6 : decode cX2_limit 6 = .ok (.aload_n 0, 1) := by decide +kernel
theorem dX2_limit_7 : decode cX2_limit 7 = .ok (.aload_n 0, 1) := by decide +kernel
theorem dX2_limit_8 : decode cX2_limit 8 = .ok (.getfield 56, 3) := by decide +kernel
theorem dX2_limit_11 : decode cX2_limit 11 = .ok (.lload_n 3, 1) := by decide +kernel
theorem dX2_limit_12 : decode cX2_limit 12 = .ok (.lload_n 1, 1) := by decide +kernel
theorem dX2_limit_13 : decode cX2_limit 13 = .ok (.invokestatic 73, 3) := by decide +kernel
theorem dX2_limit_16 : decode cX2_limit 16 = .ok (.lneg, 1) := by decide +kernel
theorem dX2_limit_17 : decode cX2_limit 17 = .ok (.invokestatic 86, 3) := by decide +kernel
theorem dX2_limit_20 : decode cX2_limit 20 = .ok (.putfield 56, 3) := by decide +kernel
theorem dX2_limit_23 : decode cX2_limit 23 = .ok (.goto 42, 3) := by decide +kernel
theorem dX2_limit_26 : decode cX2_limit 26 = .ok (.lload_n 1, 1) := by decide +kernel
theorem dX2_limit_27 : decode cX2_limit 27 = .ok (.lconst 0, 1) := by decide +kernel
theorem dX2_limit_28 : decode cX2_limit 28 = .ok (.lcmp, 1) := by decide +kernel
theorem dX2_limit_29 : decode cX2_limit 29 = .ok (.ifCond .ge 23, 3) := by decide +kernel
theorem dX2_limit_32 : decode cX2_limit 32 = .ok (.aload_n 0, 1) := by decide +kernel
theorem dX2_limit_33 : decode cX2_limit 33 = .ok (.aload_n 0, 1) := by decide +kernel
theorem dX2_limit_34 : decode cX2_limit 34 = .ok (.getfield 48, 3) := by decide +kernel
theorem dX2_limit_37 : decode cX2_limit 37 = .ok (.lload_n 3, 1) := by decide +kernel
theorem dX2_limit_38 : decode cX2_limit 38 = .ok (.lload_n 1, 1) := by decide +kernel
theorem dX2_limit_39 : decode cX2_limit 39 = .ok (.lneg, 1) := by decide +kernel
theorem dX2_limit_40 : decode cX2_limit 40 = .ok (.invokestatic 73, 3) := by decide +kernel
theorem dX2_limit_43 : decode cX2_limit 43 = .ok (.invokestatic 89, 3) := by decide +kernel
theorem dX2_limit_46 : decode cX2_limit 46 = .ok (.putfield 48, 3) := by decide +kernel
theorem dX2_limit_49 : decode cX2_limit 49 = .ok (.goto 16, 3) := by decide +kernel
theorem dX2_limit_52 : decode cX2_limit 52 = .ok (.lload_n 3, 1) := by decide +kernel
theorem dX2_limit_53 : decode cX2_limit 53 = .ok (.lconst 0, 1) := by decide +kernel
theorem dX2_limit_54 : decode cX2_limit 54 = .ok (.lcmp, 1) := by decide +kernel
theorem dX2_limit_55 : decode cX2_limit 55 = .ok (.ifCond .ge 10, 3) := by decide +kernel
theorem dX2_limit_58 : decode cX2_limit 58 = .ok (.aload_n 0, 1) := by decide +kernel
theorem dX2_limit_59 : decode cX2_limit 59 = .ok (.ldc2_w 91, 3) := by decide +kernel
theorem dX2_limit_62 : decode cX2_limit 62 = .ok (.putfield 48, 3) := by decide +kernel
theorem dX2_limit_65 : decode cX2_limit 65 = .ok (.return_, 1) := by decide +kernel
theorem dX2_countTo_0 : decode cX2_countTo 0 = .ok (.lload_n 1, 1) := by decide +kernel
theorem dX2_countTo_1 : decode cX2_countTo 1 = .ok (.aload_n 0, 1) := by decide +kernel
theorem dX2_countTo_2 : decode cX2_countTo 2 = .ok (.getfield 48, 3) := by decide +kernel
theorem dX2_countTo_5 : decode cX2_countTo 5 = .ok (.invokestatic 89, 3) := by decide +kernel
theorem dX2_countTo_8 : decode cX2_countTo 8 = .ok (.lstore_n 3, 1) := by decide +kernel
theorem dX2_countTo_9 : decode cX2_countTo 9 = .ok (.lload_n 3, 1) := by decide +kernel
theorem dX2_countTo_10 : decode cX2_countTo 10 = .ok (.aload_n 0, 1) := by decide +kernel
theorem dX2_countTo_11 : decode cX2_countTo 11 = .ok (.getfield 56, 3) := by decide +kernel
theorem dX2_countTo_14 : decode cX2_countTo 14 = .ok (.lcmp, 1) := by decide +kernel
theorem dX2_countTo_15 : decode cX2_countTo 15 = .ok (.ifCond .ge 5, 3) := by decide +kernel
theorem dX2_countTo_18 : decode cX2_countTo 18 = .ok (.lconst 0, 1) := by decide +kernel
theorem dX2_countTo_19 : decode cX2_countTo 19 = .ok (.lreturn, 1) := by decide +kernel
theorem dX2_countTo_20 : decode cX2_countTo 20 = .ok (.aload_n 0, 1) := by decide +kernel
theorem dX2_countTo_21 : decode cX2_countTo 21 = .ok (.iconst 1, 1) := by decide +kernel
theorem dX2_countTo_22 : decode cX2_countTo 22 = .ok (.lload_n 3, 1) := by decide +kernel
theorem dX2_countTo_23 : decode cX2_countTo 23 = .ok (.invokevirtual 93, 3) := by decide +kernel
theorem dX2_countTo_26 : decode cX2_countTo 26 = .ok (.aload_n 0, 1) := by decide +kernel
theorem dX2_countTo_27 : decode cX2_countTo 27 = .ok (.iconst (-1), 1) := by decide +kernel
theorem dX2_countTo_28 : decode cX2_countTo 28 = .ok (.lload_n 3, 1) := by decide +kernel
theorem dX2_countTo_29 : decode cX2_countTo 29 = .ok (.invokevirtual 93, 3) := by decide +kernel
theorem dX2_countTo_32 : decode cX2_countTo 32 = .ok (.ladd, 1) := by decide +kernel
theorem dX2_countTo_33 : decode cX2_countTo 33 = .ok (.lload_n 3, 1) := by decide +kernel
theorem dX2_countTo_34 : decode cX2_countTo 34 = .ok (.ladd, 1) := by decide +kernel
theorem dX2_countTo_35 : decode cX2_countTo 35 = .ok (.aload_n 0, 1) := by decide +kernel
theorem dX2_countTo_36 : decode cX2_countTo 36 = .ok (.getfield 56, 3) := by decide +kernel
theorem dX2_countTo_39 : decode cX2_countTo 39 = .ok (.lsub, 1) := by decide +kernel
theorem dX2_countTo_40 : decode cX2_countTo 40 = .ok (.lconst 1, 1) := by decide +kernel
theorem dX2_countTo_41 : decode cX2_countTo 41 = .ok (.ladd, 1) := by decide +kernel
theorem dX2_countTo_42 : decode cX2_countTo 42 = .ok (.lreturn, 1) := by decide +kernel
theorem dX2_sumOfSide_0 : decode cX2_sumOfSide 0 = .ok (.lconst 0, 1) := by decide +kernel
theorem dX2_sumOfSide_1 : decode cX2_sumOfSide 1 = .ok (.lstore 4, 2) := by decide +kernel
theorem dX2_sumOfSide_3 : decode cX2_sumOfSide 3 = .ok (.aload_n 0, 1) := by decide +kernel
theorem dX2_sumOfSide_4 : decode cX2_sumOfSide 4 = .ok (.getfield 56, 3) := by decide +kernel
theorem dX2_sumOfSide_7 : decode cX2_sumOfSide 7 = .ok (.lstore 6, 2) := by decide +kernel
theorem dX2_sumOfSide_9 : decode cX2_sumOfSide 9 = .ok (.iconst 0, 1) := by decide +kernel
theorem dX2_sumOfSide_10 : decode cX2_sumOfSide 10 = .ok (.istore 8, 2) := by decide +kernel
theorem dX2_sumOfSide_12 : decode cX2_sumOfSide 12 = .ok (.iload 8, 2) := by decide +kernel
theorem dX2_sumOfSide_14 : decode cX2_sumOfSide 14 = .ok (.bipush 24, 2) := by decide +kernel
theorem dX2_sumOfSide_16 : decode cX2_sumOfSide 16 = .ok (.if_icmp .ge 91, 3) := by decide +kernel
theorem dX2_sumOfSide_19 : decode cX2_sumOfSide 19 = .ok (.lload 6, 2) := by decide +kernel
theorem dX2_sumOfSide_21 : decode cX2_sumOfSide 21 = .ok (.lload_n 2, 1) := by decide +kernel
theorem dX2_sumOfSide_22 : decode cX2_sumOfSide 22 = .ok (.lcmp, 1) := by decide +kernel
theorem dX2_sumOfSide_23 : decode cX2_sumOfSide 23 = .ok (.ifCond .gt 84, 3) := by decide +kernel
theorem dX2_sumOfSide_26 : decode cX2_sumOfSide 26 = .ok (.aload_n 0, 1) := by decide +kernel
theorem dX2_sumOfSide_27 : decode cX2_sumOfSide 27 = .ok (.iload_n 1, 1) := by decide +kernel
theorem dX2_sumOfSide_28 : decode cX2_sumOfSide 28 = .ok (.lload 6, 2) := by decide +kernel
theorem dX2_sumOfSide_30 : decode cX2_sumOfSide 30 = .ok (.invokevirtual 65, 3) := by decide +kernel
theorem dX2_sumOfSide_33 : decode cX2_sumOfSide 33 = .ok (.istore 9, 2) := by decide +kernel
theorem dX2_sumOfSide_35 : decode cX2_sumOfSide 35 = .ok (.iload 9, 2) := by decide +kernel
theorem dX2_sumOfSide_37 : decode cX2_sumOfSide 37 = .ok (.iconst (-1), 1) := by decide +kernel
theorem dX2_sumOfSide_38 : decode cX2_sumOfSide 38 = .ok (.if_icmp .ne 6, 3) := by decide +kernel
theorem dX2_sumOfSide_41 : decode cX2_sumOfSide 41 = .ok (.lload 4, 2) := by decide +kernel
theorem dX2_sumOfSide_43 : decode cX2_sumOfSide 43 = .ok (.lreturn, 1) := by decide +kernel
theorem dX2_sumOfSide_44 : decode cX2_sumOfSide 44 = .ok (.aload_n 0, 1) := by decide +kernel
theorem dX2_sumOfSide_45 : decode cX2_sumOfSide 45 = .ok (.iload_n 1, 1) := by decide +kernel
theorem dX2_sumOfSide_46 : decode cX2_sumOfSide 46 = .ok (.iload 9, 2) := by decide +kernel
theorem dX2_sumOfSide_48 : decode cX2_sumOfSide 48 = .ok (.lload_n 2, 1) := by decide +kernel
theorem dX2_sumOfSide_49 : decode cX2_sumOfSide 49 = .ok (.invokevirtual 96, 3) := by decide +kernel
theorem dX2_sumOfSide_52 : decode cX2_sumOfSide 52 = .ok (.lstore 10, 2) := by decide +kernel
theorem dX2_sumOfSide_54 : decode cX2_sumOfSide 54 = .ok (.lload 4, 2) := by decide +kernel
theorem dX2_sumOfSide_56 : decode cX2_sumOfSide 56 = .ok (.lload 10, 2) := by decide +kernel
theorem dX2_sumOfSide_58 : decode cX2_sumOfSide 58 = .ok (.lload 6, 2) := by decide +kernel
theorem dX2_sumOfSide_60 : decode cX2_sumOfSide 60 = .ok (.lsub, 1) := by decide +kernel
theorem dX2_sumOfSide_61 : decode cX2_sumOfSide 61 = .ok (.lconst 1, 1) := by decide +kernel
theorem dX2_sumOfSide_62 : decode cX2_sumOfSide 62 = .ok (.ladd, 1) := by decide +kernel
theorem dX2_sumOfSide_63 : decode cX2_sumOfSide 63 = .ok (.aload_n 0, 1) := by decide +kernel
theorem dX2_sumOfSide_64 : decode cX2_sumOfSide 64 = .ok (.getfield 17, 3) := by decide +kernel
theorem dX2_sumOfSide_67 : decode cX2_sumOfSide 67 = .ok (.iload 9, 2) := by decide +kernel
theorem dX2_sumOfSide_69 : decode cX2_sumOfSide 69 = .ok (.iaload, 1) := by decide +kernel
theorem dX2_sumOfSide_70 : decode cX2_sumOfSide 70 = .ok (.iload_n 1, 1) := by decide +kernel
theorem dX2_sumOfSide_71 : decode cX2_sumOfSide 71 = .ok (.imul, 1) := by decide +kernel
theorem dX2_sumOfSide_72 : decode cX2_sumOfSide 72 = .ok (.i2l, 1) := by decide +kernel
theorem dX2_sumOfSide_73 : decode cX2_sumOfSide 73 = .ok (.aload_n 0, 1) := by decide +kernel
theorem dX2_sumOfSide_74 : decode cX2_sumOfSide 74 = .ok (.getfield 11, 3) := by decide +kernel
theorem dX2_sumOfSide_77 : decode cX2_sumOfSide 77 = .ok (.iload 9, 2) := by decide +kernel
theorem dX2_sumOfSide_79 : decode cX2_sumOfSide 79 = .ok (.iaload, 1) := by decide +kernel
theorem dX2_sumOfSide_80 : decode cX2_sumOfSide 80 = .ok (.i2l, 1) := by decide +kernel
theorem dX2_sumOfSide_81 : decode cX2_sumOfSide 81 = .ok (.aload_n 0, 1) := by decide +kernel
theorem dX2_sumOfSide_82 : decode cX2_sumOfSide 82 = .ok (.iload 9, 2) := by decide +kernel
theorem dX2_sumOfSide_84 : decode cX2_sumOfSide 84 = .ok (.lload 6, 2) := by decide +kernel
theorem dX2_sumOfSide_86 : decode cX2_sumOfSide 86 = .ok (.invokevirtual 69, 3) := by decide +kernel
theorem dX2_sumOfSide_89 : decode cX2_sumOfSide 89 = .ok (.invokestatic 100, 3) := by decide +kernel
theorem dX2_sumOfSide_92 : decode cX2_sumOfSide 92 = .ok (.ladd, 1) := by decide +kernel
theorem dX2_sumOfSide_93 : decode cX2_sumOfSide 93 = .ok (.lstore 4, 2) := by decide +kernel
theorem dX2_sumOfSide_95 : decode cX2_sumOfSide 95 = .ok (.lload 10, 2) := by decide +kernel
theorem dX2_sumOfSide_97 : decode cX2_sumOfSide 97 = .ok (.lconst 1, 1) := by decide +kernel
theorem dX2_sumOfSide_98 : decode cX2_sumOfSide 98 = .ok (.ladd, 1) := by decide +kernel
theorem dX2_sumOfSide_99 : decode cX2_sumOfSide 99 = .ok (.lstore 6, 2) := by decide +kernel
theorem dX2_sumOfSide_101 : decode cX2_sumOfSide 101 = .ok (.iinc 8 1, 3) := by decide +kernel
theorem dX2_sumOfSide_104 : decode cX2_sumOfSide 104 = .ok (.goto (-92), 3) := by decide +kernel
theorem dX2_sumOfSide_107 : decode cX2_sumOfSide 107 = .ok (.lload 4, 2) := by decide +kernel
theorem dX2_sumOfSide_109 : decode cX2_sumOfSide 109 = .ok (.lreturn, 1) := by decide +kernel
theorem dX2_topOf_0 : decode cX2_topOf 0 = .ok (.iload_n 1, 1) := by decide +kernel
theorem dX2_topOf_1 : decode cX2_topOf 1 = .ok (.ifCond .lt 28, 3) := by decide +kernel
theorem dX2_topOf_4 : decode cX2_topOf 4 = .ok (.iload_n 1, 1) := by decide +kernel
theorem dX2_topOf_5 : decode cX2_topOf 5 = .ok (.bipush 24, 2) := by decide +kernel
theorem dX2_topOf_7 : decode cX2_topOf 7 = .ok (.if_icmp .ge 22, 3) := by decide +kernel
theorem dX2_topOf_10 : decode cX2_topOf 10 = .ok (.aload_n 0, 1) := by decide +kernel
theorem dX2_topOf_11 : decode cX2_topOf 11 = .ok (.getfield 20, 3) := by decide +kernel
theorem dX2_topOf_14 : decode cX2_topOf 14 = .ok (.iload_n 1, 1) := by decide +kernel
theorem dX2_topOf_15 : decode cX2_topOf 15 = .ok (.laload, 1) := by decide +kernel
theorem dX2_topOf_16 : decode cX2_topOf 16 = .ok (.lload_n 2, 1) := by decide +kernel
theorem dX2_topOf_17 : decode cX2_topOf 17 = .ok (.aload_n 0, 1) := by decide +kernel
theorem dX2_topOf_18 : decode cX2_topOf 18 = .ok (.getfield 11, 3) := by decide +kernel
theorem dX2_topOf_21 : decode cX2_topOf 21 = .ok (.iload_n 1, 1) := by decide +kernel
theorem dX2_topOf_22 : decode cX2_topOf 22 = .ok (.iaload, 1) := by decide +kernel
theorem dX2_topOf_23 : decode cX2_topOf 23 = .ok (.i2l, 1) := by decide +kernel
theorem dX2_topOf_24 : decode cX2_topOf 24 = .ok (.lmul, 1) := by decide +kernel
theorem dX2_topOf_25 : decode cX2_topOf 25 = .ok (.ladd, 1) := by decide +kernel
theorem dX2_topOf_26 : decode cX2_topOf 26 = .ok (.goto 4, 3) := by decide +kernel
theorem dX2_topOf_29 : decode cX2_topOf 29 = .ok (.lconst 0, 1) := by decide +kernel
theorem dX2_topOf_30 : decode cX2_topOf 30 = .ok (.lreturn, 1) := by decide +kernel
theorem dX2_leastLine_0 : decode cX2_leastLine 0 = .ok (.iconst (-1), 1) := by decide +kernel
theorem dX2_leastLine_1 : decode cX2_leastLine 1 = .ok (.istore 4, 2) := by decide +kernel
theorem dX2_leastLine_3 : decode cX2_leastLine 3 = .ok (.iconst 0, 1) := by decide +kernel
theorem dX2_leastLine_4 : decode cX2_leastLine 4 = .ok (.istore 5, 2) := by decide +kernel
theorem dX2_leastLine_6 : decode cX2_leastLine 6 = .ok (.iload 5, 2) := by decide +kernel
theorem dX2_leastLine_8 : decode cX2_leastLine 8 = .ok (.aload_n 0, 1) := by decide +kernel
theorem dX2_leastLine_9 : decode cX2_leastLine 9 = .ok (.getfield 34, 3) := by decide +kernel
theorem dX2_leastLine_12 : decode cX2_leastLine 12 = .ok (.if_icmp .ge 44, 3) := by decide +kernel
theorem dX2_leastLine_15 : decode cX2_leastLine 15 = .ok (.aload_n 0, 1) := by decide +kernel
theorem dX2_leastLine_16 : decode cX2_leastLine 16 = .ok (.getfield 17, 3) := by decide +kernel
theorem dX2_leastLine_19 : decode cX2_leastLine 19 = .ok (.iload 5, 2) := by decide +kernel
theorem dX2_leastLine_21 : decode cX2_leastLine 21 = .ok (.iaload, 1) := by decide +kernel
theorem dX2_leastLine_22 : decode cX2_leastLine 22 = .ok (.iload_n 1, 1) := by decide +kernel
theorem dX2_leastLine_23 : decode cX2_leastLine 23 = .ok (.imul, 1) := by decide +kernel
theorem dX2_leastLine_24 : decode cX2_leastLine 24 = .ok (.ifCond .le 26, 3) := by decide +kernel
theorem dX2_leastLine_27 : decode cX2_leastLine 27 = .ok (.iload 4, 2) := by decide +kernel
theorem dX2_leastLine_29 : decode cX2_leastLine 29 = .ok (.iconst (-1), 1) := by decide +kernel
theorem dX2_leastLine_30 : decode cX2_leastLine 30 = .ok (.if_icmp .eq 16, 3) := by decide +kernel
theorem dX2_leastLine_33 : decode cX2_leastLine 33 = .ok (.aload_n 0, 1) := by decide +kernel
theorem dX2_leastLine_34 : decode cX2_leastLine 34 = .ok (.iload 5, 2) := by decide +kernel
theorem dX2_leastLine_36 : decode cX2_leastLine 36 = .ok (.iload 4, 2) := by decide +kernel
theorem dX2_leastLine_38 : decode cX2_leastLine 38 = .ok (.iload_n 1, 1) := by decide +kernel
theorem dX2_leastLine_39 : decode cX2_leastLine 39 = .ok (.lload_n 2, 1) := by decide +kernel
theorem dX2_leastLine_40 : decode cX2_leastLine 40 = .ok (.invokevirtual 104, 3) := by decide +kernel
theorem dX2_leastLine_43 : decode cX2_leastLine 43 = .ok (.ifCond .eq 7, 3) := by decide +kernel
theorem dX2_leastLine_46 : decode cX2_leastLine 46 = .ok (.iload 5, 2) := by decide +kernel
theorem dX2_leastLine_48 : decode cX2_leastLine 48 = .ok (.istore 4, 2) := by decide +kernel
theorem dX2_leastLine_50 : decode cX2_leastLine 50 = .ok (.iinc 5 1, 3) := by decide +kernel
theorem dX2_leastLine_53 : decode cX2_leastLine 53 = .ok (.goto (-47), 3) := by decide +kernel
theorem dX2_leastLine_56 : decode cX2_leastLine 56 = .ok (.iload 4, 2) := by decide +kernel
theorem dX2_leastLine_58 : decode cX2_leastLine 58 = .ok (.ireturn, 1) := by decide +kernel
theorem dX2_isLess_0 : decode cX2_isLess 0 = .ok (.iload_n 1, 1) := by decide +kernel
theorem dX2_isLess_1 : decode cX2_isLess 1 = .ok (.ifCond .lt 19, 3) := by decide +kernel
theorem dX2_isLess_4 : decode cX2_isLess 4 = .ok (.iload_n 2, 1) := by decide +kernel
theorem dX2_isLess_5 : decode cX2_isLess 5 = .ok (.ifCond .lt 15, 3) := by decide +kernel
theorem dX2_isLess_8 : decode cX2_isLess 8 = .ok (.iload_n 1, 1) := by decide +kernel
theorem dX2_isLess_9 : decode cX2_isLess 9 = .ok (.bipush 24, 2) := by decide +kernel
theorem dX2_isLess_11 : decode cX2_isLess 11 = .ok (.if_icmp .ge 9, 3) := by decide +kernel
theorem dX2_isLess_14 : decode cX2_isLess 14 = .ok (.iload_n 2, 1) := by decide +kernel
theorem dX2_isLess_15 : decode cX2_isLess 15 = .ok (.bipush 24, 2) := by decide +kernel
theorem dX2_isLess_17 : decode cX2_isLess 17 = .ok (.if_icmp .lt 5, 3) := by decide +kernel
theorem dX2_isLess_20 : decode cX2_isLess 20 = .ok (.iconst 0, 1) := by decide +kernel
theorem dX2_isLess_21 : decode cX2_isLess 21 = .ok (.ireturn, 1) := by decide +kernel
theorem dX2_isLess_22 : decode cX2_isLess 22 = .ok (.aload_n 0, 1) := by decide +kernel
theorem dX2_isLess_23 : decode cX2_isLess 23 = .ok (.iload_n 1, 1) := by decide +kernel
theorem dX2_isLess_24 : decode cX2_isLess 24 = .ok (.lload 4, 2) := by decide +kernel
theorem dX2_isLess_26 : decode cX2_isLess 26 = .ok (.invokevirtual 69, 3) := by decide +kernel
theorem dX2_isLess_29 : decode cX2_isLess 29 = .ok (.aload_n 0, 1) := by decide +kernel
theorem dX2_isLess_30 : decode cX2_isLess 30 = .ok (.getfield 17, 3) := by decide +kernel
theorem dX2_isLess_33 : decode cX2_isLess 33 = .ok (.iload_n 2, 1) := by decide +kernel
theorem dX2_isLess_34 : decode cX2_isLess 34 = .ok (.iaload, 1) := by decide +kernel
theorem dX2_isLess_35 : decode cX2_isLess 35 = .ok (.i2l, 1) := by decide +kernel
theorem dX2_isLess_36 : decode cX2_isLess 36 = .ok (.lmul, 1) := by decide +kernel
theorem dX2_isLess_37 : decode cX2_isLess 37 = .ok (.aload_n 0, 1) := by decide +kernel
theorem dX2_isLess_38 : decode cX2_isLess 38 = .ok (.iload_n 2, 1) := by decide +kernel
theorem dX2_isLess_39 : decode cX2_isLess 39 = .ok (.lload 4, 2) := by decide +kernel
theorem dX2_isLess_41 : decode cX2_isLess 41 = .ok (.invokevirtual 69, 3) := by decide +kernel
theorem dX2_isLess_44 : decode cX2_isLess 44 = .ok (.aload_n 0, 1) := by decide +kernel
theorem dX2_isLess_45 : decode cX2_isLess 45 = .ok (.getfield 17, 3) := by decide +kernel
theorem dX2_isLess_48 : decode cX2_isLess 48 = .ok (.iload_n 1, 1) := by decide +kernel
theorem dX2_isLess_49 : decode cX2_isLess 49 = .ok (.iaload, 1) := by decide +kernel
theorem dX2_isLess_50 : decode cX2_isLess 50 = .ok (.i2l, 1) := by decide +kernel
theorem dX2_isLess_51 : decode cX2_isLess 51 = .ok (.lmul, 1) := by decide +kernel
theorem dX2_isLess_52 : decode cX2_isLess 52 = .ok (.lsub, 1) := by decide +kernel
theorem dX2_isLess_53 : decode cX2_isLess 53 = .ok (.iload_n 3, 1) := by decide +kernel
theorem dX2_isLess_54 : decode cX2_isLess 54 = .ok (.i2l, 1) := by decide +kernel
theorem dX2_isLess_55 : decode cX2_isLess 55 = .ok (.lmul, 1) := by decide +kernel
theorem dX2_isLess_56 : decode cX2_isLess 56 = .ok (.lstore 6, 2) := by decide +kernel
theorem dX2_isLess_58 : decode cX2_isLess 58 = .ok (.lload 6, 2) := by decide +kernel
theorem dX2_isLess_60 : decode cX2_isLess 60 = .ok (.lconst 0, 1) := by decide +kernel
theorem dX2_isLess_61 : decode cX2_isLess 61 = .ok (.lcmp, 1) := by decide +kernel
theorem dX2_isLess_62 : decode cX2_isLess 62 = .ok (.ifCond .lt 22, 3) := by decide +kernel
theorem dX2_isLess_65 : decode cX2_isLess 65 = .ok (.lload 6, 2) := by decide +kernel
theorem dX2_isLess_67 : decode cX2_isLess 67 = .ok (.lconst 0, 1) := by decide +kernel
theorem dX2_isLess_68 : decode cX2_isLess 68 = .ok (.lcmp, 1) := by decide +kernel
theorem dX2_isLess_69 : decode cX2_isLess 69 = .ok (.ifCond .ne 19, 3) := by decide +kernel
theorem dX2_isLess_72 : decode cX2_isLess 72 = .ok (.aload_n 0, 1) := by decide +kernel
theorem dX2_isLess_73 : decode cX2_isLess 73 = .ok (.iload_n 1, 1) := by decide +kernel
theorem dX2_isLess_74 : decode cX2_isLess 74 = .ok (.iload_n 2, 1) := by decide +kernel
theorem dX2_isLess_75 : decode cX2_isLess 75 = .ok (.iload_n 3, 1) := by decide +kernel
theorem dX2_isLess_76 : decode cX2_isLess 76 = .ok (.invokevirtual 108, 3) := by decide +kernel
theorem dX2_isLess_79 : decode cX2_isLess 79 = .ok (.lconst 0, 1) := by decide +kernel
theorem dX2_isLess_80 : decode cX2_isLess 80 = .ok (.lcmp, 1) := by decide +kernel
theorem dX2_isLess_81 : decode cX2_isLess 81 = .ok (.ifCond .le 7, 3) := by decide +kernel
theorem dX2_isLess_84 : decode cX2_isLess 84 = .ok (.iconst 1, 1) := by decide +kernel
theorem dX2_isLess_85 : decode cX2_isLess 85 = .ok (.goto 4, 3) := by decide +kernel
theorem dX2_isLess_88 : decode cX2_isLess 88 = .ok (.iconst 0, 1) := by decide +kernel
theorem dX2_isLess_89 : decode cX2_isLess 89 = .ok (.ireturn, 1) := by decide +kernel
theorem dX2_fall_0 : decode cX2_fall 0 = .ok (.iload_n 1, 1) := by decide +kernel
theorem dX2_fall_1 : decode cX2_fall 1 = .ok (.ifCond .lt 19, 3) := by decide +kernel
theorem dX2_fall_4 : decode cX2_fall 4 = .ok (.iload_n 2, 1) := by decide +kernel
theorem dX2_fall_5 : decode cX2_fall 5 = .ok (.ifCond .lt 15, 3) := by decide +kernel
theorem dX2_fall_8 : decode cX2_fall 8 = .ok (.iload_n 1, 1) := by decide +kernel
theorem dX2_fall_9 : decode cX2_fall 9 = .ok (.bipush 24, 2) := by decide +kernel
theorem dX2_fall_11 : decode cX2_fall 11 = .ok (.if_icmp .ge 9, 3) := by decide +kernel
theorem dX2_fall_14 : decode cX2_fall 14 = .ok (.iload_n 2, 1) := by decide +kernel
theorem dX2_fall_15 : decode cX2_fall 15 = .ok (.bipush 24, 2) := by decide +kernel
theorem dX2_fall_17 : decode cX2_fall 17 = .ok (.if_icmp .lt 5, 3) := by decide +kernel
theorem dX2_fall_20 : decode cX2_fall 20 = .ok (.lconst 0, 1) := by decide +kernel
theorem dX2_fall_21 : decode cX2_fall 21 = .ok (.lreturn, 1) := by decide +kernel
theorem dX2_fall_22 : decode cX2_fall 22 = .ok (.aload_n 0, 1) := by decide +kernel
theorem dX2_fall_23 : decode cX2_fall 23 = .ok (.getfield 11, 3) := by decide +kernel
theorem dX2_fall_26 : decode cX2_fall 26 = .ok (.iload_n 2, 1) := by decide +kernel
theorem dX2_fall_27 : decode cX2_fall 27 = .ok (.iaload, 1) := by decide +kernel
theorem dX2_fall_28 : decode cX2_fall 28 = .ok (.i2l, 1) := by decide +kernel
theorem dX2_fall_29 : decode cX2_fall 29 = .ok (.aload_n 0, 1) := by decide +kernel
theorem dX2_fall_30 : decode cX2_fall 30 = .ok (.getfield 17, 3) := by decide +kernel
theorem dX2_fall_33 : decode cX2_fall 33 = .ok (.iload_n 1, 1) := by decide +kernel
theorem dX2_fall_34 : decode cX2_fall 34 = .ok (.iaload, 1) := by decide +kernel
theorem dX2_fall_35 : decode cX2_fall 35 = .ok (.i2l, 1) := by decide +kernel
theorem dX2_fall_36 : decode cX2_fall 36 = .ok (.lmul, 1) := by decide +kernel
theorem dX2_fall_37 : decode cX2_fall 37 = .ok (.aload_n 0, 1) := by decide +kernel
theorem dX2_fall_38 : decode cX2_fall 38 = .ok (.getfield 11, 3) := by decide +kernel
theorem dX2_fall_41 : decode cX2_fall 41 = .ok (.iload_n 1, 1) := by decide +kernel
theorem dX2_fall_42 : decode cX2_fall 42 = .ok (.iaload, 1) := by decide +kernel
theorem dX2_fall_43 : decode cX2_fall 43 = .ok (.i2l, 1) := by decide +kernel
theorem dX2_fall_44 : decode cX2_fall 44 = .ok (.aload_n 0, 1) := by decide +kernel
theorem dX2_fall_45 : decode cX2_fall 45 = .ok (.getfield 17, 3) := by decide +kernel
theorem dX2_fall_48 : decode cX2_fall 48 = .ok (.iload_n 2, 1) := by decide +kernel
theorem dX2_fall_49 : decode cX2_fall 49 = .ok (.iaload, 1) := by decide +kernel
theorem dX2_fall_50 : decode cX2_fall 50 = .ok (.i2l, 1) := by decide +kernel
theorem dX2_fall_51 : decode cX2_fall 51 = .ok (.lmul, 1) := by decide +kernel
theorem dX2_fall_52 : decode cX2_fall 52 = .ok (.lsub, 1) := by decide +kernel
theorem dX2_fall_53 : decode cX2_fall 53 = .ok (.iload_n 3, 1) := by decide +kernel
theorem dX2_fall_54 : decode cX2_fall 54 = .ok (.i2l, 1) := by decide +kernel
theorem dX2_fall_55 : decode cX2_fall 55 = .ok (.lmul, 1) := by decide +kernel
theorem dX2_fall_56 : decode cX2_fall 56 = .ok (.lreturn, 1) := by decide +kernel
theorem dX2_endOfRun_0 : decode cX2_endOfRun 0 = .ok (.iload_n 2, 1) := by decide +kernel
theorem dX2_endOfRun_1 : decode cX2_endOfRun 1 = .ok (.ifCond .lt 9, 3) := by decide +kernel
theorem dX2_endOfRun_4 : decode cX2_endOfRun 4 = .ok (.iload_n 2, 1) := by decide +kernel
theorem dX2_endOfRun_5 : decode cX2_endOfRun 5 = .ok (.bipush 24, 2) := by decide +kernel
theorem dX2_endOfRun_7 : decode cX2_endOfRun 7 = .ok (.if_icmp .lt 5, 3) := by decide +kernel
theorem dX2_endOfRun_10 : decode cX2_endOfRun 10 = .ok (.lload_n 3, 1) := by decide +kernel
theorem dX2_endOfRun_11 : decode cX2_endOfRun 11 = .ok (.lreturn, 1) := by decide +kernel
theorem dX2_endOfRun_12 : decode cX2_endOfRun 12 = .ok (.lload_n 3, 1) := by decide +kernel
theorem dX2_endOfRun_13 : decode cX2_endOfRun 13 = .ok (.lstore 5, 2) := by decide +kernel
theorem dX2_endOfRun_15 : decode cX2_endOfRun 15 = .ok (.iconst 0, 1) := by decide +kernel
theorem dX2_endOfRun_16 : decode cX2_endOfRun 16 = .ok (.istore 7, 2) := by decide +kernel
theorem dX2_endOfRun_18 : decode cX2_endOfRun 18 = .ok (.iload 7, 2) := by decide +kernel
theorem dX2_endOfRun_20 : decode cX2_endOfRun 20 = .ok (.aload_n 0, 1) := by decide +kernel
theorem dX2_endOfRun_21 : decode cX2_endOfRun 21 = .ok (.getfield 34, 3) := by decide +kernel
theorem dX2_endOfRun_24 : decode cX2_endOfRun 24 = .ok (.if_icmp .ge 92, 3) := by decide +kernel
theorem dX2_endOfRun_27 : decode cX2_endOfRun 27 = .ok (.aload_n 0, 1) := by decide +kernel
theorem dX2_endOfRun_28 : decode cX2_endOfRun 28 = .ok (.getfield 17, 3) := by decide +kernel
theorem dX2_endOfRun_31 : decode cX2_endOfRun 31 = .ok (.iload 7, 2) := by decide +kernel
theorem dX2_endOfRun_33 : decode cX2_endOfRun 33 = .ok (.iaload, 1) := by decide +kernel
theorem dX2_endOfRun_34 : decode cX2_endOfRun 34 = .ok (.iload_n 1, 1) := by decide +kernel
theorem dX2_endOfRun_35 : decode cX2_endOfRun 35 = .ok (.imul, 1) := by decide +kernel
theorem dX2_endOfRun_36 : decode cX2_endOfRun 36 = .ok (.ifCond .le 14, 3) := by decide +kernel
theorem dX2_endOfRun_39 : decode cX2_endOfRun 39 = .ok (.aload_n 0, 1) := by decide +kernel
theorem dX2_endOfRun_40 : decode cX2_endOfRun 40 = .ok (.iload 7, 2) := by decide +kernel
theorem dX2_endOfRun_42 : decode cX2_endOfRun 42 = .ok (.iload_n 2, 1) := by decide +kernel
theorem dX2_endOfRun_43 : decode cX2_endOfRun 43 = .ok (.iload_n 1, 1) := by decide +kernel
theorem dX2_endOfRun_44 : decode cX2_endOfRun 44 = .ok (.invokevirtual 108, 3) := by decide +kernel
theorem dX2_endOfRun_47 : decode cX2_endOfRun 47 = .ok (.goto 4, 3) := by decide +kernel
theorem dX2_endOfRun_50 : decode cX2_endOfRun 50 = .ok (.lconst 0, 1) := by decide +kernel
theorem dX2_endOfRun_51 : decode cX2_endOfRun 51 = .ok (.lstore 8, 2) := by decide +kernel
theorem dX2_endOfRun_53 : decode cX2_endOfRun 53 = .ok (.lload 8, 2) := by decide +kernel
theorem dX2_endOfRun_55 : decode cX2_endOfRun 55 = .ok (.lconst 0, 1) := by decide +kernel
theorem dX2_endOfRun_56 : decode cX2_endOfRun 56 = .ok (.lcmp, 1) := by decide +kernel
theorem dX2_endOfRun_57 : decode cX2_endOfRun 57 = .ok (.ifCond .le 53, 3) := by decide +kernel
theorem dX2_endOfRun_60 : decode cX2_endOfRun 60 = .ok (.aload_n 0, 1) := by decide +kernel
theorem dX2_endOfRun_61 : decode cX2_endOfRun 61 = .ok (.getfield 20, 3) := by decide +kernel
theorem dX2_endOfRun_64 : decode cX2_endOfRun 64 = .ok (.iload 7, 2) := by decide +kernel
theorem dX2_endOfRun_66 : decode cX2_endOfRun 66 = .ok (.laload, 1) := by decide +kernel
theorem dX2_endOfRun_67 : decode cX2_endOfRun 67 = .ok (.aload_n 0, 1) := by decide +kernel
theorem dX2_endOfRun_68 : decode cX2_endOfRun 68 = .ok (.getfield 17, 3) := by decide +kernel
theorem dX2_endOfRun_71 : decode cX2_endOfRun 71 = .ok (.iload_n 2, 1) := by decide +kernel
theorem dX2_endOfRun_72 : decode cX2_endOfRun 72 = .ok (.iaload, 1) := by decide +kernel
theorem dX2_endOfRun_73 : decode cX2_endOfRun 73 = .ok (.i2l, 1) := by decide +kernel
theorem dX2_endOfRun_74 : decode cX2_endOfRun 74 = .ok (.lmul, 1) := by decide +kernel
theorem dX2_endOfRun_75 : decode cX2_endOfRun 75 = .ok (.aload_n 0, 1) := by decide +kernel
theorem dX2_endOfRun_76 : decode cX2_endOfRun 76 = .ok (.getfield 20, 3) := by decide +kernel
theorem dX2_endOfRun_79 : decode cX2_endOfRun 79 = .ok (.iload_n 2, 1) := by decide +kernel
theorem dX2_endOfRun_80 : decode cX2_endOfRun 80 = .ok (.laload, 1) := by decide +kernel
theorem dX2_endOfRun_81 : decode cX2_endOfRun 81 = .ok (.aload_n 0, 1) := by decide +kernel
theorem dX2_endOfRun_82 : decode cX2_endOfRun 82 = .ok (.getfield 17, 3) := by decide +kernel
theorem dX2_endOfRun_85 : decode cX2_endOfRun 85 = .ok (.iload 7, 2) := by decide +kernel
theorem dX2_endOfRun_87 : decode cX2_endOfRun 87 = .ok (.iaload, 1) := by decide +kernel
theorem dX2_endOfRun_88 : decode cX2_endOfRun 88 = .ok (.i2l, 1) := by decide +kernel
theorem dX2_endOfRun_89 : decode cX2_endOfRun 89 = .ok (.lmul, 1) := by decide +kernel
theorem dX2_endOfRun_90 : decode cX2_endOfRun 90 = .ok (.lsub, 1) := by decide +kernel
theorem dX2_endOfRun_91 : decode cX2_endOfRun 91 = .ok (.iload_n 1, 1) := by decide +kernel
theorem dX2_endOfRun_92 : decode cX2_endOfRun 92 = .ok (.i2l, 1) := by decide +kernel
theorem dX2_endOfRun_93 : decode cX2_endOfRun 93 = .ok (.lmul, 1) := by decide +kernel
theorem dX2_endOfRun_94 : decode cX2_endOfRun 94 = .ok (.lstore 10, 2) := by decide +kernel
theorem dX2_endOfRun_96 : decode cX2_endOfRun 96 = .ok (.lload 5, 2) := by decide +kernel
theorem dX2_endOfRun_98 : decode cX2_endOfRun 98 = .ok (.lload 10, 2) := by decide +kernel
theorem dX2_endOfRun_100 : decode cX2_endOfRun 100 = .ok (.lload 8, 2) := by decide +kernel
theorem dX2_endOfRun_102 : decode cX2_endOfRun 102 = .ok (.invokestatic 73, 3) := by decide +kernel
theorem dX2_endOfRun_105 : decode cX2_endOfRun 105 = .ok (.invokestatic 89, 3) := by decide +kernel
theorem dX2_endOfRun_108 : decode cX2_endOfRun 108 = .ok (.lstore 5, 2) := by decide +kernel
theorem dX2_endOfRun_110 : decode cX2_endOfRun 110 = .ok (.iinc 7 1, 3) := by decide +kernel
theorem dX2_endOfRun_113 : decode cX2_endOfRun 113 = .ok (.goto (-95), 3) := by decide +kernel
theorem dX2_endOfRun_116 : decode cX2_endOfRun 116 = .ok (.lload 5, 2) := by decide +kernel
theorem dX2_endOfRun_118 : decode cX2_endOfRun 118 = .ok (.lreturn, 1) := by decide +kernel
theorem dX3_init_0 : decode cX3_init 0 = .ok (.aload_n 0, 1) := by decide +kernel
theorem dX3_init_1 : decode cX3_init 1 = .ok (.invokespecial 3, 3) := by decide +kernel
theorem dX3_init_4 : decode cX3_init 4 = .ok (.aload_n 0, 1) := by decide +kernel
theorem dX3_init_5 : decode cX3_init 5 = .ok (.bipush 12, 2) := by decide +kernel
theorem dX3_init_7 : decode cX3_init 7 = .ok (.newarray .int, 2) := by decide +kernel
theorem dX3_init_9 : decode cX3_init 9 = .ok (.putfield 11, 3) := by decide +kernel
theorem dX3_init_12 : decode cX3_init 12 = .ok (.aload_n 0, 1) := by decide +kernel
theorem dX3_init_13 : decode cX3_init 13 = .ok (.bipush 12, 2) := by decide +kernel
theorem dX3_init_15 : decode cX3_init 15 = .ok (.newarray .int, 2) := by decide +kernel
theorem dX3_init_17 : decode cX3_init 17 = .ok (.putfield 15, 3) := by decide +kernel
theorem dX3_init_20 : decode cX3_init 20 = .ok (.aload_n 0, 1) := by decide +kernel
theorem dX3_init_21 : decode cX3_init 21 = .ok (.bipush 6, 2) := by decide +kernel
theorem dX3_init_23 : decode cX3_init 23 = .ok (.newarray .int, 2) := by decide +kernel
theorem dX3_init_25 : decode cX3_init 25 = .ok (.putfield 20, 3) := by decide +kernel
theorem dX3_init_28 : decode cX3_init 28 = .ok (.aload_n 0, 1) := by decide +kernel
theorem dX3_init_29 : decode cX3_init 29 = .ok (.bipush 72, 2) := by decide +kernel
theorem dX3_init_31 : decode cX3_init 31 = .ok (.newarray .int, 2) := by decide +kernel
theorem dX3_init_33 : decode cX3_init 33 = .ok (.putfield 23, 3) := by decide +kernel
theorem dX3_init_36 : decode cX3_init 36 = .ok (.aload_n 0, 1) := by decide +kernel
theorem dX3_init_37 : decode cX3_init 37 = .ok (.sipush 500, 3) := by decide +kernel
theorem dX3_init_40 : decode cX3_init 40 = .ok (.newarray .byte, 2) := by decide +kernel
theorem dX3_init_42 : decode cX3_init 42 = .ok (.putfield 26, 3) := by decide +kernel
theorem dX3_init_45 : decode cX3_init 45 = .ok (.aload_n 0, 1) := by decide +kernel
theorem dX3_init_46 : decode cX3_init 46 = .ok (.bipush 12, 2) := by decide +kernel
theorem dX3_init_48 : decode cX3_init 48 = .ok (.newarray .int, 2) := by decide +kernel
theorem dX3_init_50 : decode cX3_init 50 = .ok (.putfield 30, 3) := by decide +kernel
theorem dX3_init_53 : decode cX3_init 53 = .ok (.return_, 1) := by decide +kernel
theorem dX3_lengthOf_0 : decode cX3_lengthOf 0 = .ok (.iconst 0, 1) := by decide +kernel
theorem dX3_lengthOf_1 : decode cX3_lengthOf 1 = .ok (.istore_n 1, 1) := by decide +kernel
theorem dX3_lengthOf_2 : decode cX3_lengthOf 2 = .ok (.iload_n 1, 1) := by decide +kernel
theorem dX3_lengthOf_3 : decode cX3_lengthOf 3 = .ok (.bipush 6, 2) := by decide +kernel
theorem dX3_lengthOf_5 : decode cX3_lengthOf 5 = .ok (.if_icmp .ge 17, 3) := by decide +kernel
theorem dX3_lengthOf_8 : decode cX3_lengthOf 8 = .ok (.iload_n 0, 1) := by decide +kernel
theorem dX3_lengthOf_9 : decode cX3_lengthOf 9 = .ok (.iconst 5, 1) := by decide +kernel
theorem dX3_lengthOf_10 : decode cX3_lengthOf 10 = .ok (.iload_n 1, 1) := by decide +kernel
theorem dX3_lengthOf_11 : decode cX3_lengthOf 11 = .ok (.imul, 1) := by decide +kernel
theorem dX3_lengthOf_12 : decode cX3_lengthOf 12 = .ok (.iushr, 1) := by decide +kernel
theorem dX3_lengthOf_13 : decode cX3_lengthOf 13 = .ok (.ifCond .eq 9, 3) := by decide +kernel
theorem dX3_lengthOf_16 : decode cX3_lengthOf 16 = .ok (.iinc 1 1, 3) := by decide +kernel
theorem dX3_lengthOf_19 : decode cX3_lengthOf 19 = .ok (.goto (-17), 3) := by decide +kernel
theorem dX3_lengthOf_22 : decode cX3_lengthOf 22 = .ok (.iload_n 1, 1) := by decide +kernel
theorem dX3_lengthOf_23 : decode cX3_lengthOf 23 = .ok (.ireturn, 1) := by decide +kernel
theorem dX3_letterOf_0 : decode cX3_letterOf 0 = .ok (.iload_n 0, 1) := by decide +kernel
theorem dX3_letterOf_1 : decode cX3_letterOf 1 = .ok (.iconst 5, 1) := by decide +kernel
theorem dX3_letterOf_2 : decode cX3_letterOf 2 = .ok (.iload_n 0, 1) := by decide +kernel
theorem dX3_letterOf_3 : decode cX3_letterOf 3 = .ok (.invokestatic 33, 3) := by decide +kernel
theorem dX3_letterOf_6 : decode cX3_letterOf 6 = .ok (.iconst 1, 1) := by decide +kernel
theorem dX3_letterOf_7 : decode cX3_letterOf 7 = .ok (.isub, 1) := by decide +kernel
theorem dX3_letterOf_8 : decode cX3_letterOf 8 = .ok (.iload_n 1, 1) := by decide +kernel
theorem dX3_letterOf_9 : decode cX3_letterOf 9 = .ok (.isub, 1) := by decide +kernel
theorem dX3_letterOf_10 : decode cX3_letterOf 10 = .ok (.imul, 1) := by decide +kernel
theorem dX3_letterOf_11 : decode cX3_letterOf 11 = .ok (.iushr, 1) := by decide +kernel
theorem dX3_letterOf_12 : decode cX3_letterOf 12 = .ok (.bipush 31, 2) := by decide +kernel
theorem dX3_letterOf_14 : decode cX3_letterOf 14 = .ok (.iand, 1) := by decide +kernel
theorem dX3_letterOf_15 : decode cX3_letterOf 15 = .ok (.iconst 1, 1) := by decide +kernel
theorem dX3_letterOf_16 : decode cX3_letterOf 16 = .ok (.isub, 1) := by decide +kernel
theorem dX3_letterOf_17 : decode cX3_letterOf 17 = .ok (.ireturn, 1) := by decide +kernel
theorem dX3_hasRoom_0 : decode cX3_hasRoom 0 = .ok (.aload_n 0, 1) := by decide +kernel
theorem dX3_hasRoom_1 : decode cX3_hasRoom 1 = .ok (.getfield 37, 3) := by decide +kernel
theorem dX3_hasRoom_4 : decode cX3_hasRoom 4 = .ok (.bipush 20, 2) := by decide +kernel
theorem dX3_hasRoom_6 : decode cX3_hasRoom 6 = .ok (.iadd, 1) := by decide +kernel
theorem dX3_hasRoom_7 : decode cX3_hasRoom 7 = .ok (.sipush 500, 3) := by decide +kernel
theorem dX3_hasRoom_10 : decode cX3_hasRoom 10 = .ok (.if_icmp .gt 7, 3) := by decide +kernel
theorem dX3_hasRoom_13 : decode cX3_hasRoom 13 = .ok (.iconst 1, 1) := by decide +kernel
theorem dX3_hasRoom_14 : decode cX3_hasRoom 14 = .ok (.goto 4, 3) := by decide +kernel
theorem dX3_hasRoom_17 : decode cX3_hasRoom 17 = .ok (.iconst 0, 1) := by decide +kernel
theorem dX3_hasRoom_18 : decode cX3_hasRoom 18 = .ok (.ireturn, 1) := by decide +kernel
theorem dX3_append_0 : decode cX3_append 0 = .ok (.bipush 24, 2) := by decide +kernel
theorem dX3_append_2 : decode cX3_append 2 = .ok (.istore_n 2, 1) := by decide +kernel
theorem dX3_append_3 : decode cX3_append 3 = .ok (.iload_n 2, 1) := by decide +kernel
theorem dX3_append_4 : decode cX3_append 4 = .ok (.ifCond .lt 44, 3) := by decide +kernel
theorem dX3_append_7 : decode cX3_append 7 = .ok (.aload_n 0, 1) := by decide +kernel
theorem dX3_append_8 : decode cX3_append 8 = .ok (.getfield 37, 3) := by decide +kernel
theorem dX3_append_11 : decode cX3_append 11 = .ok (.aload_n 0, 1) := by decide +kernel
theorem dX3_append_12 : decode cX3_append 12 = .ok (.getfield 26, 3) := by decide +kernel
theorem dX3_append_15 : decode cX3_append 15 = .ok (.arraylength, 1) := by decide +kernel
theorem dX3_append_16 : decode cX3_append 16 = .ok (.if_icmp .ge 32, 3) := by decide +kernel
theorem dX3_append_19 : decode cX3_append 19 = .ok (.aload_n 0, 1) := by decide +kernel
theorem dX3_append_20 : decode cX3_append 20 = .ok (.getfield 26, 3) := by decide +kernel
theorem dX3_append_23 : decode cX3_append 23 = .ok (.aload_n 0, 1) := by decide +kernel
theorem dX3_append_24 : decode cX3_append 24 = .ok (.getfield 37, 3) := by decide +kernel
theorem dX3_append_27 : decode cX3_append 27 = .ok (.iload_n 1, 1) := by decide +kernel
theorem dX3_append_28 : decode cX3_append 28 = .ok (.iload_n 2, 1) := by decide +kernel
theorem dX3_append_29 : decode cX3_append 29 = .ok (.iushr, 1) := by decide +kernel
theorem dX3_append_30 : decode cX3_append 30 = .ok (.i2b, 1) := by decide +kernel
theorem dX3_append_31 : decode cX3_append 31 = .ok (.bastore, 1) := by decide +kernel
theorem dX3_append_32 : decode cX3_append 32 = .ok (.aload_n 0, 1) := by decide +kernel
theorem dX3_append_33 : decode cX3_append 33 = .ok (.dup, 1) := by decide +kernel
theorem dX3_append_34 : decode cX3_append 34 = .ok (.getfield 37, 3) := by decide +kernel
theorem dX3_append_37 : decode cX3_append 37 = .ok (.iconst 1, 1) := by decide +kernel
theorem dX3_append_38 : decode cX3_append 38 = .ok (.iadd, 1) := by decide +kernel
theorem dX3_append_39 : decode cX3_append 39 = .ok (.putfield 37, 3) := by decide +kernel
theorem dX3_append_42 : decode cX3_append 42 = .ok (.iinc 2 (-8), 3) := by decide +kernel
theorem dX3_append_45 : decode cX3_append 45 = .ok (.goto (-42), 3) := by decide +kernel
theorem dX3_append_48 : decode cX3_append 48 = .ok (.return_, 1) := by decide +kernel
theorem dX3_numberOf_0 : decode cX3_numberOf 0 = .ok (.iload_n 1, 1) := by decide +kernel
theorem dX3_numberOf_1 : decode cX3_numberOf 1 = .ok (.bipush 12, 2) := by decide +kernel
theorem dX3_numberOf_3 : decode cX3_numberOf 3 = .ok (.imul, 1) := by decide +kernel
theorem dX3_numberOf_4 : decode cX3_numberOf 4 = .ok (.iload_n 2, 1) := by decide +kernel
theorem dX3_numberOf_5 : decode cX3_numberOf 5 = .ok (.iadd, 1) := by decide +kernel
theorem dX3_numberOf_6 : decode cX3_numberOf 6 = .ok (.istore_n 3, 1) := by decide +kernel
theorem dX3_numberOf_7 : decode cX3_numberOf 7 = .ok (.iload_n 3, 1) := by decide +kernel
theorem dX3_numberOf_8 : decode cX3_numberOf 8 = .ok (.ifCond .lt 21, 3) := by decide +kernel
theorem dX3_numberOf_11 : decode cX3_numberOf 11 = .ok (.iload_n 3, 1) := by decide +kernel
theorem dX3_numberOf_12 : decode cX3_numberOf 12 = .ok (.aload_n 0, 1) := by decide +kernel
theorem dX3_numberOf_13 : decode cX3_numberOf 13 = .ok (.getfield 23, 3) := by decide +kernel
theorem dX3_numberOf_16 : decode cX3_numberOf 16 = .ok (.arraylength, 1) := by decide +kernel
theorem dX3_numberOf_17 : decode cX3_numberOf 17 = .ok (.if_icmp .ge 12, 3) := by decide +kernel
theorem dX3_numberOf_20 : decode cX3_numberOf 20 = .ok (.aload_n 0, 1) := by decide +kernel
theorem dX3_numberOf_21 : decode cX3_numberOf 21 = .ok (.getfield 23, 3) := by decide +kernel
theorem dX3_numberOf_24 : decode cX3_numberOf 24 = .ok (.iload_n 3, 1) := by decide +kernel
theorem dX3_numberOf_25 : decode cX3_numberOf 25 = .ok (.iaload, 1) := by decide +kernel
theorem dX3_numberOf_26 : decode cX3_numberOf 26 = .ok (.goto 4, 3) := by decide +kernel
theorem dX3_numberOf_29 : decode cX3_numberOf 29 = .ok (.iconst 0, 1) := by decide +kernel
theorem dX3_numberOf_30 : decode cX3_numberOf 30 = .ok (.ireturn, 1) := by decide +kernel
theorem dX3_read_0 : decode cX3_read 0 = .ok (.aload_n 0, 1) := by decide +kernel
theorem dX3_read_1 : decode cX3_read 1 = .ok (.iload_n 1, 1) := by decide +kernel
theorem dX3_read_2 : decode cX3_read 2 = .ok (.aload_n 0, 1) := by decide +kernel
theorem dX3_read_3 : decode cX3_read 3 = .ok (.getfield 26, 3) := by decide +kernel
theorem dX3_read_6 : decode cX3_read 6 = .ok (.arraylength, 1) := by decide +kernel
theorem dX3_read_7 : decode cX3_read 7 = .ok (.invokestatic 41, 3) := by decide +kernel
theorem dX3_read_10 : decode cX3_read 10 = .ok (.putfield 47, 3) := by decide +kernel
theorem dX3_read_13 : decode cX3_read 13 = .ok (.aload_n 0, 1) := by decide +kernel
theorem dX3_read_14 : decode cX3_read 14 = .ok (.iconst 0, 1) := by decide +kernel
theorem dX3_read_15 : decode cX3_read 15 = .ok (.putfield 50, 3) := by decide +kernel
theorem dX3_read_18 : decode cX3_read 18 = .ok (.aload_n 0, 1) := by decide +kernel
theorem dX3_read_19 : decode cX3_read 19 = .ok (.iconst 0, 1) := by decide +kernel
theorem dX3_read_20 : decode cX3_read 20 = .ok (.putfield 53, 3) := by decide +kernel
theorem dX3_read_23 : decode cX3_read 23 = .ok (.aload_n 0, 1) := by decide +kernel
theorem dX3_read_24 : decode cX3_read 24 = .ok (.iconst 0, 1) := by decide +kernel
theorem dX3_read_25 : decode cX3_read 25 = .ok (.putfield 56, 3) := by decide +kernel
theorem dX3_read_28 : decode cX3_read 28 = .ok (.iconst 0, 1) := by decide +kernel
theorem dX3_read_29 : decode cX3_read 29 = .ok (.istore_n 2, 1) := by decide +kernel
theorem dX3_read_30 : decode cX3_read 30 = .ok (.iload_n 2, 1) := by decide +kernel
theorem dX3_read_31 : decode cX3_read 31 = .ok (.aload_n 0, 1) := by decide +kernel
theorem dX3_read_32 : decode cX3_read 32 = .ok (.getfield 23, 3) := by decide +kernel
theorem dX3_read_35 : decode cX3_read 35 = .ok (.arraylength, 1) := by decide +kernel
theorem dX3_read_36 : decode cX3_read 36 = .ok (.if_icmp .ge 16, 3) := by decide +kernel
theorem dX3_read_39 : decode cX3_read 39 = .ok (.aload_n 0, 1) := by decide +kernel
theorem dX3_read_40 : decode cX3_read 40 = .ok (.getfield 23, 3) := by decide +kernel
theorem dX3_read_43 : decode cX3_read 43 = .ok (.iload_n 2, 1) := by decide +kernel
theorem dX3_read_44 : decode cX3_read 44 = .ok (.iconst 0, 1) := by decide +kernel
theorem dX3_read_45 : decode cX3_read 45 = .ok (.iastore, 1) := by decide +kernel
theorem dX3_read_46 : decode cX3_read 46 = .ok (.iinc 2 1, 3) := by decide +kernel
theorem dX3_read_49 : decode cX3_read 49 = .ok (.goto (-19), 3) := by decide +kernel
theorem dX3_read_52 : decode cX3_read 52 = .ok (.iconst 0, 1) := by decide +kernel
theorem dX3_read_53 : decode cX3_read 53 = .ok (.istore_n 2, 1) := by decide +kernel
theorem dX3_read_54 : decode cX3_read 54 = .ok (.iload_n 2, 1) := by decide +kernel
theorem dX3_read_55 : decode cX3_read 55 = .ok (.sipush 500, 3) := by decide +kernel
theorem dX3_read_58 : decode cX3_read 58 = .ok (.if_icmp .gt 86, 3) := by decide +kernel
theorem dX3_read_61 : decode cX3_read 61 = .ok (.aload_n 0, 1) := by decide +kernel
theorem dX3_read_62 : decode cX3_read 62 = .ok (.invokevirtual 59, 3) := by decide +kernel
theorem dX3_read_65 : decode cX3_read 65 = .ok (.aload_n 0, 1) := by decide +kernel
theorem dX3_read_66 : decode cX3_read 66 = .ok (.getfield 62, 3) := by decide +kernel
theorem dX3_read_69 : decode cX3_read 69 = .ok (.iconst 1, 1) := by decide +kernel
theorem dX3_read_70 : decode cX3_read 70 = .ok (.if_icmp .eq 7, 3) := by decide +kernel
theorem dX3_read_73 : decode cX3_read 73 = .ok (.iconst 1, 1) := by decide +kernel
theorem dX3_read_74 : decode cX3_read 74 = .ok (.goto 37, 3) := by decide +kernel
theorem dX3_read_77 : decode cX3_read 77 = .ok (.aload_n 0, 1) := by decide +kernel
theorem dX3_read_78 : decode cX3_read 78 = .ok (.getfield 65, 3) := by decide +kernel
theorem dX3_read_81 : decode cX3_read 81 = .ok (.sipush 18489, 3) := by decide +kernel
theorem dX3_read_84 : decode cX3_read 84 = .ok (.if_icmp .ne 10, 3) := by decide +kernel
theorem dX3_read_87 : decode cX3_read 87 = .ok (.aload_n 0, 1) := by decide +kernel
theorem dX3_read_88 : decode cX3_read 88 = .ok (.invokevirtual 68, 3) := by decide +kernel
theorem dX3_read_91 : decode cX3_read 91 = .ok (.goto 20, 3) := by decide +kernel
theorem dX3_read_94 : decode cX3_read 94 = .ok (.aload_n 0, 1) := by decide +kernel
theorem dX3_read_95 : decode cX3_read 95 = .ok (.getfield 65, 3) := by decide +kernel
theorem dX3_read_98 : decode cX3_read 98 = .ok (.ldc 72, 2) := by decide +kernel
theorem dX3_read_100 : decode cX3_read 100 = .ok (.if_icmp .ne 10, 3) := by decide +kernel
theorem dX3_read_103 : decode cX3_read 103 = .ok (.aload_n 0, 1) := by decide +kernel
theorem dX3_read_104 : decode cX3_read 104 = .ok (.invokevirtual 73, 3) := by decide +kernel
theorem dX3_read_107 : decode cX3_read 107 = .ok (.goto 4, 3) := by decide +kernel
theorem dX3_read_110 : decode cX3_read 110 = .ok (.iconst 1, 1) := by decide +kernel
theorem dX3_read_111 : decode cX3_read 111 = .ok (.istore_n 3, 1) := by decide +kernel
theorem dX3_read_112 : decode cX3_read 112 = .ok (.iload_n 3, 1) := by decide +kernel
theorem dX3_read_113 : decode cX3_read 113 = .ok (.ifCond .eq 5, 3) := by decide +kernel
theorem dX3_read_116 : decode cX3_read 116 = .ok (.iload_n 3, 1) := by decide +kernel
theorem dX3_read_117 : decode cX3_read 117 = .ok (.ireturn, 1) := by decide +kernel
theorem dX3_read_118 : decode cX3_read 118 = .ok (.aload_n 0, 1) := by decide +kernel
theorem dX3_read_119 : decode cX3_read 119 = .ok (.getfield 62, 3) := by decide +kernel
theorem dX3_read_122 : decode cX3_read 122 = .ok (.ifCond .ne 5, 3) := by decide +kernel
theorem dX3_read_125 : decode cX3_read 125 = .ok (.iconst 0, 1) := by decide +kernel
theorem dX3_read_126 : decode cX3_read 126 = .ok (.ireturn, 1) := by decide +kernel
theorem dX3_read_127 : decode cX3_read 127 = .ok (.aload_n 0, 1) := by decide +kernel
theorem dX3_read_128 : decode cX3_read 128 = .ok (.getfield 62, 3) := by decide +kernel
theorem dX3_read_131 : decode cX3_read 131 = .ok (.bipush 59, 2) := by decide +kernel
theorem dX3_read_133 : decode cX3_read 133 = .ok (.if_icmp .eq 5, 3) := by decide +kernel
theorem dX3_read_136 : decode cX3_read 136 = .ok (.iconst 1, 1) := by decide +kernel
theorem dX3_read_137 : decode cX3_read 137 = .ok (.ireturn, 1) := by decide +kernel
theorem dX3_read_138 : decode cX3_read 138 = .ok (.iinc 2 1, 3) := by decide +kernel
theorem dX3_read_141 : decode cX3_read 141 = .ok (.goto (-87), 3) := by decide +kernel
theorem dX3_read_144 : decode cX3_read 144 = .ok (.iconst 1, 1) := by decide +kernel
theorem dX3_read_145 : decode cX3_read 145 = .ok (.ireturn, 1) := by decide +kernel
theorem dX3_readRay_0 : decode cX3_readRay 0 = .ok (.aload_n 0, 1) := by decide +kernel
theorem dX3_readRay_1 : decode cX3_readRay 1 = .ok (.getfield 53, 3) := by decide +kernel
theorem dX3_readRay_4 : decode cX3_readRay 4 = .ok (.bipush 12, 2) := by decide +kernel
theorem dX3_readRay_6 : decode cX3_readRay 6 = .ok (.if_icmp .lt 5, 3) := by decide +kernel
theorem dX3_readRay_9 : decode cX3_readRay 9 = .ok (.iconst 4, 1) := by decide +kernel
theorem dX3_readRay_10 : decode cX3_readRay 10 = .ok (.ireturn, 1) := by decide +kernel
theorem dX3_readRay_11 : decode cX3_readRay 11 = .ok (.aload_n 0, 1) := by decide +kernel
theorem dX3_readRay_12 : decode cX3_readRay 12 = .ok (.invokevirtual 59, 3) := by decide +kernel
theorem dX3_readRay_15 : decode cX3_readRay 15 = .ok (.aload_n 0, 1) := by decide +kernel
theorem dX3_readRay_16 : decode cX3_readRay 16 = .ok (.getfield 65, 3) := by decide +kernel
theorem dX3_readRay_19 : decode cX3_readRay 19 = .ok (.istore_n 1, 1) := by decide +kernel
theorem dX3_readRay_20 : decode cX3_readRay 20 = .ok (.aload_n 0, 1) := by decide +kernel
theorem dX3_readRay_21 : decode cX3_readRay 21 = .ok (.invokevirtual 76, 3) := by decide +kernel
theorem dX3_readRay_24 : decode cX3_readRay 24 = .ok (.istore_n 2, 1) := by decide +kernel
theorem dX3_readRay_25 : decode cX3_readRay 25 = .ok (.iload_n 2, 1) := by decide +kernel
theorem dX3_readRay_26 : decode cX3_readRay 26 = .ok (.ifCond .ne 14, 3) := by decide +kernel
theorem dX3_readRay_29 : decode cX3_readRay 29 = .ok (.aload_n 0, 1) := by decide +kernel
theorem dX3_readRay_30 : decode cX3_readRay 30 = .ok (.invokevirtual 59, 3) := by decide +kernel
theorem dX3_readRay_33 : decode cX3_readRay 33 = .ok (.aload_n 0, 1) := by decide +kernel
theorem dX3_readRay_34 : decode cX3_readRay 34 = .ok (.bipush 52, 2) := by decide +kernel
theorem dX3_readRay_36 : decode cX3_readRay 36 = .ok (.invokevirtual 79, 3) := by decide +kernel
theorem dX3_readRay_39 : decode cX3_readRay 39 = .ok (.istore_n 2, 1) := by decide +kernel
theorem dX3_readRay_40 : decode cX3_readRay 40 = .ok (.iload_n 2, 1) := by decide +kernel
theorem dX3_readRay_41 : decode cX3_readRay 41 = .ok (.ifCond .ne 14, 3) := by decide +kernel
theorem dX3_readRay_44 : decode cX3_readRay 44 = .ok (.aload_n 0, 1) := by decide +kernel
theorem dX3_readRay_45 : decode cX3_readRay 45 = .ok (.invokevirtual 59, 3) := by decide +kernel
theorem dX3_readRay_48 : decode cX3_readRay 48 = .ok (.aload_n 0, 1) := by decide +kernel
theorem dX3_readRay_49 : decode cX3_readRay 49 = .ok (.bipush 9, 2) := by decide +kernel
theorem dX3_readRay_51 : decode cX3_readRay 51 = .ok (.invokevirtual 82, 3) := by decide +kernel
theorem dX3_readRay_54 : decode cX3_readRay 54 = .ok (.istore_n 2, 1) := by decide +kernel
theorem dX3_readRay_55 : decode cX3_readRay 55 = .ok (.aload_n 0, 1) := by decide +kernel
theorem dX3_readRay_56 : decode cX3_readRay 56 = .ok (.getfield 85, 3) := by decide +kernel
theorem dX3_readRay_59 : decode cX3_readRay 59 = .ok (.istore_n 3, 1) := by decide +kernel
theorem dX3_readRay_60 : decode cX3_readRay 60 = .ok (.iload_n 2, 1) := by decide +kernel
theorem dX3_readRay_61 : decode cX3_readRay 61 = .ok (.ifCond .ne 14, 3) := by decide +kernel
theorem dX3_readRay_64 : decode cX3_readRay 64 = .ok (.aload_n 0, 1) := by decide +kernel
theorem dX3_readRay_65 : decode cX3_readRay 65 = .ok (.invokevirtual 59, 3) := by decide +kernel
theorem dX3_readRay_68 : decode cX3_readRay 68 = .ok (.aload_n 0, 1) := by decide +kernel
theorem dX3_readRay_69 : decode cX3_readRay 69 = .ok (.bipush 9, 2) := by decide +kernel
theorem dX3_readRay_71 : decode cX3_readRay 71 = .ok (.invokevirtual 82, 3) := by decide +kernel
theorem dX3_readRay_74 : decode cX3_readRay 74 = .ok (.istore_n 2, 1) := by decide +kernel
theorem dX3_readRay_75 : decode cX3_readRay 75 = .ok (.iload_n 2, 1) := by decide +kernel
theorem dX3_readRay_76 : decode cX3_readRay 76 = .ok (.ifCond .eq 5, 3) := by decide +kernel
theorem dX3_readRay_79 : decode cX3_readRay 79 = .ok (.iload_n 2, 1) := by decide +kernel
theorem dX3_readRay_80 : decode cX3_readRay 80 = .ok (.ireturn, 1) := by decide +kernel
theorem dX3_readRay_81 : decode cX3_readRay 81 = .ok (.iload_n 3, 1) := by decide +kernel
theorem dX3_readRay_82 : decode cX3_readRay 82 = .ok (.i2l, 1) := by decide +kernel
theorem dX3_readRay_83 : decode cX3_readRay 83 = .ok (.aload_n 0, 1) := by decide +kernel
theorem dX3_readRay_84 : decode cX3_readRay 84 = .ok (.getfield 85, 3) := by decide +kernel
theorem dX3_readRay_87 : decode cX3_readRay 87 = .ok (.i2l, 1) := by decide +kernel
theorem dX3_readRay_88 : decode cX3_readRay 88 = .ok (.invokestatic 88, 3) := by decide +kernel
theorem dX3_readRay_91 : decode cX3_readRay 91 = .ok (.lconst 1, 1) := by decide +kernel
theorem dX3_readRay_92 : decode cX3_readRay 92 = .ok (.lcmp, 1) := by decide +kernel
theorem dX3_readRay_93 : decode cX3_readRay 93 = .ok (.ifCond .ne 15, 3) := by decide +kernel
theorem dX3_readRay_96 : decode cX3_readRay 96 = .ok (.aload_n 0, 1) := by decide +kernel
theorem dX3_readRay_97 : decode cX3_readRay 97 = .ok (.iload_n 3, 1) := by decide +kernel
theorem dX3_readRay_98 : decode cX3_readRay 98 = .ok (.aload_n 0, 1) := by decide +kernel
theorem dX3_readRay_99 : decode cX3_readRay 99 = .ok (.getfield 85, 3) := by decide +kernel
theorem dX3_readRay_102 : decode cX3_readRay 102 = .ok (.invokevirtual 94, 3) := by decide +kernel
theorem dX3_readRay_105 : decode cX3_readRay 105 = .ok (.ifCond .eq 5, 3) := by decide +kernel
theorem dX3_readRay_108 : decode cX3_readRay 108 = .ok (.iconst 2, 1) := by decide +kernel
theorem dX3_readRay_109 : decode cX3_readRay 109 = .ok (.ireturn, 1) := by decide +kernel
theorem dX3_readRay_110 : decode cX3_readRay 110 = .ok (.aload_n 0, 1) := by decide +kernel
theorem dX3_readRay_111 : decode cX3_readRay 111 = .ok (.getfield 11, 3) := by decide +kernel
theorem dX3_readRay_114 : decode cX3_readRay 114 = .ok (.aload_n 0, 1) := by decide +kernel
theorem dX3_readRay_115 : decode cX3_readRay 115 = .ok (.getfield 53, 3) := by decide +kernel
theorem dX3_readRay_118 : decode cX3_readRay 118 = .ok (.iload_n 3, 1) := by decide +kernel
theorem dX3_readRay_119 : decode cX3_readRay 119 = .ok (.iastore, 1) := by decide +kernel
theorem dX3_readRay_120 : decode cX3_readRay 120 = .ok (.aload_n 0, 1) := by decide +kernel
theorem dX3_readRay_121 : decode cX3_readRay 121 = .ok (.getfield 15, 3) := by decide +kernel
theorem dX3_readRay_124 : decode cX3_readRay 124 = .ok (.aload_n 0, 1) := by decide +kernel
theorem dX3_readRay_125 : decode cX3_readRay 125 = .ok (.getfield 53, 3) := by decide +kernel
theorem dX3_readRay_128 : decode cX3_readRay 128 = .ok (.aload_n 0, 1) := by decide +kernel
theorem dX3_readRay_129 : decode cX3_readRay 129 = .ok (.getfield 85, 3) := by decide +kernel
theorem dX3_readRay_132 : decode cX3_readRay 132 = .ok (.iastore, 1) := by decide +kernel
theorem dX3_readRay_133 : decode cX3_readRay 133 = .ok (.aload_n 0, 1) := by decide +kernel
theorem dX3_readRay_134 : decode cX3_readRay 134 = .ok (.getfield 30, 3) := by decide +kernel
theorem dX3_readRay_137 : decode cX3_readRay 137 = .ok (.aload_n 0, 1) := by decide +kernel
theorem dX3_readRay_138 : decode cX3_readRay 138 = .ok (.getfield 53, 3) := by decide +kernel
theorem dX3_readRay_141 : decode cX3_readRay 141 = .ok (.iload_n 1, 1) := by decide +kernel
theorem dX3_readRay_142 : decode cX3_readRay 142 = .ok (.iastore, 1) := by decide +kernel
theorem dX3_readRay_143 : decode cX3_readRay 143 = .ok (.aload_n 0, 1) := by decide +kernel
theorem dX3_readRay_144 : decode cX3_readRay 144 = .ok (.dup, 1) := by decide +kernel
theorem dX3_readRay_145 : decode cX3_readRay 145 = .ok (.getfield 53, 3) := by decide +kernel
theorem dX3_readRay_148 : decode cX3_readRay 148 = .ok (.iconst 1, 1) := by decide +kernel
theorem dX3_readRay_149 : decode cX3_readRay 149 = .ok (.iadd, 1) := by decide +kernel
theorem dX3_readRay_150 : decode cX3_readRay 150 = .ok (.putfield 53, 3) := by decide +kernel
theorem dX3_readRay_153 : decode cX3_readRay 153 = .ok (.aload_n 0, 1) := by decide +kernel
theorem dX3_readRay_154 : decode cX3_readRay 154 = .ok (.invokevirtual 59, 3) := by decide +kernel
theorem dX3_readRay_157 : decode cX3_readRay 157 = .ok (.iconst 0, 1) := by decide +kernel
theorem dX3_readRay_158 : decode cX3_readRay 158 = .ok (.ireturn, 1) := by decide +kernel
theorem dX3_readLoad_0 : decode cX3_readLoad 0 = .ok (.aload_n 0, 1) := by decide +kernel
theorem dX3_readLoad_1 : decode cX3_readLoad 1 = .ok (.getfield 56, 3) := by decide +kernel
theorem dX3_readLoad_4 : decode cX3_readLoad 4 = .ok (.istore_n 1, 1) := by decide +kernel
theorem dX3_readLoad_5 : decode cX3_readLoad 5 = .ok (.iload_n 1, 1) := by decide +kernel
theorem dX3_readLoad_6 : decode cX3_readLoad 6 = .ok (.bipush 6, 2) := by decide +kernel
theorem dX3_readLoad_8 : decode cX3_readLoad 8 = .ok (.if_icmp .lt 5, 3) := by decide +kernel
theorem dX3_readLoad_11 : decode cX3_readLoad 11 = .ok (.iconst 4, 1) := by decide +kernel
theorem dX3_readLoad_12 : decode cX3_readLoad 12 = .ok (.ireturn, 1) := by decide +kernel
theorem dX3_readLoad_13 : decode cX3_readLoad 13 = .ok (.aload_n 0, 1) := by decide +kernel
theorem dX3_readLoad_14 : decode cX3_readLoad 14 = .ok (.invokevirtual 59, 3) := by decide +kernel
theorem dX3_readLoad_17 : decode cX3_readLoad 17 = .ok (.aload_n 0, 1) := by decide +kernel
theorem dX3_readLoad_18 : decode cX3_readLoad 18 = .ok (.invokevirtual 76, 3) := by decide +kernel
theorem dX3_readLoad_21 : decode cX3_readLoad 21 = .ok (.istore_n 2, 1) := by decide +kernel
theorem dX3_readLoad_22 : decode cX3_readLoad 22 = .ok (.iload_n 2, 1) := by decide +kernel
theorem dX3_readLoad_23 : decode cX3_readLoad 23 = .ok (.ifCond .eq 5, 3) := by decide +kernel
theorem dX3_readLoad_26 : decode cX3_readLoad 26 = .ok (.iload_n 2, 1) := by decide +kernel
theorem dX3_readLoad_27 : decode cX3_readLoad 27 = .ok (.ireturn, 1) := by decide +kernel
theorem dX3_readLoad_28 : decode cX3_readLoad 28 = .ok (.aload_n 0, 1) := by decide +kernel
theorem dX3_readLoad_29 : decode cX3_readLoad 29 = .ok (.getfield 20, 3) := by decide +kernel
theorem dX3_readLoad_32 : decode cX3_readLoad 32 = .ok (.iload_n 1, 1) := by decide +kernel
theorem dX3_readLoad_33 : decode cX3_readLoad 33 = .ok (.aload_n 0, 1) := by decide +kernel
theorem dX3_readLoad_34 : decode cX3_readLoad 34 = .ok (.getfield 65, 3) := by decide +kernel
theorem dX3_readLoad_37 : decode cX3_readLoad 37 = .ok (.iastore, 1) := by decide +kernel
theorem dX3_readLoad_38 : decode cX3_readLoad 38 = .ok (.aload_n 0, 1) := by decide +kernel
theorem dX3_readLoad_39 : decode cX3_readLoad 39 = .ok (.dup, 1) := by decide +kernel
theorem dX3_readLoad_40 : decode cX3_readLoad 40 = .ok (.getfield 56, 3) := by decide +kernel
theorem dX3_readLoad_43 : decode cX3_readLoad 43 = .ok (.iconst 1, 1) := by decide +kernel
theorem dX3_readLoad_44 : decode cX3_readLoad 44 = .ok (.iadd, 1) := by decide +kernel
theorem dX3_readLoad_45 : decode cX3_readLoad 45 = .ok (.putfield 56, 3) := by decide +kernel
theorem dX3_readLoad_48 : decode cX3_readLoad 48 = .ok (.iconst 0, 1) := by decide +kernel
theorem dX3_readLoad_49 : decode cX3_readLoad 49 = .ok (.istore_n 3, 1) := by decide +kernel
theorem dX3_readLoad_50 : decode cX3_readLoad 50 = .ok (.iconst 0, 1) := by decide +kernel
theorem dX3_readLoad_51 : decode cX3_readLoad 51 = .ok (.istore 4, 2) := by decide +kernel
theorem dX3_readLoad_53 : decode cX3_readLoad 53 = .ok (.iload 4, 2) := by decide +kernel
theorem dX3_readLoad_55 : decode cX3_readLoad 55 = .ok (.bipush 12, 2) := by decide +kernel
theorem dX3_readLoad_57 : decode cX3_readLoad 57 = .ok (.if_icmp .gt 92, 3) := by decide +kernel
theorem dX3_readLoad_60 : decode cX3_readLoad 60 = .ok (.aload_n 0, 1) := by decide +kernel
theorem dX3_readLoad_61 : decode cX3_readLoad 61 = .ok (.invokevirtual 59, 3) := by decide +kernel
theorem dX3_readLoad_64 : decode cX3_readLoad 64 = .ok (.aload_n 0, 1) := by decide +kernel
theorem dX3_readLoad_65 : decode cX3_readLoad 65 = .ok (.iload_n 3, 1) := by decide +kernel
theorem dX3_readLoad_66 : decode cX3_readLoad 66 = .ok (.invokevirtual 98, 3) := by decide +kernel
theorem dX3_readLoad_69 : decode cX3_readLoad 69 = .ok (.istore_n 2, 1) := by decide +kernel
theorem dX3_readLoad_70 : decode cX3_readLoad 70 = .ok (.iload_n 2, 1) := by decide +kernel
theorem dX3_readLoad_71 : decode cX3_readLoad 71 = .ok (.ifCond .eq 5, 3) := by decide +kernel
theorem dX3_readLoad_74 : decode cX3_readLoad 74 = .ok (.iload_n 2, 1) := by decide +kernel
theorem dX3_readLoad_75 : decode cX3_readLoad 75 = .ok (.ireturn, 1) := by decide +kernel
theorem dX3_readLoad_76 : decode cX3_readLoad 76 = .ok (.aload_n 0, 1) := by decide +kernel
theorem dX3_readLoad_77 : decode cX3_readLoad 77 = .ok (.aload_n 0, 1) := by decide +kernel
theorem dX3_readLoad_78 : decode cX3_readLoad 78 = .ok (.getfield 65, 3) := by decide +kernel
theorem dX3_readLoad_81 : decode cX3_readLoad 81 = .ok (.invokevirtual 101, 3) := by decide +kernel
theorem dX3_readLoad_84 : decode cX3_readLoad 84 = .ok (.istore 5, 2) := by decide +kernel
theorem dX3_readLoad_86 : decode cX3_readLoad 86 = .ok (.iload_n 3, 1) := by decide +kernel
theorem dX3_readLoad_87 : decode cX3_readLoad 87 = .ok (.iconst 1, 1) := by decide +kernel
theorem dX3_readLoad_88 : decode cX3_readLoad 88 = .ok (.iload 5, 2) := by decide +kernel
theorem dX3_readLoad_90 : decode cX3_readLoad 90 = .ok (.ishl, 1) := by decide +kernel
theorem dX3_readLoad_91 : decode cX3_readLoad 91 = .ok (.ior, 1) := by decide +kernel
theorem dX3_readLoad_92 : decode cX3_readLoad 92 = .ok (.istore_n 3, 1) := by decide +kernel
theorem dX3_readLoad_93 : decode cX3_readLoad 93 = .ok (.iload_n 1, 1) := by decide +kernel
theorem dX3_readLoad_94 : decode cX3_readLoad 94 = .ok (.bipush 12, 2) := by decide +kernel
theorem dX3_readLoad_96 : decode cX3_readLoad 96 = .ok (.imul, 1) := by decide +kernel
theorem dX3_readLoad_97 : decode cX3_readLoad 97 = .ok (.iload 5, 2) := by decide +kernel
theorem dX3_readLoad_99 : decode cX3_readLoad 99 = .ok (.iadd, 1) := by decide +kernel
theorem dX3_readLoad_100 : decode cX3_readLoad 100 = .ok (.istore 6, 2) := by decide +kernel
theorem dX3_readLoad_102 : decode cX3_readLoad 102 = .ok (.iload 6, 2) := by decide +kernel
theorem dX3_readLoad_104 : decode cX3_readLoad 104 = .ok (.ifCond .lt 24, 3) := by decide +kernel
theorem dX3_readLoad_107 : decode cX3_readLoad 107 = .ok (.iload 6, 2) := by decide +kernel
theorem dX3_readLoad_109 : decode cX3_readLoad 109 = .ok (.aload_n 0, 1) := by decide +kernel
theorem dX3_readLoad_110 : decode cX3_readLoad 110 = .ok (.getfield 23, 3) := by decide +kernel
theorem dX3_readLoad_113 : decode cX3_readLoad 113 = .ok (.arraylength, 1) := by decide +kernel
theorem dX3_readLoad_114 : decode cX3_readLoad 114 = .ok (.if_icmp .ge 14, 3) := by decide +kernel
theorem dX3_readLoad_117 : decode cX3_readLoad 117 = .ok (.aload_n 0, 1) := by decide +kernel
theorem dX3_readLoad_118 : decode cX3_readLoad 118 = .ok (.getfield 23, 3) := by decide +kernel
theorem dX3_readLoad_121 : decode cX3_readLoad 121 = .ok (.iload 6, 2) := by decide +kernel
theorem dX3_readLoad_123 : decode cX3_readLoad 123 = .ok (.aload_n 0, 1) := by decide +kernel
theorem dX3_readLoad_124 : decode cX3_readLoad 124 = .ok (.getfield 85, 3) := by decide +kernel
theorem dX3_readLoad_127 : decode cX3_readLoad 127 = .ok (.iastore, 1) := by decide +kernel
theorem dX3_readLoad_128 : decode cX3_readLoad 128 = .ok (.aload_n 0, 1) := by decide +kernel
theorem dX3_readLoad_129 : decode cX3_readLoad 129 = .ok (.invokevirtual 59, 3) := by decide +kernel
theorem dX3_readLoad_132 : decode cX3_readLoad 132 = .ok (.aload_n 0, 1) := by decide +kernel
theorem dX3_readLoad_133 : decode cX3_readLoad 133 = .ok (.getfield 62, 3) := by decide +kernel
theorem dX3_readLoad_136 : decode cX3_readLoad 136 = .ok (.bipush 44, 2) := by decide +kernel
theorem dX3_readLoad_138 : decode cX3_readLoad 138 = .ok (.if_icmp .eq 5, 3) := by decide +kernel
theorem dX3_readLoad_141 : decode cX3_readLoad 141 = .ok (.iconst 0, 1) := by decide +kernel
theorem dX3_readLoad_142 : decode cX3_readLoad 142 = .ok (.ireturn, 1) := by decide +kernel
theorem dX3_readLoad_143 : decode cX3_readLoad 143 = .ok (.iinc 4 1, 3) := by decide +kernel
theorem dX3_readLoad_146 : decode cX3_readLoad 146 = .ok (.goto (-93), 3) := by decide +kernel
theorem dX3_readLoad_149 : decode cX3_readLoad 149 = .ok (.iconst 1, 1) := by decide +kernel
theorem dX3_readLoad_150 : decode cX3_readLoad 150 = .ok (.ireturn, 1) := by decide +kernel
theorem dX3_faultOfPart_0 : decode cX3_faultOfPart 0 = .ok (.aload_n 0, 1) := by decide +kernel
theorem dX3_faultOfPart_1 : decode cX3_faultOfPart 1 = .ok (.bipush 20, 2) := by decide +kernel
theorem dX3_faultOfPart_3 : decode cX3_faultOfPart 3 = .ok (.invokevirtual 82, 3) := by decide +kernel
theorem dX3_faultOfPart_6 : decode cX3_faultOfPart 6 = .ok (.istore_n 2, 1) := by decide +kernel
theorem dX3_faultOfPart_7 : decode cX3_faultOfPart 7 = .ok (.iload_n 2, 1) := by decide +kernel
theorem dX3_faultOfPart_8 : decode cX3_faultOfPart 8 = .ok (.ifCond .eq 5, 3) := by decide +kernel
theorem dX3_faultOfPart_11 : decode cX3_faultOfPart 11 = .ok (.iload_n 2, 1) := by decide +kernel
theorem dX3_faultOfPart_12 : decode cX3_faultOfPart 12 = .ok (.ireturn, 1) := by decide +kernel
theorem dX3_faultOfPart_13 : decode cX3_faultOfPart 13 = .ok (.aload_n 0, 1) := by decide +kernel
theorem dX3_faultOfPart_14 : decode cX3_faultOfPart 14 = .ok (.invokevirtual 59, 3) := by decide +kernel
theorem dX3_faultOfPart_17 : decode cX3_faultOfPart 17 = .ok (.aload_n 0, 1) := by decide +kernel
theorem dX3_faultOfPart_18 : decode cX3_faultOfPart 18 = .ok (.sipush 494, 3) := by decide +kernel
theorem dX3_faultOfPart_21 : decode cX3_faultOfPart 21 = .ok (.invokevirtual 79, 3) := by decide +kernel
theorem dX3_faultOfPart_24 : decode cX3_faultOfPart 24 = .ok (.istore_n 2, 1) := by decide +kernel
theorem dX3_faultOfPart_25 : decode cX3_faultOfPart 25 = .ok (.iload_n 2, 1) := by decide +kernel
theorem dX3_faultOfPart_26 : decode cX3_faultOfPart 26 = .ok (.ifCond .eq 5, 3) := by decide +kernel
theorem dX3_faultOfPart_29 : decode cX3_faultOfPart 29 = .ok (.iload_n 2, 1) := by decide +kernel
theorem dX3_faultOfPart_30 : decode cX3_faultOfPart 30 = .ok (.ireturn, 1) := by decide +kernel
theorem dX3_faultOfPart_31 : decode cX3_faultOfPart 31 = .ok (.aload_n 0, 1) := by decide +kernel
theorem dX3_faultOfPart_32 : decode cX3_faultOfPart 32 = .ok (.invokevirtual 59, 3) := by decide +kernel
theorem dX3_faultOfPart_35 : decode cX3_faultOfPart 35 = .ok (.aload_n 0, 1) := by decide +kernel
theorem dX3_faultOfPart_36 : decode cX3_faultOfPart 36 = .ok (.invokevirtual 104, 3) := by decide +kernel
theorem dX3_faultOfPart_39 : decode cX3_faultOfPart 39 = .ok (.ifCond .ne 5, 3) := by decide +kernel
theorem dX3_faultOfPart_42 : decode cX3_faultOfPart 42 = .ok (.iconst 1, 1) := by decide +kernel
theorem dX3_faultOfPart_43 : decode cX3_faultOfPart 43 = .ok (.ireturn, 1) := by decide +kernel
theorem dX3_faultOfPart_44 : decode cX3_faultOfPart 44 = .ok (.aload_n 0, 1) := by decide +kernel
theorem dX3_faultOfPart_45 : decode cX3_faultOfPart 45 = .ok (.aload_n 0, 1) := by decide +kernel
theorem dX3_faultOfPart_46 : decode cX3_faultOfPart 46 = .ok (.getfield 65, 3) := by decide +kernel
theorem dX3_faultOfPart_49 : decode cX3_faultOfPart 49 = .ok (.invokevirtual 101, 3) := by decide +kernel
theorem dX3_faultOfPart_52 : decode cX3_faultOfPart 52 = .ok (.istore_n 3, 1) := by decide +kernel
theorem dX3_faultOfPart_53 : decode cX3_faultOfPart 53 = .ok (.iload_n 3, 1) := by decide +kernel
theorem dX3_faultOfPart_54 : decode cX3_faultOfPart 54 = .ok (.iconst (-1), 1) := by decide +kernel
theorem dX3_faultOfPart_55 : decode cX3_faultOfPart 55 = .ok (.if_icmp .eq 12, 3) := by decide +kernel
theorem dX3_faultOfPart_58 : decode cX3_faultOfPart 58 = .ok (.iload_n 1, 1) := by decide +kernel
theorem dX3_faultOfPart_59 : decode cX3_faultOfPart 59 = .ok (.iload_n 3, 1) := by decide +kernel
theorem dX3_faultOfPart_60 : decode cX3_faultOfPart 60 = .ok (.iushr, 1) := by decide +kernel
theorem dX3_faultOfPart_61 : decode cX3_faultOfPart 61 = .ok (.iconst 1, 1) := by decide +kernel
theorem dX3_faultOfPart_62 : decode cX3_faultOfPart 62 = .ok (.iand, 1) := by decide +kernel
theorem dX3_faultOfPart_63 : decode cX3_faultOfPart 63 = .ok (.iconst 1, 1) := by decide +kernel
theorem dX3_faultOfPart_64 : decode cX3_faultOfPart 64 = .ok (.if_icmp .ne 7, 3) := by decide +kernel
theorem dX3_faultOfPart_67 : decode cX3_faultOfPart 67 = .ok (.iconst 3, 1) := by decide +kernel
theorem dX3_faultOfPart_68 : decode cX3_faultOfPart 68 = .ok (.goto 4, 3) := by decide +kernel
theorem dX3_faultOfPart_71 : decode cX3_faultOfPart 71 = .ok (.iconst 0, 1) := by decide +kernel
theorem dX3_faultOfPart_72 : decode cX3_faultOfPart 72 = .ok (.ireturn, 1) := by decide +kernel
theorem dX3_faultOfInt_0 : decode cX3_faultOfInt 0 = .ok (.aload_n 0, 1) := by decide +kernel
theorem dX3_faultOfInt_1 : decode cX3_faultOfInt 1 = .ok (.getfield 62, 3) := by decide +kernel
theorem dX3_faultOfInt_4 : decode cX3_faultOfInt 4 = .ok (.bipush 45, 2) := by decide +kernel
theorem dX3_faultOfInt_6 : decode cX3_faultOfInt 6 = .ok (.if_icmp .ne 7, 3) := by decide +kernel
theorem dX3_faultOfInt_9 : decode cX3_faultOfInt 9 = .ok (.iconst 1, 1) := by decide +kernel
theorem dX3_faultOfInt_10 : decode cX3_faultOfInt 10 = .ok (.goto 4, 3) := by decide +kernel
theorem dX3_faultOfInt_13 : decode cX3_faultOfInt 13 = .ok (.iconst 0, 1) := by decide +kernel
theorem dX3_faultOfInt_14 : decode cX3_faultOfInt 14 = .ok (.istore_n 2, 1) := by decide +kernel
theorem dX3_faultOfInt_15 : decode cX3_faultOfInt 15 = .ok (.iload_n 2, 1) := by decide +kernel
theorem dX3_faultOfInt_16 : decode cX3_faultOfInt 16 = .ok (.ifCond .eq 7, 3) := by decide +kernel
theorem dX3_faultOfInt_19 : decode cX3_faultOfInt 19 = .ok (.aload_n 0, 1) := by decide +kernel
theorem dX3_faultOfInt_20 : decode cX3_faultOfInt 20 = .ok (.invokevirtual 59, 3) := by decide +kernel
theorem dX3_faultOfInt_23 : decode cX3_faultOfInt 23 = .ok (.aload_n 0, 1) := by decide +kernel
theorem dX3_faultOfInt_24 : decode cX3_faultOfInt 24 = .ok (.getfield 62, 3) := by decide +kernel
theorem dX3_faultOfInt_27 : decode cX3_faultOfInt 27 = .ok (.iconst 2, 1) := by decide +kernel
theorem dX3_faultOfInt_28 : decode cX3_faultOfInt 28 = .ok (.if_icmp .eq 5, 3) := by decide +kernel
theorem dX3_faultOfInt_31 : decode cX3_faultOfInt 31 = .ok (.iconst 1, 1) := by decide +kernel
theorem dX3_faultOfInt_32 : decode cX3_faultOfInt 32 = .ok (.ireturn, 1) := by decide +kernel
theorem dX3_faultOfInt_33 : decode cX3_faultOfInt 33 = .ok (.aload_n 0, 1) := by decide +kernel
theorem dX3_faultOfInt_34 : decode cX3_faultOfInt 34 = .ok (.iload_n 2, 1) := by decide +kernel
theorem dX3_faultOfInt_35 : decode cX3_faultOfInt 35 = .ok (.ifCond .eq 11, 3) := by decide +kernel
theorem dX3_faultOfInt_38 : decode cX3_faultOfInt 38 = .ok (.aload_n 0, 1) := by decide +kernel
theorem dX3_faultOfInt_39 : decode cX3_faultOfInt 39 = .ok (.getfield 65, 3) := by decide +kernel
theorem dX3_faultOfInt_42 : decode cX3_faultOfInt 42 = .ok (.ineg, 1) := by decide +kernel
theorem dX3_faultOfInt_43 : decode cX3_faultOfInt 43 = .ok (.goto 7, 3) := by decide +kernel
theorem dX3_faultOfInt_46 : decode cX3_faultOfInt 46 = .ok (.aload_n 0, 1) := by decide +kernel
theorem dX3_faultOfInt_47 : decode cX3_faultOfInt 47 = .ok (.getfield 65, 3) := by decide +kernel
theorem dX3_faultOfInt_50 : decode cX3_faultOfInt 50 = .ok (.putfield 85, 3) := by decide +kernel
theorem dX3_faultOfInt_53 : decode cX3_faultOfInt 53 = .ok (.aload_n 0, 1) := by decide +kernel
theorem dX3_faultOfInt_54 : decode cX3_faultOfInt 54 = .ok (.getfield 65, 3) := by decide +kernel
theorem dX3_faultOfInt_57 : decode cX3_faultOfInt 57 = .ok (.iload_n 1, 1) := by decide +kernel
theorem dX3_faultOfInt_58 : decode cX3_faultOfInt 58 = .ok (.if_icmp .le 7, 3) := by decide +kernel
theorem dX3_faultOfInt_61 : decode cX3_faultOfInt 61 = .ok (.iconst 2, 1) := by decide +kernel
theorem dX3_faultOfInt_62 : decode cX3_faultOfInt 62 = .ok (.goto 4, 3) := by decide +kernel
theorem dX3_faultOfInt_65 : decode cX3_faultOfInt 65 = .ok (.iconst 0, 1) := by decide +kernel
theorem dX3_faultOfInt_66 : decode cX3_faultOfInt 66 = .ok (.ireturn, 1) := by decide +kernel
theorem dX3_faultOfWord_0 : decode cX3_faultOfWord 0 = .ok (.aload_n 0, 1) := by decide +kernel
theorem dX3_faultOfWord_1 : decode cX3_faultOfWord 1 = .ok (.getfield 62, 3) := by decide +kernel
theorem dX3_faultOfWord_4 : decode cX3_faultOfWord 4 = .ok (.iconst 1, 1) := by decide +kernel
theorem dX3_faultOfWord_5 : decode cX3_faultOfWord 5 = .ok (.if_icmp .ne 15, 3) := by decide +kernel
theorem dX3_faultOfWord_8 : decode cX3_faultOfWord 8 = .ok (.aload_n 0, 1) := by decide +kernel
theorem dX3_faultOfWord_9 : decode cX3_faultOfWord 9 = .ok (.getfield 65, 3) := by decide +kernel
theorem dX3_faultOfWord_12 : decode cX3_faultOfWord 12 = .ok (.iload_n 1, 1) := by decide +kernel
theorem dX3_faultOfWord_13 : decode cX3_faultOfWord 13 = .ok (.if_icmp .ne 7, 3) := by decide +kernel
theorem dX3_faultOfWord_16 : decode cX3_faultOfWord 16 = .ok (.iconst 0, 1) := by decide +kernel
theorem dX3_faultOfWord_17 : decode cX3_faultOfWord 17 = .ok (.goto 4, 3) := by decide +kernel
theorem dX3_faultOfWord_20 : decode cX3_faultOfWord 20 = .ok (.iconst 1, 1) := by decide +kernel
theorem dX3_faultOfWord_21 : decode cX3_faultOfWord 21 = .ok (.ireturn, 1) := by decide +kernel
theorem dX3_faultOfNewName_0 : decode cX3_faultOfNewName 0 = .ok (.aload_n 0, 1) := by decide +kernel
theorem dX3_faultOfNewName_1 : decode cX3_faultOfNewName 1 = .ok (.invokevirtual 104, 3) := by decide +kernel
theorem dX3_faultOfNewName_4 : decode cX3_faultOfNewName 4 = .ok (.ifCond .ne 5, 3) := by decide +kernel
theorem dX3_faultOfNewName_7 : decode cX3_faultOfNewName 7 = .ok (.iconst 1, 1) := by decide +kernel
theorem dX3_faultOfNewName_8 : decode cX3_faultOfNewName 8 = .ok (.ireturn, 1) := by decide +kernel
theorem dX3_faultOfNewName_9 : decode cX3_faultOfNewName 9 = .ok (.aload_n 0, 1) := by decide +kernel
theorem dX3_faultOfNewName_10 : decode cX3_faultOfNewName 10 = .ok (.aload_n 0, 1) := by decide +kernel
theorem dX3_faultOfNewName_11 : decode cX3_faultOfNewName 11 = .ok (.getfield 65, 3) := by decide +kernel
theorem dX3_faultOfNewName_14 : decode cX3_faultOfNewName 14 = .ok (.invokevirtual 101, 3) := by decide +kernel
theorem dX3_faultOfNewName_17 : decode cX3_faultOfNewName 17 = .ok (.iconst (-1), 1) := by decide +kernel
theorem dX3_faultOfNewName_18 : decode cX3_faultOfNewName 18 = .ok (.if_icmp .ne 14, 3) := by decide +kernel
theorem dX3_faultOfNewName_21 : decode cX3_faultOfNewName 21 = .ok (.aload_n 0, 1) := by decide +kernel
theorem dX3_faultOfNewName_22 : decode cX3_faultOfNewName 22 = .ok (.aload_n 0, 1) := by decide +kernel
theorem dX3_faultOfNewName_23 : decode cX3_faultOfNewName 23 = .ok (.getfield 65, 3) := by decide +kernel
theorem dX3_faultOfNewName_26 : decode cX3_faultOfNewName 26 = .ok (.invokevirtual 108, 3) := by decide +kernel
theorem dX3_faultOfNewName_29 : decode cX3_faultOfNewName 29 = .ok (.ifCond .eq 7, 3) := by decide +kernel
theorem dX3_faultOfNewName_32 : decode cX3_faultOfNewName 32 = .ok (.iconst 3, 1) := by decide +kernel
theorem dX3_faultOfNewName_33 : decode cX3_faultOfNewName 33 = .ok (.goto 4, 3) := by decide +kernel
theorem dX3_faultOfNewName_36 : decode cX3_faultOfNewName 36 = .ok (.iconst 0, 1) := by decide +kernel
theorem dX3_faultOfNewName_37 : decode cX3_faultOfNewName 37 = .ok (.ireturn, 1) := by decide +kernel
theorem dX3_isName_0 : decode cX3_isName 0 = .ok (.aload_n 0, 1) := by decide +kernel
theorem dX3_isName_1 : decode cX3_isName 1 = .ok (.getfield 62, 3) := by decide +kernel
theorem dX3_isName_4 : decode cX3_isName 4 = .ok (.iconst 1, 1) := by decide +kernel
theorem dX3_isName_5 : decode cX3_isName 5 = .ok (.if_icmp .ne 45, 3) := by decide +kernel
theorem dX3_isName_8 : decode cX3_isName 8 = .ok (.aload_n 0, 1) := by decide +kernel
theorem dX3_isName_9 : decode cX3_isName 9 = .ok (.getfield 65, 3) := by decide +kernel
theorem dX3_isName_12 : decode cX3_isName 12 = .ok (.sipush 18489, 3) := by decide +kernel
theorem dX3_isName_15 : decode cX3_isName 15 = .ok (.if_icmp .eq 35, 3) := by decide +kernel
theorem dX3_isName_18 : decode cX3_isName 18 = .ok (.aload_n 0, 1) := by decide +kernel
theorem dX3_isName_19 : decode cX3_isName 19 = .ok (.getfield 65, 3) := by decide +kernel
theorem dX3_isName_22 : decode cX3_isName 22 = .ok (.bipush 52, 2) := by decide +kernel
theorem dX3_isName_24 : decode cX3_isName 24 = .ok (.if_icmp .eq 26, 3) := by decide +kernel
theorem dX3_isName_27 : decode cX3_isName 27 = .ok (.aload_n 0, 1) := by decide +kernel
theorem dX3_isName_28 : decode cX3_isName 28 = .ok (.getfield 65, 3) := by decide +kernel
theorem dX3_isName_31 : decode cX3_isName 31 = .ok (.ldc 72, 2) := by decide +kernel
theorem dX3_isName_33 : decode cX3_isName 33 = .ok (.if_icmp .eq 17, 3) := by decide +kernel
theorem dX3_isName_36 : decode cX3_isName 36 = .ok (.aload_n 0, 1) := by decide +kernel
theorem dX3_isName_37 : decode cX3_isName 37 = .ok (.getfield 65, 3) := by decide +kernel
theorem dX3_isName_40 : decode cX3_isName 40 = .ok (.sipush 494, 3) := by decide +kernel
theorem dX3_isName_43 : decode cX3_isName 43 = .ok (.if_icmp .eq 7, 3) := by decide +kernel
theorem dX3_isName_46 : decode cX3_isName 46 = .ok (.iconst 1, 1) := by decide +kernel
theorem dX3_isName_47 : decode cX3_isName 47 = .ok (.goto 4, 3) := by decide +kernel
theorem dX3_isName_50 : decode cX3_isName 50 = .ok (.iconst 0, 1) := by decide +kernel
theorem dX3_isName_51 : decode cX3_isName 51 = .ok (.ireturn, 1) := by decide +kernel
theorem dX3_rayNamed_0 : decode cX3_rayNamed 0 = .ok (.iconst 0, 1) := by decide +kernel
theorem dX3_rayNamed_1 : decode cX3_rayNamed 1 = .ok (.istore_n 2, 1) := by decide +kernel
theorem dX3_rayNamed_2 : decode cX3_rayNamed 2 = .ok (.iload_n 2, 1) := by decide +kernel
theorem dX3_rayNamed_3 : decode cX3_rayNamed 3 = .ok (.aload_n 0, 1) := by decide +kernel
theorem dX3_rayNamed_4 : decode cX3_rayNamed 4 = .ok (.getfield 53, 3) := by decide +kernel
theorem dX3_rayNamed_7 : decode cX3_rayNamed 7 = .ok (.if_icmp .ge 27, 3) := by decide +kernel
theorem dX3_rayNamed_10 : decode cX3_rayNamed 10 = .ok (.iload_n 2, 1) := by decide +kernel
theorem dX3_rayNamed_11 : decode cX3_rayNamed 11 = .ok (.bipush 12, 2) := by decide +kernel
theorem dX3_rayNamed_13 : decode cX3_rayNamed 13 = .ok (.if_icmp .ge 21, 3) := by decide +kernel
theorem dX3_rayNamed_16 : decode cX3_rayNamed 16 = .ok (.aload_n 0, 1) := by decide +kernel
theorem dX3_rayNamed_17 : decode cX3_rayNamed 17 = .ok (.getfield 30, 3) := by decide +kernel
theorem dX3_rayNamed_20 : decode cX3_rayNamed 20 = .ok (.iload_n 2, 1) := by decide +kernel
theorem dX3_rayNamed_21 : decode cX3_rayNamed 21 = .ok (.iaload, 1) := by decide +kernel
theorem dX3_rayNamed_22 : decode cX3_rayNamed 22 = .ok (.iload_n 1, 1) := by decide +kernel
theorem dX3_rayNamed_23 : decode cX3_rayNamed 23 = .ok (.if_icmp .ne 5, 3) := by decide +kernel
theorem dX3_rayNamed_26 : decode cX3_rayNamed 26 = .ok (.iload_n 2, 1) := by decide +kernel
theorem dX3_rayNamed_27 : decode cX3_rayNamed 27 = .ok (.ireturn, 1) := by decide +kernel
theorem dX3_rayNamed_28 : decode cX3_rayNamed 28 = .ok (.iinc 2 1, 3) := by decide +kernel
theorem dX3_rayNamed_31 : decode cX3_rayNamed 31 = .ok (.goto (-29), 3) := by decide +kernel
theorem dX3_rayNamed_34 : decode cX3_rayNamed 34 = .ok (.iconst (-1), 1) := by decide +kernel
theorem dX3_rayNamed_35 : decode cX3_rayNamed 35 = .ok (.ireturn, 1) := by decide +kernel
theorem dX3_isLoadNamed_0 : decode cX3_isLoadNamed 0 = .ok (.iconst 0, 1) := by decide +kernel
theorem dX3_isLoadNamed_1 : decode cX3_isLoadNamed 1 = .ok (.istore_n 2, 1) := by decide +kernel
theorem dX3_isLoadNamed_2 : decode cX3_isLoadNamed 2 = .ok (.iload_n 2, 1) := by decide +kernel
theorem dX3_isLoadNamed_3 : decode cX3_isLoadNamed 3 = .ok (.aload_n 0, 1) := by decide +kernel
theorem dX3_isLoadNamed_4 : decode cX3_isLoadNamed 4 = .ok (.getfield 56, 3) := by decide +kernel
theorem dX3_isLoadNamed_7 : decode cX3_isLoadNamed 7 = .ok (.if_icmp .ge 27, 3) := by decide +kernel
theorem dX3_isLoadNamed_10 : decode cX3_isLoadNamed 10 = .ok (.iload_n 2, 1) := by decide +kernel
theorem dX3_isLoadNamed_11 : decode cX3_isLoadNamed 11 = .ok (.bipush 6, 2) := by decide +kernel
theorem dX3_isLoadNamed_13 : decode cX3_isLoadNamed 13 = .ok (.if_icmp .ge 21, 3) := by decide +kernel
theorem dX3_isLoadNamed_16 : decode cX3_isLoadNamed 16 = .ok (.aload_n 0, 1) := by decide +kernel
theorem dX3_isLoadNamed_17 : decode cX3_isLoadNamed 17 = .ok (.getfield 20, 3) := by decide +kernel
theorem dX3_isLoadNamed_20 : decode cX3_isLoadNamed 20 = .ok (.iload_n 2, 1) := by decide +kernel
theorem dX3_isLoadNamed_21 : decode cX3_isLoadNamed 21 = .ok (.iaload, 1) := by decide +kernel
theorem dX3_isLoadNamed_22 : decode cX3_isLoadNamed 22 = .ok (.iload_n 1, 1) := by decide +kernel
theorem dX3_isLoadNamed_23 : decode cX3_isLoadNamed 23 = .ok (.if_icmp .ne 5, 3) := by decide +kernel
theorem dX3_isLoadNamed_26 : decode cX3_isLoadNamed 26 = .ok (.iconst 1, 1) := by decide +kernel
theorem dX3_isLoadNamed_27 : decode cX3_isLoadNamed 27 = .ok (.ireturn, 1) := by decide +kernel
theorem dX3_isLoadNamed_28 : decode cX3_isLoadNamed 28 = .ok (.iinc 2 1, 3) := by decide +kernel
theorem dX3_isLoadNamed_31 : decode cX3_isLoadNamed 31 = .ok (.goto (-29), 3) := by decide +kernel
theorem dX3_isLoadNamed_34 : decode cX3_isLoadNamed 34 = .ok (.iconst 0, 1) := by decide +kernel
theorem dX3_isLoadNamed_35 : decode cX3_isLoadNamed 35 = .ok (.ireturn, 1) := by decide +kernel
theorem dX3_isRayAt_0 : decode cX3_isRayAt 0 = .ok (.iconst 0, 1) := by decide +kernel
theorem dX3_isRayAt_1 : decode cX3_isRayAt 1 = .ok (.istore_n 3, 1) := by decide +kernel
theorem dX3_isRayAt_2 : decode cX3_isRayAt 2 = .ok (.iload_n 3, 1) := by decide +kernel
theorem dX3_isRayAt_3 : decode cX3_isRayAt 3 = .ok (.aload_n 0, 1) := by decide +kernel
theorem dX3_isRayAt_4 : decode cX3_isRayAt 4 = .ok (.getfield 53, 3) := by decide +kernel
theorem dX3_isRayAt_7 : decode cX3_isRayAt 7 = .ok (.if_icmp .ge 37, 3) := by decide +kernel
theorem dX3_isRayAt_10 : decode cX3_isRayAt 10 = .ok (.iload_n 3, 1) := by decide +kernel
theorem dX3_isRayAt_11 : decode cX3_isRayAt 11 = .ok (.bipush 12, 2) := by decide +kernel
theorem dX3_isRayAt_13 : decode cX3_isRayAt 13 = .ok (.if_icmp .ge 31, 3) := by decide +kernel
theorem dX3_isRayAt_16 : decode cX3_isRayAt 16 = .ok (.aload_n 0, 1) := by decide +kernel
theorem dX3_isRayAt_17 : decode cX3_isRayAt 17 = .ok (.getfield 11, 3) := by decide +kernel
theorem dX3_isRayAt_20 : decode cX3_isRayAt 20 = .ok (.iload_n 3, 1) := by decide +kernel
theorem dX3_isRayAt_21 : decode cX3_isRayAt 21 = .ok (.iaload, 1) := by decide +kernel
theorem dX3_isRayAt_22 : decode cX3_isRayAt 22 = .ok (.iload_n 1, 1) := by decide +kernel
theorem dX3_isRayAt_23 : decode cX3_isRayAt 23 = .ok (.if_icmp .ne 15, 3) := by decide +kernel
theorem dX3_isRayAt_26 : decode cX3_isRayAt 26 = .ok (.aload_n 0, 1) := by decide +kernel
theorem dX3_isRayAt_27 : decode cX3_isRayAt 27 = .ok (.getfield 15, 3) := by decide +kernel
theorem dX3_isRayAt_30 : decode cX3_isRayAt 30 = .ok (.iload_n 3, 1) := by decide +kernel
theorem dX3_isRayAt_31 : decode cX3_isRayAt 31 = .ok (.iaload, 1) := by decide +kernel
theorem dX3_isRayAt_32 : decode cX3_isRayAt 32 = .ok (.iload_n 2, 1) := by decide +kernel
theorem dX3_isRayAt_33 : decode cX3_isRayAt 33 = .ok (.if_icmp .ne 5, 3) := by decide +kernel
theorem dX3_isRayAt_36 : decode cX3_isRayAt 36 = .ok (.iconst 1, 1) := by decide +kernel
theorem dX3_isRayAt_37 : decode cX3_isRayAt 37 = .ok (.ireturn, 1) := by decide +kernel
theorem dX3_isRayAt_38 : decode cX3_isRayAt 38 = .ok (.iinc 3 1, 3) := by decide +kernel
theorem dX3_isRayAt_41 : decode cX3_isRayAt 41 = .ok (.goto (-39), 3) := by decide +kernel
theorem dX3_isRayAt_44 : decode cX3_isRayAt 44 = .ok (.iconst 0, 1) := by decide +kernel
theorem dX3_isRayAt_45 : decode cX3_isRayAt 45 = .ok (.ireturn, 1) := by decide +kernel
theorem dX3_take_0 : decode cX3_take 0 = .ok (.aload_n 0, 1) := by decide +kernel
theorem dX3_take_1 : decode cX3_take 1 = .ok (.getfield 50, 3) := by decide +kernel
theorem dX3_take_4 : decode cX3_take 4 = .ok (.aload_n 0, 1) := by decide +kernel
theorem dX3_take_5 : decode cX3_take 5 = .ok (.getfield 47, 3) := by decide +kernel
theorem dX3_take_8 : decode cX3_take 8 = .ok (.if_icmp .ge 30, 3) := by decide +kernel
theorem dX3_take_11 : decode cX3_take 11 = .ok (.aload_n 0, 1) := by decide +kernel
theorem dX3_take_12 : decode cX3_take 12 = .ok (.getfield 26, 3) := by decide +kernel
theorem dX3_take_15 : decode cX3_take 15 = .ok (.aload_n 0, 1) := by decide +kernel
theorem dX3_take_16 : decode cX3_take 16 = .ok (.getfield 50, 3) := by decide +kernel
theorem dX3_take_19 : decode cX3_take 19 = .ok (.baload, 1) := by decide +kernel
theorem dX3_take_20 : decode cX3_take 20 = .ok (.bipush 32, 2) := by decide +kernel
theorem dX3_take_22 : decode cX3_take 22 = .ok (.if_icmp .ne 16, 3) := by decide +kernel
theorem dX3_take_25 : decode cX3_take 25 = .ok (.aload_n 0, 1) := by decide +kernel
theorem dX3_take_26 : decode cX3_take 26 = .ok (.dup, 1) := by decide +kernel
theorem dX3_take_27 : decode cX3_take 27 = .ok (.getfield 50, 3) := by decide +kernel
theorem dX3_take_30 : decode cX3_take 30 = .ok (.iconst 1, 1) := by decide +kernel
theorem dX3_take_31 : decode cX3_take 31 = .ok (.iadd, 1) := by decide +kernel
theorem dX3_take_32 : decode cX3_take 32 = .ok (.putfield 50, 3) := by decide +kernel
theorem dX3_take_35 : decode cX3_take 35 = .ok (.goto (-35), 3) := by decide +kernel
theorem dX3_take_38 : decode cX3_take 38 = .ok (.aload_n 0, 1) := by decide +kernel
theorem dX3_take_39 : decode cX3_take 39 = .ok (.aload_n 0, 1) := by decide +kernel
theorem dX3_take_40 : decode cX3_take 40 = .ok (.getfield 50, 3) := by decide +kernel
theorem dX3_take_43 : decode cX3_take 43 = .ok (.putfield 112, 3) := by decide +kernel
theorem dX3_take_46 : decode cX3_take 46 = .ok (.aload_n 0, 1) := by decide +kernel
theorem dX3_take_47 : decode cX3_take 47 = .ok (.iconst 0, 1) := by decide +kernel
theorem dX3_take_48 : decode cX3_take 48 = .ok (.putfield 65, 3) := by decide +kernel
theorem dX3_take_51 : decode cX3_take 51 = .ok (.aload_n 0, 1) := by decide +kernel
theorem dX3_take_52 : decode cX3_take 52 = .ok (.getfield 50, 3) := by decide +kernel
theorem dX3_take_55 : decode cX3_take 55 = .ok (.aload_n 0, 1) := by decide +kernel
theorem dX3_take_56 : decode cX3_take 56 = .ok (.getfield 47, 3) := by decide +kernel
theorem dX3_take_59 : decode cX3_take 59 = .ok (.if_icmp .lt 9, 3) := by decide +kernel
theorem dX3_take_62 : decode cX3_take 62 = .ok (.aload_n 0, 1) := by decide +kernel
theorem dX3_take_63 : decode cX3_take 63 = .ok (.iconst 0, 1) := by decide +kernel
theorem dX3_take_64 : decode cX3_take 64 = .ok (.putfield 62, 3) := by decide +kernel
theorem dX3_take_67 : decode cX3_take 67 = .ok (.return_, 1) := by decide +kernel
theorem dX3_take_68 : decode cX3_take 68 = .ok (.aload_n 0, 1) := by decide +kernel
theorem dX3_take_69 : decode cX3_take 69 = .ok (.getfield 26, 3) := by decide +kernel
theorem dX3_take_72 : decode cX3_take 72 = .ok (.aload_n 0, 1) := by decide +kernel
theorem dX3_take_73 : decode cX3_take 73 = .ok (.getfield 50, 3) := by decide +kernel
theorem dX3_take_76 : decode cX3_take 76 = .ok (.baload, 1) := by decide +kernel
theorem dX3_take_77 : decode cX3_take 77 = .ok (.istore_n 1, 1) := by decide +kernel
theorem dX3_take_78 : decode cX3_take 78 = .ok (.iload_n 1, 1) := by decide +kernel
theorem dX3_take_79 : decode cX3_take 79 = .ok (.bipush 97, 2) := by decide +kernel
theorem dX3_take_81 : decode cX3_take 81 = .ok (.if_icmp .lt 16, 3) := by decide +kernel
theorem dX3_take_84 : decode cX3_take 84 = .ok (.iload_n 1, 1) := by decide +kernel
theorem dX3_take_85 : decode cX3_take 85 = .ok (.bipush 122, 2) := by decide +kernel
theorem dX3_take_87 : decode cX3_take 87 = .ok (.if_icmp .gt 10, 3) := by decide +kernel
theorem dX3_take_90 : decode cX3_take 90 = .ok (.aload_n 0, 1) := by decide +kernel
theorem dX3_take_91 : decode cX3_take 91 = .ok (.invokevirtual 115, 3) := by decide +kernel
theorem dX3_take_94 : decode cX3_take 94 = .ok (.goto 63, 3) := by decide +kernel
theorem dX3_take_97 : decode cX3_take 97 = .ok (.iload_n 1, 1) := by decide +kernel
theorem dX3_take_98 : decode cX3_take 98 = .ok (.bipush 48, 2) := by decide +kernel
theorem dX3_take_100 : decode cX3_take 100 = .ok (.if_icmp .lt 16, 3) := by decide +kernel
theorem dX3_take_103 : decode cX3_take 103 = .ok (.iload_n 1, 1) := by decide +kernel
theorem dX3_take_104 : decode cX3_take 104 = .ok (.bipush 57, 2) := by decide +kernel
theorem dX3_take_106 : decode cX3_take 106 = .ok (.if_icmp .gt 10, 3) := by decide +kernel
theorem dX3_take_109 : decode cX3_take 109 = .ok (.aload_n 0, 1) := by decide +kernel
theorem dX3_take_110 : decode cX3_take 110 = .ok (.invokevirtual 118, 3) := by decide +kernel
theorem dX3_take_113 : decode cX3_take 113 = .ok (.goto 44, 3) := by decide +kernel
theorem dX3_take_116 : decode cX3_take 116 = .ok (.iload_n 1, 1) := by decide +kernel
theorem dX3_take_117 : decode cX3_take 117 = .ok (.bipush 59, 2) := by decide +kernel
theorem dX3_take_119 : decode cX3_take 119 = .ok (.if_icmp .eq 15, 3) := by decide +kernel
theorem dX3_take_122 : decode cX3_take 122 = .ok (.iload_n 1, 1) := by decide +kernel
theorem dX3_take_123 : decode cX3_take 123 = .ok (.bipush 44, 2) := by decide +kernel
theorem dX3_take_125 : decode cX3_take 125 = .ok (.if_icmp .eq 9, 3) := by decide +kernel
theorem dX3_take_128 : decode cX3_take 128 = .ok (.iload_n 1, 1) := by decide +kernel
theorem dX3_take_129 : decode cX3_take 129 = .ok (.bipush 45, 2) := by decide +kernel
theorem dX3_take_131 : decode cX3_take 131 = .ok (.if_icmp .ne 21, 3) := by decide +kernel
theorem dX3_take_134 : decode cX3_take 134 = .ok (.aload_n 0, 1) := by decide +kernel
theorem dX3_take_135 : decode cX3_take 135 = .ok (.iload_n 1, 1) := by decide +kernel
theorem dX3_take_136 : decode cX3_take 136 = .ok (.putfield 62, 3) := by decide +kernel
theorem dX3_take_139 : decode cX3_take 139 = .ok (.aload_n 0, 1) := by decide +kernel
theorem dX3_take_140 : decode cX3_take 140 = .ok (.dup, 1) := by decide +kernel
theorem dX3_take_141 : decode cX3_take 141 = .ok (.getfield 50, 3) := by decide +kernel
theorem dX3_take_144 : decode cX3_take 144 = .ok (.iconst 1, 1) := by decide +kernel
theorem dX3_take_145 : decode cX3_take 145 = .ok (.iadd, 1) := by decide +kernel
theorem dX3_take_146 : decode cX3_take 146 = .ok (.putfield 50, 3) := by decide +kernel
theorem dX3_take_149 : decode cX3_take 149 = .ok (.goto 8, 3) := by decide +kernel
theorem dX3_take_152 : decode cX3_take 152 = .ok (.aload_n 0, 1) := by decide +kernel
theorem dX3_take_153 : decode cX3_take 153 = .ok (.iconst 3, 1) := by decide +kernel
theorem dX3_take_154 : decode cX3_take 154 = .ok (.putfield 62, 3) := by decide +kernel
theorem dX3_take_157 : decode cX3_take 157 = .ok (.return_, 1) := by decide +kernel
theorem dX3_takeWord_0 : decode cX3_takeWord 0 = .ok (.aload_n 0, 1) := by decide +kernel
theorem dX3_takeWord_1 : decode cX3_takeWord 1 = .ok (.getfield 50, 3) := by decide +kernel
theorem dX3_takeWord_4 : decode cX3_takeWord 4 = .ok (.aload_n 0, 1) := by decide +kernel
theorem dX3_takeWord_5 : decode cX3_takeWord 5 = .ok (.getfield 47, 3) := by decide +kernel
theorem dX3_takeWord_8 : decode cX3_takeWord 8 = .ok (.if_icmp .ge 69, 3) := by decide +kernel
theorem dX3_takeWord_11 : decode cX3_takeWord 11 = .ok (.aload_n 0, 1) := by decide +kernel
theorem dX3_takeWord_12 : decode cX3_takeWord 12 = .ok (.getfield 26, 3) := by decide +kernel
theorem dX3_takeWord_15 : decode cX3_takeWord 15 = .ok (.aload_n 0, 1) := by decide +kernel
theorem dX3_takeWord_16 : decode cX3_takeWord 16 = .ok (.getfield 50, 3) := by decide +kernel
theorem dX3_takeWord_19 : decode cX3_takeWord 19 = .ok (.baload, 1) := by decide +kernel
theorem dX3_takeWord_20 : decode cX3_takeWord 20 = .ok (.bipush 97, 2) := by decide +kernel
theorem dX3_takeWord_22 : decode cX3_takeWord 22 = .ok (.if_icmp .lt 55, 3) := by decide +kernel
theorem dX3_takeWord_25 : decode cX3_takeWord 25 = .ok (.aload_n 0, 1) := by decide +kernel
theorem dX3_takeWord_26 : decode cX3_takeWord 26 = .ok (.getfield 26, 3) := by decide +kernel
theorem dX3_takeWord_29 : decode cX3_takeWord 29 = .ok (.aload_n 0, 1) := by decide +kernel
theorem dX3_takeWord_30 : decode cX3_takeWord 30 = .ok (.getfield 50, 3) := by decide +kernel
theorem dX3_takeWord_33 : decode cX3_takeWord 33 = .ok (.baload, 1) := by decide +kernel
theorem dX3_takeWord_34 : decode cX3_takeWord 34 = .ok (.bipush 122, 2) := by decide +kernel
theorem dX3_takeWord_36 : decode cX3_takeWord 36 = .ok (.if_icmp .gt 41, 3) := by decide +kernel
theorem dX3_takeWord_39 : decode cX3_takeWord 39 = .ok (.aload_n 0, 1) := by decide +kernel
theorem dX3_takeWord_40 : decode cX3_takeWord 40 = .ok (.aload_n 0, 1) := by decide +kernel
theorem dX3_takeWord_41 : decode cX3_takeWord 41 = .ok (.getfield 65, 3) := by decide +kernel
theorem dX3_takeWord_44 : decode cX3_takeWord 44 = .ok (.iconst 5, 1) := by decide +kernel
theorem dX3_takeWord_45 : decode cX3_takeWord 45 = .ok (.ishl, 1) := by decide +kernel
theorem dX3_takeWord_46 : decode cX3_takeWord 46 = .ok (.aload_n 0, 1) := by decide +kernel
theorem dX3_takeWord_47 : decode cX3_takeWord 47 = .ok (.getfield 26, 3) := by decide +kernel
theorem dX3_takeWord_50 : decode cX3_takeWord 50 = .ok (.aload_n 0, 1) := by decide +kernel
theorem dX3_takeWord_51 : decode cX3_takeWord 51 = .ok (.getfield 50, 3) := by decide +kernel
theorem dX3_takeWord_54 : decode cX3_takeWord 54 = .ok (.baload, 1) := by decide +kernel
theorem dX3_takeWord_55 : decode cX3_takeWord 55 = .ok (.iadd, 1) := by decide +kernel
theorem dX3_takeWord_56 : decode cX3_takeWord 56 = .ok (.bipush 97, 2) := by decide +kernel
theorem dX3_takeWord_58 : decode cX3_takeWord 58 = .ok (.isub, 1) := by decide +kernel
theorem dX3_takeWord_59 : decode cX3_takeWord 59 = .ok (.iconst 1, 1) := by decide +kernel
theorem dX3_takeWord_60 : decode cX3_takeWord 60 = .ok (.iadd, 1) := by decide +kernel
theorem dX3_takeWord_61 : decode cX3_takeWord 61 = .ok (.putfield 65, 3) := by decide +kernel
theorem dX3_takeWord_64 : decode cX3_takeWord 64 = .ok (.aload_n 0, 1) := by decide +kernel
theorem dX3_takeWord_65 : decode cX3_takeWord 65 = .ok (.dup, 1) := by decide +kernel
theorem dX3_takeWord_66 : decode cX3_takeWord 66 = .ok (.getfield 50, 3) := by decide +kernel
theorem dX3_takeWord_69 : decode cX3_takeWord 69 = .ok (.iconst 1, 1) := by decide +kernel
theorem dX3_takeWord_70 : decode cX3_takeWord 70 = .ok (.iadd, 1) := by decide +kernel
theorem dX3_takeWord_71 : decode cX3_takeWord 71 = .ok (.putfield 50, 3) := by decide +kernel
theorem dX3_takeWord_74 : decode cX3_takeWord 74 = .ok (.goto (-74), 3) := by decide +kernel
theorem dX3_takeWord_77 : decode cX3_takeWord 77 = .ok (.aload_n 0, 1) := by decide +kernel
theorem dX3_takeWord_78 : decode cX3_takeWord 78 = .ok (.aload_n 0, 1) := by decide +kernel
theorem dX3_takeWord_79 : decode cX3_takeWord 79 = .ok (.getfield 50, 3) := by decide +kernel
theorem dX3_takeWord_82 : decode cX3_takeWord 82 = .ok (.aload_n 0, 1) := by decide +kernel
theorem dX3_takeWord_83 : decode cX3_takeWord 83 = .ok (.getfield 112, 3) := by decide +kernel
theorem dX3_takeWord_86 : decode cX3_takeWord 86 = .ok (.isub, 1) := by decide +kernel
theorem dX3_takeWord_87 : decode cX3_takeWord 87 = .ok (.bipush 6, 2) := by decide +kernel
theorem dX3_takeWord_89 : decode cX3_takeWord 89 = .ok (.if_icmp .gt 7, 3) := by decide +kernel
theorem dX3_takeWord_92 : decode cX3_takeWord 92 = .ok (.iconst 1, 1) := by decide +kernel
theorem dX3_takeWord_93 : decode cX3_takeWord 93 = .ok (.goto 4, 3) := by decide +kernel
theorem dX3_takeWord_96 : decode cX3_takeWord 96 = .ok (.iconst 3, 1) := by decide +kernel
theorem dX3_takeWord_97 : decode cX3_takeWord 97 = .ok (.putfield 62, 3) := by decide +kernel
theorem dX3_takeWord_100 : decode cX3_takeWord 100 = .ok (.return_, 1) := by decide +kernel
theorem dX3_takeWhole_0 : decode cX3_takeWhole 0 = .ok (.aload_n 0, 1) := by decide +kernel
theorem dX3_takeWhole_1 : decode cX3_takeWhole 1 = .ok (.getfield 50, 3) := by decide +kernel
theorem dX3_takeWhole_4 : decode cX3_takeWhole 4 = .ok (.aload_n 0, 1) := by decide +kernel
theorem dX3_takeWhole_5 : decode cX3_takeWhole 5 = .ok (.getfield 47, 3) := by decide +kernel
theorem dX3_takeWhole_8 : decode cX3_takeWhole 8 = .ok (.if_icmp .ge 68, 3) := by decide +kernel
theorem dX3_takeWhole_11 : decode cX3_takeWhole 11 = .ok (.aload_n 0, 1) := by decide +kernel
theorem dX3_takeWhole_12 : decode cX3_takeWhole 12 = .ok (.getfield 26, 3) := by decide +kernel
theorem dX3_takeWhole_15 : decode cX3_takeWhole 15 = .ok (.aload_n 0, 1) := by decide +kernel
theorem dX3_takeWhole_16 : decode cX3_takeWhole 16 = .ok (.getfield 50, 3) := by decide +kernel
theorem dX3_takeWhole_19 : decode cX3_takeWhole 19 = .ok (.baload, 1) := by decide +kernel
theorem dX3_takeWhole_20 : decode cX3_takeWhole 20 = .ok (.bipush 48, 2) := by decide +kernel
theorem dX3_takeWhole_22 : decode cX3_takeWhole 22 = .ok (.if_icmp .lt 54, 3) := by decide +kernel
theorem dX3_takeWhole_25 : decode cX3_takeWhole 25 = .ok (.aload_n 0, 1) := by decide +kernel
theorem dX3_takeWhole_26 : decode cX3_takeWhole 26 = .ok (.getfield 26, 3) := by decide +kernel
theorem dX3_takeWhole_29 : decode cX3_takeWhole 29 = .ok (.aload_n 0, 1) := by decide +kernel
theorem dX3_takeWhole_30 : decode cX3_takeWhole 30 = .ok (.getfield 50, 3) := by decide +kernel
theorem dX3_takeWhole_33 : decode cX3_takeWhole 33 = .ok (.baload, 1) := by decide +kernel
theorem dX3_takeWhole_34 : decode cX3_takeWhole 34 = .ok (.bipush 57, 2) := by decide +kernel
theorem dX3_takeWhole_36 : decode cX3_takeWhole 36 = .ok (.if_icmp .gt 40, 3) := by decide +kernel
theorem dX3_takeWhole_39 : decode cX3_takeWhole 39 = .ok (.aload_n 0, 1) := by decide +kernel
theorem dX3_takeWhole_40 : decode cX3_takeWhole 40 = .ok (.aload_n 0, 1) := by decide +kernel
theorem dX3_takeWhole_41 : decode cX3_takeWhole 41 = .ok (.getfield 65, 3) := by decide +kernel
theorem dX3_takeWhole_44 : decode cX3_takeWhole 44 = .ok (.bipush 10, 2) := by decide +kernel
theorem dX3_takeWhole_46 : decode cX3_takeWhole 46 = .ok (.imul, 1) := by decide +kernel
theorem dX3_takeWhole_47 : decode cX3_takeWhole 47 = .ok (.aload_n 0, 1) := by decide +kernel
theorem dX3_takeWhole_48 : decode cX3_takeWhole 48 = .ok (.getfield 26, 3) := by decide +kernel
theorem dX3_takeWhole_51 : decode cX3_takeWhole 51 = .ok (.aload_n 0, 1) := by decide +kernel
theorem dX3_takeWhole_52 : decode cX3_takeWhole 52 = .ok (.getfield 50, 3) := by decide +kernel
theorem dX3_takeWhole_55 : decode cX3_takeWhole 55 = .ok (.baload, 1) := by decide +kernel
theorem dX3_takeWhole_56 : decode cX3_takeWhole 56 = .ok (.iadd, 1) := by decide +kernel
theorem dX3_takeWhole_57 : decode cX3_takeWhole 57 = .ok (.bipush 48, 2) := by decide +kernel
theorem dX3_takeWhole_59 : decode cX3_takeWhole 59 = .ok (.isub, 1) := by decide +kernel
theorem dX3_takeWhole_60 : decode cX3_takeWhole 60 = .ok (.putfield 65, 3) := by decide +kernel
theorem dX3_takeWhole_63 : decode cX3_takeWhole 63 = .ok (.aload_n 0, 1) := by decide +kernel
theorem dX3_takeWhole_64 : decode cX3_takeWhole 64 = .ok (.dup, 1) := by decide +kernel
theorem dX3_takeWhole_65 : decode cX3_takeWhole 65 = .ok (.getfield 50, 3) := by decide +kernel
theorem dX3_takeWhole_68 : decode cX3_takeWhole 68 = .ok (.iconst 1, 1) := by decide +kernel
theorem dX3_takeWhole_69 : decode cX3_takeWhole 69 = .ok (.iadd, 1) := by decide +kernel
theorem dX3_takeWhole_70 : decode cX3_takeWhole 70 = .ok (.putfield 50, 3) := by decide +kernel
theorem dX3_takeWhole_73 : decode cX3_takeWhole 73 = .ok (.goto (-73), 3) := by decide +kernel
theorem dX3_takeWhole_76 : decode cX3_takeWhole 76 = .ok (.aload_n 0, 1) := by decide +kernel
theorem dX3_takeWhole_77 : decode cX3_takeWhole 77 = .ok (.aload_n 0, 1) := by decide +kernel
theorem dX3_takeWhole_78 : decode cX3_takeWhole 78 = .ok (.getfield 50, 3) := by decide +kernel
theorem dX3_takeWhole_81 : decode cX3_takeWhole 81 = .ok (.aload_n 0, 1) := by decide +kernel
theorem dX3_takeWhole_82 : decode cX3_takeWhole 82 = .ok (.getfield 112, 3) := by decide +kernel
theorem dX3_takeWhole_85 : decode cX3_takeWhole 85 = .ok (.isub, 1) := by decide +kernel
theorem dX3_takeWhole_86 : decode cX3_takeWhole 86 = .ok (.iconst 2, 1) := by decide +kernel
theorem dX3_takeWhole_87 : decode cX3_takeWhole 87 = .ok (.if_icmp .gt 7, 3) := by decide +kernel
theorem dX3_takeWhole_90 : decode cX3_takeWhole 90 = .ok (.iconst 2, 1) := by decide +kernel
theorem dX3_takeWhole_91 : decode cX3_takeWhole 91 = .ok (.goto 4, 3) := by decide +kernel
theorem dX3_takeWhole_94 : decode cX3_takeWhole 94 = .ok (.iconst 3, 1) := by decide +kernel
theorem dX3_takeWhole_95 : decode cX3_takeWhole 95 = .ok (.putfield 62, 3) := by decide +kernel
theorem dX3_takeWhole_98 : decode cX3_takeWhole 98 = .ok (.return_, 1) := by decide +kernel
theorem dX4_isBeyond_0 : decode cX4_isBeyond 0 = .ok (.lload_n 0, 1) := by decide +kernel
theorem dX4_isBeyond_1 : decode cX4_isBeyond 1 = .ok (.lload_n 2, 1) := by decide +kernel
theorem dX4_isBeyond_2 : decode cX4_isBeyond 2 = .ok (.lneg, 1) := by decide +kernel
theorem dX4_isBeyond_3 : decode cX4_isBeyond 3 = .ok (.lcmp, 1) := by decide +kernel
theorem dX4_isBeyond_4 : decode cX4_isBeyond 4 = .ok (.ifCond .lt 9, 3) := by decide +kernel
theorem dX4_isBeyond_7 : decode cX4_isBeyond 7 = .ok (.lload_n 0, 1) := by decide +kernel
theorem dX4_isBeyond_8 : decode cX4_isBeyond 8 = .ok (.lload_n 2, 1) := by decide +kernel
theorem dX4_isBeyond_9 : decode cX4_isBeyond 9 = .ok (.lcmp, 1) := by decide +kernel
theorem dX4_isBeyond_10 : decode cX4_isBeyond 10 = .ok (.ifCond .le 7, 3) := by decide +kernel
theorem dX4_isBeyond_13 : decode cX4_isBeyond 13 = .ok (.iconst 1, 1) := by decide +kernel
theorem dX4_isBeyond_14 : decode cX4_isBeyond 14 = .ok (.goto 4, 3) := by decide +kernel
theorem dX4_isBeyond_17 : decode cX4_isBeyond 17 = .ok (.iconst 0, 1) := by decide +kernel
theorem dX4_isBeyond_18 : decode cX4_isBeyond 18 = .ok (.ireturn, 1) := by decide +kernel
theorem dX4_by_0 : decode cX4_by 0 = .ok (.lload_n 2, 1) := by decide +kernel
theorem dX4_by_1 : decode cX4_by 1 = .ok (.lconst 0, 1) := by decide +kernel
theorem dX4_by_2 : decode cX4_by 2 = .ok (.lcmp, 1) := by decide +kernel
theorem dX4_by_3 : decode cX4_by 3 = .ok (.ifCond .ne 7, 3) := by decide +kernel
theorem dX4_by_6 : decode cX4_by 6 = .ok (.lconst 0, 1) := by decide +kernel
theorem dX4_by_7 : decode cX4_by 7 = .ok (.goto 6, 3) := by decide +kernel
theorem dX4_by_10 : decode cX4_by 10 = .ok (.lload_n 0, 1) := by decide +kernel
theorem dX4_by_11 : decode cX4_by 11 = .ok (.lload_n 2, 1) := by decide +kernel
theorem dX4_by_12 : decode cX4_by 12 = .ok (.ldiv, 1) := by decide +kernel
theorem dX4_by_13 : decode cX4_by 13 = .ok (.lreturn, 1) := by decide +kernel
theorem dX4_floorBy_0 : decode cX4_floorBy 0 = .ok (.lload_n 2, 1) := by decide +kernel
theorem dX4_floorBy_1 : decode cX4_floorBy 1 = .ok (.lconst 0, 1) := by decide +kernel
theorem dX4_floorBy_2 : decode cX4_floorBy 2 = .ok (.lcmp, 1) := by decide +kernel
theorem dX4_floorBy_3 : decode cX4_floorBy 3 = .ok (.ifCond .ne 7, 3) := by decide +kernel
theorem dX4_floorBy_6 : decode cX4_floorBy 6 = .ok (.lconst 0, 1) := by decide +kernel
theorem dX4_floorBy_7 : decode cX4_floorBy 7 = .ok (.goto 8, 3) := by decide +kernel
theorem dX4_floorBy_10 : decode cX4_floorBy 10 = .ok (.lload_n 0, 1) := by decide +kernel
theorem dX4_floorBy_11 : decode cX4_floorBy 11 = .ok (.lload_n 2, 1) := by decide +kernel
theorem dX4_floorBy_12 : decode cX4_floorBy 12 = .ok (.invokestatic 7, 3) := by decide +kernel
theorem dX4_floorBy_15 : decode cX4_floorBy 15 = .ok (.lreturn, 1) := by decide +kernel
theorem dX4_rest_0 : decode cX4_rest 0 = .ok (.lload_n 2, 1) := by decide +kernel
theorem dX4_rest_1 : decode cX4_rest 1 = .ok (.lconst 0, 1) := by decide +kernel
theorem dX4_rest_2 : decode cX4_rest 2 = .ok (.lcmp, 1) := by decide +kernel
theorem dX4_rest_3 : decode cX4_rest 3 = .ok (.ifCond .ne 7, 3) := by decide +kernel
theorem dX4_rest_6 : decode cX4_rest 6 = .ok (.lconst 0, 1) := by decide +kernel
theorem dX4_rest_7 : decode cX4_rest 7 = .ok (.goto 8, 3) := by decide +kernel
theorem dX4_rest_10 : decode cX4_rest 10 = .ok (.lload_n 0, 1) := by decide +kernel
theorem dX4_rest_11 : decode cX4_rest 11 = .ok (.lload_n 2, 1) := by decide +kernel
theorem dX4_rest_12 : decode cX4_rest 12 = .ok (.invokestatic 13, 3) := by decide +kernel
theorem dX4_rest_15 : decode cX4_rest 15 = .ok (.lreturn, 1) := by decide +kernel
theorem dX4_common_0 : decode cX4_common 0 = .ok (.lload_n 0, 1) := by decide +kernel
theorem dX4_common_1 : decode cX4_common 1 = .ok (.invokestatic 16, 3) := by decide +kernel
theorem dX4_common_4 : decode cX4_common 4 = .ok (.lstore 4, 2) := by decide +kernel
theorem dX4_common_6 : decode cX4_common 6 = .ok (.lload_n 2, 1) := by decide +kernel
theorem dX4_common_7 : decode cX4_common 7 = .ok (.invokestatic 16, 3) := by decide +kernel
theorem dX4_common_10 : decode cX4_common 10 = .ok (.lstore 6, 2) := by decide +kernel
theorem dX4_common_12 : decode cX4_common 12 = .ok (.iconst 0, 1) := by decide +kernel
theorem dX4_common_13 : decode cX4_common 13 = .ok (.istore 8, 2) := by decide +kernel
theorem dX4_common_15 : decode cX4_common 15 = .ok (.iload 8, 2) := by decide +kernel
theorem dX4_common_17 : decode cX4_common 17 = .ok (.sipush 200, 3) := by decide +kernel
theorem dX4_common_20 : decode cX4_common 20 = .ok (.if_icmp .ge 33, 3) := by decide +kernel
theorem dX4_common_23 : decode cX4_common 23 = .ok (.lload 6, 2) := by decide +kernel
theorem dX4_common_25 : decode cX4_common 25 = .ok (.lconst 0, 1) := by decide +kernel
theorem dX4_common_26 : decode cX4_common 26 = .ok (.lcmp, 1) := by decide +kernel
theorem dX4_common_27 : decode cX4_common 27 = .ok (.ifCond .eq 26, 3) := by decide +kernel
theorem dX4_common_30 : decode cX4_common 30 = .ok (.lload 4, 2) := by decide +kernel
theorem dX4_common_32 : decode cX4_common 32 = .ok (.lload 6, 2) := by decide +kernel
theorem dX4_common_34 : decode cX4_common 34 = .ok (.invokestatic 22, 3) := by decide +kernel
theorem dX4_common_37 : decode cX4_common 37 = .ok (.lstore 9, 2) := by decide +kernel
theorem dX4_common_39 : decode cX4_common 39 = .ok (.lload 6, 2) := by decide +kernel
theorem dX4_common_41 : decode cX4_common 41 = .ok (.lstore 4, 2) := by decide +kernel
theorem dX4_common_43 : decode cX4_common 43 = .ok (.lload 9, 2) := by decide +kernel
theorem dX4_common_45 : decode cX4_common 45 = .ok (.lstore 6, 2) := by decide +kernel
theorem dX4_common_47 : decode cX4_common 47 = .ok (.iinc 8 1, 3) := by decide +kernel
theorem dX4_common_50 : decode cX4_common 50 = .ok (.goto (-35), 3) := by decide +kernel
theorem dX4_common_53 : decode cX4_common 53 = .ok (.lload 4, 2) := by decide +kernel
theorem dX4_common_55 : decode cX4_common 55 = .ok (.lreturn, 1) := by decide +kernel
theorem dX4_firstFactor_0 : decode cX4_firstFactor 0 = .ok (.iload_n 0, 1) := by decide +kernel
theorem dX4_firstFactor_1 : decode cX4_firstFactor 1 = .ok (.i2l, 1) := by decide +kernel
theorem dX4_firstFactor_2 : decode cX4_firstFactor 2 = .ok (.lstore_n 2, 1) := by decide +kernel
theorem dX4_firstFactor_3 : decode cX4_firstFactor 3 = .ok (.iload_n 1, 1) := by decide +kernel
theorem dX4_firstFactor_4 : decode cX4_firstFactor 4 = .ok (.i2l, 1) := by decide +kernel
theorem dX4_firstFactor_5 : decode cX4_firstFactor 5 = .ok (.lstore 4, 2) := by decide +kernel
theorem dX4_firstFactor_7 : decode cX4_firstFactor 7 = .ok (.lconst 1, 1) := by decide +kernel
theorem dX4_firstFactor_8 : decode cX4_firstFactor 8 = .ok (.lstore 6, 2) := by decide +kernel
theorem dX4_firstFactor_10 : decode cX4_firstFactor 10 = .ok (.lconst 0, 1) := by decide +kernel
theorem dX4_firstFactor_11 : decode cX4_firstFactor 11 = .ok (.lstore 8, 2) := by decide +kernel
theorem dX4_firstFactor_13 : decode cX4_firstFactor 13 = .ok (.iconst 0, 1) := by decide +kernel
theorem dX4_firstFactor_14 : decode cX4_firstFactor 14 = .ok (.istore 10, 2) := by decide +kernel
theorem dX4_firstFactor_16 : decode cX4_firstFactor 16 = .ok (.iload 10, 2) := by decide +kernel
theorem dX4_firstFactor_18 : decode cX4_firstFactor 18 = .ok (.sipush 200, 3) := by decide +kernel
theorem dX4_firstFactor_21 : decode cX4_firstFactor 21 = .ok (.if_icmp .ge 58, 3) := by decide +kernel
theorem dX4_firstFactor_24 : decode cX4_firstFactor 24 = .ok (.lload 4, 2) := by decide +kernel
theorem dX4_firstFactor_26 : decode cX4_firstFactor 26 = .ok (.lconst 0, 1) := by decide +kernel
theorem dX4_firstFactor_27 : decode cX4_firstFactor 27 = .ok (.lcmp, 1) := by decide +kernel
theorem dX4_firstFactor_28 : decode cX4_firstFactor 28 = .ok (.ifCond .eq 51, 3) := by decide +kernel
theorem dX4_firstFactor_31 : decode cX4_firstFactor 31 = .ok (.lload_n 2, 1) := by decide +kernel
theorem dX4_firstFactor_32 : decode cX4_firstFactor 32 = .ok (.lload 4, 2) := by decide +kernel
theorem dX4_firstFactor_34 : decode cX4_firstFactor 34 = .ok (.invokestatic 25, 3) := by decide +kernel
theorem dX4_firstFactor_37 : decode cX4_firstFactor 37 = .ok (.lstore 11, 2) := by decide +kernel
theorem dX4_firstFactor_39 : decode cX4_firstFactor 39 = .ok (.lload_n 2, 1) := by decide +kernel
theorem dX4_firstFactor_40 : decode cX4_firstFactor 40 = .ok (.lload 11, 2) := by decide +kernel
theorem dX4_firstFactor_42 : decode cX4_firstFactor 42 = .ok (.lload 4, 2) := by decide +kernel
theorem dX4_firstFactor_44 : decode cX4_firstFactor 44 = .ok (.lmul, 1) := by decide +kernel
theorem dX4_firstFactor_45 : decode cX4_firstFactor 45 = .ok (.lsub, 1) := by decide +kernel
theorem dX4_firstFactor_46 : decode cX4_firstFactor 46 = .ok (.lstore 13, 2) := by decide +kernel
theorem dX4_firstFactor_48 : decode cX4_firstFactor 48 = .ok (.lload 6, 2) := by decide +kernel
theorem dX4_firstFactor_50 : decode cX4_firstFactor 50 = .ok (.lload 11, 2) := by decide +kernel
theorem dX4_firstFactor_52 : decode cX4_firstFactor 52 = .ok (.lload 8, 2) := by decide +kernel
theorem dX4_firstFactor_54 : decode cX4_firstFactor 54 = .ok (.lmul, 1) := by decide +kernel
theorem dX4_firstFactor_55 : decode cX4_firstFactor 55 = .ok (.lsub, 1) := by decide +kernel
theorem dX4_firstFactor_56 : decode cX4_firstFactor 56 = .ok (.lstore 15, 2) := by decide +kernel
theorem dX4_firstFactor_58 : decode cX4_firstFactor 58 = .ok (.lload 4, 2) := by decide +kernel
theorem dX4_firstFactor_60 : decode cX4_firstFactor 60 = .ok (.lstore_n 2, 1) := by decide +kernel
theorem dX4_firstFactor_61 : decode cX4_firstFactor 61 = .ok (.lload 13, 2) := by decide +kernel
theorem dX4_firstFactor_63 : decode cX4_firstFactor 63 = .ok (.lstore 4, 2) := by decide +kernel
theorem dX4_firstFactor_65 : decode cX4_firstFactor 65 = .ok (.lload 8, 2) := by decide +kernel
theorem dX4_firstFactor_67 : decode cX4_firstFactor 67 = .ok (.lstore 6, 2) := by decide +kernel
theorem dX4_firstFactor_69 : decode cX4_firstFactor 69 = .ok (.lload 15, 2) := by decide +kernel
theorem dX4_firstFactor_71 : decode cX4_firstFactor 71 = .ok (.lstore 8, 2) := by decide +kernel
theorem dX4_firstFactor_73 : decode cX4_firstFactor 73 = .ok (.iinc 10 1, 3) := by decide +kernel
theorem dX4_firstFactor_76 : decode cX4_firstFactor 76 = .ok (.goto (-60), 3) := by decide +kernel
theorem dX4_firstFactor_79 : decode cX4_firstFactor 79 = .ok (.lload_n 2, 1) := by decide +kernel
theorem dX4_firstFactor_80 : decode cX4_firstFactor 80 = .ok (.lconst 0, 1) := by decide +kernel
theorem dX4_firstFactor_81 : decode cX4_firstFactor 81 = .ok (.lcmp, 1) := by decide +kernel
theorem dX4_firstFactor_82 : decode cX4_firstFactor 82 = .ok (.ifCond .ge 9, 3) := by decide +kernel
theorem dX4_firstFactor_85 : decode cX4_firstFactor 85 = .ok (.lload 6, 2) := by decide +kernel
theorem dX4_firstFactor_87 : decode cX4_firstFactor 87 = .ok (.lneg, 1) := by decide +kernel
theorem dX4_firstFactor_88 : decode cX4_firstFactor 88 = .ok (.goto 5, 3) := by decide +kernel
theorem dX4_firstFactor_91 : decode cX4_firstFactor 91 = .ok (.lload 6, 2) := by decide +kernel
theorem dX4_firstFactor_93 : decode cX4_firstFactor 93 = .ok (.l2i, 1) := by decide +kernel
theorem dX4_firstFactor_94 : decode cX4_firstFactor 94 = .ok (.ireturn, 1) := by decide +kernel
theorem dX4_floorSum_0 : decode cX4_floorSum 0 = .ok (.lconst 0, 1) := by decide +kernel
theorem dX4_floorSum_1 : decode cX4_floorSum 1 = .ok (.lstore 8, 2) := by decide +kernel
theorem dX4_floorSum_3 : decode cX4_floorSum 3 = .ok (.lload_n 0, 1) := by decide +kernel
theorem dX4_floorSum_4 : decode cX4_floorSum 4 = .ok (.lstore 10, 2) := by decide +kernel
theorem dX4_floorSum_6 : decode cX4_floorSum 6 = .ok (.lload_n 2, 1) := by decide +kernel
theorem dX4_floorSum_7 : decode cX4_floorSum 7 = .ok (.lstore 12, 2) := by decide +kernel
theorem dX4_floorSum_9 : decode cX4_floorSum 9 = .ok (.lload 4, 2) := by decide +kernel
theorem dX4_floorSum_11 : decode cX4_floorSum 11 = .ok (.lstore 14, 2) := by decide +kernel
theorem dX4_floorSum_13 : decode cX4_floorSum 13 = .ok (.lload 6, 2) := by decide +kernel
theorem dX4_floorSum_15 : decode cX4_floorSum 15 = .ok (.lstore 16, 2) := by decide +kernel
theorem dX4_floorSum_17 : decode cX4_floorSum 17 = .ok (.iconst 0, 1) := by decide +kernel
theorem dX4_floorSum_18 : decode cX4_floorSum 18 = .ok (.istore 18, 2) := by decide +kernel
theorem dX4_floorSum_20 : decode cX4_floorSum 20 = .ok (.iload 18, 2) := by decide +kernel
theorem dX4_floorSum_22 : decode cX4_floorSum 22 = .ok (.sipush 200, 3) := by decide +kernel
theorem dX4_floorSum_25 : decode cX4_floorSum 25 = .ok (.if_icmp .ge 116, 3) := by decide +kernel
theorem dX4_floorSum_28 : decode cX4_floorSum 28 = .ok (.lload 10, 2) := by decide +kernel
theorem dX4_floorSum_30 : decode cX4_floorSum 30 = .ok (.lconst 0, 1) := by decide +kernel
theorem dX4_floorSum_31 : decode cX4_floorSum 31 = .ok (.lcmp, 1) := by decide +kernel
theorem dX4_floorSum_32 : decode cX4_floorSum 32 = .ok (.ifCond .le 109, 3) := by decide +kernel
theorem dX4_floorSum_35 : decode cX4_floorSum 35 = .ok (.lload 12, 2) := by decide +kernel
theorem dX4_floorSum_37 : decode cX4_floorSum 37 = .ok (.lconst 0, 1) := by decide +kernel
theorem dX4_floorSum_38 : decode cX4_floorSum 38 = .ok (.lcmp, 1) := by decide +kernel
theorem dX4_floorSum_39 : decode cX4_floorSum 39 = .ok (.ifCond .le 102, 3) := by decide +kernel
theorem dX4_floorSum_42 : decode cX4_floorSum 42 = .ok (.lload 8, 2) := by decide +kernel
theorem dX4_floorSum_44 : decode cX4_floorSum 44 = .ok (.lload 10, 2) := by decide +kernel
theorem dX4_floorSum_46 : decode cX4_floorSum 46 = .ok (.lload 10, 2) := by decide +kernel
theorem dX4_floorSum_48 : decode cX4_floorSum 48 = .ok (.lconst 1, 1) := by decide +kernel
theorem dX4_floorSum_49 : decode cX4_floorSum 49 = .ok (.lsub, 1) := by decide +kernel
theorem dX4_floorSum_50 : decode cX4_floorSum 50 = .ok (.lmul, 1) := by decide +kernel
theorem dX4_floorSum_51 : decode cX4_floorSum 51 = .ok (.ldc2_w 28, 3) := by decide +kernel
theorem dX4_floorSum_54 : decode cX4_floorSum 54 = .ok (.ldiv, 1) := by decide +kernel
theorem dX4_floorSum_55 : decode cX4_floorSum 55 = .ok (.lload 14, 2) := by decide +kernel
theorem dX4_floorSum_57 : decode cX4_floorSum 57 = .ok (.lload 12, 2) := by decide +kernel
theorem dX4_floorSum_59 : decode cX4_floorSum 59 = .ok (.invokestatic 30, 3) := by decide +kernel
theorem dX4_floorSum_62 : decode cX4_floorSum 62 = .ok (.lmul, 1) := by decide +kernel
theorem dX4_floorSum_63 : decode cX4_floorSum 63 = .ok (.lload 10, 2) := by decide +kernel
theorem dX4_floorSum_65 : decode cX4_floorSum 65 = .ok (.lload 16, 2) := by decide +kernel
theorem dX4_floorSum_67 : decode cX4_floorSum 67 = .ok (.lload 12, 2) := by decide +kernel
theorem dX4_floorSum_69 : decode cX4_floorSum 69 = .ok (.invokestatic 30, 3) := by decide +kernel
theorem dX4_floorSum_72 : decode cX4_floorSum 72 = .ok (.lmul, 1) := by decide +kernel
theorem dX4_floorSum_73 : decode cX4_floorSum 73 = .ok (.ladd, 1) := by decide +kernel
theorem dX4_floorSum_74 : decode cX4_floorSum 74 = .ok (.ladd, 1) := by decide +kernel
theorem dX4_floorSum_75 : decode cX4_floorSum 75 = .ok (.lstore 8, 2) := by decide +kernel
theorem dX4_floorSum_77 : decode cX4_floorSum 77 = .ok (.lload 14, 2) := by decide +kernel
theorem dX4_floorSum_79 : decode cX4_floorSum 79 = .ok (.lload 12, 2) := by decide +kernel
theorem dX4_floorSum_81 : decode cX4_floorSum 81 = .ok (.invokestatic 22, 3) := by decide +kernel
theorem dX4_floorSum_84 : decode cX4_floorSum 84 = .ok (.lstore 14, 2) := by decide +kernel
theorem dX4_floorSum_86 : decode cX4_floorSum 86 = .ok (.lload 16, 2) := by decide +kernel
theorem dX4_floorSum_88 : decode cX4_floorSum 88 = .ok (.lload 12, 2) := by decide +kernel
theorem dX4_floorSum_90 : decode cX4_floorSum 90 = .ok (.invokestatic 22, 3) := by decide +kernel
theorem dX4_floorSum_93 : decode cX4_floorSum 93 = .ok (.lstore 16, 2) := by decide +kernel
theorem dX4_floorSum_95 : decode cX4_floorSum 95 = .ok (.lload 14, 2) := by decide +kernel
theorem dX4_floorSum_97 : decode cX4_floorSum 97 = .ok (.lload 10, 2) := by decide +kernel
theorem dX4_floorSum_99 : decode cX4_floorSum 99 = .ok (.lmul, 1) := by decide +kernel
theorem dX4_floorSum_100 : decode cX4_floorSum 100 = .ok (.lload 16, 2) := by decide +kernel
theorem dX4_floorSum_102 : decode cX4_floorSum 102 = .ok (.ladd, 1) := by decide +kernel
theorem dX4_floorSum_103 : decode cX4_floorSum 103 = .ok (.lstore 19, 2) := by decide +kernel
theorem dX4_floorSum_105 : decode cX4_floorSum 105 = .ok (.lload 19, 2) := by decide +kernel
theorem dX4_floorSum_107 : decode cX4_floorSum 107 = .ok (.lload 12, 2) := by decide +kernel
theorem dX4_floorSum_109 : decode cX4_floorSum 109 = .ok (.invokestatic 30, 3) := by decide +kernel
theorem dX4_floorSum_112 : decode cX4_floorSum 112 = .ok (.lstore 10, 2) := by decide +kernel
theorem dX4_floorSum_114 : decode cX4_floorSum 114 = .ok (.lload 19, 2) := by decide +kernel
theorem dX4_floorSum_116 : decode cX4_floorSum 116 = .ok (.lload 12, 2) := by decide +kernel
theorem dX4_floorSum_118 : decode cX4_floorSum 118 = .ok (.invokestatic 22, 3) := by decide +kernel
theorem dX4_floorSum_121 : decode cX4_floorSum 121 = .ok (.lstore 16, 2) := by decide +kernel
theorem dX4_floorSum_123 : decode cX4_floorSum 123 = .ok (.lload 12, 2) := by decide +kernel
theorem dX4_floorSum_125 : decode cX4_floorSum 125 = .ok (.lstore 21, 2) := by decide +kernel
theorem dX4_floorSum_127 : decode cX4_floorSum 127 = .ok (.lload 14, 2) := by decide +kernel
theorem dX4_floorSum_129 : decode cX4_floorSum 129 = .ok (.lstore 12, 2) := by decide +kernel
theorem dX4_floorSum_131 : decode cX4_floorSum 131 = .ok (.lload 21, 2) := by decide +kernel
theorem dX4_floorSum_133 : decode cX4_floorSum 133 = .ok (.lstore 14, 2) := by decide +kernel
theorem dX4_floorSum_135 : decode cX4_floorSum 135 = .ok (.iinc 18 1, 3) := by decide +kernel
theorem dX4_floorSum_138 : decode cX4_floorSum 138 = .ok (.goto (-118), 3) := by decide +kernel
theorem dX4_floorSum_141 : decode cX4_floorSum 141 = .ok (.lload 8, 2) := by decide +kernel
theorem dX4_floorSum_143 : decode cX4_floorSum 143 = .ok (.lreturn, 1) := by decide +kernel
theorem dX5_init_0 : decode cX5_init 0 = .ok (.aload_n 0, 1) := by decide +kernel
theorem dX5_init_1 : decode cX5_init 1 = .ok (.invokespecial 3, 3) := by decide +kernel
theorem dX5_init_4 : decode cX5_init 4 = .ok (.aload_n 0, 1) := by decide +kernel
theorem dX5_init_5 : decode cX5_init 5 = .ok (.new 9, 3) := by decide +kernel
theorem dX5_init_8 : decode cX5_init 8 = .ok (.dup, 1) := by decide +kernel
theorem dX5_init_9 : decode cX5_init 9 = .ok (.invokespecial 11, 3) := by decide +kernel
theorem dX5_init_12 : decode cX5_init 12 = .ok (.putfield 12, 3) := by decide +kernel
theorem dX5_init_15 : decode cX5_init 15 = .ok (.aload_n 0, 1) := by decide +kernel
theorem dX5_init_16 : decode cX5_init 16 = .ok (.new 18, 3) := by decide +kernel
theorem dX5_init_19 : decode cX5_init 19 = .ok (.dup, 1) := by decide +kernel
theorem dX5_init_20 : decode cX5_init 20 = .ok (.invokespecial 20, 3) := by decide +kernel
theorem dX5_init_23 : decode cX5_init 23 = .ok (.putfield 21, 3) := by decide +kernel
theorem dX5_init_26 : decode cX5_init 26 = .ok (.aload_n 0, 1) := by decide +kernel
theorem dX5_init_27 : decode cX5_init 27 = .ok (.new 25, 3) := by decide +kernel
theorem dX5_init_30 : decode cX5_init 30 = .ok (.dup, 1) := by decide +kernel
theorem dX5_init_31 : decode cX5_init 31 = .ok (.invokespecial 27, 3) := by decide +kernel
theorem dX5_init_34 : decode cX5_init 34 = .ok (.putfield 28, 3) := by decide +kernel
theorem dX5_init_37 : decode cX5_init 37 = .ok (.aload_n 0, 1) := by decide +kernel
theorem dX5_init_38 : decode cX5_init 38 = .ok (.bipush 6, 2) := by decide +kernel
theorem dX5_init_40 : decode cX5_init 40 = .ok (.newarray .int, 2) := by decide +kernel
theorem dX5_init_42 : decode cX5_init 42 = .ok (.putfield 34, 3) := by decide +kernel
theorem dX5_init_45 : decode cX5_init 45 = .ok (.aload_n 0, 1) := by decide +kernel
theorem dX5_init_46 : decode cX5_init 46 = .ok (.bipush 8, 2) := by decide +kernel
theorem dX5_init_48 : decode cX5_init 48 = .ok (.anewarray 32, 3) := by decide +kernel
theorem dX5_init_51 : decode cX5_init 51 = .ok (.putfield 38, 3) := by decide +kernel
theorem dX5_init_54 : decode cX5_init 54 = .ok (.iconst 0, 1) := by decide +kernel
theorem dX5_init_55 : decode cX5_init 55 = .ok (.istore_n 1, 1) := by decide +kernel
theorem dX5_init_56 : decode cX5_init 56 = .ok (.iload_n 1, 1) := by decide +kernel
theorem dX5_init_57 : decode cX5_init 57 = .ok (.aload_n 0, 1) := by decide +kernel
theorem dX5_init_58 : decode cX5_init 58 = .ok (.getfield 38, 3) := by decide +kernel
theorem dX5_init_61 : decode cX5_init 61 = .ok (.arraylength, 1) := by decide +kernel
theorem dX5_init_62 : decode cX5_init 62 = .ok (.if_icmp .ge 22, 3) := by decide +kernel
theorem dX5_init_65 : decode cX5_init 65 = .ok (.aload_n 0, 1) := by decide +kernel
theorem dX5_init_66 : decode cX5_init 66 = .ok (.getfield 38, 3) := by decide +kernel
theorem dX5_init_69 : decode cX5_init 69 = .ok (.iload_n 1, 1) := by decide +kernel
theorem dX5_init_70 : decode cX5_init 70 = .ok (.new 32, 3) := by decide +kernel
theorem dX5_init_73 : decode cX5_init 73 = .ok (.dup, 1) := by decide +kernel
theorem dX5_init_74 : decode cX5_init 74 = .ok (.invokespecial 42, 3) := by decide +kernel
theorem dX5_init_77 : decode cX5_init 77 = .ok (.aastore, 1) := by decide +kernel
theorem dX5_init_78 : decode cX5_init 78 = .ok (.iinc 1 1, 3) := by decide +kernel
theorem dX5_init_81 : decode cX5_init 81 = .ok (.goto (-25), 3) := by decide +kernel
theorem dX5_init_84 : decode cX5_init 84 = .ok (.aload_n 0, 1) := by decide +kernel
theorem dX5_init_85 : decode cX5_init 85 = .ok (.new 32, 3) := by decide +kernel
theorem dX5_init_88 : decode cX5_init 88 = .ok (.dup, 1) := by decide +kernel
theorem dX5_init_89 : decode cX5_init 89 = .ok (.invokespecial 42, 3) := by decide +kernel
theorem dX5_init_92 : decode cX5_init 92 = .ok (.putfield 43, 3) := by decide +kernel
theorem dX5_init_95 : decode cX5_init 95 = .ok (.aload_n 0, 1) := by decide +kernel
theorem dX5_init_96 : decode cX5_init 96 = .ok (.new 32, 3) := by decide +kernel
theorem dX5_init_99 : decode cX5_init 99 = .ok (.dup, 1) := by decide +kernel
theorem dX5_init_100 : decode cX5_init 100 = .ok (.invokespecial 42, 3) := by decide +kernel
theorem dX5_init_103 : decode cX5_init 103 = .ok (.putfield 47, 3) := by decide +kernel
theorem dX5_init_106 : decode cX5_init 106 = .ok (.return_, 1) := by decide +kernel
theorem dX5_feed_0 : decode cX5_feed 0 = .ok (.aload_n 0, 1) := by decide +kernel
theorem dX5_feed_1 : decode cX5_feed 1 = .ok (.getfield 12, 3) := by decide +kernel
theorem dX5_feed_4 : decode cX5_feed 4 = .ok (.invokevirtual 50, 3) := by decide +kernel
theorem dX5_feed_7 : decode cX5_feed 7 = .ok (.ifCond .ne 5, 3) := by decide +kernel
theorem dX5_feed_10 : decode cX5_feed 10 = .ok (.iconst (-1), 1) := by decide +kernel
theorem dX5_feed_11 : decode cX5_feed 11 = .ok (.ireturn, 1) := by decide +kernel
theorem dX5_feed_12 : decode cX5_feed 12 = .ok (.aload_n 0, 1) := by decide +kernel
theorem dX5_feed_13 : decode cX5_feed 13 = .ok (.getfield 12, 3) := by decide +kernel
theorem dX5_feed_16 : decode cX5_feed 16 = .ok (.iload_n 1, 1) := by decide +kernel
theorem dX5_feed_17 : decode cX5_feed 17 = .ok (.invokevirtual 54, 3) := by decide +kernel
theorem dX5_feed_20 : decode cX5_feed 20 = .ok (.aload_n 0, 1) := by decide +kernel
theorem dX5_feed_21 : decode cX5_feed 21 = .ok (.getfield 12, 3) := by decide +kernel
theorem dX5_feed_24 : decode cX5_feed 24 = .ok (.iload_n 2, 1) := by decide +kernel
theorem dX5_feed_25 : decode cX5_feed 25 = .ok (.invokevirtual 54, 3) := by decide +kernel
theorem dX5_feed_28 : decode cX5_feed 28 = .ok (.aload_n 0, 1) := by decide +kernel
theorem dX5_feed_29 : decode cX5_feed 29 = .ok (.getfield 12, 3) := by decide +kernel
theorem dX5_feed_32 : decode cX5_feed 32 = .ok (.iload_n 3, 1) := by decide +kernel
theorem dX5_feed_33 : decode cX5_feed 33 = .ok (.invokevirtual 54, 3) := by decide +kernel
theorem dX5_feed_36 : decode cX5_feed 36 = .ok (.aload_n 0, 1) := by decide +kernel
theorem dX5_feed_37 : decode cX5_feed 37 = .ok (.getfield 12, 3) := by decide +kernel
theorem dX5_feed_40 : decode cX5_feed 40 = .ok (.iload 4, 2) := by decide +kernel
theorem dX5_feed_42 : decode cX5_feed 42 = .ok (.invokevirtual 54, 3) := by decide +kernel
theorem dX5_feed_45 : decode cX5_feed 45 = .ok (.aload_n 0, 1) := by decide +kernel
theorem dX5_feed_46 : decode cX5_feed 46 = .ok (.getfield 12, 3) := by decide +kernel
theorem dX5_feed_49 : decode cX5_feed 49 = .ok (.iload 5, 2) := by decide +kernel
theorem dX5_feed_51 : decode cX5_feed 51 = .ok (.invokevirtual 54, 3) := by decide +kernel
theorem dX5_feed_54 : decode cX5_feed 54 = .ok (.aload_n 0, 1) := by decide +kernel
theorem dX5_feed_55 : decode cX5_feed 55 = .ok (.getfield 12, 3) := by decide +kernel
theorem dX5_feed_58 : decode cX5_feed 58 = .ok (.getfield 58, 3) := by decide +kernel
theorem dX5_feed_61 : decode cX5_feed 61 = .ok (.ireturn, 1) := by decide +kernel
theorem dX5_fan_0 : decode cX5_fan 0 = .ok (.iload_n 1, 1) := by decide +kernel
theorem dX5_fan_1 : decode cX5_fan 1 = .ok (.ifCond .lt 14, 3) := by decide +kernel
theorem dX5_fan_4 : decode cX5_fan 4 = .ok (.iload_n 1, 1) := by decide +kernel
theorem dX5_fan_5 : decode cX5_fan 5 = .ok (.aload_n 0, 1) := by decide +kernel
theorem dX5_fan_6 : decode cX5_fan 6 = .ok (.getfield 12, 3) := by decide +kernel
theorem dX5_fan_9 : decode cX5_fan 9 = .ok (.getfield 58, 3) := by decide +kernel
theorem dX5_fan_12 : decode cX5_fan 12 = .ok (.if_icmp .le 10, 3) := by decide +kernel
theorem dX5_fan_15 : decode cX5_fan 15 = .ok (.aload_n 0, 1) := by decide +kernel
theorem dX5_fan_16 : decode cX5_fan 16 = .ok (.iconst 2, 1) := by decide +kernel
theorem dX5_fan_17 : decode cX5_fan 17 = .ok (.putfield 62, 3) := by decide +kernel
theorem dX5_fan_20 : decode cX5_fan 20 = .ok (.iconst (-1), 1) := by decide +kernel
theorem dX5_fan_21 : decode cX5_fan 21 = .ok (.ireturn, 1) := by decide +kernel
theorem dX5_fan_22 : decode cX5_fan 22 = .ok (.aload_n 0, 1) := by decide +kernel
theorem dX5_fan_23 : decode cX5_fan 23 = .ok (.aload_n 0, 1) := by decide +kernel
theorem dX5_fan_24 : decode cX5_fan 24 = .ok (.getfield 12, 3) := by decide +kernel
theorem dX5_fan_27 : decode cX5_fan 27 = .ok (.iload_n 1, 1) := by decide +kernel
theorem dX5_fan_28 : decode cX5_fan 28 = .ok (.invokevirtual 65, 3) := by decide +kernel
theorem dX5_fan_31 : decode cX5_fan 31 = .ok (.putfield 69, 3) := by decide +kernel
theorem dX5_fan_34 : decode cX5_fan 34 = .ok (.aload_n 0, 1) := by decide +kernel
theorem dX5_fan_35 : decode cX5_fan 35 = .ok (.aload_n 0, 1) := by decide +kernel
theorem dX5_fan_36 : decode cX5_fan 36 = .ok (.getfield 12, 3) := by decide +kernel
theorem dX5_fan_39 : decode cX5_fan 39 = .ok (.getfield 72, 3) := by decide +kernel
theorem dX5_fan_42 : decode cX5_fan 42 = .ok (.putfield 75, 3) := by decide +kernel
theorem dX5_fan_45 : decode cX5_fan 45 = .ok (.aload_n 0, 1) := by decide +kernel
theorem dX5_fan_46 : decode cX5_fan 46 = .ok (.getfield 12, 3) := by decide +kernel
theorem dX5_fan_49 : decode cX5_fan 49 = .ok (.iconst 0, 1) := by decide +kernel
theorem dX5_fan_50 : decode cX5_fan 50 = .ok (.putfield 58, 3) := by decide +kernel
theorem dX5_fan_53 : decode cX5_fan 53 = .ok (.aload_n 0, 1) := by decide +kernel
theorem dX5_fan_54 : decode cX5_fan 54 = .ok (.getfield 69, 3) := by decide +kernel
theorem dX5_fan_57 : decode cX5_fan 57 = .ok (.ifCond .ne 33, 3) := by decide +kernel
theorem dX5_fan_60 : decode cX5_fan 60 = .ok (.aload_n 0, 1) := by decide +kernel
theorem dX5_fan_61 : decode cX5_fan 61 = .ok (.getfield 47, 3) := by decide +kernel
theorem dX5_fan_64 : decode cX5_fan 64 = .ok (.aload_n 0, 1) := by decide +kernel
theorem dX5_fan_65 : decode cX5_fan 65 = .ok (.getfield 12, 3) := by decide +kernel
theorem dX5_fan_68 : decode cX5_fan 68 = .ok (.invokevirtual 78, 3) := by decide +kernel
theorem dX5_fan_71 : decode cX5_fan 71 = .ok (.aload_n 0, 1) := by decide +kernel
theorem dX5_fan_72 : decode cX5_fan 72 = .ok (.aload_n 0, 1) := by decide +kernel
theorem dX5_fan_73 : decode cX5_fan 73 = .ok (.getfield 47, 3) := by decide +kernel
theorem dX5_fan_76 : decode cX5_fan 76 = .ok (.invokevirtual 82, 3) := by decide +kernel
theorem dX5_fan_79 : decode cX5_fan 79 = .ok (.ifCond .eq 7, 3) := by decide +kernel
theorem dX5_fan_82 : decode cX5_fan 82 = .ok (.iconst 0, 1) := by decide +kernel
theorem dX5_fan_83 : decode cX5_fan 83 = .ok (.goto 4, 3) := by decide +kernel
theorem dX5_fan_86 : decode cX5_fan 86 = .ok (.iconst 5, 1) := by decide +kernel
theorem dX5_fan_87 : decode cX5_fan 87 = .ok (.putfield 69, 3) := by decide +kernel
theorem dX5_fan_90 : decode cX5_fan 90 = .ok (.aload_n 0, 1) := by decide +kernel
theorem dX5_fan_91 : decode cX5_fan 91 = .ok (.getfield 69, 3) := by decide +kernel
theorem dX5_fan_94 : decode cX5_fan 94 = .ok (.ifCond .eq 10, 3) := by decide +kernel
theorem dX5_fan_97 : decode cX5_fan 97 = .ok (.aload_n 0, 1) := by decide +kernel
theorem dX5_fan_98 : decode cX5_fan 98 = .ok (.iconst 4, 1) := by decide +kernel
theorem dX5_fan_99 : decode cX5_fan 99 = .ok (.putfield 62, 3) := by decide +kernel
theorem dX5_fan_102 : decode cX5_fan 102 = .ok (.iconst (-1), 1) := by decide +kernel
theorem dX5_fan_103 : decode cX5_fan 103 = .ok (.ireturn, 1) := by decide +kernel
theorem dX5_fan_104 : decode cX5_fan 104 = .ok (.aload_n 0, 1) := by decide +kernel
theorem dX5_fan_105 : decode cX5_fan 105 = .ok (.getfield 12, 3) := by decide +kernel
theorem dX5_fan_108 : decode cX5_fan 108 = .ok (.getfield 85, 3) := by decide +kernel
theorem dX5_fan_111 : decode cX5_fan 111 = .ok (.iconst 0, 1) := by decide +kernel
theorem dX5_fan_112 : decode cX5_fan 112 = .ok (.aload_n 0, 1) := by decide +kernel
theorem dX5_fan_113 : decode cX5_fan 113 = .ok (.getfield 34, 3) := by decide +kernel
theorem dX5_fan_116 : decode cX5_fan 116 = .ok (.iconst 0, 1) := by decide +kernel
theorem dX5_fan_117 : decode cX5_fan 117 = .ok (.aload_n 0, 1) := by decide +kernel
theorem dX5_fan_118 : decode cX5_fan 118 = .ok (.getfield 34, 3) := by decide +kernel
theorem dX5_fan_121 : decode cX5_fan 121 = .ok (.arraylength, 1) := by decide +kernel
theorem dX5_fan_122 : decode cX5_fan 122 = .ok (.invokestatic 88, 3) := by decide +kernel
theorem dX5_fan_125 : decode cX5_fan 125 = .ok (.aload_n 0, 1) := by decide +kernel
theorem dX5_fan_126 : decode cX5_fan 126 = .ok (.getfield 43, 3) := by decide +kernel
theorem dX5_fan_129 : decode cX5_fan 129 = .ok (.astore_n 2, 1) := by decide +kernel
theorem dX5_fan_130 : decode cX5_fan 130 = .ok (.aload_n 0, 1) := by decide +kernel
theorem dX5_fan_131 : decode cX5_fan 131 = .ok (.aload_n 0, 1) := by decide +kernel
theorem dX5_fan_132 : decode cX5_fan 132 = .ok (.getfield 47, 3) := by decide +kernel
theorem dX5_fan_135 : decode cX5_fan 135 = .ok (.putfield 43, 3) := by decide +kernel
theorem dX5_fan_138 : decode cX5_fan 138 = .ok (.aload_n 0, 1) := by decide +kernel
theorem dX5_fan_139 : decode cX5_fan 139 = .ok (.aload_n 2, 1) := by decide +kernel
theorem dX5_fan_140 : decode cX5_fan 140 = .ok (.putfield 47, 3) := by decide +kernel
theorem dX5_fan_143 : decode cX5_fan 143 = .ok (.aload_n 0, 1) := by decide +kernel
theorem dX5_fan_144 : decode cX5_fan 144 = .ok (.iconst 0, 1) := by decide +kernel
theorem dX5_fan_145 : decode cX5_fan 145 = .ok (.putfield 94, 3) := by decide +kernel
theorem dX5_fan_148 : decode cX5_fan 148 = .ok (.aload_n 0, 1) := by decide +kernel
theorem dX5_fan_149 : decode cX5_fan 149 = .ok (.iconst 0, 1) := by decide +kernel
theorem dX5_fan_150 : decode cX5_fan 150 = .ok (.putfield 62, 3) := by decide +kernel
theorem dX5_fan_153 : decode cX5_fan 153 = .ok (.aload_n 0, 1) := by decide +kernel
theorem dX5_fan_154 : decode cX5_fan 154 = .ok (.getfield 43, 3) := by decide +kernel
theorem dX5_fan_157 : decode cX5_fan 157 = .ok (.getfield 97, 3) := by decide +kernel
theorem dX5_fan_160 : decode cX5_fan 160 = .ok (.ireturn, 1) := by decide +kernel
theorem dX5_fault_0 : decode cX5_fault 0 = .ok (.aload_n 0, 1) := by decide +kernel
theorem dX5_fault_1 : decode cX5_fault 1 = .ok (.getfield 69, 3) := by decide +kernel
theorem dX5_fault_4 : decode cX5_fault 4 = .ok (.ireturn, 1) := by decide +kernel
theorem dX5_where_0 : decode cX5_where 0 = .ok (.aload_n 0, 1) := by decide +kernel
theorem dX5_where_1 : decode cX5_where 1 = .ok (.getfield 62, 3) := by decide +kernel
theorem dX5_where_4 : decode cX5_where 4 = .ok (.iconst 4, 1) := by decide +kernel
theorem dX5_where_5 : decode cX5_where 5 = .ok (.if_icmp .ne 10, 3) := by decide +kernel
theorem dX5_where_8 : decode cX5_where 8 = .ok (.aload_n 0, 1) := by decide +kernel
theorem dX5_where_9 : decode cX5_where 9 = .ok (.getfield 75, 3) := by decide +kernel
theorem dX5_where_12 : decode cX5_where 12 = .ok (.goto 4, 3) := by decide +kernel
theorem dX5_where_15 : decode cX5_where 15 = .ok (.iconst (-1), 1) := by decide +kernel
theorem dX5_where_16 : decode cX5_where 16 = .ok (.ireturn, 1) := by decide +kernel
theorem dX5_about_0 : decode cX5_about 0 = .ok (.aload_n 0, 1) := by decide +kernel
theorem dX5_about_1 : decode cX5_about 1 = .ok (.aload_n 0, 1) := by decide +kernel
theorem dX5_about_2 : decode cX5_about 2 = .ok (.invokevirtual 100, 3) := by decide +kernel
theorem dX5_about_5 : decode cX5_about 5 = .ok (.ifCond .eq 17, 3) := by decide +kernel
theorem dX5_about_8 : decode cX5_about 8 = .ok (.iload_n 1, 1) := by decide +kernel
theorem dX5_about_9 : decode cX5_about 9 = .ok (.ifCond .lt 13, 3) := by decide +kernel
theorem dX5_about_12 : decode cX5_about 12 = .ok (.iload_n 1, 1) := by decide +kernel
theorem dX5_about_13 : decode cX5_about 13 = .ok (.bipush 7, 2) := by decide +kernel
theorem dX5_about_15 : decode cX5_about 15 = .ok (.if_icmp .gt 7, 3) := by decide +kernel
theorem dX5_about_18 : decode cX5_about 18 = .ok (.iconst 0, 1) := by decide +kernel
theorem dX5_about_19 : decode cX5_about 19 = .ok (.goto 4, 3) := by decide +kernel
theorem dX5_about_22 : decode cX5_about 22 = .ok (.iconst 1, 1) := by decide +kernel
theorem dX5_about_23 : decode cX5_about 23 = .ok (.putfield 62, 3) := by decide +kernel
theorem dX5_about_26 : decode cX5_about 26 = .ok (.aload_n 0, 1) := by decide +kernel
theorem dX5_about_27 : decode cX5_about 27 = .ok (.getfield 62, 3) := by decide +kernel
theorem dX5_about_30 : decode cX5_about 30 = .ok (.ifCond .eq 5, 3) := by decide +kernel
theorem dX5_about_33 : decode cX5_about 33 = .ok (.iconst (-1), 1) := by decide +kernel
theorem dX5_about_34 : decode cX5_about 34 = .ok (.ireturn, 1) := by decide +kernel
theorem dX5_about_35 : decode cX5_about 35 = .ok (.iload_n 1, 1) := by decide +kernel
theorem dX5_about_36 : decode cX5_about 36 = .ok (.tableswitch 97 0 6 #[44, 52, 60, 68, 76, 84, 89], 44) := by decide +kernel
theorem dX5_about_80 : decode cX5_about 80 = .ok (.aload_n 0, 1) := by decide +kernel
theorem dX5_about_81 : decode cX5_about 81 = .ok (.getfield 43, 3) := by decide +kernel
theorem dX5_about_84 : decode cX5_about 84 = .ok (.getfield 97, 3) := by decide +kernel
theorem dX5_about_87 : decode cX5_about 87 = .ok (.ireturn, 1) := by decide +kernel
theorem dX5_about_88 : decode cX5_about 88 = .ok (.aload_n 0, 1) := by decide +kernel
theorem dX5_about_89 : decode cX5_about 89 = .ok (.getfield 43, 3) := by decide +kernel
theorem dX5_about_92 : decode cX5_about 92 = .ok (.getfield 103, 3) := by decide +kernel
theorem dX5_about_95 : decode cX5_about 95 = .ok (.ireturn, 1) := by decide +kernel
theorem dX5_about_96 : decode cX5_about 96 = .ok (.aload_n 0, 1) := by decide +kernel
theorem dX5_about_97 : decode cX5_about 97 = .ok (.getfield 43, 3) := by decide +kernel
theorem dX5_about_100 : decode cX5_about 100 = .ok (.invokevirtual 106, 3) := by decide +kernel
theorem dX5_about_103 : decode cX5_about 103 = .ok (.ireturn, 1) := by decide +kernel
theorem dX5_about_104 : decode cX5_about 104 = .ok (.aload_n 0, 1) := by decide +kernel
theorem dX5_about_105 : decode cX5_about 105 = .ok (.getfield 43, 3) := by decide +kernel
theorem dX5_about_108 : decode cX5_about 108 = .ok (.invokevirtual 110, 3) := by decide +kernel
theorem dX5_about_111 : decode cX5_about 111 = .ok (.ireturn, 1) := by decide +kernel
theorem dX5_about_112 : decode cX5_about 112 = .ok (.aload_n 0, 1) := by decide +kernel
theorem dX5_about_113 : decode cX5_about 113 = .ok (.getfield 43, 3) := by decide +kernel
theorem dX5_about_116 : decode cX5_about 116 = .ok (.invokevirtual 113, 3) := by decide +kernel
theorem dX5_about_119 : decode cX5_about 119 = .ok (.ireturn, 1) := by decide +kernel
theorem dX5_about_120 : decode cX5_about 120 = .ok (.aload_n 0, 1) := by decide +kernel
theorem dX5_about_121 : decode cX5_about 121 = .ok (.getfield 94, 3) := by decide +kernel
theorem dX5_about_124 : decode cX5_about 124 = .ok (.ireturn, 1) := by decide +kernel
theorem dX5_about_125 : decode cX5_about 125 = .ok (.aload_n 0, 1) := by decide +kernel
theorem dX5_about_126 : decode cX5_about 126 = .ok (.getfield 43, 3) := by decide +kernel
theorem dX5_about_129 : decode cX5_about 129 = .ok (.invokevirtual 116, 3) := by decide +kernel
theorem dX5_about_132 : decode cX5_about 132 = .ok (.ireturn, 1) := by decide +kernel
theorem dX5_about_133 : decode cX5_about 133 = .ok (.aload_n 0, 1) := by decide +kernel
theorem dX5_about_134 : decode cX5_about 134 = .ok (.getfield 43, 3) := by decide +kernel
theorem dX5_about_137 : decode cX5_about 137 = .ok (.invokevirtual 119, 3) := by decide +kernel
theorem dX5_about_140 : decode cX5_about 140 = .ok (.ireturn, 1) := by decide +kernel
theorem dX5_measure_0 : decode cX5_measure 0 = .ok (.aload_n 0, 1) := by decide +kernel
theorem dX5_measure_1 : decode cX5_measure 1 = .ok (.aload_n 0, 1) := by decide +kernel
theorem dX5_measure_2 : decode cX5_measure 2 = .ok (.invokevirtual 100, 3) := by decide +kernel
theorem dX5_measure_5 : decode cX5_measure 5 = .ok (.ifCond .eq 7, 3) := by decide +kernel
theorem dX5_measure_8 : decode cX5_measure 8 = .ok (.iconst 0, 1) := by decide +kernel
theorem dX5_measure_9 : decode cX5_measure 9 = .ok (.goto 4, 3) := by decide +kernel
theorem dX5_measure_12 : decode cX5_measure 12 = .ok (.iconst 1, 1) := by decide +kernel
theorem dX5_measure_13 : decode cX5_measure 13 = .ok (.putfield 62, 3) := by decide +kernel
theorem dX5_measure_16 : decode cX5_measure 16 = .ok (.aload_n 0, 1) := by decide +kernel
theorem dX5_measure_17 : decode cX5_measure 17 = .ok (.getfield 62, 3) := by decide +kernel
theorem dX5_measure_20 : decode cX5_measure 20 = .ok (.ifCond .eq 7, 3) := by decide +kernel
theorem dX5_measure_23 : decode cX5_measure 23 = .ok (.iconst (-1), 1) := by decide +kernel
theorem dX5_measure_24 : decode cX5_measure 24 = .ok (.goto 8, 3) := by decide +kernel
theorem dX5_measure_27 : decode cX5_measure 27 = .ok (.aload_n 0, 1) := by decide +kernel
theorem dX5_measure_28 : decode cX5_measure 28 = .ok (.invokevirtual 122, 3) := by decide +kernel
theorem dX5_measure_31 : decode cX5_measure 31 = .ok (.l2i, 1) := by decide +kernel
theorem dX5_measure_32 : decode cX5_measure 32 = .ok (.ireturn, 1) := by decide +kernel
theorem dX5_ray_0 : decode cX5_ray 0 = .ok (.aload_n 0, 1) := by decide +kernel
theorem dX5_ray_1 : decode cX5_ray 1 = .ok (.aload_n 0, 1) := by decide +kernel
theorem dX5_ray_2 : decode cX5_ray 2 = .ok (.iload_n 1, 1) := by decide +kernel
theorem dX5_ray_3 : decode cX5_ray 3 = .ok (.invokevirtual 126, 3) := by decide +kernel
theorem dX5_ray_6 : decode cX5_ray 6 = .ok (.ifCond .eq 16, 3) := by decide +kernel
theorem dX5_ray_9 : decode cX5_ray 9 = .ok (.iload_n 2, 1) := by decide +kernel
theorem dX5_ray_10 : decode cX5_ray 10 = .ok (.ifCond .lt 12, 3) := by decide +kernel
theorem dX5_ray_13 : decode cX5_ray 13 = .ok (.iload_n 2, 1) := by decide +kernel
theorem dX5_ray_14 : decode cX5_ray 14 = .ok (.iconst 4, 1) := by decide +kernel
theorem dX5_ray_15 : decode cX5_ray 15 = .ok (.if_icmp .gt 7, 3) := by decide +kernel
theorem dX5_ray_18 : decode cX5_ray 18 = .ok (.iconst 0, 1) := by decide +kernel
theorem dX5_ray_19 : decode cX5_ray 19 = .ok (.goto 4, 3) := by decide +kernel
theorem dX5_ray_22 : decode cX5_ray 22 = .ok (.iconst 1, 1) := by decide +kernel
theorem dX5_ray_23 : decode cX5_ray 23 = .ok (.putfield 62, 3) := by decide +kernel
theorem dX5_ray_26 : decode cX5_ray 26 = .ok (.aload_n 0, 1) := by decide +kernel
theorem dX5_ray_27 : decode cX5_ray 27 = .ok (.getfield 62, 3) := by decide +kernel
theorem dX5_ray_30 : decode cX5_ray 30 = .ok (.ifCond .eq 7, 3) := by decide +kernel
theorem dX5_ray_33 : decode cX5_ray 33 = .ok (.ldc2_w 130, 3) := by decide +kernel
theorem dX5_ray_36 : decode cX5_ray 36 = .ok (.lreturn, 1) := by decide +kernel
theorem dX5_ray_37 : decode cX5_ray 37 = .ok (.iload_n 2, 1) := by decide +kernel
theorem dX5_ray_38 : decode cX5_ray 38 = .ok (.tableswitch 70 0 3 #[30, 40, 50, 60], 30) := by decide +kernel
theorem dX5_ray_68 : decode cX5_ray 68 = .ok (.aload_n 0, 1) := by decide +kernel
theorem dX5_ray_69 : decode cX5_ray 69 = .ok (.getfield 43, 3) := by decide +kernel
theorem dX5_ray_72 : decode cX5_ray 72 = .ok (.iload_n 1, 1) := by decide +kernel
theorem dX5_ray_73 : decode cX5_ray 73 = .ok (.invokevirtual 132, 3) := by decide +kernel
theorem dX5_ray_76 : decode cX5_ray 76 = .ok (.i2l, 1) := by decide +kernel
theorem dX5_ray_77 : decode cX5_ray 77 = .ok (.lreturn, 1) := by decide +kernel
theorem dX5_ray_78 : decode cX5_ray 78 = .ok (.aload_n 0, 1) := by decide +kernel
theorem dX5_ray_79 : decode cX5_ray 79 = .ok (.getfield 43, 3) := by decide +kernel
theorem dX5_ray_82 : decode cX5_ray 82 = .ok (.iload_n 1, 1) := by decide +kernel
theorem dX5_ray_83 : decode cX5_ray 83 = .ok (.invokevirtual 135, 3) := by decide +kernel
theorem dX5_ray_86 : decode cX5_ray 86 = .ok (.i2l, 1) := by decide +kernel
theorem dX5_ray_87 : decode cX5_ray 87 = .ok (.lreturn, 1) := by decide +kernel
theorem dX5_ray_88 : decode cX5_ray 88 = .ok (.aload_n 0, 1) := by decide +kernel
theorem dX5_ray_89 : decode cX5_ray 89 = .ok (.getfield 43, 3) := by decide +kernel
theorem dX5_ray_92 : decode cX5_ray 92 = .ok (.iload_n 1, 1) := by decide +kernel
theorem dX5_ray_93 : decode cX5_ray 93 = .ok (.invokevirtual 138, 3) := by decide +kernel
theorem dX5_ray_96 : decode cX5_ray 96 = .ok (.i2l, 1) := by decide +kernel
theorem dX5_ray_97 : decode cX5_ray 97 = .ok (.lreturn, 1) := by decide +kernel
theorem dX5_ray_98 : decode cX5_ray 98 = .ok (.aload_n 0, 1) := by decide +kernel
theorem dX5_ray_99 : decode cX5_ray 99 = .ok (.getfield 43, 3) := by decide +kernel
theorem dX5_ray_102 : decode cX5_ray 102 = .ok (.iload_n 1, 1) := by decide +kernel
theorem dX5_ray_103 : decode cX5_ray 103 = .ok (.invokevirtual 141, 3) := by decide +kernel
theorem dX5_ray_106 : decode cX5_ray 106 = .ok (.i2l, 1) := by decide +kernel
theorem dX5_ray_107 : decode cX5_ray 107 = .ok (.lreturn, 1) := by decide +kernel
theorem dX5_ray_108 : decode cX5_ray 108 = .ok (.aload_n 0, 1) := by decide +kernel
theorem dX5_ray_109 : decode cX5_ray 109 = .ok (.getfield 21, 3) := by decide +kernel
theorem dX5_ray_112 : decode cX5_ray 112 = .ok (.aload_n 0, 1) := by decide +kernel
theorem dX5_ray_113 : decode cX5_ray 113 = .ok (.getfield 43, 3) := by decide +kernel
theorem dX5_ray_116 : decode cX5_ray 116 = .ok (.iload_n 1, 1) := by decide +kernel
theorem dX5_ray_117 : decode cX5_ray 117 = .ok (.invokevirtual 138, 3) := by decide +kernel
theorem dX5_ray_120 : decode cX5_ray 120 = .ok (.aload_n 0, 1) := by decide +kernel
theorem dX5_ray_121 : decode cX5_ray 121 = .ok (.getfield 43, 3) := by decide +kernel
theorem dX5_ray_124 : decode cX5_ray 124 = .ok (.iload_n 1, 1) := by decide +kernel
theorem dX5_ray_125 : decode cX5_ray 125 = .ok (.invokevirtual 141, 3) := by decide +kernel
theorem dX5_ray_128 : decode cX5_ray 128 = .ok (.invokevirtual 144, 3) := by decide +kernel
theorem dX5_ray_131 : decode cX5_ray 131 = .ok (.aload_n 0, 1) := by decide +kernel
theorem dX5_ray_132 : decode cX5_ray 132 = .ok (.getfield 21, 3) := by decide +kernel
theorem dX5_ray_135 : decode cX5_ray 135 = .ok (.invokevirtual 148, 3) := by decide +kernel
theorem dX5_ray_138 : decode cX5_ray 138 = .ok (.i2l, 1) := by decide +kernel
theorem dX5_ray_139 : decode cX5_ray 139 = .ok (.lreturn, 1) := by decide +kernel
theorem dX5_chain_0 : decode cX5_chain 0 = .ok (.aload_n 0, 1) := by decide +kernel
theorem dX5_chain_1 : decode cX5_chain 1 = .ok (.aload_n 0, 1) := by decide +kernel
theorem dX5_chain_2 : decode cX5_chain 2 = .ok (.iload_n 1, 1) := by decide +kernel
theorem dX5_chain_3 : decode cX5_chain 3 = .ok (.invokevirtual 126, 3) := by decide +kernel
theorem dX5_chain_6 : decode cX5_chain 6 = .ok (.ifCond .eq 11, 3) := by decide +kernel
theorem dX5_chain_9 : decode cX5_chain 9 = .ok (.iload_n 2, 1) := by decide +kernel
theorem dX5_chain_10 : decode cX5_chain 10 = .ok (.ifCond .lt 7, 3) := by decide +kernel
theorem dX5_chain_13 : decode cX5_chain 13 = .ok (.iconst 0, 1) := by decide +kernel
theorem dX5_chain_14 : decode cX5_chain 14 = .ok (.goto 4, 3) := by decide +kernel
theorem dX5_chain_17 : decode cX5_chain 17 = .ok (.iconst 1, 1) := by decide +kernel
theorem dX5_chain_18 : decode cX5_chain 18 = .ok (.putfield 62, 3) := by decide +kernel
theorem dX5_chain_21 : decode cX5_chain 21 = .ok (.aload_n 0, 1) := by decide +kernel
theorem dX5_chain_22 : decode cX5_chain 22 = .ok (.getfield 62, 3) := by decide +kernel
theorem dX5_chain_25 : decode cX5_chain 25 = .ok (.ifCond .eq 5, 3) := by decide +kernel
theorem dX5_chain_28 : decode cX5_chain 28 = .ok (.iconst (-1), 1) := by decide +kernel
theorem dX5_chain_29 : decode cX5_chain 29 = .ok (.ireturn, 1) := by decide +kernel
theorem dX5_chain_30 : decode cX5_chain 30 = .ok (.aload_n 0, 1) := by decide +kernel
theorem dX5_chain_31 : decode cX5_chain 31 = .ok (.getfield 21, 3) := by decide +kernel
theorem dX5_chain_34 : decode cX5_chain 34 = .ok (.aload_n 0, 1) := by decide +kernel
theorem dX5_chain_35 : decode cX5_chain 35 = .ok (.getfield 43, 3) := by decide +kernel
theorem dX5_chain_38 : decode cX5_chain 38 = .ok (.iload_n 1, 1) := by decide +kernel
theorem dX5_chain_39 : decode cX5_chain 39 = .ok (.invokevirtual 138, 3) := by decide +kernel
theorem dX5_chain_42 : decode cX5_chain 42 = .ok (.aload_n 0, 1) := by decide +kernel
theorem dX5_chain_43 : decode cX5_chain 43 = .ok (.getfield 43, 3) := by decide +kernel
theorem dX5_chain_46 : decode cX5_chain 46 = .ok (.iload_n 1, 1) := by decide +kernel
theorem dX5_chain_47 : decode cX5_chain 47 = .ok (.invokevirtual 141, 3) := by decide +kernel
theorem dX5_chain_50 : decode cX5_chain 50 = .ok (.invokevirtual 144, 3) := by decide +kernel
theorem dX5_chain_53 : decode cX5_chain 53 = .ok (.aload_n 0, 1) := by decide +kernel
theorem dX5_chain_54 : decode cX5_chain 54 = .ok (.getfield 21, 3) := by decide +kernel
theorem dX5_chain_57 : decode cX5_chain 57 = .ok (.iload_n 2, 1) := by decide +kernel
theorem dX5_chain_58 : decode cX5_chain 58 = .ok (.invokevirtual 151, 3) := by decide +kernel
theorem dX5_chain_61 : decode cX5_chain 61 = .ok (.ifCond .eq 13, 3) := by decide +kernel
theorem dX5_chain_64 : decode cX5_chain 64 = .ok (.aload_n 0, 1) := by decide +kernel
theorem dX5_chain_65 : decode cX5_chain 65 = .ok (.getfield 21, 3) := by decide +kernel
theorem dX5_chain_68 : decode cX5_chain 68 = .ok (.invokevirtual 154, 3) := by decide +kernel
theorem dX5_chain_71 : decode cX5_chain 71 = .ok (.goto 5, 3) := by decide +kernel
theorem dX5_chain_74 : decode cX5_chain 74 = .ok (.bipush (-2), 2) := by decide +kernel
theorem dX5_chain_76 : decode cX5_chain 76 = .ok (.ireturn, 1) := by decide +kernel
theorem dX5_cone_0 : decode cX5_cone 0 = .ok (.aload_n 0, 1) := by decide +kernel
theorem dX5_cone_1 : decode cX5_cone 1 = .ok (.aload_n 0, 1) := by decide +kernel
theorem dX5_cone_2 : decode cX5_cone 2 = .ok (.invokevirtual 100, 3) := by decide +kernel
theorem dX5_cone_5 : decode cX5_cone 5 = .ok (.ifCond .ne 7, 3) := by decide +kernel
theorem dX5_cone_8 : decode cX5_cone 8 = .ok (.iconst 1, 1) := by decide +kernel
theorem dX5_cone_9 : decode cX5_cone 9 = .ok (.goto 24, 3) := by decide +kernel
theorem dX5_cone_12 : decode cX5_cone 12 = .ok (.iload_n 1, 1) := by decide +kernel
theorem dX5_cone_13 : decode cX5_cone 13 = .ok (.iload_n 2, 1) := by decide +kernel
theorem dX5_cone_14 : decode cX5_cone 14 = .ok (.invokestatic 157, 3) := by decide +kernel
theorem dX5_cone_17 : decode cX5_cone 17 = .ok (.ifCond .ne 11, 3) := by decide +kernel
theorem dX5_cone_20 : decode cX5_cone 20 = .ok (.iload_n 1, 1) := by decide +kernel
theorem dX5_cone_21 : decode cX5_cone 21 = .ok (.ifCond .ne 11, 3) := by decide +kernel
theorem dX5_cone_24 : decode cX5_cone 24 = .ok (.iload_n 2, 1) := by decide +kernel
theorem dX5_cone_25 : decode cX5_cone 25 = .ok (.ifCond .ne 7, 3) := by decide +kernel
theorem dX5_cone_28 : decode cX5_cone 28 = .ok (.iconst 2, 1) := by decide +kernel
theorem dX5_cone_29 : decode cX5_cone 29 = .ok (.goto 4, 3) := by decide +kernel
theorem dX5_cone_32 : decode cX5_cone 32 = .ok (.iconst 0, 1) := by decide +kernel
theorem dX5_cone_33 : decode cX5_cone 33 = .ok (.putfield 62, 3) := by decide +kernel
theorem dX5_cone_36 : decode cX5_cone 36 = .ok (.aload_n 0, 1) := by decide +kernel
theorem dX5_cone_37 : decode cX5_cone 37 = .ok (.getfield 62, 3) := by decide +kernel
theorem dX5_cone_40 : decode cX5_cone 40 = .ok (.ifCond .eq 7, 3) := by decide +kernel
theorem dX5_cone_43 : decode cX5_cone 43 = .ok (.iconst (-1), 1) := by decide +kernel
theorem dX5_cone_44 : decode cX5_cone 44 = .ok (.goto 12, 3) := by decide +kernel
theorem dX5_cone_47 : decode cX5_cone 47 = .ok (.aload_n 0, 1) := by decide +kernel
theorem dX5_cone_48 : decode cX5_cone 48 = .ok (.getfield 43, 3) := by decide +kernel
theorem dX5_cone_51 : decode cX5_cone 51 = .ok (.iload_n 1, 1) := by decide +kernel
theorem dX5_cone_52 : decode cX5_cone 52 = .ok (.iload_n 2, 1) := by decide +kernel
theorem dX5_cone_53 : decode cX5_cone 53 = .ok (.invokevirtual 161, 3) := by decide +kernel
theorem dX5_cone_56 : decode cX5_cone 56 = .ok (.ireturn, 1) := by decide +kernel
theorem dX5_load_0 : decode cX5_load 0 = .ok (.aload_n 0, 1) := by decide +kernel
theorem dX5_load_1 : decode cX5_load 1 = .ok (.aload_n 0, 1) := by decide +kernel
theorem dX5_load_2 : decode cX5_load 2 = .ok (.iload_n 1, 1) := by decide +kernel
theorem dX5_load_3 : decode cX5_load 3 = .ok (.invokevirtual 165, 3) := by decide +kernel
theorem dX5_load_6 : decode cX5_load 6 = .ok (.ifCond .eq 15, 3) := by decide +kernel
theorem dX5_load_9 : decode cX5_load 9 = .ok (.aload_n 0, 1) := by decide +kernel
theorem dX5_load_10 : decode cX5_load 10 = .ok (.iload_n 2, 1) := by decide +kernel
theorem dX5_load_11 : decode cX5_load 11 = .ok (.invokevirtual 126, 3) := by decide +kernel
theorem dX5_load_14 : decode cX5_load 14 = .ok (.ifCond .eq 7, 3) := by decide +kernel
theorem dX5_load_17 : decode cX5_load 17 = .ok (.iconst 0, 1) := by decide +kernel
theorem dX5_load_18 : decode cX5_load 18 = .ok (.goto 4, 3) := by decide +kernel
theorem dX5_load_21 : decode cX5_load 21 = .ok (.iconst 1, 1) := by decide +kernel
theorem dX5_load_22 : decode cX5_load 22 = .ok (.putfield 62, 3) := by decide +kernel
theorem dX5_load_25 : decode cX5_load 25 = .ok (.aload_n 0, 1) := by decide +kernel
theorem dX5_load_26 : decode cX5_load 26 = .ok (.getfield 62, 3) := by decide +kernel
theorem dX5_load_29 : decode cX5_load 29 = .ok (.ifCond .eq 9, 3) := by decide +kernel
theorem dX5_load_32 : decode cX5_load 32 = .ok (.ldc2_w 130, 3) := by decide +kernel
theorem dX5_load_35 : decode cX5_load 35 = .ok (.goto 13, 3) := by decide +kernel
theorem dX5_load_38 : decode cX5_load 38 = .ok (.aload_n 0, 1) := by decide +kernel
theorem dX5_load_39 : decode cX5_load 39 = .ok (.getfield 43, 3) := by decide +kernel
theorem dX5_load_42 : decode cX5_load 42 = .ok (.iload_n 1, 1) := by decide +kernel
theorem dX5_load_43 : decode cX5_load 43 = .ok (.iload_n 2, 1) := by decide +kernel
theorem dX5_load_44 : decode cX5_load 44 = .ok (.invokevirtual 168, 3) := by decide +kernel
theorem dX5_load_47 : decode cX5_load 47 = .ok (.i2l, 1) := by decide +kernel
theorem dX5_load_48 : decode cX5_load 48 = .ok (.lreturn, 1) := by decide +kernel
theorem dX5_function_0 : decode cX5_function 0 = .ok (.aload_n 0, 1) := by decide +kernel
theorem dX5_function_1 : decode cX5_function 1 = .ok (.aload_n 0, 1) := by decide +kernel
theorem dX5_function_2 : decode cX5_function 2 = .ok (.iload_n 1, 1) := by decide +kernel
theorem dX5_function_3 : decode cX5_function 3 = .ok (.invokevirtual 165, 3) := by decide +kernel
theorem dX5_function_6 : decode cX5_function 6 = .ok (.ifCond .eq 14, 3) := by decide +kernel
theorem dX5_function_9 : decode cX5_function 9 = .ok (.iload 4, 2) := by decide +kernel
theorem dX5_function_11 : decode cX5_function 11 = .ok (.ifCond .lt 9, 3) := by decide +kernel
theorem dX5_function_14 : decode cX5_function 14 = .ok (.iload 4, 2) := by decide +kernel
theorem dX5_function_16 : decode cX5_function 16 = .ok (.iconst 1, 1) := by decide +kernel
theorem dX5_function_17 : decode cX5_function 17 = .ok (.if_icmp .le 7, 3) := by decide +kernel
theorem dX5_function_20 : decode cX5_function 20 = .ok (.iconst 1, 1) := by decide +kernel
theorem dX5_function_21 : decode cX5_function 21 = .ok (.goto 16, 3) := by decide +kernel
theorem dX5_function_24 : decode cX5_function 24 = .ok (.iload_n 2, 1) := by decide +kernel
theorem dX5_function_25 : decode cX5_function 25 = .ok (.iload_n 3, 1) := by decide +kernel
theorem dX5_function_26 : decode cX5_function 26 = .ok (.invokestatic 157, 3) := by decide +kernel
theorem dX5_function_29 : decode cX5_function 29 = .ok (.ifCond .eq 7, 3) := by decide +kernel
theorem dX5_function_32 : decode cX5_function 32 = .ok (.iconst 2, 1) := by decide +kernel
theorem dX5_function_33 : decode cX5_function 33 = .ok (.goto 4, 3) := by decide +kernel
theorem dX5_function_36 : decode cX5_function 36 = .ok (.iconst 0, 1) := by decide +kernel
theorem dX5_function_37 : decode cX5_function 37 = .ok (.putfield 62, 3) := by decide +kernel
theorem dX5_function_40 : decode cX5_function 40 = .ok (.aload_n 0, 1) := by decide +kernel
theorem dX5_function_41 : decode cX5_function 41 = .ok (.getfield 62, 3) := by decide +kernel
theorem dX5_function_44 : decode cX5_function 44 = .ok (.ifCond .eq 7, 3) := by decide +kernel
theorem dX5_function_47 : decode cX5_function 47 = .ok (.ldc2_w 130, 3) := by decide +kernel
theorem dX5_function_50 : decode cX5_function 50 = .ok (.lreturn, 1) := by decide +kernel
theorem dX5_function_51 : decode cX5_function 51 = .ok (.aload_n 0, 1) := by decide +kernel
theorem dX5_function_52 : decode cX5_function 52 = .ok (.getfield 43, 3) := by decide +kernel
theorem dX5_function_55 : decode cX5_function 55 = .ok (.iload_n 2, 1) := by decide +kernel
theorem dX5_function_56 : decode cX5_function 56 = .ok (.iload_n 3, 1) := by decide +kernel
theorem dX5_function_57 : decode cX5_function 57 = .ok (.invokevirtual 161, 3) := by decide +kernel
theorem dX5_function_60 : decode cX5_function 60 = .ok (.istore 5, 2) := by decide +kernel
theorem dX5_function_62 : decode cX5_function 62 = .ok (.aload_n 0, 1) := by decide +kernel
theorem dX5_function_63 : decode cX5_function 63 = .ok (.getfield 43, 3) := by decide +kernel
theorem dX5_function_66 : decode cX5_function 66 = .ok (.iload_n 1, 1) := by decide +kernel
theorem dX5_function_67 : decode cX5_function 67 = .ok (.iload 5, 2) := by decide +kernel
theorem dX5_function_69 : decode cX5_function 69 = .ok (.iload_n 2, 1) := by decide +kernel
theorem dX5_function_70 : decode cX5_function 70 = .ok (.iload_n 3, 1) := by decide +kernel
theorem dX5_function_71 : decode cX5_function 71 = .ok (.invokevirtual 171, 3) := by decide +kernel
theorem dX5_function_74 : decode cX5_function 74 = .ok (.lstore 6, 2) := by decide +kernel
theorem dX5_function_76 : decode cX5_function 76 = .ok (.aload_n 0, 1) := by decide +kernel
theorem dX5_function_77 : decode cX5_function 77 = .ok (.getfield 43, 3) := by decide +kernel
theorem dX5_function_80 : decode cX5_function 80 = .ok (.iload 5, 2) := by decide +kernel
theorem dX5_function_82 : decode cX5_function 82 = .ok (.invokevirtual 138, 3) := by decide +kernel
theorem dX5_function_85 : decode cX5_function 85 = .ok (.i2l, 1) := by decide +kernel
theorem dX5_function_86 : decode cX5_function 86 = .ok (.lstore 8, 2) := by decide +kernel
theorem dX5_function_88 : decode cX5_function 88 = .ok (.lload 6, 2) := by decide +kernel
theorem dX5_function_90 : decode cX5_function 90 = .ok (.lload 8, 2) := by decide +kernel
theorem dX5_function_92 : decode cX5_function 92 = .ok (.invokestatic 175, 3) := by decide +kernel
theorem dX5_function_95 : decode cX5_function 95 = .ok (.lstore 10, 2) := by decide +kernel
theorem dX5_function_97 : decode cX5_function 97 = .ok (.iload 4, 2) := by decide +kernel
theorem dX5_function_99 : decode cX5_function 99 = .ok (.ifCond .ne 8, 3) := by decide +kernel
theorem dX5_function_102 : decode cX5_function 102 = .ok (.lload 6, 2) := by decide +kernel
theorem dX5_function_104 : decode cX5_function 104 = .ok (.goto 5, 3) := by decide +kernel
theorem dX5_function_107 : decode cX5_function 107 = .ok (.lload 8, 2) := by decide +kernel
theorem dX5_function_109 : decode cX5_function 109 = .ok (.lload 10, 2) := by decide +kernel
theorem dX5_function_111 : decode cX5_function 111 = .ok (.invokestatic 181, 3) := by decide +kernel
theorem dX5_function_114 : decode cX5_function 114 = .ok (.lreturn, 1) := by decide +kernel
theorem dX5_piece_0 : decode cX5_piece 0 = .ok (.aload_n 0, 1) := by decide +kernel
theorem dX5_piece_1 : decode cX5_piece 1 = .ok (.aload_n 0, 1) := by decide +kernel
theorem dX5_piece_2 : decode cX5_piece 2 = .ok (.iload_n 1, 1) := by decide +kernel
theorem dX5_piece_3 : decode cX5_piece 3 = .ok (.invokevirtual 165, 3) := by decide +kernel
theorem dX5_piece_6 : decode cX5_piece 6 = .ok (.ifCond .eq 24, 3) := by decide +kernel
theorem dX5_piece_9 : decode cX5_piece 9 = .ok (.aload_n 0, 1) := by decide +kernel
theorem dX5_piece_10 : decode cX5_piece 10 = .ok (.iload_n 2, 1) := by decide +kernel
theorem dX5_piece_11 : decode cX5_piece 11 = .ok (.invokevirtual 126, 3) := by decide +kernel
theorem dX5_piece_14 : decode cX5_piece 14 = .ok (.ifCond .eq 16, 3) := by decide +kernel
theorem dX5_piece_17 : decode cX5_piece 17 = .ok (.iload_n 3, 1) := by decide +kernel
theorem dX5_piece_18 : decode cX5_piece 18 = .ok (.ifCond .lt 12, 3) := by decide +kernel
theorem dX5_piece_21 : decode cX5_piece 21 = .ok (.iload_n 3, 1) := by decide +kernel
theorem dX5_piece_22 : decode cX5_piece 22 = .ok (.iconst 2, 1) := by decide +kernel
theorem dX5_piece_23 : decode cX5_piece 23 = .ok (.if_icmp .gt 7, 3) := by decide +kernel
theorem dX5_piece_26 : decode cX5_piece 26 = .ok (.iconst 0, 1) := by decide +kernel
theorem dX5_piece_27 : decode cX5_piece 27 = .ok (.goto 4, 3) := by decide +kernel
theorem dX5_piece_30 : decode cX5_piece 30 = .ok (.iconst 1, 1) := by decide +kernel
theorem dX5_piece_31 : decode cX5_piece 31 = .ok (.putfield 62, 3) := by decide +kernel
theorem dX5_piece_34 : decode cX5_piece 34 = .ok (.aload_n 0, 1) := by decide +kernel
theorem dX5_piece_35 : decode cX5_piece 35 = .ok (.getfield 62, 3) := by decide +kernel
theorem dX5_piece_38 : decode cX5_piece 38 = .ok (.ifCond .eq 7, 3) := by decide +kernel
theorem dX5_piece_41 : decode cX5_piece 41 = .ok (.ldc2_w 130, 3) := by decide +kernel
theorem dX5_piece_44 : decode cX5_piece 44 = .ok (.lreturn, 1) := by decide +kernel
theorem dX5_piece_45 : decode cX5_piece 45 = .ok (.iload_n 3, 1) := by decide +kernel
theorem dX5_piece_46 : decode cX5_piece 46 = .ok (.lookupswitch 46 #[(0, 26), (1, 36)], 26) := by decide +kernel
theorem dX5_piece_72 : decode cX5_piece 72 = .ok (.aload_n 0, 1) := by decide +kernel
theorem dX5_piece_73 : decode cX5_piece 73 = .ok (.getfield 43, 3) := by decide +kernel
theorem dX5_piece_76 : decode cX5_piece 76 = .ok (.iload_n 1, 1) := by decide +kernel
theorem dX5_piece_77 : decode cX5_piece 77 = .ok (.iload_n 2, 1) := by decide +kernel
theorem dX5_piece_78 : decode cX5_piece 78 = .ok (.invokevirtual 184, 3) := by decide +kernel
theorem dX5_piece_81 : decode cX5_piece 81 = .ok (.lreturn, 1) := by decide +kernel
theorem dX5_piece_82 : decode cX5_piece 82 = .ok (.aload_n 0, 1) := by decide +kernel
theorem dX5_piece_83 : decode cX5_piece 83 = .ok (.getfield 43, 3) := by decide +kernel
theorem dX5_piece_86 : decode cX5_piece 86 = .ok (.iload_n 1, 1) := by decide +kernel
theorem dX5_piece_87 : decode cX5_piece 87 = .ok (.iload_n 2, 1) := by decide +kernel
theorem dX5_piece_88 : decode cX5_piece 88 = .ok (.invokevirtual 188, 3) := by decide +kernel
theorem dX5_piece_91 : decode cX5_piece 91 = .ok (.lreturn, 1) := by decide +kernel
theorem dX5_piece_92 : decode cX5_piece 92 = .ok (.aload_n 0, 1) := by decide +kernel
theorem dX5_piece_93 : decode cX5_piece 93 = .ok (.getfield 43, 3) := by decide +kernel
theorem dX5_piece_96 : decode cX5_piece 96 = .ok (.iload_n 1, 1) := by decide +kernel
theorem dX5_piece_97 : decode cX5_piece 97 = .ok (.iload_n 2, 1) := by decide +kernel
theorem dX5_piece_98 : decode cX5_piece 98 = .ok (.invokevirtual 191, 3) := by decide +kernel
theorem dX5_piece_101 : decode cX5_piece 101 = .ok (.ifCond .eq 7, 3) := by decide +kernel
theorem dX5_piece_104 : decode cX5_piece 104 = .ok (.lconst 1, 1) := by decide +kernel
theorem dX5_piece_105 : decode cX5_piece 105 = .ok (.goto 4, 3) := by decide +kernel
theorem dX5_piece_108 : decode cX5_piece 108 = .ok (.lconst 0, 1) := by decide +kernel
theorem dX5_piece_109 : decode cX5_piece 109 = .ok (.lreturn, 1) := by decide +kernel
theorem dX5_broken_0 : decode cX5_broken 0 = .ok (.aload_n 0, 1) := by decide +kernel
theorem dX5_broken_1 : decode cX5_broken 1 = .ok (.aload_n 0, 1) := by decide +kernel
theorem dX5_broken_2 : decode cX5_broken 2 = .ok (.iload_n 1, 1) := by decide +kernel
theorem dX5_broken_3 : decode cX5_broken 3 = .ok (.invokevirtual 165, 3) := by decide +kernel
theorem dX5_broken_6 : decode cX5_broken 6 = .ok (.ifCond .eq 7, 3) := by decide +kernel
theorem dX5_broken_9 : decode cX5_broken 9 = .ok (.iconst 0, 1) := by decide +kernel
theorem dX5_broken_10 : decode cX5_broken 10 = .ok (.goto 4, 3) := by decide +kernel
theorem dX5_broken_13 : decode cX5_broken 13 = .ok (.iconst 1, 1) := by decide +kernel
theorem dX5_broken_14 : decode cX5_broken 14 = .ok (.putfield 62, 3) := by decide +kernel
theorem dX5_broken_17 : decode cX5_broken 17 = .ok (.aload_n 0, 1) := by decide +kernel
theorem dX5_broken_18 : decode cX5_broken 18 = .ok (.getfield 62, 3) := by decide +kernel
theorem dX5_broken_21 : decode cX5_broken 21 = .ok (.ifCond .eq 7, 3) := by decide +kernel
theorem dX5_broken_24 : decode cX5_broken 24 = .ok (.iconst (-1), 1) := by decide +kernel
theorem dX5_broken_25 : decode cX5_broken 25 = .ok (.goto 11, 3) := by decide +kernel
theorem dX5_broken_28 : decode cX5_broken 28 = .ok (.aload_n 0, 1) := by decide +kernel
theorem dX5_broken_29 : decode cX5_broken 29 = .ok (.getfield 43, 3) := by decide +kernel
theorem dX5_broken_32 : decode cX5_broken 32 = .ok (.iload_n 1, 1) := by decide +kernel
theorem dX5_broken_33 : decode cX5_broken 33 = .ok (.invokevirtual 194, 3) := by decide +kernel
theorem dX5_broken_36 : decode cX5_broken 36 = .ok (.ireturn, 1) := by decide +kernel
theorem dX5_bent_0 : decode cX5_bent 0 = .ok (.aload_n 0, 1) := by decide +kernel
theorem dX5_bent_1 : decode cX5_bent 1 = .ok (.aload_n 0, 1) := by decide +kernel
theorem dX5_bent_2 : decode cX5_bent 2 = .ok (.iload_n 1, 1) := by decide +kernel
theorem dX5_bent_3 : decode cX5_bent 3 = .ok (.invokevirtual 165, 3) := by decide +kernel
theorem dX5_bent_6 : decode cX5_bent 6 = .ok (.ifCond .eq 7, 3) := by decide +kernel
theorem dX5_bent_9 : decode cX5_bent 9 = .ok (.iconst 0, 1) := by decide +kernel
theorem dX5_bent_10 : decode cX5_bent 10 = .ok (.goto 4, 3) := by decide +kernel
theorem dX5_bent_13 : decode cX5_bent 13 = .ok (.iconst 1, 1) := by decide +kernel
theorem dX5_bent_14 : decode cX5_bent 14 = .ok (.putfield 62, 3) := by decide +kernel
theorem dX5_bent_17 : decode cX5_bent 17 = .ok (.aload_n 0, 1) := by decide +kernel
theorem dX5_bent_18 : decode cX5_bent 18 = .ok (.getfield 62, 3) := by decide +kernel
theorem dX5_bent_21 : decode cX5_bent 21 = .ok (.ifCond .eq 7, 3) := by decide +kernel
theorem dX5_bent_24 : decode cX5_bent 24 = .ok (.iconst (-1), 1) := by decide +kernel
theorem dX5_bent_25 : decode cX5_bent 25 = .ok (.goto 11, 3) := by decide +kernel
theorem dX5_bent_28 : decode cX5_bent 28 = .ok (.aload_n 0, 1) := by decide +kernel
theorem dX5_bent_29 : decode cX5_bent 29 = .ok (.getfield 43, 3) := by decide +kernel
theorem dX5_bent_32 : decode cX5_bent 32 = .ok (.iload_n 1, 1) := by decide +kernel
theorem dX5_bent_33 : decode cX5_bent 33 = .ok (.invokevirtual 197, 3) := by decide +kernel
theorem dX5_bent_36 : decode cX5_bent 36 = .ok (.ireturn, 1) := by decide +kernel
theorem dX5_alike_0 : decode cX5_alike 0 = .ok (.aload_n 0, 1) := by decide +kernel
theorem dX5_alike_1 : decode cX5_alike 1 = .ok (.aload_n 0, 1) := by decide +kernel
theorem dX5_alike_2 : decode cX5_alike 2 = .ok (.iload_n 1, 1) := by decide +kernel
theorem dX5_alike_3 : decode cX5_alike 3 = .ok (.invokevirtual 165, 3) := by decide +kernel
theorem dX5_alike_6 : decode cX5_alike 6 = .ok (.ifCond .eq 15, 3) := by decide +kernel
theorem dX5_alike_9 : decode cX5_alike 9 = .ok (.aload_n 0, 1) := by decide +kernel
theorem dX5_alike_10 : decode cX5_alike 10 = .ok (.iload_n 2, 1) := by decide +kernel
theorem dX5_alike_11 : decode cX5_alike 11 = .ok (.invokevirtual 165, 3) := by decide +kernel
theorem dX5_alike_14 : decode cX5_alike 14 = .ok (.ifCond .eq 7, 3) := by decide +kernel
theorem dX5_alike_17 : decode cX5_alike 17 = .ok (.iconst 0, 1) := by decide +kernel
theorem dX5_alike_18 : decode cX5_alike 18 = .ok (.goto 4, 3) := by decide +kernel
theorem dX5_alike_21 : decode cX5_alike 21 = .ok (.iconst 1, 1) := by decide +kernel
theorem dX5_alike_22 : decode cX5_alike 22 = .ok (.putfield 62, 3) := by decide +kernel
theorem dX5_alike_25 : decode cX5_alike 25 = .ok (.aload_n 0, 1) := by decide +kernel
theorem dX5_alike_26 : decode cX5_alike 26 = .ok (.getfield 62, 3) := by decide +kernel
theorem dX5_alike_29 : decode cX5_alike 29 = .ok (.ifCond .eq 5, 3) := by decide +kernel
theorem dX5_alike_32 : decode cX5_alike 32 = .ok (.iconst (-1), 1) := by decide +kernel
theorem dX5_alike_33 : decode cX5_alike 33 = .ok (.ireturn, 1) := by decide +kernel
theorem dX5_alike_34 : decode cX5_alike 34 = .ok (.aload_n 0, 1) := by decide +kernel
theorem dX5_alike_35 : decode cX5_alike 35 = .ok (.getfield 43, 3) := by decide +kernel
theorem dX5_alike_38 : decode cX5_alike 38 = .ok (.iload_n 1, 1) := by decide +kernel
theorem dX5_alike_39 : decode cX5_alike 39 = .ok (.iload_n 2, 1) := by decide +kernel
theorem dX5_alike_40 : decode cX5_alike 40 = .ok (.invokevirtual 200, 3) := by decide +kernel
theorem dX5_alike_43 : decode cX5_alike 43 = .ok (.ifCond .eq 7, 3) := by decide +kernel
theorem dX5_alike_46 : decode cX5_alike 46 = .ok (.iconst 1, 1) := by decide +kernel
theorem dX5_alike_47 : decode cX5_alike 47 = .ok (.goto 4, 3) := by decide +kernel
theorem dX5_alike_50 : decode cX5_alike 50 = .ok (.iconst 0, 1) := by decide +kernel
theorem dX5_alike_51 : decode cX5_alike 51 = .ok (.ireturn, 1) := by decide +kernel
theorem dX5_meets_0 : decode cX5_meets 0 = .ok (.aload_n 0, 1) := by decide +kernel
theorem dX5_meets_1 : decode cX5_meets 1 = .ok (.aload_n 0, 1) := by decide +kernel
theorem dX5_meets_2 : decode cX5_meets 2 = .ok (.iload_n 1, 1) := by decide +kernel
theorem dX5_meets_3 : decode cX5_meets 3 = .ok (.invokevirtual 165, 3) := by decide +kernel
theorem dX5_meets_6 : decode cX5_meets 6 = .ok (.ifCond .eq 15, 3) := by decide +kernel
theorem dX5_meets_9 : decode cX5_meets 9 = .ok (.aload_n 0, 1) := by decide +kernel
theorem dX5_meets_10 : decode cX5_meets 10 = .ok (.iload_n 2, 1) := by decide +kernel
theorem dX5_meets_11 : decode cX5_meets 11 = .ok (.invokevirtual 165, 3) := by decide +kernel
theorem dX5_meets_14 : decode cX5_meets 14 = .ok (.ifCond .eq 7, 3) := by decide +kernel
theorem dX5_meets_17 : decode cX5_meets 17 = .ok (.iconst 0, 1) := by decide +kernel
theorem dX5_meets_18 : decode cX5_meets 18 = .ok (.goto 4, 3) := by decide +kernel
theorem dX5_meets_21 : decode cX5_meets 21 = .ok (.iconst 1, 1) := by decide +kernel
theorem dX5_meets_22 : decode cX5_meets 22 = .ok (.putfield 62, 3) := by decide +kernel
theorem dX5_meets_25 : decode cX5_meets 25 = .ok (.aload_n 0, 1) := by decide +kernel
theorem dX5_meets_26 : decode cX5_meets 26 = .ok (.getfield 62, 3) := by decide +kernel
theorem dX5_meets_29 : decode cX5_meets 29 = .ok (.ifCond .eq 9, 3) := by decide +kernel
theorem dX5_meets_32 : decode cX5_meets 32 = .ok (.ldc2_w 203, 3) := by decide +kernel
theorem dX5_meets_35 : decode cX5_meets 35 = .ok (.goto 7, 3) := by decide +kernel
theorem dX5_meets_38 : decode cX5_meets 38 = .ok (.aload_n 0, 1) := by decide +kernel
theorem dX5_meets_39 : decode cX5_meets 39 = .ok (.invokevirtual 122, 3) := by decide +kernel
theorem dX5_meets_42 : decode cX5_meets 42 = .ok (.lstore_n 3, 1) := by decide +kernel
theorem dX5_meets_43 : decode cX5_meets 43 = .ok (.aload_n 0, 1) := by decide +kernel
theorem dX5_meets_44 : decode cX5_meets 44 = .ok (.getfield 62, 3) := by decide +kernel
theorem dX5_meets_47 : decode cX5_meets 47 = .ok (.ifCond .eq 9, 3) := by decide +kernel
theorem dX5_meets_50 : decode cX5_meets 50 = .ok (.ldc2_w 130, 3) := by decide +kernel
theorem dX5_meets_53 : decode cX5_meets 53 = .ok (.goto 13, 3) := by decide +kernel
theorem dX5_meets_56 : decode cX5_meets 56 = .ok (.aload_n 0, 1) := by decide +kernel
theorem dX5_meets_57 : decode cX5_meets 57 = .ok (.getfield 43, 3) := by decide +kernel
theorem dX5_meets_60 : decode cX5_meets 60 = .ok (.iload_n 1, 1) := by decide +kernel
theorem dX5_meets_61 : decode cX5_meets 61 = .ok (.iload_n 2, 1) := by decide +kernel
theorem dX5_meets_62 : decode cX5_meets 62 = .ok (.lload_n 3, 1) := by decide +kernel
theorem dX5_meets_63 : decode cX5_meets 63 = .ok (.invokevirtual 205, 3) := by decide +kernel
theorem dX5_meets_66 : decode cX5_meets 66 = .ok (.lreturn, 1) := by decide +kernel
theorem dX5_touches_0 : decode cX5_touches 0 = .ok (.aload_n 0, 1) := by decide +kernel
theorem dX5_touches_1 : decode cX5_touches 1 = .ok (.aload_n 0, 1) := by decide +kernel
theorem dX5_touches_2 : decode cX5_touches 2 = .ok (.iload_n 1, 1) := by decide +kernel
theorem dX5_touches_3 : decode cX5_touches 3 = .ok (.invokevirtual 165, 3) := by decide +kernel
theorem dX5_touches_6 : decode cX5_touches 6 = .ok (.ifCond .eq 15, 3) := by decide +kernel
theorem dX5_touches_9 : decode cX5_touches 9 = .ok (.aload_n 0, 1) := by decide +kernel
theorem dX5_touches_10 : decode cX5_touches 10 = .ok (.iload_n 2, 1) := by decide +kernel
theorem dX5_touches_11 : decode cX5_touches 11 = .ok (.invokevirtual 126, 3) := by decide +kernel
theorem dX5_touches_14 : decode cX5_touches 14 = .ok (.ifCond .eq 7, 3) := by decide +kernel
theorem dX5_touches_17 : decode cX5_touches 17 = .ok (.iconst 0, 1) := by decide +kernel
theorem dX5_touches_18 : decode cX5_touches 18 = .ok (.goto 4, 3) := by decide +kernel
theorem dX5_touches_21 : decode cX5_touches 21 = .ok (.iconst 1, 1) := by decide +kernel
theorem dX5_touches_22 : decode cX5_touches 22 = .ok (.putfield 62, 3) := by decide +kernel
theorem dX5_touches_25 : decode cX5_touches 25 = .ok (.aload_n 0, 1) := by decide +kernel
theorem dX5_touches_26 : decode cX5_touches 26 = .ok (.getfield 62, 3) := by decide +kernel
theorem dX5_touches_29 : decode cX5_touches 29 = .ok (.ifCond .eq 9, 3) := by decide +kernel
theorem dX5_touches_32 : decode cX5_touches 32 = .ok (.ldc2_w 203, 3) := by decide +kernel
theorem dX5_touches_35 : decode cX5_touches 35 = .ok (.goto 7, 3) := by decide +kernel
theorem dX5_touches_38 : decode cX5_touches 38 = .ok (.aload_n 0, 1) := by decide +kernel
theorem dX5_touches_39 : decode cX5_touches 39 = .ok (.invokevirtual 122, 3) := by decide +kernel
theorem dX5_touches_42 : decode cX5_touches 42 = .ok (.lstore_n 3, 1) := by decide +kernel
theorem dX5_touches_43 : decode cX5_touches 43 = .ok (.aload_n 0, 1) := by decide +kernel
theorem dX5_touches_44 : decode cX5_touches 44 = .ok (.getfield 62, 3) := by decide +kernel
theorem dX5_touches_47 : decode cX5_touches 47 = .ok (.ifCond .eq 9, 3) := by decide +kernel
theorem dX5_touches_50 : decode cX5_touches 50 = .ok (.ldc2_w 130, 3) := by decide +kernel
theorem dX5_touches_53 : decode cX5_touches 53 = .ok (.goto 13, 3) := by decide +kernel
theorem dX5_touches_56 : decode cX5_touches 56 = .ok (.aload_n 0, 1) := by decide +kernel
theorem dX5_touches_57 : decode cX5_touches 57 = .ok (.getfield 43, 3) := by decide +kernel
theorem dX5_touches_60 : decode cX5_touches 60 = .ok (.iload_n 1, 1) := by decide +kernel
theorem dX5_touches_61 : decode cX5_touches 61 = .ok (.iload_n 2, 1) := by decide +kernel
theorem dX5_touches_62 : decode cX5_touches 62 = .ok (.lload_n 3, 1) := by decide +kernel
theorem dX5_touches_63 : decode cX5_touches 63 = .ok (.invokevirtual 209, 3) := by decide +kernel
theorem dX5_touches_66 : decode cX5_touches 66 = .ok (.lreturn, 1) := by decide +kernel
theorem dX5_rays_0 : decode cX5_rays 0 = .ok (.aload_n 0, 1) := by decide +kernel
theorem dX5_rays_1 : decode cX5_rays 1 = .ok (.aload_n 0, 1) := by decide +kernel
theorem dX5_rays_2 : decode cX5_rays 2 = .ok (.iload_n 1, 1) := by decide +kernel
theorem dX5_rays_3 : decode cX5_rays 3 = .ok (.invokevirtual 126, 3) := by decide +kernel
theorem dX5_rays_6 : decode cX5_rays 6 = .ok (.ifCond .eq 15, 3) := by decide +kernel
theorem dX5_rays_9 : decode cX5_rays 9 = .ok (.aload_n 0, 1) := by decide +kernel
theorem dX5_rays_10 : decode cX5_rays 10 = .ok (.iload_n 2, 1) := by decide +kernel
theorem dX5_rays_11 : decode cX5_rays 11 = .ok (.invokevirtual 126, 3) := by decide +kernel
theorem dX5_rays_14 : decode cX5_rays 14 = .ok (.ifCond .eq 7, 3) := by decide +kernel
theorem dX5_rays_17 : decode cX5_rays 17 = .ok (.iconst 0, 1) := by decide +kernel
theorem dX5_rays_18 : decode cX5_rays 18 = .ok (.goto 4, 3) := by decide +kernel
theorem dX5_rays_21 : decode cX5_rays 21 = .ok (.iconst 1, 1) := by decide +kernel
theorem dX5_rays_22 : decode cX5_rays 22 = .ok (.putfield 62, 3) := by decide +kernel
theorem dX5_rays_25 : decode cX5_rays 25 = .ok (.aload_n 0, 1) := by decide +kernel
theorem dX5_rays_26 : decode cX5_rays 26 = .ok (.getfield 62, 3) := by decide +kernel
theorem dX5_rays_29 : decode cX5_rays 29 = .ok (.ifCond .eq 9, 3) := by decide +kernel
theorem dX5_rays_32 : decode cX5_rays 32 = .ok (.ldc2_w 203, 3) := by decide +kernel
theorem dX5_rays_35 : decode cX5_rays 35 = .ok (.goto 7, 3) := by decide +kernel
theorem dX5_rays_38 : decode cX5_rays 38 = .ok (.aload_n 0, 1) := by decide +kernel
theorem dX5_rays_39 : decode cX5_rays 39 = .ok (.invokevirtual 122, 3) := by decide +kernel
theorem dX5_rays_42 : decode cX5_rays 42 = .ok (.lstore_n 3, 1) := by decide +kernel
theorem dX5_rays_43 : decode cX5_rays 43 = .ok (.aload_n 0, 1) := by decide +kernel
theorem dX5_rays_44 : decode cX5_rays 44 = .ok (.getfield 62, 3) := by decide +kernel
theorem dX5_rays_47 : decode cX5_rays 47 = .ok (.ifCond .eq 9, 3) := by decide +kernel
theorem dX5_rays_50 : decode cX5_rays 50 = .ok (.ldc2_w 130, 3) := by decide +kernel
theorem dX5_rays_53 : decode cX5_rays 53 = .ok (.goto 13, 3) := by decide +kernel
theorem dX5_rays_56 : decode cX5_rays 56 = .ok (.aload_n 0, 1) := by decide +kernel
theorem dX5_rays_57 : decode cX5_rays 57 = .ok (.getfield 43, 3) := by decide +kernel
theorem dX5_rays_60 : decode cX5_rays 60 = .ok (.iload_n 1, 1) := by decide +kernel
theorem dX5_rays_61 : decode cX5_rays 61 = .ok (.iload_n 2, 1) := by decide +kernel
theorem dX5_rays_62 : decode cX5_rays 62 = .ok (.lload_n 3, 1) := by decide +kernel
theorem dX5_rays_63 : decode cX5_rays 63 = .ok (.invokevirtual 212, 3) := by decide +kernel
theorem dX5_rays_66 : decode cX5_rays 66 = .ok (.lreturn, 1) := by decide +kernel
theorem dX5_points_0 : decode cX5_points 0 = .ok (.aload_n 0, 1) := by decide +kernel
theorem dX5_points_1 : decode cX5_points 1 = .ok (.aload_n 0, 1) := by decide +kernel
theorem dX5_points_2 : decode cX5_points 2 = .ok (.iload_n 1, 1) := by decide +kernel
theorem dX5_points_3 : decode cX5_points 3 = .ok (.invokevirtual 165, 3) := by decide +kernel
theorem dX5_points_6 : decode cX5_points 6 = .ok (.ifCond .ne 7, 3) := by decide +kernel
theorem dX5_points_9 : decode cX5_points 9 = .ok (.iconst 1, 1) := by decide +kernel
theorem dX5_points_10 : decode cX5_points 10 = .ok (.goto 15, 3) := by decide +kernel
theorem dX5_points_13 : decode cX5_points 13 = .ok (.iload_n 2, 1) := by decide +kernel
theorem dX5_points_14 : decode cX5_points 14 = .ok (.invokestatic 215, 3) := by decide +kernel
theorem dX5_points_17 : decode cX5_points 17 = .ok (.ifCond .eq 7, 3) := by decide +kernel
theorem dX5_points_20 : decode cX5_points 20 = .ok (.iconst 0, 1) := by decide +kernel
theorem dX5_points_21 : decode cX5_points 21 = .ok (.goto 4, 3) := by decide +kernel
theorem dX5_points_24 : decode cX5_points 24 = .ok (.iconst 2, 1) := by decide +kernel
theorem dX5_points_25 : decode cX5_points 25 = .ok (.putfield 62, 3) := by decide +kernel
theorem dX5_points_28 : decode cX5_points 28 = .ok (.aload_n 0, 1) := by decide +kernel
theorem dX5_points_29 : decode cX5_points 29 = .ok (.getfield 62, 3) := by decide +kernel
theorem dX5_points_32 : decode cX5_points 32 = .ok (.ifCond .eq 9, 3) := by decide +kernel
theorem dX5_points_35 : decode cX5_points 35 = .ok (.ldc2_w 130, 3) := by decide +kernel
theorem dX5_points_38 : decode cX5_points 38 = .ok (.goto 17, 3) := by decide +kernel
theorem dX5_points_41 : decode cX5_points 41 = .ok (.aload_n 0, 1) := by decide +kernel
theorem dX5_points_42 : decode cX5_points 42 = .ok (.getfield 28, 3) := by decide +kernel
theorem dX5_points_45 : decode cX5_points 45 = .ok (.aload_n 0, 1) := by decide +kernel
theorem dX5_points_46 : decode cX5_points 46 = .ok (.getfield 43, 3) := by decide +kernel
theorem dX5_points_49 : decode cX5_points 49 = .ok (.iload_n 1, 1) := by decide +kernel
theorem dX5_points_50 : decode cX5_points 50 = .ok (.iload_n 2, 1) := by decide +kernel
theorem dX5_points_51 : decode cX5_points 51 = .ok (.iconst 0, 1) := by decide +kernel
theorem dX5_points_52 : decode cX5_points 52 = .ok (.invokevirtual 218, 3) := by decide +kernel
theorem dX5_points_55 : decode cX5_points 55 = .ok (.lreturn, 1) := by decide +kernel
theorem dX5_inner_0 : decode cX5_inner 0 = .ok (.aload_n 0, 1) := by decide +kernel
theorem dX5_inner_1 : decode cX5_inner 1 = .ok (.aload_n 0, 1) := by decide +kernel
theorem dX5_inner_2 : decode cX5_inner 2 = .ok (.iload_n 1, 1) := by decide +kernel
theorem dX5_inner_3 : decode cX5_inner 3 = .ok (.invokevirtual 165, 3) := by decide +kernel
theorem dX5_inner_6 : decode cX5_inner 6 = .ok (.ifCond .ne 7, 3) := by decide +kernel
theorem dX5_inner_9 : decode cX5_inner 9 = .ok (.iconst 1, 1) := by decide +kernel
theorem dX5_inner_10 : decode cX5_inner 10 = .ok (.goto 15, 3) := by decide +kernel
theorem dX5_inner_13 : decode cX5_inner 13 = .ok (.iload_n 2, 1) := by decide +kernel
theorem dX5_inner_14 : decode cX5_inner 14 = .ok (.invokestatic 215, 3) := by decide +kernel
theorem dX5_inner_17 : decode cX5_inner 17 = .ok (.ifCond .eq 7, 3) := by decide +kernel
theorem dX5_inner_20 : decode cX5_inner 20 = .ok (.iconst 0, 1) := by decide +kernel
theorem dX5_inner_21 : decode cX5_inner 21 = .ok (.goto 4, 3) := by decide +kernel
theorem dX5_inner_24 : decode cX5_inner 24 = .ok (.iconst 2, 1) := by decide +kernel
theorem dX5_inner_25 : decode cX5_inner 25 = .ok (.putfield 62, 3) := by decide +kernel
theorem dX5_inner_28 : decode cX5_inner 28 = .ok (.aload_n 0, 1) := by decide +kernel
theorem dX5_inner_29 : decode cX5_inner 29 = .ok (.getfield 62, 3) := by decide +kernel
theorem dX5_inner_32 : decode cX5_inner 32 = .ok (.ifCond .eq 9, 3) := by decide +kernel
theorem dX5_inner_35 : decode cX5_inner 35 = .ok (.ldc2_w 130, 3) := by decide +kernel
theorem dX5_inner_38 : decode cX5_inner 38 = .ok (.goto 17, 3) := by decide +kernel
theorem dX5_inner_41 : decode cX5_inner 41 = .ok (.aload_n 0, 1) := by decide +kernel
theorem dX5_inner_42 : decode cX5_inner 42 = .ok (.getfield 28, 3) := by decide +kernel
theorem dX5_inner_45 : decode cX5_inner 45 = .ok (.aload_n 0, 1) := by decide +kernel
theorem dX5_inner_46 : decode cX5_inner 46 = .ok (.getfield 43, 3) := by decide +kernel
theorem dX5_inner_49 : decode cX5_inner 49 = .ok (.iload_n 1, 1) := by decide +kernel
theorem dX5_inner_50 : decode cX5_inner 50 = .ok (.iload_n 2, 1) := by decide +kernel
theorem dX5_inner_51 : decode cX5_inner 51 = .ok (.iconst 1, 1) := by decide +kernel
theorem dX5_inner_52 : decode cX5_inner 52 = .ok (.invokevirtual 218, 3) := by decide +kernel
theorem dX5_inner_55 : decode cX5_inner 55 = .ok (.lreturn, 1) := by decide +kernel
theorem dX5_point_0 : decode cX5_point 0 = .ok (.aload_n 0, 1) := by decide +kernel
theorem dX5_point_1 : decode cX5_point 1 = .ok (.aload_n 0, 1) := by decide +kernel
theorem dX5_point_2 : decode cX5_point 2 = .ok (.iload_n 1, 1) := by decide +kernel
theorem dX5_point_3 : decode cX5_point 3 = .ok (.invokevirtual 165, 3) := by decide +kernel
theorem dX5_point_6 : decode cX5_point 6 = .ok (.ifCond .eq 14, 3) := by decide +kernel
theorem dX5_point_9 : decode cX5_point 9 = .ok (.iload 5, 2) := by decide +kernel
theorem dX5_point_11 : decode cX5_point 11 = .ok (.ifCond .lt 9, 3) := by decide +kernel
theorem dX5_point_14 : decode cX5_point 14 = .ok (.iload 5, 2) := by decide +kernel
theorem dX5_point_16 : decode cX5_point 16 = .ok (.iconst 1, 1) := by decide +kernel
theorem dX5_point_17 : decode cX5_point 17 = .ok (.if_icmp .le 7, 3) := by decide +kernel
theorem dX5_point_20 : decode cX5_point 20 = .ok (.iconst 1, 1) := by decide +kernel
theorem dX5_point_21 : decode cX5_point 21 = .ok (.goto 15, 3) := by decide +kernel
theorem dX5_point_24 : decode cX5_point 24 = .ok (.iload_n 2, 1) := by decide +kernel
theorem dX5_point_25 : decode cX5_point 25 = .ok (.invokestatic 215, 3) := by decide +kernel
theorem dX5_point_28 : decode cX5_point 28 = .ok (.ifCond .eq 7, 3) := by decide +kernel
theorem dX5_point_31 : decode cX5_point 31 = .ok (.iconst 0, 1) := by decide +kernel
theorem dX5_point_32 : decode cX5_point 32 = .ok (.goto 4, 3) := by decide +kernel
theorem dX5_point_35 : decode cX5_point 35 = .ok (.iconst 2, 1) := by decide +kernel
theorem dX5_point_36 : decode cX5_point 36 = .ok (.putfield 62, 3) := by decide +kernel
theorem dX5_point_39 : decode cX5_point 39 = .ok (.aload_n 0, 1) := by decide +kernel
theorem dX5_point_40 : decode cX5_point 40 = .ok (.getfield 62, 3) := by decide +kernel
theorem dX5_point_43 : decode cX5_point 43 = .ok (.ifCond .eq 7, 3) := by decide +kernel
theorem dX5_point_46 : decode cX5_point 46 = .ok (.ldc2_w 130, 3) := by decide +kernel
theorem dX5_point_49 : decode cX5_point 49 = .ok (.lreturn, 1) := by decide +kernel
theorem dX5_point_50 : decode cX5_point 50 = .ok (.lload_n 3, 1) := by decide +kernel
theorem dX5_point_51 : decode cX5_point 51 = .ok (.lconst 0, 1) := by decide +kernel
theorem dX5_point_52 : decode cX5_point 52 = .ok (.lcmp, 1) := by decide +kernel
theorem dX5_point_53 : decode cX5_point 53 = .ok (.ifCond .lt 22, 3) := by decide +kernel
theorem dX5_point_56 : decode cX5_point 56 = .ok (.lload_n 3, 1) := by decide +kernel
theorem dX5_point_57 : decode cX5_point 57 = .ok (.aload_n 0, 1) := by decide +kernel
theorem dX5_point_58 : decode cX5_point 58 = .ok (.getfield 28, 3) := by decide +kernel
theorem dX5_point_61 : decode cX5_point 61 = .ok (.aload_n 0, 1) := by decide +kernel
theorem dX5_point_62 : decode cX5_point 62 = .ok (.getfield 43, 3) := by decide +kernel
theorem dX5_point_65 : decode cX5_point 65 = .ok (.iload_n 1, 1) := by decide +kernel
theorem dX5_point_66 : decode cX5_point 66 = .ok (.iload_n 2, 1) := by decide +kernel
theorem dX5_point_67 : decode cX5_point 67 = .ok (.iconst 0, 1) := by decide +kernel
theorem dX5_point_68 : decode cX5_point 68 = .ok (.invokevirtual 218, 3) := by decide +kernel
theorem dX5_point_71 : decode cX5_point 71 = .ok (.lcmp, 1) := by decide +kernel
theorem dX5_point_72 : decode cX5_point 72 = .ok (.ifCond .lt 12, 3) := by decide +kernel
theorem dX5_point_75 : decode cX5_point 75 = .ok (.aload_n 0, 1) := by decide +kernel
theorem dX5_point_76 : decode cX5_point 76 = .ok (.iconst 1, 1) := by decide +kernel
theorem dX5_point_77 : decode cX5_point 77 = .ok (.putfield 62, 3) := by decide +kernel
theorem dX5_point_80 : decode cX5_point 80 = .ok (.ldc2_w 130, 3) := by decide +kernel
theorem dX5_point_83 : decode cX5_point 83 = .ok (.lreturn, 1) := by decide +kernel
theorem dX5_point_84 : decode cX5_point 84 = .ok (.aload_n 0, 1) := by decide +kernel
theorem dX5_point_85 : decode cX5_point 85 = .ok (.getfield 28, 3) := by decide +kernel
theorem dX5_point_88 : decode cX5_point 88 = .ok (.lload_n 3, 1) := by decide +kernel
theorem dX5_point_89 : decode cX5_point 89 = .ok (.invokevirtual 221, 3) := by decide +kernel
theorem dX5_point_92 : decode cX5_point 92 = .ok (.lstore 6, 2) := by decide +kernel
theorem dX5_point_94 : decode cX5_point 94 = .ok (.iload 5, 2) := by decide +kernel
theorem dX5_point_96 : decode cX5_point 96 = .ok (.ifCond .ne 8, 3) := by decide +kernel
theorem dX5_point_99 : decode cX5_point 99 = .ok (.lload 6, 2) := by decide +kernel
theorem dX5_point_101 : decode cX5_point 101 = .ok (.goto 13, 3) := by decide +kernel
theorem dX5_point_104 : decode cX5_point 104 = .ok (.aload_n 0, 1) := by decide +kernel
theorem dX5_point_105 : decode cX5_point 105 = .ok (.getfield 28, 3) := by decide +kernel
theorem dX5_point_108 : decode cX5_point 108 = .ok (.lload_n 3, 1) := by decide +kernel
theorem dX5_point_109 : decode cX5_point 109 = .ok (.lload 6, 2) := by decide +kernel
theorem dX5_point_111 : decode cX5_point 111 = .ok (.invokevirtual 225, 3) := by decide +kernel
theorem dX5_point_114 : decode cX5_point 114 = .ok (.lreturn, 1) := by decide +kernel
theorem dX5_needs_0 : decode cX5_needs 0 = .ok (.aload_n 0, 1) := by decide +kernel
theorem dX5_needs_1 : decode cX5_needs 1 = .ok (.aload_n 0, 1) := by decide +kernel
theorem dX5_needs_2 : decode cX5_needs 2 = .ok (.iload_n 1, 1) := by decide +kernel
theorem dX5_needs_3 : decode cX5_needs 3 = .ok (.invokevirtual 165, 3) := by decide +kernel
theorem dX5_needs_6 : decode cX5_needs 6 = .ok (.ifCond .eq 7, 3) := by decide +kernel
theorem dX5_needs_9 : decode cX5_needs 9 = .ok (.iconst 0, 1) := by decide +kernel
theorem dX5_needs_10 : decode cX5_needs 10 = .ok (.goto 4, 3) := by decide +kernel
theorem dX5_needs_13 : decode cX5_needs 13 = .ok (.iconst 1, 1) := by decide +kernel
theorem dX5_needs_14 : decode cX5_needs 14 = .ok (.putfield 62, 3) := by decide +kernel
theorem dX5_needs_17 : decode cX5_needs 17 = .ok (.aload_n 0, 1) := by decide +kernel
theorem dX5_needs_18 : decode cX5_needs 18 = .ok (.getfield 62, 3) := by decide +kernel
theorem dX5_needs_21 : decode cX5_needs 21 = .ok (.ifCond .eq 5, 3) := by decide +kernel
theorem dX5_needs_24 : decode cX5_needs 24 = .ok (.iconst (-1), 1) := by decide +kernel
theorem dX5_needs_25 : decode cX5_needs 25 = .ok (.ireturn, 1) := by decide +kernel
theorem dX5_needs_26 : decode cX5_needs 26 = .ok (.iconst 1, 1) := by decide +kernel
theorem dX5_needs_27 : decode cX5_needs 27 = .ok (.istore 4, 2) := by decide +kernel
theorem dX5_needs_29 : decode cX5_needs 29 = .ok (.iload 4, 2) := by decide +kernel
theorem dX5_needs_31 : decode cX5_needs 31 = .ok (.iconst 4, 1) := by decide +kernel
theorem dX5_needs_32 : decode cX5_needs 32 = .ok (.if_icmp .gt 32, 3) := by decide +kernel
theorem dX5_needs_35 : decode cX5_needs 35 = .ok (.aload_n 0, 1) := by decide +kernel
theorem dX5_needs_36 : decode cX5_needs 36 = .ok (.getfield 28, 3) := by decide +kernel
theorem dX5_needs_39 : decode cX5_needs 39 = .ok (.aload_n 0, 1) := by decide +kernel
theorem dX5_needs_40 : decode cX5_needs 40 = .ok (.getfield 43, 3) := by decide +kernel
theorem dX5_needs_43 : decode cX5_needs 43 = .ok (.iload_n 1, 1) := by decide +kernel
theorem dX5_needs_44 : decode cX5_needs 44 = .ok (.iload 4, 2) := by decide +kernel
theorem dX5_needs_46 : decode cX5_needs 46 = .ok (.iconst 0, 1) := by decide +kernel
theorem dX5_needs_47 : decode cX5_needs 47 = .ok (.invokevirtual 218, 3) := by decide +kernel
theorem dX5_needs_50 : decode cX5_needs 50 = .ok (.lload_n 2, 1) := by decide +kernel
theorem dX5_needs_51 : decode cX5_needs 51 = .ok (.lcmp, 1) := by decide +kernel
theorem dX5_needs_52 : decode cX5_needs 52 = .ok (.ifCond .lt 6, 3) := by decide +kernel
theorem dX5_needs_55 : decode cX5_needs 55 = .ok (.iload 4, 2) := by decide +kernel
theorem dX5_needs_57 : decode cX5_needs 57 = .ok (.ireturn, 1) := by decide +kernel
theorem dX5_needs_58 : decode cX5_needs 58 = .ok (.iinc 4 1, 3) := by decide +kernel
theorem dX5_needs_61 : decode cX5_needs 61 = .ok (.goto (-32), 3) := by decide +kernel
theorem dX5_needs_64 : decode cX5_needs 64 = .ok (.bipush (-2), 2) := by decide +kernel
theorem dX5_needs_66 : decode cX5_needs 66 = .ok (.ireturn, 1) := by decide +kernel
theorem dX5_set_0 : decode cX5_set 0 = .ok (.aload_n 0, 1) := by decide +kernel
theorem dX5_set_1 : decode cX5_set 1 = .ok (.aload_n 0, 1) := by decide +kernel
theorem dX5_set_2 : decode cX5_set 2 = .ok (.iload_n 1, 1) := by decide +kernel
theorem dX5_set_3 : decode cX5_set 3 = .ok (.invokevirtual 165, 3) := by decide +kernel
theorem dX5_set_6 : decode cX5_set 6 = .ok (.ifCond .eq 11, 3) := by decide +kernel
theorem dX5_set_9 : decode cX5_set 9 = .ok (.aload_n 0, 1) := by decide +kernel
theorem dX5_set_10 : decode cX5_set 10 = .ok (.iload_n 2, 1) := by decide +kernel
theorem dX5_set_11 : decode cX5_set 11 = .ok (.invokevirtual 126, 3) := by decide +kernel
theorem dX5_set_14 : decode cX5_set 14 = .ok (.ifCond .ne 7, 3) := by decide +kernel
theorem dX5_set_17 : decode cX5_set 17 = .ok (.iconst 1, 1) := by decide +kernel
theorem dX5_set_18 : decode cX5_set 18 = .ok (.goto 19, 3) := by decide +kernel
theorem dX5_set_21 : decode cX5_set 21 = .ok (.iload_n 3, 1) := by decide +kernel
theorem dX5_set_22 : decode cX5_set 22 = .ok (.i2l, 1) := by decide +kernel
theorem dX5_set_23 : decode cX5_set 23 = .ok (.ldc2_w 228, 3) := by decide +kernel
theorem dX5_set_26 : decode cX5_set 26 = .ok (.invokestatic 230, 3) := by decide +kernel
theorem dX5_set_29 : decode cX5_set 29 = .ok (.ifCond .eq 7, 3) := by decide +kernel
theorem dX5_set_32 : decode cX5_set 32 = .ok (.iconst 2, 1) := by decide +kernel
theorem dX5_set_33 : decode cX5_set 33 = .ok (.goto 4, 3) := by decide +kernel
theorem dX5_set_36 : decode cX5_set 36 = .ok (.iconst 0, 1) := by decide +kernel
theorem dX5_set_37 : decode cX5_set 37 = .ok (.putfield 62, 3) := by decide +kernel
theorem dX5_set_40 : decode cX5_set 40 = .ok (.aload_n 0, 1) := by decide +kernel
theorem dX5_set_41 : decode cX5_set 41 = .ok (.getfield 62, 3) := by decide +kernel
theorem dX5_set_44 : decode cX5_set 44 = .ok (.ifCond .eq 7, 3) := by decide +kernel
theorem dX5_set_47 : decode cX5_set 47 = .ok (.ldc2_w 130, 3) := by decide +kernel
theorem dX5_set_50 : decode cX5_set 50 = .ok (.lreturn, 1) := by decide +kernel
theorem dX5_set_51 : decode cX5_set 51 = .ok (.aload_n 0, 1) := by decide +kernel
theorem dX5_set_52 : decode cX5_set 52 = .ok (.getfield 43, 3) := by decide +kernel
theorem dX5_set_55 : decode cX5_set 55 = .ok (.iload_n 1, 1) := by decide +kernel
theorem dX5_set_56 : decode cX5_set 56 = .ok (.iload_n 2, 1) := by decide +kernel
theorem dX5_set_57 : decode cX5_set 57 = .ok (.invokevirtual 168, 3) := by decide +kernel
theorem dX5_set_60 : decode cX5_set 60 = .ok (.i2l, 1) := by decide +kernel
theorem dX5_set_61 : decode cX5_set 61 = .ok (.lstore 4, 2) := by decide +kernel
theorem dX5_set_63 : decode cX5_set 63 = .ok (.aload_n 0, 1) := by decide +kernel
theorem dX5_set_64 : decode cX5_set 64 = .ok (.getfield 47, 3) := by decide +kernel
theorem dX5_set_67 : decode cX5_set 67 = .ok (.aload_n 0, 1) := by decide +kernel
theorem dX5_set_68 : decode cX5_set 68 = .ok (.getfield 43, 3) := by decide +kernel
theorem dX5_set_71 : decode cX5_set 71 = .ok (.invokevirtual 234, 3) := by decide +kernel
theorem dX5_set_74 : decode cX5_set 74 = .ok (.aload_n 0, 1) := by decide +kernel
theorem dX5_set_75 : decode cX5_set 75 = .ok (.getfield 47, 3) := by decide +kernel
theorem dX5_set_78 : decode cX5_set 78 = .ok (.iload_n 1, 1) := by decide +kernel
theorem dX5_set_79 : decode cX5_set 79 = .ok (.iload_n 2, 1) := by decide +kernel
theorem dX5_set_80 : decode cX5_set 80 = .ok (.iload_n 3, 1) := by decide +kernel
theorem dX5_set_81 : decode cX5_set 81 = .ok (.invokevirtual 238, 3) := by decide +kernel
theorem dX5_set_84 : decode cX5_set 84 = .ok (.aload_n 0, 1) := by decide +kernel
theorem dX5_set_85 : decode cX5_set 85 = .ok (.invokevirtual 242, 3) := by decide +kernel
theorem dX5_set_88 : decode cX5_set 88 = .ok (.lload 4, 2) := by decide +kernel
theorem dX5_set_90 : decode cX5_set 90 = .ok (.lreturn, 1) := by decide +kernel
theorem dX5_fill_0 : decode cX5_fill 0 = .ok (.aload_n 0, 1) := by decide +kernel
theorem dX5_fill_1 : decode cX5_fill 1 = .ok (.aload_n 0, 1) := by decide +kernel
theorem dX5_fill_2 : decode cX5_fill 2 = .ok (.iload_n 1, 1) := by decide +kernel
theorem dX5_fill_3 : decode cX5_fill 3 = .ok (.invokevirtual 165, 3) := by decide +kernel
theorem dX5_fill_6 : decode cX5_fill 6 = .ok (.ifCond .ne 7, 3) := by decide +kernel
theorem dX5_fill_9 : decode cX5_fill 9 = .ok (.iconst 1, 1) := by decide +kernel
theorem dX5_fill_10 : decode cX5_fill 10 = .ok (.goto 19, 3) := by decide +kernel
theorem dX5_fill_13 : decode cX5_fill 13 = .ok (.iload_n 2, 1) := by decide +kernel
theorem dX5_fill_14 : decode cX5_fill 14 = .ok (.i2l, 1) := by decide +kernel
theorem dX5_fill_15 : decode cX5_fill 15 = .ok (.ldc2_w 228, 3) := by decide +kernel
theorem dX5_fill_18 : decode cX5_fill 18 = .ok (.invokestatic 230, 3) := by decide +kernel
theorem dX5_fill_21 : decode cX5_fill 21 = .ok (.ifCond .eq 7, 3) := by decide +kernel
theorem dX5_fill_24 : decode cX5_fill 24 = .ok (.iconst 2, 1) := by decide +kernel
theorem dX5_fill_25 : decode cX5_fill 25 = .ok (.goto 4, 3) := by decide +kernel
theorem dX5_fill_28 : decode cX5_fill 28 = .ok (.iconst 0, 1) := by decide +kernel
theorem dX5_fill_29 : decode cX5_fill 29 = .ok (.putfield 62, 3) := by decide +kernel
theorem dX5_fill_32 : decode cX5_fill 32 = .ok (.aload_n 0, 1) := by decide +kernel
theorem dX5_fill_33 : decode cX5_fill 33 = .ok (.getfield 62, 3) := by decide +kernel
theorem dX5_fill_36 : decode cX5_fill 36 = .ok (.ifCond .eq 5, 3) := by decide +kernel
theorem dX5_fill_39 : decode cX5_fill 39 = .ok (.iconst 0, 1) := by decide +kernel
theorem dX5_fill_40 : decode cX5_fill 40 = .ok (.ireturn, 1) := by decide +kernel
theorem dX5_fill_41 : decode cX5_fill 41 = .ok (.aload_n 0, 1) := by decide +kernel
theorem dX5_fill_42 : decode cX5_fill 42 = .ok (.getfield 47, 3) := by decide +kernel
theorem dX5_fill_45 : decode cX5_fill 45 = .ok (.aload_n 0, 1) := by decide +kernel
theorem dX5_fill_46 : decode cX5_fill 46 = .ok (.getfield 43, 3) := by decide +kernel
theorem dX5_fill_49 : decode cX5_fill 49 = .ok (.invokevirtual 234, 3) := by decide +kernel
theorem dX5_fill_52 : decode cX5_fill 52 = .ok (.iconst 0, 1) := by decide +kernel
theorem dX5_fill_53 : decode cX5_fill 53 = .ok (.istore_n 3, 1) := by decide +kernel
theorem dX5_fill_54 : decode cX5_fill 54 = .ok (.iload_n 3, 1) := by decide +kernel
theorem dX5_fill_55 : decode cX5_fill 55 = .ok (.aload_n 0, 1) := by decide +kernel
theorem dX5_fill_56 : decode cX5_fill 56 = .ok (.getfield 47, 3) := by decide +kernel
theorem dX5_fill_59 : decode cX5_fill 59 = .ok (.getfield 97, 3) := by decide +kernel
theorem dX5_fill_62 : decode cX5_fill 62 = .ok (.if_icmp .ge 19, 3) := by decide +kernel
theorem dX5_fill_65 : decode cX5_fill 65 = .ok (.aload_n 0, 1) := by decide +kernel
theorem dX5_fill_66 : decode cX5_fill 66 = .ok (.getfield 47, 3) := by decide +kernel
theorem dX5_fill_69 : decode cX5_fill 69 = .ok (.iload_n 1, 1) := by decide +kernel
theorem dX5_fill_70 : decode cX5_fill 70 = .ok (.iload_n 3, 1) := by decide +kernel
theorem dX5_fill_71 : decode cX5_fill 71 = .ok (.iload_n 2, 1) := by decide +kernel
theorem dX5_fill_72 : decode cX5_fill 72 = .ok (.invokevirtual 238, 3) := by decide +kernel
theorem dX5_fill_75 : decode cX5_fill 75 = .ok (.iinc 3 1, 3) := by decide +kernel
theorem dX5_fill_78 : decode cX5_fill 78 = .ok (.goto (-24), 3) := by decide +kernel
theorem dX5_fill_81 : decode cX5_fill 81 = .ok (.aload_n 0, 1) := by decide +kernel
theorem dX5_fill_82 : decode cX5_fill 82 = .ok (.invokevirtual 242, 3) := by decide +kernel
theorem dX5_fill_85 : decode cX5_fill 85 = .ok (.iconst 1, 1) := by decide +kernel
theorem dX5_fill_86 : decode cX5_fill 86 = .ok (.ireturn, 1) := by decide +kernel
theorem dX5_adds_0 : decode cX5_adds 0 = .ok (.aload_n 0, 1) := by decide +kernel
theorem dX5_adds_1 : decode cX5_adds 1 = .ok (.aload_n 0, 1) := by decide +kernel
theorem dX5_adds_2 : decode cX5_adds 2 = .ok (.iload_n 1, 1) := by decide +kernel
theorem dX5_adds_3 : decode cX5_adds 3 = .ok (.invokevirtual 165, 3) := by decide +kernel
theorem dX5_adds_6 : decode cX5_adds 6 = .ok (.ifCond .eq 11, 3) := by decide +kernel
theorem dX5_adds_9 : decode cX5_adds 9 = .ok (.aload_n 0, 1) := by decide +kernel
theorem dX5_adds_10 : decode cX5_adds 10 = .ok (.iload_n 2, 1) := by decide +kernel
theorem dX5_adds_11 : decode cX5_adds 11 = .ok (.invokevirtual 165, 3) := by decide +kernel
theorem dX5_adds_14 : decode cX5_adds 14 = .ok (.ifCond .ne 7, 3) := by decide +kernel
theorem dX5_adds_17 : decode cX5_adds 17 = .ok (.iconst 1, 1) := by decide +kernel
theorem dX5_adds_18 : decode cX5_adds 18 = .ok (.goto 19, 3) := by decide +kernel
theorem dX5_adds_21 : decode cX5_adds 21 = .ok (.iload_n 3, 1) := by decide +kernel
theorem dX5_adds_22 : decode cX5_adds 22 = .ok (.i2l, 1) := by decide +kernel
theorem dX5_adds_23 : decode cX5_adds 23 = .ok (.ldc2_w 245, 3) := by decide +kernel
theorem dX5_adds_26 : decode cX5_adds 26 = .ok (.invokestatic 230, 3) := by decide +kernel
theorem dX5_adds_29 : decode cX5_adds 29 = .ok (.ifCond .eq 7, 3) := by decide +kernel
theorem dX5_adds_32 : decode cX5_adds 32 = .ok (.iconst 2, 1) := by decide +kernel
theorem dX5_adds_33 : decode cX5_adds 33 = .ok (.goto 4, 3) := by decide +kernel
theorem dX5_adds_36 : decode cX5_adds 36 = .ok (.iconst 0, 1) := by decide +kernel
theorem dX5_adds_37 : decode cX5_adds 37 = .ok (.putfield 62, 3) := by decide +kernel
theorem dX5_adds_40 : decode cX5_adds 40 = .ok (.aload_n 0, 1) := by decide +kernel
theorem dX5_adds_41 : decode cX5_adds 41 = .ok (.getfield 62, 3) := by decide +kernel
theorem dX5_adds_44 : decode cX5_adds 44 = .ok (.ifCond .eq 5, 3) := by decide +kernel
theorem dX5_adds_47 : decode cX5_adds 47 = .ok (.iconst 0, 1) := by decide +kernel
theorem dX5_adds_48 : decode cX5_adds 48 = .ok (.ireturn, 1) := by decide +kernel
theorem dX5_adds_49 : decode cX5_adds 49 = .ok (.aload_n 0, 1) := by decide +kernel
theorem dX5_adds_50 : decode cX5_adds 50 = .ok (.getfield 47, 3) := by decide +kernel
theorem dX5_adds_53 : decode cX5_adds 53 = .ok (.aload_n 0, 1) := by decide +kernel
theorem dX5_adds_54 : decode cX5_adds 54 = .ok (.getfield 43, 3) := by decide +kernel
theorem dX5_adds_57 : decode cX5_adds 57 = .ok (.invokevirtual 234, 3) := by decide +kernel
theorem dX5_adds_60 : decode cX5_adds 60 = .ok (.aload_n 0, 1) := by decide +kernel
theorem dX5_adds_61 : decode cX5_adds 61 = .ok (.aload_n 0, 1) := by decide +kernel
theorem dX5_adds_62 : decode cX5_adds 62 = .ok (.getfield 47, 3) := by decide +kernel
theorem dX5_adds_65 : decode cX5_adds 65 = .ok (.iload_n 1, 1) := by decide +kernel
theorem dX5_adds_66 : decode cX5_adds 66 = .ok (.iload_n 2, 1) := by decide +kernel
theorem dX5_adds_67 : decode cX5_adds 67 = .ok (.iload_n 3, 1) := by decide +kernel
theorem dX5_adds_68 : decode cX5_adds 68 = .ok (.invokevirtual 247, 3) := by decide +kernel
theorem dX5_adds_71 : decode cX5_adds 71 = .ok (.invokevirtual 251, 3) := by decide +kernel
theorem dX5_adds_74 : decode cX5_adds 74 = .ok (.ireturn, 1) := by decide +kernel
theorem dX5_shifts_0 : decode cX5_shifts 0 = .ok (.iload_n 2, 1) := by decide +kernel
theorem dX5_shifts_1 : decode cX5_shifts 1 = .ok (.i2l, 1) := by decide +kernel
theorem dX5_shifts_2 : decode cX5_shifts 2 = .ok (.ldc2_w 228, 3) := by decide +kernel
theorem dX5_shifts_5 : decode cX5_shifts 5 = .ok (.invokestatic 230, 3) := by decide +kernel
theorem dX5_shifts_8 : decode cX5_shifts 8 = .ok (.ifCond .ne 14, 3) := by decide +kernel
theorem dX5_shifts_11 : decode cX5_shifts 11 = .ok (.iload_n 3, 1) := by decide +kernel
theorem dX5_shifts_12 : decode cX5_shifts 12 = .ok (.i2l, 1) := by decide +kernel
theorem dX5_shifts_13 : decode cX5_shifts 13 = .ok (.ldc2_w 228, 3) := by decide +kernel
theorem dX5_shifts_16 : decode cX5_shifts 16 = .ok (.invokestatic 230, 3) := by decide +kernel
theorem dX5_shifts_19 : decode cX5_shifts 19 = .ok (.ifCond .eq 7, 3) := by decide +kernel
theorem dX5_shifts_22 : decode cX5_shifts 22 = .ok (.iconst 1, 1) := by decide +kernel
theorem dX5_shifts_23 : decode cX5_shifts 23 = .ok (.goto 4, 3) := by decide +kernel
theorem dX5_shifts_26 : decode cX5_shifts 26 = .ok (.iconst 0, 1) := by decide +kernel
theorem dX5_shifts_27 : decode cX5_shifts 27 = .ok (.istore 4, 2) := by decide +kernel
theorem dX5_shifts_29 : decode cX5_shifts 29 = .ok (.aload_n 0, 1) := by decide +kernel
theorem dX5_shifts_30 : decode cX5_shifts 30 = .ok (.aload_n 0, 1) := by decide +kernel
theorem dX5_shifts_31 : decode cX5_shifts 31 = .ok (.iload_n 1, 1) := by decide +kernel
theorem dX5_shifts_32 : decode cX5_shifts 32 = .ok (.invokevirtual 165, 3) := by decide +kernel
theorem dX5_shifts_35 : decode cX5_shifts 35 = .ok (.ifCond .ne 7, 3) := by decide +kernel
theorem dX5_shifts_38 : decode cX5_shifts 38 = .ok (.iconst 1, 1) := by decide +kernel
theorem dX5_shifts_39 : decode cX5_shifts 39 = .ok (.goto 13, 3) := by decide +kernel
theorem dX5_shifts_42 : decode cX5_shifts 42 = .ok (.iload 4, 2) := by decide +kernel
theorem dX5_shifts_44 : decode cX5_shifts 44 = .ok (.ifCond .eq 7, 3) := by decide +kernel
theorem dX5_shifts_47 : decode cX5_shifts 47 = .ok (.iconst 2, 1) := by decide +kernel
theorem dX5_shifts_48 : decode cX5_shifts 48 = .ok (.goto 4, 3) := by decide +kernel
theorem dX5_shifts_51 : decode cX5_shifts 51 = .ok (.iconst 0, 1) := by decide +kernel
theorem dX5_shifts_52 : decode cX5_shifts 52 = .ok (.putfield 62, 3) := by decide +kernel
theorem dX5_shifts_55 : decode cX5_shifts 55 = .ok (.aload_n 0, 1) := by decide +kernel
theorem dX5_shifts_56 : decode cX5_shifts 56 = .ok (.getfield 62, 3) := by decide +kernel
theorem dX5_shifts_59 : decode cX5_shifts 59 = .ok (.ifCond .eq 5, 3) := by decide +kernel
theorem dX5_shifts_62 : decode cX5_shifts 62 = .ok (.iconst 0, 1) := by decide +kernel
theorem dX5_shifts_63 : decode cX5_shifts 63 = .ok (.ireturn, 1) := by decide +kernel
theorem dX5_shifts_64 : decode cX5_shifts 64 = .ok (.aload_n 0, 1) := by decide +kernel
theorem dX5_shifts_65 : decode cX5_shifts 65 = .ok (.getfield 47, 3) := by decide +kernel
theorem dX5_shifts_68 : decode cX5_shifts 68 = .ok (.aload_n 0, 1) := by decide +kernel
theorem dX5_shifts_69 : decode cX5_shifts 69 = .ok (.getfield 43, 3) := by decide +kernel
theorem dX5_shifts_72 : decode cX5_shifts 72 = .ok (.invokevirtual 234, 3) := by decide +kernel
theorem dX5_shifts_75 : decode cX5_shifts 75 = .ok (.aload_n 0, 1) := by decide +kernel
theorem dX5_shifts_76 : decode cX5_shifts 76 = .ok (.aload_n 0, 1) := by decide +kernel
theorem dX5_shifts_77 : decode cX5_shifts 77 = .ok (.getfield 47, 3) := by decide +kernel
theorem dX5_shifts_80 : decode cX5_shifts 80 = .ok (.iload_n 1, 1) := by decide +kernel
theorem dX5_shifts_81 : decode cX5_shifts 81 = .ok (.iload_n 2, 1) := by decide +kernel
theorem dX5_shifts_82 : decode cX5_shifts 82 = .ok (.iload_n 3, 1) := by decide +kernel
theorem dX5_shifts_83 : decode cX5_shifts 83 = .ok (.invokevirtual 255, 3) := by decide +kernel
theorem dX5_shifts_86 : decode cX5_shifts 86 = .ok (.invokevirtual 251, 3) := by decide +kernel
theorem dX5_shifts_89 : decode cX5_shifts 89 = .ok (.ireturn, 1) := by decide +kernel
theorem dX5_star_0 : decode cX5_star 0 = .ok (.aload_n 0, 1) := by decide +kernel
theorem dX5_star_1 : decode cX5_star 1 = .ok (.aload_n 0, 1) := by decide +kernel
theorem dX5_star_2 : decode cX5_star 2 = .ok (.iload_n 1, 1) := by decide +kernel
theorem dX5_star_3 : decode cX5_star 3 = .ok (.invokevirtual 126, 3) := by decide +kernel
theorem dX5_star_6 : decode cX5_star 6 = .ok (.ifCond .eq 7, 3) := by decide +kernel
theorem dX5_star_9 : decode cX5_star 9 = .ok (.iconst 0, 1) := by decide +kernel
theorem dX5_star_10 : decode cX5_star 10 = .ok (.goto 4, 3) := by decide +kernel
theorem dX5_star_13 : decode cX5_star 13 = .ok (.iconst 1, 1) := by decide +kernel
theorem dX5_star_14 : decode cX5_star 14 = .ok (.putfield 62, 3) := by decide +kernel
theorem dX5_star_17 : decode cX5_star 17 = .ok (.aload_n 0, 1) := by decide +kernel
theorem dX5_star_18 : decode cX5_star 18 = .ok (.getfield 62, 3) := by decide +kernel
theorem dX5_star_21 : decode cX5_star 21 = .ok (.ifCond .eq 5, 3) := by decide +kernel
theorem dX5_star_24 : decode cX5_star 24 = .ok (.iconst (-1), 1) := by decide +kernel
theorem dX5_star_25 : decode cX5_star 25 = .ok (.ireturn, 1) := by decide +kernel
theorem dX5_star_26 : decode cX5_star 26 = .ok (.aload_n 0, 1) := by decide +kernel
theorem dX5_star_27 : decode cX5_star 27 = .ok (.getfield 47, 3) := by decide +kernel
theorem dX5_star_30 : decode cX5_star 30 = .ok (.aload_n 0, 1) := by decide +kernel
theorem dX5_star_31 : decode cX5_star 31 = .ok (.getfield 43, 3) := by decide +kernel
theorem dX5_star_34 : decode cX5_star 34 = .ok (.invokevirtual 234, 3) := by decide +kernel
theorem dX5_star_37 : decode cX5_star 37 = .ok (.aload_n 0, 1) := by decide +kernel
theorem dX5_star_38 : decode cX5_star 38 = .ok (.getfield 43, 3) := by decide +kernel
theorem dX5_star_41 : decode cX5_star 41 = .ok (.iload_n 1, 1) := by decide +kernel
theorem dX5_star_42 : decode cX5_star 42 = .ok (.invokevirtual 258, 3) := by decide +kernel
theorem dX5_star_45 : decode cX5_star 45 = .ok (.istore_n 2, 1) := by decide +kernel
theorem dX5_star_46 : decode cX5_star 46 = .ok (.aload_n 0, 1) := by decide +kernel
theorem dX5_star_47 : decode cX5_star 47 = .ok (.getfield 43, 3) := by decide +kernel
theorem dX5_star_50 : decode cX5_star 50 = .ok (.iload_n 1, 1) := by decide +kernel
theorem dX5_star_51 : decode cX5_star 51 = .ok (.invokevirtual 132, 3) := by decide +kernel
theorem dX5_star_54 : decode cX5_star 54 = .ok (.aload_n 0, 1) := by decide +kernel
theorem dX5_star_55 : decode cX5_star 55 = .ok (.getfield 43, 3) := by decide +kernel
theorem dX5_star_58 : decode cX5_star 58 = .ok (.iload_n 2, 1) := by decide +kernel
theorem dX5_star_59 : decode cX5_star 59 = .ok (.invokevirtual 132, 3) := by decide +kernel
theorem dX5_star_62 : decode cX5_star 62 = .ok (.iadd, 1) := by decide +kernel
theorem dX5_star_63 : decode cX5_star 63 = .ok (.istore_n 3, 1) := by decide +kernel
theorem dX5_star_64 : decode cX5_star 64 = .ok (.aload_n 0, 1) := by decide +kernel
theorem dX5_star_65 : decode cX5_star 65 = .ok (.getfield 43, 3) := by decide +kernel
theorem dX5_star_68 : decode cX5_star 68 = .ok (.iload_n 1, 1) := by decide +kernel
theorem dX5_star_69 : decode cX5_star 69 = .ok (.invokevirtual 135, 3) := by decide +kernel
theorem dX5_star_72 : decode cX5_star 72 = .ok (.aload_n 0, 1) := by decide +kernel
theorem dX5_star_73 : decode cX5_star 73 = .ok (.getfield 43, 3) := by decide +kernel
theorem dX5_star_76 : decode cX5_star 76 = .ok (.iload_n 2, 1) := by decide +kernel
theorem dX5_star_77 : decode cX5_star 77 = .ok (.invokevirtual 135, 3) := by decide +kernel
theorem dX5_star_80 : decode cX5_star 80 = .ok (.iadd, 1) := by decide +kernel
theorem dX5_star_81 : decode cX5_star 81 = .ok (.istore 4, 2) := by decide +kernel
theorem dX5_star_83 : decode cX5_star 83 = .ok (.iload_n 3, 1) := by decide +kernel
theorem dX5_star_84 : decode cX5_star 84 = .ok (.i2l, 1) := by decide +kernel
theorem dX5_star_85 : decode cX5_star 85 = .ok (.iload 4, 2) := by decide +kernel
theorem dX5_star_87 : decode cX5_star 87 = .ok (.i2l, 1) := by decide +kernel
theorem dX5_star_88 : decode cX5_star 88 = .ok (.invokestatic 175, 3) := by decide +kernel
theorem dX5_star_91 : decode cX5_star 91 = .ok (.lstore 5, 2) := by decide +kernel
theorem dX5_star_93 : decode cX5_star 93 = .ok (.aload_n 0, 1) := by decide +kernel
theorem dX5_star_94 : decode cX5_star 94 = .ok (.getfield 47, 3) := by decide +kernel
theorem dX5_star_97 : decode cX5_star 97 = .ok (.aload_n 0, 1) := by decide +kernel
theorem dX5_star_98 : decode cX5_star 98 = .ok (.getfield 43, 3) := by decide +kernel
theorem dX5_star_101 : decode cX5_star 101 = .ok (.iload_n 1, 1) := by decide +kernel
theorem dX5_star_102 : decode cX5_star 102 = .ok (.iload_n 3, 1) := by decide +kernel
theorem dX5_star_103 : decode cX5_star 103 = .ok (.i2l, 1) := by decide +kernel
theorem dX5_star_104 : decode cX5_star 104 = .ok (.lload 5, 2) := by decide +kernel
theorem dX5_star_106 : decode cX5_star 106 = .ok (.invokestatic 181, 3) := by decide +kernel
theorem dX5_star_109 : decode cX5_star 109 = .ok (.l2i, 1) := by decide +kernel
theorem dX5_star_110 : decode cX5_star 110 = .ok (.iload 4, 2) := by decide +kernel
theorem dX5_star_112 : decode cX5_star 112 = .ok (.i2l, 1) := by decide +kernel
theorem dX5_star_113 : decode cX5_star 113 = .ok (.lload 5, 2) := by decide +kernel
theorem dX5_star_115 : decode cX5_star 115 = .ok (.invokestatic 181, 3) := by decide +kernel
theorem dX5_star_118 : decode cX5_star 118 = .ok (.l2i, 1) := by decide +kernel
theorem dX5_star_119 : decode cX5_star 119 = .ok (.invokevirtual 261, 3) := by decide +kernel
theorem dX5_star_122 : decode cX5_star 122 = .ok (.istore 7, 2) := by decide +kernel
theorem dX5_star_124 : decode cX5_star 124 = .ok (.aload_n 0, 1) := by decide +kernel
theorem dX5_star_125 : decode cX5_star 125 = .ok (.iload 7, 2) := by decide +kernel
theorem dX5_star_127 : decode cX5_star 127 = .ok (.iconst (-1), 1) := by decide +kernel
theorem dX5_star_128 : decode cX5_star 128 = .ok (.if_icmp .eq 7, 3) := by decide +kernel
theorem dX5_star_131 : decode cX5_star 131 = .ok (.iconst 1, 1) := by decide +kernel
theorem dX5_star_132 : decode cX5_star 132 = .ok (.goto 4, 3) := by decide +kernel
theorem dX5_star_135 : decode cX5_star 135 = .ok (.iconst 0, 1) := by decide +kernel
theorem dX5_star_136 : decode cX5_star 136 = .ok (.invokevirtual 251, 3) := by decide +kernel
theorem dX5_star_139 : decode cX5_star 139 = .ok (.ifCond .eq 8, 3) := by decide +kernel
theorem dX5_star_142 : decode cX5_star 142 = .ok (.iload 7, 2) := by decide +kernel
theorem dX5_star_144 : decode cX5_star 144 = .ok (.goto 4, 3) := by decide +kernel
theorem dX5_star_147 : decode cX5_star 147 = .ok (.iconst (-1), 1) := by decide +kernel
theorem dX5_star_148 : decode cX5_star 148 = .ok (.ireturn, 1) := by decide +kernel
theorem dX5_cut_0 : decode cX5_cut 0 = .ok (.aload_n 0, 1) := by decide +kernel
theorem dX5_cut_1 : decode cX5_cut 1 = .ok (.aload_n 0, 1) := by decide +kernel
theorem dX5_cut_2 : decode cX5_cut 2 = .ok (.iload_n 1, 1) := by decide +kernel
theorem dX5_cut_3 : decode cX5_cut 3 = .ok (.invokevirtual 126, 3) := by decide +kernel
theorem dX5_cut_6 : decode cX5_cut 6 = .ok (.ifCond .eq 7, 3) := by decide +kernel
theorem dX5_cut_9 : decode cX5_cut 9 = .ok (.iconst 0, 1) := by decide +kernel
theorem dX5_cut_10 : decode cX5_cut 10 = .ok (.goto 4, 3) := by decide +kernel
theorem dX5_cut_13 : decode cX5_cut 13 = .ok (.iconst 1, 1) := by decide +kernel
theorem dX5_cut_14 : decode cX5_cut 14 = .ok (.putfield 62, 3) := by decide +kernel
theorem dX5_cut_17 : decode cX5_cut 17 = .ok (.aload_n 0, 1) := by decide +kernel
theorem dX5_cut_18 : decode cX5_cut 18 = .ok (.getfield 62, 3) := by decide +kernel
theorem dX5_cut_21 : decode cX5_cut 21 = .ok (.ifCond .eq 5, 3) := by decide +kernel
theorem dX5_cut_24 : decode cX5_cut 24 = .ok (.iconst (-1), 1) := by decide +kernel
theorem dX5_cut_25 : decode cX5_cut 25 = .ok (.ireturn, 1) := by decide +kernel
theorem dX5_cut_26 : decode cX5_cut 26 = .ok (.aload_n 0, 1) := by decide +kernel
theorem dX5_cut_27 : decode cX5_cut 27 = .ok (.getfield 47, 3) := by decide +kernel
theorem dX5_cut_30 : decode cX5_cut 30 = .ok (.aload_n 0, 1) := by decide +kernel
theorem dX5_cut_31 : decode cX5_cut 31 = .ok (.getfield 43, 3) := by decide +kernel
theorem dX5_cut_34 : decode cX5_cut 34 = .ok (.invokevirtual 234, 3) := by decide +kernel
theorem dX5_cut_37 : decode cX5_cut 37 = .ok (.aload_n 0, 1) := by decide +kernel
theorem dX5_cut_38 : decode cX5_cut 38 = .ok (.iload_n 1, 1) := by decide +kernel
theorem dX5_cut_39 : decode cX5_cut 39 = .ok (.invokevirtual 265, 3) := by decide +kernel
theorem dX5_cut_42 : decode cX5_cut 42 = .ok (.istore_n 2, 1) := by decide +kernel
theorem dX5_cut_43 : decode cX5_cut 43 = .ok (.aload_n 0, 1) := by decide +kernel
theorem dX5_cut_44 : decode cX5_cut 44 = .ok (.iload_n 2, 1) := by decide +kernel
theorem dX5_cut_45 : decode cX5_cut 45 = .ok (.iconst (-1), 1) := by decide +kernel
theorem dX5_cut_46 : decode cX5_cut 46 = .ok (.if_icmp .eq 7, 3) := by decide +kernel
theorem dX5_cut_49 : decode cX5_cut 49 = .ok (.iconst 1, 1) := by decide +kernel
theorem dX5_cut_50 : decode cX5_cut 50 = .ok (.goto 4, 3) := by decide +kernel
theorem dX5_cut_53 : decode cX5_cut 53 = .ok (.iconst 0, 1) := by decide +kernel
theorem dX5_cut_54 : decode cX5_cut 54 = .ok (.invokevirtual 251, 3) := by decide +kernel
theorem dX5_cut_57 : decode cX5_cut 57 = .ok (.ifCond .eq 7, 3) := by decide +kernel
theorem dX5_cut_60 : decode cX5_cut 60 = .ok (.iload_n 2, 1) := by decide +kernel
theorem dX5_cut_61 : decode cX5_cut 61 = .ok (.goto 4, 3) := by decide +kernel
theorem dX5_cut_64 : decode cX5_cut 64 = .ok (.iconst (-1), 1) := by decide +kernel
theorem dX5_cut_65 : decode cX5_cut 65 = .ok (.ireturn, 1) := by decide +kernel
theorem dX5_cutAll_0 : decode cX5_cutAll 0 = .ok (.aload_n 0, 1) := by decide +kernel
theorem dX5_cutAll_1 : decode cX5_cutAll 1 = .ok (.aload_n 0, 1) := by decide +kernel
theorem dX5_cutAll_2 : decode cX5_cutAll 2 = .ok (.invokevirtual 100, 3) := by decide +kernel
theorem dX5_cutAll_5 : decode cX5_cutAll 5 = .ok (.ifCond .eq 7, 3) := by decide +kernel
theorem dX5_cutAll_8 : decode cX5_cutAll 8 = .ok (.iconst 0, 1) := by decide +kernel
theorem dX5_cutAll_9 : decode cX5_cutAll 9 = .ok (.goto 4, 3) := by decide +kernel
theorem dX5_cutAll_12 : decode cX5_cutAll 12 = .ok (.iconst 1, 1) := by decide +kernel
theorem dX5_cutAll_13 : decode cX5_cutAll 13 = .ok (.putfield 62, 3) := by decide +kernel
theorem dX5_cutAll_16 : decode cX5_cutAll 16 = .ok (.aload_n 0, 1) := by decide +kernel
theorem dX5_cutAll_17 : decode cX5_cutAll 17 = .ok (.getfield 62, 3) := by decide +kernel
theorem dX5_cutAll_20 : decode cX5_cutAll 20 = .ok (.ifCond .eq 5, 3) := by decide +kernel
theorem dX5_cutAll_23 : decode cX5_cutAll 23 = .ok (.iconst (-1), 1) := by decide +kernel
theorem dX5_cutAll_24 : decode cX5_cutAll 24 = .ok (.ireturn, 1) := by decide +kernel
theorem dX5_cutAll_25 : decode cX5_cutAll 25 = .ok (.aload_n 0, 1) := by decide +kernel
theorem dX5_cutAll_26 : decode cX5_cutAll 26 = .ok (.getfield 47, 3) := by decide +kernel
theorem dX5_cutAll_29 : decode cX5_cutAll 29 = .ok (.aload_n 0, 1) := by decide +kernel
theorem dX5_cutAll_30 : decode cX5_cutAll 30 = .ok (.getfield 43, 3) := by decide +kernel
theorem dX5_cutAll_33 : decode cX5_cutAll 33 = .ok (.invokevirtual 234, 3) := by decide +kernel
theorem dX5_cutAll_36 : decode cX5_cutAll 36 = .ok (.iconst 1, 1) := by decide +kernel
theorem dX5_cutAll_37 : decode cX5_cutAll 37 = .ok (.istore_n 1, 1) := by decide +kernel
theorem dX5_cutAll_38 : decode cX5_cutAll 38 = .ok (.iconst 0, 1) := by decide +kernel
theorem dX5_cutAll_39 : decode cX5_cutAll 39 = .ok (.istore_n 2, 1) := by decide +kernel
theorem dX5_cutAll_40 : decode cX5_cutAll 40 = .ok (.iload_n 2, 1) := by decide +kernel
theorem dX5_cutAll_41 : decode cX5_cutAll 41 = .ok (.aload_n 0, 1) := by decide +kernel
theorem dX5_cutAll_42 : decode cX5_cutAll 42 = .ok (.getfield 43, 3) := by decide +kernel
theorem dX5_cutAll_45 : decode cX5_cutAll 45 = .ok (.getfield 97, 3) := by decide +kernel
theorem dX5_cutAll_48 : decode cX5_cutAll 48 = .ok (.if_icmp .ge 28, 3) := by decide +kernel
theorem dX5_cutAll_51 : decode cX5_cutAll 51 = .ok (.iload_n 1, 1) := by decide +kernel
theorem dX5_cutAll_52 : decode cX5_cutAll 52 = .ok (.ifCond .eq 24, 3) := by decide +kernel
theorem dX5_cutAll_55 : decode cX5_cutAll 55 = .ok (.aload_n 0, 1) := by decide +kernel
theorem dX5_cutAll_56 : decode cX5_cutAll 56 = .ok (.iload_n 2, 1) := by decide +kernel
theorem dX5_cutAll_57 : decode cX5_cutAll 57 = .ok (.invokevirtual 265, 3) := by decide +kernel
theorem dX5_cutAll_60 : decode cX5_cutAll 60 = .ok (.iconst (-1), 1) := by decide +kernel
theorem dX5_cutAll_61 : decode cX5_cutAll 61 = .ok (.if_icmp .eq 7, 3) := by decide +kernel
theorem dX5_cutAll_64 : decode cX5_cutAll 64 = .ok (.iconst 1, 1) := by decide +kernel
theorem dX5_cutAll_65 : decode cX5_cutAll 65 = .ok (.goto 4, 3) := by decide +kernel
theorem dX5_cutAll_68 : decode cX5_cutAll 68 = .ok (.iconst 0, 1) := by decide +kernel
theorem dX5_cutAll_69 : decode cX5_cutAll 69 = .ok (.istore_n 1, 1) := by decide +kernel
theorem dX5_cutAll_70 : decode cX5_cutAll 70 = .ok (.iinc 2 1, 3) := by decide +kernel
theorem dX5_cutAll_73 : decode cX5_cutAll 73 = .ok (.goto (-33), 3) := by decide +kernel
theorem dX5_cutAll_76 : decode cX5_cutAll 76 = .ok (.aload_n 0, 1) := by decide +kernel
theorem dX5_cutAll_77 : decode cX5_cutAll 77 = .ok (.getfield 47, 3) := by decide +kernel
theorem dX5_cutAll_80 : decode cX5_cutAll 80 = .ok (.getfield 97, 3) := by decide +kernel
theorem dX5_cutAll_83 : decode cX5_cutAll 83 = .ok (.aload_n 0, 1) := by decide +kernel
theorem dX5_cutAll_84 : decode cX5_cutAll 84 = .ok (.getfield 43, 3) := by decide +kernel
theorem dX5_cutAll_87 : decode cX5_cutAll 87 = .ok (.getfield 97, 3) := by decide +kernel
theorem dX5_cutAll_90 : decode cX5_cutAll 90 = .ok (.isub, 1) := by decide +kernel
theorem dX5_cutAll_91 : decode cX5_cutAll 91 = .ok (.istore_n 2, 1) := by decide +kernel
theorem dX5_cutAll_92 : decode cX5_cutAll 92 = .ok (.aload_n 0, 1) := by decide +kernel
theorem dX5_cutAll_93 : decode cX5_cutAll 93 = .ok (.iload_n 1, 1) := by decide +kernel
theorem dX5_cutAll_94 : decode cX5_cutAll 94 = .ok (.invokevirtual 251, 3) := by decide +kernel
theorem dX5_cutAll_97 : decode cX5_cutAll 97 = .ok (.ifCond .eq 7, 3) := by decide +kernel
theorem dX5_cutAll_100 : decode cX5_cutAll 100 = .ok (.iload_n 2, 1) := by decide +kernel
theorem dX5_cutAll_101 : decode cX5_cutAll 101 = .ok (.goto 4, 3) := by decide +kernel
theorem dX5_cutAll_104 : decode cX5_cutAll 104 = .ok (.iconst (-1), 1) := by decide +kernel
theorem dX5_cutAll_105 : decode cX5_cutAll 105 = .ok (.ireturn, 1) := by decide +kernel
theorem dX5_drop_0 : decode cX5_drop 0 = .ok (.aload_n 0, 1) := by decide +kernel
theorem dX5_drop_1 : decode cX5_drop 1 = .ok (.aload_n 0, 1) := by decide +kernel
theorem dX5_drop_2 : decode cX5_drop 2 = .ok (.iload_n 1, 1) := by decide +kernel
theorem dX5_drop_3 : decode cX5_drop 3 = .ok (.invokevirtual 126, 3) := by decide +kernel
theorem dX5_drop_6 : decode cX5_drop 6 = .ok (.ifCond .ne 7, 3) := by decide +kernel
theorem dX5_drop_9 : decode cX5_drop 9 = .ok (.iconst 1, 1) := by decide +kernel
theorem dX5_drop_10 : decode cX5_drop 10 = .ok (.goto 19, 3) := by decide +kernel
theorem dX5_drop_13 : decode cX5_drop 13 = .ok (.aload_n 0, 1) := by decide +kernel
theorem dX5_drop_14 : decode cX5_drop 14 = .ok (.getfield 43, 3) := by decide +kernel
theorem dX5_drop_17 : decode cX5_drop 17 = .ok (.iload_n 1, 1) := by decide +kernel
theorem dX5_drop_18 : decode cX5_drop 18 = .ok (.invokevirtual 268, 3) := by decide +kernel
theorem dX5_drop_21 : decode cX5_drop 21 = .ok (.ifCond .eq 7, 3) := by decide +kernel
theorem dX5_drop_24 : decode cX5_drop 24 = .ok (.iconst 0, 1) := by decide +kernel
theorem dX5_drop_25 : decode cX5_drop 25 = .ok (.goto 4, 3) := by decide +kernel
theorem dX5_drop_28 : decode cX5_drop 28 = .ok (.iconst 5, 1) := by decide +kernel
theorem dX5_drop_29 : decode cX5_drop 29 = .ok (.putfield 62, 3) := by decide +kernel
theorem dX5_drop_32 : decode cX5_drop 32 = .ok (.aload_n 0, 1) := by decide +kernel
theorem dX5_drop_33 : decode cX5_drop 33 = .ok (.getfield 62, 3) := by decide +kernel
theorem dX5_drop_36 : decode cX5_drop 36 = .ok (.ifCond .eq 5, 3) := by decide +kernel
theorem dX5_drop_39 : decode cX5_drop 39 = .ok (.iconst (-1), 1) := by decide +kernel
theorem dX5_drop_40 : decode cX5_drop 40 = .ok (.ireturn, 1) := by decide +kernel
theorem dX5_drop_41 : decode cX5_drop 41 = .ok (.aload_n 0, 1) := by decide +kernel
theorem dX5_drop_42 : decode cX5_drop 42 = .ok (.getfield 47, 3) := by decide +kernel
theorem dX5_drop_45 : decode cX5_drop 45 = .ok (.aload_n 0, 1) := by decide +kernel
theorem dX5_drop_46 : decode cX5_drop 46 = .ok (.getfield 43, 3) := by decide +kernel
theorem dX5_drop_49 : decode cX5_drop 49 = .ok (.invokevirtual 234, 3) := by decide +kernel
theorem dX5_drop_52 : decode cX5_drop 52 = .ok (.aload_n 0, 1) := by decide +kernel
theorem dX5_drop_53 : decode cX5_drop 53 = .ok (.getfield 47, 3) := by decide +kernel
theorem dX5_drop_56 : decode cX5_drop 56 = .ok (.iload_n 1, 1) := by decide +kernel
theorem dX5_drop_57 : decode cX5_drop 57 = .ok (.invokevirtual 271, 3) := by decide +kernel
theorem dX5_drop_60 : decode cX5_drop 60 = .ok (.aload_n 0, 1) := by decide +kernel
theorem dX5_drop_61 : decode cX5_drop 61 = .ok (.invokevirtual 242, 3) := by decide +kernel
theorem dX5_drop_64 : decode cX5_drop 64 = .ok (.aload_n 0, 1) := by decide +kernel
theorem dX5_drop_65 : decode cX5_drop 65 = .ok (.getfield 43, 3) := by decide +kernel
theorem dX5_drop_68 : decode cX5_drop 68 = .ok (.getfield 97, 3) := by decide +kernel
theorem dX5_drop_71 : decode cX5_drop 71 = .ok (.ireturn, 1) := by decide +kernel
theorem dX5_lean_0 : decode cX5_lean 0 = .ok (.aload_n 0, 1) := by decide +kernel
theorem dX5_lean_1 : decode cX5_lean 1 = .ok (.aload_n 0, 1) := by decide +kernel
theorem dX5_lean_2 : decode cX5_lean 2 = .ok (.invokevirtual 100, 3) := by decide +kernel
theorem dX5_lean_5 : decode cX5_lean 5 = .ok (.ifCond .eq 7, 3) := by decide +kernel
theorem dX5_lean_8 : decode cX5_lean 8 = .ok (.iconst 0, 1) := by decide +kernel
theorem dX5_lean_9 : decode cX5_lean 9 = .ok (.goto 4, 3) := by decide +kernel
theorem dX5_lean_12 : decode cX5_lean 12 = .ok (.iconst 1, 1) := by decide +kernel
theorem dX5_lean_13 : decode cX5_lean 13 = .ok (.putfield 62, 3) := by decide +kernel
theorem dX5_lean_16 : decode cX5_lean 16 = .ok (.aload_n 0, 1) := by decide +kernel
theorem dX5_lean_17 : decode cX5_lean 17 = .ok (.getfield 62, 3) := by decide +kernel
theorem dX5_lean_20 : decode cX5_lean 20 = .ok (.ifCond .eq 5, 3) := by decide +kernel
theorem dX5_lean_23 : decode cX5_lean 23 = .ok (.iconst (-1), 1) := by decide +kernel
theorem dX5_lean_24 : decode cX5_lean 24 = .ok (.ireturn, 1) := by decide +kernel
theorem dX5_lean_25 : decode cX5_lean 25 = .ok (.aload_n 0, 1) := by decide +kernel
theorem dX5_lean_26 : decode cX5_lean 26 = .ok (.getfield 47, 3) := by decide +kernel
theorem dX5_lean_29 : decode cX5_lean 29 = .ok (.aload_n 0, 1) := by decide +kernel
theorem dX5_lean_30 : decode cX5_lean 30 = .ok (.getfield 43, 3) := by decide +kernel
theorem dX5_lean_33 : decode cX5_lean 33 = .ok (.invokevirtual 234, 3) := by decide +kernel
theorem dX5_lean_36 : decode cX5_lean 36 = .ok (.aload_n 0, 1) := by decide +kernel
theorem dX5_lean_37 : decode cX5_lean 37 = .ok (.getfield 47, 3) := by decide +kernel
theorem dX5_lean_40 : decode cX5_lean 40 = .ok (.invokevirtual 274, 3) := by decide +kernel
theorem dX5_lean_43 : decode cX5_lean 43 = .ok (.istore_n 1, 1) := by decide +kernel
theorem dX5_lean_44 : decode cX5_lean 44 = .ok (.iconst 0, 1) := by decide +kernel
theorem dX5_lean_45 : decode cX5_lean 45 = .ok (.istore_n 2, 1) := by decide +kernel
theorem dX5_lean_46 : decode cX5_lean 46 = .ok (.iload_n 1, 1) := by decide +kernel
theorem dX5_lean_47 : decode cX5_lean 47 = .ok (.iconst (-1), 1) := by decide +kernel
theorem dX5_lean_48 : decode cX5_lean 48 = .ok (.if_icmp .eq 31, 3) := by decide +kernel
theorem dX5_lean_51 : decode cX5_lean 51 = .ok (.iload_n 2, 1) := by decide +kernel
theorem dX5_lean_52 : decode cX5_lean 52 = .ok (.bipush 24, 2) := by decide +kernel
theorem dX5_lean_54 : decode cX5_lean 54 = .ok (.if_icmp .ge 25, 3) := by decide +kernel
theorem dX5_lean_57 : decode cX5_lean 57 = .ok (.aload_n 0, 1) := by decide +kernel
theorem dX5_lean_58 : decode cX5_lean 58 = .ok (.getfield 47, 3) := by decide +kernel
theorem dX5_lean_61 : decode cX5_lean 61 = .ok (.iload_n 1, 1) := by decide +kernel
theorem dX5_lean_62 : decode cX5_lean 62 = .ok (.invokevirtual 271, 3) := by decide +kernel
theorem dX5_lean_65 : decode cX5_lean 65 = .ok (.iinc 2 1, 3) := by decide +kernel
theorem dX5_lean_68 : decode cX5_lean 68 = .ok (.aload_n 0, 1) := by decide +kernel
theorem dX5_lean_69 : decode cX5_lean 69 = .ok (.getfield 47, 3) := by decide +kernel
theorem dX5_lean_72 : decode cX5_lean 72 = .ok (.invokevirtual 274, 3) := by decide +kernel
theorem dX5_lean_75 : decode cX5_lean 75 = .ok (.istore_n 1, 1) := by decide +kernel
theorem dX5_lean_76 : decode cX5_lean 76 = .ok (.goto (-30), 3) := by decide +kernel
theorem dX5_lean_79 : decode cX5_lean 79 = .ok (.aload_n 0, 1) := by decide +kernel
theorem dX5_lean_80 : decode cX5_lean 80 = .ok (.invokevirtual 242, 3) := by decide +kernel
theorem dX5_lean_83 : decode cX5_lean 83 = .ok (.iload_n 2, 1) := by decide +kernel
theorem dX5_lean_84 : decode cX5_lean 84 = .ok (.ireturn, 1) := by decide +kernel
theorem dX5_undo_0 : decode cX5_undo 0 = .ok (.aload_n 0, 1) := by decide +kernel
theorem dX5_undo_1 : decode cX5_undo 1 = .ok (.aload_n 0, 1) := by decide +kernel
theorem dX5_undo_2 : decode cX5_undo 2 = .ok (.invokevirtual 100, 3) := by decide +kernel
theorem dX5_undo_5 : decode cX5_undo 5 = .ok (.ifCond .ne 7, 3) := by decide +kernel
theorem dX5_undo_8 : decode cX5_undo 8 = .ok (.iconst 1, 1) := by decide +kernel
theorem dX5_undo_9 : decode cX5_undo 9 = .ok (.goto 15, 3) := by decide +kernel
theorem dX5_undo_12 : decode cX5_undo 12 = .ok (.aload_n 0, 1) := by decide +kernel
theorem dX5_undo_13 : decode cX5_undo 13 = .ok (.getfield 94, 3) := by decide +kernel
theorem dX5_undo_16 : decode cX5_undo 16 = .ok (.ifCond .ne 7, 3) := by decide +kernel
theorem dX5_undo_19 : decode cX5_undo 19 = .ok (.iconst 5, 1) := by decide +kernel
theorem dX5_undo_20 : decode cX5_undo 20 = .ok (.goto 4, 3) := by decide +kernel
theorem dX5_undo_23 : decode cX5_undo 23 = .ok (.iconst 0, 1) := by decide +kernel
theorem dX5_undo_24 : decode cX5_undo 24 = .ok (.putfield 62, 3) := by decide +kernel
theorem dX5_undo_27 : decode cX5_undo 27 = .ok (.aload_n 0, 1) := by decide +kernel
theorem dX5_undo_28 : decode cX5_undo 28 = .ok (.getfield 62, 3) := by decide +kernel
theorem dX5_undo_31 : decode cX5_undo 31 = .ok (.ifCond .eq 5, 3) := by decide +kernel
theorem dX5_undo_34 : decode cX5_undo 34 = .ok (.iconst (-1), 1) := by decide +kernel
theorem dX5_undo_35 : decode cX5_undo 35 = .ok (.ireturn, 1) := by decide +kernel
theorem dX5_undo_36 : decode cX5_undo 36 = .ok (.aload_n 0, 1) := by decide +kernel
theorem dX5_undo_37 : decode cX5_undo 37 = .ok (.getfield 277, 3) := by decide +kernel
theorem dX5_undo_40 : decode cX5_undo 40 = .ok (.iconst 1, 1) := by decide +kernel
theorem dX5_undo_41 : decode cX5_undo 41 = .ok (.isub, 1) := by decide +kernel
theorem dX5_undo_42 : decode cX5_undo 42 = .ok (.invokestatic 280, 3) := by decide +kernel
theorem dX5_undo_45 : decode cX5_undo 45 = .ok (.istore_n 1, 1) := by decide +kernel
theorem dX5_undo_46 : decode cX5_undo 46 = .ok (.aload_n 0, 1) := by decide +kernel
theorem dX5_undo_47 : decode cX5_undo 47 = .ok (.getfield 43, 3) := by decide +kernel
theorem dX5_undo_50 : decode cX5_undo 50 = .ok (.astore_n 2, 1) := by decide +kernel
theorem dX5_undo_51 : decode cX5_undo 51 = .ok (.aload_n 0, 1) := by decide +kernel
theorem dX5_undo_52 : decode cX5_undo 52 = .ok (.aload_n 0, 1) := by decide +kernel
theorem dX5_undo_53 : decode cX5_undo 53 = .ok (.getfield 38, 3) := by decide +kernel
theorem dX5_undo_56 : decode cX5_undo 56 = .ok (.iload_n 1, 1) := by decide +kernel
theorem dX5_undo_57 : decode cX5_undo 57 = .ok (.aaload, 1) := by decide +kernel
theorem dX5_undo_58 : decode cX5_undo 58 = .ok (.putfield 43, 3) := by decide +kernel
theorem dX5_undo_61 : decode cX5_undo 61 = .ok (.aload_n 0, 1) := by decide +kernel
theorem dX5_undo_62 : decode cX5_undo 62 = .ok (.getfield 38, 3) := by decide +kernel
theorem dX5_undo_65 : decode cX5_undo 65 = .ok (.iload_n 1, 1) := by decide +kernel
theorem dX5_undo_66 : decode cX5_undo 66 = .ok (.aload_n 2, 1) := by decide +kernel
theorem dX5_undo_67 : decode cX5_undo 67 = .ok (.aastore, 1) := by decide +kernel
theorem dX5_undo_68 : decode cX5_undo 68 = .ok (.aload_n 0, 1) := by decide +kernel
theorem dX5_undo_69 : decode cX5_undo 69 = .ok (.iload_n 1, 1) := by decide +kernel
theorem dX5_undo_70 : decode cX5_undo 70 = .ok (.putfield 277, 3) := by decide +kernel
theorem dX5_undo_73 : decode cX5_undo 73 = .ok (.aload_n 0, 1) := by decide +kernel
theorem dX5_undo_74 : decode cX5_undo 74 = .ok (.dup, 1) := by decide +kernel
theorem dX5_undo_75 : decode cX5_undo 75 = .ok (.getfield 94, 3) := by decide +kernel
theorem dX5_undo_78 : decode cX5_undo 78 = .ok (.iconst 1, 1) := by decide +kernel
theorem dX5_undo_79 : decode cX5_undo 79 = .ok (.isub, 1) := by decide +kernel
theorem dX5_undo_80 : decode cX5_undo 80 = .ok (.putfield 94, 3) := by decide +kernel
theorem dX5_undo_83 : decode cX5_undo 83 = .ok (.aload_n 0, 1) := by decide +kernel
theorem dX5_undo_84 : decode cX5_undo 84 = .ok (.getfield 94, 3) := by decide +kernel
theorem dX5_undo_87 : decode cX5_undo 87 = .ok (.ireturn, 1) := by decide +kernel
theorem dX5_letter_0 : decode cX5_letter 0 = .ok (.aload_n 0, 1) := by decide +kernel
theorem dX5_letter_1 : decode cX5_letter 1 = .ok (.iload_n 1, 1) := by decide +kernel
theorem dX5_letter_2 : decode cX5_letter 2 = .ok (.invokevirtual 283, 3) := by decide +kernel
theorem dX5_letter_5 : decode cX5_letter 5 = .ok (.istore_n 3, 1) := by decide +kernel
theorem dX5_letter_6 : decode cX5_letter 6 = .ok (.iload_n 2, 1) := by decide +kernel
theorem dX5_letter_7 : decode cX5_letter 7 = .ok (.ifCond .lt 11, 3) := by decide +kernel
theorem dX5_letter_10 : decode cX5_letter 10 = .ok (.iload_n 2, 1) := by decide +kernel
theorem dX5_letter_11 : decode cX5_letter 11 = .ok (.iload_n 3, 1) := by decide +kernel
theorem dX5_letter_12 : decode cX5_letter 12 = .ok (.invokestatic 286, 3) := by decide +kernel
theorem dX5_letter_15 : decode cX5_letter 15 = .ok (.if_icmp .lt 11, 3) := by decide +kernel
theorem dX5_letter_18 : decode cX5_letter 18 = .ok (.new 289, 3) := by decide +kernel
theorem dX5_letter_21 : decode cX5_letter 21 = .ok (.dup, 1) := by decide +kernel
theorem dX5_letter_22 : decode cX5_letter 22 = .ok (.invokespecial 291, 3) := by decide +kernel
theorem dX5_letter_25 : decode cX5_letter 25 = .ok (.athrow, 1) := by decide +kernel
theorem dX5_letter_26 : decode cX5_letter 26 = .ok (.iload_n 3, 1) := by decide +kernel
theorem dX5_letter_27 : decode cX5_letter 27 = .ok (.iload_n 2, 1) := by decide +kernel
theorem dX5_letter_28 : decode cX5_letter 28 = .ok (.invokestatic 292, 3) := by decide +kernel
theorem dX5_letter_31 : decode cX5_letter 31 = .ok (.ireturn, 1) := by decide +kernel
theorem dX5_size_0 : decode cX5_size 0 = .ok (.aload_n 0, 1) := by decide +kernel
theorem dX5_size_1 : decode cX5_size 1 = .ok (.getfield 12, 3) := by decide +kernel
theorem dX5_size_4 : decode cX5_size 4 = .ok (.getfield 58, 3) := by decide +kernel
theorem dX5_size_7 : decode cX5_size 7 = .ok (.ireturn, 1) := by decide +kernel
theorem dX5_trouble_0 : decode cX5_trouble 0 = .ok (.aload_n 0, 1) := by decide +kernel
theorem dX5_trouble_1 : decode cX5_trouble 1 = .ok (.getfield 62, 3) := by decide +kernel
theorem dX5_trouble_4 : decode cX5_trouble 4 = .ok (.ireturn, 1) := by decide +kernel
theorem dX5_isThere_0 : decode cX5_isThere 0 = .ok (.aload_n 0, 1) := by decide +kernel
theorem dX5_isThere_1 : decode cX5_isThere 1 = .ok (.getfield 43, 3) := by decide +kernel
theorem dX5_isThere_4 : decode cX5_isThere 4 = .ok (.getfield 97, 3) := by decide +kernel
theorem dX5_isThere_7 : decode cX5_isThere 7 = .ok (.ifCond .le 7, 3) := by decide +kernel
theorem dX5_isThere_10 : decode cX5_isThere 10 = .ok (.iconst 1, 1) := by decide +kernel
theorem dX5_isThere_11 : decode cX5_isThere 11 = .ok (.goto 4, 3) := by decide +kernel
theorem dX5_isThere_14 : decode cX5_isThere 14 = .ok (.iconst 0, 1) := by decide +kernel
theorem dX5_isThere_15 : decode cX5_isThere 15 = .ok (.ireturn, 1) := by decide +kernel
theorem dX5_hasRay_0 : decode cX5_hasRay 0 = .ok (.iload_n 1, 1) := by decide +kernel
theorem dX5_hasRay_1 : decode cX5_hasRay 1 = .ok (.ifCond .lt 18, 3) := by decide +kernel
theorem dX5_hasRay_4 : decode cX5_hasRay 4 = .ok (.iload_n 1, 1) := by decide +kernel
theorem dX5_hasRay_5 : decode cX5_hasRay 5 = .ok (.aload_n 0, 1) := by decide +kernel
theorem dX5_hasRay_6 : decode cX5_hasRay 6 = .ok (.getfield 43, 3) := by decide +kernel
theorem dX5_hasRay_9 : decode cX5_hasRay 9 = .ok (.getfield 97, 3) := by decide +kernel
theorem dX5_hasRay_12 : decode cX5_hasRay 12 = .ok (.if_icmp .ge 7, 3) := by decide +kernel
theorem dX5_hasRay_15 : decode cX5_hasRay 15 = .ok (.iconst 1, 1) := by decide +kernel
theorem dX5_hasRay_16 : decode cX5_hasRay 16 = .ok (.goto 4, 3) := by decide +kernel
theorem dX5_hasRay_19 : decode cX5_hasRay 19 = .ok (.iconst 0, 1) := by decide +kernel
theorem dX5_hasRay_20 : decode cX5_hasRay 20 = .ok (.ireturn, 1) := by decide +kernel
theorem dX5_hasLoad_0 : decode cX5_hasLoad 0 = .ok (.iload_n 1, 1) := by decide +kernel
theorem dX5_hasLoad_1 : decode cX5_hasLoad 1 = .ok (.ifCond .lt 18, 3) := by decide +kernel
theorem dX5_hasLoad_4 : decode cX5_hasLoad 4 = .ok (.iload_n 1, 1) := by decide +kernel
theorem dX5_hasLoad_5 : decode cX5_hasLoad 5 = .ok (.aload_n 0, 1) := by decide +kernel
theorem dX5_hasLoad_6 : decode cX5_hasLoad 6 = .ok (.getfield 43, 3) := by decide +kernel
theorem dX5_hasLoad_9 : decode cX5_hasLoad 9 = .ok (.getfield 103, 3) := by decide +kernel
theorem dX5_hasLoad_12 : decode cX5_hasLoad 12 = .ok (.if_icmp .ge 7, 3) := by decide +kernel
theorem dX5_hasLoad_15 : decode cX5_hasLoad 15 = .ok (.iconst 1, 1) := by decide +kernel
theorem dX5_hasLoad_16 : decode cX5_hasLoad 16 = .ok (.goto 4, 3) := by decide +kernel
theorem dX5_hasLoad_19 : decode cX5_hasLoad 19 = .ok (.iconst 0, 1) := by decide +kernel
theorem dX5_hasLoad_20 : decode cX5_hasLoad 20 = .ok (.ireturn, 1) := by decide +kernel
theorem dX5_nameOf_0 : decode cX5_nameOf 0 = .ok (.aload_n 0, 1) := by decide +kernel
theorem dX5_nameOf_1 : decode cX5_nameOf 1 = .ok (.iload_n 1, 1) := by decide +kernel
theorem dX5_nameOf_2 : decode cX5_nameOf 2 = .ok (.invokevirtual 165, 3) := by decide +kernel
theorem dX5_nameOf_5 : decode cX5_nameOf 5 = .ok (.ifCond .eq 21, 3) := by decide +kernel
theorem dX5_nameOf_8 : decode cX5_nameOf 8 = .ok (.iload_n 1, 1) := by decide +kernel
theorem dX5_nameOf_9 : decode cX5_nameOf 9 = .ok (.aload_n 0, 1) := by decide +kernel
theorem dX5_nameOf_10 : decode cX5_nameOf 10 = .ok (.getfield 34, 3) := by decide +kernel
theorem dX5_nameOf_13 : decode cX5_nameOf 13 = .ok (.arraylength, 1) := by decide +kernel
theorem dX5_nameOf_14 : decode cX5_nameOf 14 = .ok (.if_icmp .ge 12, 3) := by decide +kernel
theorem dX5_nameOf_17 : decode cX5_nameOf 17 = .ok (.aload_n 0, 1) := by decide +kernel
theorem dX5_nameOf_18 : decode cX5_nameOf 18 = .ok (.getfield 34, 3) := by decide +kernel
theorem dX5_nameOf_21 : decode cX5_nameOf 21 = .ok (.iload_n 1, 1) := by decide +kernel
theorem dX5_nameOf_22 : decode cX5_nameOf 22 = .ok (.iaload, 1) := by decide +kernel
theorem dX5_nameOf_23 : decode cX5_nameOf 23 = .ok (.goto 4, 3) := by decide +kernel
theorem dX5_nameOf_26 : decode cX5_nameOf 26 = .ok (.iconst 0, 1) := by decide +kernel
theorem dX5_nameOf_27 : decode cX5_nameOf 27 = .ok (.ireturn, 1) := by decide +kernel
theorem dX5_isFar_0 : decode cX5_isFar 0 = .ok (.iload_n 0, 1) := by decide +kernel
theorem dX5_isFar_1 : decode cX5_isFar 1 = .ok (.i2l, 1) := by decide +kernel
theorem dX5_isFar_2 : decode cX5_isFar 2 = .ok (.ldc2_w 295, 3) := by decide +kernel
theorem dX5_isFar_5 : decode cX5_isFar 5 = .ok (.invokestatic 230, 3) := by decide +kernel
theorem dX5_isFar_8 : decode cX5_isFar 8 = .ok (.ifCond .ne 14, 3) := by decide +kernel
theorem dX5_isFar_11 : decode cX5_isFar 11 = .ok (.iload_n 1, 1) := by decide +kernel
theorem dX5_isFar_12 : decode cX5_isFar 12 = .ok (.i2l, 1) := by decide +kernel
theorem dX5_isFar_13 : decode cX5_isFar 13 = .ok (.ldc2_w 295, 3) := by decide +kernel
theorem dX5_isFar_16 : decode cX5_isFar 16 = .ok (.invokestatic 230, 3) := by decide +kernel
theorem dX5_isFar_19 : decode cX5_isFar 19 = .ok (.ifCond .eq 7, 3) := by decide +kernel
theorem dX5_isFar_22 : decode cX5_isFar 22 = .ok (.iconst 1, 1) := by decide +kernel
theorem dX5_isFar_23 : decode cX5_isFar 23 = .ok (.goto 4, 3) := by decide +kernel
theorem dX5_isFar_26 : decode cX5_isFar 26 = .ok (.iconst 0, 1) := by decide +kernel
theorem dX5_isFar_27 : decode cX5_isFar 27 = .ok (.ireturn, 1) := by decide +kernel
theorem dX5_isMultiple_0 : decode cX5_isMultiple 0 = .ok (.iload_n 0, 1) := by decide +kernel
theorem dX5_isMultiple_1 : decode cX5_isMultiple 1 = .ok (.ifCond .lt 12, 3) := by decide +kernel
theorem dX5_isMultiple_4 : decode cX5_isMultiple 4 = .ok (.iload_n 0, 1) := by decide +kernel
theorem dX5_isMultiple_5 : decode cX5_isMultiple 5 = .ok (.iconst 4, 1) := by decide +kernel
theorem dX5_isMultiple_6 : decode cX5_isMultiple 6 = .ok (.if_icmp .gt 7, 3) := by decide +kernel
theorem dX5_isMultiple_9 : decode cX5_isMultiple 9 = .ok (.iconst 1, 1) := by decide +kernel
theorem dX5_isMultiple_10 : decode cX5_isMultiple 10 = .ok (.goto 4, 3) := by decide +kernel
theorem dX5_isMultiple_13 : decode cX5_isMultiple 13 = .ok (.iconst 0, 1) := by decide +kernel
theorem dX5_isMultiple_14 : decode cX5_isMultiple 14 = .ok (.ireturn, 1) := by decide +kernel
theorem dX5_measured_0 : decode cX5_measured 0 = .ok (.aload_n 0, 1) := by decide +kernel
theorem dX5_measured_1 : decode cX5_measured 1 = .ok (.getfield 43, 3) := by decide +kernel
theorem dX5_measured_4 : decode cX5_measured 4 = .ok (.invokevirtual 297, 3) := by decide +kernel
theorem dX5_measured_7 : decode cX5_measured 7 = .ok (.lstore_n 1, 1) := by decide +kernel
theorem dX5_measured_8 : decode cX5_measured 8 = .ok (.aload_n 0, 1) := by decide +kernel
theorem dX5_measured_9 : decode cX5_measured 9 = .ok (.lload_n 1, 1) := by decide +kernel
theorem dX5_measured_10 : decode cX5_measured 10 = .ok (.ldc2_w 203, 3) := by decide +kernel
theorem dX5_measured_13 : decode cX5_measured 13 = .ok (.lcmp, 1) := by decide +kernel
theorem dX5_measured_14 : decode cX5_measured 14 = .ok (.ifCond .ne 7, 3) := by decide +kernel
theorem dX5_measured_17 : decode cX5_measured 17 = .ok (.iconst 3, 1) := by decide +kernel
theorem dX5_measured_18 : decode cX5_measured 18 = .ok (.goto 4, 3) := by decide +kernel
theorem dX5_measured_21 : decode cX5_measured 21 = .ok (.iconst 0, 1) := by decide +kernel
theorem dX5_measured_22 : decode cX5_measured 22 = .ok (.putfield 62, 3) := by decide +kernel
theorem dX5_measured_25 : decode cX5_measured 25 = .ok (.lload_n 1, 1) := by decide +kernel
theorem dX5_measured_26 : decode cX5_measured 26 = .ok (.lreturn, 1) := by decide +kernel
theorem dX5_cutInDraft_0 : decode cX5_cutInDraft 0 = .ok (.aload_n 0, 1) := by decide +kernel
theorem dX5_cutInDraft_1 : decode cX5_cutInDraft 1 = .ok (.getfield 43, 3) := by decide +kernel
theorem dX5_cutInDraft_4 : decode cX5_cutInDraft 4 = .ok (.iload_n 1, 1) := by decide +kernel
theorem dX5_cutInDraft_5 : decode cX5_cutInDraft 5 = .ok (.invokevirtual 138, 3) := by decide +kernel
theorem dX5_cutInDraft_8 : decode cX5_cutInDraft 8 = .ok (.istore_n 2, 1) := by decide +kernel
theorem dX5_cutInDraft_9 : decode cX5_cutInDraft 9 = .ok (.aload_n 0, 1) := by decide +kernel
theorem dX5_cutInDraft_10 : decode cX5_cutInDraft 10 = .ok (.getfield 43, 3) := by decide +kernel
theorem dX5_cutInDraft_13 : decode cX5_cutInDraft 13 = .ok (.iload_n 1, 1) := by decide +kernel
theorem dX5_cutInDraft_14 : decode cX5_cutInDraft 14 = .ok (.invokevirtual 141, 3) := by decide +kernel
theorem dX5_cutInDraft_17 : decode cX5_cutInDraft 17 = .ok (.istore_n 3, 1) := by decide +kernel
theorem dX5_cutInDraft_18 : decode cX5_cutInDraft 18 = .ok (.aload_n 0, 1) := by decide +kernel
theorem dX5_cutInDraft_19 : decode cX5_cutInDraft 19 = .ok (.getfield 43, 3) := by decide +kernel
theorem dX5_cutInDraft_22 : decode cX5_cutInDraft 22 = .ok (.iload_n 1, 1) := by decide +kernel
theorem dX5_cutInDraft_23 : decode cX5_cutInDraft 23 = .ok (.invokevirtual 258, 3) := by decide +kernel
theorem dX5_cutInDraft_26 : decode cX5_cutInDraft 26 = .ok (.istore 4, 2) := by decide +kernel
theorem dX5_cutInDraft_28 : decode cX5_cutInDraft 28 = .ok (.aload_n 0, 1) := by decide +kernel
theorem dX5_cutInDraft_29 : decode cX5_cutInDraft 29 = .ok (.getfield 43, 3) := by decide +kernel
theorem dX5_cutInDraft_32 : decode cX5_cutInDraft 32 = .ok (.iload_n 1, 1) := by decide +kernel
theorem dX5_cutInDraft_33 : decode cX5_cutInDraft 33 = .ok (.invokevirtual 132, 3) := by decide +kernel
theorem dX5_cutInDraft_36 : decode cX5_cutInDraft 36 = .ok (.istore 5, 2) := by decide +kernel
theorem dX5_cutInDraft_38 : decode cX5_cutInDraft 38 = .ok (.aload_n 0, 1) := by decide +kernel
theorem dX5_cutInDraft_39 : decode cX5_cutInDraft 39 = .ok (.getfield 43, 3) := by decide +kernel
theorem dX5_cutInDraft_42 : decode cX5_cutInDraft 42 = .ok (.iload_n 1, 1) := by decide +kernel
theorem dX5_cutInDraft_43 : decode cX5_cutInDraft 43 = .ok (.invokevirtual 135, 3) := by decide +kernel
theorem dX5_cutInDraft_46 : decode cX5_cutInDraft 46 = .ok (.istore 6, 2) := by decide +kernel
theorem dX5_cutInDraft_48 : decode cX5_cutInDraft 48 = .ok (.iload_n 3, 1) := by decide +kernel
theorem dX5_cutInDraft_49 : decode cX5_cutInDraft 49 = .ok (.i2l, 1) := by decide +kernel
theorem dX5_cutInDraft_50 : decode cX5_cutInDraft 50 = .ok (.iload 5, 2) := by decide +kernel
theorem dX5_cutInDraft_52 : decode cX5_cutInDraft 52 = .ok (.i2l, 1) := by decide +kernel
theorem dX5_cutInDraft_53 : decode cX5_cutInDraft 53 = .ok (.lmul, 1) := by decide +kernel
theorem dX5_cutInDraft_54 : decode cX5_cutInDraft 54 = .ok (.aload_n 0, 1) := by decide +kernel
theorem dX5_cutInDraft_55 : decode cX5_cutInDraft 55 = .ok (.getfield 43, 3) := by decide +kernel
theorem dX5_cutInDraft_58 : decode cX5_cutInDraft 58 = .ok (.iload 4, 2) := by decide +kernel
theorem dX5_cutInDraft_60 : decode cX5_cutInDraft 60 = .ok (.invokevirtual 132, 3) := by decide +kernel
theorem dX5_cutInDraft_63 : decode cX5_cutInDraft 63 = .ok (.i2l, 1) := by decide +kernel
theorem dX5_cutInDraft_64 : decode cX5_cutInDraft 64 = .ok (.ladd, 1) := by decide +kernel
theorem dX5_cutInDraft_65 : decode cX5_cutInDraft 65 = .ok (.iload_n 2, 1) := by decide +kernel
theorem dX5_cutInDraft_66 : decode cX5_cutInDraft 66 = .ok (.i2l, 1) := by decide +kernel
theorem dX5_cutInDraft_67 : decode cX5_cutInDraft 67 = .ok (.invokestatic 181, 3) := by decide +kernel
theorem dX5_cutInDraft_70 : decode cX5_cutInDraft 70 = .ok (.l2i, 1) := by decide +kernel
theorem dX5_cutInDraft_71 : decode cX5_cutInDraft 71 = .ok (.istore 7, 2) := by decide +kernel
theorem dX5_cutInDraft_73 : decode cX5_cutInDraft 73 = .ok (.iload_n 3, 1) := by decide +kernel
theorem dX5_cutInDraft_74 : decode cX5_cutInDraft 74 = .ok (.i2l, 1) := by decide +kernel
theorem dX5_cutInDraft_75 : decode cX5_cutInDraft 75 = .ok (.iload 6, 2) := by decide +kernel
theorem dX5_cutInDraft_77 : decode cX5_cutInDraft 77 = .ok (.i2l, 1) := by decide +kernel
theorem dX5_cutInDraft_78 : decode cX5_cutInDraft 78 = .ok (.lmul, 1) := by decide +kernel
theorem dX5_cutInDraft_79 : decode cX5_cutInDraft 79 = .ok (.aload_n 0, 1) := by decide +kernel
theorem dX5_cutInDraft_80 : decode cX5_cutInDraft 80 = .ok (.getfield 43, 3) := by decide +kernel
theorem dX5_cutInDraft_83 : decode cX5_cutInDraft 83 = .ok (.iload 4, 2) := by decide +kernel
theorem dX5_cutInDraft_85 : decode cX5_cutInDraft 85 = .ok (.invokevirtual 135, 3) := by decide +kernel
theorem dX5_cutInDraft_88 : decode cX5_cutInDraft 88 = .ok (.i2l, 1) := by decide +kernel
theorem dX5_cutInDraft_89 : decode cX5_cutInDraft 89 = .ok (.ladd, 1) := by decide +kernel
theorem dX5_cutInDraft_90 : decode cX5_cutInDraft 90 = .ok (.iload_n 2, 1) := by decide +kernel
theorem dX5_cutInDraft_91 : decode cX5_cutInDraft 91 = .ok (.i2l, 1) := by decide +kernel
theorem dX5_cutInDraft_92 : decode cX5_cutInDraft 92 = .ok (.invokestatic 181, 3) := by decide +kernel
theorem dX5_cutInDraft_95 : decode cX5_cutInDraft 95 = .ok (.l2i, 1) := by decide +kernel
theorem dX5_cutInDraft_96 : decode cX5_cutInDraft 96 = .ok (.istore 8, 2) := by decide +kernel
theorem dX5_cutInDraft_98 : decode cX5_cutInDraft 98 = .ok (.aload_n 0, 1) := by decide +kernel
theorem dX5_cutInDraft_99 : decode cX5_cutInDraft 99 = .ok (.getfield 21, 3) := by decide +kernel
theorem dX5_cutInDraft_102 : decode cX5_cutInDraft 102 = .ok (.iload_n 2, 1) := by decide +kernel
theorem dX5_cutInDraft_103 : decode cX5_cutInDraft 103 = .ok (.iload_n 3, 1) := by decide +kernel
theorem dX5_cutInDraft_104 : decode cX5_cutInDraft 104 = .ok (.invokevirtual 144, 3) := by decide +kernel
theorem dX5_cutInDraft_107 : decode cX5_cutInDraft 107 = .ok (.iconst 0, 1) := by decide +kernel
theorem dX5_cutInDraft_108 : decode cX5_cutInDraft 108 = .ok (.istore 9, 2) := by decide +kernel
theorem dX5_cutInDraft_110 : decode cX5_cutInDraft 110 = .ok (.aload_n 0, 1) := by decide +kernel
theorem dX5_cutInDraft_111 : decode cX5_cutInDraft 111 = .ok (.getfield 21, 3) := by decide +kernel
theorem dX5_cutInDraft_114 : decode cX5_cutInDraft 114 = .ok (.invokevirtual 300, 3) := by decide +kernel
theorem dX5_cutInDraft_117 : decode cX5_cutInDraft 117 = .ok (.ifCond .eq 83, 3) := by decide +kernel
theorem dX5_cutInDraft_120 : decode cX5_cutInDraft 120 = .ok (.iload 9, 2) := by decide +kernel
theorem dX5_cutInDraft_122 : decode cX5_cutInDraft 122 = .ok (.bipush 24, 2) := by decide +kernel
theorem dX5_cutInDraft_124 : decode cX5_cutInDraft 124 = .ok (.if_icmp .ge 76, 3) := by decide +kernel
theorem dX5_cutInDraft_127 : decode cX5_cutInDraft 127 = .ok (.aload_n 0, 1) := by decide +kernel
theorem dX5_cutInDraft_128 : decode cX5_cutInDraft 128 = .ok (.getfield 47, 3) := by decide +kernel
theorem dX5_cutInDraft_131 : decode cX5_cutInDraft 131 = .ok (.aload_n 0, 1) := by decide +kernel
theorem dX5_cutInDraft_132 : decode cX5_cutInDraft 132 = .ok (.getfield 43, 3) := by decide +kernel
theorem dX5_cutInDraft_135 : decode cX5_cutInDraft 135 = .ok (.iload_n 1, 1) := by decide +kernel
theorem dX5_cutInDraft_136 : decode cX5_cutInDraft 136 = .ok (.iload 7, 2) := by decide +kernel
theorem dX5_cutInDraft_138 : decode cX5_cutInDraft 138 = .ok (.iload 8, 2) := by decide +kernel
theorem dX5_cutInDraft_140 : decode cX5_cutInDraft 140 = .ok (.invokevirtual 261, 3) := by decide +kernel
theorem dX5_cutInDraft_143 : decode cX5_cutInDraft 143 = .ok (.iconst (-1), 1) := by decide +kernel
theorem dX5_cutInDraft_144 : decode cX5_cutInDraft 144 = .ok (.if_icmp .ne 5, 3) := by decide +kernel
theorem dX5_cutInDraft_147 : decode cX5_cutInDraft 147 = .ok (.iconst (-1), 1) := by decide +kernel
theorem dX5_cutInDraft_148 : decode cX5_cutInDraft 148 = .ok (.ireturn, 1) := by decide +kernel
theorem dX5_cutInDraft_149 : decode cX5_cutInDraft 149 = .ok (.iinc 9 1, 3) := by decide +kernel
theorem dX5_cutInDraft_152 : decode cX5_cutInDraft 152 = .ok (.aload_n 0, 1) := by decide +kernel
theorem dX5_cutInDraft_153 : decode cX5_cutInDraft 153 = .ok (.getfield 21, 3) := by decide +kernel
theorem dX5_cutInDraft_156 : decode cX5_cutInDraft 156 = .ok (.invokevirtual 154, 3) := by decide +kernel
theorem dX5_cutInDraft_159 : decode cX5_cutInDraft 159 = .ok (.istore 10, 2) := by decide +kernel
theorem dX5_cutInDraft_161 : decode cX5_cutInDraft 161 = .ok (.iload 10, 2) := by decide +kernel
theorem dX5_cutInDraft_163 : decode cX5_cutInDraft 163 = .ok (.iload 7, 2) := by decide +kernel
theorem dX5_cutInDraft_165 : decode cX5_cutInDraft 165 = .ok (.imul, 1) := by decide +kernel
theorem dX5_cutInDraft_166 : decode cX5_cutInDraft 166 = .ok (.iload 5, 2) := by decide +kernel
theorem dX5_cutInDraft_168 : decode cX5_cutInDraft 168 = .ok (.isub, 1) := by decide +kernel
theorem dX5_cutInDraft_169 : decode cX5_cutInDraft 169 = .ok (.istore 11, 2) := by decide +kernel
theorem dX5_cutInDraft_171 : decode cX5_cutInDraft 171 = .ok (.iload 10, 2) := by decide +kernel
theorem dX5_cutInDraft_173 : decode cX5_cutInDraft 173 = .ok (.iload 8, 2) := by decide +kernel
theorem dX5_cutInDraft_175 : decode cX5_cutInDraft 175 = .ok (.imul, 1) := by decide +kernel
theorem dX5_cutInDraft_176 : decode cX5_cutInDraft 176 = .ok (.iload 6, 2) := by decide +kernel
theorem dX5_cutInDraft_178 : decode cX5_cutInDraft 178 = .ok (.isub, 1) := by decide +kernel
theorem dX5_cutInDraft_179 : decode cX5_cutInDraft 179 = .ok (.istore 12, 2) := by decide +kernel
theorem dX5_cutInDraft_181 : decode cX5_cutInDraft 181 = .ok (.iload 7, 2) := by decide +kernel
theorem dX5_cutInDraft_183 : decode cX5_cutInDraft 183 = .ok (.istore 5, 2) := by decide +kernel
theorem dX5_cutInDraft_185 : decode cX5_cutInDraft 185 = .ok (.iload 8, 2) := by decide +kernel
theorem dX5_cutInDraft_187 : decode cX5_cutInDraft 187 = .ok (.istore 6, 2) := by decide +kernel
theorem dX5_cutInDraft_189 : decode cX5_cutInDraft 189 = .ok (.iload 11, 2) := by decide +kernel
theorem dX5_cutInDraft_191 : decode cX5_cutInDraft 191 = .ok (.istore 7, 2) := by decide +kernel
theorem dX5_cutInDraft_193 : decode cX5_cutInDraft 193 = .ok (.iload 12, 2) := by decide +kernel
theorem dX5_cutInDraft_195 : decode cX5_cutInDraft 195 = .ok (.istore 8, 2) := by decide +kernel
theorem dX5_cutInDraft_197 : decode cX5_cutInDraft 197 = .ok (.goto (-87), 3) := by decide +kernel
theorem dX5_cutInDraft_200 : decode cX5_cutInDraft 200 = .ok (.iload 9, 2) := by decide +kernel
theorem dX5_cutInDraft_202 : decode cX5_cutInDraft 202 = .ok (.ireturn, 1) := by decide +kernel
theorem dX5_placeInRing_0 : decode cX5_placeInRing 0 = .ok (.iload_n 0, 1) := by decide +kernel
theorem dX5_placeInRing_1 : decode cX5_placeInRing 1 = .ok (.ifCond .ge 8, 3) := by decide +kernel
theorem dX5_placeInRing_4 : decode cX5_placeInRing 4 = .ok (.bipush 7, 2) := by decide +kernel
theorem dX5_placeInRing_6 : decode cX5_placeInRing 6 = .ok (.goto 14, 3) := by decide +kernel
theorem dX5_placeInRing_9 : decode cX5_placeInRing 9 = .ok (.iload_n 0, 1) := by decide +kernel
theorem dX5_placeInRing_10 : decode cX5_placeInRing 10 = .ok (.bipush 8, 2) := by decide +kernel
theorem dX5_placeInRing_12 : decode cX5_placeInRing 12 = .ok (.if_icmp .lt 7, 3) := by decide +kernel
theorem dX5_placeInRing_15 : decode cX5_placeInRing 15 = .ok (.iconst 0, 1) := by decide +kernel
theorem dX5_placeInRing_16 : decode cX5_placeInRing 16 = .ok (.goto 4, 3) := by decide +kernel
theorem dX5_placeInRing_19 : decode cX5_placeInRing 19 = .ok (.iload_n 0, 1) := by decide +kernel
theorem dX5_placeInRing_20 : decode cX5_placeInRing 20 = .ok (.ireturn, 1) := by decide +kernel
theorem dX5_keepIf_0 : decode cX5_keepIf 0 = .ok (.iload_n 1, 1) := by decide +kernel
theorem dX5_keepIf_1 : decode cX5_keepIf 1 = .ok (.ifCond .ne 10, 3) := by decide +kernel
theorem dX5_keepIf_4 : decode cX5_keepIf 4 = .ok (.aload_n 0, 1) := by decide +kernel
theorem dX5_keepIf_5 : decode cX5_keepIf 5 = .ok (.iconst 3, 1) := by decide +kernel
theorem dX5_keepIf_6 : decode cX5_keepIf 6 = .ok (.putfield 62, 3) := by decide +kernel
theorem dX5_keepIf_9 : decode cX5_keepIf 9 = .ok (.iconst 0, 1) := by decide +kernel
theorem dX5_keepIf_10 : decode cX5_keepIf 10 = .ok (.ireturn, 1) := by decide +kernel
theorem dX5_keepIf_11 : decode cX5_keepIf 11 = .ok (.aload_n 0, 1) := by decide +kernel
theorem dX5_keepIf_12 : decode cX5_keepIf 12 = .ok (.invokevirtual 242, 3) := by decide +kernel
theorem dX5_keepIf_15 : decode cX5_keepIf 15 = .ok (.iconst 1, 1) := by decide +kernel
theorem dX5_keepIf_16 : decode cX5_keepIf 16 = .ok (.ireturn, 1) := by decide +kernel
theorem dX5_keepDraft_0 : decode cX5_keepDraft 0 = .ok (.aload_n 0, 1) := by decide +kernel
theorem dX5_keepDraft_1 : decode cX5_keepDraft 1 = .ok (.getfield 277, 3) := by decide +kernel
theorem dX5_keepDraft_4 : decode cX5_keepDraft 4 = .ok (.invokestatic 280, 3) := by decide +kernel
theorem dX5_keepDraft_7 : decode cX5_keepDraft 7 = .ok (.istore_n 1, 1) := by decide +kernel
theorem dX5_keepDraft_8 : decode cX5_keepDraft 8 = .ok (.aload_n 0, 1) := by decide +kernel
theorem dX5_keepDraft_9 : decode cX5_keepDraft 9 = .ok (.getfield 38, 3) := by decide +kernel
theorem dX5_keepDraft_12 : decode cX5_keepDraft 12 = .ok (.iload_n 1, 1) := by decide +kernel
theorem dX5_keepDraft_13 : decode cX5_keepDraft 13 = .ok (.aaload, 1) := by decide +kernel
theorem dX5_keepDraft_14 : decode cX5_keepDraft 14 = .ok (.astore_n 2, 1) := by decide +kernel
theorem dX5_keepDraft_15 : decode cX5_keepDraft 15 = .ok (.aload_n 0, 1) := by decide +kernel
theorem dX5_keepDraft_16 : decode cX5_keepDraft 16 = .ok (.getfield 38, 3) := by decide +kernel
theorem dX5_keepDraft_19 : decode cX5_keepDraft 19 = .ok (.iload_n 1, 1) := by decide +kernel
theorem dX5_keepDraft_20 : decode cX5_keepDraft 20 = .ok (.aload_n 0, 1) := by decide +kernel
theorem dX5_keepDraft_21 : decode cX5_keepDraft 21 = .ok (.getfield 43, 3) := by decide +kernel
theorem dX5_keepDraft_24 : decode cX5_keepDraft 24 = .ok (.aastore, 1) := by decide +kernel
theorem dX5_keepDraft_25 : decode cX5_keepDraft 25 = .ok (.aload_n 0, 1) := by decide +kernel
theorem dX5_keepDraft_26 : decode cX5_keepDraft 26 = .ok (.aload_n 0, 1) := by decide +kernel
theorem dX5_keepDraft_27 : decode cX5_keepDraft 27 = .ok (.getfield 47, 3) := by decide +kernel
theorem dX5_keepDraft_30 : decode cX5_keepDraft 30 = .ok (.putfield 43, 3) := by decide +kernel
theorem dX5_keepDraft_33 : decode cX5_keepDraft 33 = .ok (.aload_n 0, 1) := by decide +kernel
theorem dX5_keepDraft_34 : decode cX5_keepDraft 34 = .ok (.aload_n 2, 1) := by decide +kernel
theorem dX5_keepDraft_35 : decode cX5_keepDraft 35 = .ok (.putfield 47, 3) := by decide +kernel
theorem dX5_keepDraft_38 : decode cX5_keepDraft 38 = .ok (.aload_n 0, 1) := by decide +kernel
theorem dX5_keepDraft_39 : decode cX5_keepDraft 39 = .ok (.iload_n 1, 1) := by decide +kernel
theorem dX5_keepDraft_40 : decode cX5_keepDraft 40 = .ok (.iconst 1, 1) := by decide +kernel
theorem dX5_keepDraft_41 : decode cX5_keepDraft 41 = .ok (.iadd, 1) := by decide +kernel
theorem dX5_keepDraft_42 : decode cX5_keepDraft 42 = .ok (.invokestatic 280, 3) := by decide +kernel
theorem dX5_keepDraft_45 : decode cX5_keepDraft 45 = .ok (.putfield 277, 3) := by decide +kernel
theorem dX5_keepDraft_48 : decode cX5_keepDraft 48 = .ok (.aload_n 0, 1) := by decide +kernel
theorem dX5_keepDraft_49 : decode cX5_keepDraft 49 = .ok (.bipush 8, 2) := by decide +kernel
theorem dX5_keepDraft_51 : decode cX5_keepDraft 51 = .ok (.aload_n 0, 1) := by decide +kernel
theorem dX5_keepDraft_52 : decode cX5_keepDraft 52 = .ok (.getfield 94, 3) := by decide +kernel
theorem dX5_keepDraft_55 : decode cX5_keepDraft 55 = .ok (.iconst 1, 1) := by decide +kernel
theorem dX5_keepDraft_56 : decode cX5_keepDraft 56 = .ok (.iadd, 1) := by decide +kernel
theorem dX5_keepDraft_57 : decode cX5_keepDraft 57 = .ok (.invokestatic 303, 3) := by decide +kernel
theorem dX5_keepDraft_60 : decode cX5_keepDraft 60 = .ok (.putfield 94, 3) := by decide +kernel
theorem dX5_keepDraft_63 : decode cX5_keepDraft 63 = .ok (.return_, 1) := by decide +kernel
theorem dJ9_floorDiv_f86c9_0 : decode cJ9_floorDiv_f86c9 0 = .ok (.lload_n 0, 1) := by decide +kernel
theorem dJ9_floorDiv_f86c9_1 : decode cJ9_floorDiv_f86c9 1 = .ok (.lload_n 2, 1) := by decide +kernel
theorem dJ9_floorDiv_f86c9_2 : decode cJ9_floorDiv_f86c9 2 = .ok (.ldiv, 1) := by decide +kernel
theorem dJ9_floorDiv_f86c9_3 : decode cJ9_floorDiv_f86c9 3 = .ok (.lstore 4, 2) := by decide +kernel
theorem dJ9_floorDiv_f86c9_5 : decode cJ9_floorDiv_f86c9 5 = .ok (.lload_n 0, 1) := by decide +kernel
theorem dJ9_floorDiv_f86c9_6 : decode cJ9_floorDiv_f86c9 6 = .ok (.lload_n 2, 1) := by decide +kernel
theorem dJ9_floorDiv_f86c9_7 : decode cJ9_floorDiv_f86c9 7 = .ok (.lxor, 1) := by decide +kernel
theorem dJ9_floorDiv_f86c9_8 : decode cJ9_floorDiv_f86c9 8 = .ok (.lconst 0, 1) := by decide +kernel
theorem dJ9_floorDiv_f86c9_9 : decode cJ9_floorDiv_f86c9 9 = .ok (.lcmp, 1) := by decide +kernel
theorem dJ9_floorDiv_f86c9_10 : decode cJ9_floorDiv_f86c9 10 = .ok (.ifCond .ge 17, 3) := by decide +kernel
theorem dJ9_floorDiv_f86c9_13 : decode cJ9_floorDiv_f86c9 13 = .ok (.lload 4, 2) := by decide +kernel
theorem dJ9_floorDiv_f86c9_15 : decode cJ9_floorDiv_f86c9 15 = .ok (.lload_n 2, 1) := by decide +kernel
theorem dJ9_floorDiv_f86c9_16 : decode cJ9_floorDiv_f86c9 16 = .ok (.lmul, 1) := by decide +kernel
theorem dJ9_floorDiv_f86c9_17 : decode cJ9_floorDiv_f86c9 17 = .ok (.lload_n 0, 1) := by decide +kernel
theorem dJ9_floorDiv_f86c9_18 : decode cJ9_floorDiv_f86c9 18 = .ok (.lcmp, 1) := by decide +kernel
theorem dJ9_floorDiv_f86c9_19 : decode cJ9_floorDiv_f86c9 19 = .ok (.ifCond .eq 8, 3) := by decide +kernel
theorem dJ9_floorDiv_f86c9_22 : decode cJ9_floorDiv_f86c9 22 = .ok (.lload 4, 2) := by decide +kernel
theorem dJ9_floorDiv_f86c9_24 : decode cJ9_floorDiv_f86c9 24 = .ok (.lconst 1, 1) := by decide +kernel
theorem dJ9_floorDiv_f86c9_25 : decode cJ9_floorDiv_f86c9 25 = .ok (.lsub, 1) := by decide +kernel
theorem dJ9_floorDiv_f86c9_26 : decode cJ9_floorDiv_f86c9 26 = .ok (.lreturn, 1) := by decide +kernel
theorem dJ9_floorDiv_f86c9_27 : decode cJ9_floorDiv_f86c9 27 = .ok (.lload 4, 2) := by decide +kernel
theorem dJ9_floorDiv_f86c9_29 : decode cJ9_floorDiv_f86c9 29 = .ok (.lreturn, 1) := by decide +kernel
theorem dJ9_floorMod_f86c9_0 : decode cJ9_floorMod_f86c9 0 = .ok (.lload_n 0, 1) := by decide +kernel
theorem dJ9_floorMod_f86c9_1 : decode cJ9_floorMod_f86c9 1 = .ok (.lload_n 2, 1) := by decide +kernel
theorem dJ9_floorMod_f86c9_2 : decode cJ9_floorMod_f86c9 2 = .ok (.lrem, 1) := by decide +kernel
theorem dJ9_floorMod_f86c9_3 : decode cJ9_floorMod_f86c9 3 = .ok (.lstore 4, 2) := by decide +kernel
theorem dJ9_floorMod_f86c9_5 : decode cJ9_floorMod_f86c9 5 = .ok (.lload_n 0, 1) := by decide +kernel
theorem dJ9_floorMod_f86c9_6 : decode cJ9_floorMod_f86c9 6 = .ok (.lload_n 2, 1) := by decide +kernel
theorem dJ9_floorMod_f86c9_7 : decode cJ9_floorMod_f86c9 7 = .ok (.lxor, 1) := by decide +kernel
theorem dJ9_floorMod_f86c9_8 : decode cJ9_floorMod_f86c9 8 = .ok (.lconst 0, 1) := by decide +kernel
theorem dJ9_floorMod_f86c9_9 : decode cJ9_floorMod_f86c9 9 = .ok (.lcmp, 1) := by decide +kernel
theorem dJ9_floorMod_f86c9_10 : decode cJ9_floorMod_f86c9 10 = .ok (.ifCond .ge 15, 3) := by decide +kernel
theorem dJ9_floorMod_f86c9_13 : decode cJ9_floorMod_f86c9 13 = .ok (.lload 4, 2) := by decide +kernel
theorem dJ9_floorMod_f86c9_15 : decode cJ9_floorMod_f86c9 15 = .ok (.lconst 0, 1) := by decide +kernel
theorem dJ9_floorMod_f86c9_16 : decode cJ9_floorMod_f86c9 16 = .ok (.lcmp, 1) := by decide +kernel
theorem dJ9_floorMod_f86c9_17 : decode cJ9_floorMod_f86c9 17 = .ok (.ifCond .eq 8, 3) := by decide +kernel
theorem dJ9_floorMod_f86c9_20 : decode cJ9_floorMod_f86c9 20 = .ok (.lload 4, 2) := by decide +kernel
theorem dJ9_floorMod_f86c9_22 : decode cJ9_floorMod_f86c9 22 = .ok (.lload_n 2, 1) := by decide +kernel
theorem dJ9_floorMod_f86c9_23 : decode cJ9_floorMod_f86c9 23 = .ok (.ladd, 1) := by decide +kernel
theorem dJ9_floorMod_f86c9_24 : decode cJ9_floorMod_f86c9 24 = .ok (.lreturn, 1) := by decide +kernel
theorem dJ9_floorMod_f86c9_25 : decode cJ9_floorMod_f86c9 25 = .ok (.lload 4, 2) := by decide +kernel
theorem dJ9_floorMod_f86c9_27 : decode cJ9_floorMod_f86c9 27 = .ok (.lreturn, 1) := by decide +kernel
theorem dJ9_abs_067f4_0 : decode cJ9_abs_067f4 0 = .ok (.lload_n 0, 1) := by decide +kernel
theorem dJ9_abs_067f4_1 : decode cJ9_abs_067f4 1 = .ok (.lconst 0, 1) := by decide +kernel
theorem dJ9_abs_067f4_2 : decode cJ9_abs_067f4 2 = .ok (.lcmp, 1) := by decide +kernel
theorem dJ9_abs_067f4_3 : decode cJ9_abs_067f4 3 = .ok (.ifCond .ge 8, 3) := by decide +kernel
theorem dJ9_abs_067f4_6 : decode cJ9_abs_067f4 6 = .ok (.lload_n 0, 1) := by decide +kernel
theorem dJ9_abs_067f4_7 : decode cJ9_abs_067f4 7 = .ok (.lneg, 1) := by decide +kernel
theorem dJ9_abs_067f4_8 : decode cJ9_abs_067f4 8 = .ok (.goto 4, 3) := by decide +kernel
theorem dJ9_abs_067f4_11 : decode cJ9_abs_067f4 11 = .ok (.lload_n 0, 1) := by decide +kernel
theorem dJ9_abs_067f4_12 : decode cJ9_abs_067f4 12 = .ok (.lreturn, 1) := by decide +kernel
theorem dJ9_max_7cf53_0 : decode cJ9_max_7cf53 0 = .ok (.iload_n 0, 1) := by decide +kernel
theorem dJ9_max_7cf53_1 : decode cJ9_max_7cf53 1 = .ok (.iload_n 1, 1) := by decide +kernel
theorem dJ9_max_7cf53_2 : decode cJ9_max_7cf53 2 = .ok (.if_icmp .lt 7, 3) := by decide +kernel
theorem dJ9_max_7cf53_5 : decode cJ9_max_7cf53 5 = .ok (.iload_n 0, 1) := by decide +kernel
theorem dJ9_max_7cf53_6 : decode cJ9_max_7cf53 6 = .ok (.goto 4, 3) := by decide +kernel
theorem dJ9_max_7cf53_9 : decode cJ9_max_7cf53 9 = .ok (.iload_n 1, 1) := by decide +kernel
theorem dJ9_max_7cf53_10 : decode cJ9_max_7cf53 10 = .ok (.ireturn, 1) := by decide +kernel
theorem dJ9_max_f86c9_0 : decode cJ9_max_f86c9 0 = .ok (.lload_n 0, 1) := by decide +kernel
theorem dJ9_max_f86c9_1 : decode cJ9_max_f86c9 1 = .ok (.lload_n 2, 1) := by decide +kernel
theorem dJ9_max_f86c9_2 : decode cJ9_max_f86c9 2 = .ok (.lcmp, 1) := by decide +kernel
theorem dJ9_max_f86c9_3 : decode cJ9_max_f86c9 3 = .ok (.ifCond .lt 7, 3) := by decide +kernel
theorem dJ9_max_f86c9_6 : decode cJ9_max_f86c9 6 = .ok (.lload_n 0, 1) := by decide +kernel
theorem dJ9_max_f86c9_7 : decode cJ9_max_f86c9 7 = .ok (.goto 4, 3) := by decide +kernel
theorem dJ9_max_f86c9_10 : decode cJ9_max_f86c9 10 = .ok (.lload_n 2, 1) := by decide +kernel
theorem dJ9_max_f86c9_11 : decode cJ9_max_f86c9 11 = .ok (.lreturn, 1) := by decide +kernel
theorem dJ9_min_7cf53_0 : decode cJ9_min_7cf53 0 = .ok (.iload_n 0, 1) := by decide +kernel
theorem dJ9_min_7cf53_1 : decode cJ9_min_7cf53 1 = .ok (.iload_n 1, 1) := by decide +kernel
theorem dJ9_min_7cf53_2 : decode cJ9_min_7cf53 2 = .ok (.if_icmp .gt 7, 3) := by decide +kernel
theorem dJ9_min_7cf53_5 : decode cJ9_min_7cf53 5 = .ok (.iload_n 0, 1) := by decide +kernel
theorem dJ9_min_7cf53_6 : decode cJ9_min_7cf53 6 = .ok (.goto 4, 3) := by decide +kernel
theorem dJ9_min_7cf53_9 : decode cJ9_min_7cf53 9 = .ok (.iload_n 1, 1) := by decide +kernel
theorem dJ9_min_7cf53_10 : decode cJ9_min_7cf53 10 = .ok (.ireturn, 1) := by decide +kernel
theorem dJ9_min_f86c9_0 : decode cJ9_min_f86c9 0 = .ok (.lload_n 0, 1) := by decide +kernel
theorem dJ9_min_f86c9_1 : decode cJ9_min_f86c9 1 = .ok (.lload_n 2, 1) := by decide +kernel
theorem dJ9_min_f86c9_2 : decode cJ9_min_f86c9 2 = .ok (.lcmp, 1) := by decide +kernel
theorem dJ9_min_f86c9_3 : decode cJ9_min_f86c9 3 = .ok (.ifCond .gt 7, 3) := by decide +kernel
theorem dJ9_min_f86c9_6 : decode cJ9_min_f86c9 6 = .ok (.lload_n 0, 1) := by decide +kernel
theorem dJ9_min_f86c9_7 : decode cJ9_min_f86c9 7 = .ok (.goto 4, 3) := by decide +kernel
theorem dJ9_min_f86c9_10 : decode cJ9_min_f86c9 10 = .ok (.lload_n 2, 1) := by decide +kernel
theorem dJ9_min_f86c9_11 : decode cJ9_min_f86c9 11 = .ok (.lreturn, 1) := by decide +kernel
theorem dJ0_length_8abf5_0 : decode cJ0_length_8abf5 0 = .ok (.aload_n 0, 1) := by decide +kernel
theorem dJ0_length_8abf5_1 : decode cJ0_length_8abf5 1 = .ok (.getfield 9, 3) := by decide +kernel
theorem dJ0_length_8abf5_4 : decode cJ0_length_8abf5 4 = .ok (.arraylength, 1) := by decide +kernel
theorem dJ0_length_8abf5_5 : decode cJ0_length_8abf5 5 = .ok (.aload_n 0, 1) := by decide +kernel
theorem dJ0_length_8abf5_6 : decode cJ0_length_8abf5 6 = .ok (.invokevirtual 335, 3) := by decide +kernel
theorem dJ0_length_8abf5_9 : decode cJ0_length_8abf5 9 = .ok (.ishr, 1) := by decide +kernel
theorem dJ0_length_8abf5_10 : decode cJ0_length_8abf5 10 = .ok (.ireturn, 1) := by decide +kernel
theorem dJ0_charAt_5068e_0 : decode cJ0_charAt_5068e 0 = .ok (.aload_n 0, 1) := by decide +kernel
theorem dJ0_charAt_5068e_1 : decode cJ0_charAt_5068e 1 = .ok (.invokevirtual 492, 3) := by decide +kernel
theorem dJ0_charAt_5068e_4 : decode cJ0_charAt_5068e 4 = .ok (.ifCond .eq 12, 3) := by decide +kernel
theorem dJ0_charAt_5068e_7 : decode cJ0_charAt_5068e 7 = .ok (.aload_n 0, 1) := by decide +kernel
theorem dJ0_charAt_5068e_8 : decode cJ0_charAt_5068e 8 = .ok (.getfield 9, 3) := by decide +kernel
theorem dJ0_charAt_5068e_11 : decode cJ0_charAt_5068e 11 = .ok (.iload_n 1, 1) := by decide +kernel
theorem dJ0_charAt_5068e_12 : decode cJ0_charAt_5068e 12 = .ok (.invokestatic 495, 3) := by decide +kernel
theorem dJ0_charAt_5068e_15 : decode cJ0_charAt_5068e 15 = .ok (.ireturn, 1) := by decide +kernel
theorem dJ0_charAt_5068e_16 : decode cJ0_charAt_5068e 16 = .ok (.aload_n 0, 1) := by decide +kernel
theorem dJ0_charAt_5068e_17 : decode cJ0_charAt_5068e 17 = .ok (.getfield 9, 3) := by decide +kernel
theorem dJ0_charAt_5068e_20 : decode cJ0_charAt_5068e 20 = .ok (.iload_n 1, 1) := by decide +kernel
theorem dJ0_charAt_5068e_21 : decode cJ0_charAt_5068e 21 = .ok (.invokestatic 498, 3) := by decide +kernel
theorem dJ0_charAt_5068e_24 : decode cJ0_charAt_5068e 24 = .ok (.ireturn, 1) := by decide +kernel
theorem dJ0_coder_7d493_0 : decode cJ0_coder_7d493 0 = .ok (.getstatic 38, 3) := by decide +kernel
theorem dJ0_coder_7d493_3 : decode cJ0_coder_7d493 3 = .ok (.ifCond .eq 10, 3) := by decide +kernel
theorem dJ0_coder_7d493_6 : decode cJ0_coder_7d493 6 = .ok (.aload_n 0, 1) := by decide +kernel
theorem dJ0_coder_7d493_7 : decode cJ0_coder_7d493 7 = .ok (.getfield 15, 3) := by decide +kernel
theorem dJ0_coder_7d493_10 : decode cJ0_coder_7d493 10 = .ok (.goto 4, 3) := by decide +kernel
theorem dJ0_coder_7d493_13 : decode cJ0_coder_7d493 13 = .ok (.iconst 1, 1) := by decide +kernel
theorem dJ0_coder_7d493_14 : decode cJ0_coder_7d493 14 = .ok (.ireturn, 1) := by decide +kernel
theorem dJ0_isLatin1_aae02_0 : decode cJ0_isLatin1_aae02 0 = .ok (.getstatic 38, 3) := by decide +kernel
theorem dJ0_isLatin1_aae02_3 : decode cJ0_isLatin1_aae02 3 = .ok (.ifCond .eq 14, 3) := by decide +kernel
theorem dJ0_isLatin1_aae02_6 : decode cJ0_isLatin1_aae02 6 = .ok (.aload_n 0, 1) := by decide +kernel
theorem dJ0_isLatin1_aae02_7 : decode cJ0_isLatin1_aae02 7 = .ok (.getfield 15, 3) := by decide +kernel
theorem dJ0_isLatin1_aae02_10 : decode cJ0_isLatin1_aae02 10 = .ok (.ifCond .ne 7, 3) := by decide +kernel
theorem dJ0_isLatin1_aae02_13 : decode cJ0_isLatin1_aae02 13 = .ok (.iconst 1, 1) := by decide +kernel
theorem dJ0_isLatin1_aae02_14 : decode cJ0_isLatin1_aae02 14 = .ok (.goto 4, 3) := by decide +kernel
theorem dJ0_isLatin1_aae02_17 : decode cJ0_isLatin1_aae02 17 = .ok (.iconst 0, 1) := by decide +kernel
theorem dJ0_isLatin1_aae02_18 : decode cJ0_isLatin1_aae02 18 = .ok (.ireturn, 1) := by decide +kernel
theorem dJ0_checkIndex_df160_0 : decode cJ0_checkIndex_df160 0 = .ok (.iload_n 0, 1) := by decide +kernel
theorem dJ0_checkIndex_df160_1 : decode cJ0_checkIndex_df160 1 = .ok (.iload_n 1, 1) := by decide +kernel
theorem dJ0_checkIndex_df160_2 : decode cJ0_checkIndex_df160 2 = .ok (.getstatic 1053, 3) := by decide +kernel
theorem dJ0_checkIndex_df160_5 : decode cJ0_checkIndex_df160 5 = .ok (.invokestatic 1059, 3) := by decide +kernel
theorem dJ0_checkIndex_df160_8 : decode cJ0_checkIndex_df160 8 = .ok (.pop, 1) := by decide +kernel
theorem dJ0_checkIndex_df160_9 : decode cJ0_checkIndex_df160 9 = .ok (.return_, 1) := by decide +kernel
theorem dJ1_charAt_3b067_0 : decode cJ1_charAt_3b067 0 = .ok (.iload_n 1, 1) := by decide +kernel
theorem dJ1_charAt_3b067_1 : decode cJ1_charAt_3b067 1 = .ok (.aload_n 0, 1) := by decide +kernel
theorem dJ1_charAt_3b067_2 : decode cJ1_charAt_3b067 2 = .ok (.arraylength, 1) := by decide +kernel
theorem dJ1_charAt_3b067_3 : decode cJ1_charAt_3b067 3 = .ok (.invokestatic 9, 3) := by decide +kernel
theorem dJ1_charAt_3b067_6 : decode cJ1_charAt_3b067 6 = .ok (.aload_n 0, 1) := by decide +kernel
theorem dJ1_charAt_3b067_7 : decode cJ1_charAt_3b067 7 = .ok (.iload_n 1, 1) := by decide +kernel
theorem dJ1_charAt_3b067_8 : decode cJ1_charAt_3b067 8 = .ok (.baload, 1) := by decide +kernel
theorem dJ1_charAt_3b067_9 : decode cJ1_charAt_3b067 9 = .ok (.sipush 255, 3) := by decide +kernel
theorem dJ1_charAt_3b067_12 : decode cJ1_charAt_3b067 12 = .ok (.iand, 1) := by decide +kernel
theorem dJ1_charAt_3b067_13 : decode cJ1_charAt_3b067 13 = .ok (.i2c, 1) := by decide +kernel
theorem dJ1_charAt_3b067_14 : decode cJ1_charAt_3b067 14 = .ok (.ireturn, 1) := by decide +kernel
