theorem dX0_init_0 : decode cX0_init 0 = .ok (.aload_n 0, 1) := by decide +kernel
theorem dX0_init_1 : decode cX0_init 1 = .ok (.invokespecial 3, 3) := by decide +kernel
theorem dX0_init_4 : decode cX0_init 4 = .ok (.aload_n 0, 1) := by decide +kernel
theorem dX0_init_5 : decode cX0_init 5 = .ok (.sipush 160, 3) := by decide +kernel
theorem dX0_init_8 : decode cX0_init 8 = .ok (.newarray .int, 2) := by decide +kernel
theorem dX0_init_10 : decode cX0_init 10 = .ok (.putfield 9, 3) := by decide +kernel
theorem dX0_init_13 : decode cX0_init 13 = .ok (.aload_n 0, 1) := by decide +kernel
theorem dX0_init_14 : decode cX0_init 14 = .ok (.iconst 0, 1) := by decide +kernel
theorem dX0_init_15 : decode cX0_init 15 = .ok (.putfield 15, 3) := by decide +kernel
theorem dX0_init_18 : decode cX0_init 18 = .ok (.aload_n 0, 1) := by decide +kernel
theorem dX0_init_19 : decode cX0_init 19 = .ok (.iconst 0, 1) := by decide +kernel
theorem dX0_init_20 : decode cX0_init 20 = .ok (.putfield 19, 3) := by decide +kernel
theorem dX0_init_23 : decode cX0_init 23 = .ok (.aload_n 0, 1) := by decide +kernel
theorem dX0_init_24 : decode cX0_init 24 = .ok (.iconst 0, 1) := by decide +kernel
theorem dX0_init_25 : decode cX0_init 25 = .ok (.putfield 22, 3) := by decide +kernel
theorem dX0_init_28 : decode cX0_init 28 = .ok (.aload_n 0, 1) := by decide +kernel
theorem dX0_init_29 : decode cX0_init 29 = .ok (.aload_n 1, 1) := by decide +kernel
theorem dX0_init_30 : decode cX0_init 30 = .ok (.putfield 25, 3) := by decide +kernel
theorem dX0_init_33 : decode cX0_init 33 = .ok (.aload_n 0, 1) := by decide +kernel
theorem dX0_init_34 : decode cX0_init 34 = .ok (.aload_n 2, 1) := by decide +kernel
theorem dX0_init_35 : decode cX0_init 35 = .ok (.putfield 29, 3) := by decide +kernel
theorem dX0_init_38 : decode cX0_init 38 = .ok (.return_, 1) := by decide +kernel
theorem dX0_fault_0 : decode cX0_fault 0 = .ok (.aload_n 0, 1) := by decide +kernel
theorem dX0_fault_1 : decode cX0_fault 1 = .ok (.invokevirtual 33, 3) := by decide +kernel
theorem dX0_fault_4 : decode cX0_fault 4 = .ok (.iconst 0, 1) := by decide +kernel
theorem dX0_fault_5 : decode cX0_fault 5 = .ok (.istore_n 1, 1) := by decide +kernel
theorem dX0_fault_6 : decode cX0_fault 6 = .ok (.iload_n 1, 1) := by decide +kernel
theorem dX0_fault_7 : decode cX0_fault 7 = .ok (.sipush 160, 3) := by decide +kernel
theorem dX0_fault_10 : decode cX0_fault 10 = .ok (.if_icmp .ge 21, 3) := by decide +kernel
theorem dX0_fault_13 : decode cX0_fault 13 = .ok (.aload_n 0, 1) := by decide +kernel
theorem dX0_fault_14 : decode cX0_fault 14 = .ok (.invokevirtual 36, 3) := by decide +kernel
theorem dX0_fault_17 : decode cX0_fault 17 = .ok (.iconst (-1), 1) := by decide +kernel
theorem dX0_fault_18 : decode cX0_fault 18 = .ok (.if_icmp .eq 13, 3) := by decide +kernel
theorem dX0_fault_21 : decode cX0_fault 21 = .ok (.aload_n 0, 1) := by decide +kernel
theorem dX0_fault_22 : decode cX0_fault 22 = .ok (.invokevirtual 42, 3) := by decide +kernel
theorem dX0_fault_25 : decode cX0_fault 25 = .ok (.iinc 1 1, 3) := by decide +kernel
theorem dX0_fault_28 : decode cX0_fault 28 = .ok (.goto (-22), 3) := by decide +kernel
theorem dX0_fault_31 : decode cX0_fault 31 = .ok (.aload_n 0, 1) := by decide +kernel
theorem dX0_fault_32 : decode cX0_fault 32 = .ok (.invokevirtual 45, 3) := by decide +kernel
theorem dX0_fault_35 : decode cX0_fault 35 = .ok (.aload_n 0, 1) := by decide +kernel
theorem dX0_fault_36 : decode cX0_fault 36 = .ok (.aload_n 0, 1) := by decide +kernel
theorem dX0_fault_37 : decode cX0_fault 37 = .ok (.getfield 25, 3) := by decide +kernel
theorem dX0_fault_40 : decode cX0_fault 40 = .ok (.invokevirtual 48, 3) := by decide +kernel
theorem dX0_fault_43 : decode cX0_fault 43 = .ok (.putfield 15, 3) := by decide +kernel
theorem dX0_fault_46 : decode cX0_fault 46 = .ok (.aload_n 0, 1) := by decide +kernel
theorem dX0_fault_47 : decode cX0_fault 47 = .ok (.getfield 29, 3) := by decide +kernel
theorem dX0_fault_50 : decode cX0_fault 50 = .ok (.iconst 0, 1) := by decide +kernel
theorem dX0_fault_51 : decode cX0_fault 51 = .ok (.invokevirtual 51, 3) := by decide +kernel
theorem dX0_fault_54 : decode cX0_fault 54 = .ok (.ifCond .eq 9, 3) := by decide +kernel
theorem dX0_fault_57 : decode cX0_fault 57 = .ok (.aload_n 0, 1) := by decide +kernel
theorem dX0_fault_58 : decode cX0_fault 58 = .ok (.bipush 6, 2) := by decide +kernel
theorem dX0_fault_60 : decode cX0_fault 60 = .ok (.invokevirtual 57, 3) := by decide +kernel
theorem dX0_fault_63 : decode cX0_fault 63 = .ok (.sipush (-1000), 3) := by decide +kernel
theorem dX0_fault_66 : decode cX0_fault 66 = .ok (.aload_n 0, 1) := by decide +kernel
theorem dX0_fault_67 : decode cX0_fault 67 = .ok (.getfield 19, 3) := by decide +kernel
theorem dX0_fault_70 : decode cX0_fault 70 = .ok (.imul, 1) := by decide +kernel
theorem dX0_fault_71 : decode cX0_fault 71 = .ok (.aload_n 0, 1) := by decide +kernel
theorem dX0_fault_72 : decode cX0_fault 72 = .ok (.getfield 22, 3) := by decide +kernel
theorem dX0_fault_75 : decode cX0_fault 75 = .ok (.isub, 1) := by decide +kernel
theorem dX0_fault_76 : decode cX0_fault 76 = .ok (.ireturn, 1) := by decide +kernel
theorem dX0_clear_0 : decode cX0_clear 0 = .ok (.aload_n 0, 1) := by decide +kernel
theorem dX0_clear_1 : decode cX0_clear 1 = .ok (.getfield 29, 3) := by decide +kernel
theorem dX0_clear_4 : decode cX0_clear 4 = .ok (.invokevirtual 61, 3) := by decide +kernel
theorem dX0_clear_7 : decode cX0_clear 7 = .ok (.iconst 0, 1) := by decide +kernel
theorem dX0_clear_8 : decode cX0_clear 8 = .ok (.istore_n 1, 1) := by decide +kernel
theorem dX0_clear_9 : decode cX0_clear 9 = .ok (.iload_n 1, 1) := by decide +kernel
theorem dX0_clear_10 : decode cX0_clear 10 = .ok (.sipush 160, 3) := by decide +kernel
theorem dX0_clear_13 : decode cX0_clear 13 = .ok (.if_icmp .ge 16, 3) := by decide +kernel
theorem dX0_clear_16 : decode cX0_clear 16 = .ok (.aload_n 0, 1) := by decide +kernel
theorem dX0_clear_17 : decode cX0_clear 17 = .ok (.getfield 9, 3) := by decide +kernel
theorem dX0_clear_20 : decode cX0_clear 20 = .ok (.iload_n 1, 1) := by decide +kernel
theorem dX0_clear_21 : decode cX0_clear 21 = .ok (.iconst (-1), 1) := by decide +kernel
theorem dX0_clear_22 : decode cX0_clear 22 = .ok (.iastore, 1) := by decide +kernel
theorem dX0_clear_23 : decode cX0_clear 23 = .ok (.iinc 1 1, 3) := by decide +kernel
theorem dX0_clear_26 : decode cX0_clear 26 = .ok (.goto (-17), 3) := by decide +kernel
theorem dX0_clear_29 : decode cX0_clear 29 = .ok (.aload_n 0, 1) := by decide +kernel
theorem dX0_clear_30 : decode cX0_clear 30 = .ok (.iconst 0, 1) := by decide +kernel
theorem dX0_clear_31 : decode cX0_clear 31 = .ok (.putfield 15, 3) := by decide +kernel
theorem dX0_clear_34 : decode cX0_clear 34 = .ok (.aload_n 0, 1) := by decide +kernel
theorem dX0_clear_35 : decode cX0_clear 35 = .ok (.iconst 0, 1) := by decide +kernel
theorem dX0_clear_36 : decode cX0_clear 36 = .ok (.putfield 19, 3) := by decide +kernel
theorem dX0_clear_39 : decode cX0_clear 39 = .ok (.aload_n 0, 1) := by decide +kernel
theorem dX0_clear_40 : decode cX0_clear 40 = .ok (.iconst 0, 1) := by decide +kernel
theorem dX0_clear_41 : decode cX0_clear 41 = .ok (.putfield 22, 3) := by decide +kernel
theorem dX0_clear_44 : decode cX0_clear 44 = .ok (.return_, 1) := by decide +kernel
theorem dX0_now_0 : decode cX0_now 0 = .ok (.aload_n 0, 1) := by decide +kernel
theorem dX0_now_1 : decode cX0_now 1 = .ok (.getfield 25, 3) := by decide +kernel
theorem dX0_now_4 : decode cX0_now 4 = .ok (.aload_n 0, 1) := by decide +kernel
theorem dX0_now_5 : decode cX0_now 5 = .ok (.getfield 15, 3) := by decide +kernel
theorem dX0_now_8 : decode cX0_now 8 = .ok (.invokevirtual 62, 3) := by decide +kernel
theorem dX0_now_11 : decode cX0_now 11 = .ok (.ireturn, 1) := by decide +kernel
theorem dX0_next_0 : decode cX0_next 0 = .ok (.aload_n 0, 1) := by decide +kernel
theorem dX0_next_1 : decode cX0_next 1 = .ok (.dup, 1) := by decide +kernel
theorem dX0_next_2 : decode cX0_next 2 = .ok (.getfield 15, 3) := by decide +kernel
theorem dX0_next_5 : decode cX0_next 5 = .ok (.iconst 1, 1) := by decide +kernel
theorem dX0_next_6 : decode cX0_next 6 = .ok (.iadd, 1) := by decide +kernel
theorem dX0_next_7 : decode cX0_next 7 = .ok (.putfield 15, 3) := by decide +kernel
theorem dX0_next_10 : decode cX0_next 10 = .ok (.return_, 1) := by decide +kernel
theorem dX0_expect_0 : decode cX0_expect 0 = .ok (.aload_n 0, 1) := by decide +kernel
theorem dX0_expect_1 : decode cX0_expect 1 = .ok (.getfield 25, 3) := by decide +kernel
theorem dX0_expect_4 : decode cX0_expect 4 = .ok (.aload_n 0, 1) := by decide +kernel
theorem dX0_expect_5 : decode cX0_expect 5 = .ok (.getfield 15, 3) := by decide +kernel
theorem dX0_expect_8 : decode cX0_expect 8 = .ok (.invokevirtual 62, 3) := by decide +kernel
theorem dX0_expect_11 : decode cX0_expect 11 = .ok (.iload_n 1, 1) := by decide +kernel
theorem dX0_expect_12 : decode cX0_expect 12 = .ok (.if_icmp .ne 16, 3) := by decide +kernel
theorem dX0_expect_15 : decode cX0_expect 15 = .ok (.aload_n 0, 1) := by decide +kernel
theorem dX0_expect_16 : decode cX0_expect 16 = .ok (.dup, 1) := by decide +kernel
theorem dX0_expect_17 : decode cX0_expect 17 = .ok (.getfield 15, 3) := by decide +kernel
theorem dX0_expect_20 : decode cX0_expect 20 = .ok (.iconst 1, 1) := by decide +kernel
theorem dX0_expect_21 : decode cX0_expect 21 = .ok (.iadd, 1) := by decide +kernel
theorem dX0_expect_22 : decode cX0_expect 22 = .ok (.putfield 15, 3) := by decide +kernel
theorem dX0_expect_25 : decode cX0_expect 25 = .ok (.goto 8, 3) := by decide +kernel
theorem dX0_expect_28 : decode cX0_expect 28 = .ok (.aload_n 0, 1) := by decide +kernel
theorem dX0_expect_29 : decode cX0_expect 29 = .ok (.iconst 1, 1) := by decide +kernel
theorem dX0_expect_30 : decode cX0_expect 30 = .ok (.invokevirtual 57, 3) := by decide +kernel
theorem dX0_expect_33 : decode cX0_expect 33 = .ok (.return_, 1) := by decide +kernel
theorem dX0_fail_0 : decode cX0_fail 0 = .ok (.aload_n 0, 1) := by decide +kernel
theorem dX0_fail_1 : decode cX0_fail 1 = .ok (.getfield 19, 3) := by decide +kernel
theorem dX0_fail_4 : decode cX0_fail 4 = .ok (.ifCond .ne 16, 3) := by decide +kernel
theorem dX0_fail_7 : decode cX0_fail 7 = .ok (.aload_n 0, 1) := by decide +kernel
theorem dX0_fail_8 : decode cX0_fail 8 = .ok (.iload_n 1, 1) := by decide +kernel
theorem dX0_fail_9 : decode cX0_fail 9 = .ok (.putfield 19, 3) := by decide +kernel
theorem dX0_fail_12 : decode cX0_fail 12 = .ok (.aload_n 0, 1) := by decide +kernel
theorem dX0_fail_13 : decode cX0_fail 13 = .ok (.aload_n 0, 1) := by decide +kernel
theorem dX0_fail_14 : decode cX0_fail 14 = .ok (.getfield 15, 3) := by decide +kernel
theorem dX0_fail_17 : decode cX0_fail 17 = .ok (.putfield 22, 3) := by decide +kernel
theorem dX0_fail_20 : decode cX0_fail 20 = .ok (.aload_n 0, 1) := by decide +kernel
theorem dX0_fail_21 : decode cX0_fail 21 = .ok (.sipush 160, 3) := by decide +kernel
theorem dX0_fail_24 : decode cX0_fail 24 = .ok (.putfield 15, 3) := by decide +kernel
theorem dX0_fail_27 : decode cX0_fail 27 = .ok (.return_, 1) := by decide +kernel
theorem dX0_readFunction_0 : decode cX0_readFunction 0 = .ok (.aload_n 0, 1) := by decide +kernel
theorem dX0_readFunction_1 : decode cX0_readFunction 1 = .ok (.bipush 23, 2) := by decide +kernel
theorem dX0_readFunction_3 : decode cX0_readFunction 3 = .ok (.invokevirtual 65, 3) := by decide +kernel
theorem dX0_readFunction_6 : decode cX0_readFunction 6 = .ok (.aload_n 0, 1) := by decide +kernel
theorem dX0_readFunction_7 : decode cX0_readFunction 7 = .ok (.invokevirtual 36, 3) := by decide +kernel
theorem dX0_readFunction_10 : decode cX0_readFunction 10 = .ok (.bipush 52, 2) := by decide +kernel
theorem dX0_readFunction_12 : decode cX0_readFunction 12 = .ok (.isub, 1) := by decide +kernel
theorem dX0_readFunction_13 : decode cX0_readFunction 13 = .ok (.istore_n 1, 1) := by decide +kernel
theorem dX0_readFunction_14 : decode cX0_readFunction 14 = .ok (.iload_n 1, 1) := by decide +kernel
theorem dX0_readFunction_15 : decode cX0_readFunction 15 = .ok (.ifCond .lt 9, 3) := by decide +kernel
theorem dX0_readFunction_18 : decode cX0_readFunction 18 = .ok (.iload_n 1, 1) := by decide +kernel
theorem dX0_readFunction_19 : decode cX0_readFunction 19 = .ok (.bipush 6, 2) := by decide +kernel
theorem dX0_readFunction_21 : decode cX0_readFunction 21 = .ok (.if_icmp .lt 9, 3) := by decide +kernel
theorem dX0_readFunction_24 : decode cX0_readFunction 24 = .ok (.aload_n 0, 1) := by decide +kernel
theorem dX0_readFunction_25 : decode cX0_readFunction 25 = .ok (.iconst 1, 1) := by decide +kernel
theorem dX0_readFunction_26 : decode cX0_readFunction 26 = .ok (.invokevirtual 57, 3) := by decide +kernel
theorem dX0_readFunction_29 : decode cX0_readFunction 29 = .ok (.return_, 1) := by decide +kernel
theorem dX0_readFunction_30 : decode cX0_readFunction 30 = .ok (.aload_n 0, 1) := by decide +kernel
theorem dX0_readFunction_31 : decode cX0_readFunction 31 = .ok (.getfield 29, 3) := by decide +kernel
theorem dX0_readFunction_34 : decode cX0_readFunction 34 = .ok (.iload_n 1, 1) := by decide +kernel
theorem dX0_readFunction_35 : decode cX0_readFunction 35 = .ok (.invokevirtual 51, 3) := by decide +kernel
theorem dX0_readFunction_38 : decode cX0_readFunction 38 = .ok (.iconst (-1), 1) := by decide +kernel
theorem dX0_readFunction_39 : decode cX0_readFunction 39 = .ok (.if_icmp .eq 9, 3) := by decide +kernel
theorem dX0_readFunction_42 : decode cX0_readFunction 42 = .ok (.aload_n 0, 1) := by decide +kernel
theorem dX0_readFunction_43 : decode cX0_readFunction 43 = .ok (.iconst 2, 1) := by decide +kernel
theorem dX0_readFunction_44 : decode cX0_readFunction 44 = .ok (.invokevirtual 57, 3) := by decide +kernel
theorem dX0_readFunction_47 : decode cX0_readFunction 47 = .ok (.return_, 1) := by decide +kernel
theorem dX0_readFunction_48 : decode cX0_readFunction 48 = .ok (.aload_n 0, 1) := by decide +kernel
theorem dX0_readFunction_49 : decode cX0_readFunction 49 = .ok (.invokevirtual 68, 3) := by decide +kernel
theorem dX0_readFunction_52 : decode cX0_readFunction 52 = .ok (.aload_n 0, 1) := by decide +kernel
theorem dX0_readFunction_53 : decode cX0_readFunction 53 = .ok (.invokevirtual 36, 3) := by decide +kernel
theorem dX0_readFunction_56 : decode cX0_readFunction 56 = .ok (.bipush 64, 2) := by decide +kernel
theorem dX0_readFunction_58 : decode cX0_readFunction 58 = .ok (.isub, 1) := by decide +kernel
theorem dX0_readFunction_59 : decode cX0_readFunction 59 = .ok (.istore_n 2, 1) := by decide +kernel
theorem dX0_readFunction_60 : decode cX0_readFunction 60 = .ok (.iload_n 2, 1) := by decide +kernel
theorem dX0_readFunction_61 : decode cX0_readFunction 61 = .ok (.ifCond .lt 8, 3) := by decide +kernel
theorem dX0_readFunction_64 : decode cX0_readFunction 64 = .ok (.iload_n 2, 1) := by decide +kernel
theorem dX0_readFunction_65 : decode cX0_readFunction 65 = .ok (.iconst 3, 1) := by decide +kernel
theorem dX0_readFunction_66 : decode cX0_readFunction 66 = .ok (.if_icmp .le 9, 3) := by decide +kernel
theorem dX0_readFunction_69 : decode cX0_readFunction 69 = .ok (.aload_n 0, 1) := by decide +kernel
theorem dX0_readFunction_70 : decode cX0_readFunction 70 = .ok (.iconst 1, 1) := by decide +kernel
theorem dX0_readFunction_71 : decode cX0_readFunction 71 = .ok (.invokevirtual 57, 3) := by decide +kernel
theorem dX0_readFunction_74 : decode cX0_readFunction 74 = .ok (.return_, 1) := by decide +kernel
theorem dX0_readFunction_75 : decode cX0_readFunction 75 = .ok (.aload_n 0, 1) := by decide +kernel
theorem dX0_readFunction_76 : decode cX0_readFunction 76 = .ok (.invokevirtual 68, 3) := by decide +kernel
theorem dX0_readFunction_79 : decode cX0_readFunction 79 = .ok (.aload_n 0, 1) := by decide +kernel
theorem dX0_readFunction_80 : decode cX0_readFunction 80 = .ok (.getfield 29, 3) := by decide +kernel
theorem dX0_readFunction_83 : decode cX0_readFunction 83 = .ok (.iload_n 1, 1) := by decide +kernel
theorem dX0_readFunction_84 : decode cX0_readFunction 84 = .ok (.iload_n 2, 1) := by decide +kernel
theorem dX0_readFunction_85 : decode cX0_readFunction 85 = .ok (.invokevirtual 71, 3) := by decide +kernel
theorem dX0_readFunction_88 : decode cX0_readFunction 88 = .ok (.aload_n 0, 1) := by decide +kernel
theorem dX0_readFunction_89 : decode cX0_readFunction 89 = .ok (.iconst 0, 1) := by decide +kernel
theorem dX0_readFunction_90 : decode cX0_readFunction 90 = .ok (.invokevirtual 75, 3) := by decide +kernel
theorem dX0_readFunction_93 : decode cX0_readFunction 93 = .ok (.aload_n 0, 1) := by decide +kernel
theorem dX0_readFunction_94 : decode cX0_readFunction 94 = .ok (.getfield 29, 3) := by decide +kernel
theorem dX0_readFunction_97 : decode cX0_readFunction 97 = .ok (.bipush 33, 2) := by decide +kernel
theorem dX0_readFunction_99 : decode cX0_readFunction 99 = .ok (.iconst 0, 1) := by decide +kernel
theorem dX0_readFunction_100 : decode cX0_readFunction 100 = .ok (.invokevirtual 78, 3) := by decide +kernel
theorem dX0_readFunction_103 : decode cX0_readFunction 103 = .ok (.pop, 1) := by decide +kernel
theorem dX0_readFunction_104 : decode cX0_readFunction 104 = .ok (.aload_n 0, 1) := by decide +kernel
theorem dX0_readFunction_105 : decode cX0_readFunction 105 = .ok (.getfield 29, 3) := by decide +kernel
theorem dX0_readFunction_108 : decode cX0_readFunction 108 = .ok (.iconst 0, 1) := by decide +kernel
theorem dX0_readFunction_109 : decode cX0_readFunction 109 = .ok (.iconst 0, 1) := by decide +kernel
theorem dX0_readFunction_110 : decode cX0_readFunction 110 = .ok (.invokevirtual 78, 3) := by decide +kernel
theorem dX0_readFunction_113 : decode cX0_readFunction 113 = .ok (.pop, 1) := by decide +kernel
theorem dX0_readFunction_114 : decode cX0_readFunction 114 = .ok (.return_, 1) := by decide +kernel
theorem dX0_readBlock_0 : decode cX0_readBlock 0 = .ok (.iload_n 1, 1) := by decide +kernel
theorem dX0_readBlock_1 : decode cX0_readBlock 1 = .ok (.iconst 3, 1) := by decide +kernel
theorem dX0_readBlock_2 : decode cX0_readBlock 2 = .ok (.if_icmp .le 9, 3) := by decide +kernel
theorem dX0_readBlock_5 : decode cX0_readBlock 5 = .ok (.aload_n 0, 1) := by decide +kernel
theorem dX0_readBlock_6 : decode cX0_readBlock 6 = .ok (.iconst 3, 1) := by decide +kernel
theorem dX0_readBlock_7 : decode cX0_readBlock 7 = .ok (.invokevirtual 57, 3) := by decide +kernel
theorem dX0_readBlock_10 : decode cX0_readBlock 10 = .ok (.return_, 1) := by decide +kernel
theorem dX0_readBlock_11 : decode cX0_readBlock 11 = .ok (.aload_n 0, 1) := by decide +kernel
theorem dX0_readBlock_12 : decode cX0_readBlock 12 = .ok (.bipush 8, 2) := by decide +kernel
theorem dX0_readBlock_14 : decode cX0_readBlock 14 = .ok (.invokevirtual 65, 3) := by decide +kernel
theorem dX0_readBlock_17 : decode cX0_readBlock 17 = .ok (.iconst 0, 1) := by decide +kernel
theorem dX0_readBlock_18 : decode cX0_readBlock 18 = .ok (.istore_n 2, 1) := by decide +kernel
theorem dX0_readBlock_19 : decode cX0_readBlock 19 = .ok (.iload_n 2, 1) := by decide +kernel
theorem dX0_readBlock_20 : decode cX0_readBlock 20 = .ok (.sipush 160, 3) := by decide +kernel
theorem dX0_readBlock_23 : decode cX0_readBlock 23 = .ok (.if_icmp .ge 30, 3) := by decide +kernel
theorem dX0_readBlock_26 : decode cX0_readBlock 26 = .ok (.aload_n 0, 1) := by decide +kernel
theorem dX0_readBlock_27 : decode cX0_readBlock 27 = .ok (.getfield 19, 3) := by decide +kernel
theorem dX0_readBlock_30 : decode cX0_readBlock 30 = .ok (.ifCond .ne 23, 3) := by decide +kernel
theorem dX0_readBlock_33 : decode cX0_readBlock 33 = .ok (.aload_n 0, 1) := by decide +kernel
theorem dX0_readBlock_34 : decode cX0_readBlock 34 = .ok (.invokevirtual 36, 3) := by decide +kernel
theorem dX0_readBlock_37 : decode cX0_readBlock 37 = .ok (.bipush 9, 2) := by decide +kernel
theorem dX0_readBlock_39 : decode cX0_readBlock 39 = .ok (.if_icmp .eq 14, 3) := by decide +kernel
theorem dX0_readBlock_42 : decode cX0_readBlock 42 = .ok (.aload_n 0, 1) := by decide +kernel
theorem dX0_readBlock_43 : decode cX0_readBlock 43 = .ok (.iload_n 1, 1) := by decide +kernel
theorem dX0_readBlock_44 : decode cX0_readBlock 44 = .ok (.invokevirtual 82, 3) := by decide +kernel
theorem dX0_readBlock_47 : decode cX0_readBlock 47 = .ok (.iinc 2 1, 3) := by decide +kernel
theorem dX0_readBlock_50 : decode cX0_readBlock 50 = .ok (.goto (-31), 3) := by decide +kernel
theorem dX0_readBlock_53 : decode cX0_readBlock 53 = .ok (.aload_n 0, 1) := by decide +kernel
theorem dX0_readBlock_54 : decode cX0_readBlock 54 = .ok (.bipush 9, 2) := by decide +kernel
theorem dX0_readBlock_56 : decode cX0_readBlock 56 = .ok (.invokevirtual 65, 3) := by decide +kernel
theorem dX0_readBlock_59 : decode cX0_readBlock 59 = .ok (.return_, 1) := by decide +kernel
theorem dX0_readStatement_0 : decode cX0_readStatement 0 = .ok (.aload_n 0, 1) := by decide +kernel
theorem dX0_readStatement_1 : decode cX0_readStatement 1 = .ok (.getfield 29, 3) := by decide +kernel
theorem dX0_readStatement_4 : decode cX0_readStatement 4 = .ok (.bipush 32, 2) := by decide +kernel
theorem dX0_readStatement_6 : decode cX0_readStatement 6 = .ok (.iconst 0, 1) := by decide +kernel
theorem dX0_readStatement_7 : decode cX0_readStatement 7 = .ok (.invokevirtual 78, 3) := by decide +kernel
theorem dX0_readStatement_10 : decode cX0_readStatement 10 = .ok (.istore_n 2, 1) := by decide +kernel
theorem dX0_readStatement_11 : decode cX0_readStatement 11 = .ok (.aload_n 0, 1) := by decide +kernel
theorem dX0_readStatement_12 : decode cX0_readStatement 12 = .ok (.invokevirtual 36, 3) := by decide +kernel
theorem dX0_readStatement_15 : decode cX0_readStatement 15 = .ok (.istore_n 3, 1) := by decide +kernel
theorem dX0_readStatement_16 : decode cX0_readStatement 16 = .ok (.iload_n 3, 1) := by decide +kernel
theorem dX0_readStatement_17 : decode cX0_readStatement 17 = .ok (.ifCond .ne 11, 3) := by decide +kernel
theorem dX0_readStatement_20 : decode cX0_readStatement 20 = .ok (.aload_n 0, 1) := by decide +kernel
theorem dX0_readStatement_21 : decode cX0_readStatement 21 = .ok (.iload_n 1, 1) := by decide +kernel
theorem dX0_readStatement_22 : decode cX0_readStatement 22 = .ok (.invokevirtual 85, 3) := by decide +kernel
theorem dX0_readStatement_25 : decode cX0_readStatement 25 = .ok (.goto 85, 3) := by decide +kernel
theorem dX0_readStatement_28 : decode cX0_readStatement 28 = .ok (.iload_n 3, 1) := by decide +kernel
theorem dX0_readStatement_29 : decode cX0_readStatement 29 = .ok (.iconst 2, 1) := by decide +kernel
theorem dX0_readStatement_30 : decode cX0_readStatement 30 = .ok (.if_icmp .ne 12, 3) := by decide +kernel
theorem dX0_readStatement_33 : decode cX0_readStatement 33 = .ok (.aload_n 0, 1) := by decide +kernel
theorem dX0_readStatement_34 : decode cX0_readStatement 34 = .ok (.iload_n 1, 1) := by decide +kernel
theorem dX0_readStatement_35 : decode cX0_readStatement 35 = .ok (.iload_n 2, 1) := by decide +kernel
theorem dX0_readStatement_36 : decode cX0_readStatement 36 = .ok (.invokevirtual 88, 3) := by decide +kernel
theorem dX0_readStatement_39 : decode cX0_readStatement 39 = .ok (.goto 71, 3) := by decide +kernel
theorem dX0_readStatement_42 : decode cX0_readStatement 42 = .ok (.iload_n 3, 1) := by decide +kernel
theorem dX0_readStatement_43 : decode cX0_readStatement 43 = .ok (.iconst 3, 1) := by decide +kernel
theorem dX0_readStatement_44 : decode cX0_readStatement 44 = .ok (.if_icmp .ne 11, 3) := by decide +kernel
theorem dX0_readStatement_47 : decode cX0_readStatement 47 = .ok (.aload_n 0, 1) := by decide +kernel
theorem dX0_readStatement_48 : decode cX0_readStatement 48 = .ok (.iconst 0, 1) := by decide +kernel
theorem dX0_readStatement_49 : decode cX0_readStatement 49 = .ok (.invokevirtual 91, 3) := by decide +kernel
theorem dX0_readStatement_52 : decode cX0_readStatement 52 = .ok (.goto 58, 3) := by decide +kernel
theorem dX0_readStatement_55 : decode cX0_readStatement 55 = .ok (.iload_n 3, 1) := by decide +kernel
theorem dX0_readStatement_56 : decode cX0_readStatement 56 = .ok (.iconst 4, 1) := by decide +kernel
theorem dX0_readStatement_57 : decode cX0_readStatement 57 = .ok (.if_icmp .ne 12, 3) := by decide +kernel
theorem dX0_readStatement_60 : decode cX0_readStatement 60 = .ok (.aload_n 0, 1) := by decide +kernel
theorem dX0_readStatement_61 : decode cX0_readStatement 61 = .ok (.bipush 44, 2) := by decide +kernel
theorem dX0_readStatement_63 : decode cX0_readStatement 63 = .ok (.invokevirtual 91, 3) := by decide +kernel
theorem dX0_readStatement_66 : decode cX0_readStatement 66 = .ok (.goto 44, 3) := by decide +kernel
theorem dX0_readStatement_69 : decode cX0_readStatement 69 = .ok (.iload_n 3, 1) := by decide +kernel
theorem dX0_readStatement_70 : decode cX0_readStatement 70 = .ok (.bipush 52, 2) := by decide +kernel
theorem dX0_readStatement_72 : decode cX0_readStatement 72 = .ok (.bipush 6, 2) := by decide +kernel
theorem dX0_readStatement_74 : decode cX0_readStatement 74 = .ok (.invokestatic 94, 3) := by decide +kernel
theorem dX0_readStatement_77 : decode cX0_readStatement 77 = .ok (.ifCond .eq 28, 3) := by decide +kernel
theorem dX0_readStatement_80 : decode cX0_readStatement 80 = .ok (.aload_n 0, 1) := by decide +kernel
theorem dX0_readStatement_81 : decode cX0_readStatement 81 = .ok (.iconst 0, 1) := by decide +kernel
theorem dX0_readStatement_82 : decode cX0_readStatement 82 = .ok (.invokevirtual 98, 3) := by decide +kernel
theorem dX0_readStatement_85 : decode cX0_readStatement 85 = .ok (.aload_n 0, 1) := by decide +kernel
theorem dX0_readStatement_86 : decode cX0_readStatement 86 = .ok (.getfield 29, 3) := by decide +kernel
theorem dX0_readStatement_89 : decode cX0_readStatement 89 = .ok (.bipush 43, 2) := by decide +kernel
theorem dX0_readStatement_91 : decode cX0_readStatement 91 = .ok (.iconst 0, 1) := by decide +kernel
theorem dX0_readStatement_92 : decode cX0_readStatement 92 = .ok (.invokevirtual 78, 3) := by decide +kernel
theorem dX0_readStatement_95 : decode cX0_readStatement 95 = .ok (.pop, 1) := by decide +kernel
theorem dX0_readStatement_96 : decode cX0_readStatement 96 = .ok (.aload_n 0, 1) := by decide +kernel
theorem dX0_readStatement_97 : decode cX0_readStatement 97 = .ok (.bipush 10, 2) := by decide +kernel
theorem dX0_readStatement_99 : decode cX0_readStatement 99 = .ok (.invokevirtual 65, 3) := by decide +kernel
theorem dX0_readStatement_102 : decode cX0_readStatement 102 = .ok (.goto 8, 3) := by decide +kernel
theorem dX0_readStatement_105 : decode cX0_readStatement 105 = .ok (.aload_n 0, 1) := by decide +kernel
theorem dX0_readStatement_106 : decode cX0_readStatement 106 = .ok (.iload_n 3, 1) := by decide +kernel
theorem dX0_readStatement_107 : decode cX0_readStatement 107 = .ok (.invokevirtual 101, 3) := by decide +kernel
theorem dX0_readStatement_110 : decode cX0_readStatement 110 = .ok (.return_, 1) := by decide +kernel
theorem dX0_readIf_0 : decode cX0_readIf 0 = .ok (.aload_n 0, 1) := by decide +kernel
theorem dX0_readIf_1 : decode cX0_readIf 1 = .ok (.invokevirtual 68, 3) := by decide +kernel
theorem dX0_readIf_4 : decode cX0_readIf 4 = .ok (.aload_n 0, 1) := by decide +kernel
theorem dX0_readIf_5 : decode cX0_readIf 5 = .ok (.invokevirtual 104, 3) := by decide +kernel
theorem dX0_readIf_8 : decode cX0_readIf 8 = .ok (.aload_n 0, 1) := by decide +kernel
theorem dX0_readIf_9 : decode cX0_readIf 9 = .ok (.getfield 29, 3) := by decide +kernel
theorem dX0_readIf_12 : decode cX0_readIf 12 = .ok (.bipush 46, 2) := by decide +kernel
theorem dX0_readIf_14 : decode cX0_readIf 14 = .ok (.iconst 0, 1) := by decide +kernel
theorem dX0_readIf_15 : decode cX0_readIf 15 = .ok (.invokevirtual 78, 3) := by decide +kernel
theorem dX0_readIf_18 : decode cX0_readIf 18 = .ok (.istore_n 2, 1) := by decide +kernel
theorem dX0_readIf_19 : decode cX0_readIf 19 = .ok (.aload_n 0, 1) := by decide +kernel
theorem dX0_readIf_20 : decode cX0_readIf 20 = .ok (.iload_n 1, 1) := by decide +kernel
theorem dX0_readIf_21 : decode cX0_readIf 21 = .ok (.iconst 1, 1) := by decide +kernel
theorem dX0_readIf_22 : decode cX0_readIf 22 = .ok (.iadd, 1) := by decide +kernel
theorem dX0_readIf_23 : decode cX0_readIf 23 = .ok (.invokevirtual 75, 3) := by decide +kernel
theorem dX0_readIf_26 : decode cX0_readIf 26 = .ok (.aload_n 0, 1) := by decide +kernel
theorem dX0_readIf_27 : decode cX0_readIf 27 = .ok (.invokevirtual 36, 3) := by decide +kernel
theorem dX0_readIf_30 : decode cX0_readIf 30 = .ok (.iconst 1, 1) := by decide +kernel
theorem dX0_readIf_31 : decode cX0_readIf 31 = .ok (.if_icmp .ne 44, 3) := by decide +kernel
theorem dX0_readIf_34 : decode cX0_readIf 34 = .ok (.aload_n 0, 1) := by decide +kernel
theorem dX0_readIf_35 : decode cX0_readIf 35 = .ok (.invokevirtual 68, 3) := by decide +kernel
theorem dX0_readIf_38 : decode cX0_readIf 38 = .ok (.aload_n 0, 1) := by decide +kernel
theorem dX0_readIf_39 : decode cX0_readIf 39 = .ok (.getfield 29, 3) := by decide +kernel
theorem dX0_readIf_42 : decode cX0_readIf 42 = .ok (.bipush 45, 2) := by decide +kernel
theorem dX0_readIf_44 : decode cX0_readIf 44 = .ok (.iconst 0, 1) := by decide +kernel
theorem dX0_readIf_45 : decode cX0_readIf 45 = .ok (.invokevirtual 78, 3) := by decide +kernel
theorem dX0_readIf_48 : decode cX0_readIf 48 = .ok (.istore_n 3, 1) := by decide +kernel
theorem dX0_readIf_49 : decode cX0_readIf 49 = .ok (.aload_n 0, 1) := by decide +kernel
theorem dX0_readIf_50 : decode cX0_readIf 50 = .ok (.getfield 29, 3) := by decide +kernel
theorem dX0_readIf_53 : decode cX0_readIf 53 = .ok (.iload_n 2, 1) := by decide +kernel
theorem dX0_readIf_54 : decode cX0_readIf 54 = .ok (.invokevirtual 107, 3) := by decide +kernel
theorem dX0_readIf_57 : decode cX0_readIf 57 = .ok (.aload_n 0, 1) := by decide +kernel
theorem dX0_readIf_58 : decode cX0_readIf 58 = .ok (.iload_n 1, 1) := by decide +kernel
theorem dX0_readIf_59 : decode cX0_readIf 59 = .ok (.iconst 1, 1) := by decide +kernel
theorem dX0_readIf_60 : decode cX0_readIf 60 = .ok (.iadd, 1) := by decide +kernel
theorem dX0_readIf_61 : decode cX0_readIf 61 = .ok (.invokevirtual 75, 3) := by decide +kernel
theorem dX0_readIf_64 : decode cX0_readIf 64 = .ok (.aload_n 0, 1) := by decide +kernel
theorem dX0_readIf_65 : decode cX0_readIf 65 = .ok (.getfield 29, 3) := by decide +kernel
theorem dX0_readIf_68 : decode cX0_readIf 68 = .ok (.iload_n 3, 1) := by decide +kernel
theorem dX0_readIf_69 : decode cX0_readIf 69 = .ok (.invokevirtual 107, 3) := by decide +kernel
theorem dX0_readIf_72 : decode cX0_readIf 72 = .ok (.goto 11, 3) := by decide +kernel
theorem dX0_readIf_75 : decode cX0_readIf 75 = .ok (.aload_n 0, 1) := by decide +kernel
theorem dX0_readIf_76 : decode cX0_readIf 76 = .ok (.getfield 29, 3) := by decide +kernel
theorem dX0_readIf_79 : decode cX0_readIf 79 = .ok (.iload_n 2, 1) := by decide +kernel
theorem dX0_readIf_80 : decode cX0_readIf 80 = .ok (.invokevirtual 107, 3) := by decide +kernel
theorem dX0_readIf_83 : decode cX0_readIf 83 = .ok (.return_, 1) := by decide +kernel
theorem dX0_readWhile_0 : decode cX0_readWhile 0 = .ok (.aload_n 0, 1) := by decide +kernel
theorem dX0_readWhile_1 : decode cX0_readWhile 1 = .ok (.invokevirtual 68, 3) := by decide +kernel
theorem dX0_readWhile_4 : decode cX0_readWhile 4 = .ok (.aload_n 0, 1) := by decide +kernel
theorem dX0_readWhile_5 : decode cX0_readWhile 5 = .ok (.invokevirtual 104, 3) := by decide +kernel
theorem dX0_readWhile_8 : decode cX0_readWhile 8 = .ok (.aload_n 0, 1) := by decide +kernel
theorem dX0_readWhile_9 : decode cX0_readWhile 9 = .ok (.getfield 29, 3) := by decide +kernel
theorem dX0_readWhile_12 : decode cX0_readWhile 12 = .ok (.bipush 46, 2) := by decide +kernel
theorem dX0_readWhile_14 : decode cX0_readWhile 14 = .ok (.iconst 0, 1) := by decide +kernel
theorem dX0_readWhile_15 : decode cX0_readWhile 15 = .ok (.invokevirtual 78, 3) := by decide +kernel
theorem dX0_readWhile_18 : decode cX0_readWhile 18 = .ok (.istore_n 3, 1) := by decide +kernel
theorem dX0_readWhile_19 : decode cX0_readWhile 19 = .ok (.aload_n 0, 1) := by decide +kernel
theorem dX0_readWhile_20 : decode cX0_readWhile 20 = .ok (.iload_n 1, 1) := by decide +kernel
theorem dX0_readWhile_21 : decode cX0_readWhile 21 = .ok (.iconst 1, 1) := by decide +kernel
theorem dX0_readWhile_22 : decode cX0_readWhile 22 = .ok (.iadd, 1) := by decide +kernel
theorem dX0_readWhile_23 : decode cX0_readWhile 23 = .ok (.invokevirtual 75, 3) := by decide +kernel
theorem dX0_readWhile_26 : decode cX0_readWhile 26 = .ok (.aload_n 0, 1) := by decide +kernel
theorem dX0_readWhile_27 : decode cX0_readWhile 27 = .ok (.getfield 29, 3) := by decide +kernel
theorem dX0_readWhile_30 : decode cX0_readWhile 30 = .ok (.bipush 45, 2) := by decide +kernel
theorem dX0_readWhile_32 : decode cX0_readWhile 32 = .ok (.iload_n 2, 1) := by decide +kernel
theorem dX0_readWhile_33 : decode cX0_readWhile 33 = .ok (.invokevirtual 78, 3) := by decide +kernel
theorem dX0_readWhile_36 : decode cX0_readWhile 36 = .ok (.pop, 1) := by decide +kernel
theorem dX0_readWhile_37 : decode cX0_readWhile 37 = .ok (.aload_n 0, 1) := by decide +kernel
theorem dX0_readWhile_38 : decode cX0_readWhile 38 = .ok (.getfield 29, 3) := by decide +kernel
theorem dX0_readWhile_41 : decode cX0_readWhile 41 = .ok (.iload_n 3, 1) := by decide +kernel
theorem dX0_readWhile_42 : decode cX0_readWhile 42 = .ok (.invokevirtual 107, 3) := by decide +kernel
theorem dX0_readWhile_45 : decode cX0_readWhile 45 = .ok (.return_, 1) := by decide +kernel
theorem dX0_readChoice_0 : decode cX0_readChoice 0 = .ok (.aload_n 0, 1) := by decide +kernel
theorem dX0_readChoice_1 : decode cX0_readChoice 1 = .ok (.bipush 6, 2) := by decide +kernel
theorem dX0_readChoice_3 : decode cX0_readChoice 3 = .ok (.invokevirtual 65, 3) := by decide +kernel
theorem dX0_readChoice_6 : decode cX0_readChoice 6 = .ok (.aload_n 0, 1) := by decide +kernel
theorem dX0_readChoice_7 : decode cX0_readChoice 7 = .ok (.iconst 0, 1) := by decide +kernel
theorem dX0_readChoice_8 : decode cX0_readChoice 8 = .ok (.invokevirtual 110, 3) := by decide +kernel
theorem dX0_readChoice_11 : decode cX0_readChoice 11 = .ok (.aload_n 0, 1) := by decide +kernel
theorem dX0_readChoice_12 : decode cX0_readChoice 12 = .ok (.bipush 7, 2) := by decide +kernel
theorem dX0_readChoice_14 : decode cX0_readChoice 14 = .ok (.invokevirtual 65, 3) := by decide +kernel
theorem dX0_readChoice_17 : decode cX0_readChoice 17 = .ok (.return_, 1) := by decide +kernel
theorem dX0_readWord_0 : decode cX0_readWord 0 = .ok (.aload_n 0, 1) := by decide +kernel
theorem dX0_readWord_1 : decode cX0_readWord 1 = .ok (.invokevirtual 68, 3) := by decide +kernel
theorem dX0_readWord_4 : decode cX0_readWord 4 = .ok (.aload_n 0, 1) := by decide +kernel
theorem dX0_readWord_5 : decode cX0_readWord 5 = .ok (.iconst 0, 1) := by decide +kernel
theorem dX0_readWord_6 : decode cX0_readWord 6 = .ok (.invokevirtual 110, 3) := by decide +kernel
theorem dX0_readWord_9 : decode cX0_readWord 9 = .ok (.aload_n 0, 1) := by decide +kernel
theorem dX0_readWord_10 : decode cX0_readWord 10 = .ok (.getfield 29, 3) := by decide +kernel
theorem dX0_readWord_13 : decode cX0_readWord 13 = .ok (.iload_n 1, 1) := by decide +kernel
theorem dX0_readWord_14 : decode cX0_readWord 14 = .ok (.iconst 0, 1) := by decide +kernel
theorem dX0_readWord_15 : decode cX0_readWord 15 = .ok (.invokevirtual 78, 3) := by decide +kernel
theorem dX0_readWord_18 : decode cX0_readWord 18 = .ok (.pop, 1) := by decide +kernel
theorem dX0_readWord_19 : decode cX0_readWord 19 = .ok (.aload_n 0, 1) := by decide +kernel
theorem dX0_readWord_20 : decode cX0_readWord 20 = .ok (.bipush 10, 2) := by decide +kernel
theorem dX0_readWord_22 : decode cX0_readWord 22 = .ok (.invokevirtual 65, 3) := by decide +kernel
theorem dX0_readWord_25 : decode cX0_readWord 25 = .ok (.return_, 1) := by decide +kernel
theorem dX0_readSetting_0 : decode cX0_readSetting 0 = .ok (.iload_n 1, 1) := by decide +kernel
theorem dX0_readSetting_1 : decode cX0_readSetting 1 = .ok (.bipush 32, 2) := by decide +kernel
theorem dX0_readSetting_3 : decode cX0_readSetting 3 = .ok (.bipush 8, 2) := by decide +kernel
theorem dX0_readSetting_5 : decode cX0_readSetting 5 = .ok (.invokestatic 94, 3) := by decide +kernel
theorem dX0_readSetting_8 : decode cX0_readSetting 8 = .ok (.istore_n 2, 1) := by decide +kernel
theorem dX0_readSetting_9 : decode cX0_readSetting 9 = .ok (.iload_n 1, 1) := by decide +kernel
theorem dX0_readSetting_10 : decode cX0_readSetting 10 = .ok (.bipush 44, 2) := by decide +kernel
theorem dX0_readSetting_12 : decode cX0_readSetting 12 = .ok (.bipush 8, 2) := by decide +kernel
theorem dX0_readSetting_14 : decode cX0_readSetting 14 = .ok (.invokestatic 94, 3) := by decide +kernel
theorem dX0_readSetting_17 : decode cX0_readSetting 17 = .ok (.istore_n 3, 1) := by decide +kernel
theorem dX0_readSetting_18 : decode cX0_readSetting 18 = .ok (.iload_n 1, 1) := by decide +kernel
theorem dX0_readSetting_19 : decode cX0_readSetting 19 = .ok (.bipush 40, 2) := by decide +kernel
theorem dX0_readSetting_21 : decode cX0_readSetting 21 = .ok (.iconst 4, 1) := by decide +kernel
theorem dX0_readSetting_22 : decode cX0_readSetting 22 = .ok (.invokestatic 94, 3) := by decide +kernel
theorem dX0_readSetting_25 : decode cX0_readSetting 25 = .ok (.istore 4, 2) := by decide +kernel
theorem dX0_readSetting_27 : decode cX0_readSetting 27 = .ok (.iload_n 2, 1) := by decide +kernel
theorem dX0_readSetting_28 : decode cX0_readSetting 28 = .ok (.ifCond .ne 18, 3) := by decide +kernel
theorem dX0_readSetting_31 : decode cX0_readSetting 31 = .ok (.iload_n 3, 1) := by decide +kernel
theorem dX0_readSetting_32 : decode cX0_readSetting 32 = .ok (.ifCond .ne 14, 3) := by decide +kernel
theorem dX0_readSetting_35 : decode cX0_readSetting 35 = .ok (.iload 4, 2) := by decide +kernel
theorem dX0_readSetting_37 : decode cX0_readSetting 37 = .ok (.ifCond .ne 9, 3) := by decide +kernel
theorem dX0_readSetting_40 : decode cX0_readSetting 40 = .ok (.aload_n 0, 1) := by decide +kernel
theorem dX0_readSetting_41 : decode cX0_readSetting 41 = .ok (.iconst 1, 1) := by decide +kernel
theorem dX0_readSetting_42 : decode cX0_readSetting 42 = .ok (.invokevirtual 57, 3) := by decide +kernel
theorem dX0_readSetting_45 : decode cX0_readSetting 45 = .ok (.return_, 1) := by decide +kernel
theorem dX0_readSetting_46 : decode cX0_readSetting 46 = .ok (.aload_n 0, 1) := by decide +kernel
theorem dX0_readSetting_47 : decode cX0_readSetting 47 = .ok (.invokevirtual 68, 3) := by decide +kernel
theorem dX0_readSetting_50 : decode cX0_readSetting 50 = .ok (.iload 4, 2) := by decide +kernel
theorem dX0_readSetting_52 : decode cX0_readSetting 52 = .ok (.ifCond .eq 8, 3) := by decide +kernel
theorem dX0_readSetting_55 : decode cX0_readSetting 55 = .ok (.aload_n 0, 1) := by decide +kernel
theorem dX0_readSetting_56 : decode cX0_readSetting 56 = .ok (.iconst 0, 1) := by decide +kernel
theorem dX0_readSetting_57 : decode cX0_readSetting 57 = .ok (.invokevirtual 113, 3) := by decide +kernel
theorem dX0_readSetting_60 : decode cX0_readSetting 60 = .ok (.aload_n 0, 1) := by decide +kernel
theorem dX0_readSetting_61 : decode cX0_readSetting 61 = .ok (.bipush 12, 2) := by decide +kernel
theorem dX0_readSetting_63 : decode cX0_readSetting 63 = .ok (.invokevirtual 65, 3) := by decide +kernel
theorem dX0_readSetting_66 : decode cX0_readSetting 66 = .ok (.aload_n 0, 1) := by decide +kernel
theorem dX0_readSetting_67 : decode cX0_readSetting 67 = .ok (.iconst 0, 1) := by decide +kernel
theorem dX0_readSetting_68 : decode cX0_readSetting 68 = .ok (.invokevirtual 110, 3) := by decide +kernel
theorem dX0_readSetting_71 : decode cX0_readSetting 71 = .ok (.aload_n 0, 1) := by decide +kernel
theorem dX0_readSetting_72 : decode cX0_readSetting 72 = .ok (.bipush 10, 2) := by decide +kernel
theorem dX0_readSetting_74 : decode cX0_readSetting 74 = .ok (.invokevirtual 65, 3) := by decide +kernel
theorem dX0_readSetting_77 : decode cX0_readSetting 77 = .ok (.iload_n 2, 1) := by decide +kernel
theorem dX0_readSetting_78 : decode cX0_readSetting 78 = .ok (.ifCond .eq 20, 3) := by decide +kernel
theorem dX0_readSetting_81 : decode cX0_readSetting 81 = .ok (.aload_n 0, 1) := by decide +kernel
theorem dX0_readSetting_82 : decode cX0_readSetting 82 = .ok (.getfield 29, 3) := by decide +kernel
theorem dX0_readSetting_85 : decode cX0_readSetting 85 = .ok (.bipush 37, 2) := by decide +kernel
theorem dX0_readSetting_87 : decode cX0_readSetting 87 = .ok (.iload_n 1, 1) := by decide +kernel
theorem dX0_readSetting_88 : decode cX0_readSetting 88 = .ok (.bipush 32, 2) := by decide +kernel
theorem dX0_readSetting_90 : decode cX0_readSetting 90 = .ok (.isub, 1) := by decide +kernel
theorem dX0_readSetting_91 : decode cX0_readSetting 91 = .ok (.invokevirtual 78, 3) := by decide +kernel
theorem dX0_readSetting_94 : decode cX0_readSetting 94 = .ok (.pop, 1) := by decide +kernel
theorem dX0_readSetting_95 : decode cX0_readSetting 95 = .ok (.goto 38, 3) := by decide +kernel
theorem dX0_readSetting_98 : decode cX0_readSetting 98 = .ok (.iload_n 3, 1) := by decide +kernel
theorem dX0_readSetting_99 : decode cX0_readSetting 99 = .ok (.ifCond .eq 20, 3) := by decide +kernel
theorem dX0_readSetting_102 : decode cX0_readSetting 102 = .ok (.aload_n 0, 1) := by decide +kernel
theorem dX0_readSetting_103 : decode cX0_readSetting 103 = .ok (.getfield 29, 3) := by decide +kernel
theorem dX0_readSetting_106 : decode cX0_readSetting 106 = .ok (.bipush 39, 2) := by decide +kernel
theorem dX0_readSetting_108 : decode cX0_readSetting 108 = .ok (.iload_n 1, 1) := by decide +kernel
theorem dX0_readSetting_109 : decode cX0_readSetting 109 = .ok (.bipush 44, 2) := by decide +kernel
theorem dX0_readSetting_111 : decode cX0_readSetting 111 = .ok (.isub, 1) := by decide +kernel
theorem dX0_readSetting_112 : decode cX0_readSetting 112 = .ok (.invokevirtual 78, 3) := by decide +kernel
theorem dX0_readSetting_115 : decode cX0_readSetting 115 = .ok (.pop, 1) := by decide +kernel
theorem dX0_readSetting_116 : decode cX0_readSetting 116 = .ok (.goto 17, 3) := by decide +kernel
theorem dX0_readSetting_119 : decode cX0_readSetting 119 = .ok (.aload_n 0, 1) := by decide +kernel
theorem dX0_readSetting_120 : decode cX0_readSetting 120 = .ok (.getfield 29, 3) := by decide +kernel
theorem dX0_readSetting_123 : decode cX0_readSetting 123 = .ok (.bipush 41, 2) := by decide +kernel
theorem dX0_readSetting_125 : decode cX0_readSetting 125 = .ok (.iload_n 1, 1) := by decide +kernel
theorem dX0_readSetting_126 : decode cX0_readSetting 126 = .ok (.bipush 40, 2) := by decide +kernel
theorem dX0_readSetting_128 : decode cX0_readSetting 128 = .ok (.isub, 1) := by decide +kernel
theorem dX0_readSetting_129 : decode cX0_readSetting 129 = .ok (.invokevirtual 78, 3) := by decide +kernel
theorem dX0_readSetting_132 : decode cX0_readSetting 132 = .ok (.pop, 1) := by decide +kernel
theorem dX0_readSetting_133 : decode cX0_readSetting 133 = .ok (.return_, 1) := by decide +kernel
theorem dX0_readIndex_0 : decode cX0_readIndex 0 = .ok (.aload_n 0, 1) := by decide +kernel
theorem dX0_readIndex_1 : decode cX0_readIndex 1 = .ok (.bipush 21, 2) := by decide +kernel
theorem dX0_readIndex_3 : decode cX0_readIndex 3 = .ok (.invokevirtual 65, 3) := by decide +kernel
theorem dX0_readIndex_6 : decode cX0_readIndex 6 = .ok (.aload_n 0, 1) := by decide +kernel
theorem dX0_readIndex_7 : decode cX0_readIndex 7 = .ok (.iload_n 1, 1) := by decide +kernel
theorem dX0_readIndex_8 : decode cX0_readIndex 8 = .ok (.invokevirtual 110, 3) := by decide +kernel
theorem dX0_readIndex_11 : decode cX0_readIndex 11 = .ok (.aload_n 0, 1) := by decide +kernel
theorem dX0_readIndex_12 : decode cX0_readIndex 12 = .ok (.bipush 22, 2) := by decide +kernel
theorem dX0_readIndex_14 : decode cX0_readIndex 14 = .ok (.invokevirtual 65, 3) := by decide +kernel
theorem dX0_readIndex_17 : decode cX0_readIndex 17 = .ok (.return_, 1) := by decide +kernel
theorem dX0_readCall_0 : decode cX0_readCall 0 = .ok (.aload_n 0, 1) := by decide +kernel
theorem dX0_readCall_1 : decode cX0_readCall 1 = .ok (.getfield 15, 3) := by decide +kernel
theorem dX0_readCall_4 : decode cX0_readCall 4 = .ok (.istore_n 2, 1) := by decide +kernel
theorem dX0_readCall_5 : decode cX0_readCall 5 = .ok (.aload_n 0, 1) := by decide +kernel
theorem dX0_readCall_6 : decode cX0_readCall 6 = .ok (.invokevirtual 36, 3) := by decide +kernel
theorem dX0_readCall_9 : decode cX0_readCall 9 = .ok (.bipush 52, 2) := by decide +kernel
theorem dX0_readCall_11 : decode cX0_readCall 11 = .ok (.isub, 1) := by decide +kernel
theorem dX0_readCall_12 : decode cX0_readCall 12 = .ok (.istore_n 3, 1) := by decide +kernel
theorem dX0_readCall_13 : decode cX0_readCall 13 = .ok (.aload_n 0, 1) := by decide +kernel
theorem dX0_readCall_14 : decode cX0_readCall 14 = .ok (.invokevirtual 68, 3) := by decide +kernel
theorem dX0_readCall_17 : decode cX0_readCall 17 = .ok (.aload_n 0, 1) := by decide +kernel
theorem dX0_readCall_18 : decode cX0_readCall 18 = .ok (.bipush 6, 2) := by decide +kernel
theorem dX0_readCall_20 : decode cX0_readCall 20 = .ok (.invokevirtual 65, 3) := by decide +kernel
theorem dX0_readCall_23 : decode cX0_readCall 23 = .ok (.iconst 0, 1) := by decide +kernel
theorem dX0_readCall_24 : decode cX0_readCall 24 = .ok (.istore 4, 2) := by decide +kernel
theorem dX0_readCall_26 : decode cX0_readCall 26 = .ok (.aload_n 0, 1) := by decide +kernel
theorem dX0_readCall_27 : decode cX0_readCall 27 = .ok (.invokevirtual 36, 3) := by decide +kernel
theorem dX0_readCall_30 : decode cX0_readCall 30 = .ok (.bipush 7, 2) := by decide +kernel
theorem dX0_readCall_32 : decode cX0_readCall 32 = .ok (.if_icmp .eq 43, 3) := by decide +kernel
theorem dX0_readCall_35 : decode cX0_readCall 35 = .ok (.aload_n 0, 1) := by decide +kernel
theorem dX0_readCall_36 : decode cX0_readCall 36 = .ok (.iload_n 1, 1) := by decide +kernel
theorem dX0_readCall_37 : decode cX0_readCall 37 = .ok (.invokevirtual 110, 3) := by decide +kernel
theorem dX0_readCall_40 : decode cX0_readCall 40 = .ok (.iconst 1, 1) := by decide +kernel
theorem dX0_readCall_41 : decode cX0_readCall 41 = .ok (.istore 4, 2) := by decide +kernel
theorem dX0_readCall_43 : decode cX0_readCall 43 = .ok (.iload 4, 2) := by decide +kernel
theorem dX0_readCall_45 : decode cX0_readCall 45 = .ok (.sipush 160, 3) := by decide +kernel
theorem dX0_readCall_48 : decode cX0_readCall 48 = .ok (.if_icmp .ge 27, 3) := by decide +kernel
theorem dX0_readCall_51 : decode cX0_readCall 51 = .ok (.aload_n 0, 1) := by decide +kernel
theorem dX0_readCall_52 : decode cX0_readCall 52 = .ok (.invokevirtual 36, 3) := by decide +kernel
theorem dX0_readCall_55 : decode cX0_readCall 55 = .ok (.bipush 11, 2) := by decide +kernel
theorem dX0_readCall_57 : decode cX0_readCall 57 = .ok (.if_icmp .ne 18, 3) := by decide +kernel
theorem dX0_readCall_60 : decode cX0_readCall 60 = .ok (.aload_n 0, 1) := by decide +kernel
theorem dX0_readCall_61 : decode cX0_readCall 61 = .ok (.invokevirtual 68, 3) := by decide +kernel
theorem dX0_readCall_64 : decode cX0_readCall 64 = .ok (.aload_n 0, 1) := by decide +kernel
theorem dX0_readCall_65 : decode cX0_readCall 65 = .ok (.iload_n 1, 1) := by decide +kernel
theorem dX0_readCall_66 : decode cX0_readCall 66 = .ok (.invokevirtual 110, 3) := by decide +kernel
theorem dX0_readCall_69 : decode cX0_readCall 69 = .ok (.iinc 4 1, 3) := by decide +kernel
theorem dX0_readCall_72 : decode cX0_readCall 72 = .ok (.goto (-29), 3) := by decide +kernel
theorem dX0_readCall_75 : decode cX0_readCall 75 = .ok (.aload_n 0, 1) := by decide +kernel
theorem dX0_readCall_76 : decode cX0_readCall 76 = .ok (.bipush 7, 2) := by decide +kernel
theorem dX0_readCall_78 : decode cX0_readCall 78 = .ok (.invokevirtual 65, 3) := by decide +kernel
theorem dX0_readCall_81 : decode cX0_readCall 81 = .ok (.iload_n 2, 1) := by decide +kernel
theorem dX0_readCall_82 : decode cX0_readCall 82 = .ok (.ifCond .lt 20, 3) := by decide +kernel
theorem dX0_readCall_85 : decode cX0_readCall 85 = .ok (.iload_n 2, 1) := by decide +kernel
theorem dX0_readCall_86 : decode cX0_readCall 86 = .ok (.aload_n 0, 1) := by decide +kernel
theorem dX0_readCall_87 : decode cX0_readCall 87 = .ok (.getfield 9, 3) := by decide +kernel
theorem dX0_readCall_90 : decode cX0_readCall 90 = .ok (.arraylength, 1) := by decide +kernel
theorem dX0_readCall_91 : decode cX0_readCall 91 = .ok (.if_icmp .ge 11, 3) := by decide +kernel
theorem dX0_readCall_94 : decode cX0_readCall 94 = .ok (.aload_n 0, 1) := by decide +kernel
theorem dX0_readCall_95 : decode cX0_readCall 95 = .ok (.getfield 9, 3) := by decide +kernel
theorem dX0_readCall_98 : decode cX0_readCall 98 = .ok (.iload_n 2, 1) := by decide +kernel
theorem dX0_readCall_99 : decode cX0_readCall 99 = .ok (.iload 4, 2) := by decide +kernel
theorem dX0_readCall_101 : decode cX0_readCall 101 = .ok (.iastore, 1) := by decide +kernel
theorem dX0_readCall_102 : decode cX0_readCall 102 = .ok (.aload_n 0, 1) := by decide +kernel
theorem dX0_readCall_103 : decode cX0_readCall 103 = .ok (.getfield 29, 3) := by decide +kernel
theorem dX0_readCall_106 : decode cX0_readCall 106 = .ok (.bipush 42, 2) := by decide +kernel
theorem dX0_readCall_108 : decode cX0_readCall 108 = .ok (.iload_n 3, 1) := by decide +kernel
theorem dX0_readCall_109 : decode cX0_readCall 109 = .ok (.invokevirtual 78, 3) := by decide +kernel
theorem dX0_readCall_112 : decode cX0_readCall 112 = .ok (.pop, 1) := by decide +kernel
theorem dX0_readCall_113 : decode cX0_readCall 113 = .ok (.return_, 1) := by decide +kernel
theorem dX0_readValue_0 : decode cX0_readValue 0 = .ok (.iload_n 1, 1) := by decide +kernel
theorem dX0_readValue_1 : decode cX0_readValue 1 = .ok (.iconst 3, 1) := by decide +kernel
theorem dX0_readValue_2 : decode cX0_readValue 2 = .ok (.if_icmp .le 9, 3) := by decide +kernel
theorem dX0_readValue_5 : decode cX0_readValue 5 = .ok (.aload_n 0, 1) := by decide +kernel
theorem dX0_readValue_6 : decode cX0_readValue 6 = .ok (.iconst 3, 1) := by decide +kernel
theorem dX0_readValue_7 : decode cX0_readValue 7 = .ok (.invokevirtual 57, 3) := by decide +kernel
theorem dX0_readValue_10 : decode cX0_readValue 10 = .ok (.return_, 1) := by decide +kernel
theorem dX0_readValue_11 : decode cX0_readValue 11 = .ok (.aload_n 0, 1) := by decide +kernel
theorem dX0_readValue_12 : decode cX0_readValue 12 = .ok (.iload_n 1, 1) := by decide +kernel
theorem dX0_readValue_13 : decode cX0_readValue 13 = .ok (.invokevirtual 116, 3) := by decide +kernel
theorem dX0_readValue_16 : decode cX0_readValue 16 = .ok (.aload_n 0, 1) := by decide +kernel
theorem dX0_readValue_17 : decode cX0_readValue 17 = .ok (.invokevirtual 36, 3) := by decide +kernel
theorem dX0_readValue_20 : decode cX0_readValue 20 = .ok (.istore_n 2, 1) := by decide +kernel
theorem dX0_readValue_21 : decode cX0_readValue 21 = .ok (.iload_n 2, 1) := by decide +kernel
theorem dX0_readValue_22 : decode cX0_readValue 22 = .ok (.bipush 18, 2) := by decide +kernel
theorem dX0_readValue_24 : decode cX0_readValue 24 = .ok (.if_icmp .eq 9, 3) := by decide +kernel
theorem dX0_readValue_27 : decode cX0_readValue 27 = .ok (.iload_n 2, 1) := by decide +kernel
theorem dX0_readValue_28 : decode cX0_readValue 28 = .ok (.bipush 19, 2) := by decide +kernel
theorem dX0_readValue_30 : decode cX0_readValue 30 = .ok (.if_icmp .ne 22, 3) := by decide +kernel
theorem dX0_readValue_33 : decode cX0_readValue 33 = .ok (.aload_n 0, 1) := by decide +kernel
theorem dX0_readValue_34 : decode cX0_readValue 34 = .ok (.invokevirtual 68, 3) := by decide +kernel
theorem dX0_readValue_37 : decode cX0_readValue 37 = .ok (.aload_n 0, 1) := by decide +kernel
theorem dX0_readValue_38 : decode cX0_readValue 38 = .ok (.iload_n 1, 1) := by decide +kernel
theorem dX0_readValue_39 : decode cX0_readValue 39 = .ok (.invokevirtual 116, 3) := by decide +kernel
theorem dX0_readValue_42 : decode cX0_readValue 42 = .ok (.aload_n 0, 1) := by decide +kernel
theorem dX0_readValue_43 : decode cX0_readValue 43 = .ok (.getfield 29, 3) := by decide +kernel
theorem dX0_readValue_46 : decode cX0_readValue 46 = .ok (.iload_n 2, 1) := by decide +kernel
theorem dX0_readValue_47 : decode cX0_readValue 47 = .ok (.iconst 0, 1) := by decide +kernel
theorem dX0_readValue_48 : decode cX0_readValue 48 = .ok (.invokevirtual 78, 3) := by decide +kernel
theorem dX0_readValue_51 : decode cX0_readValue 51 = .ok (.pop, 1) := by decide +kernel
theorem dX0_readValue_52 : decode cX0_readValue 52 = .ok (.return_, 1) := by decide +kernel
theorem dX0_readSum_0 : decode cX0_readSum 0 = .ok (.aload_n 0, 1) := by decide +kernel
theorem dX0_readSum_1 : decode cX0_readSum 1 = .ok (.iload_n 1, 1) := by decide +kernel
theorem dX0_readSum_2 : decode cX0_readSum 2 = .ok (.invokevirtual 119, 3) := by decide +kernel
theorem dX0_readSum_5 : decode cX0_readSum 5 = .ok (.aload_n 0, 1) := by decide +kernel
theorem dX0_readSum_6 : decode cX0_readSum 6 = .ok (.invokevirtual 36, 3) := by decide +kernel
theorem dX0_readSum_9 : decode cX0_readSum 9 = .ok (.istore_n 2, 1) := by decide +kernel
theorem dX0_readSum_10 : decode cX0_readSum 10 = .ok (.iconst 0, 1) := by decide +kernel
theorem dX0_readSum_11 : decode cX0_readSum 11 = .ok (.istore_n 3, 1) := by decide +kernel
theorem dX0_readSum_12 : decode cX0_readSum 12 = .ok (.iload_n 3, 1) := by decide +kernel
theorem dX0_readSum_13 : decode cX0_readSum 13 = .ok (.sipush 160, 3) := by decide +kernel
theorem dX0_readSum_16 : decode cX0_readSum 16 = .ok (.if_icmp .ge 45, 3) := by decide +kernel
theorem dX0_readSum_19 : decode cX0_readSum 19 = .ok (.iload_n 2, 1) := by decide +kernel
theorem dX0_readSum_20 : decode cX0_readSum 20 = .ok (.bipush 13, 2) := by decide +kernel
theorem dX0_readSum_22 : decode cX0_readSum 22 = .ok (.if_icmp .eq 9, 3) := by decide +kernel
theorem dX0_readSum_25 : decode cX0_readSum 25 = .ok (.iload_n 2, 1) := by decide +kernel
theorem dX0_readSum_26 : decode cX0_readSum 26 = .ok (.bipush 14, 2) := by decide +kernel
theorem dX0_readSum_28 : decode cX0_readSum 28 = .ok (.if_icmp .ne 33, 3) := by decide +kernel
theorem dX0_readSum_31 : decode cX0_readSum 31 = .ok (.aload_n 0, 1) := by decide +kernel
theorem dX0_readSum_32 : decode cX0_readSum 32 = .ok (.invokevirtual 68, 3) := by decide +kernel
theorem dX0_readSum_35 : decode cX0_readSum 35 = .ok (.aload_n 0, 1) := by decide +kernel
theorem dX0_readSum_36 : decode cX0_readSum 36 = .ok (.iload_n 1, 1) := by decide +kernel
theorem dX0_readSum_37 : decode cX0_readSum 37 = .ok (.invokevirtual 119, 3) := by decide +kernel
theorem dX0_readSum_40 : decode cX0_readSum 40 = .ok (.aload_n 0, 1) := by decide +kernel
theorem dX0_readSum_41 : decode cX0_readSum 41 = .ok (.getfield 29, 3) := by decide +kernel
theorem dX0_readSum_44 : decode cX0_readSum 44 = .ok (.iload_n 2, 1) := by decide +kernel
theorem dX0_readSum_45 : decode cX0_readSum 45 = .ok (.iconst 0, 1) := by decide +kernel
theorem dX0_readSum_46 : decode cX0_readSum 46 = .ok (.invokevirtual 78, 3) := by decide +kernel
theorem dX0_readSum_49 : decode cX0_readSum 49 = .ok (.pop, 1) := by decide +kernel
theorem dX0_readSum_50 : decode cX0_readSum 50 = .ok (.aload_n 0, 1) := by decide +kernel
theorem dX0_readSum_51 : decode cX0_readSum 51 = .ok (.invokevirtual 36, 3) := by decide +kernel
theorem dX0_readSum_54 : decode cX0_readSum 54 = .ok (.istore_n 2, 1) := by decide +kernel
theorem dX0_readSum_55 : decode cX0_readSum 55 = .ok (.iinc 3 1, 3) := by decide +kernel
theorem dX0_readSum_58 : decode cX0_readSum 58 = .ok (.goto (-46), 3) := by decide +kernel
theorem dX0_readSum_61 : decode cX0_readSum 61 = .ok (.return_, 1) := by decide +kernel
theorem dX0_readProduct_0 : decode cX0_readProduct 0 = .ok (.aload_n 0, 1) := by decide +kernel
theorem dX0_readProduct_1 : decode cX0_readProduct 1 = .ok (.iload_n 1, 1) := by decide +kernel
theorem dX0_readProduct_2 : decode cX0_readProduct 2 = .ok (.invokevirtual 122, 3) := by decide +kernel
theorem dX0_readProduct_5 : decode cX0_readProduct 5 = .ok (.aload_n 0, 1) := by decide +kernel
theorem dX0_readProduct_6 : decode cX0_readProduct 6 = .ok (.invokevirtual 36, 3) := by decide +kernel
theorem dX0_readProduct_9 : decode cX0_readProduct 9 = .ok (.istore_n 2, 1) := by decide +kernel
theorem dX0_readProduct_10 : decode cX0_readProduct 10 = .ok (.iconst 0, 1) := by decide +kernel
theorem dX0_readProduct_11 : decode cX0_readProduct 11 = .ok (.istore_n 3, 1) := by decide +kernel
theorem dX0_readProduct_12 : decode cX0_readProduct 12 = .ok (.iload_n 3, 1) := by decide +kernel
theorem dX0_readProduct_13 : decode cX0_readProduct 13 = .ok (.sipush 160, 3) := by decide +kernel
theorem dX0_readProduct_16 : decode cX0_readProduct 16 = .ok (.if_icmp .ge 43, 3) := by decide +kernel
theorem dX0_readProduct_19 : decode cX0_readProduct 19 = .ok (.iload_n 2, 1) := by decide +kernel
theorem dX0_readProduct_20 : decode cX0_readProduct 20 = .ok (.bipush 15, 2) := by decide +kernel
theorem dX0_readProduct_22 : decode cX0_readProduct 22 = .ok (.iconst 3, 1) := by decide +kernel
theorem dX0_readProduct_23 : decode cX0_readProduct 23 = .ok (.invokestatic 94, 3) := by decide +kernel
theorem dX0_readProduct_26 : decode cX0_readProduct 26 = .ok (.ifCond .eq 33, 3) := by decide +kernel
theorem dX0_readProduct_29 : decode cX0_readProduct 29 = .ok (.aload_n 0, 1) := by decide +kernel
theorem dX0_readProduct_30 : decode cX0_readProduct 30 = .ok (.invokevirtual 68, 3) := by decide +kernel
theorem dX0_readProduct_33 : decode cX0_readProduct 33 = .ok (.aload_n 0, 1) := by decide +kernel
theorem dX0_readProduct_34 : decode cX0_readProduct 34 = .ok (.iload_n 1, 1) := by decide +kernel
theorem dX0_readProduct_35 : decode cX0_readProduct 35 = .ok (.invokevirtual 122, 3) := by decide +kernel
theorem dX0_readProduct_38 : decode cX0_readProduct 38 = .ok (.aload_n 0, 1) := by decide +kernel
theorem dX0_readProduct_39 : decode cX0_readProduct 39 = .ok (.getfield 29, 3) := by decide +kernel
theorem dX0_readProduct_42 : decode cX0_readProduct 42 = .ok (.iload_n 2, 1) := by decide +kernel
theorem dX0_readProduct_43 : decode cX0_readProduct 43 = .ok (.iconst 0, 1) := by decide +kernel
theorem dX0_readProduct_44 : decode cX0_readProduct 44 = .ok (.invokevirtual 78, 3) := by decide +kernel
theorem dX0_readProduct_47 : decode cX0_readProduct 47 = .ok (.pop, 1) := by decide +kernel
theorem dX0_readProduct_48 : decode cX0_readProduct 48 = .ok (.aload_n 0, 1) := by decide +kernel
theorem dX0_readProduct_49 : decode cX0_readProduct 49 = .ok (.invokevirtual 36, 3) := by decide +kernel
theorem dX0_readProduct_52 : decode cX0_readProduct 52 = .ok (.istore_n 2, 1) := by decide +kernel
theorem dX0_readProduct_53 : decode cX0_readProduct 53 = .ok (.iinc 3 1, 3) := by decide +kernel
theorem dX0_readProduct_56 : decode cX0_readProduct 56 = .ok (.goto (-44), 3) := by decide +kernel
theorem dX0_readProduct_59 : decode cX0_readProduct 59 = .ok (.return_, 1) := by decide +kernel
theorem dX0_readPart_0 : decode cX0_readPart 0 = .ok (.aload_n 0, 1) := by decide +kernel
theorem dX0_readPart_1 : decode cX0_readPart 1 = .ok (.invokevirtual 36, 3) := by decide +kernel
theorem dX0_readPart_4 : decode cX0_readPart 4 = .ok (.istore_n 2, 1) := by decide +kernel
theorem dX0_readPart_5 : decode cX0_readPart 5 = .ok (.iload_n 2, 1) := by decide +kernel
theorem dX0_readPart_6 : decode cX0_readPart 6 = .ok (.bipush 14, 2) := by decide +kernel
theorem dX0_readPart_8 : decode cX0_readPart 8 = .ok (.if_icmp .eq 9, 3) := by decide +kernel
theorem dX0_readPart_11 : decode cX0_readPart 11 = .ok (.iload_n 2, 1) := by decide +kernel
theorem dX0_readPart_12 : decode cX0_readPart 12 = .ok (.bipush 20, 2) := by decide +kernel
theorem dX0_readPart_14 : decode cX0_readPart 14 = .ok (.if_icmp .ne 37, 3) := by decide +kernel
theorem dX0_readPart_17 : decode cX0_readPart 17 = .ok (.aload_n 0, 1) := by decide +kernel
theorem dX0_readPart_18 : decode cX0_readPart 18 = .ok (.invokevirtual 68, 3) := by decide +kernel
theorem dX0_readPart_21 : decode cX0_readPart 21 = .ok (.aload_n 0, 1) := by decide +kernel
theorem dX0_readPart_22 : decode cX0_readPart 22 = .ok (.iload_n 1, 1) := by decide +kernel
theorem dX0_readPart_23 : decode cX0_readPart 23 = .ok (.invokevirtual 125, 3) := by decide +kernel
theorem dX0_readPart_26 : decode cX0_readPart 26 = .ok (.aload_n 0, 1) := by decide +kernel
theorem dX0_readPart_27 : decode cX0_readPart 27 = .ok (.getfield 29, 3) := by decide +kernel
theorem dX0_readPart_30 : decode cX0_readPart 30 = .ok (.iload_n 2, 1) := by decide +kernel
theorem dX0_readPart_31 : decode cX0_readPart 31 = .ok (.bipush 14, 2) := by decide +kernel
theorem dX0_readPart_33 : decode cX0_readPart 33 = .ok (.if_icmp .ne 8, 3) := by decide +kernel
theorem dX0_readPart_36 : decode cX0_readPart 36 = .ok (.bipush 35, 2) := by decide +kernel
theorem dX0_readPart_38 : decode cX0_readPart 38 = .ok (.goto 5, 3) := by decide +kernel
theorem dX0_readPart_41 : decode cX0_readPart 41 = .ok (.bipush 20, 2) := by decide +kernel
theorem dX0_readPart_43 : decode cX0_readPart 43 = .ok (.iconst 0, 1) := by decide +kernel
theorem dX0_readPart_44 : decode cX0_readPart 44 = .ok (.invokevirtual 78, 3) := by decide +kernel
theorem dX0_readPart_47 : decode cX0_readPart 47 = .ok (.pop, 1) := by decide +kernel
theorem dX0_readPart_48 : decode cX0_readPart 48 = .ok (.goto 8, 3) := by decide +kernel
theorem dX0_readPart_51 : decode cX0_readPart 51 = .ok (.aload_n 0, 1) := by decide +kernel
theorem dX0_readPart_52 : decode cX0_readPart 52 = .ok (.iload_n 1, 1) := by decide +kernel
theorem dX0_readPart_53 : decode cX0_readPart 53 = .ok (.invokevirtual 125, 3) := by decide +kernel
theorem dX0_readPart_56 : decode cX0_readPart 56 = .ok (.return_, 1) := by decide +kernel
theorem dX0_readPiece_0 : decode cX0_readPiece 0 = .ok (.aload_n 0, 1) := by decide +kernel
theorem dX0_readPiece_1 : decode cX0_readPiece 1 = .ok (.invokevirtual 36, 3) := by decide +kernel
theorem dX0_readPiece_4 : decode cX0_readPiece 4 = .ok (.istore_n 2, 1) := by decide +kernel
theorem dX0_readPiece_5 : decode cX0_readPiece 5 = .ok (.iload_n 2, 1) := by decide +kernel
theorem dX0_readPiece_6 : decode cX0_readPiece 6 = .ok (.bipush 52, 2) := by decide +kernel
theorem dX0_readPiece_8 : decode cX0_readPiece 8 = .ok (.bipush 6, 2) := by decide +kernel
theorem dX0_readPiece_10 : decode cX0_readPiece 10 = .ok (.invokestatic 94, 3) := by decide +kernel
theorem dX0_readPiece_13 : decode cX0_readPiece 13 = .ok (.ifCond .eq 13, 3) := by decide +kernel
theorem dX0_readPiece_16 : decode cX0_readPiece 16 = .ok (.aload_n 0, 1) := by decide +kernel
theorem dX0_readPiece_17 : decode cX0_readPiece 17 = .ok (.iload_n 1, 1) := by decide +kernel
theorem dX0_readPiece_18 : decode cX0_readPiece 18 = .ok (.iconst 1, 1) := by decide +kernel
theorem dX0_readPiece_19 : decode cX0_readPiece 19 = .ok (.iadd, 1) := by decide +kernel
theorem dX0_readPiece_20 : decode cX0_readPiece 20 = .ok (.invokevirtual 98, 3) := by decide +kernel
theorem dX0_readPiece_23 : decode cX0_readPiece 23 = .ok (.goto 72, 3) := by decide +kernel
theorem dX0_readPiece_26 : decode cX0_readPiece 26 = .ok (.iload_n 2, 1) := by decide +kernel
theorem dX0_readPiece_27 : decode cX0_readPiece 27 = .ok (.bipush 40, 2) := by decide +kernel
theorem dX0_readPiece_29 : decode cX0_readPiece 29 = .ok (.iconst 4, 1) := by decide +kernel
theorem dX0_readPiece_30 : decode cX0_readPiece 30 = .ok (.invokestatic 94, 3) := by decide +kernel
theorem dX0_readPiece_33 : decode cX0_readPiece 33 = .ok (.ifCond .eq 31, 3) := by decide +kernel
theorem dX0_readPiece_36 : decode cX0_readPiece 36 = .ok (.aload_n 0, 1) := by decide +kernel
theorem dX0_readPiece_37 : decode cX0_readPiece 37 = .ok (.invokevirtual 68, 3) := by decide +kernel
theorem dX0_readPiece_40 : decode cX0_readPiece 40 = .ok (.aload_n 0, 1) := by decide +kernel
theorem dX0_readPiece_41 : decode cX0_readPiece 41 = .ok (.iload_n 1, 1) := by decide +kernel
theorem dX0_readPiece_42 : decode cX0_readPiece 42 = .ok (.iconst 1, 1) := by decide +kernel
theorem dX0_readPiece_43 : decode cX0_readPiece 43 = .ok (.iadd, 1) := by decide +kernel
theorem dX0_readPiece_44 : decode cX0_readPiece 44 = .ok (.invokevirtual 113, 3) := by decide +kernel
theorem dX0_readPiece_47 : decode cX0_readPiece 47 = .ok (.aload_n 0, 1) := by decide +kernel
theorem dX0_readPiece_48 : decode cX0_readPiece 48 = .ok (.getfield 29, 3) := by decide +kernel
theorem dX0_readPiece_51 : decode cX0_readPiece 51 = .ok (.bipush 40, 2) := by decide +kernel
theorem dX0_readPiece_53 : decode cX0_readPiece 53 = .ok (.iload_n 2, 1) := by decide +kernel
theorem dX0_readPiece_54 : decode cX0_readPiece 54 = .ok (.bipush 40, 2) := by decide +kernel
theorem dX0_readPiece_56 : decode cX0_readPiece 56 = .ok (.isub, 1) := by decide +kernel
theorem dX0_readPiece_57 : decode cX0_readPiece 57 = .ok (.invokevirtual 78, 3) := by decide +kernel
theorem dX0_readPiece_60 : decode cX0_readPiece 60 = .ok (.pop, 1) := by decide +kernel
theorem dX0_readPiece_61 : decode cX0_readPiece 61 = .ok (.goto 34, 3) := by decide +kernel
theorem dX0_readPiece_64 : decode cX0_readPiece 64 = .ok (.iload_n 2, 1) := by decide +kernel
theorem dX0_readPiece_65 : decode cX0_readPiece 65 = .ok (.bipush 6, 2) := by decide +kernel
theorem dX0_readPiece_67 : decode cX0_readPiece 67 = .ok (.if_icmp .ne 23, 3) := by decide +kernel
theorem dX0_readPiece_70 : decode cX0_readPiece 70 = .ok (.aload_n 0, 1) := by decide +kernel
theorem dX0_readPiece_71 : decode cX0_readPiece 71 = .ok (.invokevirtual 68, 3) := by decide +kernel
theorem dX0_readPiece_74 : decode cX0_readPiece 74 = .ok (.aload_n 0, 1) := by decide +kernel
theorem dX0_readPiece_75 : decode cX0_readPiece 75 = .ok (.iload_n 1, 1) := by decide +kernel
theorem dX0_readPiece_76 : decode cX0_readPiece 76 = .ok (.iconst 1, 1) := by decide +kernel
theorem dX0_readPiece_77 : decode cX0_readPiece 77 = .ok (.iadd, 1) := by decide +kernel
theorem dX0_readPiece_78 : decode cX0_readPiece 78 = .ok (.invokevirtual 110, 3) := by decide +kernel
theorem dX0_readPiece_81 : decode cX0_readPiece 81 = .ok (.aload_n 0, 1) := by decide +kernel
theorem dX0_readPiece_82 : decode cX0_readPiece 82 = .ok (.bipush 7, 2) := by decide +kernel
theorem dX0_readPiece_84 : decode cX0_readPiece 84 = .ok (.invokevirtual 65, 3) := by decide +kernel
theorem dX0_readPiece_87 : decode cX0_readPiece 87 = .ok (.goto 8, 3) := by decide +kernel
theorem dX0_readPiece_90 : decode cX0_readPiece 90 = .ok (.aload_n 0, 1) := by decide +kernel
theorem dX0_readPiece_91 : decode cX0_readPiece 91 = .ok (.iload_n 2, 1) := by decide +kernel
theorem dX0_readPiece_92 : decode cX0_readPiece 92 = .ok (.invokevirtual 128, 3) := by decide +kernel
theorem dX0_readPiece_95 : decode cX0_readPiece 95 = .ok (.return_, 1) := by decide +kernel
theorem dX0_readSingle_0 : decode cX0_readSingle 0 = .ok (.iload_n 1, 1) := by decide +kernel
theorem dX0_readSingle_1 : decode cX0_readSingle 1 = .ok (.bipush 64, 2) := by decide +kernel
theorem dX0_readSingle_3 : decode cX0_readSingle 3 = .ok (.sipush 128, 3) := by decide +kernel
theorem dX0_readSingle_6 : decode cX0_readSingle 6 = .ok (.invokestatic 94, 3) := by decide +kernel
theorem dX0_readSingle_9 : decode cX0_readSingle 9 = .ok (.ifCond .eq 20, 3) := by decide +kernel
theorem dX0_readSingle_12 : decode cX0_readSingle 12 = .ok (.aload_n 0, 1) := by decide +kernel
theorem dX0_readSingle_13 : decode cX0_readSingle 13 = .ok (.getfield 29, 3) := by decide +kernel
theorem dX0_readSingle_16 : decode cX0_readSingle 16 = .ok (.bipush 33, 2) := by decide +kernel
theorem dX0_readSingle_18 : decode cX0_readSingle 18 = .ok (.iload_n 1, 1) := by decide +kernel
theorem dX0_readSingle_19 : decode cX0_readSingle 19 = .ok (.bipush 64, 2) := by decide +kernel
theorem dX0_readSingle_21 : decode cX0_readSingle 21 = .ok (.isub, 1) := by decide +kernel
theorem dX0_readSingle_22 : decode cX0_readSingle 22 = .ok (.invokevirtual 78, 3) := by decide +kernel
theorem dX0_readSingle_25 : decode cX0_readSingle 25 = .ok (.pop, 1) := by decide +kernel
theorem dX0_readSingle_26 : decode cX0_readSingle 26 = .ok (.goto 84, 3) := by decide +kernel
theorem dX0_readSingle_29 : decode cX0_readSingle 29 = .ok (.iload_n 1, 1) := by decide +kernel
theorem dX0_readSingle_30 : decode cX0_readSingle 30 = .ok (.iconst 5, 1) := by decide +kernel
theorem dX0_readSingle_31 : decode cX0_readSingle 31 = .ok (.if_icmp .ne 17, 3) := by decide +kernel
theorem dX0_readSingle_34 : decode cX0_readSingle 34 = .ok (.aload_n 0, 1) := by decide +kernel
theorem dX0_readSingle_35 : decode cX0_readSingle 35 = .ok (.getfield 29, 3) := by decide +kernel
theorem dX0_readSingle_38 : decode cX0_readSingle 38 = .ok (.bipush 34, 2) := by decide +kernel
theorem dX0_readSingle_40 : decode cX0_readSingle 40 = .ok (.iconst 0, 1) := by decide +kernel
theorem dX0_readSingle_41 : decode cX0_readSingle 41 = .ok (.invokevirtual 78, 3) := by decide +kernel
theorem dX0_readSingle_44 : decode cX0_readSingle 44 = .ok (.pop, 1) := by decide +kernel
theorem dX0_readSingle_45 : decode cX0_readSingle 45 = .ok (.goto 65, 3) := by decide +kernel
theorem dX0_readSingle_48 : decode cX0_readSingle 48 = .ok (.iload_n 1, 1) := by decide +kernel
theorem dX0_readSingle_49 : decode cX0_readSingle 49 = .ok (.bipush 32, 2) := by decide +kernel
theorem dX0_readSingle_51 : decode cX0_readSingle 51 = .ok (.bipush 8, 2) := by decide +kernel
theorem dX0_readSingle_53 : decode cX0_readSingle 53 = .ok (.invokestatic 94, 3) := by decide +kernel
theorem dX0_readSingle_56 : decode cX0_readSingle 56 = .ok (.ifCond .eq 20, 3) := by decide +kernel
theorem dX0_readSingle_59 : decode cX0_readSingle 59 = .ok (.aload_n 0, 1) := by decide +kernel
theorem dX0_readSingle_60 : decode cX0_readSingle 60 = .ok (.getfield 29, 3) := by decide +kernel
theorem dX0_readSingle_63 : decode cX0_readSingle 63 = .ok (.bipush 36, 2) := by decide +kernel
theorem dX0_readSingle_65 : decode cX0_readSingle 65 = .ok (.iload_n 1, 1) := by decide +kernel
theorem dX0_readSingle_66 : decode cX0_readSingle 66 = .ok (.bipush 32, 2) := by decide +kernel
theorem dX0_readSingle_68 : decode cX0_readSingle 68 = .ok (.isub, 1) := by decide +kernel
theorem dX0_readSingle_69 : decode cX0_readSingle 69 = .ok (.invokevirtual 78, 3) := by decide +kernel
theorem dX0_readSingle_72 : decode cX0_readSingle 72 = .ok (.pop, 1) := by decide +kernel
theorem dX0_readSingle_73 : decode cX0_readSingle 73 = .ok (.goto 37, 3) := by decide +kernel
theorem dX0_readSingle_76 : decode cX0_readSingle 76 = .ok (.iload_n 1, 1) := by decide +kernel
theorem dX0_readSingle_77 : decode cX0_readSingle 77 = .ok (.bipush 44, 2) := by decide +kernel
theorem dX0_readSingle_79 : decode cX0_readSingle 79 = .ok (.bipush 8, 2) := by decide +kernel
theorem dX0_readSingle_81 : decode cX0_readSingle 81 = .ok (.invokestatic 94, 3) := by decide +kernel
theorem dX0_readSingle_84 : decode cX0_readSingle 84 = .ok (.ifCond .eq 20, 3) := by decide +kernel
theorem dX0_readSingle_87 : decode cX0_readSingle 87 = .ok (.aload_n 0, 1) := by decide +kernel
theorem dX0_readSingle_88 : decode cX0_readSingle 88 = .ok (.getfield 29, 3) := by decide +kernel
theorem dX0_readSingle_91 : decode cX0_readSingle 91 = .ok (.bipush 38, 2) := by decide +kernel
theorem dX0_readSingle_93 : decode cX0_readSingle 93 = .ok (.iload_n 1, 1) := by decide +kernel
theorem dX0_readSingle_94 : decode cX0_readSingle 94 = .ok (.bipush 44, 2) := by decide +kernel
theorem dX0_readSingle_96 : decode cX0_readSingle 96 = .ok (.isub, 1) := by decide +kernel
theorem dX0_readSingle_97 : decode cX0_readSingle 97 = .ok (.invokevirtual 78, 3) := by decide +kernel
theorem dX0_readSingle_100 : decode cX0_readSingle 100 = .ok (.pop, 1) := by decide +kernel
theorem dX0_readSingle_101 : decode cX0_readSingle 101 = .ok (.goto 9, 3) := by decide +kernel
theorem dX0_readSingle_104 : decode cX0_readSingle 104 = .ok (.aload_n 0, 1) := by decide +kernel
theorem dX0_readSingle_105 : decode cX0_readSingle 105 = .ok (.iconst 1, 1) := by decide +kernel
theorem dX0_readSingle_106 : decode cX0_readSingle 106 = .ok (.invokevirtual 57, 3) := by decide +kernel
theorem dX0_readSingle_109 : decode cX0_readSingle 109 = .ok (.return_, 1) := by decide +kernel
theorem dX0_readSingle_110 : decode cX0_readSingle 110 = .ok (.aload_n 0, 1) := by decide +kernel
theorem dX0_readSingle_111 : decode cX0_readSingle 111 = .ok (.invokevirtual 68, 3) := by decide +kernel
theorem dX0_readSingle_114 : decode cX0_readSingle 114 = .ok (.return_, 1) := by decide +kernel
theorem dX0_checkCalls_0 : decode cX0_checkCalls 0 = .ok (.iconst 0, 1) := by decide +kernel
theorem dX0_checkCalls_1 : decode cX0_checkCalls 1 = .ok (.istore_n 1, 1) := by decide +kernel
theorem dX0_checkCalls_2 : decode cX0_checkCalls 2 = .ok (.iload_n 1, 1) := by decide +kernel
theorem dX0_checkCalls_3 : decode cX0_checkCalls 3 = .ok (.sipush 160, 3) := by decide +kernel
theorem dX0_checkCalls_6 : decode cX0_checkCalls 6 = .ok (.if_icmp .ge 55, 3) := by decide +kernel
theorem dX0_checkCalls_9 : decode cX0_checkCalls 9 = .ok (.aload_n 0, 1) := by decide +kernel
theorem dX0_checkCalls_10 : decode cX0_checkCalls 10 = .ok (.getfield 19, 3) := by decide +kernel
theorem dX0_checkCalls_13 : decode cX0_checkCalls 13 = .ok (.ifCond .ne 48, 3) := by decide +kernel
theorem dX0_checkCalls_16 : decode cX0_checkCalls 16 = .ok (.aload_n 0, 1) := by decide +kernel
theorem dX0_checkCalls_17 : decode cX0_checkCalls 17 = .ok (.getfield 9, 3) := by decide +kernel
theorem dX0_checkCalls_20 : decode cX0_checkCalls 20 = .ok (.iload_n 1, 1) := by decide +kernel
theorem dX0_checkCalls_21 : decode cX0_checkCalls 21 = .ok (.iaload, 1) := by decide +kernel
theorem dX0_checkCalls_22 : decode cX0_checkCalls 22 = .ok (.iconst (-1), 1) := by decide +kernel
theorem dX0_checkCalls_23 : decode cX0_checkCalls 23 = .ok (.if_icmp .eq 32, 3) := by decide +kernel
theorem dX0_checkCalls_26 : decode cX0_checkCalls 26 = .ok (.aload_n 0, 1) := by decide +kernel
theorem dX0_checkCalls_27 : decode cX0_checkCalls 27 = .ok (.iload_n 1, 1) := by decide +kernel
theorem dX0_checkCalls_28 : decode cX0_checkCalls 28 = .ok (.putfield 15, 3) := by decide +kernel
theorem dX0_checkCalls_31 : decode cX0_checkCalls 31 = .ok (.aload_n 0, 1) := by decide +kernel
theorem dX0_checkCalls_32 : decode cX0_checkCalls 32 = .ok (.aload_n 0, 1) := by decide +kernel
theorem dX0_checkCalls_33 : decode cX0_checkCalls 33 = .ok (.getfield 29, 3) := by decide +kernel
theorem dX0_checkCalls_36 : decode cX0_checkCalls 36 = .ok (.aload_n 0, 1) := by decide +kernel
theorem dX0_checkCalls_37 : decode cX0_checkCalls 37 = .ok (.invokevirtual 36, 3) := by decide +kernel
theorem dX0_checkCalls_40 : decode cX0_checkCalls 40 = .ok (.bipush 52, 2) := by decide +kernel
theorem dX0_checkCalls_42 : decode cX0_checkCalls 42 = .ok (.isub, 1) := by decide +kernel
theorem dX0_checkCalls_43 : decode cX0_checkCalls 43 = .ok (.invokevirtual 51, 3) := by decide +kernel
theorem dX0_checkCalls_46 : decode cX0_checkCalls 46 = .ok (.aload_n 0, 1) := by decide +kernel
theorem dX0_checkCalls_47 : decode cX0_checkCalls 47 = .ok (.getfield 9, 3) := by decide +kernel
theorem dX0_checkCalls_50 : decode cX0_checkCalls 50 = .ok (.iload_n 1, 1) := by decide +kernel
theorem dX0_checkCalls_51 : decode cX0_checkCalls 51 = .ok (.iaload, 1) := by decide +kernel
theorem dX0_checkCalls_52 : decode cX0_checkCalls 52 = .ok (.invokevirtual 131, 3) := by decide +kernel
theorem dX0_checkCalls_55 : decode cX0_checkCalls 55 = .ok (.iinc 1 1, 3) := by decide +kernel
theorem dX0_checkCalls_58 : decode cX0_checkCalls 58 = .ok (.goto (-56), 3) := by decide +kernel
theorem dX0_checkCalls_61 : decode cX0_checkCalls 61 = .ok (.return_, 1) := by decide +kernel
theorem dX0_checkCall_0 : decode cX0_checkCall 0 = .ok (.iload_n 1, 1) := by decide +kernel
theorem dX0_checkCall_1 : decode cX0_checkCall 1 = .ok (.iconst (-1), 1) := by decide +kernel
theorem dX0_checkCall_2 : decode cX0_checkCall 2 = .ok (.if_icmp .ne 11, 3) := by decide +kernel
theorem dX0_checkCall_5 : decode cX0_checkCall 5 = .ok (.aload_n 0, 1) := by decide +kernel
theorem dX0_checkCall_6 : decode cX0_checkCall 6 = .ok (.iconst 4, 1) := by decide +kernel
theorem dX0_checkCall_7 : decode cX0_checkCall 7 = .ok (.invokevirtual 57, 3) := by decide +kernel
theorem dX0_checkCall_10 : decode cX0_checkCall 10 = .ok (.goto 13, 3) := by decide +kernel
theorem dX0_checkCall_13 : decode cX0_checkCall 13 = .ok (.iload_n 1, 1) := by decide +kernel
theorem dX0_checkCall_14 : decode cX0_checkCall 14 = .ok (.iload_n 2, 1) := by decide +kernel
theorem dX0_checkCall_15 : decode cX0_checkCall 15 = .ok (.if_icmp .eq 8, 3) := by decide +kernel
theorem dX0_checkCall_18 : decode cX0_checkCall 18 = .ok (.aload_n 0, 1) := by decide +kernel
theorem dX0_checkCall_19 : decode cX0_checkCall 19 = .ok (.iconst 5, 1) := by decide +kernel
theorem dX0_checkCall_20 : decode cX0_checkCall 20 = .ok (.invokevirtual 57, 3) := by decide +kernel
theorem dX0_checkCall_23 : decode cX0_checkCall 23 = .ok (.return_, 1) := by decide +kernel
theorem dX0_isOf_0 : decode cX0_isOf 0 = .ok (.iload_n 0, 1) := by decide +kernel
theorem dX0_isOf_1 : decode cX0_isOf 1 = .ok (.iload_n 1, 1) := by decide +kernel
theorem dX0_isOf_2 : decode cX0_isOf 2 = .ok (.if_icmp .lt 14, 3) := by decide +kernel
theorem dX0_isOf_5 : decode cX0_isOf 5 = .ok (.iload_n 0, 1) := by decide +kernel
theorem dX0_isOf_6 : decode cX0_isOf 6 = .ok (.iload_n 1, 1) := by decide +kernel
theorem dX0_isOf_7 : decode cX0_isOf 7 = .ok (.iload_n 2, 1) := by decide +kernel
theorem dX0_isOf_8 : decode cX0_isOf 8 = .ok (.iadd, 1) := by decide +kernel
theorem dX0_isOf_9 : decode cX0_isOf 9 = .ok (.if_icmp .ge 7, 3) := by decide +kernel
theorem dX0_isOf_12 : decode cX0_isOf 12 = .ok (.iconst 1, 1) := by decide +kernel
theorem dX0_isOf_13 : decode cX0_isOf 13 = .ok (.goto 4, 3) := by decide +kernel
theorem dX0_isOf_16 : decode cX0_isOf 16 = .ok (.iconst 0, 1) := by decide +kernel
theorem dX0_isOf_17 : decode cX0_isOf 17 = .ok (.ireturn, 1) := by decide +kernel
theorem dX1_init_0 : decode cX1_init 0 = .ok (.aload_n 0, 1) := by decide +kernel
theorem dX1_init_1 : decode cX1_init 1 = .ok (.invokespecial 3, 3) := by decide +kernel
theorem dX1_init_4 : decode cX1_init 4 = .ok (.aload_n 0, 1) := by decide +kernel
theorem dX1_init_5 : decode cX1_init 5 = .ok (.bipush 8, 2) := by decide +kernel
theorem dX1_init_7 : decode cX1_init 7 = .ok (.newarray .int, 2) := by decide +kernel
theorem dX1_init_9 : decode cX1_init 9 = .ok (.putfield 9, 3) := by decide +kernel
theorem dX1_init_12 : decode cX1_init 12 = .ok (.aload_n 0, 1) := by decide +kernel
theorem dX1_init_13 : decode cX1_init 13 = .ok (.iconst 0, 1) := by decide +kernel
theorem dX1_init_14 : decode cX1_init 14 = .ok (.putfield 13, 3) := by decide +kernel
theorem dX1_init_17 : decode cX1_init 17 = .ok (.aload_n 0, 1) := by decide +kernel
theorem dX1_init_18 : decode cX1_init 18 = .ok (.iconst 0, 1) := by decide +kernel
theorem dX1_init_19 : decode cX1_init 19 = .ok (.putfield 17, 3) := by decide +kernel
theorem dX1_init_22 : decode cX1_init 22 = .ok (.return_, 1) := by decide +kernel
theorem dX1_count_0 : decode cX1_count 0 = .ok (.aload_n 0, 1) := by decide +kernel
theorem dX1_count_1 : decode cX1_count 1 = .ok (.getfield 17, 3) := by decide +kernel
theorem dX1_count_4 : decode cX1_count 4 = .ok (.ireturn, 1) := by decide +kernel
theorem dX1_full_0 : decode cX1_full 0 = .ok (.aload_n 0, 1) := by decide +kernel
theorem dX1_full_1 : decode cX1_full 1 = .ok (.getfield 17, 3) := by decide +kernel
theorem dX1_full_4 : decode cX1_full 4 = .ok (.bipush 8, 2) := by decide +kernel
theorem dX1_full_6 : decode cX1_full 6 = .ok (.if_icmp .lt 7, 3) := by decide +kernel
theorem dX1_full_9 : decode cX1_full 9 = .ok (.iconst 1, 1) := by decide +kernel
theorem dX1_full_10 : decode cX1_full 10 = .ok (.goto 4, 3) := by decide +kernel
theorem dX1_full_13 : decode cX1_full 13 = .ok (.iconst 0, 1) := by decide +kernel
theorem dX1_full_14 : decode cX1_full 14 = .ok (.ireturn, 1) := by decide +kernel
theorem dX1_add_0 : decode cX1_add 0 = .ok (.aload_n 0, 1) := by decide +kernel
theorem dX1_add_1 : decode cX1_add 1 = .ok (.getfield 17, 3) := by decide +kernel
theorem dX1_add_4 : decode cX1_add 4 = .ok (.bipush 8, 2) := by decide +kernel
theorem dX1_add_6 : decode cX1_add 6 = .ok (.if_icmp .ge 31, 3) := by decide +kernel
theorem dX1_add_9 : decode cX1_add 9 = .ok (.aload_n 0, 1) := by decide +kernel
theorem dX1_add_10 : decode cX1_add 10 = .ok (.getfield 9, 3) := by decide +kernel
theorem dX1_add_13 : decode cX1_add 13 = .ok (.aload_n 0, 1) := by decide +kernel
theorem dX1_add_14 : decode cX1_add 14 = .ok (.getfield 13, 3) := by decide +kernel
theorem dX1_add_17 : decode cX1_add 17 = .ok (.aload_n 0, 1) := by decide +kernel
theorem dX1_add_18 : decode cX1_add 18 = .ok (.getfield 17, 3) := by decide +kernel
theorem dX1_add_21 : decode cX1_add 21 = .ok (.iadd, 1) := by decide +kernel
theorem dX1_add_22 : decode cX1_add 22 = .ok (.bipush 7, 2) := by decide +kernel
theorem dX1_add_24 : decode cX1_add 24 = .ok (.iand, 1) := by decide +kernel
theorem dX1_add_25 : decode cX1_add 25 = .ok (.iload_n 1, 1) := by decide +kernel
theorem dX1_add_26 : decode cX1_add 26 = .ok (.iastore, 1) := by decide +kernel
theorem dX1_add_27 : decode cX1_add 27 = .ok (.aload_n 0, 1) := by decide +kernel
theorem dX1_add_28 : decode cX1_add 28 = .ok (.dup, 1) := by decide +kernel
theorem dX1_add_29 : decode cX1_add 29 = .ok (.getfield 17, 3) := by decide +kernel
theorem dX1_add_32 : decode cX1_add 32 = .ok (.iconst 1, 1) := by decide +kernel
theorem dX1_add_33 : decode cX1_add 33 = .ok (.iadd, 1) := by decide +kernel
theorem dX1_add_34 : decode cX1_add 34 = .ok (.putfield 17, 3) := by decide +kernel
theorem dX1_add_37 : decode cX1_add 37 = .ok (.return_, 1) := by decide +kernel
theorem dX1_take_0 : decode cX1_take 0 = .ok (.aload_n 0, 1) := by decide +kernel
theorem dX1_take_1 : decode cX1_take 1 = .ok (.getfield 17, 3) := by decide +kernel
theorem dX1_take_4 : decode cX1_take 4 = .ok (.ifCond .ne 5, 3) := by decide +kernel
theorem dX1_take_7 : decode cX1_take 7 = .ok (.iconst 0, 1) := by decide +kernel
theorem dX1_take_8 : decode cX1_take 8 = .ok (.ireturn, 1) := by decide +kernel
theorem dX1_take_9 : decode cX1_take 9 = .ok (.aload_n 0, 1) := by decide +kernel
theorem dX1_take_10 : decode cX1_take 10 = .ok (.getfield 9, 3) := by decide +kernel
theorem dX1_take_13 : decode cX1_take 13 = .ok (.aload_n 0, 1) := by decide +kernel
theorem dX1_take_14 : decode cX1_take 14 = .ok (.getfield 13, 3) := by decide +kernel
theorem dX1_take_17 : decode cX1_take 17 = .ok (.bipush 7, 2) := by decide +kernel
theorem dX1_take_19 : decode cX1_take 19 = .ok (.iand, 1) := by decide +kernel
theorem dX1_take_20 : decode cX1_take 20 = .ok (.iaload, 1) := by decide +kernel
theorem dX1_take_21 : decode cX1_take 21 = .ok (.istore_n 1, 1) := by decide +kernel
theorem dX1_take_22 : decode cX1_take 22 = .ok (.aload_n 0, 1) := by decide +kernel
theorem dX1_take_23 : decode cX1_take 23 = .ok (.aload_n 0, 1) := by decide +kernel
theorem dX1_take_24 : decode cX1_take 24 = .ok (.getfield 13, 3) := by decide +kernel
theorem dX1_take_27 : decode cX1_take 27 = .ok (.iconst 1, 1) := by decide +kernel
theorem dX1_take_28 : decode cX1_take 28 = .ok (.iadd, 1) := by decide +kernel
theorem dX1_take_29 : decode cX1_take 29 = .ok (.bipush 7, 2) := by decide +kernel
theorem dX1_take_31 : decode cX1_take 31 = .ok (.iand, 1) := by decide +kernel
theorem dX1_take_32 : decode cX1_take 32 = .ok (.putfield 13, 3) := by decide +kernel
theorem dX1_take_35 : decode cX1_take 35 = .ok (.aload_n 0, 1) := by decide +kernel
theorem dX1_take_36 : decode cX1_take 36 = .ok (.dup, 1) := by decide +kernel
theorem dX1_take_37 : decode cX1_take 37 = .ok (.getfield 17, 3) := by decide +kernel
theorem dX1_take_40 : decode cX1_take 40 = .ok (.iconst 1, 1) := by decide +kernel
theorem dX1_take_41 : decode cX1_take 41 = .ok (.isub, 1) := by decide +kernel
theorem dX1_take_42 : decode cX1_take 42 = .ok (.putfield 17, 3) := by decide +kernel
theorem dX1_take_45 : decode cX1_take 45 = .ok (.iload_n 1, 1) := by decide +kernel
theorem dX1_take_46 : decode cX1_take 46 = .ok (.ireturn, 1) := by decide +kernel
theorem dX2_init_0 : decode cX2_init 0 = .ok (.aload_n 0, 1) := by decide +kernel
theorem dX2_init_1 : decode cX2_init 1 = .ok (.invokespecial 5, 3) := by decide +kernel
theorem dX2_init_4 : decode cX2_init 4 = .ok (.aload_n 0, 1) := by decide +kernel
theorem dX2_init_5 : decode cX2_init 5 = .ok (.bipush 8, 2) := by decide +kernel
theorem dX2_init_7 : decode cX2_init 7 = .ok (.newarray .int, 2) := by decide +kernel
theorem dX2_init_9 : decode cX2_init 9 = .ok (.putfield 11, 3) := by decide +kernel
theorem dX2_init_12 : decode cX2_init 12 = .ok (.aload_n 0, 1) := by decide +kernel
theorem dX2_init_13 : decode cX2_init 13 = .ok (.bipush 32, 2) := by decide +kernel
theorem dX2_init_15 : decode cX2_init 15 = .ok (.newarray .int, 2) := by decide +kernel
theorem dX2_init_17 : decode cX2_init 17 = .ok (.putfield 15, 3) := by decide +kernel
theorem dX2_init_20 : decode cX2_init 20 = .ok (.aload_n 0, 1) := by decide +kernel
theorem dX2_init_21 : decode cX2_init 21 = .ok (.bipush 80, 2) := by decide +kernel
theorem dX2_init_23 : decode cX2_init 23 = .ok (.newarray .int, 2) := by decide +kernel
theorem dX2_init_25 : decode cX2_init 25 = .ok (.putfield 18, 3) := by decide +kernel
theorem dX2_init_28 : decode cX2_init 28 = .ok (.aload_n 0, 1) := by decide +kernel
theorem dX2_init_29 : decode cX2_init 29 = .ok (.bipush 10, 2) := by decide +kernel
theorem dX2_init_31 : decode cX2_init 31 = .ok (.newarray .int, 2) := by decide +kernel
theorem dX2_init_33 : decode cX2_init 33 = .ok (.putfield 21, 3) := by decide +kernel
theorem dX2_init_36 : decode cX2_init 36 = .ok (.aload_n 0, 1) := by decide +kernel
theorem dX2_init_37 : decode cX2_init 37 = .ok (.sipush 512, 3) := by decide +kernel
theorem dX2_init_40 : decode cX2_init 40 = .ok (.newarray .int, 2) := by decide +kernel
theorem dX2_init_42 : decode cX2_init 42 = .ok (.putfield 24, 3) := by decide +kernel
theorem dX2_init_45 : decode cX2_init 45 = .ok (.aload_n 0, 1) := by decide +kernel
theorem dX2_init_46 : decode cX2_init 46 = .ok (.bipush 32, 2) := by decide +kernel
theorem dX2_init_48 : decode cX2_init 48 = .ok (.newarray .int, 2) := by decide +kernel
theorem dX2_init_50 : decode cX2_init 50 = .ok (.putfield 27, 3) := by decide +kernel
theorem dX2_init_53 : decode cX2_init 53 = .ok (.aload_n 0, 1) := by decide +kernel
theorem dX2_init_54 : decode cX2_init 54 = .ok (.iconst 0, 1) := by decide +kernel
theorem dX2_init_55 : decode cX2_init 55 = .ok (.putfield 30, 3) := by decide +kernel
theorem dX2_init_58 : decode cX2_init 58 = .ok (.aload_n 0, 1) := by decide +kernel
theorem dX2_init_59 : decode cX2_init 59 = .ok (.iconst 0, 1) := by decide +kernel
theorem dX2_init_60 : decode cX2_init 60 = .ok (.putfield 34, 3) := by decide +kernel
theorem dX2_init_63 : decode cX2_init 63 = .ok (.aload_n 0, 1) := by decide +kernel
theorem dX2_init_64 : decode cX2_init 64 = .ok (.iconst 0, 1) := by decide +kernel
theorem dX2_init_65 : decode cX2_init 65 = .ok (.putfield 37, 3) := by decide +kernel
theorem dX2_init_68 : decode cX2_init 68 = .ok (.aload_n 0, 1) := by decide +kernel
theorem dX2_init_69 : decode cX2_init 69 = .ok (.iconst 0, 1) := by decide +kernel
theorem dX2_init_70 : decode cX2_init 70 = .ok (.putfield 40, 3) := by decide +kernel
theorem dX2_init_73 : decode cX2_init 73 = .ok (.aload_n 0, 1) := by decide +kernel
theorem dX2_init_74 : decode cX2_init 74 = .ok (.iconst 0, 1) := by decide +kernel
theorem dX2_init_75 : decode cX2_init 75 = .ok (.putfield 43, 3) := by decide +kernel
theorem dX2_init_78 : decode cX2_init 78 = .ok (.aload_n 0, 1) := by decide +kernel
theorem dX2_init_79 : decode cX2_init 79 = .ok (.iconst 0, 1) := by decide +kernel
theorem dX2_init_80 : decode cX2_init 80 = .ok (.putfield 46, 3) := by decide +kernel
theorem dX2_init_83 : decode cX2_init 83 = .ok (.aload_n 0, 1) := by decide +kernel
theorem dX2_init_84 : decode cX2_init 84 = .ok (.aload_n 1, 1) := by decide +kernel
theorem dX2_init_85 : decode cX2_init 85 = .ok (.putfield 49, 3) := by decide +kernel
theorem dX2_init_88 : decode cX2_init 88 = .ok (.aload_n 0, 1) := by decide +kernel
theorem dX2_init_89 : decode cX2_init 89 = .ok (.aload_n 2, 1) := by decide +kernel
theorem dX2_init_90 : decode cX2_init 90 = .ok (.putfield 53, 3) := by decide +kernel
theorem dX2_init_93 : decode cX2_init 93 = .ok (.return_, 1) := by decide +kernel
theorem dX2_state_0 : decode cX2_state 0 = .ok (.aload_n 0, 1) := by decide +kernel
theorem dX2_state_1 : decode cX2_state 1 = .ok (.getfield 30, 3) := by decide +kernel
theorem dX2_state_4 : decode cX2_state 4 = .ok (.ireturn, 1) := by decide +kernel
theorem dX2_begun_0 : decode cX2_begun 0 = .ok (.aload_n 0, 1) := by decide +kernel
theorem dX2_begun_1 : decode cX2_begun 1 = .ok (.getfield 34, 3) := by decide +kernel
theorem dX2_begun_4 : decode cX2_begun 4 = .ok (.ireturn, 1) := by decide +kernel
theorem dX2_countShown_0 : decode cX2_countShown 0 = .ok (.aload_n 0, 1) := by decide +kernel
theorem dX2_countShown_1 : decode cX2_countShown 1 = .ok (.getfield 37, 3) := by decide +kernel
theorem dX2_countShown_4 : decode cX2_countShown 4 = .ok (.ireturn, 1) := by decide +kernel
theorem dX2_running_0 : decode cX2_running 0 = .ok (.aload_n 0, 1) := by decide +kernel
theorem dX2_running_1 : decode cX2_running 1 = .ok (.getfield 40, 3) := by decide +kernel
theorem dX2_running_4 : decode cX2_running 4 = .ok (.ireturn, 1) := by decide +kernel
theorem dX2_hasShown_0 : decode cX2_hasShown 0 = .ok (.iload_n 1, 1) := by decide +kernel
theorem dX2_hasShown_1 : decode cX2_hasShown 1 = .ok (.ifCond .lt 21, 3) := by decide +kernel
theorem dX2_hasShown_4 : decode cX2_hasShown 4 = .ok (.iload_n 1, 1) := by decide +kernel
theorem dX2_hasShown_5 : decode cX2_hasShown 5 = .ok (.bipush 32, 2) := by decide +kernel
theorem dX2_hasShown_7 : decode cX2_hasShown 7 = .ok (.if_icmp .ge 15, 3) := by decide +kernel
theorem dX2_hasShown_10 : decode cX2_hasShown 10 = .ok (.iload_n 1, 1) := by decide +kernel
theorem dX2_hasShown_11 : decode cX2_hasShown 11 = .ok (.aload_n 0, 1) := by decide +kernel
theorem dX2_hasShown_12 : decode cX2_hasShown 12 = .ok (.getfield 37, 3) := by decide +kernel
theorem dX2_hasShown_15 : decode cX2_hasShown 15 = .ok (.if_icmp .ge 7, 3) := by decide +kernel
theorem dX2_hasShown_18 : decode cX2_hasShown 18 = .ok (.iconst 1, 1) := by decide +kernel
theorem dX2_hasShown_19 : decode cX2_hasShown 19 = .ok (.goto 4, 3) := by decide +kernel
theorem dX2_hasShown_22 : decode cX2_hasShown 22 = .ok (.iconst 0, 1) := by decide +kernel
theorem dX2_hasShown_23 : decode cX2_hasShown 23 = .ok (.ireturn, 1) := by decide +kernel
theorem dX2_shownAt_0 : decode cX2_shownAt 0 = .ok (.aload_n 0, 1) := by decide +kernel
theorem dX2_shownAt_1 : decode cX2_shownAt 1 = .ok (.getfield 27, 3) := by decide +kernel
theorem dX2_shownAt_4 : decode cX2_shownAt 4 = .ok (.aload_n 0, 1) := by decide +kernel
theorem dX2_shownAt_5 : decode cX2_shownAt 5 = .ok (.getfield 37, 3) := by decide +kernel
theorem dX2_shownAt_8 : decode cX2_shownAt 8 = .ok (.iconst 1, 1) := by decide +kernel
theorem dX2_shownAt_9 : decode cX2_shownAt 9 = .ok (.isub, 1) := by decide +kernel
theorem dX2_shownAt_10 : decode cX2_shownAt 10 = .ok (.iload_n 1, 1) := by decide +kernel
theorem dX2_shownAt_11 : decode cX2_shownAt 11 = .ok (.isub, 1) := by decide +kernel
theorem dX2_shownAt_12 : decode cX2_shownAt 12 = .ok (.bipush 31, 2) := by decide +kernel
theorem dX2_shownAt_14 : decode cX2_shownAt 14 = .ok (.iand, 1) := by decide +kernel
theorem dX2_shownAt_15 : decode cX2_shownAt 15 = .ok (.iaload, 1) := by decide +kernel
theorem dX2_shownAt_16 : decode cX2_shownAt 16 = .ok (.ireturn, 1) := by decide +kernel
theorem dX2_globalAt_0 : decode cX2_globalAt 0 = .ok (.iload_n 1, 1) := by decide +kernel
theorem dX2_globalAt_1 : decode cX2_globalAt 1 = .ok (.ifCond .lt 21, 3) := by decide +kernel
theorem dX2_globalAt_4 : decode cX2_globalAt 4 = .ok (.iload_n 1, 1) := by decide +kernel
theorem dX2_globalAt_5 : decode cX2_globalAt 5 = .ok (.aload_n 0, 1) := by decide +kernel
theorem dX2_globalAt_6 : decode cX2_globalAt 6 = .ok (.getfield 11, 3) := by decide +kernel
theorem dX2_globalAt_9 : decode cX2_globalAt 9 = .ok (.arraylength, 1) := by decide +kernel
theorem dX2_globalAt_10 : decode cX2_globalAt 10 = .ok (.if_icmp .ge 12, 3) := by decide +kernel
theorem dX2_globalAt_13 : decode cX2_globalAt 13 = .ok (.aload_n 0, 1) := by decide +kernel
theorem dX2_globalAt_14 : decode cX2_globalAt 14 = .ok (.getfield 11, 3) := by decide +kernel
theorem dX2_globalAt_17 : decode cX2_globalAt 17 = .ok (.iload_n 1, 1) := by decide +kernel
theorem dX2_globalAt_18 : decode cX2_globalAt 18 = .ok (.iaload, 1) := by decide +kernel
theorem dX2_globalAt_19 : decode cX2_globalAt 19 = .ok (.goto 4, 3) := by decide +kernel
theorem dX2_globalAt_22 : decode cX2_globalAt 22 = .ok (.iconst 0, 1) := by decide +kernel
theorem dX2_globalAt_23 : decode cX2_globalAt 23 = .ok (.ireturn, 1) := by decide +kernel
theorem dX2_placeAt_0 : decode cX2_placeAt 0 = .ok (.iload_n 1, 1) := by decide +kernel
theorem dX2_placeAt_1 : decode cX2_placeAt 1 = .ok (.bipush 8, 2) := by decide +kernel
theorem dX2_placeAt_3 : decode cX2_placeAt 3 = .ok (.imul, 1) := by decide +kernel
theorem dX2_placeAt_4 : decode cX2_placeAt 4 = .ok (.iload_n 2, 1) := by decide +kernel
theorem dX2_placeAt_5 : decode cX2_placeAt 5 = .ok (.iadd, 1) := by decide +kernel
theorem dX2_placeAt_6 : decode cX2_placeAt 6 = .ok (.istore_n 3, 1) := by decide +kernel
theorem dX2_placeAt_7 : decode cX2_placeAt 7 = .ok (.iload_n 3, 1) := by decide +kernel
theorem dX2_placeAt_8 : decode cX2_placeAt 8 = .ok (.ifCond .lt 21, 3) := by decide +kernel
theorem dX2_placeAt_11 : decode cX2_placeAt 11 = .ok (.iload_n 3, 1) := by decide +kernel
theorem dX2_placeAt_12 : decode cX2_placeAt 12 = .ok (.aload_n 0, 1) := by decide +kernel
theorem dX2_placeAt_13 : decode cX2_placeAt 13 = .ok (.getfield 15, 3) := by decide +kernel
theorem dX2_placeAt_16 : decode cX2_placeAt 16 = .ok (.arraylength, 1) := by decide +kernel
theorem dX2_placeAt_17 : decode cX2_placeAt 17 = .ok (.if_icmp .ge 12, 3) := by decide +kernel
theorem dX2_placeAt_20 : decode cX2_placeAt 20 = .ok (.aload_n 0, 1) := by decide +kernel
theorem dX2_placeAt_21 : decode cX2_placeAt 21 = .ok (.getfield 15, 3) := by decide +kernel
theorem dX2_placeAt_24 : decode cX2_placeAt 24 = .ok (.iload_n 3, 1) := by decide +kernel
theorem dX2_placeAt_25 : decode cX2_placeAt 25 = .ok (.iaload, 1) := by decide +kernel
theorem dX2_placeAt_26 : decode cX2_placeAt 26 = .ok (.goto 4, 3) := by decide +kernel
theorem dX2_placeAt_29 : decode cX2_placeAt 29 = .ok (.iconst 0, 1) := by decide +kernel
theorem dX2_placeAt_30 : decode cX2_placeAt 30 = .ok (.ireturn, 1) := by decide +kernel
theorem dX2_clear_0 : decode cX2_clear 0 = .ok (.iconst 0, 1) := by decide +kernel
theorem dX2_clear_1 : decode cX2_clear 1 = .ok (.istore_n 1, 1) := by decide +kernel
theorem dX2_clear_2 : decode cX2_clear 2 = .ok (.iload_n 1, 1) := by decide +kernel
theorem dX2_clear_3 : decode cX2_clear 3 = .ok (.bipush 8, 2) := by decide +kernel
theorem dX2_clear_5 : decode cX2_clear 5 = .ok (.if_icmp .ge 16, 3) := by decide +kernel
theorem dX2_clear_8 : decode cX2_clear 8 = .ok (.aload_n 0, 1) := by decide +kernel
theorem dX2_clear_9 : decode cX2_clear 9 = .ok (.getfield 11, 3) := by decide +kernel
theorem dX2_clear_12 : decode cX2_clear 12 = .ok (.iload_n 1, 1) := by decide +kernel
theorem dX2_clear_13 : decode cX2_clear 13 = .ok (.iconst 0, 1) := by decide +kernel
theorem dX2_clear_14 : decode cX2_clear 14 = .ok (.iastore, 1) := by decide +kernel
theorem dX2_clear_15 : decode cX2_clear 15 = .ok (.iinc 1 1, 3) := by decide +kernel
theorem dX2_clear_18 : decode cX2_clear 18 = .ok (.goto (-16), 3) := by decide +kernel
theorem dX2_clear_21 : decode cX2_clear 21 = .ok (.iconst 0, 1) := by decide +kernel
theorem dX2_clear_22 : decode cX2_clear 22 = .ok (.istore_n 1, 1) := by decide +kernel
theorem dX2_clear_23 : decode cX2_clear 23 = .ok (.iload_n 1, 1) := by decide +kernel
theorem dX2_clear_24 : decode cX2_clear 24 = .ok (.bipush 32, 2) := by decide +kernel
theorem dX2_clear_26 : decode cX2_clear 26 = .ok (.if_icmp .ge 16, 3) := by decide +kernel
theorem dX2_clear_29 : decode cX2_clear 29 = .ok (.aload_n 0, 1) := by decide +kernel
theorem dX2_clear_30 : decode cX2_clear 30 = .ok (.getfield 15, 3) := by decide +kernel
theorem dX2_clear_33 : decode cX2_clear 33 = .ok (.iload_n 1, 1) := by decide +kernel
theorem dX2_clear_34 : decode cX2_clear 34 = .ok (.iconst 0, 1) := by decide +kernel
theorem dX2_clear_35 : decode cX2_clear 35 = .ok (.iastore, 1) := by decide +kernel
theorem dX2_clear_36 : decode cX2_clear 36 = .ok (.iinc 1 1, 3) := by decide +kernel
theorem dX2_clear_39 : decode cX2_clear 39 = .ok (.goto (-16), 3) := by decide +kernel
theorem dX2_clear_42 : decode cX2_clear 42 = .ok (.aload_n 0, 1) := by decide +kernel
theorem dX2_clear_43 : decode cX2_clear 43 = .ok (.iconst 0, 1) := by decide +kernel
theorem dX2_clear_44 : decode cX2_clear 44 = .ok (.putfield 30, 3) := by decide +kernel
theorem dX2_clear_47 : decode cX2_clear 47 = .ok (.aload_n 0, 1) := by decide +kernel
theorem dX2_clear_48 : decode cX2_clear 48 = .ok (.iconst 0, 1) := by decide +kernel
theorem dX2_clear_49 : decode cX2_clear 49 = .ok (.putfield 34, 3) := by decide +kernel
theorem dX2_clear_52 : decode cX2_clear 52 = .ok (.aload_n 0, 1) := by decide +kernel
theorem dX2_clear_53 : decode cX2_clear 53 = .ok (.iconst 0, 1) := by decide +kernel
theorem dX2_clear_54 : decode cX2_clear 54 = .ok (.putfield 37, 3) := by decide +kernel
theorem dX2_clear_57 : decode cX2_clear 57 = .ok (.aload_n 0, 1) := by decide +kernel
theorem dX2_clear_58 : decode cX2_clear 58 = .ok (.iconst 0, 1) := by decide +kernel
theorem dX2_clear_59 : decode cX2_clear 59 = .ok (.putfield 40, 3) := by decide +kernel
theorem dX2_clear_62 : decode cX2_clear 62 = .ok (.aload_n 0, 1) := by decide +kernel
theorem dX2_clear_63 : decode cX2_clear 63 = .ok (.iconst 0, 1) := by decide +kernel
theorem dX2_clear_64 : decode cX2_clear 64 = .ok (.putfield 43, 3) := by decide +kernel
theorem dX2_clear_67 : decode cX2_clear 67 = .ok (.aload_n 0, 1) := by decide +kernel
theorem dX2_clear_68 : decode cX2_clear 68 = .ok (.iconst 0, 1) := by decide +kernel
theorem dX2_clear_69 : decode cX2_clear 69 = .ok (.putfield 46, 3) := by decide +kernel
theorem dX2_clear_72 : decode cX2_clear 72 = .ok (.return_, 1) := by decide +kernel
theorem dX2_begin_0 : decode cX2_begin 0 = .ok (.aload_n 0, 1) := by decide +kernel
theorem dX2_begin_1 : decode cX2_begin 1 = .ok (.invokevirtual 57, 3) := by decide +kernel
theorem dX2_begin_4 : decode cX2_begin 4 = .ok (.aload_n 0, 1) := by decide +kernel
theorem dX2_begin_5 : decode cX2_begin 5 = .ok (.iconst 0, 1) := by decide +kernel
theorem dX2_begin_6 : decode cX2_begin 6 = .ok (.invokevirtual 60, 3) := by decide +kernel
theorem dX2_begin_9 : decode cX2_begin 9 = .ok (.aload_n 0, 1) := by decide +kernel
theorem dX2_begin_10 : decode cX2_begin 10 = .ok (.iconst 1, 1) := by decide +kernel
theorem dX2_begin_11 : decode cX2_begin 11 = .ok (.putfield 30, 3) := by decide +kernel
theorem dX2_begin_14 : decode cX2_begin 14 = .ok (.return_, 1) := by decide +kernel
theorem dX2_go_0 : decode cX2_go 0 = .ok (.aload_n 0, 1) := by decide +kernel
theorem dX2_go_1 : decode cX2_go 1 = .ok (.getfield 30, 3) := by decide +kernel
theorem dX2_go_4 : decode cX2_go 4 = .ok (.iconst 2, 1) := by decide +kernel
theorem dX2_go_5 : decode cX2_go 5 = .ok (.if_icmp .ne 18, 3) := by decide +kernel
theorem dX2_go_8 : decode cX2_go 8 = .ok (.aload_n 0, 1) := by decide +kernel
theorem dX2_go_9 : decode cX2_go 9 = .ok (.getfield 53, 3) := by decide +kernel
theorem dX2_go_12 : decode cX2_go 12 = .ok (.invokevirtual 64, 3) := by decide +kernel
theorem dX2_go_15 : decode cX2_go 15 = .ok (.ifCond .le 8, 3) := by decide +kernel
theorem dX2_go_18 : decode cX2_go 18 = .ok (.aload_n 0, 1) := by decide +kernel
theorem dX2_go_19 : decode cX2_go 19 = .ok (.iconst 1, 1) := by decide +kernel
theorem dX2_go_20 : decode cX2_go 20 = .ok (.putfield 30, 3) := by decide +kernel
theorem dX2_go_23 : decode cX2_go 23 = .ok (.aload_n 0, 1) := by decide +kernel
theorem dX2_go_24 : decode cX2_go 24 = .ok (.getfield 34, 3) := by decide +kernel
theorem dX2_go_27 : decode cX2_go 27 = .ok (.iload_n 1, 1) := by decide +kernel
theorem dX2_go_28 : decode cX2_go 28 = .ok (.iadd, 1) := by decide +kernel
theorem dX2_go_29 : decode cX2_go 29 = .ok (.istore_n 2, 1) := by decide +kernel
theorem dX2_go_30 : decode cX2_go 30 = .ok (.iconst 0, 1) := by decide +kernel
theorem dX2_go_31 : decode cX2_go 31 = .ok (.istore_n 3, 1) := by decide +kernel
theorem dX2_go_32 : decode cX2_go 32 = .ok (.iload_n 3, 1) := by decide +kernel
theorem dX2_go_33 : decode cX2_go 33 = .ok (.ldc 70, 2) := by decide +kernel
theorem dX2_go_35 : decode cX2_go 35 = .ok (.if_icmp .ge 79, 3) := by decide +kernel
theorem dX2_go_38 : decode cX2_go 38 = .ok (.aload_n 0, 1) := by decide +kernel
theorem dX2_go_39 : decode cX2_go 39 = .ok (.getfield 30, 3) := by decide +kernel
theorem dX2_go_42 : decode cX2_go 42 = .ok (.iconst 1, 1) := by decide +kernel
theorem dX2_go_43 : decode cX2_go 43 = .ok (.if_icmp .ne 71, 3) := by decide +kernel
theorem dX2_go_46 : decode cX2_go 46 = .ok (.aload_n 0, 1) := by decide +kernel
theorem dX2_go_47 : decode cX2_go 47 = .ok (.getfield 49, 3) := by decide +kernel
theorem dX2_go_50 : decode cX2_go 50 = .ok (.aload_n 0, 1) := by decide +kernel
theorem dX2_go_51 : decode cX2_go 51 = .ok (.getfield 46, 3) := by decide +kernel
theorem dX2_go_54 : decode cX2_go 54 = .ok (.invokevirtual 71, 3) := by decide +kernel
theorem dX2_go_57 : decode cX2_go 57 = .ok (.istore 4, 2) := by decide +kernel
theorem dX2_go_59 : decode cX2_go 59 = .ok (.iload 4, 2) := by decide +kernel
theorem dX2_go_61 : decode cX2_go 61 = .ok (.bipush 32, 2) := by decide +kernel
theorem dX2_go_63 : decode cX2_go 63 = .ok (.if_icmp .ne 14, 3) := by decide +kernel
theorem dX2_go_66 : decode cX2_go 66 = .ok (.aload_n 0, 1) := by decide +kernel
theorem dX2_go_67 : decode cX2_go 67 = .ok (.getfield 34, 3) := by decide +kernel
theorem dX2_go_70 : decode cX2_go 70 = .ok (.iload_n 2, 1) := by decide +kernel
theorem dX2_go_71 : decode cX2_go 71 = .ok (.if_icmp .lt 6, 3) := by decide +kernel
theorem dX2_go_74 : decode cX2_go 74 = .ok (.goto 40, 3) := by decide +kernel
theorem dX2_go_77 : decode cX2_go 77 = .ok (.aload_n 0, 1) := by decide +kernel
theorem dX2_go_78 : decode cX2_go 78 = .ok (.getfield 49, 3) := by decide +kernel
theorem dX2_go_81 : decode cX2_go 81 = .ok (.aload_n 0, 1) := by decide +kernel
theorem dX2_go_82 : decode cX2_go 82 = .ok (.getfield 46, 3) := by decide +kernel
theorem dX2_go_85 : decode cX2_go 85 = .ok (.invokevirtual 77, 3) := by decide +kernel
theorem dX2_go_88 : decode cX2_go 88 = .ok (.istore 5, 2) := by decide +kernel
theorem dX2_go_90 : decode cX2_go 90 = .ok (.aload_n 0, 1) := by decide +kernel
theorem dX2_go_91 : decode cX2_go 91 = .ok (.dup, 1) := by decide +kernel
theorem dX2_go_92 : decode cX2_go 92 = .ok (.getfield 46, 3) := by decide +kernel
theorem dX2_go_95 : decode cX2_go 95 = .ok (.iconst 1, 1) := by decide +kernel
theorem dX2_go_96 : decode cX2_go 96 = .ok (.iadd, 1) := by decide +kernel
theorem dX2_go_97 : decode cX2_go 97 = .ok (.putfield 46, 3) := by decide +kernel
theorem dX2_go_100 : decode cX2_go 100 = .ok (.aload_n 0, 1) := by decide +kernel
theorem dX2_go_101 : decode cX2_go 101 = .ok (.iload 4, 2) := by decide +kernel
theorem dX2_go_103 : decode cX2_go 103 = .ok (.iload 5, 2) := by decide +kernel
theorem dX2_go_105 : decode cX2_go 105 = .ok (.invokevirtual 80, 3) := by decide +kernel
theorem dX2_go_108 : decode cX2_go 108 = .ok (.iinc 3 1, 3) := by decide +kernel
theorem dX2_go_111 : decode cX2_go 111 = .ok (.goto (-79), 3) := by decide +kernel
theorem dX2_go_114 : decode cX2_go 114 = .ok (.aload_n 0, 1) := by decide +kernel
theorem dX2_go_115 : decode cX2_go 115 = .ok (.getfield 30, 3) := by decide +kernel
theorem dX2_go_118 : decode cX2_go 118 = .ok (.ireturn, 1) := by decide +kernel
theorem dX2_act_0 : decode cX2_act 0 = .ok (.iload_n 1, 1) := by decide +kernel
theorem dX2_act_1 : decode cX2_act 1 = .ok (.lookupswitch 215 #[(0, 112), (20, 196), (32, 99), (33, 176), (34, 146), (35, 184), (42, 119), (43, 127), (44, 135), (45, 153), (46, 161)], 99) := by decide +kernel
theorem dX2_act_100 : decode cX2_act 100 = .ok (.aload_n 0, 1) := by decide +kernel
theorem dX2_act_101 : decode cX2_act 101 = .ok (.dup, 1) := by decide +kernel
theorem dX2_act_102 : decode cX2_act 102 = .ok (.getfield 34, 3) := by decide +kernel
theorem dX2_act_105 : decode cX2_act 105 = .ok (.iconst 1, 1) := by decide +kernel
theorem dX2_act_106 : decode cX2_act 106 = .ok (.iadd, 1) := by decide +kernel
theorem dX2_act_107 : decode cX2_act 107 = .ok (.putfield 34, 3) := by decide +kernel
theorem dX2_act_110 : decode cX2_act 110 = .ok (.goto 112, 3) := by decide +kernel
theorem dX2_act_113 : decode cX2_act 113 = .ok (.aload_n 0, 1) := by decide +kernel
theorem dX2_act_114 : decode cX2_act 114 = .ok (.invokevirtual 84, 3) := by decide +kernel
theorem dX2_act_117 : decode cX2_act 117 = .ok (.goto 105, 3) := by decide +kernel
theorem dX2_act_120 : decode cX2_act 120 = .ok (.aload_n 0, 1) := by decide +kernel
theorem dX2_act_121 : decode cX2_act 121 = .ok (.iload_n 2, 1) := by decide +kernel
theorem dX2_act_122 : decode cX2_act 122 = .ok (.invokevirtual 87, 3) := by decide +kernel
theorem dX2_act_125 : decode cX2_act 125 = .ok (.goto 97, 3) := by decide +kernel
theorem dX2_act_128 : decode cX2_act 128 = .ok (.aload_n 0, 1) := by decide +kernel
theorem dX2_act_129 : decode cX2_act 129 = .ok (.invokevirtual 90, 3) := by decide +kernel
theorem dX2_act_132 : decode cX2_act 132 = .ok (.pop, 1) := by decide +kernel
theorem dX2_act_133 : decode cX2_act 133 = .ok (.goto 89, 3) := by decide +kernel
theorem dX2_act_136 : decode cX2_act 136 = .ok (.aload_n 0, 1) := by decide +kernel
theorem dX2_act_137 : decode cX2_act 137 = .ok (.aload_n 0, 1) := by decide +kernel
theorem dX2_act_138 : decode cX2_act 138 = .ok (.invokevirtual 90, 3) := by decide +kernel
theorem dX2_act_141 : decode cX2_act 141 = .ok (.invokevirtual 93, 3) := by decide +kernel
theorem dX2_act_144 : decode cX2_act 144 = .ok (.goto 78, 3) := by decide +kernel
theorem dX2_act_147 : decode cX2_act 147 = .ok (.aload_n 0, 1) := by decide +kernel
theorem dX2_act_148 : decode cX2_act 148 = .ok (.invokevirtual 96, 3) := by decide +kernel
theorem dX2_act_151 : decode cX2_act 151 = .ok (.goto 71, 3) := by decide +kernel
theorem dX2_act_154 : decode cX2_act 154 = .ok (.aload_n 0, 1) := by decide +kernel
theorem dX2_act_155 : decode cX2_act 155 = .ok (.iload_n 2, 1) := by decide +kernel
theorem dX2_act_156 : decode cX2_act 156 = .ok (.putfield 46, 3) := by decide +kernel
theorem dX2_act_159 : decode cX2_act 159 = .ok (.goto 63, 3) := by decide +kernel
theorem dX2_act_162 : decode cX2_act 162 = .ok (.aload_n 0, 1) := by decide +kernel
theorem dX2_act_163 : decode cX2_act 163 = .ok (.invokevirtual 90, 3) := by decide +kernel
theorem dX2_act_166 : decode cX2_act 166 = .ok (.ifCond .ne 56, 3) := by decide +kernel
theorem dX2_act_169 : decode cX2_act 169 = .ok (.aload_n 0, 1) := by decide +kernel
theorem dX2_act_170 : decode cX2_act 170 = .ok (.iload_n 2, 1) := by decide +kernel
theorem dX2_act_171 : decode cX2_act 171 = .ok (.putfield 46, 3) := by decide +kernel
theorem dX2_act_174 : decode cX2_act 174 = .ok (.goto 48, 3) := by decide +kernel
theorem dX2_act_177 : decode cX2_act 177 = .ok (.aload_n 0, 1) := by decide +kernel
theorem dX2_act_178 : decode cX2_act 178 = .ok (.iload_n 2, 1) := by decide +kernel
theorem dX2_act_179 : decode cX2_act 179 = .ok (.invokevirtual 99, 3) := by decide +kernel
theorem dX2_act_182 : decode cX2_act 182 = .ok (.goto 40, 3) := by decide +kernel
theorem dX2_act_185 : decode cX2_act 185 = .ok (.aload_n 0, 1) := by decide +kernel
theorem dX2_act_186 : decode cX2_act 186 = .ok (.aload_n 0, 1) := by decide +kernel
theorem dX2_act_187 : decode cX2_act 187 = .ok (.invokevirtual 90, 3) := by decide +kernel
theorem dX2_act_190 : decode cX2_act 190 = .ok (.ineg, 1) := by decide +kernel
theorem dX2_act_191 : decode cX2_act 191 = .ok (.invokevirtual 99, 3) := by decide +kernel
theorem dX2_act_194 : decode cX2_act 194 = .ok (.goto 28, 3) := by decide +kernel
theorem dX2_act_197 : decode cX2_act 197 = .ok (.aload_n 0, 1) := by decide +kernel
theorem dX2_act_198 : decode cX2_act 198 = .ok (.aload_n 0, 1) := by decide +kernel
theorem dX2_act_199 : decode cX2_act 199 = .ok (.invokevirtual 90, 3) := by decide +kernel
theorem dX2_act_202 : decode cX2_act 202 = .ok (.ifCond .ne 7, 3) := by decide +kernel
theorem dX2_act_205 : decode cX2_act 205 = .ok (.iconst 1, 1) := by decide +kernel
theorem dX2_act_206 : decode cX2_act 206 = .ok (.goto 4, 3) := by decide +kernel
theorem dX2_act_209 : decode cX2_act 209 = .ok (.iconst 0, 1) := by decide +kernel
theorem dX2_act_210 : decode cX2_act 210 = .ok (.invokevirtual 99, 3) := by decide +kernel
theorem dX2_act_213 : decode cX2_act 213 = .ok (.goto 9, 3) := by decide +kernel
theorem dX2_act_216 : decode cX2_act 216 = .ok (.aload_n 0, 1) := by decide +kernel
theorem dX2_act_217 : decode cX2_act 217 = .ok (.iload_n 1, 1) := by decide +kernel
theorem dX2_act_218 : decode cX2_act 218 = .ok (.iload_n 2, 1) := by decide +kernel
theorem dX2_act_219 : decode cX2_act 219 = .ok (.invokevirtual 102, 3) := by decide +kernel
theorem dX2_act_222 : decode cX2_act 222 = .ok (.return_, 1) := by decide +kernel
theorem dX2_actOnVariable_0 : decode cX2_actOnVariable 0 = .ok (.iload_n 1, 1) := by decide +kernel
theorem dX2_actOnVariable_1 : decode cX2_actOnVariable 1 = .ok (.tableswitch 103 36 41 #[39, 51, 63, 75, 87, 95], 39) := by decide +kernel
theorem dX2_actOnVariable_40 : decode cX2_actOnVariable 40 = .ok (.aload_n 0, 1) := by decide +kernel
theorem dX2_actOnVariable_41 : decode cX2_actOnVariable 41 = .ok (.aload_n 0, 1) := by decide +kernel
theorem dX2_actOnVariable_42 : decode cX2_actOnVariable 42 = .ok (.iload_n 2, 1) := by decide +kernel
theorem dX2_actOnVariable_43 : decode cX2_actOnVariable 43 = .ok (.invokevirtual 105, 3) := by decide +kernel
theorem dX2_actOnVariable_46 : decode cX2_actOnVariable 46 = .ok (.invokevirtual 99, 3) := by decide +kernel
theorem dX2_actOnVariable_49 : decode cX2_actOnVariable 49 = .ok (.goto 60, 3) := by decide +kernel
theorem dX2_actOnVariable_52 : decode cX2_actOnVariable 52 = .ok (.aload_n 0, 1) := by decide +kernel
theorem dX2_actOnVariable_53 : decode cX2_actOnVariable 53 = .ok (.iload_n 2, 1) := by decide +kernel
theorem dX2_actOnVariable_54 : decode cX2_actOnVariable 54 = .ok (.aload_n 0, 1) := by decide +kernel
theorem dX2_actOnVariable_55 : decode cX2_actOnVariable 55 = .ok (.invokevirtual 90, 3) := by decide +kernel
theorem dX2_actOnVariable_58 : decode cX2_actOnVariable 58 = .ok (.invokevirtual 108, 3) := by decide +kernel
theorem dX2_actOnVariable_61 : decode cX2_actOnVariable 61 = .ok (.goto 48, 3) := by decide +kernel
theorem dX2_actOnVariable_64 : decode cX2_actOnVariable 64 = .ok (.aload_n 0, 1) := by decide +kernel
theorem dX2_actOnVariable_65 : decode cX2_actOnVariable 65 = .ok (.aload_n 0, 1) := by decide +kernel
theorem dX2_actOnVariable_66 : decode cX2_actOnVariable 66 = .ok (.iload_n 2, 1) := by decide +kernel
theorem dX2_actOnVariable_67 : decode cX2_actOnVariable 67 = .ok (.invokevirtual 111, 3) := by decide +kernel
theorem dX2_actOnVariable_70 : decode cX2_actOnVariable 70 = .ok (.invokevirtual 99, 3) := by decide +kernel
theorem dX2_actOnVariable_73 : decode cX2_actOnVariable 73 = .ok (.goto 36, 3) := by decide +kernel
theorem dX2_actOnVariable_76 : decode cX2_actOnVariable 76 = .ok (.aload_n 0, 1) := by decide +kernel
theorem dX2_actOnVariable_77 : decode cX2_actOnVariable 77 = .ok (.iload_n 2, 1) := by decide +kernel
theorem dX2_actOnVariable_78 : decode cX2_actOnVariable 78 = .ok (.aload_n 0, 1) := by decide +kernel
theorem dX2_actOnVariable_79 : decode cX2_actOnVariable 79 = .ok (.invokevirtual 90, 3) := by decide +kernel
theorem dX2_actOnVariable_82 : decode cX2_actOnVariable 82 = .ok (.invokevirtual 114, 3) := by decide +kernel
theorem dX2_actOnVariable_85 : decode cX2_actOnVariable 85 = .ok (.goto 24, 3) := by decide +kernel
theorem dX2_actOnVariable_88 : decode cX2_actOnVariable 88 = .ok (.aload_n 0, 1) := by decide +kernel
theorem dX2_actOnVariable_89 : decode cX2_actOnVariable 89 = .ok (.iload_n 2, 1) := by decide +kernel
theorem dX2_actOnVariable_90 : decode cX2_actOnVariable 90 = .ok (.invokevirtual 117, 3) := by decide +kernel
theorem dX2_actOnVariable_93 : decode cX2_actOnVariable 93 = .ok (.goto 16, 3) := by decide +kernel
theorem dX2_actOnVariable_96 : decode cX2_actOnVariable 96 = .ok (.aload_n 0, 1) := by decide +kernel
theorem dX2_actOnVariable_97 : decode cX2_actOnVariable 97 = .ok (.iload_n 2, 1) := by decide +kernel
theorem dX2_actOnVariable_98 : decode cX2_actOnVariable 98 = .ok (.invokevirtual 120, 3) := by decide +kernel
theorem dX2_actOnVariable_101 : decode cX2_actOnVariable 101 = .ok (.goto 8, 3) := by decide +kernel
theorem dX2_actOnVariable_104 : decode cX2_actOnVariable 104 = .ok (.aload_n 0, 1) := by decide +kernel
theorem dX2_actOnVariable_105 : decode cX2_actOnVariable 105 = .ok (.iload_n 1, 1) := by decide +kernel
theorem dX2_actOnVariable_106 : decode cX2_actOnVariable 106 = .ok (.invokevirtual 123, 3) := by decide +kernel
theorem dX2_actOnVariable_109 : decode cX2_actOnVariable 109 = .ok (.return_, 1) := by decide +kernel
theorem dX2_combine_0 : decode cX2_combine 0 = .ok (.aload_n 0, 1) := by decide +kernel
theorem dX2_combine_1 : decode cX2_combine 1 = .ok (.invokevirtual 90, 3) := by decide +kernel
theorem dX2_combine_4 : decode cX2_combine 4 = .ok (.istore_n 2, 1) := by decide +kernel
theorem dX2_combine_5 : decode cX2_combine 5 = .ok (.aload_n 0, 1) := by decide +kernel
theorem dX2_combine_6 : decode cX2_combine 6 = .ok (.invokevirtual 90, 3) := by decide +kernel
theorem dX2_combine_9 : decode cX2_combine 9 = .ok (.istore_n 3, 1) := by decide +kernel
theorem dX2_combine_10 : decode cX2_combine 10 = .ok (.iload_n 1, 1) := by decide +kernel
theorem dX2_combine_11 : decode cX2_combine 11 = .ok (.tableswitch 105 13 19 #[41, 51, 61, 105, 105, 71, 88], 41) := by decide +kernel
theorem dX2_combine_52 : decode cX2_combine 52 = .ok (.aload_n 0, 1) := by decide +kernel
theorem dX2_combine_53 : decode cX2_combine 53 = .ok (.iload_n 3, 1) := by decide +kernel
theorem dX2_combine_54 : decode cX2_combine 54 = .ok (.iload_n 2, 1) := by decide +kernel
theorem dX2_combine_55 : decode cX2_combine 55 = .ok (.iadd, 1) := by decide +kernel
theorem dX2_combine_56 : decode cX2_combine 56 = .ok (.invokevirtual 99, 3) := by decide +kernel
theorem dX2_combine_59 : decode cX2_combine 59 = .ok (.goto 64, 3) := by decide +kernel
theorem dX2_combine_62 : decode cX2_combine 62 = .ok (.aload_n 0, 1) := by decide +kernel
theorem dX2_combine_63 : decode cX2_combine 63 = .ok (.iload_n 3, 1) := by decide +kernel
theorem dX2_combine_64 : decode cX2_combine 64 = .ok (.iload_n 2, 1) := by decide +kernel
theorem dX2_combine_65 : decode cX2_combine 65 = .ok (.isub, 1) := by decide +kernel
theorem dX2_combine_66 : decode cX2_combine 66 = .ok (.invokevirtual 99, 3) := by decide +kernel
theorem dX2_combine_69 : decode cX2_combine 69 = .ok (.goto 54, 3) := by decide +kernel
theorem dX2_combine_72 : decode cX2_combine 72 = .ok (.aload_n 0, 1) := by decide +kernel
theorem dX2_combine_73 : decode cX2_combine 73 = .ok (.iload_n 3, 1) := by decide +kernel
theorem dX2_combine_74 : decode cX2_combine 74 = .ok (.iload_n 2, 1) := by decide +kernel
theorem dX2_combine_75 : decode cX2_combine 75 = .ok (.imul, 1) := by decide +kernel
theorem dX2_combine_76 : decode cX2_combine 76 = .ok (.invokevirtual 99, 3) := by decide +kernel
theorem dX2_combine_79 : decode cX2_combine 79 = .ok (.goto 44, 3) := by decide +kernel
theorem dX2_combine_82 : decode cX2_combine 82 = .ok (.aload_n 0, 1) := by decide +kernel
theorem dX2_combine_83 : decode cX2_combine 83 = .ok (.iload_n 3, 1) := by decide +kernel
theorem dX2_combine_84 : decode cX2_combine 84 = .ok (.iload_n 2, 1) := by decide +kernel
theorem dX2_combine_85 : decode cX2_combine 85 = .ok (.if_icmp .ge 7, 3) := by decide +kernel
theorem dX2_combine_88 : decode cX2_combine 88 = .ok (.iconst 1, 1) := by decide +kernel
theorem dX2_combine_89 : decode cX2_combine 89 = .ok (.goto 4, 3) := by decide +kernel
theorem dX2_combine_92 : decode cX2_combine 92 = .ok (.iconst 0, 1) := by decide +kernel
theorem dX2_combine_93 : decode cX2_combine 93 = .ok (.invokevirtual 99, 3) := by decide +kernel
theorem dX2_combine_96 : decode cX2_combine 96 = .ok (.goto 27, 3) := by decide +kernel
theorem dX2_combine_99 : decode cX2_combine 99 = .ok (.aload_n 0, 1) := by decide +kernel
theorem dX2_combine_100 : decode cX2_combine 100 = .ok (.iload_n 3, 1) := by decide +kernel
theorem dX2_combine_101 : decode cX2_combine 101 = .ok (.iload_n 2, 1) := by decide +kernel
theorem dX2_combine_102 : decode cX2_combine 102 = .ok (.if_icmp .ne 7, 3) := by decide +kernel
theorem dX2_combine_105 : decode cX2_combine 105 = .ok (.iconst 1, 1) := by decide +kernel
theorem dX2_combine_106 : decode cX2_combine 106 = .ok (.goto 4, 3) := by decide +kernel
theorem dX2_combine_109 : decode cX2_combine 109 = .ok (.iconst 0, 1) := by decide +kernel
theorem dX2_combine_110 : decode cX2_combine 110 = .ok (.invokevirtual 99, 3) := by decide +kernel
theorem dX2_combine_113 : decode cX2_combine 113 = .ok (.goto 10, 3) := by decide +kernel
theorem dX2_combine_116 : decode cX2_combine 116 = .ok (.aload_n 0, 1) := by decide +kernel
theorem dX2_combine_117 : decode cX2_combine 117 = .ok (.iload_n 1, 1) := by decide +kernel
theorem dX2_combine_118 : decode cX2_combine 118 = .ok (.iload_n 3, 1) := by decide +kernel
theorem dX2_combine_119 : decode cX2_combine 119 = .ok (.iload_n 2, 1) := by decide +kernel
theorem dX2_combine_120 : decode cX2_combine 120 = .ok (.invokevirtual 126, 3) := by decide +kernel
theorem dX2_combine_123 : decode cX2_combine 123 = .ok (.return_, 1) := by decide +kernel
theorem dX2_divide_0 : decode cX2_divide 0 = .ok (.iload_n 3, 1) := by decide +kernel
theorem dX2_divide_1 : decode cX2_divide 1 = .ok (.ifCond .ne 11, 3) := by decide +kernel
theorem dX2_divide_4 : decode cX2_divide 4 = .ok (.aload_n 0, 1) := by decide +kernel
theorem dX2_divide_5 : decode cX2_divide 5 = .ok (.iconst 4, 1) := by decide +kernel
theorem dX2_divide_6 : decode cX2_divide 6 = .ok (.putfield 30, 3) := by decide +kernel
theorem dX2_divide_9 : decode cX2_divide 9 = .ok (.goto 22, 3) := by decide +kernel
theorem dX2_divide_12 : decode cX2_divide 12 = .ok (.aload_n 0, 1) := by decide +kernel
theorem dX2_divide_13 : decode cX2_divide 13 = .ok (.iload_n 1, 1) := by decide +kernel
theorem dX2_divide_14 : decode cX2_divide 14 = .ok (.bipush 16, 2) := by decide +kernel
theorem dX2_divide_16 : decode cX2_divide 16 = .ok (.if_icmp .ne 9, 3) := by decide +kernel
theorem dX2_divide_19 : decode cX2_divide 19 = .ok (.iload_n 2, 1) := by decide +kernel
theorem dX2_divide_20 : decode cX2_divide 20 = .ok (.iload_n 3, 1) := by decide +kernel
theorem dX2_divide_21 : decode cX2_divide 21 = .ok (.idiv, 1) := by decide +kernel
theorem dX2_divide_22 : decode cX2_divide 22 = .ok (.goto 6, 3) := by decide +kernel
theorem dX2_divide_25 : decode cX2_divide 25 = .ok (.iload_n 2, 1) := by decide +kernel
theorem dX2_divide_26 : decode cX2_divide 26 = .ok (.iload_n 3, 1) := by decide +kernel
theorem dX2_divide_27 : decode cX2_divide 27 = .ok (.irem, 1) := by decide +kernel
theorem dX2_divide_28 : decode cX2_divide 28 = .ok (.invokevirtual 99, 3) := by decide +kernel
theorem dX2_divide_31 : decode cX2_divide 31 = .ok (.return_, 1) := by decide +kernel
theorem dX2_push_0 : decode cX2_push 0 = .ok (.aload_n 0, 1) := by decide +kernel
theorem dX2_push_1 : decode cX2_push 1 = .ok (.getfield 43, 3) := by decide +kernel
theorem dX2_push_4 : decode cX2_push 4 = .ok (.ifCond .lt 36, 3) := by decide +kernel
theorem dX2_push_7 : decode cX2_push 7 = .ok (.aload_n 0, 1) := by decide +kernel
theorem dX2_push_8 : decode cX2_push 8 = .ok (.getfield 43, 3) := by decide +kernel
theorem dX2_push_11 : decode cX2_push 11 = .ok (.aload_n 0, 1) := by decide +kernel
theorem dX2_push_12 : decode cX2_push 12 = .ok (.getfield 24, 3) := by decide +kernel
theorem dX2_push_15 : decode cX2_push 15 = .ok (.arraylength, 1) := by decide +kernel
theorem dX2_push_16 : decode cX2_push 16 = .ok (.if_icmp .ge 24, 3) := by decide +kernel
theorem dX2_push_19 : decode cX2_push 19 = .ok (.aload_n 0, 1) := by decide +kernel
theorem dX2_push_20 : decode cX2_push 20 = .ok (.getfield 24, 3) := by decide +kernel
theorem dX2_push_23 : decode cX2_push 23 = .ok (.aload_n 0, 1) := by decide +kernel
theorem dX2_push_24 : decode cX2_push 24 = .ok (.getfield 43, 3) := by decide +kernel
theorem dX2_push_27 : decode cX2_push 27 = .ok (.iload_n 1, 1) := by decide +kernel
theorem dX2_push_28 : decode cX2_push 28 = .ok (.i2s, 1) := by decide +kernel
theorem dX2_push_29 : decode cX2_push 29 = .ok (.iastore, 1) := by decide +kernel
theorem dX2_push_30 : decode cX2_push 30 = .ok (.aload_n 0, 1) := by decide +kernel
theorem dX2_push_31 : decode cX2_push 31 = .ok (.dup, 1) := by decide +kernel
theorem dX2_push_32 : decode cX2_push 32 = .ok (.getfield 43, 3) := by decide +kernel
theorem dX2_push_35 : decode cX2_push 35 = .ok (.iconst 1, 1) := by decide +kernel
theorem dX2_push_36 : decode cX2_push 36 = .ok (.iadd, 1) := by decide +kernel
theorem dX2_push_37 : decode cX2_push 37 = .ok (.putfield 43, 3) := by decide +kernel
theorem dX2_push_40 : decode cX2_push 40 = .ok (.return_, 1) := by decide +kernel
theorem dX2_pop_0 : decode cX2_pop 0 = .ok (.aload_n 0, 1) := by decide +kernel
theorem dX2_pop_1 : decode cX2_pop 1 = .ok (.getfield 43, 3) := by decide +kernel
theorem dX2_pop_4 : decode cX2_pop 4 = .ok (.iconst 1, 1) := by decide +kernel
theorem dX2_pop_5 : decode cX2_pop 5 = .ok (.if_icmp .lt 15, 3) := by decide +kernel
theorem dX2_pop_8 : decode cX2_pop 8 = .ok (.aload_n 0, 1) := by decide +kernel
theorem dX2_pop_9 : decode cX2_pop 9 = .ok (.getfield 43, 3) := by decide +kernel
theorem dX2_pop_12 : decode cX2_pop 12 = .ok (.aload_n 0, 1) := by decide +kernel
theorem dX2_pop_13 : decode cX2_pop 13 = .ok (.getfield 24, 3) := by decide +kernel
theorem dX2_pop_16 : decode cX2_pop 16 = .ok (.arraylength, 1) := by decide +kernel
theorem dX2_pop_17 : decode cX2_pop 17 = .ok (.if_icmp .le 5, 3) := by decide +kernel
theorem dX2_pop_20 : decode cX2_pop 20 = .ok (.iconst 0, 1) := by decide +kernel
theorem dX2_pop_21 : decode cX2_pop 21 = .ok (.ireturn, 1) := by decide +kernel
theorem dX2_pop_22 : decode cX2_pop 22 = .ok (.aload_n 0, 1) := by decide +kernel
theorem dX2_pop_23 : decode cX2_pop 23 = .ok (.dup, 1) := by decide +kernel
theorem dX2_pop_24 : decode cX2_pop 24 = .ok (.getfield 43, 3) := by decide +kernel
theorem dX2_pop_27 : decode cX2_pop 27 = .ok (.iconst 1, 1) := by decide +kernel
theorem dX2_pop_28 : decode cX2_pop 28 = .ok (.isub, 1) := by decide +kernel
theorem dX2_pop_29 : decode cX2_pop 29 = .ok (.putfield 43, 3) := by decide +kernel
theorem dX2_pop_32 : decode cX2_pop 32 = .ok (.aload_n 0, 1) := by decide +kernel
theorem dX2_pop_33 : decode cX2_pop 33 = .ok (.getfield 24, 3) := by decide +kernel
theorem dX2_pop_36 : decode cX2_pop 36 = .ok (.aload_n 0, 1) := by decide +kernel
theorem dX2_pop_37 : decode cX2_pop 37 = .ok (.getfield 43, 3) := by decide +kernel
theorem dX2_pop_40 : decode cX2_pop 40 = .ok (.iaload, 1) := by decide +kernel
theorem dX2_pop_41 : decode cX2_pop 41 = .ok (.ireturn, 1) := by decide +kernel
theorem dX2_read_0 : decode cX2_read 0 = .ok (.aload_n 0, 1) := by decide +kernel
theorem dX2_read_1 : decode cX2_read 1 = .ok (.getfield 53, 3) := by decide +kernel
theorem dX2_read_4 : decode cX2_read 4 = .ok (.invokevirtual 64, 3) := by decide +kernel
theorem dX2_read_7 : decode cX2_read 7 = .ok (.ifCond .le 17, 3) := by decide +kernel
theorem dX2_read_10 : decode cX2_read 10 = .ok (.aload_n 0, 1) := by decide +kernel
theorem dX2_read_11 : decode cX2_read 11 = .ok (.aload_n 0, 1) := by decide +kernel
theorem dX2_read_12 : decode cX2_read 12 = .ok (.getfield 53, 3) := by decide +kernel
theorem dX2_read_15 : decode cX2_read 15 = .ok (.invokevirtual 132, 3) := by decide +kernel
theorem dX2_read_18 : decode cX2_read 18 = .ok (.invokevirtual 99, 3) := by decide +kernel
theorem dX2_read_21 : decode cX2_read 21 = .ok (.goto 18, 3) := by decide +kernel
theorem dX2_read_24 : decode cX2_read 24 = .ok (.aload_n 0, 1) := by decide +kernel
theorem dX2_read_25 : decode cX2_read 25 = .ok (.iconst 2, 1) := by decide +kernel
theorem dX2_read_26 : decode cX2_read 26 = .ok (.putfield 30, 3) := by decide +kernel
theorem dX2_read_29 : decode cX2_read 29 = .ok (.aload_n 0, 1) := by decide +kernel
theorem dX2_read_30 : decode cX2_read 30 = .ok (.dup, 1) := by decide +kernel
theorem dX2_read_31 : decode cX2_read 31 = .ok (.getfield 46, 3) := by decide +kernel
theorem dX2_read_34 : decode cX2_read 34 = .ok (.iconst 1, 1) := by decide +kernel
theorem dX2_read_35 : decode cX2_read 35 = .ok (.isub, 1) := by decide +kernel
theorem dX2_read_36 : decode cX2_read 36 = .ok (.putfield 46, 3) := by decide +kernel
theorem dX2_read_39 : decode cX2_read 39 = .ok (.return_, 1) := by decide +kernel
theorem dX2_show_0 : decode cX2_show 0 = .ok (.aload_n 0, 1) := by decide +kernel
theorem dX2_show_1 : decode cX2_show 1 = .ok (.getfield 27, 3) := by decide +kernel
theorem dX2_show_4 : decode cX2_show 4 = .ok (.aload_n 0, 1) := by decide +kernel
theorem dX2_show_5 : decode cX2_show 5 = .ok (.getfield 37, 3) := by decide +kernel
theorem dX2_show_8 : decode cX2_show 8 = .ok (.bipush 31, 2) := by decide +kernel
theorem dX2_show_10 : decode cX2_show 10 = .ok (.iand, 1) := by decide +kernel
theorem dX2_show_11 : decode cX2_show 11 = .ok (.iload_n 1, 1) := by decide +kernel
theorem dX2_show_12 : decode cX2_show 12 = .ok (.iastore, 1) := by decide +kernel
theorem dX2_show_13 : decode cX2_show 13 = .ok (.aload_n 0, 1) := by decide +kernel
theorem dX2_show_14 : decode cX2_show 14 = .ok (.dup, 1) := by decide +kernel
theorem dX2_show_15 : decode cX2_show 15 = .ok (.getfield 37, 3) := by decide +kernel
theorem dX2_show_18 : decode cX2_show 18 = .ok (.iconst 1, 1) := by decide +kernel
theorem dX2_show_19 : decode cX2_show 19 = .ok (.iadd, 1) := by decide +kernel
theorem dX2_show_20 : decode cX2_show 20 = .ok (.putfield 37, 3) := by decide +kernel
theorem dX2_show_23 : decode cX2_show 23 = .ok (.return_, 1) := by decide +kernel
theorem dX2_setGlobal_0 : decode cX2_setGlobal 0 = .ok (.iload_n 1, 1) := by decide +kernel
theorem dX2_setGlobal_1 : decode cX2_setGlobal 1 = .ok (.ifCond .lt 19, 3) := by decide +kernel
theorem dX2_setGlobal_4 : decode cX2_setGlobal 4 = .ok (.iload_n 1, 1) := by decide +kernel
theorem dX2_setGlobal_5 : decode cX2_setGlobal 5 = .ok (.aload_n 0, 1) := by decide +kernel
theorem dX2_setGlobal_6 : decode cX2_setGlobal 6 = .ok (.getfield 11, 3) := by decide +kernel
theorem dX2_setGlobal_9 : decode cX2_setGlobal 9 = .ok (.arraylength, 1) := by decide +kernel
theorem dX2_setGlobal_10 : decode cX2_setGlobal 10 = .ok (.if_icmp .ge 10, 3) := by decide +kernel
theorem dX2_setGlobal_13 : decode cX2_setGlobal 13 = .ok (.aload_n 0, 1) := by decide +kernel
theorem dX2_setGlobal_14 : decode cX2_setGlobal 14 = .ok (.getfield 11, 3) := by decide +kernel
theorem dX2_setGlobal_17 : decode cX2_setGlobal 17 = .ok (.iload_n 1, 1) := by decide +kernel
theorem dX2_setGlobal_18 : decode cX2_setGlobal 18 = .ok (.iload_n 2, 1) := by decide +kernel
theorem dX2_setGlobal_19 : decode cX2_setGlobal 19 = .ok (.iastore, 1) := by decide +kernel
theorem dX2_setGlobal_20 : decode cX2_setGlobal 20 = .ok (.return_, 1) := by decide +kernel
theorem dX2_localAt_0 : decode cX2_localAt 0 = .ok (.aload_n 0, 1) := by decide +kernel
theorem dX2_localAt_1 : decode cX2_localAt 1 = .ok (.getfield 40, 3) := by decide +kernel
theorem dX2_localAt_4 : decode cX2_localAt 4 = .ok (.iconst 1, 1) := by decide +kernel
theorem dX2_localAt_5 : decode cX2_localAt 5 = .ok (.isub, 1) := by decide +kernel
theorem dX2_localAt_6 : decode cX2_localAt 6 = .ok (.bipush 8, 2) := by decide +kernel
theorem dX2_localAt_8 : decode cX2_localAt 8 = .ok (.imul, 1) := by decide +kernel
theorem dX2_localAt_9 : decode cX2_localAt 9 = .ok (.iload_n 1, 1) := by decide +kernel
theorem dX2_localAt_10 : decode cX2_localAt 10 = .ok (.iadd, 1) := by decide +kernel
theorem dX2_localAt_11 : decode cX2_localAt 11 = .ok (.istore_n 2, 1) := by decide +kernel
theorem dX2_localAt_12 : decode cX2_localAt 12 = .ok (.iload_n 2, 1) := by decide +kernel
theorem dX2_localAt_13 : decode cX2_localAt 13 = .ok (.ifCond .lt 21, 3) := by decide +kernel
theorem dX2_localAt_16 : decode cX2_localAt 16 = .ok (.iload_n 2, 1) := by decide +kernel
theorem dX2_localAt_17 : decode cX2_localAt 17 = .ok (.aload_n 0, 1) := by decide +kernel
theorem dX2_localAt_18 : decode cX2_localAt 18 = .ok (.getfield 18, 3) := by decide +kernel
theorem dX2_localAt_21 : decode cX2_localAt 21 = .ok (.arraylength, 1) := by decide +kernel
theorem dX2_localAt_22 : decode cX2_localAt 22 = .ok (.if_icmp .ge 12, 3) := by decide +kernel
theorem dX2_localAt_25 : decode cX2_localAt 25 = .ok (.aload_n 0, 1) := by decide +kernel
theorem dX2_localAt_26 : decode cX2_localAt 26 = .ok (.getfield 18, 3) := by decide +kernel
theorem dX2_localAt_29 : decode cX2_localAt 29 = .ok (.iload_n 2, 1) := by decide +kernel
theorem dX2_localAt_30 : decode cX2_localAt 30 = .ok (.iaload, 1) := by decide +kernel
theorem dX2_localAt_31 : decode cX2_localAt 31 = .ok (.goto 4, 3) := by decide +kernel
theorem dX2_localAt_34 : decode cX2_localAt 34 = .ok (.iconst 0, 1) := by decide +kernel
theorem dX2_localAt_35 : decode cX2_localAt 35 = .ok (.ireturn, 1) := by decide +kernel
theorem dX2_setLocal_0 : decode cX2_setLocal 0 = .ok (.aload_n 0, 1) := by decide +kernel
theorem dX2_setLocal_1 : decode cX2_setLocal 1 = .ok (.getfield 40, 3) := by decide +kernel
theorem dX2_setLocal_4 : decode cX2_setLocal 4 = .ok (.iconst 1, 1) := by decide +kernel
theorem dX2_setLocal_5 : decode cX2_setLocal 5 = .ok (.isub, 1) := by decide +kernel
theorem dX2_setLocal_6 : decode cX2_setLocal 6 = .ok (.bipush 8, 2) := by decide +kernel
theorem dX2_setLocal_8 : decode cX2_setLocal 8 = .ok (.imul, 1) := by decide +kernel
theorem dX2_setLocal_9 : decode cX2_setLocal 9 = .ok (.iload_n 1, 1) := by decide +kernel
theorem dX2_setLocal_10 : decode cX2_setLocal 10 = .ok (.iadd, 1) := by decide +kernel
theorem dX2_setLocal_11 : decode cX2_setLocal 11 = .ok (.istore_n 3, 1) := by decide +kernel
theorem dX2_setLocal_12 : decode cX2_setLocal 12 = .ok (.iload_n 3, 1) := by decide +kernel
theorem dX2_setLocal_13 : decode cX2_setLocal 13 = .ok (.ifCond .lt 19, 3) := by decide +kernel
theorem dX2_setLocal_16 : decode cX2_setLocal 16 = .ok (.iload_n 3, 1) := by decide +kernel
theorem dX2_setLocal_17 : decode cX2_setLocal 17 = .ok (.aload_n 0, 1) := by decide +kernel
theorem dX2_setLocal_18 : decode cX2_setLocal 18 = .ok (.getfield 18, 3) := by decide +kernel
theorem dX2_setLocal_21 : decode cX2_setLocal 21 = .ok (.arraylength, 1) := by decide +kernel
theorem dX2_setLocal_22 : decode cX2_setLocal 22 = .ok (.if_icmp .ge 10, 3) := by decide +kernel
theorem dX2_setLocal_25 : decode cX2_setLocal 25 = .ok (.aload_n 0, 1) := by decide +kernel
theorem dX2_setLocal_26 : decode cX2_setLocal 26 = .ok (.getfield 18, 3) := by decide +kernel
theorem dX2_setLocal_29 : decode cX2_setLocal 29 = .ok (.iload_n 3, 1) := by decide +kernel
theorem dX2_setLocal_30 : decode cX2_setLocal 30 = .ok (.iload_n 2, 1) := by decide +kernel
theorem dX2_setLocal_31 : decode cX2_setLocal 31 = .ok (.iastore, 1) := by decide +kernel
theorem dX2_setLocal_32 : decode cX2_setLocal 32 = .ok (.return_, 1) := by decide +kernel
theorem dX2_getPlace_0 : decode cX2_getPlace 0 = .ok (.aload_n 0, 1) := by decide +kernel
theorem dX2_getPlace_1 : decode cX2_getPlace 1 = .ok (.invokevirtual 90, 3) := by decide +kernel
theorem dX2_getPlace_4 : decode cX2_getPlace 4 = .ok (.istore_n 2, 1) := by decide +kernel
theorem dX2_getPlace_5 : decode cX2_getPlace 5 = .ok (.iload_n 2, 1) := by decide +kernel
theorem dX2_getPlace_6 : decode cX2_getPlace 6 = .ok (.ifCond .lt 9, 3) := by decide +kernel
theorem dX2_getPlace_9 : decode cX2_getPlace 9 = .ok (.iload_n 2, 1) := by decide +kernel
theorem dX2_getPlace_10 : decode cX2_getPlace 10 = .ok (.bipush 8, 2) := by decide +kernel
theorem dX2_getPlace_12 : decode cX2_getPlace 12 = .ok (.if_icmp .lt 11, 3) := by decide +kernel
theorem dX2_getPlace_15 : decode cX2_getPlace 15 = .ok (.aload_n 0, 1) := by decide +kernel
theorem dX2_getPlace_16 : decode cX2_getPlace 16 = .ok (.iconst 5, 1) := by decide +kernel
theorem dX2_getPlace_17 : decode cX2_getPlace 17 = .ok (.putfield 30, 3) := by decide +kernel
theorem dX2_getPlace_20 : decode cX2_getPlace 20 = .ok (.goto 13, 3) := by decide +kernel
theorem dX2_getPlace_23 : decode cX2_getPlace 23 = .ok (.aload_n 0, 1) := by decide +kernel
theorem dX2_getPlace_24 : decode cX2_getPlace 24 = .ok (.aload_n 0, 1) := by decide +kernel
theorem dX2_getPlace_25 : decode cX2_getPlace 25 = .ok (.iload_n 1, 1) := by decide +kernel
theorem dX2_getPlace_26 : decode cX2_getPlace 26 = .ok (.iload_n 2, 1) := by decide +kernel
theorem dX2_getPlace_27 : decode cX2_getPlace 27 = .ok (.invokevirtual 135, 3) := by decide +kernel
theorem dX2_getPlace_30 : decode cX2_getPlace 30 = .ok (.invokevirtual 99, 3) := by decide +kernel
theorem dX2_getPlace_33 : decode cX2_getPlace 33 = .ok (.return_, 1) := by decide +kernel
theorem dX2_setPlace_0 : decode cX2_setPlace 0 = .ok (.aload_n 0, 1) := by decide +kernel
theorem dX2_setPlace_1 : decode cX2_setPlace 1 = .ok (.invokevirtual 90, 3) := by decide +kernel
theorem dX2_setPlace_4 : decode cX2_setPlace 4 = .ok (.istore_n 2, 1) := by decide +kernel
theorem dX2_setPlace_5 : decode cX2_setPlace 5 = .ok (.aload_n 0, 1) := by decide +kernel
theorem dX2_setPlace_6 : decode cX2_setPlace 6 = .ok (.invokevirtual 90, 3) := by decide +kernel
theorem dX2_setPlace_9 : decode cX2_setPlace 9 = .ok (.istore_n 3, 1) := by decide +kernel
theorem dX2_setPlace_10 : decode cX2_setPlace 10 = .ok (.iload_n 1, 1) := by decide +kernel
theorem dX2_setPlace_11 : decode cX2_setPlace 11 = .ok (.bipush 8, 2) := by decide +kernel
theorem dX2_setPlace_13 : decode cX2_setPlace 13 = .ok (.imul, 1) := by decide +kernel
theorem dX2_setPlace_14 : decode cX2_setPlace 14 = .ok (.iload_n 3, 1) := by decide +kernel
theorem dX2_setPlace_15 : decode cX2_setPlace 15 = .ok (.iadd, 1) := by decide +kernel
theorem dX2_setPlace_16 : decode cX2_setPlace 16 = .ok (.istore 4, 2) := by decide +kernel
theorem dX2_setPlace_18 : decode cX2_setPlace 18 = .ok (.iload_n 3, 1) := by decide +kernel
theorem dX2_setPlace_19 : decode cX2_setPlace 19 = .ok (.ifCond .lt 9, 3) := by decide +kernel
theorem dX2_setPlace_22 : decode cX2_setPlace 22 = .ok (.iload_n 3, 1) := by decide +kernel
theorem dX2_setPlace_23 : decode cX2_setPlace 23 = .ok (.bipush 8, 2) := by decide +kernel
theorem dX2_setPlace_25 : decode cX2_setPlace 25 = .ok (.if_icmp .lt 11, 3) := by decide +kernel
theorem dX2_setPlace_28 : decode cX2_setPlace 28 = .ok (.aload_n 0, 1) := by decide +kernel
theorem dX2_setPlace_29 : decode cX2_setPlace 29 = .ok (.iconst 5, 1) := by decide +kernel
theorem dX2_setPlace_30 : decode cX2_setPlace 30 = .ok (.putfield 30, 3) := by decide +kernel
theorem dX2_setPlace_33 : decode cX2_setPlace 33 = .ok (.goto 26, 3) := by decide +kernel
theorem dX2_setPlace_36 : decode cX2_setPlace 36 = .ok (.iload 4, 2) := by decide +kernel
theorem dX2_setPlace_38 : decode cX2_setPlace 38 = .ok (.ifCond .lt 21, 3) := by decide +kernel
theorem dX2_setPlace_41 : decode cX2_setPlace 41 = .ok (.iload 4, 2) := by decide +kernel
theorem dX2_setPlace_43 : decode cX2_setPlace 43 = .ok (.aload_n 0, 1) := by decide +kernel
theorem dX2_setPlace_44 : decode cX2_setPlace 44 = .ok (.getfield 15, 3) := by decide +kernel
theorem dX2_setPlace_47 : decode cX2_setPlace 47 = .ok (.arraylength, 1) := by decide +kernel
theorem dX2_setPlace_48 : decode cX2_setPlace 48 = .ok (.if_icmp .ge 11, 3) := by decide +kernel
theorem dX2_setPlace_51 : decode cX2_setPlace 51 = .ok (.aload_n 0, 1) := by decide +kernel
theorem dX2_setPlace_52 : decode cX2_setPlace 52 = .ok (.getfield 15, 3) := by decide +kernel
theorem dX2_setPlace_55 : decode cX2_setPlace 55 = .ok (.iload 4, 2) := by decide +kernel
theorem dX2_setPlace_57 : decode cX2_setPlace 57 = .ok (.iload_n 2, 1) := by decide +kernel
theorem dX2_setPlace_58 : decode cX2_setPlace 58 = .ok (.iastore, 1) := by decide +kernel
theorem dX2_setPlace_59 : decode cX2_setPlace 59 = .ok (.return_, 1) := by decide +kernel
theorem dX2_call_0 : decode cX2_call 0 = .ok (.aload_n 0, 1) := by decide +kernel
theorem dX2_call_1 : decode cX2_call 1 = .ok (.getfield 40, 3) := by decide +kernel
theorem dX2_call_4 : decode cX2_call 4 = .ok (.bipush 10, 2) := by decide +kernel
theorem dX2_call_6 : decode cX2_call 6 = .ok (.if_icmp .lt 12, 3) := by decide +kernel
theorem dX2_call_9 : decode cX2_call 9 = .ok (.aload_n 0, 1) := by decide +kernel
theorem dX2_call_10 : decode cX2_call 10 = .ok (.bipush 6, 2) := by decide +kernel
theorem dX2_call_12 : decode cX2_call 12 = .ok (.putfield 30, 3) := by decide +kernel
theorem dX2_call_15 : decode cX2_call 15 = .ok (.goto 8, 3) := by decide +kernel
theorem dX2_call_18 : decode cX2_call 18 = .ok (.aload_n 0, 1) := by decide +kernel
theorem dX2_call_19 : decode cX2_call 19 = .ok (.iload_n 1, 1) := by decide +kernel
theorem dX2_call_20 : decode cX2_call 20 = .ok (.invokevirtual 60, 3) := by decide +kernel
theorem dX2_call_23 : decode cX2_call 23 = .ok (.return_, 1) := by decide +kernel
theorem dX2_enter_0 : decode cX2_enter 0 = .ok (.aload_n 0, 1) := by decide +kernel
theorem dX2_enter_1 : decode cX2_enter 1 = .ok (.getfield 40, 3) := by decide +kernel
theorem dX2_enter_4 : decode cX2_enter 4 = .ok (.ifCond .lt 38, 3) := by decide +kernel
theorem dX2_enter_7 : decode cX2_enter 7 = .ok (.aload_n 0, 1) := by decide +kernel
theorem dX2_enter_8 : decode cX2_enter 8 = .ok (.getfield 40, 3) := by decide +kernel
theorem dX2_enter_11 : decode cX2_enter 11 = .ok (.aload_n 0, 1) := by decide +kernel
theorem dX2_enter_12 : decode cX2_enter 12 = .ok (.getfield 21, 3) := by decide +kernel
theorem dX2_enter_15 : decode cX2_enter 15 = .ok (.arraylength, 1) := by decide +kernel
theorem dX2_enter_16 : decode cX2_enter 16 = .ok (.if_icmp .ge 26, 3) := by decide +kernel
theorem dX2_enter_19 : decode cX2_enter 19 = .ok (.aload_n 0, 1) := by decide +kernel
theorem dX2_enter_20 : decode cX2_enter 20 = .ok (.getfield 21, 3) := by decide +kernel
theorem dX2_enter_23 : decode cX2_enter 23 = .ok (.aload_n 0, 1) := by decide +kernel
theorem dX2_enter_24 : decode cX2_enter 24 = .ok (.getfield 40, 3) := by decide +kernel
theorem dX2_enter_27 : decode cX2_enter 27 = .ok (.aload_n 0, 1) := by decide +kernel
theorem dX2_enter_28 : decode cX2_enter 28 = .ok (.getfield 46, 3) := by decide +kernel
theorem dX2_enter_31 : decode cX2_enter 31 = .ok (.iastore, 1) := by decide +kernel
theorem dX2_enter_32 : decode cX2_enter 32 = .ok (.aload_n 0, 1) := by decide +kernel
theorem dX2_enter_33 : decode cX2_enter 33 = .ok (.dup, 1) := by decide +kernel
theorem dX2_enter_34 : decode cX2_enter 34 = .ok (.getfield 40, 3) := by decide +kernel
theorem dX2_enter_37 : decode cX2_enter 37 = .ok (.iconst 1, 1) := by decide +kernel
theorem dX2_enter_38 : decode cX2_enter 38 = .ok (.iadd, 1) := by decide +kernel
theorem dX2_enter_39 : decode cX2_enter 39 = .ok (.putfield 40, 3) := by decide +kernel
theorem dX2_enter_42 : decode cX2_enter 42 = .ok (.iconst 0, 1) := by decide +kernel
theorem dX2_enter_43 : decode cX2_enter 43 = .ok (.istore_n 2, 1) := by decide +kernel
theorem dX2_enter_44 : decode cX2_enter 44 = .ok (.iload_n 2, 1) := by decide +kernel
theorem dX2_enter_45 : decode cX2_enter 45 = .ok (.bipush 8, 2) := by decide +kernel
theorem dX2_enter_47 : decode cX2_enter 47 = .ok (.if_icmp .ge 15, 3) := by decide +kernel
theorem dX2_enter_50 : decode cX2_enter 50 = .ok (.aload_n 0, 1) := by decide +kernel
theorem dX2_enter_51 : decode cX2_enter 51 = .ok (.iload_n 2, 1) := by decide +kernel
theorem dX2_enter_52 : decode cX2_enter 52 = .ok (.iconst 0, 1) := by decide +kernel
theorem dX2_enter_53 : decode cX2_enter 53 = .ok (.invokevirtual 114, 3) := by decide +kernel
theorem dX2_enter_56 : decode cX2_enter 56 = .ok (.iinc 2 1, 3) := by decide +kernel
theorem dX2_enter_59 : decode cX2_enter 59 = .ok (.goto (-15), 3) := by decide +kernel
theorem dX2_enter_62 : decode cX2_enter 62 = .ok (.aload_n 0, 1) := by decide +kernel
theorem dX2_enter_63 : decode cX2_enter 63 = .ok (.getfield 49, 3) := by decide +kernel
theorem dX2_enter_66 : decode cX2_enter 66 = .ok (.iload_n 1, 1) := by decide +kernel
theorem dX2_enter_67 : decode cX2_enter 67 = .ok (.invokevirtual 139, 3) := by decide +kernel
theorem dX2_enter_70 : decode cX2_enter 70 = .ok (.iconst 1, 1) := by decide +kernel
theorem dX2_enter_71 : decode cX2_enter 71 = .ok (.isub, 1) := by decide +kernel
theorem dX2_enter_72 : decode cX2_enter 72 = .ok (.istore_n 2, 1) := by decide +kernel
theorem dX2_enter_73 : decode cX2_enter 73 = .ok (.iload_n 2, 1) := by decide +kernel
theorem dX2_enter_74 : decode cX2_enter 74 = .ok (.ifCond .lt 18, 3) := by decide +kernel
theorem dX2_enter_77 : decode cX2_enter 77 = .ok (.aload_n 0, 1) := by decide +kernel
theorem dX2_enter_78 : decode cX2_enter 78 = .ok (.iload_n 2, 1) := by decide +kernel
theorem dX2_enter_79 : decode cX2_enter 79 = .ok (.aload_n 0, 1) := by decide +kernel
theorem dX2_enter_80 : decode cX2_enter 80 = .ok (.invokevirtual 90, 3) := by decide +kernel
theorem dX2_enter_83 : decode cX2_enter 83 = .ok (.invokevirtual 114, 3) := by decide +kernel
theorem dX2_enter_86 : decode cX2_enter 86 = .ok (.iinc 2 (-1), 3) := by decide +kernel
theorem dX2_enter_89 : decode cX2_enter 89 = .ok (.goto (-16), 3) := by decide +kernel
theorem dX2_enter_92 : decode cX2_enter 92 = .ok (.aload_n 0, 1) := by decide +kernel
theorem dX2_enter_93 : decode cX2_enter 93 = .ok (.aload_n 0, 1) := by decide +kernel
theorem dX2_enter_94 : decode cX2_enter 94 = .ok (.getfield 49, 3) := by decide +kernel
theorem dX2_enter_97 : decode cX2_enter 97 = .ok (.iload_n 1, 1) := by decide +kernel
theorem dX2_enter_98 : decode cX2_enter 98 = .ok (.invokevirtual 142, 3) := by decide +kernel
theorem dX2_enter_101 : decode cX2_enter 101 = .ok (.putfield 46, 3) := by decide +kernel
theorem dX2_enter_104 : decode cX2_enter 104 = .ok (.return_, 1) := by decide +kernel
theorem dX2_leave_0 : decode cX2_leave 0 = .ok (.aload_n 0, 1) := by decide +kernel
theorem dX2_leave_1 : decode cX2_leave 1 = .ok (.invokevirtual 90, 3) := by decide +kernel
theorem dX2_leave_4 : decode cX2_leave 4 = .ok (.istore_n 1, 1) := by decide +kernel
theorem dX2_leave_5 : decode cX2_leave 5 = .ok (.aload_n 0, 1) := by decide +kernel
theorem dX2_leave_6 : decode cX2_leave 6 = .ok (.dup, 1) := by decide +kernel
theorem dX2_leave_7 : decode cX2_leave 7 = .ok (.getfield 40, 3) := by decide +kernel
theorem dX2_leave_10 : decode cX2_leave 10 = .ok (.iconst 1, 1) := by decide +kernel
theorem dX2_leave_11 : decode cX2_leave 11 = .ok (.isub, 1) := by decide +kernel
theorem dX2_leave_12 : decode cX2_leave 12 = .ok (.putfield 40, 3) := by decide +kernel
theorem dX2_leave_15 : decode cX2_leave 15 = .ok (.aload_n 0, 1) := by decide +kernel
theorem dX2_leave_16 : decode cX2_leave 16 = .ok (.getfield 40, 3) := by decide +kernel
theorem dX2_leave_19 : decode cX2_leave 19 = .ok (.ifCond .le 36, 3) := by decide +kernel
theorem dX2_leave_22 : decode cX2_leave 22 = .ok (.aload_n 0, 1) := by decide +kernel
theorem dX2_leave_23 : decode cX2_leave 23 = .ok (.getfield 40, 3) := by decide +kernel
theorem dX2_leave_26 : decode cX2_leave 26 = .ok (.aload_n 0, 1) := by decide +kernel
theorem dX2_leave_27 : decode cX2_leave 27 = .ok (.getfield 21, 3) := by decide +kernel
theorem dX2_leave_30 : decode cX2_leave 30 = .ok (.arraylength, 1) := by decide +kernel
theorem dX2_leave_31 : decode cX2_leave 31 = .ok (.if_icmp .ge 24, 3) := by decide +kernel
theorem dX2_leave_34 : decode cX2_leave 34 = .ok (.aload_n 0, 1) := by decide +kernel
theorem dX2_leave_35 : decode cX2_leave 35 = .ok (.aload_n 0, 1) := by decide +kernel
theorem dX2_leave_36 : decode cX2_leave 36 = .ok (.getfield 21, 3) := by decide +kernel
theorem dX2_leave_39 : decode cX2_leave 39 = .ok (.aload_n 0, 1) := by decide +kernel
theorem dX2_leave_40 : decode cX2_leave 40 = .ok (.getfield 40, 3) := by decide +kernel
theorem dX2_leave_43 : decode cX2_leave 43 = .ok (.iaload, 1) := by decide +kernel
theorem dX2_leave_44 : decode cX2_leave 44 = .ok (.putfield 46, 3) := by decide +kernel
theorem dX2_leave_47 : decode cX2_leave 47 = .ok (.aload_n 0, 1) := by decide +kernel
theorem dX2_leave_48 : decode cX2_leave 48 = .ok (.iload_n 1, 1) := by decide +kernel
theorem dX2_leave_49 : decode cX2_leave 49 = .ok (.invokevirtual 99, 3) := by decide +kernel
theorem dX2_leave_52 : decode cX2_leave 52 = .ok (.goto 13, 3) := by decide +kernel
theorem dX2_leave_55 : decode cX2_leave 55 = .ok (.aload_n 0, 1) := by decide +kernel
theorem dX2_leave_56 : decode cX2_leave 56 = .ok (.iconst 0, 1) := by decide +kernel
theorem dX2_leave_57 : decode cX2_leave 57 = .ok (.putfield 40, 3) := by decide +kernel
theorem dX2_leave_60 : decode cX2_leave 60 = .ok (.aload_n 0, 1) := by decide +kernel
theorem dX2_leave_61 : decode cX2_leave 61 = .ok (.iconst 3, 1) := by decide +kernel
theorem dX2_leave_62 : decode cX2_leave 62 = .ok (.putfield 30, 3) := by decide +kernel
theorem dX2_leave_65 : decode cX2_leave 65 = .ok (.return_, 1) := by decide +kernel
theorem dX3_init_0 : decode cX3_init 0 = .ok (.aload_n 0, 1) := by decide +kernel
theorem dX3_init_1 : decode cX3_init 1 = .ok (.invokespecial 3, 3) := by decide +kernel
theorem dX3_init_4 : decode cX3_init 4 = .ok (.aload_n 0, 1) := by decide +kernel
theorem dX3_init_5 : decode cX3_init 5 = .ok (.sipush 160, 3) := by decide +kernel
theorem dX3_init_8 : decode cX3_init 8 = .ok (.newarray .int, 2) := by decide +kernel
theorem dX3_init_10 : decode cX3_init 10 = .ok (.putfield 9, 3) := by decide +kernel
theorem dX3_init_13 : decode cX3_init 13 = .ok (.aload_n 0, 1) := by decide +kernel
theorem dX3_init_14 : decode cX3_init 14 = .ok (.sipush 160, 3) := by decide +kernel
theorem dX3_init_17 : decode cX3_init 17 = .ok (.newarray .int, 2) := by decide +kernel
theorem dX3_init_19 : decode cX3_init 19 = .ok (.putfield 15, 3) := by decide +kernel
theorem dX3_init_22 : decode cX3_init 22 = .ok (.aload_n 0, 1) := by decide +kernel
theorem dX3_init_23 : decode cX3_init 23 = .ok (.bipush 6, 2) := by decide +kernel
theorem dX3_init_25 : decode cX3_init 25 = .ok (.newarray .int, 2) := by decide +kernel
theorem dX3_init_27 : decode cX3_init 27 = .ok (.putfield 18, 3) := by decide +kernel
theorem dX3_init_30 : decode cX3_init 30 = .ok (.aload_n 0, 1) := by decide +kernel
theorem dX3_init_31 : decode cX3_init 31 = .ok (.bipush 6, 2) := by decide +kernel
theorem dX3_init_33 : decode cX3_init 33 = .ok (.newarray .int, 2) := by decide +kernel
theorem dX3_init_35 : decode cX3_init 35 = .ok (.putfield 21, 3) := by decide +kernel
theorem dX3_init_38 : decode cX3_init 38 = .ok (.aload_n 0, 1) := by decide +kernel
theorem dX3_init_39 : decode cX3_init 39 = .ok (.iconst 0, 1) := by decide +kernel
theorem dX3_init_40 : decode cX3_init 40 = .ok (.putfield 24, 3) := by decide +kernel
theorem dX3_init_43 : decode cX3_init 43 = .ok (.aload_n 0, 1) := by decide +kernel
theorem dX3_init_44 : decode cX3_init 44 = .ok (.iconst 0, 1) := by decide +kernel
theorem dX3_init_45 : decode cX3_init 45 = .ok (.putfield 28, 3) := by decide +kernel
theorem dX3_init_48 : decode cX3_init 48 = .ok (.return_, 1) := by decide +kernel
theorem dX3_functions_0 : decode cX3_functions 0 = .ok (.aload_n 0, 1) := by decide +kernel
theorem dX3_functions_1 : decode cX3_functions 1 = .ok (.getfield 28, 3) := by decide +kernel
theorem dX3_functions_4 : decode cX3_functions 4 = .ok (.ireturn, 1) := by decide +kernel
theorem dX3_stepAt_0 : decode cX3_stepAt 0 = .ok (.iload_n 1, 1) := by decide +kernel
theorem dX3_stepAt_1 : decode cX3_stepAt 1 = .ok (.ifCond .lt 21, 3) := by decide +kernel
theorem dX3_stepAt_4 : decode cX3_stepAt 4 = .ok (.iload_n 1, 1) := by decide +kernel
theorem dX3_stepAt_5 : decode cX3_stepAt 5 = .ok (.aload_n 0, 1) := by decide +kernel
theorem dX3_stepAt_6 : decode cX3_stepAt 6 = .ok (.getfield 9, 3) := by decide +kernel
theorem dX3_stepAt_9 : decode cX3_stepAt 9 = .ok (.arraylength, 1) := by decide +kernel
theorem dX3_stepAt_10 : decode cX3_stepAt 10 = .ok (.if_icmp .ge 12, 3) := by decide +kernel
theorem dX3_stepAt_13 : decode cX3_stepAt 13 = .ok (.aload_n 0, 1) := by decide +kernel
theorem dX3_stepAt_14 : decode cX3_stepAt 14 = .ok (.getfield 9, 3) := by decide +kernel
theorem dX3_stepAt_17 : decode cX3_stepAt 17 = .ok (.iload_n 1, 1) := by decide +kernel
theorem dX3_stepAt_18 : decode cX3_stepAt 18 = .ok (.iaload, 1) := by decide +kernel
theorem dX3_stepAt_19 : decode cX3_stepAt 19 = .ok (.goto 4, 3) := by decide +kernel
theorem dX3_stepAt_22 : decode cX3_stepAt 22 = .ok (.iconst 0, 1) := by decide +kernel
theorem dX3_stepAt_23 : decode cX3_stepAt 23 = .ok (.ireturn, 1) := by decide +kernel
theorem dX3_operandAt_0 : decode cX3_operandAt 0 = .ok (.iload_n 1, 1) := by decide +kernel
theorem dX3_operandAt_1 : decode cX3_operandAt 1 = .ok (.ifCond .lt 21, 3) := by decide +kernel
theorem dX3_operandAt_4 : decode cX3_operandAt 4 = .ok (.iload_n 1, 1) := by decide +kernel
theorem dX3_operandAt_5 : decode cX3_operandAt 5 = .ok (.aload_n 0, 1) := by decide +kernel
theorem dX3_operandAt_6 : decode cX3_operandAt 6 = .ok (.getfield 15, 3) := by decide +kernel
theorem dX3_operandAt_9 : decode cX3_operandAt 9 = .ok (.arraylength, 1) := by decide +kernel
theorem dX3_operandAt_10 : decode cX3_operandAt 10 = .ok (.if_icmp .ge 12, 3) := by decide +kernel
theorem dX3_operandAt_13 : decode cX3_operandAt 13 = .ok (.aload_n 0, 1) := by decide +kernel
theorem dX3_operandAt_14 : decode cX3_operandAt 14 = .ok (.getfield 15, 3) := by decide +kernel
theorem dX3_operandAt_17 : decode cX3_operandAt 17 = .ok (.iload_n 1, 1) := by decide +kernel
theorem dX3_operandAt_18 : decode cX3_operandAt 18 = .ok (.iaload, 1) := by decide +kernel
theorem dX3_operandAt_19 : decode cX3_operandAt 19 = .ok (.goto 4, 3) := by decide +kernel
theorem dX3_operandAt_22 : decode cX3_operandAt 22 = .ok (.iconst 0, 1) := by decide +kernel
theorem dX3_operandAt_23 : decode cX3_operandAt 23 = .ok (.ireturn, 1) := by decide +kernel
theorem dX3_entryOf_0 : decode cX3_entryOf 0 = .ok (.iload_n 1, 1) := by decide +kernel
theorem dX3_entryOf_1 : decode cX3_entryOf 1 = .ok (.ifCond .lt 21, 3) := by decide +kernel
theorem dX3_entryOf_4 : decode cX3_entryOf 4 = .ok (.iload_n 1, 1) := by decide +kernel
theorem dX3_entryOf_5 : decode cX3_entryOf 5 = .ok (.aload_n 0, 1) := by decide +kernel
theorem dX3_entryOf_6 : decode cX3_entryOf 6 = .ok (.getfield 18, 3) := by decide +kernel
theorem dX3_entryOf_9 : decode cX3_entryOf 9 = .ok (.arraylength, 1) := by decide +kernel
theorem dX3_entryOf_10 : decode cX3_entryOf 10 = .ok (.if_icmp .ge 12, 3) := by decide +kernel
theorem dX3_entryOf_13 : decode cX3_entryOf 13 = .ok (.aload_n 0, 1) := by decide +kernel
theorem dX3_entryOf_14 : decode cX3_entryOf 14 = .ok (.getfield 18, 3) := by decide +kernel
theorem dX3_entryOf_17 : decode cX3_entryOf 17 = .ok (.iload_n 1, 1) := by decide +kernel
theorem dX3_entryOf_18 : decode cX3_entryOf 18 = .ok (.iaload, 1) := by decide +kernel
theorem dX3_entryOf_19 : decode cX3_entryOf 19 = .ok (.goto 4, 3) := by decide +kernel
theorem dX3_entryOf_22 : decode cX3_entryOf 22 = .ok (.iconst 0, 1) := by decide +kernel
theorem dX3_entryOf_23 : decode cX3_entryOf 23 = .ok (.ireturn, 1) := by decide +kernel
theorem dX3_parametersOf_0 : decode cX3_parametersOf 0 = .ok (.iload_n 1, 1) := by decide +kernel
theorem dX3_parametersOf_1 : decode cX3_parametersOf 1 = .ok (.ifCond .lt 23, 3) := by decide +kernel
theorem dX3_parametersOf_4 : decode cX3_parametersOf 4 = .ok (.iload_n 1, 1) := by decide +kernel
theorem dX3_parametersOf_5 : decode cX3_parametersOf 5 = .ok (.aload_n 0, 1) := by decide +kernel
theorem dX3_parametersOf_6 : decode cX3_parametersOf 6 = .ok (.getfield 21, 3) := by decide +kernel
theorem dX3_parametersOf_9 : decode cX3_parametersOf 9 = .ok (.arraylength, 1) := by decide +kernel
theorem dX3_parametersOf_10 : decode cX3_parametersOf 10 = .ok (.if_icmp .ge 14, 3) := by decide +kernel
theorem dX3_parametersOf_13 : decode cX3_parametersOf 13 = .ok (.aload_n 0, 1) := by decide +kernel
theorem dX3_parametersOf_14 : decode cX3_parametersOf 14 = .ok (.getfield 21, 3) := by decide +kernel
theorem dX3_parametersOf_17 : decode cX3_parametersOf 17 = .ok (.iload_n 1, 1) := by decide +kernel
theorem dX3_parametersOf_18 : decode cX3_parametersOf 18 = .ok (.iaload, 1) := by decide +kernel
theorem dX3_parametersOf_19 : decode cX3_parametersOf 19 = .ok (.iconst 1, 1) := by decide +kernel
theorem dX3_parametersOf_20 : decode cX3_parametersOf 20 = .ok (.isub, 1) := by decide +kernel
theorem dX3_parametersOf_21 : decode cX3_parametersOf 21 = .ok (.goto 4, 3) := by decide +kernel
theorem dX3_parametersOf_24 : decode cX3_parametersOf 24 = .ok (.iconst (-1), 1) := by decide +kernel
theorem dX3_parametersOf_25 : decode cX3_parametersOf 25 = .ok (.ireturn, 1) := by decide +kernel
theorem dX3_clear_0 : decode cX3_clear 0 = .ok (.iconst 0, 1) := by decide +kernel
theorem dX3_clear_1 : decode cX3_clear 1 = .ok (.istore_n 1, 1) := by decide +kernel
theorem dX3_clear_2 : decode cX3_clear 2 = .ok (.iload_n 1, 1) := by decide +kernel
theorem dX3_clear_3 : decode cX3_clear 3 = .ok (.bipush 6, 2) := by decide +kernel
theorem dX3_clear_5 : decode cX3_clear 5 = .ok (.if_icmp .ge 16, 3) := by decide +kernel
theorem dX3_clear_8 : decode cX3_clear 8 = .ok (.aload_n 0, 1) := by decide +kernel
theorem dX3_clear_9 : decode cX3_clear 9 = .ok (.getfield 21, 3) := by decide +kernel
theorem dX3_clear_12 : decode cX3_clear 12 = .ok (.iload_n 1, 1) := by decide +kernel
theorem dX3_clear_13 : decode cX3_clear 13 = .ok (.iconst 0, 1) := by decide +kernel
theorem dX3_clear_14 : decode cX3_clear 14 = .ok (.iastore, 1) := by decide +kernel
theorem dX3_clear_15 : decode cX3_clear 15 = .ok (.iinc 1 1, 3) := by decide +kernel
theorem dX3_clear_18 : decode cX3_clear 18 = .ok (.goto (-16), 3) := by decide +kernel
theorem dX3_clear_21 : decode cX3_clear 21 = .ok (.aload_n 0, 1) := by decide +kernel
theorem dX3_clear_22 : decode cX3_clear 22 = .ok (.iconst 0, 1) := by decide +kernel
theorem dX3_clear_23 : decode cX3_clear 23 = .ok (.putfield 24, 3) := by decide +kernel
theorem dX3_clear_26 : decode cX3_clear 26 = .ok (.aload_n 0, 1) := by decide +kernel
theorem dX3_clear_27 : decode cX3_clear 27 = .ok (.iconst 0, 1) := by decide +kernel
theorem dX3_clear_28 : decode cX3_clear 28 = .ok (.putfield 28, 3) := by decide +kernel
theorem dX3_clear_31 : decode cX3_clear 31 = .ok (.return_, 1) := by decide +kernel
theorem dX3_addFunction_0 : decode cX3_addFunction 0 = .ok (.iload_n 1, 1) := by decide +kernel
theorem dX3_addFunction_1 : decode cX3_addFunction 1 = .ok (.ifCond .lt 38, 3) := by decide +kernel
theorem dX3_addFunction_4 : decode cX3_addFunction 4 = .ok (.iload_n 1, 1) := by decide +kernel
theorem dX3_addFunction_5 : decode cX3_addFunction 5 = .ok (.bipush 6, 2) := by decide +kernel
theorem dX3_addFunction_7 : decode cX3_addFunction 7 = .ok (.if_icmp .ge 32, 3) := by decide +kernel
theorem dX3_addFunction_10 : decode cX3_addFunction 10 = .ok (.aload_n 0, 1) := by decide +kernel
theorem dX3_addFunction_11 : decode cX3_addFunction 11 = .ok (.getfield 18, 3) := by decide +kernel
theorem dX3_addFunction_14 : decode cX3_addFunction 14 = .ok (.iload_n 1, 1) := by decide +kernel
theorem dX3_addFunction_15 : decode cX3_addFunction 15 = .ok (.aload_n 0, 1) := by decide +kernel
theorem dX3_addFunction_16 : decode cX3_addFunction 16 = .ok (.getfield 24, 3) := by decide +kernel
theorem dX3_addFunction_19 : decode cX3_addFunction 19 = .ok (.iastore, 1) := by decide +kernel
theorem dX3_addFunction_20 : decode cX3_addFunction 20 = .ok (.aload_n 0, 1) := by decide +kernel
theorem dX3_addFunction_21 : decode cX3_addFunction 21 = .ok (.getfield 21, 3) := by decide +kernel
theorem dX3_addFunction_24 : decode cX3_addFunction 24 = .ok (.iload_n 1, 1) := by decide +kernel
theorem dX3_addFunction_25 : decode cX3_addFunction 25 = .ok (.iload_n 2, 1) := by decide +kernel
theorem dX3_addFunction_26 : decode cX3_addFunction 26 = .ok (.iconst 1, 1) := by decide +kernel
theorem dX3_addFunction_27 : decode cX3_addFunction 27 = .ok (.iadd, 1) := by decide +kernel
theorem dX3_addFunction_28 : decode cX3_addFunction 28 = .ok (.iastore, 1) := by decide +kernel
theorem dX3_addFunction_29 : decode cX3_addFunction 29 = .ok (.aload_n 0, 1) := by decide +kernel
theorem dX3_addFunction_30 : decode cX3_addFunction 30 = .ok (.dup, 1) := by decide +kernel
theorem dX3_addFunction_31 : decode cX3_addFunction 31 = .ok (.getfield 28, 3) := by decide +kernel
theorem dX3_addFunction_34 : decode cX3_addFunction 34 = .ok (.iconst 1, 1) := by decide +kernel
theorem dX3_addFunction_35 : decode cX3_addFunction 35 = .ok (.iadd, 1) := by decide +kernel
theorem dX3_addFunction_36 : decode cX3_addFunction 36 = .ok (.putfield 28, 3) := by decide +kernel
theorem dX3_addFunction_39 : decode cX3_addFunction 39 = .ok (.return_, 1) := by decide +kernel
theorem dX3_add_0 : decode cX3_add 0 = .ok (.aload_n 0, 1) := by decide +kernel
theorem dX3_add_1 : decode cX3_add 1 = .ok (.getfield 24, 3) := by decide +kernel
theorem dX3_add_4 : decode cX3_add 4 = .ok (.istore_n 3, 1) := by decide +kernel
theorem dX3_add_5 : decode cX3_add 5 = .ok (.iload_n 3, 1) := by decide +kernel
theorem dX3_add_6 : decode cX3_add 6 = .ok (.ifCond .lt 45, 3) := by decide +kernel
theorem dX3_add_9 : decode cX3_add 9 = .ok (.iload_n 3, 1) := by decide +kernel
theorem dX3_add_10 : decode cX3_add 10 = .ok (.aload_n 0, 1) := by decide +kernel
theorem dX3_add_11 : decode cX3_add 11 = .ok (.getfield 9, 3) := by decide +kernel
theorem dX3_add_14 : decode cX3_add 14 = .ok (.arraylength, 1) := by decide +kernel
theorem dX3_add_15 : decode cX3_add 15 = .ok (.if_icmp .ge 36, 3) := by decide +kernel
theorem dX3_add_18 : decode cX3_add 18 = .ok (.iload_n 3, 1) := by decide +kernel
theorem dX3_add_19 : decode cX3_add 19 = .ok (.aload_n 0, 1) := by decide +kernel
theorem dX3_add_20 : decode cX3_add 20 = .ok (.getfield 15, 3) := by decide +kernel
theorem dX3_add_23 : decode cX3_add 23 = .ok (.arraylength, 1) := by decide +kernel
theorem dX3_add_24 : decode cX3_add 24 = .ok (.if_icmp .ge 27, 3) := by decide +kernel
theorem dX3_add_27 : decode cX3_add 27 = .ok (.aload_n 0, 1) := by decide +kernel
theorem dX3_add_28 : decode cX3_add 28 = .ok (.getfield 9, 3) := by decide +kernel
theorem dX3_add_31 : decode cX3_add 31 = .ok (.iload_n 3, 1) := by decide +kernel
theorem dX3_add_32 : decode cX3_add 32 = .ok (.iload_n 1, 1) := by decide +kernel
theorem dX3_add_33 : decode cX3_add 33 = .ok (.iastore, 1) := by decide +kernel
theorem dX3_add_34 : decode cX3_add 34 = .ok (.aload_n 0, 1) := by decide +kernel
theorem dX3_add_35 : decode cX3_add 35 = .ok (.getfield 15, 3) := by decide +kernel
theorem dX3_add_38 : decode cX3_add 38 = .ok (.iload_n 3, 1) := by decide +kernel
theorem dX3_add_39 : decode cX3_add 39 = .ok (.iload_n 2, 1) := by decide +kernel
theorem dX3_add_40 : decode cX3_add 40 = .ok (.iastore, 1) := by decide +kernel
theorem dX3_add_41 : decode cX3_add 41 = .ok (.aload_n 0, 1) := by decide +kernel
theorem dX3_add_42 : decode cX3_add 42 = .ok (.dup, 1) := by decide +kernel
theorem dX3_add_43 : decode cX3_add 43 = .ok (.getfield 24, 3) := by decide +kernel
theorem dX3_add_46 : decode cX3_add 46 = .ok (.iconst 1, 1) := by decide +kernel
theorem dX3_add_47 : decode cX3_add 47 = .ok (.iadd, 1) := by decide +kernel
theorem dX3_add_48 : decode cX3_add 48 = .ok (.putfield 24, 3) := by decide +kernel
theorem dX3_add_51 : decode cX3_add 51 = .ok (.iload_n 3, 1) := by decide +kernel
theorem dX3_add_52 : decode cX3_add 52 = .ok (.ireturn, 1) := by decide +kernel
theorem dX3_aim_0 : decode cX3_aim 0 = .ok (.iload_n 1, 1) := by decide +kernel
theorem dX3_aim_1 : decode cX3_aim 1 = .ok (.ifCond .lt 22, 3) := by decide +kernel
theorem dX3_aim_4 : decode cX3_aim 4 = .ok (.iload_n 1, 1) := by decide +kernel
theorem dX3_aim_5 : decode cX3_aim 5 = .ok (.aload_n 0, 1) := by decide +kernel
theorem dX3_aim_6 : decode cX3_aim 6 = .ok (.getfield 15, 3) := by decide +kernel
theorem dX3_aim_9 : decode cX3_aim 9 = .ok (.arraylength, 1) := by decide +kernel
theorem dX3_aim_10 : decode cX3_aim 10 = .ok (.if_icmp .ge 13, 3) := by decide +kernel
theorem dX3_aim_13 : decode cX3_aim 13 = .ok (.aload_n 0, 1) := by decide +kernel
theorem dX3_aim_14 : decode cX3_aim 14 = .ok (.getfield 15, 3) := by decide +kernel
theorem dX3_aim_17 : decode cX3_aim 17 = .ok (.iload_n 1, 1) := by decide +kernel
theorem dX3_aim_18 : decode cX3_aim 18 = .ok (.aload_n 0, 1) := by decide +kernel
theorem dX3_aim_19 : decode cX3_aim 19 = .ok (.getfield 24, 3) := by decide +kernel
theorem dX3_aim_22 : decode cX3_aim 22 = .ok (.iastore, 1) := by decide +kernel
theorem dX3_aim_23 : decode cX3_aim 23 = .ok (.return_, 1) := by decide +kernel
theorem dX3_copy_0 : decode cX3_copy 0 = .ok (.iconst 0, 1) := by decide +kernel
theorem dX3_copy_1 : decode cX3_copy 1 = .ok (.istore_n 2, 1) := by decide +kernel
theorem dX3_copy_2 : decode cX3_copy 2 = .ok (.iload_n 2, 1) := by decide +kernel
theorem dX3_copy_3 : decode cX3_copy 3 = .ok (.sipush 160, 3) := by decide +kernel
theorem dX3_copy_6 : decode cX3_copy 6 = .ok (.if_icmp .ge 33, 3) := by decide +kernel
theorem dX3_copy_9 : decode cX3_copy 9 = .ok (.aload_n 0, 1) := by decide +kernel
theorem dX3_copy_10 : decode cX3_copy 10 = .ok (.getfield 9, 3) := by decide +kernel
theorem dX3_copy_13 : decode cX3_copy 13 = .ok (.iload_n 2, 1) := by decide +kernel
theorem dX3_copy_14 : decode cX3_copy 14 = .ok (.aload_n 1, 1) := by decide +kernel
theorem dX3_copy_15 : decode cX3_copy 15 = .ok (.getfield 9, 3) := by decide +kernel
theorem dX3_copy_18 : decode cX3_copy 18 = .ok (.iload_n 2, 1) := by decide +kernel
theorem dX3_copy_19 : decode cX3_copy 19 = .ok (.iaload, 1) := by decide +kernel
theorem dX3_copy_20 : decode cX3_copy 20 = .ok (.iastore, 1) := by decide +kernel
theorem dX3_copy_21 : decode cX3_copy 21 = .ok (.aload_n 0, 1) := by decide +kernel
theorem dX3_copy_22 : decode cX3_copy 22 = .ok (.getfield 15, 3) := by decide +kernel
theorem dX3_copy_25 : decode cX3_copy 25 = .ok (.iload_n 2, 1) := by decide +kernel
theorem dX3_copy_26 : decode cX3_copy 26 = .ok (.aload_n 1, 1) := by decide +kernel
theorem dX3_copy_27 : decode cX3_copy 27 = .ok (.getfield 15, 3) := by decide +kernel
theorem dX3_copy_30 : decode cX3_copy 30 = .ok (.iload_n 2, 1) := by decide +kernel
theorem dX3_copy_31 : decode cX3_copy 31 = .ok (.iaload, 1) := by decide +kernel
theorem dX3_copy_32 : decode cX3_copy 32 = .ok (.iastore, 1) := by decide +kernel
theorem dX3_copy_33 : decode cX3_copy 33 = .ok (.iinc 2 1, 3) := by decide +kernel
theorem dX3_copy_36 : decode cX3_copy 36 = .ok (.goto (-34), 3) := by decide +kernel
theorem dX3_copy_39 : decode cX3_copy 39 = .ok (.iconst 0, 1) := by decide +kernel
theorem dX3_copy_40 : decode cX3_copy 40 = .ok (.istore_n 2, 1) := by decide +kernel
theorem dX3_copy_41 : decode cX3_copy 41 = .ok (.iload_n 2, 1) := by decide +kernel
theorem dX3_copy_42 : decode cX3_copy 42 = .ok (.bipush 6, 2) := by decide +kernel
theorem dX3_copy_44 : decode cX3_copy 44 = .ok (.if_icmp .ge 33, 3) := by decide +kernel
theorem dX3_copy_47 : decode cX3_copy 47 = .ok (.aload_n 0, 1) := by decide +kernel
theorem dX3_copy_48 : decode cX3_copy 48 = .ok (.getfield 18, 3) := by decide +kernel
theorem dX3_copy_51 : decode cX3_copy 51 = .ok (.iload_n 2, 1) := by decide +kernel
theorem dX3_copy_52 : decode cX3_copy 52 = .ok (.aload_n 1, 1) := by decide +kernel
theorem dX3_copy_53 : decode cX3_copy 53 = .ok (.getfield 18, 3) := by decide +kernel
theorem dX3_copy_56 : decode cX3_copy 56 = .ok (.iload_n 2, 1) := by decide +kernel
theorem dX3_copy_57 : decode cX3_copy 57 = .ok (.iaload, 1) := by decide +kernel
theorem dX3_copy_58 : decode cX3_copy 58 = .ok (.iastore, 1) := by decide +kernel
theorem dX3_copy_59 : decode cX3_copy 59 = .ok (.aload_n 0, 1) := by decide +kernel
theorem dX3_copy_60 : decode cX3_copy 60 = .ok (.getfield 21, 3) := by decide +kernel
theorem dX3_copy_63 : decode cX3_copy 63 = .ok (.iload_n 2, 1) := by decide +kernel
theorem dX3_copy_64 : decode cX3_copy 64 = .ok (.aload_n 1, 1) := by decide +kernel
theorem dX3_copy_65 : decode cX3_copy 65 = .ok (.getfield 21, 3) := by decide +kernel
theorem dX3_copy_68 : decode cX3_copy 68 = .ok (.iload_n 2, 1) := by decide +kernel
theorem dX3_copy_69 : decode cX3_copy 69 = .ok (.iaload, 1) := by decide +kernel
theorem dX3_copy_70 : decode cX3_copy 70 = .ok (.iastore, 1) := by decide +kernel
theorem dX3_copy_71 : decode cX3_copy 71 = .ok (.iinc 2 1, 3) := by decide +kernel
theorem dX3_copy_74 : decode cX3_copy 74 = .ok (.goto (-33), 3) := by decide +kernel
theorem dX3_copy_77 : decode cX3_copy 77 = .ok (.aload_n 0, 1) := by decide +kernel
theorem dX3_copy_78 : decode cX3_copy 78 = .ok (.aload_n 1, 1) := by decide +kernel
theorem dX3_copy_79 : decode cX3_copy 79 = .ok (.getfield 24, 3) := by decide +kernel
theorem dX3_copy_82 : decode cX3_copy 82 = .ok (.putfield 24, 3) := by decide +kernel
theorem dX3_copy_85 : decode cX3_copy 85 = .ok (.aload_n 0, 1) := by decide +kernel
theorem dX3_copy_86 : decode cX3_copy 86 = .ok (.aload_n 1, 1) := by decide +kernel
theorem dX3_copy_87 : decode cX3_copy 87 = .ok (.getfield 28, 3) := by decide +kernel
theorem dX3_copy_90 : decode cX3_copy 90 = .ok (.putfield 28, 3) := by decide +kernel
theorem dX3_copy_93 : decode cX3_copy 93 = .ok (.return_, 1) := by decide +kernel
theorem dX4_init_0 : decode cX4_init 0 = .ok (.aload_n 0, 1) := by decide +kernel
theorem dX4_init_1 : decode cX4_init 1 = .ok (.invokespecial 3, 3) := by decide +kernel
theorem dX4_init_4 : decode cX4_init 4 = .ok (.aload_n 0, 1) := by decide +kernel
theorem dX4_init_5 : decode cX4_init 5 = .ok (.sipush 160, 3) := by decide +kernel
theorem dX4_init_8 : decode cX4_init 8 = .ok (.newarray .int, 2) := by decide +kernel
theorem dX4_init_10 : decode cX4_init 10 = .ok (.putfield 9, 3) := by decide +kernel
theorem dX4_init_13 : decode cX4_init 13 = .ok (.aload_n 0, 1) := by decide +kernel
theorem dX4_init_14 : decode cX4_init 14 = .ok (.iconst 0, 1) := by decide +kernel
theorem dX4_init_15 : decode cX4_init 15 = .ok (.putfield 15, 3) := by decide +kernel
theorem dX4_init_18 : decode cX4_init 18 = .ok (.return_, 1) := by decide +kernel
theorem dX4_length_0 : decode cX4_length 0 = .ok (.aload_n 0, 1) := by decide +kernel
theorem dX4_length_1 : decode cX4_length 1 = .ok (.getfield 15, 3) := by decide +kernel
theorem dX4_length_4 : decode cX4_length 4 = .ok (.ireturn, 1) := by decide +kernel
theorem dX4_at_0 : decode cX4_at 0 = .ok (.iload_n 1, 1) := by decide +kernel
theorem dX4_at_1 : decode cX4_at 1 = .ok (.ifCond .lt 29, 3) := by decide +kernel
theorem dX4_at_4 : decode cX4_at 4 = .ok (.iload_n 1, 1) := by decide +kernel
theorem dX4_at_5 : decode cX4_at 5 = .ok (.aload_n 0, 1) := by decide +kernel
theorem dX4_at_6 : decode cX4_at 6 = .ok (.getfield 15, 3) := by decide +kernel
theorem dX4_at_9 : decode cX4_at 9 = .ok (.if_icmp .ge 21, 3) := by decide +kernel
theorem dX4_at_12 : decode cX4_at 12 = .ok (.iload_n 1, 1) := by decide +kernel
theorem dX4_at_13 : decode cX4_at 13 = .ok (.aload_n 0, 1) := by decide +kernel
theorem dX4_at_14 : decode cX4_at 14 = .ok (.getfield 9, 3) := by decide +kernel
theorem dX4_at_17 : decode cX4_at 17 = .ok (.arraylength, 1) := by decide +kernel
theorem dX4_at_18 : decode cX4_at 18 = .ok (.if_icmp .ge 12, 3) := by decide +kernel
theorem dX4_at_21 : decode cX4_at 21 = .ok (.aload_n 0, 1) := by decide +kernel
theorem dX4_at_22 : decode cX4_at 22 = .ok (.getfield 9, 3) := by decide +kernel
theorem dX4_at_25 : decode cX4_at 25 = .ok (.iload_n 1, 1) := by decide +kernel
theorem dX4_at_26 : decode cX4_at 26 = .ok (.iaload, 1) := by decide +kernel
theorem dX4_at_27 : decode cX4_at 27 = .ok (.goto 4, 3) := by decide +kernel
theorem dX4_at_30 : decode cX4_at 30 = .ok (.iconst (-1), 1) := by decide +kernel
theorem dX4_at_31 : decode cX4_at 31 = .ok (.ireturn, 1) := by decide +kernel
theorem dX4_add_0 : decode cX4_add 0 = .ok (.aload_n 0, 1) := by decide +kernel
theorem dX4_add_1 : decode cX4_add 1 = .ok (.getfield 15, 3) := by decide +kernel
theorem dX4_add_4 : decode cX4_add 4 = .ok (.ifCond .lt 35, 3) := by decide +kernel
theorem dX4_add_7 : decode cX4_add 7 = .ok (.aload_n 0, 1) := by decide +kernel
theorem dX4_add_8 : decode cX4_add 8 = .ok (.getfield 15, 3) := by decide +kernel
theorem dX4_add_11 : decode cX4_add 11 = .ok (.aload_n 0, 1) := by decide +kernel
theorem dX4_add_12 : decode cX4_add 12 = .ok (.getfield 9, 3) := by decide +kernel
theorem dX4_add_15 : decode cX4_add 15 = .ok (.arraylength, 1) := by decide +kernel
theorem dX4_add_16 : decode cX4_add 16 = .ok (.if_icmp .ge 23, 3) := by decide +kernel
theorem dX4_add_19 : decode cX4_add 19 = .ok (.aload_n 0, 1) := by decide +kernel
theorem dX4_add_20 : decode cX4_add 20 = .ok (.getfield 9, 3) := by decide +kernel
theorem dX4_add_23 : decode cX4_add 23 = .ok (.aload_n 0, 1) := by decide +kernel
theorem dX4_add_24 : decode cX4_add 24 = .ok (.getfield 15, 3) := by decide +kernel
theorem dX4_add_27 : decode cX4_add 27 = .ok (.iload_n 1, 1) := by decide +kernel
theorem dX4_add_28 : decode cX4_add 28 = .ok (.iastore, 1) := by decide +kernel
theorem dX4_add_29 : decode cX4_add 29 = .ok (.aload_n 0, 1) := by decide +kernel
theorem dX4_add_30 : decode cX4_add 30 = .ok (.dup, 1) := by decide +kernel
theorem dX4_add_31 : decode cX4_add 31 = .ok (.getfield 15, 3) := by decide +kernel
theorem dX4_add_34 : decode cX4_add 34 = .ok (.iconst 1, 1) := by decide +kernel
theorem dX4_add_35 : decode cX4_add 35 = .ok (.iadd, 1) := by decide +kernel
theorem dX4_add_36 : decode cX4_add 36 = .ok (.putfield 15, 3) := by decide +kernel
theorem dX4_add_39 : decode cX4_add 39 = .ok (.return_, 1) := by decide +kernel
theorem dX4_clear_0 : decode cX4_clear 0 = .ok (.aload_n 0, 1) := by decide +kernel
theorem dX4_clear_1 : decode cX4_clear 1 = .ok (.iconst 0, 1) := by decide +kernel
theorem dX4_clear_2 : decode cX4_clear 2 = .ok (.putfield 15, 3) := by decide +kernel
theorem dX4_clear_5 : decode cX4_clear 5 = .ok (.return_, 1) := by decide +kernel
theorem dX5_init_0 : decode cX5_init 0 = .ok (.aload_n 0, 1) := by decide +kernel
theorem dX5_init_1 : decode cX5_init 1 = .ok (.invokespecial 1, 3) := by decide +kernel
theorem dX5_init_4 : decode cX5_init 4 = .ok (.aload_n 0, 1) := by decide +kernel
theorem dX5_init_5 : decode cX5_init 5 = .ok (.new 7, 3) := by decide +kernel
theorem dX5_init_8 : decode cX5_init 8 = .ok (.dup, 1) := by decide +kernel
theorem dX5_init_9 : decode cX5_init 9 = .ok (.invokespecial 9, 3) := by decide +kernel
theorem dX5_init_12 : decode cX5_init 12 = .ok (.putfield 10, 3) := by decide +kernel
theorem dX5_init_15 : decode cX5_init 15 = .ok (.aload_n 0, 1) := by decide +kernel
theorem dX5_init_16 : decode cX5_init 16 = .ok (.new 16, 3) := by decide +kernel
theorem dX5_init_19 : decode cX5_init 19 = .ok (.dup, 1) := by decide +kernel
theorem dX5_init_20 : decode cX5_init 20 = .ok (.invokespecial 18, 3) := by decide +kernel
theorem dX5_init_23 : decode cX5_init 23 = .ok (.putfield 19, 3) := by decide +kernel
theorem dX5_init_26 : decode cX5_init 26 = .ok (.aload_n 0, 1) := by decide +kernel
theorem dX5_init_27 : decode cX5_init 27 = .ok (.new 23, 3) := by decide +kernel
theorem dX5_init_30 : decode cX5_init 30 = .ok (.dup, 1) := by decide +kernel
theorem dX5_init_31 : decode cX5_init 31 = .ok (.invokespecial 25, 3) := by decide +kernel
theorem dX5_init_34 : decode cX5_init 34 = .ok (.putfield 26, 3) := by decide +kernel
theorem dX5_init_37 : decode cX5_init 37 = .ok (.aload_n 0, 1) := by decide +kernel
theorem dX5_init_38 : decode cX5_init 38 = .ok (.new 23, 3) := by decide +kernel
theorem dX5_init_41 : decode cX5_init 41 = .ok (.dup, 1) := by decide +kernel
theorem dX5_init_42 : decode cX5_init 42 = .ok (.invokespecial 25, 3) := by decide +kernel
theorem dX5_init_45 : decode cX5_init 45 = .ok (.putfield 30, 3) := by decide +kernel
theorem dX5_init_48 : decode cX5_init 48 = .ok (.aload_n 0, 1) := by decide +kernel
theorem dX5_init_49 : decode cX5_init 49 = .ok (.new 33, 3) := by decide +kernel
theorem dX5_init_52 : decode cX5_init 52 = .ok (.dup, 1) := by decide +kernel
theorem dX5_init_53 : decode cX5_init 53 = .ok (.aload_n 0, 1) := by decide +kernel
theorem dX5_init_54 : decode cX5_init 54 = .ok (.getfield 10, 3) := by decide +kernel
theorem dX5_init_57 : decode cX5_init 57 = .ok (.aload_n 0, 1) := by decide +kernel
theorem dX5_init_58 : decode cX5_init 58 = .ok (.getfield 30, 3) := by decide +kernel
theorem dX5_init_61 : decode cX5_init 61 = .ok (.invokespecial 35, 3) := by decide +kernel
theorem dX5_init_64 : decode cX5_init 64 = .ok (.putfield 38, 3) := by decide +kernel
theorem dX5_init_67 : decode cX5_init 67 = .ok (.aload_n 0, 1) := by decide +kernel
theorem dX5_init_68 : decode cX5_init 68 = .ok (.new 42, 3) := by decide +kernel
theorem dX5_init_71 : decode cX5_init 71 = .ok (.dup, 1) := by decide +kernel
theorem dX5_init_72 : decode cX5_init 72 = .ok (.aload_n 0, 1) := by decide +kernel
theorem dX5_init_73 : decode cX5_init 73 = .ok (.getfield 26, 3) := by decide +kernel
theorem dX5_init_76 : decode cX5_init 76 = .ok (.aload_n 0, 1) := by decide +kernel
theorem dX5_init_77 : decode cX5_init 77 = .ok (.getfield 19, 3) := by decide +kernel
theorem dX5_init_80 : decode cX5_init 80 = .ok (.invokespecial 44, 3) := by decide +kernel
theorem dX5_init_83 : decode cX5_init 83 = .ok (.putfield 47, 3) := by decide +kernel
theorem dX5_init_86 : decode cX5_init 86 = .ok (.return_, 1) := by decide +kernel
theorem dX5_words_0 : decode cX5_words 0 = .ok (.iload_n 2, 1) := by decide +kernel
theorem dX5_words_1 : decode cX5_words 1 = .ok (.iconst 1, 1) := by decide +kernel
theorem dX5_words_2 : decode cX5_words 2 = .ok (.if_icmp .lt 8, 3) := by decide +kernel
theorem dX5_words_5 : decode cX5_words 5 = .ok (.iload_n 2, 1) := by decide +kernel
theorem dX5_words_6 : decode cX5_words 6 = .ok (.iconst 4, 1) := by decide +kernel
theorem dX5_words_7 : decode cX5_words 7 = .ok (.if_icmp .le 13, 3) := by decide +kernel
theorem dX5_words_10 : decode cX5_words 10 = .ok (.new 51, 3) := by decide +kernel
theorem dX5_words_13 : decode cX5_words 13 = .ok (.dup, 1) := by decide +kernel
theorem dX5_words_14 : decode cX5_words 14 = .ok (.ldc 53, 2) := by decide +kernel
theorem dX5_words_16 : decode cX5_words 16 = .ok (.invokespecial 55, 3) := by decide +kernel
theorem dX5_words_19 : decode cX5_words 19 = .ok (.athrow, 1) := by decide +kernel
theorem dX5_words_20 : decode cX5_words 20 = .ok (.iconst 0, 1) := by decide +kernel
theorem dX5_words_21 : decode cX5_words 21 = .ok (.istore_n 3, 1) := by decide +kernel
theorem dX5_words_22 : decode cX5_words 22 = .ok (.iload_n 3, 1) := by decide +kernel
theorem dX5_words_23 : decode cX5_words 23 = .ok (.iload_n 2, 1) := by decide +kernel
theorem dX5_words_24 : decode cX5_words 24 = .ok (.if_icmp .ge 30, 3) := by decide +kernel
theorem dX5_words_27 : decode cX5_words 27 = .ok (.iload_n 1, 1) := by decide +kernel
theorem dX5_words_28 : decode cX5_words 28 = .ok (.iload_n 3, 1) := by decide +kernel
theorem dX5_words_29 : decode cX5_words 29 = .ok (.invokestatic 58, 3) := by decide +kernel
theorem dX5_words_32 : decode cX5_words 32 = .ok (.sipush 191, 3) := by decide +kernel
theorem dX5_words_35 : decode cX5_words 35 = .ok (.if_icmp .le 13, 3) := by decide +kernel
theorem dX5_words_38 : decode cX5_words 38 = .ok (.new 51, 3) := by decide +kernel
theorem dX5_words_41 : decode cX5_words 41 = .ok (.dup, 1) := by decide +kernel
theorem dX5_words_42 : decode cX5_words 42 = .ok (.ldc 62, 2) := by decide +kernel
theorem dX5_words_44 : decode cX5_words 44 = .ok (.invokespecial 55, 3) := by decide +kernel
theorem dX5_words_47 : decode cX5_words 47 = .ok (.athrow, 1) := by decide +kernel
theorem dX5_words_48 : decode cX5_words 48 = .ok (.iinc 3 1, 3) := by decide +kernel
theorem dX5_words_51 : decode cX5_words 51 = .ok (.goto (-29), 3) := by decide +kernel
theorem dX5_words_54 : decode cX5_words 54 = .ok (.aload_n 0, 1) := by decide +kernel
theorem dX5_words_55 : decode cX5_words 55 = .ok (.getfield 10, 3) := by decide +kernel
theorem dX5_words_58 : decode cX5_words 58 = .ok (.invokevirtual 64, 3) := by decide +kernel
theorem dX5_words_61 : decode cX5_words 61 = .ok (.iload_n 2, 1) := by decide +kernel
theorem dX5_words_62 : decode cX5_words 62 = .ok (.iadd, 1) := by decide +kernel
theorem dX5_words_63 : decode cX5_words 63 = .ok (.sipush 160, 3) := by decide +kernel
theorem dX5_words_66 : decode cX5_words 66 = .ok (.if_icmp .le 13, 3) := by decide +kernel
theorem dX5_words_69 : decode cX5_words 69 = .ok (.new 68, 3) := by decide +kernel
theorem dX5_words_72 : decode cX5_words 72 = .ok (.dup, 1) := by decide +kernel
theorem dX5_words_73 : decode cX5_words 73 = .ok (.ldc 70, 2) := by decide +kernel
theorem dX5_words_75 : decode cX5_words 75 = .ok (.invokespecial 72, 3) := by decide +kernel
theorem dX5_words_78 : decode cX5_words 78 = .ok (.athrow, 1) := by decide +kernel
theorem dX5_words_79 : decode cX5_words 79 = .ok (.iload_n 2, 1) := by decide +kernel
theorem dX5_words_80 : decode cX5_words 80 = .ok (.iconst 1, 1) := by decide +kernel
theorem dX5_words_81 : decode cX5_words 81 = .ok (.isub, 1) := by decide +kernel
theorem dX5_words_82 : decode cX5_words 82 = .ok (.istore_n 3, 1) := by decide +kernel
theorem dX5_words_83 : decode cX5_words 83 = .ok (.iload_n 3, 1) := by decide +kernel
theorem dX5_words_84 : decode cX5_words 84 = .ok (.ifCond .lt 21, 3) := by decide +kernel
theorem dX5_words_87 : decode cX5_words 87 = .ok (.aload_n 0, 1) := by decide +kernel
theorem dX5_words_88 : decode cX5_words 88 = .ok (.getfield 10, 3) := by decide +kernel
theorem dX5_words_91 : decode cX5_words 91 = .ok (.iload_n 1, 1) := by decide +kernel
theorem dX5_words_92 : decode cX5_words 92 = .ok (.iload_n 3, 1) := by decide +kernel
theorem dX5_words_93 : decode cX5_words 93 = .ok (.invokestatic 58, 3) := by decide +kernel
theorem dX5_words_96 : decode cX5_words 96 = .ok (.invokevirtual 73, 3) := by decide +kernel
theorem dX5_words_99 : decode cX5_words 99 = .ok (.iinc 3 (-1), 3) := by decide +kernel
theorem dX5_words_102 : decode cX5_words 102 = .ok (.goto (-19), 3) := by decide +kernel
theorem dX5_words_105 : decode cX5_words 105 = .ok (.aload_n 0, 1) := by decide +kernel
theorem dX5_words_106 : decode cX5_words 106 = .ok (.getfield 10, 3) := by decide +kernel
theorem dX5_words_109 : decode cX5_words 109 = .ok (.invokevirtual 64, 3) := by decide +kernel
theorem dX5_words_112 : decode cX5_words 112 = .ok (.ireturn, 1) := by decide +kernel
theorem dX5_compile_0 : decode cX5_compile 0 = .ok (.aload_n 0, 1) := by decide +kernel
theorem dX5_compile_1 : decode cX5_compile 1 = .ok (.getfield 38, 3) := by decide +kernel
theorem dX5_compile_4 : decode cX5_compile 4 = .ok (.invokevirtual 77, 3) := by decide +kernel
theorem dX5_compile_7 : decode cX5_compile 7 = .ok (.istore_n 1, 1) := by decide +kernel
theorem dX5_compile_8 : decode cX5_compile 8 = .ok (.aload_n 0, 1) := by decide +kernel
theorem dX5_compile_9 : decode cX5_compile 9 = .ok (.getfield 10, 3) := by decide +kernel
theorem dX5_compile_12 : decode cX5_compile 12 = .ok (.invokevirtual 80, 3) := by decide +kernel
theorem dX5_compile_15 : decode cX5_compile 15 = .ok (.iload_n 1, 1) := by decide +kernel
theorem dX5_compile_16 : decode cX5_compile 16 = .ok (.ifCond .eq 5, 3) := by decide +kernel
theorem dX5_compile_19 : decode cX5_compile 19 = .ok (.iload_n 1, 1) := by decide +kernel
theorem dX5_compile_20 : decode cX5_compile 20 = .ok (.ireturn, 1) := by decide +kernel
theorem dX5_compile_21 : decode cX5_compile 21 = .ok (.aload_n 0, 1) := by decide +kernel
theorem dX5_compile_22 : decode cX5_compile 22 = .ok (.getfield 26, 3) := by decide +kernel
theorem dX5_compile_25 : decode cX5_compile 25 = .ok (.aload_n 0, 1) := by decide +kernel
theorem dX5_compile_26 : decode cX5_compile 26 = .ok (.getfield 30, 3) := by decide +kernel
theorem dX5_compile_29 : decode cX5_compile 29 = .ok (.invokevirtual 83, 3) := by decide +kernel
theorem dX5_compile_32 : decode cX5_compile 32 = .ok (.aload_n 0, 1) := by decide +kernel
theorem dX5_compile_33 : decode cX5_compile 33 = .ok (.getfield 47, 3) := by decide +kernel
theorem dX5_compile_36 : decode cX5_compile 36 = .ok (.invokevirtual 87, 3) := by decide +kernel
theorem dX5_compile_39 : decode cX5_compile 39 = .ok (.aload_n 0, 1) := by decide +kernel
theorem dX5_compile_40 : decode cX5_compile 40 = .ok (.getfield 26, 3) := by decide +kernel
theorem dX5_compile_43 : decode cX5_compile 43 = .ok (.invokevirtual 88, 3) := by decide +kernel
theorem dX5_compile_46 : decode cX5_compile 46 = .ok (.ireturn, 1) := by decide +kernel
theorem dX5_start_0 : decode cX5_start 0 = .ok (.aload_n 0, 1) := by decide +kernel
theorem dX5_start_1 : decode cX5_start 1 = .ok (.getfield 26, 3) := by decide +kernel
theorem dX5_start_4 : decode cX5_start 4 = .ok (.invokevirtual 88, 3) := by decide +kernel
theorem dX5_start_7 : decode cX5_start 7 = .ok (.ifCond .ne 13, 3) := by decide +kernel
theorem dX5_start_10 : decode cX5_start 10 = .ok (.new 68, 3) := by decide +kernel
theorem dX5_start_13 : decode cX5_start 13 = .ok (.dup, 1) := by decide +kernel
theorem dX5_start_14 : decode cX5_start 14 = .ok (.ldc 91, 2) := by decide +kernel
theorem dX5_start_16 : decode cX5_start 16 = .ok (.invokespecial 72, 3) := by decide +kernel
theorem dX5_start_19 : decode cX5_start 19 = .ok (.athrow, 1) := by decide +kernel
theorem dX5_start_20 : decode cX5_start 20 = .ok (.aload_n 0, 1) := by decide +kernel
theorem dX5_start_21 : decode cX5_start 21 = .ok (.getfield 47, 3) := by decide +kernel
theorem dX5_start_24 : decode cX5_start 24 = .ok (.invokevirtual 93, 3) := by decide +kernel
theorem dX5_start_27 : decode cX5_start 27 = .ok (.iconst 1, 1) := by decide +kernel
theorem dX5_start_28 : decode cX5_start 28 = .ok (.ireturn, 1) := by decide +kernel
theorem dX5_key_0 : decode cX5_key 0 = .ok (.iload_n 1, 1) := by decide +kernel
theorem dX5_key_1 : decode cX5_key 1 = .ok (.sipush (-32768), 3) := by decide +kernel
theorem dX5_key_4 : decode cX5_key 4 = .ok (.if_icmp .lt 10, 3) := by decide +kernel
theorem dX5_key_7 : decode cX5_key 7 = .ok (.iload_n 1, 1) := by decide +kernel
theorem dX5_key_8 : decode cX5_key 8 = .ok (.sipush 32767, 3) := by decide +kernel
theorem dX5_key_11 : decode cX5_key 11 = .ok (.if_icmp .le 13, 3) := by decide +kernel
theorem dX5_key_14 : decode cX5_key 14 = .ok (.new 51, 3) := by decide +kernel
theorem dX5_key_17 : decode cX5_key 17 = .ok (.dup, 1) := by decide +kernel
theorem dX5_key_18 : decode cX5_key 18 = .ok (.ldc 96, 2) := by decide +kernel
theorem dX5_key_20 : decode cX5_key 20 = .ok (.invokespecial 55, 3) := by decide +kernel
theorem dX5_key_23 : decode cX5_key 23 = .ok (.athrow, 1) := by decide +kernel
theorem dX5_key_24 : decode cX5_key 24 = .ok (.aload_n 0, 1) := by decide +kernel
theorem dX5_key_25 : decode cX5_key 25 = .ok (.getfield 19, 3) := by decide +kernel
theorem dX5_key_28 : decode cX5_key 28 = .ok (.invokevirtual 98, 3) := by decide +kernel
theorem dX5_key_31 : decode cX5_key 31 = .ok (.ifCond .eq 13, 3) := by decide +kernel
theorem dX5_key_34 : decode cX5_key 34 = .ok (.new 68, 3) := by decide +kernel
theorem dX5_key_37 : decode cX5_key 37 = .ok (.dup, 1) := by decide +kernel
theorem dX5_key_38 : decode cX5_key 38 = .ok (.ldc 102, 2) := by decide +kernel
theorem dX5_key_40 : decode cX5_key 40 = .ok (.invokespecial 72, 3) := by decide +kernel
theorem dX5_key_43 : decode cX5_key 43 = .ok (.athrow, 1) := by decide +kernel
theorem dX5_key_44 : decode cX5_key 44 = .ok (.aload_n 0, 1) := by decide +kernel
theorem dX5_key_45 : decode cX5_key 45 = .ok (.getfield 19, 3) := by decide +kernel
theorem dX5_key_48 : decode cX5_key 48 = .ok (.iload_n 1, 1) := by decide +kernel
theorem dX5_key_49 : decode cX5_key 49 = .ok (.invokevirtual 104, 3) := by decide +kernel
theorem dX5_key_52 : decode cX5_key 52 = .ok (.aload_n 0, 1) := by decide +kernel
theorem dX5_key_53 : decode cX5_key 53 = .ok (.getfield 19, 3) := by decide +kernel
theorem dX5_key_56 : decode cX5_key 56 = .ok (.invokevirtual 105, 3) := by decide +kernel
theorem dX5_key_59 : decode cX5_key 59 = .ok (.ireturn, 1) := by decide +kernel
theorem dX5_run_0 : decode cX5_run 0 = .ok (.iload_n 1, 1) := by decide +kernel
theorem dX5_run_1 : decode cX5_run 1 = .ok (.iconst 1, 1) := by decide +kernel
theorem dX5_run_2 : decode cX5_run 2 = .ok (.if_icmp .lt 10, 3) := by decide +kernel
theorem dX5_run_5 : decode cX5_run 5 = .ok (.iload_n 1, 1) := by decide +kernel
theorem dX5_run_6 : decode cX5_run 6 = .ok (.sipush 200, 3) := by decide +kernel
theorem dX5_run_9 : decode cX5_run 9 = .ok (.if_icmp .le 13, 3) := by decide +kernel
theorem dX5_run_12 : decode cX5_run 12 = .ok (.new 51, 3) := by decide +kernel
theorem dX5_run_15 : decode cX5_run 15 = .ok (.dup, 1) := by decide +kernel
theorem dX5_run_16 : decode cX5_run 16 = .ok (.ldc 108, 2) := by decide +kernel
theorem dX5_run_18 : decode cX5_run 18 = .ok (.invokespecial 55, 3) := by decide +kernel
theorem dX5_run_21 : decode cX5_run 21 = .ok (.athrow, 1) := by decide +kernel
theorem dX5_run_22 : decode cX5_run 22 = .ok (.aload_n 0, 1) := by decide +kernel
theorem dX5_run_23 : decode cX5_run 23 = .ok (.getfield 47, 3) := by decide +kernel
theorem dX5_run_26 : decode cX5_run 26 = .ok (.invokevirtual 110, 3) := by decide +kernel
theorem dX5_run_29 : decode cX5_run 29 = .ok (.ifCond .ne 13, 3) := by decide +kernel
theorem dX5_run_32 : decode cX5_run 32 = .ok (.new 68, 3) := by decide +kernel
theorem dX5_run_35 : decode cX5_run 35 = .ok (.dup, 1) := by decide +kernel
theorem dX5_run_36 : decode cX5_run 36 = .ok (.ldc 113, 2) := by decide +kernel
theorem dX5_run_38 : decode cX5_run 38 = .ok (.invokespecial 72, 3) := by decide +kernel
theorem dX5_run_41 : decode cX5_run 41 = .ok (.athrow, 1) := by decide +kernel
theorem dX5_run_42 : decode cX5_run 42 = .ok (.aload_n 0, 1) := by decide +kernel
theorem dX5_run_43 : decode cX5_run 43 = .ok (.getfield 47, 3) := by decide +kernel
theorem dX5_run_46 : decode cX5_run 46 = .ok (.iload_n 1, 1) := by decide +kernel
theorem dX5_run_47 : decode cX5_run 47 = .ok (.invokevirtual 115, 3) := by decide +kernel
theorem dX5_run_50 : decode cX5_run 50 = .ok (.ireturn, 1) := by decide +kernel
theorem dX5_shown_0 : decode cX5_shown 0 = .ok (.aload_n 0, 1) := by decide +kernel
theorem dX5_shown_1 : decode cX5_shown 1 = .ok (.getfield 47, 3) := by decide +kernel
theorem dX5_shown_4 : decode cX5_shown 4 = .ok (.iload_n 1, 1) := by decide +kernel
theorem dX5_shown_5 : decode cX5_shown 5 = .ok (.invokevirtual 119, 3) := by decide +kernel
theorem dX5_shown_8 : decode cX5_shown 8 = .ok (.ifCond .ne 13, 3) := by decide +kernel
theorem dX5_shown_11 : decode cX5_shown 11 = .ok (.new 123, 3) := by decide +kernel
theorem dX5_shown_14 : decode cX5_shown 14 = .ok (.dup, 1) := by decide +kernel
theorem dX5_shown_15 : decode cX5_shown 15 = .ok (.ldc 125, 2) := by decide +kernel
theorem dX5_shown_17 : decode cX5_shown 17 = .ok (.invokespecial 127, 3) := by decide +kernel
theorem dX5_shown_20 : decode cX5_shown 20 = .ok (.athrow, 1) := by decide +kernel
theorem dX5_shown_21 : decode cX5_shown 21 = .ok (.aload_n 0, 1) := by decide +kernel
theorem dX5_shown_22 : decode cX5_shown 22 = .ok (.getfield 47, 3) := by decide +kernel
theorem dX5_shown_25 : decode cX5_shown 25 = .ok (.iload_n 1, 1) := by decide +kernel
theorem dX5_shown_26 : decode cX5_shown 26 = .ok (.invokevirtual 128, 3) := by decide +kernel
theorem dX5_shown_29 : decode cX5_shown 29 = .ok (.ireturn, 1) := by decide +kernel
theorem dX5_global_0 : decode cX5_global 0 = .ok (.iload_n 1, 1) := by decide +kernel
theorem dX5_global_1 : decode cX5_global 1 = .ok (.ifCond .lt 9, 3) := by decide +kernel
theorem dX5_global_4 : decode cX5_global 4 = .ok (.iload_n 1, 1) := by decide +kernel
theorem dX5_global_5 : decode cX5_global 5 = .ok (.bipush 8, 2) := by decide +kernel
theorem dX5_global_7 : decode cX5_global 7 = .ok (.if_icmp .lt 13, 3) := by decide +kernel
theorem dX5_global_10 : decode cX5_global 10 = .ok (.new 123, 3) := by decide +kernel
theorem dX5_global_13 : decode cX5_global 13 = .ok (.dup, 1) := by decide +kernel
theorem dX5_global_14 : decode cX5_global 14 = .ok (.ldc 131, 2) := by decide +kernel
theorem dX5_global_16 : decode cX5_global 16 = .ok (.invokespecial 127, 3) := by decide +kernel
theorem dX5_global_19 : decode cX5_global 19 = .ok (.athrow, 1) := by decide +kernel
theorem dX5_global_20 : decode cX5_global 20 = .ok (.aload_n 0, 1) := by decide +kernel
theorem dX5_global_21 : decode cX5_global 21 = .ok (.getfield 47, 3) := by decide +kernel
theorem dX5_global_24 : decode cX5_global 24 = .ok (.iload_n 1, 1) := by decide +kernel
theorem dX5_global_25 : decode cX5_global 25 = .ok (.invokevirtual 133, 3) := by decide +kernel
theorem dX5_global_28 : decode cX5_global 28 = .ok (.ireturn, 1) := by decide +kernel
theorem dX5_array_0 : decode cX5_array 0 = .ok (.iload_n 1, 1) := by decide +kernel
theorem dX5_array_1 : decode cX5_array 1 = .ok (.ifCond .lt 18, 3) := by decide +kernel
theorem dX5_array_4 : decode cX5_array 4 = .ok (.iload_n 1, 1) := by decide +kernel
theorem dX5_array_5 : decode cX5_array 5 = .ok (.iconst 4, 1) := by decide +kernel
theorem dX5_array_6 : decode cX5_array 6 = .ok (.if_icmp .ge 13, 3) := by decide +kernel
theorem dX5_array_9 : decode cX5_array 9 = .ok (.iload_n 2, 1) := by decide +kernel
theorem dX5_array_10 : decode cX5_array 10 = .ok (.ifCond .lt 9, 3) := by decide +kernel
theorem dX5_array_13 : decode cX5_array 13 = .ok (.iload_n 2, 1) := by decide +kernel
theorem dX5_array_14 : decode cX5_array 14 = .ok (.bipush 8, 2) := by decide +kernel
theorem dX5_array_16 : decode cX5_array 16 = .ok (.if_icmp .lt 13, 3) := by decide +kernel
theorem dX5_array_19 : decode cX5_array 19 = .ok (.new 123, 3) := by decide +kernel
theorem dX5_array_22 : decode cX5_array 22 = .ok (.dup, 1) := by decide +kernel
theorem dX5_array_23 : decode cX5_array 23 = .ok (.ldc 136, 2) := by decide +kernel
theorem dX5_array_25 : decode cX5_array 25 = .ok (.invokespecial 127, 3) := by decide +kernel
theorem dX5_array_28 : decode cX5_array 28 = .ok (.athrow, 1) := by decide +kernel
theorem dX5_array_29 : decode cX5_array 29 = .ok (.aload_n 0, 1) := by decide +kernel
theorem dX5_array_30 : decode cX5_array 30 = .ok (.getfield 47, 3) := by decide +kernel
theorem dX5_array_33 : decode cX5_array 33 = .ok (.iload_n 1, 1) := by decide +kernel
theorem dX5_array_34 : decode cX5_array 34 = .ok (.iload_n 2, 1) := by decide +kernel
theorem dX5_array_35 : decode cX5_array 35 = .ok (.invokevirtual 138, 3) := by decide +kernel
theorem dX5_array_38 : decode cX5_array 38 = .ok (.ireturn, 1) := by decide +kernel
theorem dX5_about_0 : decode cX5_about 0 = .ok (.iload_n 1, 1) := by decide +kernel
theorem dX5_about_1 : decode cX5_about 1 = .ok (.tableswitch 99 0 6 #[43, 51, 59, 67, 75, 83, 91], 43) := by decide +kernel
theorem dX5_about_44 : decode cX5_about 44 = .ok (.aload_n 0, 1) := by decide +kernel
theorem dX5_about_45 : decode cX5_about 45 = .ok (.getfield 47, 3) := by decide +kernel
theorem dX5_about_48 : decode cX5_about 48 = .ok (.invokevirtual 110, 3) := by decide +kernel
theorem dX5_about_51 : decode cX5_about 51 = .ok (.ireturn, 1) := by decide +kernel
theorem dX5_about_52 : decode cX5_about 52 = .ok (.aload_n 0, 1) := by decide +kernel
theorem dX5_about_53 : decode cX5_about 53 = .ok (.getfield 10, 3) := by decide +kernel
theorem dX5_about_56 : decode cX5_about 56 = .ok (.invokevirtual 64, 3) := by decide +kernel
theorem dX5_about_59 : decode cX5_about 59 = .ok (.ireturn, 1) := by decide +kernel
theorem dX5_about_60 : decode cX5_about 60 = .ok (.aload_n 0, 1) := by decide +kernel
theorem dX5_about_61 : decode cX5_about 61 = .ok (.getfield 26, 3) := by decide +kernel
theorem dX5_about_64 : decode cX5_about 64 = .ok (.invokevirtual 88, 3) := by decide +kernel
theorem dX5_about_67 : decode cX5_about 67 = .ok (.ireturn, 1) := by decide +kernel
theorem dX5_about_68 : decode cX5_about 68 = .ok (.aload_n 0, 1) := by decide +kernel
theorem dX5_about_69 : decode cX5_about 69 = .ok (.getfield 47, 3) := by decide +kernel
theorem dX5_about_72 : decode cX5_about 72 = .ok (.invokevirtual 141, 3) := by decide +kernel
theorem dX5_about_75 : decode cX5_about 75 = .ok (.ireturn, 1) := by decide +kernel
theorem dX5_about_76 : decode cX5_about 76 = .ok (.aload_n 0, 1) := by decide +kernel
theorem dX5_about_77 : decode cX5_about 77 = .ok (.getfield 47, 3) := by decide +kernel
theorem dX5_about_80 : decode cX5_about 80 = .ok (.invokevirtual 144, 3) := by decide +kernel
theorem dX5_about_83 : decode cX5_about 83 = .ok (.ireturn, 1) := by decide +kernel
theorem dX5_about_84 : decode cX5_about 84 = .ok (.aload_n 0, 1) := by decide +kernel
theorem dX5_about_85 : decode cX5_about 85 = .ok (.getfield 19, 3) := by decide +kernel
theorem dX5_about_88 : decode cX5_about 88 = .ok (.invokevirtual 105, 3) := by decide +kernel
theorem dX5_about_91 : decode cX5_about 91 = .ok (.ireturn, 1) := by decide +kernel
theorem dX5_about_92 : decode cX5_about 92 = .ok (.aload_n 0, 1) := by decide +kernel
theorem dX5_about_93 : decode cX5_about 93 = .ok (.getfield 47, 3) := by decide +kernel
theorem dX5_about_96 : decode cX5_about 96 = .ok (.invokevirtual 147, 3) := by decide +kernel
theorem dX5_about_99 : decode cX5_about 99 = .ok (.ireturn, 1) := by decide +kernel
theorem dX5_about_100 : decode cX5_about 100 = .ok (.iconst (-1), 1) := by decide +kernel
theorem dX5_about_101 : decode cX5_about 101 = .ok (.ireturn, 1) := by decide +kernel
theorem dX5_byteOf_0 : decode cX5_byteOf 0 = .ok (.iload_n 0, 1) := by decide +kernel
theorem dX5_byteOf_1 : decode cX5_byteOf 1 = .ok (.bipush 8, 2) := by decide +kernel
theorem dX5_byteOf_3 : decode cX5_byteOf 3 = .ok (.iload_n 1, 1) := by decide +kernel
theorem dX5_byteOf_4 : decode cX5_byteOf 4 = .ok (.imul, 1) := by decide +kernel
theorem dX5_byteOf_5 : decode cX5_byteOf 5 = .ok (.iushr, 1) := by decide +kernel
theorem dX5_byteOf_6 : decode cX5_byteOf 6 = .ok (.sipush 255, 3) := by decide +kernel
theorem dX5_byteOf_9 : decode cX5_byteOf 9 = .ok (.iand, 1) := by decide +kernel
theorem dX5_byteOf_10 : decode cX5_byteOf 10 = .ok (.ireturn, 1) := by decide +kernel
theorem dL_words_0 : decode cL_words 0 = .ok (.aload_n 3, 1) := by decide +kernel
theorem dL_words_1 : decode cL_words 1 = .ok (.iconst 0, 1) := by decide +kernel
theorem dL_words_2 : decode cL_words 2 = .ok (.aload_n 0, 1) := by decide +kernel
theorem dL_words_3 : decode cL_words 3 = .ok (.iload_n 1, 1) := by decide +kernel
theorem dL_words_4 : decode cL_words 4 = .ok (.iload_n 2, 1) := by decide +kernel
theorem dL_words_5 : decode cL_words 5 = .ok (.invokevirtual 7, 3) := by decide +kernel
theorem dL_words_8 : decode cL_words 8 = .ok (.i2l, 1) := by decide +kernel
theorem dL_words_9 : decode cL_words 9 = .ok (.lastore, 1) := by decide +kernel
theorem dL_words_10 : decode cL_words 10 = .ok (.goto 11, 3) := by decide +kernel
theorem dL_words_13 : decode cL_words 13 = .ok (.astore 4, 2) := by decide +kernel
theorem dL_words_15 : decode cL_words 15 = .ok (.iconst 1, 1) := by decide +kernel
theorem dL_words_16 : decode cL_words 16 = .ok (.ireturn, 1) := by decide +kernel
theorem dL_words_17 : decode cL_words 17 = .ok (.astore 4, 2) := by decide +kernel
theorem dL_words_19 : decode cL_words 19 = .ok (.iconst 2, 1) := by decide +kernel
theorem dL_words_20 : decode cL_words 20 = .ok (.ireturn, 1) := by decide +kernel
theorem dL_words_21 : decode cL_words 21 = .ok (.iconst 0, 1) := by decide +kernel
theorem dL_words_22 : decode cL_words 22 = .ok (.ireturn, 1) := by decide +kernel
theorem dL_start_0 : decode cL_start 0 = .ok (.aload_n 1, 1) := by decide +kernel
theorem dL_start_1 : decode cL_start 1 = .ok (.iconst 0, 1) := by decide +kernel
theorem dL_start_2 : decode cL_start 2 = .ok (.aload_n 0, 1) := by decide +kernel
theorem dL_start_3 : decode cL_start 3 = .ok (.invokevirtual 17, 3) := by decide +kernel
theorem dL_start_6 : decode cL_start 6 = .ok (.ifCond .eq 7, 3) := by decide +kernel
theorem dL_start_9 : decode cL_start 9 = .ok (.lconst 1, 1) := by decide +kernel
theorem dL_start_10 : decode cL_start 10 = .ok (.goto 4, 3) := by decide +kernel
theorem dL_start_13 : decode cL_start 13 = .ok (.lconst 0, 1) := by decide +kernel
theorem dL_start_14 : decode cL_start 14 = .ok (.lastore, 1) := by decide +kernel
theorem dL_start_15 : decode cL_start 15 = .ok (.goto 6, 3) := by decide +kernel
theorem dL_start_18 : decode cL_start 18 = .ok (.astore_n 2, 1) := by decide +kernel
theorem dL_start_19 : decode cL_start 19 = .ok (.iconst 1, 1) := by decide +kernel
theorem dL_start_20 : decode cL_start 20 = .ok (.ireturn, 1) := by decide +kernel
theorem dL_start_21 : decode cL_start 21 = .ok (.iconst 0, 1) := by decide +kernel
theorem dL_start_22 : decode cL_start 22 = .ok (.ireturn, 1) := by decide +kernel
theorem dL_key_0 : decode cL_key 0 = .ok (.aload_n 2, 1) := by decide +kernel
theorem dL_key_1 : decode cL_key 1 = .ok (.iconst 0, 1) := by decide +kernel
theorem dL_key_2 : decode cL_key 2 = .ok (.aload_n 0, 1) := by decide +kernel
theorem dL_key_3 : decode cL_key 3 = .ok (.iload_n 1, 1) := by decide +kernel
theorem dL_key_4 : decode cL_key 4 = .ok (.invokevirtual 21, 3) := by decide +kernel
theorem dL_key_7 : decode cL_key 7 = .ok (.i2l, 1) := by decide +kernel
theorem dL_key_8 : decode cL_key 8 = .ok (.lastore, 1) := by decide +kernel
theorem dL_key_9 : decode cL_key 9 = .ok (.goto 9, 3) := by decide +kernel
theorem dL_key_12 : decode cL_key 12 = .ok (.astore_n 3, 1) := by decide +kernel
theorem dL_key_13 : decode cL_key 13 = .ok (.iconst 1, 1) := by decide +kernel
theorem dL_key_14 : decode cL_key 14 = .ok (.ireturn, 1) := by decide +kernel
theorem dL_key_15 : decode cL_key 15 = .ok (.astore_n 3, 1) := by decide +kernel
theorem dL_key_16 : decode cL_key 16 = .ok (.iconst 2, 1) := by decide +kernel
theorem dL_key_17 : decode cL_key 17 = .ok (.ireturn, 1) := by decide +kernel
theorem dL_key_18 : decode cL_key 18 = .ok (.iconst 0, 1) := by decide +kernel
theorem dL_key_19 : decode cL_key 19 = .ok (.ireturn, 1) := by decide +kernel
theorem dL_run_0 : decode cL_run 0 = .ok (.aload_n 2, 1) := by decide +kernel
theorem dL_run_1 : decode cL_run 1 = .ok (.iconst 0, 1) := by decide +kernel
theorem dL_run_2 : decode cL_run 2 = .ok (.aload_n 0, 1) := by decide +kernel
theorem dL_run_3 : decode cL_run 3 = .ok (.iload_n 1, 1) := by decide +kernel
theorem dL_run_4 : decode cL_run 4 = .ok (.invokevirtual 25, 3) := by decide +kernel
theorem dL_run_7 : decode cL_run 7 = .ok (.i2l, 1) := by decide +kernel
theorem dL_run_8 : decode cL_run 8 = .ok (.lastore, 1) := by decide +kernel
theorem dL_run_9 : decode cL_run 9 = .ok (.goto 9, 3) := by decide +kernel
theorem dL_run_12 : decode cL_run 12 = .ok (.astore_n 3, 1) := by decide +kernel
theorem dL_run_13 : decode cL_run 13 = .ok (.iconst 1, 1) := by decide +kernel
theorem dL_run_14 : decode cL_run 14 = .ok (.ireturn, 1) := by decide +kernel
theorem dL_run_15 : decode cL_run 15 = .ok (.astore_n 3, 1) := by decide +kernel
theorem dL_run_16 : decode cL_run 16 = .ok (.iconst 2, 1) := by decide +kernel
theorem dL_run_17 : decode cL_run 17 = .ok (.ireturn, 1) := by decide +kernel
theorem dL_run_18 : decode cL_run 18 = .ok (.iconst 0, 1) := by decide +kernel
theorem dL_run_19 : decode cL_run 19 = .ok (.ireturn, 1) := by decide +kernel
theorem dL_shown_0 : decode cL_shown 0 = .ok (.aload_n 2, 1) := by decide +kernel
theorem dL_shown_1 : decode cL_shown 1 = .ok (.iconst 0, 1) := by decide +kernel
theorem dL_shown_2 : decode cL_shown 2 = .ok (.aload_n 0, 1) := by decide +kernel
theorem dL_shown_3 : decode cL_shown 3 = .ok (.iload_n 1, 1) := by decide +kernel
theorem dL_shown_4 : decode cL_shown 4 = .ok (.invokevirtual 28, 3) := by decide +kernel
theorem dL_shown_7 : decode cL_shown 7 = .ok (.i2l, 1) := by decide +kernel
theorem dL_shown_8 : decode cL_shown 8 = .ok (.lastore, 1) := by decide +kernel
theorem dL_shown_9 : decode cL_shown 9 = .ok (.goto 6, 3) := by decide +kernel
theorem dL_shown_12 : decode cL_shown 12 = .ok (.astore_n 3, 1) := by decide +kernel
theorem dL_shown_13 : decode cL_shown 13 = .ok (.iconst 1, 1) := by decide +kernel
theorem dL_shown_14 : decode cL_shown 14 = .ok (.ireturn, 1) := by decide +kernel
theorem dL_shown_15 : decode cL_shown 15 = .ok (.iconst 0, 1) := by decide +kernel
theorem dL_shown_16 : decode cL_shown 16 = .ok (.ireturn, 1) := by decide +kernel
theorem dL_global_0 : decode cL_global 0 = .ok (.aload_n 2, 1) := by decide +kernel
theorem dL_global_1 : decode cL_global 1 = .ok (.iconst 0, 1) := by decide +kernel
theorem dL_global_2 : decode cL_global 2 = .ok (.aload_n 0, 1) := by decide +kernel
theorem dL_global_3 : decode cL_global 3 = .ok (.iload_n 1, 1) := by decide +kernel
theorem dL_global_4 : decode cL_global 4 = .ok (.invokevirtual 33, 3) := by decide +kernel
theorem dL_global_7 : decode cL_global 7 = .ok (.i2l, 1) := by decide +kernel
theorem dL_global_8 : decode cL_global 8 = .ok (.lastore, 1) := by decide +kernel
theorem dL_global_9 : decode cL_global 9 = .ok (.goto 6, 3) := by decide +kernel
theorem dL_global_12 : decode cL_global 12 = .ok (.astore_n 3, 1) := by decide +kernel
theorem dL_global_13 : decode cL_global 13 = .ok (.iconst 1, 1) := by decide +kernel
theorem dL_global_14 : decode cL_global 14 = .ok (.ireturn, 1) := by decide +kernel
theorem dL_global_15 : decode cL_global 15 = .ok (.iconst 0, 1) := by decide +kernel
theorem dL_global_16 : decode cL_global 16 = .ok (.ireturn, 1) := by decide +kernel
theorem dL_array_0 : decode cL_array 0 = .ok (.aload_n 3, 1) := by decide +kernel
theorem dL_array_1 : decode cL_array 1 = .ok (.iconst 0, 1) := by decide +kernel
theorem dL_array_2 : decode cL_array 2 = .ok (.aload_n 0, 1) := by decide +kernel
theorem dL_array_3 : decode cL_array 3 = .ok (.iload_n 1, 1) := by decide +kernel
theorem dL_array_4 : decode cL_array 4 = .ok (.iload_n 2, 1) := by decide +kernel
theorem dL_array_5 : decode cL_array 5 = .ok (.invokevirtual 36, 3) := by decide +kernel
theorem dL_array_8 : decode cL_array 8 = .ok (.i2l, 1) := by decide +kernel
theorem dL_array_9 : decode cL_array 9 = .ok (.lastore, 1) := by decide +kernel
theorem dL_array_10 : decode cL_array 10 = .ok (.goto 7, 3) := by decide +kernel
theorem dL_array_13 : decode cL_array 13 = .ok (.astore 4, 2) := by decide +kernel
theorem dL_array_15 : decode cL_array 15 = .ok (.iconst 1, 1) := by decide +kernel
theorem dL_array_16 : decode cL_array 16 = .ok (.ireturn, 1) := by decide +kernel
theorem dL_array_17 : decode cL_array 17 = .ok (.iconst 0, 1) := by decide +kernel
theorem dL_array_18 : decode cL_array 18 = .ok (.ireturn, 1) := by decide +kernel
theorem dL_law_0 : decode cL_law 0 = .ok (.new 8, 3) := by decide +kernel
theorem dL_law_3 : decode cL_law 3 = .ok (.dup, 1) := by decide +kernel
theorem dL_law_4 : decode cL_law 4 = .ok (.invokespecial 39, 3) := by decide +kernel
theorem dL_law_7 : decode cL_law 7 = .ok (.astore_n 1, 1) := by decide +kernel
theorem dL_law_8 : decode cL_law 8 = .ok (.new 40, 3) := by decide +kernel
theorem dL_law_11 : decode cL_law 11 = .ok (.dup, 1) := by decide +kernel
theorem dL_law_12 : decode cL_law 12 = .ok (.invokespecial 42, 3) := by decide +kernel
theorem dL_law_15 : decode cL_law 15 = .ok (.astore_n 2, 1) := by decide +kernel
theorem dL_law_16 : decode cL_law 16 = .ok (.iconst 1, 1) := by decide +kernel
theorem dL_law_17 : decode cL_law 17 = .ok (.newarray .long, 2) := by decide +kernel
theorem dL_law_19 : decode cL_law 19 = .ok (.astore_n 3, 1) := by decide +kernel
theorem dL_law_20 : decode cL_law 20 = .ok (.iconst 0, 1) := by decide +kernel
theorem dL_law_21 : decode cL_law 21 = .ok (.istore 4, 2) := by decide +kernel
theorem dL_law_23 : decode cL_law 23 = .ok (.iload 4, 2) := by decide +kernel
theorem dL_law_25 : decode cL_law 25 = .ok (.aload_n 0, 1) := by decide +kernel
theorem dL_law_26 : decode cL_law 26 = .ok (.arraylength, 1) := by decide +kernel
theorem dL_law_27 : decode cL_law 27 = .ok (.iconst 3, 1) := by decide +kernel
theorem dL_law_28 : decode cL_law 28 = .ok (.isub, 1) := by decide +kernel
theorem dL_law_29 : decode cL_law 29 = .ok (.if_icmp .gt 514, 3) := by decide +kernel
theorem dL_law_32 : decode cL_law 32 = .ok (.aload_n 0, 1) := by decide +kernel
theorem dL_law_33 : decode cL_law 33 = .ok (.iload 4, 2) := by decide +kernel
theorem dL_law_35 : decode cL_law 35 = .ok (.iaload, 1) := by decide +kernel
theorem dL_law_36 : decode cL_law 36 = .ok (.bipush 15, 2) := by decide +kernel
theorem dL_law_38 : decode cL_law 38 = .ok (.iand, 1) := by decide +kernel
theorem dL_law_39 : decode cL_law 39 = .ok (.tableswitch 498 0 8 #[49, 117, 130, 181, 237, 293, 349, 405, 473], 49) := by decide +kernel
theorem dL_law_88 : decode cL_law 88 = .ok (.aload_n 1, 1) := by decide +kernel
theorem dL_law_89 : decode cL_law 89 = .ok (.aload_n 0, 1) := by decide +kernel
theorem dL_law_90 : decode cL_law 90 = .ok (.iload 4, 2) := by decide +kernel
theorem dL_law_92 : decode cL_law 92 = .ok (.iconst 1, 1) := by decide +kernel
theorem dL_law_93 : decode cL_law 93 = .ok (.iadd, 1) := by decide +kernel
theorem dL_law_94 : decode cL_law 94 = .ok (.iaload, 1) := by decide +kernel
theorem dL_law_95 : decode cL_law 95 = .ok (.aload_n 0, 1) := by decide +kernel
theorem dL_law_96 : decode cL_law 96 = .ok (.iload 4, 2) := by decide +kernel
theorem dL_law_98 : decode cL_law 98 = .ok (.iconst 2, 1) := by decide +kernel
theorem dL_law_99 : decode cL_law 99 = .ok (.iadd, 1) := by decide +kernel
theorem dL_law_100 : decode cL_law 100 = .ok (.iaload, 1) := by decide +kernel
theorem dL_law_101 : decode cL_law 101 = .ok (.aload_n 3, 1) := by decide +kernel
theorem dL_law_102 : decode cL_law 102 = .ok (.invokestatic 43, 3) := by decide +kernel
theorem dL_law_105 : decode cL_law 105 = .ok (.istore 5, 2) := by decide +kernel
theorem dL_law_107 : decode cL_law 107 = .ok (.aload_n 2, 1) := by decide +kernel
theorem dL_law_108 : decode cL_law 108 = .ok (.aload_n 0, 1) := by decide +kernel
theorem dL_law_109 : decode cL_law 109 = .ok (.iload 4, 2) := by decide +kernel
theorem dL_law_111 : decode cL_law 111 = .ok (.iconst 1, 1) := by decide +kernel
theorem dL_law_112 : decode cL_law 112 = .ok (.iadd, 1) := by decide +kernel
theorem dL_law_113 : decode cL_law 113 = .ok (.iaload, 1) := by decide +kernel
theorem dL_law_114 : decode cL_law 114 = .ok (.aload_n 0, 1) := by decide +kernel
theorem dL_law_115 : decode cL_law 115 = .ok (.iload 4, 2) := by decide +kernel
theorem dL_law_117 : decode cL_law 117 = .ok (.iconst 2, 1) := by decide +kernel
theorem dL_law_118 : decode cL_law 118 = .ok (.iadd, 1) := by decide +kernel
theorem dL_law_119 : decode cL_law 119 = .ok (.iaload, 1) := by decide +kernel
theorem dL_law_120 : decode cL_law 120 = .ok (.invokevirtual 48, 3) := by decide +kernel
theorem dL_law_123 : decode cL_law 123 = .ok (.istore 6, 2) := by decide +kernel
theorem dL_law_125 : decode cL_law 125 = .ok (.aload_n 2, 1) := by decide +kernel
theorem dL_law_126 : decode cL_law 126 = .ok (.invokevirtual 49, 3) := by decide +kernel
theorem dL_law_129 : decode cL_law 129 = .ok (.iload 5, 2) := by decide +kernel
theorem dL_law_131 : decode cL_law 131 = .ok (.if_icmp .eq 5, 3) := by decide +kernel
theorem dL_law_134 : decode cL_law 134 = .ok (.iconst 0, 1) := by decide +kernel
theorem dL_law_135 : decode cL_law 135 = .ok (.ireturn, 1) := by decide +kernel
theorem dL_law_136 : decode cL_law 136 = .ok (.iload 5, 2) := by decide +kernel
theorem dL_law_138 : decode cL_law 138 = .ok (.ifCond .ne 15, 3) := by decide +kernel
theorem dL_law_141 : decode cL_law 141 = .ok (.aload_n 3, 1) := by decide +kernel
theorem dL_law_142 : decode cL_law 142 = .ok (.iconst 0, 1) := by decide +kernel
theorem dL_law_143 : decode cL_law 143 = .ok (.laload, 1) := by decide +kernel
theorem dL_law_144 : decode cL_law 144 = .ok (.iload 6, 2) := by decide +kernel
theorem dL_law_146 : decode cL_law 146 = .ok (.i2l, 1) := by decide +kernel
theorem dL_law_147 : decode cL_law 147 = .ok (.lcmp, 1) := by decide +kernel
theorem dL_law_148 : decode cL_law 148 = .ok (.ifCond .eq 5, 3) := by decide +kernel
theorem dL_law_151 : decode cL_law 151 = .ok (.iconst 0, 1) := by decide +kernel
theorem dL_law_152 : decode cL_law 152 = .ok (.ireturn, 1) := by decide +kernel
theorem dL_law_153 : decode cL_law 153 = .ok (.goto 384, 3) := by decide +kernel
theorem dL_law_156 : decode cL_law 156 = .ok (.aload_n 1, 1) := by decide +kernel
theorem dL_law_157 : decode cL_law 157 = .ok (.invokevirtual 53, 3) := by decide +kernel
theorem dL_law_160 : decode cL_law 160 = .ok (.aload_n 2, 1) := by decide +kernel
theorem dL_law_161 : decode cL_law 161 = .ok (.invokevirtual 56, 3) := by decide +kernel
theorem dL_law_164 : decode cL_law 164 = .ok (.if_icmp .eq 373, 3) := by decide +kernel
theorem dL_law_167 : decode cL_law 167 = .ok (.iconst 0, 1) := by decide +kernel
theorem dL_law_168 : decode cL_law 168 = .ok (.ireturn, 1) := by decide +kernel
theorem dL_law_169 : decode cL_law 169 = .ok (.aload_n 1, 1) := by decide +kernel
theorem dL_law_170 : decode cL_law 170 = .ok (.aload_n 3, 1) := by decide +kernel
theorem dL_law_171 : decode cL_law 171 = .ok (.invokestatic 57, 3) := by decide +kernel
theorem dL_law_174 : decode cL_law 174 = .ok (.istore 5, 2) := by decide +kernel
theorem dL_law_176 : decode cL_law 176 = .ok (.aload_n 2, 1) := by decide +kernel
theorem dL_law_177 : decode cL_law 177 = .ok (.invokevirtual 60, 3) := by decide +kernel
theorem dL_law_180 : decode cL_law 180 = .ok (.istore 6, 2) := by decide +kernel
theorem dL_law_182 : decode cL_law 182 = .ok (.aload_n 2, 1) := by decide +kernel
theorem dL_law_183 : decode cL_law 183 = .ok (.invokevirtual 49, 3) := by decide +kernel
theorem dL_law_186 : decode cL_law 186 = .ok (.iload 5, 2) := by decide +kernel
theorem dL_law_188 : decode cL_law 188 = .ok (.if_icmp .eq 5, 3) := by decide +kernel
theorem dL_law_191 : decode cL_law 191 = .ok (.iconst 0, 1) := by decide +kernel
theorem dL_law_192 : decode cL_law 192 = .ok (.ireturn, 1) := by decide +kernel
theorem dL_law_193 : decode cL_law 193 = .ok (.iload 5, 2) := by decide +kernel
theorem dL_law_195 : decode cL_law 195 = .ok (.ifCond .ne 22, 3) := by decide +kernel
theorem dL_law_198 : decode cL_law 198 = .ok (.aload_n 3, 1) := by decide +kernel
theorem dL_law_199 : decode cL_law 199 = .ok (.iconst 0, 1) := by decide +kernel
theorem dL_law_200 : decode cL_law 200 = .ok (.laload, 1) := by decide +kernel
theorem dL_law_201 : decode cL_law 201 = .ok (.iload 6, 2) := by decide +kernel
theorem dL_law_203 : decode cL_law 203 = .ok (.ifCond .eq 7, 3) := by decide +kernel
theorem dL_law_206 : decode cL_law 206 = .ok (.lconst 1, 1) := by decide +kernel
theorem dL_law_207 : decode cL_law 207 = .ok (.goto 4, 3) := by decide +kernel
theorem dL_law_210 : decode cL_law 210 = .ok (.lconst 0, 1) := by decide +kernel
theorem dL_law_211 : decode cL_law 211 = .ok (.lcmp, 1) := by decide +kernel
theorem dL_law_212 : decode cL_law 212 = .ok (.ifCond .eq 5, 3) := by decide +kernel
theorem dL_law_215 : decode cL_law 215 = .ok (.iconst 0, 1) := by decide +kernel
theorem dL_law_216 : decode cL_law 216 = .ok (.ireturn, 1) := by decide +kernel
theorem dL_law_217 : decode cL_law 217 = .ok (.goto 320, 3) := by decide +kernel
theorem dL_law_220 : decode cL_law 220 = .ok (.aload_n 1, 1) := by decide +kernel
theorem dL_law_221 : decode cL_law 221 = .ok (.aload_n 0, 1) := by decide +kernel
theorem dL_law_222 : decode cL_law 222 = .ok (.iload 4, 2) := by decide +kernel
theorem dL_law_224 : decode cL_law 224 = .ok (.iconst 1, 1) := by decide +kernel
theorem dL_law_225 : decode cL_law 225 = .ok (.iadd, 1) := by decide +kernel
theorem dL_law_226 : decode cL_law 226 = .ok (.iaload, 1) := by decide +kernel
theorem dL_law_227 : decode cL_law 227 = .ok (.aload_n 3, 1) := by decide +kernel
theorem dL_law_228 : decode cL_law 228 = .ok (.invokestatic 61, 3) := by decide +kernel
theorem dL_law_231 : decode cL_law 231 = .ok (.istore 5, 2) := by decide +kernel
theorem dL_law_233 : decode cL_law 233 = .ok (.aload_n 2, 1) := by decide +kernel
theorem dL_law_234 : decode cL_law 234 = .ok (.aload_n 0, 1) := by decide +kernel
theorem dL_law_235 : decode cL_law 235 = .ok (.iload 4, 2) := by decide +kernel
theorem dL_law_237 : decode cL_law 237 = .ok (.iconst 1, 1) := by decide +kernel
theorem dL_law_238 : decode cL_law 238 = .ok (.iadd, 1) := by decide +kernel
theorem dL_law_239 : decode cL_law 239 = .ok (.iaload, 1) := by decide +kernel
theorem dL_law_240 : decode cL_law 240 = .ok (.invokevirtual 64, 3) := by decide +kernel
theorem dL_law_243 : decode cL_law 243 = .ok (.istore 6, 2) := by decide +kernel
theorem dL_law_245 : decode cL_law 245 = .ok (.aload_n 2, 1) := by decide +kernel
theorem dL_law_246 : decode cL_law 246 = .ok (.invokevirtual 49, 3) := by decide +kernel
theorem dL_law_249 : decode cL_law 249 = .ok (.iload 5, 2) := by decide +kernel
theorem dL_law_251 : decode cL_law 251 = .ok (.if_icmp .eq 5, 3) := by decide +kernel
theorem dL_law_254 : decode cL_law 254 = .ok (.iconst 0, 1) := by decide +kernel
theorem dL_law_255 : decode cL_law 255 = .ok (.ireturn, 1) := by decide +kernel
theorem dL_law_256 : decode cL_law 256 = .ok (.iload 5, 2) := by decide +kernel
theorem dL_law_258 : decode cL_law 258 = .ok (.ifCond .ne 15, 3) := by decide +kernel
theorem dL_law_261 : decode cL_law 261 = .ok (.aload_n 3, 1) := by decide +kernel
theorem dL_law_262 : decode cL_law 262 = .ok (.iconst 0, 1) := by decide +kernel
theorem dL_law_263 : decode cL_law 263 = .ok (.laload, 1) := by decide +kernel
theorem dL_law_264 : decode cL_law 264 = .ok (.iload 6, 2) := by decide +kernel
theorem dL_law_266 : decode cL_law 266 = .ok (.i2l, 1) := by decide +kernel
theorem dL_law_267 : decode cL_law 267 = .ok (.lcmp, 1) := by decide +kernel
theorem dL_law_268 : decode cL_law 268 = .ok (.ifCond .eq 5, 3) := by decide +kernel
theorem dL_law_271 : decode cL_law 271 = .ok (.iconst 0, 1) := by decide +kernel
theorem dL_law_272 : decode cL_law 272 = .ok (.ireturn, 1) := by decide +kernel
theorem dL_law_273 : decode cL_law 273 = .ok (.goto 264, 3) := by decide +kernel
theorem dL_law_276 : decode cL_law 276 = .ok (.aload_n 1, 1) := by decide +kernel
theorem dL_law_277 : decode cL_law 277 = .ok (.aload_n 0, 1) := by decide +kernel
theorem dL_law_278 : decode cL_law 278 = .ok (.iload 4, 2) := by decide +kernel
theorem dL_law_280 : decode cL_law 280 = .ok (.iconst 1, 1) := by decide +kernel
theorem dL_law_281 : decode cL_law 281 = .ok (.iadd, 1) := by decide +kernel
theorem dL_law_282 : decode cL_law 282 = .ok (.iaload, 1) := by decide +kernel
theorem dL_law_283 : decode cL_law 283 = .ok (.aload_n 3, 1) := by decide +kernel
theorem dL_law_284 : decode cL_law 284 = .ok (.invokestatic 65, 3) := by decide +kernel
theorem dL_law_287 : decode cL_law 287 = .ok (.istore 5, 2) := by decide +kernel
theorem dL_law_289 : decode cL_law 289 = .ok (.aload_n 2, 1) := by decide +kernel
theorem dL_law_290 : decode cL_law 290 = .ok (.aload_n 0, 1) := by decide +kernel
theorem dL_law_291 : decode cL_law 291 = .ok (.iload 4, 2) := by decide +kernel
theorem dL_law_293 : decode cL_law 293 = .ok (.iconst 1, 1) := by decide +kernel
theorem dL_law_294 : decode cL_law 294 = .ok (.iadd, 1) := by decide +kernel
theorem dL_law_295 : decode cL_law 295 = .ok (.iaload, 1) := by decide +kernel
theorem dL_law_296 : decode cL_law 296 = .ok (.invokevirtual 67, 3) := by decide +kernel
theorem dL_law_299 : decode cL_law 299 = .ok (.istore 6, 2) := by decide +kernel
theorem dL_law_301 : decode cL_law 301 = .ok (.aload_n 2, 1) := by decide +kernel
theorem dL_law_302 : decode cL_law 302 = .ok (.invokevirtual 49, 3) := by decide +kernel
theorem dL_law_305 : decode cL_law 305 = .ok (.iload 5, 2) := by decide +kernel
theorem dL_law_307 : decode cL_law 307 = .ok (.if_icmp .eq 5, 3) := by decide +kernel
theorem dL_law_310 : decode cL_law 310 = .ok (.iconst 0, 1) := by decide +kernel
theorem dL_law_311 : decode cL_law 311 = .ok (.ireturn, 1) := by decide +kernel
theorem dL_law_312 : decode cL_law 312 = .ok (.iload 5, 2) := by decide +kernel
theorem dL_law_314 : decode cL_law 314 = .ok (.ifCond .ne 15, 3) := by decide +kernel
theorem dL_law_317 : decode cL_law 317 = .ok (.aload_n 3, 1) := by decide +kernel
theorem dL_law_318 : decode cL_law 318 = .ok (.iconst 0, 1) := by decide +kernel
theorem dL_law_319 : decode cL_law 319 = .ok (.laload, 1) := by decide +kernel
theorem dL_law_320 : decode cL_law 320 = .ok (.iload 6, 2) := by decide +kernel
theorem dL_law_322 : decode cL_law 322 = .ok (.i2l, 1) := by decide +kernel
theorem dL_law_323 : decode cL_law 323 = .ok (.lcmp, 1) := by decide +kernel
theorem dL_law_324 : decode cL_law 324 = .ok (.ifCond .eq 5, 3) := by decide +kernel
theorem dL_law_327 : decode cL_law 327 = .ok (.iconst 0, 1) := by decide +kernel
theorem dL_law_328 : decode cL_law 328 = .ok (.ireturn, 1) := by decide +kernel
theorem dL_law_329 : decode cL_law 329 = .ok (.goto 208, 3) := by decide +kernel
theorem dL_law_332 : decode cL_law 332 = .ok (.aload_n 1, 1) := by decide +kernel
theorem dL_law_333 : decode cL_law 333 = .ok (.aload_n 0, 1) := by decide +kernel
theorem dL_law_334 : decode cL_law 334 = .ok (.iload 4, 2) := by decide +kernel
theorem dL_law_336 : decode cL_law 336 = .ok (.iconst 1, 1) := by decide +kernel
theorem dL_law_337 : decode cL_law 337 = .ok (.iadd, 1) := by decide +kernel
theorem dL_law_338 : decode cL_law 338 = .ok (.iaload, 1) := by decide +kernel
theorem dL_law_339 : decode cL_law 339 = .ok (.aload_n 3, 1) := by decide +kernel
theorem dL_law_340 : decode cL_law 340 = .ok (.invokestatic 68, 3) := by decide +kernel
theorem dL_law_343 : decode cL_law 343 = .ok (.istore 5, 2) := by decide +kernel
theorem dL_law_345 : decode cL_law 345 = .ok (.aload_n 2, 1) := by decide +kernel
theorem dL_law_346 : decode cL_law 346 = .ok (.aload_n 0, 1) := by decide +kernel
theorem dL_law_347 : decode cL_law 347 = .ok (.iload 4, 2) := by decide +kernel
theorem dL_law_349 : decode cL_law 349 = .ok (.iconst 1, 1) := by decide +kernel
theorem dL_law_350 : decode cL_law 350 = .ok (.iadd, 1) := by decide +kernel
theorem dL_law_351 : decode cL_law 351 = .ok (.iaload, 1) := by decide +kernel
theorem dL_law_352 : decode cL_law 352 = .ok (.invokevirtual 70, 3) := by decide +kernel
theorem dL_law_355 : decode cL_law 355 = .ok (.istore 6, 2) := by decide +kernel
theorem dL_law_357 : decode cL_law 357 = .ok (.aload_n 2, 1) := by decide +kernel
theorem dL_law_358 : decode cL_law 358 = .ok (.invokevirtual 49, 3) := by decide +kernel
theorem dL_law_361 : decode cL_law 361 = .ok (.iload 5, 2) := by decide +kernel
theorem dL_law_363 : decode cL_law 363 = .ok (.if_icmp .eq 5, 3) := by decide +kernel
theorem dL_law_366 : decode cL_law 366 = .ok (.iconst 0, 1) := by decide +kernel
theorem dL_law_367 : decode cL_law 367 = .ok (.ireturn, 1) := by decide +kernel
theorem dL_law_368 : decode cL_law 368 = .ok (.iload 5, 2) := by decide +kernel
theorem dL_law_370 : decode cL_law 370 = .ok (.ifCond .ne 15, 3) := by decide +kernel
theorem dL_law_373 : decode cL_law 373 = .ok (.aload_n 3, 1) := by decide +kernel
theorem dL_law_374 : decode cL_law 374 = .ok (.iconst 0, 1) := by decide +kernel
theorem dL_law_375 : decode cL_law 375 = .ok (.laload, 1) := by decide +kernel
theorem dL_law_376 : decode cL_law 376 = .ok (.iload 6, 2) := by decide +kernel
theorem dL_law_378 : decode cL_law 378 = .ok (.i2l, 1) := by decide +kernel
theorem dL_law_379 : decode cL_law 379 = .ok (.lcmp, 1) := by decide +kernel
theorem dL_law_380 : decode cL_law 380 = .ok (.ifCond .eq 5, 3) := by decide +kernel
theorem dL_law_383 : decode cL_law 383 = .ok (.iconst 0, 1) := by decide +kernel
theorem dL_law_384 : decode cL_law 384 = .ok (.ireturn, 1) := by decide +kernel
theorem dL_law_385 : decode cL_law 385 = .ok (.goto 152, 3) := by decide +kernel
theorem dL_law_388 : decode cL_law 388 = .ok (.aload_n 1, 1) := by decide +kernel
theorem dL_law_389 : decode cL_law 389 = .ok (.aload_n 0, 1) := by decide +kernel
theorem dL_law_390 : decode cL_law 390 = .ok (.iload 4, 2) := by decide +kernel
theorem dL_law_392 : decode cL_law 392 = .ok (.iconst 1, 1) := by decide +kernel
theorem dL_law_393 : decode cL_law 393 = .ok (.iadd, 1) := by decide +kernel
theorem dL_law_394 : decode cL_law 394 = .ok (.iaload, 1) := by decide +kernel
theorem dL_law_395 : decode cL_law 395 = .ok (.aload_n 3, 1) := by decide +kernel
theorem dL_law_396 : decode cL_law 396 = .ok (.invokestatic 71, 3) := by decide +kernel
theorem dL_law_399 : decode cL_law 399 = .ok (.istore 5, 2) := by decide +kernel
theorem dL_law_401 : decode cL_law 401 = .ok (.aload_n 2, 1) := by decide +kernel
theorem dL_law_402 : decode cL_law 402 = .ok (.aload_n 0, 1) := by decide +kernel
theorem dL_law_403 : decode cL_law 403 = .ok (.iload 4, 2) := by decide +kernel
theorem dL_law_405 : decode cL_law 405 = .ok (.iconst 1, 1) := by decide +kernel
theorem dL_law_406 : decode cL_law 406 = .ok (.iadd, 1) := by decide +kernel
theorem dL_law_407 : decode cL_law 407 = .ok (.iaload, 1) := by decide +kernel
theorem dL_law_408 : decode cL_law 408 = .ok (.invokevirtual 73, 3) := by decide +kernel
theorem dL_law_411 : decode cL_law 411 = .ok (.istore 6, 2) := by decide +kernel
theorem dL_law_413 : decode cL_law 413 = .ok (.aload_n 2, 1) := by decide +kernel
theorem dL_law_414 : decode cL_law 414 = .ok (.invokevirtual 49, 3) := by decide +kernel
theorem dL_law_417 : decode cL_law 417 = .ok (.iload 5, 2) := by decide +kernel
theorem dL_law_419 : decode cL_law 419 = .ok (.if_icmp .eq 5, 3) := by decide +kernel
theorem dL_law_422 : decode cL_law 422 = .ok (.iconst 0, 1) := by decide +kernel
theorem dL_law_423 : decode cL_law 423 = .ok (.ireturn, 1) := by decide +kernel
theorem dL_law_424 : decode cL_law 424 = .ok (.iload 5, 2) := by decide +kernel
theorem dL_law_426 : decode cL_law 426 = .ok (.ifCond .ne 15, 3) := by decide +kernel
theorem dL_law_429 : decode cL_law 429 = .ok (.aload_n 3, 1) := by decide +kernel
theorem dL_law_430 : decode cL_law 430 = .ok (.iconst 0, 1) := by decide +kernel
theorem dL_law_431 : decode cL_law 431 = .ok (.laload, 1) := by decide +kernel
theorem dL_law_432 : decode cL_law 432 = .ok (.iload 6, 2) := by decide +kernel
theorem dL_law_434 : decode cL_law 434 = .ok (.i2l, 1) := by decide +kernel
theorem dL_law_435 : decode cL_law 435 = .ok (.lcmp, 1) := by decide +kernel
theorem dL_law_436 : decode cL_law 436 = .ok (.ifCond .eq 5, 3) := by decide +kernel
theorem dL_law_439 : decode cL_law 439 = .ok (.iconst 0, 1) := by decide +kernel
theorem dL_law_440 : decode cL_law 440 = .ok (.ireturn, 1) := by decide +kernel
theorem dL_law_441 : decode cL_law 441 = .ok (.goto 96, 3) := by decide +kernel
theorem dL_law_444 : decode cL_law 444 = .ok (.aload_n 1, 1) := by decide +kernel
theorem dL_law_445 : decode cL_law 445 = .ok (.aload_n 0, 1) := by decide +kernel
theorem dL_law_446 : decode cL_law 446 = .ok (.iload 4, 2) := by decide +kernel
theorem dL_law_448 : decode cL_law 448 = .ok (.iconst 1, 1) := by decide +kernel
theorem dL_law_449 : decode cL_law 449 = .ok (.iadd, 1) := by decide +kernel
theorem dL_law_450 : decode cL_law 450 = .ok (.iaload, 1) := by decide +kernel
theorem dL_law_451 : decode cL_law 451 = .ok (.aload_n 0, 1) := by decide +kernel
theorem dL_law_452 : decode cL_law 452 = .ok (.iload 4, 2) := by decide +kernel
theorem dL_law_454 : decode cL_law 454 = .ok (.iconst 2, 1) := by decide +kernel
theorem dL_law_455 : decode cL_law 455 = .ok (.iadd, 1) := by decide +kernel
theorem dL_law_456 : decode cL_law 456 = .ok (.iaload, 1) := by decide +kernel
theorem dL_law_457 : decode cL_law 457 = .ok (.aload_n 3, 1) := by decide +kernel
theorem dL_law_458 : decode cL_law 458 = .ok (.invokestatic 74, 3) := by decide +kernel
theorem dL_law_461 : decode cL_law 461 = .ok (.istore 5, 2) := by decide +kernel
theorem dL_law_463 : decode cL_law 463 = .ok (.aload_n 2, 1) := by decide +kernel
theorem dL_law_464 : decode cL_law 464 = .ok (.aload_n 0, 1) := by decide +kernel
theorem dL_law_465 : decode cL_law 465 = .ok (.iload 4, 2) := by decide +kernel
theorem dL_law_467 : decode cL_law 467 = .ok (.iconst 1, 1) := by decide +kernel
theorem dL_law_468 : decode cL_law 468 = .ok (.iadd, 1) := by decide +kernel
theorem dL_law_469 : decode cL_law 469 = .ok (.iaload, 1) := by decide +kernel
theorem dL_law_470 : decode cL_law 470 = .ok (.aload_n 0, 1) := by decide +kernel
theorem dL_law_471 : decode cL_law 471 = .ok (.iload 4, 2) := by decide +kernel
theorem dL_law_473 : decode cL_law 473 = .ok (.iconst 2, 1) := by decide +kernel
theorem dL_law_474 : decode cL_law 474 = .ok (.iadd, 1) := by decide +kernel
theorem dL_law_475 : decode cL_law 475 = .ok (.iaload, 1) := by decide +kernel
theorem dL_law_476 : decode cL_law 476 = .ok (.invokevirtual 76, 3) := by decide +kernel
theorem dL_law_479 : decode cL_law 479 = .ok (.istore 6, 2) := by decide +kernel
theorem dL_law_481 : decode cL_law 481 = .ok (.aload_n 2, 1) := by decide +kernel
theorem dL_law_482 : decode cL_law 482 = .ok (.invokevirtual 49, 3) := by decide +kernel
theorem dL_law_485 : decode cL_law 485 = .ok (.iload 5, 2) := by decide +kernel
theorem dL_law_487 : decode cL_law 487 = .ok (.if_icmp .eq 5, 3) := by decide +kernel
theorem dL_law_490 : decode cL_law 490 = .ok (.iconst 0, 1) := by decide +kernel
theorem dL_law_491 : decode cL_law 491 = .ok (.ireturn, 1) := by decide +kernel
theorem dL_law_492 : decode cL_law 492 = .ok (.iload 5, 2) := by decide +kernel
theorem dL_law_494 : decode cL_law 494 = .ok (.ifCond .ne 15, 3) := by decide +kernel
theorem dL_law_497 : decode cL_law 497 = .ok (.aload_n 3, 1) := by decide +kernel
theorem dL_law_498 : decode cL_law 498 = .ok (.iconst 0, 1) := by decide +kernel
theorem dL_law_499 : decode cL_law 499 = .ok (.laload, 1) := by decide +kernel
theorem dL_law_500 : decode cL_law 500 = .ok (.iload 6, 2) := by decide +kernel
theorem dL_law_502 : decode cL_law 502 = .ok (.i2l, 1) := by decide +kernel
theorem dL_law_503 : decode cL_law 503 = .ok (.lcmp, 1) := by decide +kernel
theorem dL_law_504 : decode cL_law 504 = .ok (.ifCond .eq 5, 3) := by decide +kernel
theorem dL_law_507 : decode cL_law 507 = .ok (.iconst 0, 1) := by decide +kernel
theorem dL_law_508 : decode cL_law 508 = .ok (.ireturn, 1) := by decide +kernel
theorem dL_law_509 : decode cL_law 509 = .ok (.goto 28, 3) := by decide +kernel
theorem dL_law_512 : decode cL_law 512 = .ok (.aload_n 1, 1) := by decide +kernel
theorem dL_law_513 : decode cL_law 513 = .ok (.aload_n 0, 1) := by decide +kernel
theorem dL_law_514 : decode cL_law 514 = .ok (.iload 4, 2) := by decide +kernel
theorem dL_law_516 : decode cL_law 516 = .ok (.iconst 1, 1) := by decide +kernel
theorem dL_law_517 : decode cL_law 517 = .ok (.iadd, 1) := by decide +kernel
theorem dL_law_518 : decode cL_law 518 = .ok (.iaload, 1) := by decide +kernel
theorem dL_law_519 : decode cL_law 519 = .ok (.invokevirtual 77, 3) := by decide +kernel
theorem dL_law_522 : decode cL_law 522 = .ok (.aload_n 2, 1) := by decide +kernel
theorem dL_law_523 : decode cL_law 523 = .ok (.aload_n 0, 1) := by decide +kernel
theorem dL_law_524 : decode cL_law 524 = .ok (.iload 4, 2) := by decide +kernel
theorem dL_law_526 : decode cL_law 526 = .ok (.iconst 1, 1) := by decide +kernel
theorem dL_law_527 : decode cL_law 527 = .ok (.iadd, 1) := by decide +kernel
theorem dL_law_528 : decode cL_law 528 = .ok (.iaload, 1) := by decide +kernel
theorem dL_law_529 : decode cL_law 529 = .ok (.invokevirtual 80, 3) := by decide +kernel
theorem dL_law_532 : decode cL_law 532 = .ok (.if_icmp .eq 5, 3) := by decide +kernel
theorem dL_law_535 : decode cL_law 535 = .ok (.iconst 0, 1) := by decide +kernel
theorem dL_law_536 : decode cL_law 536 = .ok (.ireturn, 1) := by decide +kernel
theorem dL_law_537 : decode cL_law 537 = .ok (.iinc 4 3, 3) := by decide +kernel
theorem dL_law_540 : decode cL_law 540 = .ok (.goto (-517), 3) := by decide +kernel
theorem dL_law_543 : decode cL_law 543 = .ok (.iconst 1, 1) := by decide +kernel
theorem dL_law_544 : decode cL_law 544 = .ok (.ireturn, 1) := by decide +kernel
