theorem dX0_init_0 : decode cX0_init 0 = .ok (.aload_n 0, 1) := by decide +kernel
theorem dX0_init_1 : decode cX0_init 1 = .ok (.invokespecial 3, 3) := by decide +kernel
theorem dX0_init_4 : decode cX0_init 4 = .ok (.aload_n 0, 1) := by decide +kernel
theorem dX0_init_5 : decode cX0_init 5 = .ok (.bipush 52, 2) := by decide +kernel
theorem dX0_init_7 : decode cX0_init 7 = .ok (.newarray .int, 2) := by decide +kernel
theorem dX0_init_9 : decode cX0_init 9 = .ok (.putfield 9, 3) := by decide +kernel
theorem dX0_init_12 : decode cX0_init 12 = .ok (.aload_n 0, 1) := by decide +kernel
theorem dX0_init_13 : decode cX0_init 13 = .ok (.bipush 52, 2) := by decide +kernel
theorem dX0_init_15 : decode cX0_init 15 = .ok (.newarray .int, 2) := by decide +kernel
theorem dX0_init_17 : decode cX0_init 17 = .ok (.putfield 15, 3) := by decide +kernel
theorem dX0_init_20 : decode cX0_init 20 = .ok (.aload_n 0, 1) := by decide +kernel
theorem dX0_init_21 : decode cX0_init 21 = .ok (.sipush 1560, 3) := by decide +kernel
theorem dX0_init_24 : decode cX0_init 24 = .ok (.newarray .int, 2) := by decide +kernel
theorem dX0_init_26 : decode cX0_init 26 = .ok (.putfield 18, 3) := by decide +kernel
theorem dX0_init_29 : decode cX0_init 29 = .ok (.aload_n 0, 1) := by decide +kernel
theorem dX0_init_30 : decode cX0_init 30 = .ok (.iconst 3, 1) := by decide +kernel
theorem dX0_init_31 : decode cX0_init 31 = .ok (.newarray .int, 2) := by decide +kernel
theorem dX0_init_33 : decode cX0_init 33 = .ok (.putfield 21, 3) := by decide +kernel
theorem dX0_init_36 : decode cX0_init 36 = .ok (.aload_n 0, 1) := by decide +kernel
theorem dX0_init_37 : decode cX0_init 37 = .ok (.aload_n 1, 1) := by decide +kernel
theorem dX0_init_38 : decode cX0_init 38 = .ok (.putfield 24, 3) := by decide +kernel
theorem dX0_init_41 : decode cX0_init 41 = .ok (.aload_n 0, 1) := by decide +kernel
theorem dX0_init_42 : decode cX0_init 42 = .ok (.aload_n 2, 1) := by decide +kernel
theorem dX0_init_43 : decode cX0_init 43 = .ok (.putfield 28, 3) := by decide +kernel
theorem dX0_init_46 : decode cX0_init 46 = .ok (.return_, 1) := by decide +kernel
theorem dX0_mostMissed_0 : decode cX0_mostMissed 0 = .ok (.aload_n 0, 1) := by decide +kernel
theorem dX0_mostMissed_1 : decode cX0_mostMissed 1 = .ok (.invokevirtual 32, 3) := by decide +kernel
theorem dX0_mostMissed_4 : decode cX0_mostMissed 4 = .ok (.iconst (-1), 1) := by decide +kernel
theorem dX0_mostMissed_5 : decode cX0_mostMissed 5 = .ok (.istore_n 1, 1) := by decide +kernel
theorem dX0_mostMissed_6 : decode cX0_mostMissed 6 = .ok (.iconst 0, 1) := by decide +kernel
theorem dX0_mostMissed_7 : decode cX0_mostMissed 7 = .ok (.istore_n 2, 1) := by decide +kernel
theorem dX0_mostMissed_8 : decode cX0_mostMissed 8 = .ok (.iload_n 2, 1) := by decide +kernel
theorem dX0_mostMissed_9 : decode cX0_mostMissed 9 = .ok (.bipush 52, 2) := by decide +kernel
theorem dX0_mostMissed_11 : decode cX0_mostMissed 11 = .ok (.if_icmp .ge 54, 3) := by decide +kernel
theorem dX0_mostMissed_14 : decode cX0_mostMissed 14 = .ok (.aload_n 0, 1) := by decide +kernel
theorem dX0_mostMissed_15 : decode cX0_mostMissed 15 = .ok (.getfield 15, 3) := by decide +kernel
theorem dX0_mostMissed_18 : decode cX0_mostMissed 18 = .ok (.iload_n 2, 1) := by decide +kernel
theorem dX0_mostMissed_19 : decode cX0_mostMissed 19 = .ok (.iaload, 1) := by decide +kernel
theorem dX0_mostMissed_20 : decode cX0_mostMissed 20 = .ok (.ifCond .le 39, 3) := by decide +kernel
theorem dX0_mostMissed_23 : decode cX0_mostMissed 23 = .ok (.iload_n 1, 1) := by decide +kernel
theorem dX0_mostMissed_24 : decode cX0_mostMissed 24 = .ok (.iconst (-1), 1) := by decide +kernel
theorem dX0_mostMissed_25 : decode cX0_mostMissed 25 = .ok (.if_icmp .eq 32, 3) := by decide +kernel
theorem dX0_mostMissed_28 : decode cX0_mostMissed 28 = .ok (.aload_n 0, 1) := by decide +kernel
theorem dX0_mostMissed_29 : decode cX0_mostMissed 29 = .ok (.getfield 15, 3) := by decide +kernel
theorem dX0_mostMissed_32 : decode cX0_mostMissed 32 = .ok (.iload_n 2, 1) := by decide +kernel
theorem dX0_mostMissed_33 : decode cX0_mostMissed 33 = .ok (.iaload, 1) := by decide +kernel
theorem dX0_mostMissed_34 : decode cX0_mostMissed 34 = .ok (.aload_n 0, 1) := by decide +kernel
theorem dX0_mostMissed_35 : decode cX0_mostMissed 35 = .ok (.getfield 9, 3) := by decide +kernel
theorem dX0_mostMissed_38 : decode cX0_mostMissed 38 = .ok (.iload_n 1, 1) := by decide +kernel
theorem dX0_mostMissed_39 : decode cX0_mostMissed 39 = .ok (.iaload, 1) := by decide +kernel
theorem dX0_mostMissed_40 : decode cX0_mostMissed 40 = .ok (.imul, 1) := by decide +kernel
theorem dX0_mostMissed_41 : decode cX0_mostMissed 41 = .ok (.aload_n 0, 1) := by decide +kernel
theorem dX0_mostMissed_42 : decode cX0_mostMissed 42 = .ok (.getfield 15, 3) := by decide +kernel
theorem dX0_mostMissed_45 : decode cX0_mostMissed 45 = .ok (.iload_n 1, 1) := by decide +kernel
theorem dX0_mostMissed_46 : decode cX0_mostMissed 46 = .ok (.iaload, 1) := by decide +kernel
theorem dX0_mostMissed_47 : decode cX0_mostMissed 47 = .ok (.aload_n 0, 1) := by decide +kernel
theorem dX0_mostMissed_48 : decode cX0_mostMissed 48 = .ok (.getfield 9, 3) := by decide +kernel
theorem dX0_mostMissed_51 : decode cX0_mostMissed 51 = .ok (.iload_n 2, 1) := by decide +kernel
theorem dX0_mostMissed_52 : decode cX0_mostMissed 52 = .ok (.iaload, 1) := by decide +kernel
theorem dX0_mostMissed_53 : decode cX0_mostMissed 53 = .ok (.imul, 1) := by decide +kernel
theorem dX0_mostMissed_54 : decode cX0_mostMissed 54 = .ok (.if_icmp .le 5, 3) := by decide +kernel
theorem dX0_mostMissed_57 : decode cX0_mostMissed 57 = .ok (.iload_n 2, 1) := by decide +kernel
theorem dX0_mostMissed_58 : decode cX0_mostMissed 58 = .ok (.istore_n 1, 1) := by decide +kernel
theorem dX0_mostMissed_59 : decode cX0_mostMissed 59 = .ok (.iinc 2 1, 3) := by decide +kernel
theorem dX0_mostMissed_62 : decode cX0_mostMissed 62 = .ok (.goto (-54), 3) := by decide +kernel
theorem dX0_mostMissed_65 : decode cX0_mostMissed 65 = .ok (.iload_n 1, 1) := by decide +kernel
theorem dX0_mostMissed_66 : decode cX0_mostMissed 66 = .ok (.ireturn, 1) := by decide +kernel
theorem dX0_countMissed_0 : decode cX0_countMissed 0 = .ok (.aload_n 0, 1) := by decide +kernel
theorem dX0_countMissed_1 : decode cX0_countMissed 1 = .ok (.getfield 9, 3) := by decide +kernel
theorem dX0_countMissed_4 : decode cX0_countMissed 4 = .ok (.iconst 0, 1) := by decide +kernel
theorem dX0_countMissed_5 : decode cX0_countMissed 5 = .ok (.invokestatic 35, 3) := by decide +kernel
theorem dX0_countMissed_8 : decode cX0_countMissed 8 = .ok (.aload_n 0, 1) := by decide +kernel
theorem dX0_countMissed_9 : decode cX0_countMissed 9 = .ok (.getfield 15, 3) := by decide +kernel
theorem dX0_countMissed_12 : decode cX0_countMissed 12 = .ok (.iconst 0, 1) := by decide +kernel
theorem dX0_countMissed_13 : decode cX0_countMissed 13 = .ok (.invokestatic 35, 3) := by decide +kernel
theorem dX0_countMissed_16 : decode cX0_countMissed 16 = .ok (.iconst 0, 1) := by decide +kernel
theorem dX0_countMissed_17 : decode cX0_countMissed 17 = .ok (.istore_n 1, 1) := by decide +kernel
theorem dX0_countMissed_18 : decode cX0_countMissed 18 = .ok (.iload_n 1, 1) := by decide +kernel
theorem dX0_countMissed_19 : decode cX0_countMissed 19 = .ok (.aload_n 0, 1) := by decide +kernel
theorem dX0_countMissed_20 : decode cX0_countMissed 20 = .ok (.getfield 24, 3) := by decide +kernel
theorem dX0_countMissed_23 : decode cX0_countMissed 23 = .ok (.getfield 41, 3) := by decide +kernel
theorem dX0_countMissed_26 : decode cX0_countMissed 26 = .ok (.if_icmp .ge 86, 3) := by decide +kernel
theorem dX0_countMissed_29 : decode cX0_countMissed 29 = .ok (.aload_n 0, 1) := by decide +kernel
theorem dX0_countMissed_30 : decode cX0_countMissed 30 = .ok (.getfield 24, 3) := by decide +kernel
theorem dX0_countMissed_33 : decode cX0_countMissed 33 = .ok (.getfield 47, 3) := by decide +kernel
theorem dX0_countMissed_36 : decode cX0_countMissed 36 = .ok (.iload_n 1, 1) := by decide +kernel
theorem dX0_countMissed_37 : decode cX0_countMissed 37 = .ok (.aaload, 1) := by decide +kernel
theorem dX0_countMissed_38 : decode cX0_countMissed 38 = .ok (.astore_n 2, 1) := by decide +kernel
theorem dX0_countMissed_39 : decode cX0_countMissed 39 = .ok (.iconst 0, 1) := by decide +kernel
theorem dX0_countMissed_40 : decode cX0_countMissed 40 = .ok (.istore_n 3, 1) := by decide +kernel
theorem dX0_countMissed_41 : decode cX0_countMissed 41 = .ok (.iload_n 3, 1) := by decide +kernel
theorem dX0_countMissed_42 : decode cX0_countMissed 42 = .ok (.aload_n 2, 1) := by decide +kernel
theorem dX0_countMissed_43 : decode cX0_countMissed 43 = .ok (.getfield 51, 3) := by decide +kernel
theorem dX0_countMissed_46 : decode cX0_countMissed 46 = .ok (.if_icmp .ge 60, 3) := by decide +kernel
theorem dX0_countMissed_49 : decode cX0_countMissed 49 = .ok (.aload_n 2, 1) := by decide +kernel
theorem dX0_countMissed_50 : decode cX0_countMissed 50 = .ok (.getfield 56, 3) := by decide +kernel
theorem dX0_countMissed_53 : decode cX0_countMissed 53 = .ok (.ifCond .eq 53, 3) := by decide +kernel
theorem dX0_countMissed_56 : decode cX0_countMissed 56 = .ok (.aload_n 2, 1) := by decide +kernel
theorem dX0_countMissed_57 : decode cX0_countMissed 57 = .ok (.iload_n 3, 1) := by decide +kernel
theorem dX0_countMissed_58 : decode cX0_countMissed 58 = .ok (.invokevirtual 60, 3) := by decide +kernel
theorem dX0_countMissed_61 : decode cX0_countMissed 61 = .ok (.istore 4, 2) := by decide +kernel
theorem dX0_countMissed_63 : decode cX0_countMissed 63 = .ok (.aload_n 0, 1) := by decide +kernel
theorem dX0_countMissed_64 : decode cX0_countMissed 64 = .ok (.getfield 9, 3) := by decide +kernel
theorem dX0_countMissed_67 : decode cX0_countMissed 67 = .ok (.iload 4, 2) := by decide +kernel
theorem dX0_countMissed_69 : decode cX0_countMissed 69 = .ok (.dup2, 1) := by decide +kernel
theorem dX0_countMissed_70 : decode cX0_countMissed 70 = .ok (.iaload, 1) := by decide +kernel
theorem dX0_countMissed_71 : decode cX0_countMissed 71 = .ok (.iconst 1, 1) := by decide +kernel
theorem dX0_countMissed_72 : decode cX0_countMissed 72 = .ok (.iadd, 1) := by decide +kernel
theorem dX0_countMissed_73 : decode cX0_countMissed 73 = .ok (.iastore, 1) := by decide +kernel
theorem dX0_countMissed_74 : decode cX0_countMissed 74 = .ok (.aload_n 0, 1) := by decide +kernel
theorem dX0_countMissed_75 : decode cX0_countMissed 75 = .ok (.getfield 15, 3) := by decide +kernel
theorem dX0_countMissed_78 : decode cX0_countMissed 78 = .ok (.iload 4, 2) := by decide +kernel
theorem dX0_countMissed_80 : decode cX0_countMissed 80 = .ok (.dup2, 1) := by decide +kernel
theorem dX0_countMissed_81 : decode cX0_countMissed 81 = .ok (.iaload, 1) := by decide +kernel
theorem dX0_countMissed_82 : decode cX0_countMissed 82 = .ok (.aload_n 2, 1) := by decide +kernel
theorem dX0_countMissed_83 : decode cX0_countMissed 83 = .ok (.getfield 64, 3) := by decide +kernel
theorem dX0_countMissed_86 : decode cX0_countMissed 86 = .ok (.iload_n 3, 1) := by decide +kernel
theorem dX0_countMissed_87 : decode cX0_countMissed 87 = .ok (.iaload, 1) := by decide +kernel
theorem dX0_countMissed_88 : decode cX0_countMissed 88 = .ok (.iload 4, 2) := by decide +kernel
theorem dX0_countMissed_90 : decode cX0_countMissed 90 = .ok (.if_icmp .ne 7, 3) := by decide +kernel
theorem dX0_countMissed_93 : decode cX0_countMissed 93 = .ok (.iconst 0, 1) := by decide +kernel
theorem dX0_countMissed_94 : decode cX0_countMissed 94 = .ok (.goto 4, 3) := by decide +kernel
theorem dX0_countMissed_97 : decode cX0_countMissed 97 = .ok (.iconst 1, 1) := by decide +kernel
theorem dX0_countMissed_98 : decode cX0_countMissed 98 = .ok (.iadd, 1) := by decide +kernel
theorem dX0_countMissed_99 : decode cX0_countMissed 99 = .ok (.iastore, 1) := by decide +kernel
theorem dX0_countMissed_100 : decode cX0_countMissed 100 = .ok (.iinc 3 1, 3) := by decide +kernel
theorem dX0_countMissed_103 : decode cX0_countMissed 103 = .ok (.goto (-62), 3) := by decide +kernel
theorem dX0_countMissed_106 : decode cX0_countMissed 106 = .ok (.iinc 1 1, 3) := by decide +kernel
theorem dX0_countMissed_109 : decode cX0_countMissed 109 = .ok (.goto (-91), 3) := by decide +kernel
theorem dX0_countMissed_112 : decode cX0_countMissed 112 = .ok (.return_, 1) := by decide +kernel
theorem dX0_bestPair_0 : decode cX0_bestPair 0 = .ok (.aload_n 0, 1) := by decide +kernel
theorem dX0_bestPair_1 : decode cX0_bestPair 1 = .ok (.aload_n 1, 1) := by decide +kernel
theorem dX0_bestPair_2 : decode cX0_bestPair 2 = .ok (.invokevirtual 67, 3) := by decide +kernel
theorem dX0_bestPair_5 : decode cX0_bestPair 5 = .ok (.iconst 0, 1) := by decide +kernel
theorem dX0_bestPair_6 : decode cX0_bestPair 6 = .ok (.istore_n 2, 1) := by decide +kernel
theorem dX0_bestPair_7 : decode cX0_bestPair 7 = .ok (.iconst (-1), 1) := by decide +kernel
theorem dX0_bestPair_8 : decode cX0_bestPair 8 = .ok (.istore_n 3, 1) := by decide +kernel
theorem dX0_bestPair_9 : decode cX0_bestPair 9 = .ok (.iconst 0, 1) := by decide +kernel
theorem dX0_bestPair_10 : decode cX0_bestPair 10 = .ok (.istore 4, 2) := by decide +kernel
theorem dX0_bestPair_12 : decode cX0_bestPair 12 = .ok (.iload 4, 2) := by decide +kernel
theorem dX0_bestPair_14 : decode cX0_bestPair 14 = .ok (.bipush 52, 2) := by decide +kernel
theorem dX0_bestPair_16 : decode cX0_bestPair 16 = .ok (.if_icmp .ge 65, 3) := by decide +kernel
theorem dX0_bestPair_19 : decode cX0_bestPair 19 = .ok (.iload 4, 2) := by decide +kernel
theorem dX0_bestPair_21 : decode cX0_bestPair 21 = .ok (.iconst 1, 1) := by decide +kernel
theorem dX0_bestPair_22 : decode cX0_bestPair 22 = .ok (.iadd, 1) := by decide +kernel
theorem dX0_bestPair_23 : decode cX0_bestPair 23 = .ok (.istore 5, 2) := by decide +kernel
theorem dX0_bestPair_25 : decode cX0_bestPair 25 = .ok (.iload 5, 2) := by decide +kernel
theorem dX0_bestPair_27 : decode cX0_bestPair 27 = .ok (.bipush 52, 2) := by decide +kernel
theorem dX0_bestPair_29 : decode cX0_bestPair 29 = .ok (.if_icmp .ge 46, 3) := by decide +kernel
theorem dX0_bestPair_32 : decode cX0_bestPair 32 = .ok (.aload_n 0, 1) := by decide +kernel
theorem dX0_bestPair_33 : decode cX0_bestPair 33 = .ok (.iload 4, 2) := by decide +kernel
theorem dX0_bestPair_35 : decode cX0_bestPair 35 = .ok (.iload 5, 2) := by decide +kernel
theorem dX0_bestPair_37 : decode cX0_bestPair 37 = .ok (.invokevirtual 71, 3) := by decide +kernel
theorem dX0_bestPair_40 : decode cX0_bestPair 40 = .ok (.aload_n 0, 1) := by decide +kernel
theorem dX0_bestPair_41 : decode cX0_bestPair 41 = .ok (.iload 5, 2) := by decide +kernel
theorem dX0_bestPair_43 : decode cX0_bestPair 43 = .ok (.iload 4, 2) := by decide +kernel
theorem dX0_bestPair_45 : decode cX0_bestPair 45 = .ok (.invokevirtual 71, 3) := by decide +kernel
theorem dX0_bestPair_48 : decode cX0_bestPair 48 = .ok (.iadd, 1) := by decide +kernel
theorem dX0_bestPair_49 : decode cX0_bestPair 49 = .ok (.istore 6, 2) := by decide +kernel
theorem dX0_bestPair_51 : decode cX0_bestPair 51 = .ok (.iload 6, 2) := by decide +kernel
theorem dX0_bestPair_53 : decode cX0_bestPair 53 = .ok (.iload_n 2, 1) := by decide +kernel
theorem dX0_bestPair_54 : decode cX0_bestPair 54 = .ok (.if_icmp .le 15, 3) := by decide +kernel
theorem dX0_bestPair_57 : decode cX0_bestPair 57 = .ok (.iload 6, 2) := by decide +kernel
theorem dX0_bestPair_59 : decode cX0_bestPair 59 = .ok (.istore_n 2, 1) := by decide +kernel
theorem dX0_bestPair_60 : decode cX0_bestPair 60 = .ok (.bipush 52, 2) := by decide +kernel
theorem dX0_bestPair_62 : decode cX0_bestPair 62 = .ok (.iload 4, 2) := by decide +kernel
theorem dX0_bestPair_64 : decode cX0_bestPair 64 = .ok (.imul, 1) := by decide +kernel
theorem dX0_bestPair_65 : decode cX0_bestPair 65 = .ok (.iload 5, 2) := by decide +kernel
theorem dX0_bestPair_67 : decode cX0_bestPair 67 = .ok (.iadd, 1) := by decide +kernel
theorem dX0_bestPair_68 : decode cX0_bestPair 68 = .ok (.istore_n 3, 1) := by decide +kernel
theorem dX0_bestPair_69 : decode cX0_bestPair 69 = .ok (.iinc 5 1, 3) := by decide +kernel
theorem dX0_bestPair_72 : decode cX0_bestPair 72 = .ok (.goto (-47), 3) := by decide +kernel
theorem dX0_bestPair_75 : decode cX0_bestPair 75 = .ok (.iinc 4 1, 3) := by decide +kernel
theorem dX0_bestPair_78 : decode cX0_bestPair 78 = .ok (.goto (-66), 3) := by decide +kernel
theorem dX0_bestPair_81 : decode cX0_bestPair 81 = .ok (.iload_n 3, 1) := by decide +kernel
theorem dX0_bestPair_82 : decode cX0_bestPair 82 = .ok (.ireturn, 1) := by decide +kernel
theorem dX0_sumUp_0 : decode cX0_sumUp 0 = .ok (.aload_n 0, 1) := by decide +kernel
theorem dX0_sumUp_1 : decode cX0_sumUp 1 = .ok (.getfield 18, 3) := by decide +kernel
theorem dX0_sumUp_4 : decode cX0_sumUp 4 = .ok (.iconst 0, 1) := by decide +kernel
theorem dX0_sumUp_5 : decode cX0_sumUp 5 = .ok (.invokestatic 35, 3) := by decide +kernel
theorem dX0_sumUp_8 : decode cX0_sumUp 8 = .ok (.aload_n 0, 1) := by decide +kernel
theorem dX0_sumUp_9 : decode cX0_sumUp 9 = .ok (.getfield 21, 3) := by decide +kernel
theorem dX0_sumUp_12 : decode cX0_sumUp 12 = .ok (.iconst 0, 1) := by decide +kernel
theorem dX0_sumUp_13 : decode cX0_sumUp 13 = .ok (.invokestatic 35, 3) := by decide +kernel
theorem dX0_sumUp_16 : decode cX0_sumUp 16 = .ok (.iconst 0, 1) := by decide +kernel
theorem dX0_sumUp_17 : decode cX0_sumUp 17 = .ok (.istore_n 2, 1) := by decide +kernel
theorem dX0_sumUp_18 : decode cX0_sumUp 18 = .ok (.iload_n 2, 1) := by decide +kernel
theorem dX0_sumUp_19 : decode cX0_sumUp 19 = .ok (.aload_n 0, 1) := by decide +kernel
theorem dX0_sumUp_20 : decode cX0_sumUp 20 = .ok (.getfield 24, 3) := by decide +kernel
theorem dX0_sumUp_23 : decode cX0_sumUp 23 = .ok (.getfield 75, 3) := by decide +kernel
theorem dX0_sumUp_26 : decode cX0_sumUp 26 = .ok (.arraylength, 1) := by decide +kernel
theorem dX0_sumUp_27 : decode cX0_sumUp 27 = .ok (.if_icmp .ge 31, 3) := by decide +kernel
theorem dX0_sumUp_30 : decode cX0_sumUp 30 = .ok (.aload_n 0, 1) := by decide +kernel
theorem dX0_sumUp_31 : decode cX0_sumUp 31 = .ok (.getfield 21, 3) := by decide +kernel
theorem dX0_sumUp_34 : decode cX0_sumUp 34 = .ok (.iload_n 2, 1) := by decide +kernel
theorem dX0_sumUp_35 : decode cX0_sumUp 35 = .ok (.iconst 3, 1) := by decide +kernel
theorem dX0_sumUp_36 : decode cX0_sumUp 36 = .ok (.irem, 1) := by decide +kernel
theorem dX0_sumUp_37 : decode cX0_sumUp 37 = .ok (.dup2, 1) := by decide +kernel
theorem dX0_sumUp_38 : decode cX0_sumUp 38 = .ok (.iaload, 1) := by decide +kernel
theorem dX0_sumUp_39 : decode cX0_sumUp 39 = .ok (.iconst 1, 1) := by decide +kernel
theorem dX0_sumUp_40 : decode cX0_sumUp 40 = .ok (.aload_n 0, 1) := by decide +kernel
theorem dX0_sumUp_41 : decode cX0_sumUp 41 = .ok (.getfield 24, 3) := by decide +kernel
theorem dX0_sumUp_44 : decode cX0_sumUp 44 = .ok (.getfield 75, 3) := by decide +kernel
theorem dX0_sumUp_47 : decode cX0_sumUp 47 = .ok (.iload_n 2, 1) := by decide +kernel
theorem dX0_sumUp_48 : decode cX0_sumUp 48 = .ok (.iaload, 1) := by decide +kernel
theorem dX0_sumUp_49 : decode cX0_sumUp 49 = .ok (.ishl, 1) := by decide +kernel
theorem dX0_sumUp_50 : decode cX0_sumUp 50 = .ok (.ior, 1) := by decide +kernel
theorem dX0_sumUp_51 : decode cX0_sumUp 51 = .ok (.iastore, 1) := by decide +kernel
theorem dX0_sumUp_52 : decode cX0_sumUp 52 = .ok (.iinc 2 1, 3) := by decide +kernel
theorem dX0_sumUp_55 : decode cX0_sumUp 55 = .ok (.goto (-37), 3) := by decide +kernel
theorem dX0_sumUp_58 : decode cX0_sumUp 58 = .ok (.iconst 0, 1) := by decide +kernel
theorem dX0_sumUp_59 : decode cX0_sumUp 59 = .ok (.istore_n 2, 1) := by decide +kernel
theorem dX0_sumUp_60 : decode cX0_sumUp 60 = .ok (.iload_n 2, 1) := by decide +kernel
theorem dX0_sumUp_61 : decode cX0_sumUp 61 = .ok (.aload_n 0, 1) := by decide +kernel
theorem dX0_sumUp_62 : decode cX0_sumUp 62 = .ok (.getfield 24, 3) := by decide +kernel
theorem dX0_sumUp_65 : decode cX0_sumUp 65 = .ok (.getfield 41, 3) := by decide +kernel
theorem dX0_sumUp_68 : decode cX0_sumUp 68 = .ok (.if_icmp .ge 159, 3) := by decide +kernel
theorem dX0_sumUp_71 : decode cX0_sumUp 71 = .ok (.aload_n 0, 1) := by decide +kernel
theorem dX0_sumUp_72 : decode cX0_sumUp 72 = .ok (.getfield 24, 3) := by decide +kernel
theorem dX0_sumUp_75 : decode cX0_sumUp 75 = .ok (.getfield 47, 3) := by decide +kernel
theorem dX0_sumUp_78 : decode cX0_sumUp 78 = .ok (.iload_n 2, 1) := by decide +kernel
theorem dX0_sumUp_79 : decode cX0_sumUp 79 = .ok (.aaload, 1) := by decide +kernel
theorem dX0_sumUp_80 : decode cX0_sumUp 80 = .ok (.astore_n 3, 1) := by decide +kernel
theorem dX0_sumUp_81 : decode cX0_sumUp 81 = .ok (.iconst 0, 1) := by decide +kernel
theorem dX0_sumUp_82 : decode cX0_sumUp 82 = .ok (.istore 4, 2) := by decide +kernel
theorem dX0_sumUp_84 : decode cX0_sumUp 84 = .ok (.iload 4, 2) := by decide +kernel
theorem dX0_sumUp_86 : decode cX0_sumUp 86 = .ok (.aload_n 3, 1) := by decide +kernel
theorem dX0_sumUp_87 : decode cX0_sumUp 87 = .ok (.getfield 51, 3) := by decide +kernel
theorem dX0_sumUp_90 : decode cX0_sumUp 90 = .ok (.if_icmp .ge 131, 3) := by decide +kernel
theorem dX0_sumUp_93 : decode cX0_sumUp 93 = .ok (.aload_n 3, 1) := by decide +kernel
theorem dX0_sumUp_94 : decode cX0_sumUp 94 = .ok (.getfield 56, 3) := by decide +kernel
theorem dX0_sumUp_97 : decode cX0_sumUp 97 = .ok (.ifCond .eq 124, 3) := by decide +kernel
theorem dX0_sumUp_100 : decode cX0_sumUp 100 = .ok (.aload_n 3, 1) := by decide +kernel
theorem dX0_sumUp_101 : decode cX0_sumUp 101 = .ok (.iload 4, 2) := by decide +kernel
theorem dX0_sumUp_103 : decode cX0_sumUp 103 = .ok (.invokevirtual 78, 3) := by decide +kernel
theorem dX0_sumUp_106 : decode cX0_sumUp 106 = .ok (.istore 5, 2) := by decide +kernel
theorem dX0_sumUp_108 : decode cX0_sumUp 108 = .ok (.iload 5, 2) := by decide +kernel
theorem dX0_sumUp_110 : decode cX0_sumUp 110 = .ok (.ifCond .ne 28, 3) := by decide +kernel
theorem dX0_sumUp_113 : decode cX0_sumUp 113 = .ok (.aload_n 0, 1) := by decide +kernel
theorem dX0_sumUp_114 : decode cX0_sumUp 114 = .ok (.getfield 28, 3) := by decide +kernel
theorem dX0_sumUp_117 : decode cX0_sumUp 117 = .ok (.iload_n 2, 1) := by decide +kernel
theorem dX0_sumUp_118 : decode cX0_sumUp 118 = .ok (.aload_n 3, 1) := by decide +kernel
theorem dX0_sumUp_119 : decode cX0_sumUp 119 = .ok (.getfield 81, 3) := by decide +kernel
theorem dX0_sumUp_122 : decode cX0_sumUp 122 = .ok (.aload_n 3, 1) := by decide +kernel
theorem dX0_sumUp_123 : decode cX0_sumUp 123 = .ok (.iload 4, 2) := by decide +kernel
theorem dX0_sumUp_125 : decode cX0_sumUp 125 = .ok (.invokevirtual 85, 3) := by decide +kernel
theorem dX0_sumUp_128 : decode cX0_sumUp 128 = .ok (.aload_n 0, 1) := by decide +kernel
theorem dX0_sumUp_129 : decode cX0_sumUp 129 = .ok (.getfield 24, 3) := by decide +kernel
theorem dX0_sumUp_132 : decode cX0_sumUp 132 = .ok (.getfield 88, 3) := by decide +kernel
theorem dX0_sumUp_135 : decode cX0_sumUp 135 = .ok (.invokevirtual 91, 3) := by decide +kernel
theorem dX0_sumUp_138 : decode cX0_sumUp 138 = .ok (.aload_n 3, 1) := by decide +kernel
theorem dX0_sumUp_139 : decode cX0_sumUp 139 = .ok (.iload 4, 2) := by decide +kernel
theorem dX0_sumUp_141 : decode cX0_sumUp 141 = .ok (.invokevirtual 60, 3) := by decide +kernel
theorem dX0_sumUp_144 : decode cX0_sumUp 144 = .ok (.iconst 3, 1) := by decide +kernel
theorem dX0_sumUp_145 : decode cX0_sumUp 145 = .ok (.imul, 1) := by decide +kernel
theorem dX0_sumUp_146 : decode cX0_sumUp 146 = .ok (.iload 5, 2) := by decide +kernel
theorem dX0_sumUp_148 : decode cX0_sumUp 148 = .ok (.iadd, 1) := by decide +kernel
theorem dX0_sumUp_149 : decode cX0_sumUp 149 = .ok (.bipush 10, 2) := by decide +kernel
theorem dX0_sumUp_151 : decode cX0_sumUp 151 = .ok (.imul, 1) := by decide +kernel
theorem dX0_sumUp_152 : decode cX0_sumUp 152 = .ok (.istore 6, 2) := by decide +kernel
theorem dX0_sumUp_154 : decode cX0_sumUp 154 = .ok (.iconst 0, 1) := by decide +kernel
theorem dX0_sumUp_155 : decode cX0_sumUp 155 = .ok (.istore 7, 2) := by decide +kernel
theorem dX0_sumUp_157 : decode cX0_sumUp 157 = .ok (.iload 7, 2) := by decide +kernel
theorem dX0_sumUp_159 : decode cX0_sumUp 159 = .ok (.bipush 10, 2) := by decide +kernel
theorem dX0_sumUp_161 : decode cX0_sumUp 161 = .ok (.if_icmp .ge 54, 3) := by decide +kernel
theorem dX0_sumUp_164 : decode cX0_sumUp 164 = .ok (.aload_n 0, 1) := by decide +kernel
theorem dX0_sumUp_165 : decode cX0_sumUp 165 = .ok (.getfield 18, 3) := by decide +kernel
theorem dX0_sumUp_168 : decode cX0_sumUp 168 = .ok (.iload 6, 2) := by decide +kernel
theorem dX0_sumUp_170 : decode cX0_sumUp 170 = .ok (.iload 7, 2) := by decide +kernel
theorem dX0_sumUp_172 : decode cX0_sumUp 172 = .ok (.iadd, 1) := by decide +kernel
theorem dX0_sumUp_173 : decode cX0_sumUp 173 = .ok (.dup2, 1) := by decide +kernel
theorem dX0_sumUp_174 : decode cX0_sumUp 174 = .ok (.iaload, 1) := by decide +kernel
theorem dX0_sumUp_175 : decode cX0_sumUp 175 = .ok (.aload_n 0, 1) := by decide +kernel
theorem dX0_sumUp_176 : decode cX0_sumUp 176 = .ok (.getfield 21, 3) := by decide +kernel
theorem dX0_sumUp_179 : decode cX0_sumUp 179 = .ok (.iload 5, 2) := by decide +kernel
theorem dX0_sumUp_181 : decode cX0_sumUp 181 = .ok (.iaload, 1) := by decide +kernel
theorem dX0_sumUp_182 : decode cX0_sumUp 182 = .ok (.iload 7, 2) := by decide +kernel
theorem dX0_sumUp_184 : decode cX0_sumUp 184 = .ok (.ishr, 1) := by decide +kernel
theorem dX0_sumUp_185 : decode cX0_sumUp 185 = .ok (.iconst 1, 1) := by decide +kernel
theorem dX0_sumUp_186 : decode cX0_sumUp 186 = .ok (.iand, 1) := by decide +kernel
theorem dX0_sumUp_187 : decode cX0_sumUp 187 = .ok (.iconst 1, 1) := by decide +kernel
theorem dX0_sumUp_188 : decode cX0_sumUp 188 = .ok (.if_icmp .ne 18, 3) := by decide +kernel
theorem dX0_sumUp_191 : decode cX0_sumUp 191 = .ok (.aload_n 0, 1) := by decide +kernel
theorem dX0_sumUp_192 : decode cX0_sumUp 192 = .ok (.getfield 28, 3) := by decide +kernel
theorem dX0_sumUp_195 : decode cX0_sumUp 195 = .ok (.aload_n 1, 1) := by decide +kernel
theorem dX0_sumUp_196 : decode cX0_sumUp 196 = .ok (.iload 5, 2) := by decide +kernel
theorem dX0_sumUp_198 : decode cX0_sumUp 198 = .ok (.iload 7, 2) := by decide +kernel
theorem dX0_sumUp_200 : decode cX0_sumUp 200 = .ok (.invokevirtual 97, 3) := by decide +kernel
theorem dX0_sumUp_203 : decode cX0_sumUp 203 = .ok (.goto 4, 3) := by decide +kernel
theorem dX0_sumUp_206 : decode cX0_sumUp 206 = .ok (.iconst 0, 1) := by decide +kernel
theorem dX0_sumUp_207 : decode cX0_sumUp 207 = .ok (.iadd, 1) := by decide +kernel
theorem dX0_sumUp_208 : decode cX0_sumUp 208 = .ok (.iastore, 1) := by decide +kernel
theorem dX0_sumUp_209 : decode cX0_sumUp 209 = .ok (.iinc 7 1, 3) := by decide +kernel
theorem dX0_sumUp_212 : decode cX0_sumUp 212 = .ok (.goto (-55), 3) := by decide +kernel
theorem dX0_sumUp_215 : decode cX0_sumUp 215 = .ok (.iinc 4 1, 3) := by decide +kernel
theorem dX0_sumUp_218 : decode cX0_sumUp 218 = .ok (.goto (-134), 3) := by decide +kernel
theorem dX0_sumUp_221 : decode cX0_sumUp 221 = .ok (.iinc 2 1, 3) := by decide +kernel
theorem dX0_sumUp_224 : decode cX0_sumUp 224 = .ok (.goto (-164), 3) := by decide +kernel
theorem dX0_sumUp_227 : decode cX0_sumUp 227 = .ok (.return_, 1) := by decide +kernel
theorem dX0_gainAs_0 : decode cX0_gainAs 0 = .ok (.iconst 0, 1) := by decide +kernel
theorem dX0_gainAs_1 : decode cX0_gainAs 1 = .ok (.istore_n 3, 1) := by decide +kernel
theorem dX0_gainAs_2 : decode cX0_gainAs 2 = .ok (.iconst 0, 1) := by decide +kernel
theorem dX0_gainAs_3 : decode cX0_gainAs 3 = .ok (.istore 4, 2) := by decide +kernel
theorem dX0_gainAs_5 : decode cX0_gainAs 5 = .ok (.iload 4, 2) := by decide +kernel
theorem dX0_gainAs_7 : decode cX0_gainAs 7 = .ok (.iconst 3, 1) := by decide +kernel
theorem dX0_gainAs_8 : decode cX0_gainAs 8 = .ok (.if_icmp .ge 68, 3) := by decide +kernel
theorem dX0_gainAs_11 : decode cX0_gainAs 11 = .ok (.iload_n 1, 1) := by decide +kernel
theorem dX0_gainAs_12 : decode cX0_gainAs 12 = .ok (.iconst 3, 1) := by decide +kernel
theorem dX0_gainAs_13 : decode cX0_gainAs 13 = .ok (.imul, 1) := by decide +kernel
theorem dX0_gainAs_14 : decode cX0_gainAs 14 = .ok (.iload 4, 2) := by decide +kernel
theorem dX0_gainAs_16 : decode cX0_gainAs 16 = .ok (.iadd, 1) := by decide +kernel
theorem dX0_gainAs_17 : decode cX0_gainAs 17 = .ok (.bipush 10, 2) := by decide +kernel
theorem dX0_gainAs_19 : decode cX0_gainAs 19 = .ok (.imul, 1) := by decide +kernel
theorem dX0_gainAs_20 : decode cX0_gainAs 20 = .ok (.istore 5, 2) := by decide +kernel
theorem dX0_gainAs_22 : decode cX0_gainAs 22 = .ok (.iload_n 3, 1) := by decide +kernel
theorem dX0_gainAs_23 : decode cX0_gainAs 23 = .ok (.aload_n 0, 1) := by decide +kernel
theorem dX0_gainAs_24 : decode cX0_gainAs 24 = .ok (.getfield 18, 3) := by decide +kernel
theorem dX0_gainAs_27 : decode cX0_gainAs 27 = .ok (.iload 5, 2) := by decide +kernel
theorem dX0_gainAs_29 : decode cX0_gainAs 29 = .ok (.aload_n 0, 1) := by decide +kernel
theorem dX0_gainAs_30 : decode cX0_gainAs 30 = .ok (.getfield 24, 3) := by decide +kernel
theorem dX0_gainAs_33 : decode cX0_gainAs 33 = .ok (.getfield 75, 3) := by decide +kernel
theorem dX0_gainAs_36 : decode cX0_gainAs 36 = .ok (.iload_n 2, 1) := by decide +kernel
theorem dX0_gainAs_37 : decode cX0_gainAs 37 = .ok (.iconst 3, 1) := by decide +kernel
theorem dX0_gainAs_38 : decode cX0_gainAs 38 = .ok (.imul, 1) := by decide +kernel
theorem dX0_gainAs_39 : decode cX0_gainAs 39 = .ok (.iload 4, 2) := by decide +kernel
theorem dX0_gainAs_41 : decode cX0_gainAs 41 = .ok (.iadd, 1) := by decide +kernel
theorem dX0_gainAs_42 : decode cX0_gainAs 42 = .ok (.iaload, 1) := by decide +kernel
theorem dX0_gainAs_43 : decode cX0_gainAs 43 = .ok (.iadd, 1) := by decide +kernel
theorem dX0_gainAs_44 : decode cX0_gainAs 44 = .ok (.iaload, 1) := by decide +kernel
theorem dX0_gainAs_45 : decode cX0_gainAs 45 = .ok (.aload_n 0, 1) := by decide +kernel
theorem dX0_gainAs_46 : decode cX0_gainAs 46 = .ok (.getfield 18, 3) := by decide +kernel
theorem dX0_gainAs_49 : decode cX0_gainAs 49 = .ok (.iload 5, 2) := by decide +kernel
theorem dX0_gainAs_51 : decode cX0_gainAs 51 = .ok (.aload_n 0, 1) := by decide +kernel
theorem dX0_gainAs_52 : decode cX0_gainAs 52 = .ok (.getfield 24, 3) := by decide +kernel
theorem dX0_gainAs_55 : decode cX0_gainAs 55 = .ok (.getfield 75, 3) := by decide +kernel
theorem dX0_gainAs_58 : decode cX0_gainAs 58 = .ok (.iload_n 1, 1) := by decide +kernel
theorem dX0_gainAs_59 : decode cX0_gainAs 59 = .ok (.iconst 3, 1) := by decide +kernel
theorem dX0_gainAs_60 : decode cX0_gainAs 60 = .ok (.imul, 1) := by decide +kernel
theorem dX0_gainAs_61 : decode cX0_gainAs 61 = .ok (.iload 4, 2) := by decide +kernel
theorem dX0_gainAs_63 : decode cX0_gainAs 63 = .ok (.iadd, 1) := by decide +kernel
theorem dX0_gainAs_64 : decode cX0_gainAs 64 = .ok (.iaload, 1) := by decide +kernel
theorem dX0_gainAs_65 : decode cX0_gainAs 65 = .ok (.iadd, 1) := by decide +kernel
theorem dX0_gainAs_66 : decode cX0_gainAs 66 = .ok (.iaload, 1) := by decide +kernel
theorem dX0_gainAs_67 : decode cX0_gainAs 67 = .ok (.isub, 1) := by decide +kernel
theorem dX0_gainAs_68 : decode cX0_gainAs 68 = .ok (.iadd, 1) := by decide +kernel
theorem dX0_gainAs_69 : decode cX0_gainAs 69 = .ok (.istore_n 3, 1) := by decide +kernel
theorem dX0_gainAs_70 : decode cX0_gainAs 70 = .ok (.iinc 4 1, 3) := by decide +kernel
theorem dX0_gainAs_73 : decode cX0_gainAs 73 = .ok (.goto (-68), 3) := by decide +kernel
theorem dX0_gainAs_76 : decode cX0_gainAs 76 = .ok (.iload_n 3, 1) := by decide +kernel
theorem dX0_gainAs_77 : decode cX0_gainAs 77 = .ok (.ireturn, 1) := by decide +kernel
theorem dX1_init_0 : decode cX1_init 0 = .ok (.aload_n 0, 1) := by decide +kernel
theorem dX1_init_1 : decode cX1_init 1 = .ok (.invokespecial 3, 3) := by decide +kernel
theorem dX1_init_4 : decode cX1_init 4 = .ok (.aload_n 0, 1) := by decide +kernel
theorem dX1_init_5 : decode cX1_init 5 = .ok (.iconst 5, 1) := by decide +kernel
theorem dX1_init_6 : decode cX1_init 6 = .ok (.newarray .int, 2) := by decide +kernel
theorem dX1_init_8 : decode cX1_init 8 = .ok (.putfield 9, 3) := by decide +kernel
theorem dX1_init_11 : decode cX1_init 11 = .ok (.aload_n 0, 1) := by decide +kernel
theorem dX1_init_12 : decode cX1_init 12 = .ok (.bipush 6, 2) := by decide +kernel
theorem dX1_init_14 : decode cX1_init 14 = .ok (.newarray .int, 2) := by decide +kernel
theorem dX1_init_16 : decode cX1_init 16 = .ok (.putfield 15, 3) := by decide +kernel
theorem dX1_init_19 : decode cX1_init 19 = .ok (.aload_n 0, 1) := by decide +kernel
theorem dX1_init_20 : decode cX1_init 20 = .ok (.iconst 0, 1) := by decide +kernel
theorem dX1_init_21 : decode cX1_init 21 = .ok (.putfield 18, 3) := by decide +kernel
theorem dX1_init_24 : decode cX1_init 24 = .ok (.aload_n 0, 1) := by decide +kernel
theorem dX1_init_25 : decode cX1_init 25 = .ok (.lconst 0, 1) := by decide +kernel
theorem dX1_init_26 : decode cX1_init 26 = .ok (.putfield 22, 3) := by decide +kernel
theorem dX1_init_29 : decode cX1_init 29 = .ok (.aload_n 0, 1) := by decide +kernel
theorem dX1_init_30 : decode cX1_init 30 = .ok (.lconst 1, 1) := by decide +kernel
theorem dX1_init_31 : decode cX1_init 31 = .ok (.putfield 26, 3) := by decide +kernel
theorem dX1_init_34 : decode cX1_init 34 = .ok (.aload_n 0, 1) := by decide +kernel
theorem dX1_init_35 : decode cX1_init 35 = .ok (.aload_n 1, 1) := by decide +kernel
theorem dX1_init_36 : decode cX1_init 36 = .ok (.putfield 29, 3) := by decide +kernel
theorem dX1_init_39 : decode cX1_init 39 = .ok (.return_, 1) := by decide +kernel
theorem dX1_weigh_0 : decode cX1_weigh 0 = .ok (.aload_n 2, 1) := by decide +kernel
theorem dX1_weigh_1 : decode cX1_weigh 1 = .ok (.invokevirtual 33, 3) := by decide +kernel
theorem dX1_weigh_4 : decode cX1_weigh 4 = .ok (.istore_n 3, 1) := by decide +kernel
theorem dX1_weigh_5 : decode cX1_weigh 5 = .ok (.iload_n 3, 1) := by decide +kernel
theorem dX1_weigh_6 : decode cX1_weigh 6 = .ok (.bipush 6, 2) := by decide +kernel
theorem dX1_weigh_8 : decode cX1_weigh 8 = .ok (.invokestatic 39, 3) := by decide +kernel
theorem dX1_weigh_11 : decode cX1_weigh 11 = .ok (.istore 4, 2) := by decide +kernel
theorem dX1_weigh_13 : decode cX1_weigh 13 = .ok (.aload_n 2, 1) := by decide +kernel
theorem dX1_weigh_14 : decode cX1_weigh 14 = .ok (.invokevirtual 45, 3) := by decide +kernel
theorem dX1_weigh_17 : decode cX1_weigh 17 = .ok (.iload_n 3, 1) := by decide +kernel
theorem dX1_weigh_18 : decode cX1_weigh 18 = .ok (.invokestatic 39, 3) := by decide +kernel
theorem dX1_weigh_21 : decode cX1_weigh 21 = .ok (.iconst 5, 1) := by decide +kernel
theorem dX1_weigh_22 : decode cX1_weigh 22 = .ok (.invokestatic 39, 3) := by decide +kernel
theorem dX1_weigh_25 : decode cX1_weigh 25 = .ok (.istore 5, 2) := by decide +kernel
theorem dX1_weigh_27 : decode cX1_weigh 27 = .ok (.aload_n 0, 1) := by decide +kernel
theorem dX1_weigh_28 : decode cX1_weigh 28 = .ok (.aload_n 2, 1) := by decide +kernel
theorem dX1_weigh_29 : decode cX1_weigh 29 = .ok (.iload 4, 2) := by decide +kernel
theorem dX1_weigh_31 : decode cX1_weigh 31 = .ok (.iload 5, 2) := by decide +kernel
theorem dX1_weigh_33 : decode cX1_weigh 33 = .ok (.invokevirtual 48, 3) := by decide +kernel
theorem dX1_weigh_36 : decode cX1_weigh 36 = .ok (.iconst 0, 1) := by decide +kernel
theorem dX1_weigh_37 : decode cX1_weigh 37 = .ok (.istore 6, 2) := by decide +kernel
theorem dX1_weigh_39 : decode cX1_weigh 39 = .ok (.iload 6, 2) := by decide +kernel
theorem dX1_weigh_41 : decode cX1_weigh 41 = .ok (.iload 5, 2) := by decide +kernel
theorem dX1_weigh_43 : decode cX1_weigh 43 = .ok (.if_icmp .gt 36, 3) := by decide +kernel
theorem dX1_weigh_46 : decode cX1_weigh 46 = .ok (.aload_n 0, 1) := by decide +kernel
theorem dX1_weigh_47 : decode cX1_weigh 47 = .ok (.getfield 15, 3) := by decide +kernel
theorem dX1_weigh_50 : decode cX1_weigh 50 = .ok (.iconst 0, 1) := by decide +kernel
theorem dX1_weigh_51 : decode cX1_weigh 51 = .ok (.invokestatic 52, 3) := by decide +kernel
theorem dX1_weigh_54 : decode cX1_weigh 54 = .ok (.aload_n 0, 1) := by decide +kernel
theorem dX1_weigh_55 : decode cX1_weigh 55 = .ok (.iload 6, 2) := by decide +kernel
theorem dX1_weigh_57 : decode cX1_weigh 57 = .ok (.iload 4, 2) := by decide +kernel
theorem dX1_weigh_59 : decode cX1_weigh 59 = .ok (.iconst 0, 1) := by decide +kernel
theorem dX1_weigh_60 : decode cX1_weigh 60 = .ok (.iconst 0, 1) := by decide +kernel
theorem dX1_weigh_61 : decode cX1_weigh 61 = .ok (.iconst 0, 1) := by decide +kernel
theorem dX1_weigh_62 : decode cX1_weigh 62 = .ok (.invokevirtual 58, 3) := by decide +kernel
theorem dX1_weigh_65 : decode cX1_weigh 65 = .ok (.aload_n 0, 1) := by decide +kernel
theorem dX1_weigh_66 : decode cX1_weigh 66 = .ok (.aload_n 1, 1) := by decide +kernel
theorem dX1_weigh_67 : decode cX1_weigh 67 = .ok (.aload_n 2, 1) := by decide +kernel
theorem dX1_weigh_68 : decode cX1_weigh 68 = .ok (.iload 6, 2) := by decide +kernel
theorem dX1_weigh_70 : decode cX1_weigh 70 = .ok (.invokevirtual 62, 3) := by decide +kernel
theorem dX1_weigh_73 : decode cX1_weigh 73 = .ok (.iinc 6 1, 3) := by decide +kernel
theorem dX1_weigh_76 : decode cX1_weigh 76 = .ok (.goto (-37), 3) := by decide +kernel
theorem dX1_weigh_79 : decode cX1_weigh 79 = .ok (.return_, 1) := by decide +kernel
theorem dX1_findOwn_0 : decode cX1_findOwn 0 = .ok (.iconst 0, 1) := by decide +kernel
theorem dX1_findOwn_1 : decode cX1_findOwn 1 = .ok (.istore 4, 2) := by decide +kernel
theorem dX1_findOwn_3 : decode cX1_findOwn 3 = .ok (.iconst 0, 1) := by decide +kernel
theorem dX1_findOwn_4 : decode cX1_findOwn 4 = .ok (.istore 5, 2) := by decide +kernel
theorem dX1_findOwn_6 : decode cX1_findOwn 6 = .ok (.iload 5, 2) := by decide +kernel
theorem dX1_findOwn_8 : decode cX1_findOwn 8 = .ok (.aload_n 1, 1) := by decide +kernel
theorem dX1_findOwn_9 : decode cX1_findOwn 9 = .ok (.getfield 66, 3) := by decide +kernel
theorem dX1_findOwn_12 : decode cX1_findOwn 12 = .ok (.if_icmp .ge 86, 3) := by decide +kernel
theorem dX1_findOwn_15 : decode cX1_findOwn 15 = .ok (.iload 4, 2) := by decide +kernel
theorem dX1_findOwn_17 : decode cX1_findOwn 17 = .ok (.iload_n 3, 1) := by decide +kernel
theorem dX1_findOwn_18 : decode cX1_findOwn 18 = .ok (.if_icmp .ge 80, 3) := by decide +kernel
theorem dX1_findOwn_21 : decode cX1_findOwn 21 = .ok (.aload_n 1, 1) := by decide +kernel
theorem dX1_findOwn_22 : decode cX1_findOwn 22 = .ok (.getfield 69, 3) := by decide +kernel
theorem dX1_findOwn_25 : decode cX1_findOwn 25 = .ok (.iload 5, 2) := by decide +kernel
theorem dX1_findOwn_27 : decode cX1_findOwn 27 = .ok (.iaload, 1) := by decide +kernel
theorem dX1_findOwn_28 : decode cX1_findOwn 28 = .ok (.iconst (-1), 1) := by decide +kernel
theorem dX1_findOwn_29 : decode cX1_findOwn 29 = .ok (.if_icmp .ne 63, 3) := by decide +kernel
theorem dX1_findOwn_32 : decode cX1_findOwn 32 = .ok (.aload_n 0, 1) := by decide +kernel
theorem dX1_findOwn_33 : decode cX1_findOwn 33 = .ok (.getfield 9, 3) := by decide +kernel
theorem dX1_findOwn_36 : decode cX1_findOwn 36 = .ok (.iload 4, 2) := by decide +kernel
theorem dX1_findOwn_38 : decode cX1_findOwn 38 = .ok (.iconst (-1), 1) := by decide +kernel
theorem dX1_findOwn_39 : decode cX1_findOwn 39 = .ok (.iastore, 1) := by decide +kernel
theorem dX1_findOwn_40 : decode cX1_findOwn 40 = .ok (.iconst 0, 1) := by decide +kernel
theorem dX1_findOwn_41 : decode cX1_findOwn 41 = .ok (.istore 6, 2) := by decide +kernel
theorem dX1_findOwn_43 : decode cX1_findOwn 43 = .ok (.iload 6, 2) := by decide +kernel
theorem dX1_findOwn_45 : decode cX1_findOwn 45 = .ok (.iload_n 2, 1) := by decide +kernel
theorem dX1_findOwn_46 : decode cX1_findOwn 46 = .ok (.if_icmp .ge 43, 3) := by decide +kernel
theorem dX1_findOwn_49 : decode cX1_findOwn 49 = .ok (.aload_n 0, 1) := by decide +kernel
theorem dX1_findOwn_50 : decode cX1_findOwn 50 = .ok (.getfield 9, 3) := by decide +kernel
theorem dX1_findOwn_53 : decode cX1_findOwn 53 = .ok (.iload 4, 2) := by decide +kernel
theorem dX1_findOwn_55 : decode cX1_findOwn 55 = .ok (.aload_n 1, 1) := by decide +kernel
theorem dX1_findOwn_56 : decode cX1_findOwn 56 = .ok (.iload 6, 2) := by decide +kernel
theorem dX1_findOwn_58 : decode cX1_findOwn 58 = .ok (.invokevirtual 72, 3) := by decide +kernel
theorem dX1_findOwn_61 : decode cX1_findOwn 61 = .ok (.aload_n 1, 1) := by decide +kernel
theorem dX1_findOwn_62 : decode cX1_findOwn 62 = .ok (.iload 5, 2) := by decide +kernel
theorem dX1_findOwn_64 : decode cX1_findOwn 64 = .ok (.invokevirtual 76, 3) := by decide +kernel
theorem dX1_findOwn_67 : decode cX1_findOwn 67 = .ok (.if_icmp .ne 8, 3) := by decide +kernel
theorem dX1_findOwn_70 : decode cX1_findOwn 70 = .ok (.iload 6, 2) := by decide +kernel
theorem dX1_findOwn_72 : decode cX1_findOwn 72 = .ok (.goto 10, 3) := by decide +kernel
theorem dX1_findOwn_75 : decode cX1_findOwn 75 = .ok (.aload_n 0, 1) := by decide +kernel
theorem dX1_findOwn_76 : decode cX1_findOwn 76 = .ok (.getfield 9, 3) := by decide +kernel
theorem dX1_findOwn_79 : decode cX1_findOwn 79 = .ok (.iload 4, 2) := by decide +kernel
theorem dX1_findOwn_81 : decode cX1_findOwn 81 = .ok (.iaload, 1) := by decide +kernel
theorem dX1_findOwn_82 : decode cX1_findOwn 82 = .ok (.iastore, 1) := by decide +kernel
theorem dX1_findOwn_83 : decode cX1_findOwn 83 = .ok (.iinc 6 1, 3) := by decide +kernel
theorem dX1_findOwn_86 : decode cX1_findOwn 86 = .ok (.goto (-43), 3) := by decide +kernel
theorem dX1_findOwn_89 : decode cX1_findOwn 89 = .ok (.iinc 4 1, 3) := by decide +kernel
theorem dX1_findOwn_92 : decode cX1_findOwn 92 = .ok (.iinc 5 1, 3) := by decide +kernel
theorem dX1_findOwn_95 : decode cX1_findOwn 95 = .ok (.goto (-89), 3) := by decide +kernel
theorem dX1_findOwn_98 : decode cX1_findOwn 98 = .ok (.return_, 1) := by decide +kernel
theorem dX1_spread_0 : decode cX1_spread 0 = .ok (.iload_n 3, 1) := by decide +kernel
theorem dX1_spread_1 : decode cX1_spread 1 = .ok (.iload_n 1, 1) := by decide +kernel
theorem dX1_spread_2 : decode cX1_spread 2 = .ok (.if_icmp .ge 8, 3) := by decide +kernel
theorem dX1_spread_5 : decode cX1_spread 5 = .ok (.iload_n 3, 1) := by decide +kernel
theorem dX1_spread_6 : decode cX1_spread 6 = .ok (.iconst 5, 1) := by decide +kernel
theorem dX1_spread_7 : decode cX1_spread 7 = .ok (.if_icmp .lt 15, 3) := by decide +kernel
theorem dX1_spread_10 : decode cX1_spread 10 = .ok (.aload_n 0, 1) := by decide +kernel
theorem dX1_spread_11 : decode cX1_spread 11 = .ok (.getfield 15, 3) := by decide +kernel
theorem dX1_spread_14 : decode cX1_spread 14 = .ok (.iload 5, 2) := by decide +kernel
theorem dX1_spread_16 : decode cX1_spread 16 = .ok (.dup2, 1) := by decide +kernel
theorem dX1_spread_17 : decode cX1_spread 17 = .ok (.iaload, 1) := by decide +kernel
theorem dX1_spread_18 : decode cX1_spread 18 = .ok (.iconst 1, 1) := by decide +kernel
theorem dX1_spread_19 : decode cX1_spread 19 = .ok (.iadd, 1) := by decide +kernel
theorem dX1_spread_20 : decode cX1_spread 20 = .ok (.iastore, 1) := by decide +kernel
theorem dX1_spread_21 : decode cX1_spread 21 = .ok (.return_, 1) := by decide +kernel
theorem dX1_spread_22 : decode cX1_spread 22 = .ok (.iconst 0, 1) := by decide +kernel
theorem dX1_spread_23 : decode cX1_spread 23 = .ok (.istore 6, 2) := by decide +kernel
theorem dX1_spread_25 : decode cX1_spread 25 = .ok (.iload 6, 2) := by decide +kernel
theorem dX1_spread_27 : decode cX1_spread 27 = .ok (.iload_n 2, 1) := by decide +kernel
theorem dX1_spread_28 : decode cX1_spread 28 = .ok (.if_icmp .ge 54, 3) := by decide +kernel
theorem dX1_spread_31 : decode cX1_spread 31 = .ok (.iload 4, 2) := by decide +kernel
theorem dX1_spread_33 : decode cX1_spread 33 = .ok (.iload 6, 2) := by decide +kernel
theorem dX1_spread_35 : decode cX1_spread 35 = .ok (.ishr, 1) := by decide +kernel
theorem dX1_spread_36 : decode cX1_spread 36 = .ok (.iconst 1, 1) := by decide +kernel
theorem dX1_spread_37 : decode cX1_spread 37 = .ok (.iand, 1) := by decide +kernel
theorem dX1_spread_38 : decode cX1_spread 38 = .ok (.ifCond .ne 38, 3) := by decide +kernel
theorem dX1_spread_41 : decode cX1_spread 41 = .ok (.aload_n 0, 1) := by decide +kernel
theorem dX1_spread_42 : decode cX1_spread 42 = .ok (.iload_n 1, 1) := by decide +kernel
theorem dX1_spread_43 : decode cX1_spread 43 = .ok (.iload_n 2, 1) := by decide +kernel
theorem dX1_spread_44 : decode cX1_spread 44 = .ok (.iload_n 3, 1) := by decide +kernel
theorem dX1_spread_45 : decode cX1_spread 45 = .ok (.iconst 1, 1) := by decide +kernel
theorem dX1_spread_46 : decode cX1_spread 46 = .ok (.iadd, 1) := by decide +kernel
theorem dX1_spread_47 : decode cX1_spread 47 = .ok (.iload 4, 2) := by decide +kernel
theorem dX1_spread_49 : decode cX1_spread 49 = .ok (.iconst 1, 1) := by decide +kernel
theorem dX1_spread_50 : decode cX1_spread 50 = .ok (.iload 6, 2) := by decide +kernel
theorem dX1_spread_52 : decode cX1_spread 52 = .ok (.ishl, 1) := by decide +kernel
theorem dX1_spread_53 : decode cX1_spread 53 = .ok (.ior, 1) := by decide +kernel
theorem dX1_spread_54 : decode cX1_spread 54 = .ok (.iload 5, 2) := by decide +kernel
theorem dX1_spread_56 : decode cX1_spread 56 = .ok (.aload_n 0, 1) := by decide +kernel
theorem dX1_spread_57 : decode cX1_spread 57 = .ok (.getfield 9, 3) := by decide +kernel
theorem dX1_spread_60 : decode cX1_spread 60 = .ok (.iload_n 3, 1) := by decide +kernel
theorem dX1_spread_61 : decode cX1_spread 61 = .ok (.iaload, 1) := by decide +kernel
theorem dX1_spread_62 : decode cX1_spread 62 = .ok (.iload 6, 2) := by decide +kernel
theorem dX1_spread_64 : decode cX1_spread 64 = .ok (.if_icmp .ne 7, 3) := by decide +kernel
theorem dX1_spread_67 : decode cX1_spread 67 = .ok (.iconst 1, 1) := by decide +kernel
theorem dX1_spread_68 : decode cX1_spread 68 = .ok (.goto 4, 3) := by decide +kernel
theorem dX1_spread_71 : decode cX1_spread 71 = .ok (.iconst 0, 1) := by decide +kernel
theorem dX1_spread_72 : decode cX1_spread 72 = .ok (.iadd, 1) := by decide +kernel
theorem dX1_spread_73 : decode cX1_spread 73 = .ok (.invokevirtual 58, 3) := by decide +kernel
theorem dX1_spread_76 : decode cX1_spread 76 = .ok (.iinc 6 1, 3) := by decide +kernel
theorem dX1_spread_79 : decode cX1_spread 79 = .ok (.goto (-54), 3) := by decide +kernel
theorem dX1_spread_82 : decode cX1_spread 82 = .ok (.return_, 1) := by decide +kernel
theorem dX1_takeIfBetter_0 : decode cX1_takeIfBetter 0 = .ok (.lconst 0, 1) := by decide +kernel
theorem dX1_takeIfBetter_1 : decode cX1_takeIfBetter 1 = .ok (.lstore 4, 2) := by decide +kernel
theorem dX1_takeIfBetter_3 : decode cX1_takeIfBetter 3 = .ok (.lconst 0, 1) := by decide +kernel
theorem dX1_takeIfBetter_4 : decode cX1_takeIfBetter 4 = .ok (.lstore 6, 2) := by decide +kernel
theorem dX1_takeIfBetter_6 : decode cX1_takeIfBetter 6 = .ok (.aload_n 2, 1) := by decide +kernel
theorem dX1_takeIfBetter_7 : decode cX1_takeIfBetter 7 = .ok (.invokevirtual 79, 3) := by decide +kernel
theorem dX1_takeIfBetter_10 : decode cX1_takeIfBetter 10 = .ok (.istore 8, 2) := by decide +kernel
theorem dX1_takeIfBetter_12 : decode cX1_takeIfBetter 12 = .ok (.aload_n 2, 1) := by decide +kernel
theorem dX1_takeIfBetter_13 : decode cX1_takeIfBetter 13 = .ok (.invokevirtual 45, 3) := by decide +kernel
theorem dX1_takeIfBetter_16 : decode cX1_takeIfBetter 16 = .ok (.istore 9, 2) := by decide +kernel
theorem dX1_takeIfBetter_18 : decode cX1_takeIfBetter 18 = .ok (.iconst 0, 1) := by decide +kernel
theorem dX1_takeIfBetter_19 : decode cX1_takeIfBetter 19 = .ok (.istore 10, 2) := by decide +kernel
theorem dX1_takeIfBetter_21 : decode cX1_takeIfBetter 21 = .ok (.iload 10, 2) := by decide +kernel
theorem dX1_takeIfBetter_23 : decode cX1_takeIfBetter 23 = .ok (.iload_n 3, 1) := by decide +kernel
theorem dX1_takeIfBetter_24 : decode cX1_takeIfBetter 24 = .ok (.if_icmp .gt 57, 3) := by decide +kernel
theorem dX1_takeIfBetter_27 : decode cX1_takeIfBetter 27 = .ok (.lload 4, 2) := by decide +kernel
theorem dX1_takeIfBetter_29 : decode cX1_takeIfBetter 29 = .ok (.aload_n 0, 1) := by decide +kernel
theorem dX1_takeIfBetter_30 : decode cX1_takeIfBetter 30 = .ok (.getfield 15, 3) := by decide +kernel
theorem dX1_takeIfBetter_33 : decode cX1_takeIfBetter 33 = .ok (.iload 10, 2) := by decide +kernel
theorem dX1_takeIfBetter_35 : decode cX1_takeIfBetter 35 = .ok (.iaload, 1) := by decide +kernel
theorem dX1_takeIfBetter_36 : decode cX1_takeIfBetter 36 = .ok (.i2l, 1) := by decide +kernel
theorem dX1_takeIfBetter_37 : decode cX1_takeIfBetter 37 = .ok (.aload_n 0, 1) := by decide +kernel
theorem dX1_takeIfBetter_38 : decode cX1_takeIfBetter 38 = .ok (.getfield 29, 3) := by decide +kernel
theorem dX1_takeIfBetter_41 : decode cX1_takeIfBetter 41 = .ok (.aload_n 1, 1) := by decide +kernel
theorem dX1_takeIfBetter_42 : decode cX1_takeIfBetter 42 = .ok (.iload 8, 2) := by decide +kernel
theorem dX1_takeIfBetter_44 : decode cX1_takeIfBetter 44 = .ok (.iload 10, 2) := by decide +kernel
theorem dX1_takeIfBetter_46 : decode cX1_takeIfBetter 46 = .ok (.iadd, 1) := by decide +kernel
theorem dX1_takeIfBetter_47 : decode cX1_takeIfBetter 47 = .ok (.iload 9, 2) := by decide +kernel
theorem dX1_takeIfBetter_49 : decode cX1_takeIfBetter 49 = .ok (.iload_n 3, 1) := by decide +kernel
theorem dX1_takeIfBetter_50 : decode cX1_takeIfBetter 50 = .ok (.isub, 1) := by decide +kernel
theorem dX1_takeIfBetter_51 : decode cX1_takeIfBetter 51 = .ok (.aload_n 2, 1) := by decide +kernel
theorem dX1_takeIfBetter_52 : decode cX1_takeIfBetter 52 = .ok (.getfield 66, 3) := by decide +kernel
theorem dX1_takeIfBetter_55 : decode cX1_takeIfBetter 55 = .ok (.invokevirtual 82, 3) := by decide +kernel
theorem dX1_takeIfBetter_58 : decode cX1_takeIfBetter 58 = .ok (.lmul, 1) := by decide +kernel
theorem dX1_takeIfBetter_59 : decode cX1_takeIfBetter 59 = .ok (.ladd, 1) := by decide +kernel
theorem dX1_takeIfBetter_60 : decode cX1_takeIfBetter 60 = .ok (.lstore 4, 2) := by decide +kernel
theorem dX1_takeIfBetter_62 : decode cX1_takeIfBetter 62 = .ok (.lload 6, 2) := by decide +kernel
theorem dX1_takeIfBetter_64 : decode cX1_takeIfBetter 64 = .ok (.aload_n 0, 1) := by decide +kernel
theorem dX1_takeIfBetter_65 : decode cX1_takeIfBetter 65 = .ok (.getfield 15, 3) := by decide +kernel
theorem dX1_takeIfBetter_68 : decode cX1_takeIfBetter 68 = .ok (.iload 10, 2) := by decide +kernel
theorem dX1_takeIfBetter_70 : decode cX1_takeIfBetter 70 = .ok (.iaload, 1) := by decide +kernel
theorem dX1_takeIfBetter_71 : decode cX1_takeIfBetter 71 = .ok (.i2l, 1) := by decide +kernel
theorem dX1_takeIfBetter_72 : decode cX1_takeIfBetter 72 = .ok (.ladd, 1) := by decide +kernel
theorem dX1_takeIfBetter_73 : decode cX1_takeIfBetter 73 = .ok (.lstore 6, 2) := by decide +kernel
theorem dX1_takeIfBetter_75 : decode cX1_takeIfBetter 75 = .ok (.iinc 10 1, 3) := by decide +kernel
theorem dX1_takeIfBetter_78 : decode cX1_takeIfBetter 78 = .ok (.goto (-57), 3) := by decide +kernel
theorem dX1_takeIfBetter_81 : decode cX1_takeIfBetter 81 = .ok (.iload_n 3, 1) := by decide +kernel
theorem dX1_takeIfBetter_82 : decode cX1_takeIfBetter 82 = .ok (.ifCond .eq 21, 3) := by decide +kernel
theorem dX1_takeIfBetter_85 : decode cX1_takeIfBetter 85 = .ok (.lload 4, 2) := by decide +kernel
theorem dX1_takeIfBetter_87 : decode cX1_takeIfBetter 87 = .ok (.aload_n 0, 1) := by decide +kernel
theorem dX1_takeIfBetter_88 : decode cX1_takeIfBetter 88 = .ok (.getfield 26, 3) := by decide +kernel
theorem dX1_takeIfBetter_91 : decode cX1_takeIfBetter 91 = .ok (.lmul, 1) := by decide +kernel
theorem dX1_takeIfBetter_92 : decode cX1_takeIfBetter 92 = .ok (.aload_n 0, 1) := by decide +kernel
theorem dX1_takeIfBetter_93 : decode cX1_takeIfBetter 93 = .ok (.getfield 22, 3) := by decide +kernel
theorem dX1_takeIfBetter_96 : decode cX1_takeIfBetter 96 = .ok (.lload 6, 2) := by decide +kernel
theorem dX1_takeIfBetter_98 : decode cX1_takeIfBetter 98 = .ok (.lmul, 1) := by decide +kernel
theorem dX1_takeIfBetter_99 : decode cX1_takeIfBetter 99 = .ok (.lcmp, 1) := by decide +kernel
theorem dX1_takeIfBetter_100 : decode cX1_takeIfBetter 100 = .ok (.ifCond .le 20, 3) := by decide +kernel
theorem dX1_takeIfBetter_103 : decode cX1_takeIfBetter 103 = .ok (.aload_n 0, 1) := by decide +kernel
theorem dX1_takeIfBetter_104 : decode cX1_takeIfBetter 104 = .ok (.iload_n 3, 1) := by decide +kernel
theorem dX1_takeIfBetter_105 : decode cX1_takeIfBetter 105 = .ok (.putfield 18, 3) := by decide +kernel
theorem dX1_takeIfBetter_108 : decode cX1_takeIfBetter 108 = .ok (.aload_n 0, 1) := by decide +kernel
theorem dX1_takeIfBetter_109 : decode cX1_takeIfBetter 109 = .ok (.lload 4, 2) := by decide +kernel
theorem dX1_takeIfBetter_111 : decode cX1_takeIfBetter 111 = .ok (.putfield 22, 3) := by decide +kernel
theorem dX1_takeIfBetter_114 : decode cX1_takeIfBetter 114 = .ok (.aload_n 0, 1) := by decide +kernel
theorem dX1_takeIfBetter_115 : decode cX1_takeIfBetter 115 = .ok (.lload 6, 2) := by decide +kernel
theorem dX1_takeIfBetter_117 : decode cX1_takeIfBetter 117 = .ok (.putfield 26, 3) := by decide +kernel
theorem dX1_takeIfBetter_120 : decode cX1_takeIfBetter 120 = .ok (.return_, 1) := by decide +kernel
theorem dX2_init_0 : decode cX2_init 0 = .ok (.aload_n 0, 1) := by decide +kernel
theorem dX2_init_1 : decode cX2_init 1 = .ok (.invokespecial 3, 3) := by decide +kernel
theorem dX2_init_4 : decode cX2_init 4 = .ok (.aload_n 0, 1) := by decide +kernel
theorem dX2_init_5 : decode cX2_init 5 = .ok (.iconst 0, 1) := by decide +kernel
theorem dX2_init_6 : decode cX2_init 6 = .ok (.putfield 9, 3) := by decide +kernel
theorem dX2_init_9 : decode cX2_init 9 = .ok (.aload_n 0, 1) := by decide +kernel
theorem dX2_init_10 : decode cX2_init 10 = .ok (.iconst 0, 1) := by decide +kernel
theorem dX2_init_11 : decode cX2_init 11 = .ok (.putfield 15, 3) := by decide +kernel
theorem dX2_init_14 : decode cX2_init 14 = .ok (.aload_n 0, 1) := by decide +kernel
theorem dX2_init_15 : decode cX2_init 15 = .ok (.iconst 0, 1) := by decide +kernel
theorem dX2_init_16 : decode cX2_init 16 = .ok (.putfield 18, 3) := by decide +kernel
theorem dX2_init_19 : decode cX2_init 19 = .ok (.aload_n 0, 1) := by decide +kernel
theorem dX2_init_20 : decode cX2_init 20 = .ok (.iconst 0, 1) := by decide +kernel
theorem dX2_init_21 : decode cX2_init 21 = .ok (.putfield 21, 3) := by decide +kernel
theorem dX2_init_24 : decode cX2_init 24 = .ok (.aload_n 0, 1) := by decide +kernel
theorem dX2_init_25 : decode cX2_init 25 = .ok (.new 25, 3) := by decide +kernel
theorem dX2_init_28 : decode cX2_init 28 = .ok (.dup, 1) := by decide +kernel
theorem dX2_init_29 : decode cX2_init 29 = .ok (.invokespecial 27, 3) := by decide +kernel
theorem dX2_init_32 : decode cX2_init 32 = .ok (.putfield 28, 3) := by decide +kernel
theorem dX2_init_35 : decode cX2_init 35 = .ok (.aload_n 0, 1) := by decide +kernel
theorem dX2_init_36 : decode cX2_init 36 = .ok (.bipush 52, 2) := by decide +kernel
theorem dX2_init_38 : decode cX2_init 38 = .ok (.newarray .int, 2) := by decide +kernel
theorem dX2_init_40 : decode cX2_init 40 = .ok (.putfield 32, 3) := by decide +kernel
theorem dX2_init_43 : decode cX2_init 43 = .ok (.return_, 1) := by decide +kernel
theorem dX2_begin_0 : decode cX2_begin 0 = .ok (.aload_n 0, 1) := by decide +kernel
theorem dX2_begin_1 : decode cX2_begin 1 = .ok (.iload_n 1, 1) := by decide +kernel
theorem dX2_begin_2 : decode cX2_begin 2 = .ok (.putfield 9, 3) := by decide +kernel
theorem dX2_begin_5 : decode cX2_begin 5 = .ok (.aload_n 0, 1) := by decide +kernel
theorem dX2_begin_6 : decode cX2_begin 6 = .ok (.iload_n 2, 1) := by decide +kernel
theorem dX2_begin_7 : decode cX2_begin 7 = .ok (.putfield 15, 3) := by decide +kernel
theorem dX2_begin_10 : decode cX2_begin 10 = .ok (.aload_n 0, 1) := by decide +kernel
theorem dX2_begin_11 : decode cX2_begin 11 = .ok (.iload_n 3, 1) := by decide +kernel
theorem dX2_begin_12 : decode cX2_begin 12 = .ok (.putfield 18, 3) := by decide +kernel
theorem dX2_begin_15 : decode cX2_begin 15 = .ok (.aload_n 0, 1) := by decide +kernel
theorem dX2_begin_16 : decode cX2_begin 16 = .ok (.iconst 0, 1) := by decide +kernel
theorem dX2_begin_17 : decode cX2_begin 17 = .ok (.putfield 21, 3) := by decide +kernel
theorem dX2_begin_20 : decode cX2_begin 20 = .ok (.aload_n 0, 1) := by decide +kernel
theorem dX2_begin_21 : decode cX2_begin 21 = .ok (.getfield 32, 3) := by decide +kernel
theorem dX2_begin_24 : decode cX2_begin 24 = .ok (.iconst (-1), 1) := by decide +kernel
theorem dX2_begin_25 : decode cX2_begin 25 = .ok (.invokestatic 36, 3) := by decide +kernel
theorem dX2_begin_28 : decode cX2_begin 28 = .ok (.return_, 1) := by decide +kernel
theorem dX2_copyFrom_0 : decode cX2_copyFrom 0 = .ok (.aload_n 0, 1) := by decide +kernel
theorem dX2_copyFrom_1 : decode cX2_copyFrom 1 = .ok (.aload_n 1, 1) := by decide +kernel
theorem dX2_copyFrom_2 : decode cX2_copyFrom 2 = .ok (.getfield 9, 3) := by decide +kernel
theorem dX2_copyFrom_5 : decode cX2_copyFrom 5 = .ok (.putfield 9, 3) := by decide +kernel
theorem dX2_copyFrom_8 : decode cX2_copyFrom 8 = .ok (.aload_n 0, 1) := by decide +kernel
theorem dX2_copyFrom_9 : decode cX2_copyFrom 9 = .ok (.aload_n 1, 1) := by decide +kernel
theorem dX2_copyFrom_10 : decode cX2_copyFrom 10 = .ok (.getfield 15, 3) := by decide +kernel
theorem dX2_copyFrom_13 : decode cX2_copyFrom 13 = .ok (.putfield 15, 3) := by decide +kernel
theorem dX2_copyFrom_16 : decode cX2_copyFrom 16 = .ok (.aload_n 0, 1) := by decide +kernel
theorem dX2_copyFrom_17 : decode cX2_copyFrom 17 = .ok (.aload_n 1, 1) := by decide +kernel
theorem dX2_copyFrom_18 : decode cX2_copyFrom 18 = .ok (.getfield 18, 3) := by decide +kernel
theorem dX2_copyFrom_21 : decode cX2_copyFrom 21 = .ok (.putfield 18, 3) := by decide +kernel
theorem dX2_copyFrom_24 : decode cX2_copyFrom 24 = .ok (.aload_n 0, 1) := by decide +kernel
theorem dX2_copyFrom_25 : decode cX2_copyFrom 25 = .ok (.aload_n 1, 1) := by decide +kernel
theorem dX2_copyFrom_26 : decode cX2_copyFrom 26 = .ok (.getfield 21, 3) := by decide +kernel
theorem dX2_copyFrom_29 : decode cX2_copyFrom 29 = .ok (.putfield 21, 3) := by decide +kernel
theorem dX2_copyFrom_32 : decode cX2_copyFrom 32 = .ok (.aload_n 0, 1) := by decide +kernel
theorem dX2_copyFrom_33 : decode cX2_copyFrom 33 = .ok (.getfield 28, 3) := by decide +kernel
theorem dX2_copyFrom_36 : decode cX2_copyFrom 36 = .ok (.aload_n 1, 1) := by decide +kernel
theorem dX2_copyFrom_37 : decode cX2_copyFrom 37 = .ok (.getfield 28, 3) := by decide +kernel
theorem dX2_copyFrom_40 : decode cX2_copyFrom 40 = .ok (.invokevirtual 42, 3) := by decide +kernel
theorem dX2_copyFrom_43 : decode cX2_copyFrom 43 = .ok (.aload_n 1, 1) := by decide +kernel
theorem dX2_copyFrom_44 : decode cX2_copyFrom 44 = .ok (.getfield 32, 3) := by decide +kernel
theorem dX2_copyFrom_47 : decode cX2_copyFrom 47 = .ok (.iconst 0, 1) := by decide +kernel
theorem dX2_copyFrom_48 : decode cX2_copyFrom 48 = .ok (.aload_n 0, 1) := by decide +kernel
theorem dX2_copyFrom_49 : decode cX2_copyFrom 49 = .ok (.getfield 32, 3) := by decide +kernel
theorem dX2_copyFrom_52 : decode cX2_copyFrom 52 = .ok (.iconst 0, 1) := by decide +kernel
theorem dX2_copyFrom_53 : decode cX2_copyFrom 53 = .ok (.bipush 52, 2) := by decide +kernel
theorem dX2_copyFrom_55 : decode cX2_copyFrom 55 = .ok (.invokestatic 46, 3) := by decide +kernel
theorem dX2_copyFrom_58 : decode cX2_copyFrom 58 = .ok (.return_, 1) := by decide +kernel
theorem dX2_cardAt_0 : decode cX2_cardAt 0 = .ok (.aload_n 0, 1) := by decide +kernel
theorem dX2_cardAt_1 : decode cX2_cardAt 1 = .ok (.getfield 9, 3) := by decide +kernel
theorem dX2_cardAt_4 : decode cX2_cardAt 4 = .ok (.iload_n 1, 1) := by decide +kernel
theorem dX2_cardAt_5 : decode cX2_cardAt 5 = .ok (.aload_n 0, 1) := by decide +kernel
theorem dX2_cardAt_6 : decode cX2_cardAt 6 = .ok (.getfield 15, 3) := by decide +kernel
theorem dX2_cardAt_9 : decode cX2_cardAt 9 = .ok (.imul, 1) := by decide +kernel
theorem dX2_cardAt_10 : decode cX2_cardAt 10 = .ok (.iadd, 1) := by decide +kernel
theorem dX2_cardAt_11 : decode cX2_cardAt 11 = .ok (.bipush 52, 2) := by decide +kernel
theorem dX2_cardAt_13 : decode cX2_cardAt 13 = .ok (.irem, 1) := by decide +kernel
theorem dX2_cardAt_14 : decode cX2_cardAt 14 = .ok (.ireturn, 1) := by decide +kernel
theorem dX2_placesBy_0 : decode cX2_placesBy 0 = .ok (.iload_n 1, 1) := by decide +kernel
theorem dX2_placesBy_1 : decode cX2_placesBy 1 = .ok (.iconst 1, 1) := by decide +kernel
theorem dX2_placesBy_2 : decode cX2_placesBy 2 = .ok (.if_icmp .ge 7, 3) := by decide +kernel
theorem dX2_placesBy_5 : decode cX2_placesBy 5 = .ok (.iconst 0, 1) := by decide +kernel
theorem dX2_placesBy_6 : decode cX2_placesBy 6 = .ok (.goto 13, 3) := by decide +kernel
theorem dX2_placesBy_9 : decode cX2_placesBy 9 = .ok (.aload_n 0, 1) := by decide +kernel
theorem dX2_placesBy_10 : decode cX2_placesBy 10 = .ok (.getfield 18, 3) := by decide +kernel
theorem dX2_placesBy_13 : decode cX2_placesBy 13 = .ok (.iload_n 1, 1) := by decide +kernel
theorem dX2_placesBy_14 : decode cX2_placesBy 14 = .ok (.iadd, 1) := by decide +kernel
theorem dX2_placesBy_15 : decode cX2_placesBy 15 = .ok (.iconst 1, 1) := by decide +kernel
theorem dX2_placesBy_16 : decode cX2_placesBy 16 = .ok (.isub, 1) := by decide +kernel
theorem dX2_placesBy_17 : decode cX2_placesBy 17 = .ok (.iload_n 1, 1) := by decide +kernel
theorem dX2_placesBy_18 : decode cX2_placesBy 18 = .ok (.idiv, 1) := by decide +kernel
theorem dX2_placesBy_19 : decode cX2_placesBy 19 = .ok (.ireturn, 1) := by decide +kernel
theorem dX2_places_0 : decode cX2_places 0 = .ok (.aload_n 0, 1) := by decide +kernel
theorem dX2_places_1 : decode cX2_places 1 = .ok (.aload_n 0, 1) := by decide +kernel
theorem dX2_places_2 : decode cX2_places 2 = .ok (.getfield 28, 3) := by decide +kernel
theorem dX2_places_5 : decode cX2_places 5 = .ok (.getfield 52, 3) := by decide +kernel
theorem dX2_places_8 : decode cX2_places 8 = .ok (.invokevirtual 55, 3) := by decide +kernel
theorem dX2_places_11 : decode cX2_places 11 = .ok (.ireturn, 1) := by decide +kernel
theorem dX2_placeOf_0 : decode cX2_placeOf 0 = .ok (.aload_n 0, 1) := by decide +kernel
theorem dX2_placeOf_1 : decode cX2_placeOf 1 = .ok (.getfield 28, 3) := by decide +kernel
theorem dX2_placeOf_4 : decode cX2_placeOf 4 = .ok (.getfield 52, 3) := by decide +kernel
theorem dX2_placeOf_7 : decode cX2_placeOf 7 = .ok (.iconst 1, 1) := by decide +kernel
theorem dX2_placeOf_8 : decode cX2_placeOf 8 = .ok (.if_icmp .ge 7, 3) := by decide +kernel
theorem dX2_placeOf_11 : decode cX2_placeOf 11 = .ok (.iconst 0, 1) := by decide +kernel
theorem dX2_placeOf_12 : decode cX2_placeOf 12 = .ok (.goto 12, 3) := by decide +kernel
theorem dX2_placeOf_15 : decode cX2_placeOf 15 = .ok (.iload_n 1, 1) := by decide +kernel
theorem dX2_placeOf_16 : decode cX2_placeOf 16 = .ok (.aload_n 0, 1) := by decide +kernel
theorem dX2_placeOf_17 : decode cX2_placeOf 17 = .ok (.getfield 28, 3) := by decide +kernel
theorem dX2_placeOf_20 : decode cX2_placeOf 20 = .ok (.getfield 52, 3) := by decide +kernel
theorem dX2_placeOf_23 : decode cX2_placeOf 23 = .ok (.idiv, 1) := by decide +kernel
theorem dX2_placeOf_24 : decode cX2_placeOf 24 = .ok (.ireturn, 1) := by decide +kernel
theorem dX2_roleOf_0 : decode cX2_roleOf 0 = .ok (.iload_n 1, 1) := by decide +kernel
theorem dX2_roleOf_1 : decode cX2_roleOf 1 = .ok (.aload_n 0, 1) := by decide +kernel
theorem dX2_roleOf_2 : decode cX2_roleOf 2 = .ok (.iload_n 1, 1) := by decide +kernel
theorem dX2_roleOf_3 : decode cX2_roleOf 3 = .ok (.invokevirtual 59, 3) := by decide +kernel
theorem dX2_roleOf_6 : decode cX2_roleOf 6 = .ok (.aload_n 0, 1) := by decide +kernel
theorem dX2_roleOf_7 : decode cX2_roleOf 7 = .ok (.getfield 28, 3) := by decide +kernel
theorem dX2_roleOf_10 : decode cX2_roleOf 10 = .ok (.getfield 52, 3) := by decide +kernel
theorem dX2_roleOf_13 : decode cX2_roleOf 13 = .ok (.imul, 1) := by decide +kernel
theorem dX2_roleOf_14 : decode cX2_roleOf 14 = .ok (.isub, 1) := by decide +kernel
theorem dX2_roleOf_15 : decode cX2_roleOf 15 = .ok (.ireturn, 1) := by decide +kernel
theorem dX2_cardsAt_0 : decode cX2_cardsAt 0 = .ok (.aload_n 0, 1) := by decide +kernel
theorem dX2_cardsAt_1 : decode cX2_cardsAt 1 = .ok (.getfield 28, 3) := by decide +kernel
theorem dX2_cardsAt_4 : decode cX2_cardsAt 4 = .ok (.getfield 52, 3) := by decide +kernel
theorem dX2_cardsAt_7 : decode cX2_cardsAt 7 = .ok (.aload_n 0, 1) := by decide +kernel
theorem dX2_cardsAt_8 : decode cX2_cardsAt 8 = .ok (.getfield 18, 3) := by decide +kernel
theorem dX2_cardsAt_11 : decode cX2_cardsAt 11 = .ok (.iload_n 1, 1) := by decide +kernel
theorem dX2_cardsAt_12 : decode cX2_cardsAt 12 = .ok (.aload_n 0, 1) := by decide +kernel
theorem dX2_cardsAt_13 : decode cX2_cardsAt 13 = .ok (.getfield 28, 3) := by decide +kernel
theorem dX2_cardsAt_16 : decode cX2_cardsAt 16 = .ok (.getfield 52, 3) := by decide +kernel
theorem dX2_cardsAt_19 : decode cX2_cardsAt 19 = .ok (.imul, 1) := by decide +kernel
theorem dX2_cardsAt_20 : decode cX2_cardsAt 20 = .ok (.isub, 1) := by decide +kernel
theorem dX2_cardsAt_21 : decode cX2_cardsAt 21 = .ok (.invokestatic 62, 3) := by decide +kernel
theorem dX2_cardsAt_24 : decode cX2_cardsAt 24 = .ok (.ireturn, 1) := by decide +kernel
theorem dX2_cardWith_0 : decode cX2_cardWith 0 = .ok (.iload_n 1, 1) := by decide +kernel
theorem dX2_cardWith_1 : decode cX2_cardWith 1 = .ok (.aload_n 0, 1) := by decide +kernel
theorem dX2_cardWith_2 : decode cX2_cardWith 2 = .ok (.getfield 28, 3) := by decide +kernel
theorem dX2_cardWith_5 : decode cX2_cardWith 5 = .ok (.getfield 52, 3) := by decide +kernel
theorem dX2_cardWith_8 : decode cX2_cardWith 8 = .ok (.imul, 1) := by decide +kernel
theorem dX2_cardWith_9 : decode cX2_cardWith 9 = .ok (.iload_n 2, 1) := by decide +kernel
theorem dX2_cardWith_10 : decode cX2_cardWith 10 = .ok (.iadd, 1) := by decide +kernel
theorem dX2_cardWith_11 : decode cX2_cardWith 11 = .ok (.istore_n 3, 1) := by decide +kernel
theorem dX2_cardWith_12 : decode cX2_cardWith 12 = .ok (.iload_n 1, 1) := by decide +kernel
theorem dX2_cardWith_13 : decode cX2_cardWith 13 = .ok (.ifCond .lt 22, 3) := by decide +kernel
theorem dX2_cardWith_16 : decode cX2_cardWith 16 = .ok (.iload_n 2, 1) := by decide +kernel
theorem dX2_cardWith_17 : decode cX2_cardWith 17 = .ok (.aload_n 0, 1) := by decide +kernel
theorem dX2_cardWith_18 : decode cX2_cardWith 18 = .ok (.getfield 28, 3) := by decide +kernel
theorem dX2_cardWith_21 : decode cX2_cardWith 21 = .ok (.getfield 52, 3) := by decide +kernel
theorem dX2_cardWith_24 : decode cX2_cardWith 24 = .ok (.if_icmp .ge 11, 3) := by decide +kernel
theorem dX2_cardWith_27 : decode cX2_cardWith 27 = .ok (.iload_n 3, 1) := by decide +kernel
theorem dX2_cardWith_28 : decode cX2_cardWith 28 = .ok (.aload_n 0, 1) := by decide +kernel
theorem dX2_cardWith_29 : decode cX2_cardWith 29 = .ok (.getfield 18, 3) := by decide +kernel
theorem dX2_cardWith_32 : decode cX2_cardWith 32 = .ok (.if_icmp .lt 7, 3) := by decide +kernel
theorem dX2_cardWith_35 : decode cX2_cardWith 35 = .ok (.iconst (-1), 1) := by decide +kernel
theorem dX2_cardWith_36 : decode cX2_cardWith 36 = .ok (.goto 8, 3) := by decide +kernel
theorem dX2_cardWith_39 : decode cX2_cardWith 39 = .ok (.aload_n 0, 1) := by decide +kernel
theorem dX2_cardWith_40 : decode cX2_cardWith 40 = .ok (.iload_n 3, 1) := by decide +kernel
theorem dX2_cardWith_41 : decode cX2_cardWith 41 = .ok (.invokevirtual 68, 3) := by decide +kernel
theorem dX2_cardWith_44 : decode cX2_cardWith 44 = .ok (.ireturn, 1) := by decide +kernel
theorem dX2_placeAt_0 : decode cX2_placeAt 0 = .ok (.iload_n 2, 1) := by decide +kernel
theorem dX2_placeAt_1 : decode cX2_placeAt 1 = .ok (.aload_n 0, 1) := by decide +kernel
theorem dX2_placeAt_2 : decode cX2_placeAt 2 = .ok (.getfield 28, 3) := by decide +kernel
theorem dX2_placeAt_5 : decode cX2_placeAt 5 = .ok (.getfield 71, 3) := by decide +kernel
theorem dX2_placeAt_8 : decode cX2_placeAt 8 = .ok (.isub, 1) := by decide +kernel
theorem dX2_placeAt_9 : decode cX2_placeAt 9 = .ok (.istore_n 3, 1) := by decide +kernel
theorem dX2_placeAt_10 : decode cX2_placeAt 10 = .ok (.aload_n 0, 1) := by decide +kernel
theorem dX2_placeAt_11 : decode cX2_placeAt 11 = .ok (.getfield 21, 3) := by decide +kernel
theorem dX2_placeAt_14 : decode cX2_placeAt 14 = .ok (.ifCond .eq 37, 3) := by decide +kernel
theorem dX2_placeAt_17 : decode cX2_placeAt 17 = .ok (.aload_n 0, 1) := by decide +kernel
theorem dX2_placeAt_18 : decode cX2_placeAt 18 = .ok (.getfield 28, 3) := by decide +kernel
theorem dX2_placeAt_21 : decode cX2_placeAt 21 = .ok (.getfield 74, 3) := by decide +kernel
theorem dX2_placeAt_24 : decode cX2_placeAt 24 = .ok (.iload_n 1, 1) := by decide +kernel
theorem dX2_placeAt_25 : decode cX2_placeAt 25 = .ok (.if_icmp .ne 26, 3) := by decide +kernel
theorem dX2_placeAt_28 : decode cX2_placeAt 28 = .ok (.iload_n 3, 1) := by decide +kernel
theorem dX2_placeAt_29 : decode cX2_placeAt 29 = .ok (.ifCond .lt 22, 3) := by decide +kernel
theorem dX2_placeAt_32 : decode cX2_placeAt 32 = .ok (.iload_n 3, 1) := by decide +kernel
theorem dX2_placeAt_33 : decode cX2_placeAt 33 = .ok (.aload_n 0, 1) := by decide +kernel
theorem dX2_placeAt_34 : decode cX2_placeAt 34 = .ok (.aload_n 0, 1) := by decide +kernel
theorem dX2_placeAt_35 : decode cX2_placeAt 35 = .ok (.getfield 28, 3) := by decide +kernel
theorem dX2_placeAt_38 : decode cX2_placeAt 38 = .ok (.getfield 52, 3) := by decide +kernel
theorem dX2_placeAt_41 : decode cX2_placeAt 41 = .ok (.invokevirtual 55, 3) := by decide +kernel
theorem dX2_placeAt_44 : decode cX2_placeAt 44 = .ok (.if_icmp .ge 7, 3) := by decide +kernel
theorem dX2_placeAt_47 : decode cX2_placeAt 47 = .ok (.iload_n 3, 1) := by decide +kernel
theorem dX2_placeAt_48 : decode cX2_placeAt 48 = .ok (.goto 4, 3) := by decide +kernel
theorem dX2_placeAt_51 : decode cX2_placeAt 51 = .ok (.iconst (-1), 1) := by decide +kernel
theorem dX2_placeAt_52 : decode cX2_placeAt 52 = .ok (.ireturn, 1) := by decide +kernel
theorem dX2_rightOnes_0 : decode cX2_rightOnes 0 = .ok (.iconst 0, 1) := by decide +kernel
theorem dX2_rightOnes_1 : decode cX2_rightOnes 1 = .ok (.istore_n 1, 1) := by decide +kernel
theorem dX2_rightOnes_2 : decode cX2_rightOnes 2 = .ok (.iconst 0, 1) := by decide +kernel
theorem dX2_rightOnes_3 : decode cX2_rightOnes 3 = .ok (.istore_n 2, 1) := by decide +kernel
theorem dX2_rightOnes_4 : decode cX2_rightOnes 4 = .ok (.iload_n 2, 1) := by decide +kernel
theorem dX2_rightOnes_5 : decode cX2_rightOnes 5 = .ok (.aload_n 0, 1) := by decide +kernel
theorem dX2_rightOnes_6 : decode cX2_rightOnes 6 = .ok (.getfield 18, 3) := by decide +kernel
theorem dX2_rightOnes_9 : decode cX2_rightOnes 9 = .ok (.if_icmp .ge 31, 3) := by decide +kernel
theorem dX2_rightOnes_12 : decode cX2_rightOnes 12 = .ok (.iload_n 1, 1) := by decide +kernel
theorem dX2_rightOnes_13 : decode cX2_rightOnes 13 = .ok (.aload_n 0, 1) := by decide +kernel
theorem dX2_rightOnes_14 : decode cX2_rightOnes 14 = .ok (.getfield 32, 3) := by decide +kernel
theorem dX2_rightOnes_17 : decode cX2_rightOnes 17 = .ok (.iload_n 2, 1) := by decide +kernel
theorem dX2_rightOnes_18 : decode cX2_rightOnes 18 = .ok (.iaload, 1) := by decide +kernel
theorem dX2_rightOnes_19 : decode cX2_rightOnes 19 = .ok (.aload_n 0, 1) := by decide +kernel
theorem dX2_rightOnes_20 : decode cX2_rightOnes 20 = .ok (.iload_n 2, 1) := by decide +kernel
theorem dX2_rightOnes_21 : decode cX2_rightOnes 21 = .ok (.invokevirtual 68, 3) := by decide +kernel
theorem dX2_rightOnes_24 : decode cX2_rightOnes 24 = .ok (.if_icmp .ne 7, 3) := by decide +kernel
theorem dX2_rightOnes_27 : decode cX2_rightOnes 27 = .ok (.iconst 1, 1) := by decide +kernel
theorem dX2_rightOnes_28 : decode cX2_rightOnes 28 = .ok (.goto 4, 3) := by decide +kernel
theorem dX2_rightOnes_31 : decode cX2_rightOnes 31 = .ok (.iconst 0, 1) := by decide +kernel
theorem dX2_rightOnes_32 : decode cX2_rightOnes 32 = .ok (.iadd, 1) := by decide +kernel
theorem dX2_rightOnes_33 : decode cX2_rightOnes 33 = .ok (.istore_n 1, 1) := by decide +kernel
theorem dX2_rightOnes_34 : decode cX2_rightOnes 34 = .ok (.iinc 2 1, 3) := by decide +kernel
theorem dX2_rightOnes_37 : decode cX2_rightOnes 37 = .ok (.goto (-33), 3) := by decide +kernel
theorem dX2_rightOnes_40 : decode cX2_rightOnes 40 = .ok (.iload_n 1, 1) := by decide +kernel
theorem dX2_rightOnes_41 : decode cX2_rightOnes 41 = .ok (.ireturn, 1) := by decide +kernel
theorem dX2_blanks_0 : decode cX2_blanks 0 = .ok (.iconst 0, 1) := by decide +kernel
theorem dX2_blanks_1 : decode cX2_blanks 1 = .ok (.istore_n 1, 1) := by decide +kernel
theorem dX2_blanks_2 : decode cX2_blanks 2 = .ok (.iconst 0, 1) := by decide +kernel
theorem dX2_blanks_3 : decode cX2_blanks 3 = .ok (.istore_n 2, 1) := by decide +kernel
theorem dX2_blanks_4 : decode cX2_blanks 4 = .ok (.iload_n 2, 1) := by decide +kernel
theorem dX2_blanks_5 : decode cX2_blanks 5 = .ok (.aload_n 0, 1) := by decide +kernel
theorem dX2_blanks_6 : decode cX2_blanks 6 = .ok (.getfield 18, 3) := by decide +kernel
theorem dX2_blanks_9 : decode cX2_blanks 9 = .ok (.if_icmp .ge 27, 3) := by decide +kernel
theorem dX2_blanks_12 : decode cX2_blanks 12 = .ok (.iload_n 1, 1) := by decide +kernel
theorem dX2_blanks_13 : decode cX2_blanks 13 = .ok (.aload_n 0, 1) := by decide +kernel
theorem dX2_blanks_14 : decode cX2_blanks 14 = .ok (.getfield 32, 3) := by decide +kernel
theorem dX2_blanks_17 : decode cX2_blanks 17 = .ok (.iload_n 2, 1) := by decide +kernel
theorem dX2_blanks_18 : decode cX2_blanks 18 = .ok (.iaload, 1) := by decide +kernel
theorem dX2_blanks_19 : decode cX2_blanks 19 = .ok (.iconst (-1), 1) := by decide +kernel
theorem dX2_blanks_20 : decode cX2_blanks 20 = .ok (.if_icmp .ne 7, 3) := by decide +kernel
theorem dX2_blanks_23 : decode cX2_blanks 23 = .ok (.iconst 1, 1) := by decide +kernel
theorem dX2_blanks_24 : decode cX2_blanks 24 = .ok (.goto 4, 3) := by decide +kernel
theorem dX2_blanks_27 : decode cX2_blanks 27 = .ok (.iconst 0, 1) := by decide +kernel
theorem dX2_blanks_28 : decode cX2_blanks 28 = .ok (.iadd, 1) := by decide +kernel
theorem dX2_blanks_29 : decode cX2_blanks 29 = .ok (.istore_n 1, 1) := by decide +kernel
theorem dX2_blanks_30 : decode cX2_blanks 30 = .ok (.iinc 2 1, 3) := by decide +kernel
theorem dX2_blanks_33 : decode cX2_blanks 33 = .ok (.goto (-29), 3) := by decide +kernel
theorem dX2_blanks_36 : decode cX2_blanks 36 = .ok (.iload_n 1, 1) := by decide +kernel
theorem dX2_blanks_37 : decode cX2_blanks 37 = .ok (.ireturn, 1) := by decide +kernel
theorem dX2_saidCards_0 : decode cX2_saidCards 0 = .ok (.lconst 0, 1) := by decide +kernel
theorem dX2_saidCards_1 : decode cX2_saidCards 1 = .ok (.lstore_n 1, 1) := by decide +kernel
theorem dX2_saidCards_2 : decode cX2_saidCards 2 = .ok (.iconst 0, 1) := by decide +kernel
theorem dX2_saidCards_3 : decode cX2_saidCards 3 = .ok (.istore_n 3, 1) := by decide +kernel
theorem dX2_saidCards_4 : decode cX2_saidCards 4 = .ok (.iload_n 3, 1) := by decide +kernel
theorem dX2_saidCards_5 : decode cX2_saidCards 5 = .ok (.aload_n 0, 1) := by decide +kernel
theorem dX2_saidCards_6 : decode cX2_saidCards 6 = .ok (.getfield 18, 3) := by decide +kernel
theorem dX2_saidCards_9 : decode cX2_saidCards 9 = .ok (.if_icmp .ge 34, 3) := by decide +kernel
theorem dX2_saidCards_12 : decode cX2_saidCards 12 = .ok (.lload_n 1, 1) := by decide +kernel
theorem dX2_saidCards_13 : decode cX2_saidCards 13 = .ok (.aload_n 0, 1) := by decide +kernel
theorem dX2_saidCards_14 : decode cX2_saidCards 14 = .ok (.getfield 32, 3) := by decide +kernel
theorem dX2_saidCards_17 : decode cX2_saidCards 17 = .ok (.iload_n 3, 1) := by decide +kernel
theorem dX2_saidCards_18 : decode cX2_saidCards 18 = .ok (.iaload, 1) := by decide +kernel
theorem dX2_saidCards_19 : decode cX2_saidCards 19 = .ok (.iconst (-1), 1) := by decide +kernel
theorem dX2_saidCards_20 : decode cX2_saidCards 20 = .ok (.if_icmp .ne 7, 3) := by decide +kernel
theorem dX2_saidCards_23 : decode cX2_saidCards 23 = .ok (.lconst 0, 1) := by decide +kernel
theorem dX2_saidCards_24 : decode cX2_saidCards 24 = .ok (.goto 11, 3) := by decide +kernel
theorem dX2_saidCards_27 : decode cX2_saidCards 27 = .ok (.lconst 1, 1) := by decide +kernel
theorem dX2_saidCards_28 : decode cX2_saidCards 28 = .ok (.aload_n 0, 1) := by decide +kernel
theorem dX2_saidCards_29 : decode cX2_saidCards 29 = .ok (.getfield 32, 3) := by decide +kernel
theorem dX2_saidCards_32 : decode cX2_saidCards 32 = .ok (.iload_n 3, 1) := by decide +kernel
theorem dX2_saidCards_33 : decode cX2_saidCards 33 = .ok (.iaload, 1) := by decide +kernel
theorem dX2_saidCards_34 : decode cX2_saidCards 34 = .ok (.lshl, 1) := by decide +kernel
theorem dX2_saidCards_35 : decode cX2_saidCards 35 = .ok (.lor, 1) := by decide +kernel
theorem dX2_saidCards_36 : decode cX2_saidCards 36 = .ok (.lstore_n 1, 1) := by decide +kernel
theorem dX2_saidCards_37 : decode cX2_saidCards 37 = .ok (.iinc 3 1, 3) := by decide +kernel
theorem dX2_saidCards_40 : decode cX2_saidCards 40 = .ok (.goto (-36), 3) := by decide +kernel
theorem dX2_saidCards_43 : decode cX2_saidCards 43 = .ok (.lload_n 1, 1) := by decide +kernel
theorem dX2_saidCards_44 : decode cX2_saidCards 44 = .ok (.lreturn, 1) := by decide +kernel
theorem dX2_lackCount_0 : decode cX2_lackCount 0 = .ok (.aload_n 0, 1) := by decide +kernel
theorem dX2_lackCount_1 : decode cX2_lackCount 1 = .ok (.invokevirtual 77, 3) := by decide +kernel
theorem dX2_lackCount_4 : decode cX2_lackCount 4 = .ok (.lstore_n 1, 1) := by decide +kernel
theorem dX2_lackCount_5 : decode cX2_lackCount 5 = .ok (.iconst 0, 1) := by decide +kernel
theorem dX2_lackCount_6 : decode cX2_lackCount 6 = .ok (.istore_n 3, 1) := by decide +kernel
theorem dX2_lackCount_7 : decode cX2_lackCount 7 = .ok (.iconst 0, 1) := by decide +kernel
theorem dX2_lackCount_8 : decode cX2_lackCount 8 = .ok (.istore 4, 2) := by decide +kernel
theorem dX2_lackCount_10 : decode cX2_lackCount 10 = .ok (.iload 4, 2) := by decide +kernel
theorem dX2_lackCount_12 : decode cX2_lackCount 12 = .ok (.aload_n 0, 1) := by decide +kernel
theorem dX2_lackCount_13 : decode cX2_lackCount 13 = .ok (.getfield 18, 3) := by decide +kernel
theorem dX2_lackCount_16 : decode cX2_lackCount 16 = .ok (.if_icmp .ge 32, 3) := by decide +kernel
theorem dX2_lackCount_19 : decode cX2_lackCount 19 = .ok (.iload_n 3, 1) := by decide +kernel
theorem dX2_lackCount_20 : decode cX2_lackCount 20 = .ok (.lload_n 1, 1) := by decide +kernel
theorem dX2_lackCount_21 : decode cX2_lackCount 21 = .ok (.aload_n 0, 1) := by decide +kernel
theorem dX2_lackCount_22 : decode cX2_lackCount 22 = .ok (.iload 4, 2) := by decide +kernel
theorem dX2_lackCount_24 : decode cX2_lackCount 24 = .ok (.invokevirtual 68, 3) := by decide +kernel
theorem dX2_lackCount_27 : decode cX2_lackCount 27 = .ok (.lshr, 1) := by decide +kernel
theorem dX2_lackCount_28 : decode cX2_lackCount 28 = .ok (.lconst 1, 1) := by decide +kernel
theorem dX2_lackCount_29 : decode cX2_lackCount 29 = .ok (.land, 1) := by decide +kernel
theorem dX2_lackCount_30 : decode cX2_lackCount 30 = .ok (.lconst 0, 1) := by decide +kernel
theorem dX2_lackCount_31 : decode cX2_lackCount 31 = .ok (.lcmp, 1) := by decide +kernel
theorem dX2_lackCount_32 : decode cX2_lackCount 32 = .ok (.ifCond .ne 7, 3) := by decide +kernel
theorem dX2_lackCount_35 : decode cX2_lackCount 35 = .ok (.iconst 1, 1) := by decide +kernel
theorem dX2_lackCount_36 : decode cX2_lackCount 36 = .ok (.goto 4, 3) := by decide +kernel
theorem dX2_lackCount_39 : decode cX2_lackCount 39 = .ok (.iconst 0, 1) := by decide +kernel
theorem dX2_lackCount_40 : decode cX2_lackCount 40 = .ok (.iadd, 1) := by decide +kernel
theorem dX2_lackCount_41 : decode cX2_lackCount 41 = .ok (.istore_n 3, 1) := by decide +kernel
theorem dX2_lackCount_42 : decode cX2_lackCount 42 = .ok (.iinc 4 1, 3) := by decide +kernel
theorem dX2_lackCount_45 : decode cX2_lackCount 45 = .ok (.goto (-35), 3) := by decide +kernel
theorem dX2_lackCount_48 : decode cX2_lackCount 48 = .ok (.iload_n 3, 1) := by decide +kernel
theorem dX2_lackCount_49 : decode cX2_lackCount 49 = .ok (.ireturn, 1) := by decide +kernel
theorem dX2_lackAt_0 : decode cX2_lackAt 0 = .ok (.aload_n 0, 1) := by decide +kernel
theorem dX2_lackAt_1 : decode cX2_lackAt 1 = .ok (.invokevirtual 77, 3) := by decide +kernel
theorem dX2_lackAt_4 : decode cX2_lackAt 4 = .ok (.lstore_n 2, 1) := by decide +kernel
theorem dX2_lackAt_5 : decode cX2_lackAt 5 = .ok (.iconst 0, 1) := by decide +kernel
theorem dX2_lackAt_6 : decode cX2_lackAt 6 = .ok (.istore 4, 2) := by decide +kernel
theorem dX2_lackAt_8 : decode cX2_lackAt 8 = .ok (.iconst 0, 1) := by decide +kernel
theorem dX2_lackAt_9 : decode cX2_lackAt 9 = .ok (.istore 5, 2) := by decide +kernel
theorem dX2_lackAt_11 : decode cX2_lackAt 11 = .ok (.iload 5, 2) := by decide +kernel
theorem dX2_lackAt_13 : decode cX2_lackAt 13 = .ok (.aload_n 0, 1) := by decide +kernel
theorem dX2_lackAt_14 : decode cX2_lackAt 14 = .ok (.getfield 18, 3) := by decide +kernel
theorem dX2_lackAt_17 : decode cX2_lackAt 17 = .ok (.if_icmp .ge 40, 3) := by decide +kernel
theorem dX2_lackAt_20 : decode cX2_lackAt 20 = .ok (.lload_n 2, 1) := by decide +kernel
theorem dX2_lackAt_21 : decode cX2_lackAt 21 = .ok (.aload_n 0, 1) := by decide +kernel
theorem dX2_lackAt_22 : decode cX2_lackAt 22 = .ok (.iload 5, 2) := by decide +kernel
theorem dX2_lackAt_24 : decode cX2_lackAt 24 = .ok (.invokevirtual 68, 3) := by decide +kernel
theorem dX2_lackAt_27 : decode cX2_lackAt 27 = .ok (.lshr, 1) := by decide +kernel
theorem dX2_lackAt_28 : decode cX2_lackAt 28 = .ok (.lconst 1, 1) := by decide +kernel
theorem dX2_lackAt_29 : decode cX2_lackAt 29 = .ok (.land, 1) := by decide +kernel
theorem dX2_lackAt_30 : decode cX2_lackAt 30 = .ok (.lconst 0, 1) := by decide +kernel
theorem dX2_lackAt_31 : decode cX2_lackAt 31 = .ok (.lcmp, 1) := by decide +kernel
theorem dX2_lackAt_32 : decode cX2_lackAt 32 = .ok (.ifCond .ne 19, 3) := by decide +kernel
theorem dX2_lackAt_35 : decode cX2_lackAt 35 = .ok (.iload 4, 2) := by decide +kernel
theorem dX2_lackAt_37 : decode cX2_lackAt 37 = .ok (.iload_n 1, 1) := by decide +kernel
theorem dX2_lackAt_38 : decode cX2_lackAt 38 = .ok (.if_icmp .ne 10, 3) := by decide +kernel
theorem dX2_lackAt_41 : decode cX2_lackAt 41 = .ok (.aload_n 0, 1) := by decide +kernel
theorem dX2_lackAt_42 : decode cX2_lackAt 42 = .ok (.iload 5, 2) := by decide +kernel
theorem dX2_lackAt_44 : decode cX2_lackAt 44 = .ok (.invokevirtual 68, 3) := by decide +kernel
theorem dX2_lackAt_47 : decode cX2_lackAt 47 = .ok (.ireturn, 1) := by decide +kernel
theorem dX2_lackAt_48 : decode cX2_lackAt 48 = .ok (.iinc 4 1, 3) := by decide +kernel
theorem dX2_lackAt_51 : decode cX2_lackAt 51 = .ok (.iinc 5 1, 3) := by decide +kernel
theorem dX2_lackAt_54 : decode cX2_lackAt 54 = .ok (.goto (-43), 3) := by decide +kernel
theorem dX2_lackAt_57 : decode cX2_lackAt 57 = .ok (.iconst (-1), 1) := by decide +kernel
theorem dX2_lackAt_58 : decode cX2_lackAt 58 = .ok (.ireturn, 1) := by decide +kernel
theorem dX3_init_0 : decode cX3_init 0 = .ok (.aload_n 0, 1) := by decide +kernel
theorem dX3_init_1 : decode cX3_init 1 = .ok (.invokespecial 3, 3) := by decide +kernel
theorem dX3_init_4 : decode cX3_init 4 = .ok (.aload_n 0, 1) := by decide +kernel
theorem dX3_init_5 : decode cX3_init 5 = .ok (.iconst 5, 1) := by decide +kernel
theorem dX3_init_6 : decode cX3_init 6 = .ok (.newarray .int, 2) := by decide +kernel
theorem dX3_init_8 : decode cX3_init 8 = .ok (.putfield 9, 3) := by decide +kernel
theorem dX3_init_11 : decode cX3_init 11 = .ok (.aload_n 0, 1) := by decide +kernel
theorem dX3_init_12 : decode cX3_init 12 = .ok (.bipush 30, 2) := by decide +kernel
theorem dX3_init_14 : decode cX3_init 14 = .ok (.newarray .int, 2) := by decide +kernel
theorem dX3_init_16 : decode cX3_init 16 = .ok (.putfield 15, 3) := by decide +kernel
theorem dX3_init_19 : decode cX3_init 19 = .ok (.aload_n 0, 1) := by decide +kernel
theorem dX3_init_20 : decode cX3_init 20 = .ok (.iconst 5, 1) := by decide +kernel
theorem dX3_init_21 : decode cX3_init 21 = .ok (.newarray .int, 2) := by decide +kernel
theorem dX3_init_23 : decode cX3_init 23 = .ok (.putfield 18, 3) := by decide +kernel
theorem dX3_init_26 : decode cX3_init 26 = .ok (.aload_n 0, 1) := by decide +kernel
theorem dX3_init_27 : decode cX3_init 27 = .ok (.iconst 5, 1) := by decide +kernel
theorem dX3_init_28 : decode cX3_init 28 = .ok (.newarray .int, 2) := by decide +kernel
theorem dX3_init_30 : decode cX3_init 30 = .ok (.putfield 21, 3) := by decide +kernel
theorem dX3_init_33 : decode cX3_init 33 = .ok (.aload_n 0, 1) := by decide +kernel
theorem dX3_init_34 : decode cX3_init 34 = .ok (.iconst 0, 1) := by decide +kernel
theorem dX3_init_35 : decode cX3_init 35 = .ok (.putfield 24, 3) := by decide +kernel
theorem dX3_init_38 : decode cX3_init 38 = .ok (.aload_n 0, 1) := by decide +kernel
theorem dX3_init_39 : decode cX3_init 39 = .ok (.iconst (-1), 1) := by decide +kernel
theorem dX3_init_40 : decode cX3_init 40 = .ok (.putfield 28, 3) := by decide +kernel
theorem dX3_init_43 : decode cX3_init 43 = .ok (.return_, 1) := by decide +kernel
theorem dX3_begin_0 : decode cX3_begin 0 = .ok (.aload_n 0, 1) := by decide +kernel
theorem dX3_begin_1 : decode cX3_begin 1 = .ok (.iconst 0, 1) := by decide +kernel
theorem dX3_begin_2 : decode cX3_begin 2 = .ok (.putfield 24, 3) := by decide +kernel
theorem dX3_begin_5 : decode cX3_begin 5 = .ok (.aload_n 0, 1) := by decide +kernel
theorem dX3_begin_6 : decode cX3_begin 6 = .ok (.iconst (-1), 1) := by decide +kernel
theorem dX3_begin_7 : decode cX3_begin 7 = .ok (.putfield 28, 3) := by decide +kernel
theorem dX3_begin_10 : decode cX3_begin 10 = .ok (.aload_n 0, 1) := by decide +kernel
theorem dX3_begin_11 : decode cX3_begin 11 = .ok (.getfield 15, 3) := by decide +kernel
theorem dX3_begin_14 : decode cX3_begin 14 = .ok (.iconst (-1), 1) := by decide +kernel
theorem dX3_begin_15 : decode cX3_begin 15 = .ok (.invokestatic 31, 3) := by decide +kernel
theorem dX3_begin_18 : decode cX3_begin 18 = .ok (.return_, 1) := by decide +kernel
theorem dX3_addPack_0 : decode cX3_addPack 0 = .ok (.aload_n 0, 1) := by decide +kernel
theorem dX3_addPack_1 : decode cX3_addPack 1 = .ok (.getfield 24, 3) := by decide +kernel
theorem dX3_addPack_4 : decode cX3_addPack 4 = .ok (.iconst 5, 1) := by decide +kernel
theorem dX3_addPack_5 : decode cX3_addPack 5 = .ok (.if_icmp .ge 23, 3) := by decide +kernel
theorem dX3_addPack_8 : decode cX3_addPack 8 = .ok (.aload_n 0, 1) := by decide +kernel
theorem dX3_addPack_9 : decode cX3_addPack 9 = .ok (.getfield 9, 3) := by decide +kernel
theorem dX3_addPack_12 : decode cX3_addPack 12 = .ok (.aload_n 0, 1) := by decide +kernel
theorem dX3_addPack_13 : decode cX3_addPack 13 = .ok (.getfield 24, 3) := by decide +kernel
theorem dX3_addPack_16 : decode cX3_addPack 16 = .ok (.iload_n 1, 1) := by decide +kernel
theorem dX3_addPack_17 : decode cX3_addPack 17 = .ok (.iastore, 1) := by decide +kernel
theorem dX3_addPack_18 : decode cX3_addPack 18 = .ok (.aload_n 0, 1) := by decide +kernel
theorem dX3_addPack_19 : decode cX3_addPack 19 = .ok (.dup, 1) := by decide +kernel
theorem dX3_addPack_20 : decode cX3_addPack 20 = .ok (.getfield 24, 3) := by decide +kernel
theorem dX3_addPack_23 : decode cX3_addPack 23 = .ok (.iconst 1, 1) := by decide +kernel
theorem dX3_addPack_24 : decode cX3_addPack 24 = .ok (.iadd, 1) := by decide +kernel
theorem dX3_addPack_25 : decode cX3_addPack 25 = .ok (.putfield 24, 3) := by decide +kernel
theorem dX3_addPack_28 : decode cX3_addPack 28 = .ok (.return_, 1) := by decide +kernel
theorem dX3_setWorth_0 : decode cX3_setWorth 0 = .ok (.aload_n 0, 1) := by decide +kernel
theorem dX3_setWorth_1 : decode cX3_setWorth 1 = .ok (.getfield 24, 3) := by decide +kernel
theorem dX3_setWorth_4 : decode cX3_setWorth 4 = .ok (.ifCond .le 20, 3) := by decide +kernel
theorem dX3_setWorth_7 : decode cX3_setWorth 7 = .ok (.aload_n 0, 1) := by decide +kernel
theorem dX3_setWorth_8 : decode cX3_setWorth 8 = .ok (.getfield 15, 3) := by decide +kernel
theorem dX3_setWorth_11 : decode cX3_setWorth 11 = .ok (.aload_n 0, 1) := by decide +kernel
theorem dX3_setWorth_12 : decode cX3_setWorth 12 = .ok (.getfield 24, 3) := by decide +kernel
theorem dX3_setWorth_15 : decode cX3_setWorth 15 = .ok (.iconst 1, 1) := by decide +kernel
theorem dX3_setWorth_16 : decode cX3_setWorth 16 = .ok (.isub, 1) := by decide +kernel
theorem dX3_setWorth_17 : decode cX3_setWorth 17 = .ok (.bipush 6, 2) := by decide +kernel
theorem dX3_setWorth_19 : decode cX3_setWorth 19 = .ok (.imul, 1) := by decide +kernel
theorem dX3_setWorth_20 : decode cX3_setWorth 20 = .ok (.iload_n 1, 1) := by decide +kernel
theorem dX3_setWorth_21 : decode cX3_setWorth 21 = .ok (.iadd, 1) := by decide +kernel
theorem dX3_setWorth_22 : decode cX3_setWorth 22 = .ok (.iload_n 2, 1) := by decide +kernel
theorem dX3_setWorth_23 : decode cX3_setWorth 23 = .ok (.iastore, 1) := by decide +kernel
theorem dX3_setWorth_24 : decode cX3_setWorth 24 = .ok (.return_, 1) := by decide +kernel
theorem dX3_search_0 : decode cX3_search 0 = .ok (.aload_n 0, 1) := by decide +kernel
theorem dX3_search_1 : decode cX3_search 1 = .ok (.iconst 0, 1) := by decide +kernel
theorem dX3_search_2 : decode cX3_search 2 = .ok (.iconst 0, 1) := by decide +kernel
theorem dX3_search_3 : decode cX3_search 3 = .ok (.iconst 0, 1) := by decide +kernel
theorem dX3_search_4 : decode cX3_search 4 = .ok (.invokevirtual 37, 3) := by decide +kernel
theorem dX3_search_7 : decode cX3_search 7 = .ok (.return_, 1) := by decide +kernel
theorem dX3_houseFor_0 : decode cX3_houseFor 0 = .ok (.iconst 0, 1) := by decide +kernel
theorem dX3_houseFor_1 : decode cX3_houseFor 1 = .ok (.istore_n 2, 1) := by decide +kernel
theorem dX3_houseFor_2 : decode cX3_houseFor 2 = .ok (.iload_n 2, 1) := by decide +kernel
theorem dX3_houseFor_3 : decode cX3_houseFor 3 = .ok (.aload_n 0, 1) := by decide +kernel
theorem dX3_houseFor_4 : decode cX3_houseFor 4 = .ok (.getfield 24, 3) := by decide +kernel
theorem dX3_houseFor_7 : decode cX3_houseFor 7 = .ok (.if_icmp .ge 38, 3) := by decide +kernel
theorem dX3_houseFor_10 : decode cX3_houseFor 10 = .ok (.aload_n 0, 1) := by decide +kernel
theorem dX3_houseFor_11 : decode cX3_houseFor 11 = .ok (.getfield 9, 3) := by decide +kernel
theorem dX3_houseFor_14 : decode cX3_houseFor 14 = .ok (.iload_n 2, 1) := by decide +kernel
theorem dX3_houseFor_15 : decode cX3_houseFor 15 = .ok (.iaload, 1) := by decide +kernel
theorem dX3_houseFor_16 : decode cX3_houseFor 16 = .ok (.iload_n 1, 1) := by decide +kernel
theorem dX3_houseFor_17 : decode cX3_houseFor 17 = .ok (.if_icmp .ne 22, 3) := by decide +kernel
theorem dX3_houseFor_20 : decode cX3_houseFor 20 = .ok (.aload_n 0, 1) := by decide +kernel
theorem dX3_houseFor_21 : decode cX3_houseFor 21 = .ok (.getfield 28, 3) := by decide +kernel
theorem dX3_houseFor_24 : decode cX3_houseFor 24 = .ok (.iconst (-1), 1) := by decide +kernel
theorem dX3_houseFor_25 : decode cX3_houseFor 25 = .ok (.if_icmp .ne 7, 3) := by decide +kernel
theorem dX3_houseFor_28 : decode cX3_houseFor 28 = .ok (.iconst (-1), 1) := by decide +kernel
theorem dX3_houseFor_29 : decode cX3_houseFor 29 = .ok (.goto 9, 3) := by decide +kernel
theorem dX3_houseFor_32 : decode cX3_houseFor 32 = .ok (.aload_n 0, 1) := by decide +kernel
theorem dX3_houseFor_33 : decode cX3_houseFor 33 = .ok (.getfield 21, 3) := by decide +kernel
theorem dX3_houseFor_36 : decode cX3_houseFor 36 = .ok (.iload_n 2, 1) := by decide +kernel
theorem dX3_houseFor_37 : decode cX3_houseFor 37 = .ok (.iaload, 1) := by decide +kernel
theorem dX3_houseFor_38 : decode cX3_houseFor 38 = .ok (.ireturn, 1) := by decide +kernel
theorem dX3_houseFor_39 : decode cX3_houseFor 39 = .ok (.iinc 2 1, 3) := by decide +kernel
theorem dX3_houseFor_42 : decode cX3_houseFor 42 = .ok (.goto (-40), 3) := by decide +kernel
theorem dX3_houseFor_45 : decode cX3_houseFor 45 = .ok (.iconst (-1), 1) := by decide +kernel
theorem dX3_houseFor_46 : decode cX3_houseFor 46 = .ok (.ireturn, 1) := by decide +kernel
theorem dX3_settle_0 : decode cX3_settle 0 = .ok (.iload_n 1, 1) := by decide +kernel
theorem dX3_settle_1 : decode cX3_settle 1 = .ok (.aload_n 0, 1) := by decide +kernel
theorem dX3_settle_2 : decode cX3_settle 2 = .ok (.getfield 24, 3) := by decide +kernel
theorem dX3_settle_5 : decode cX3_settle 5 = .ok (.if_icmp .lt 34, 3) := by decide +kernel
theorem dX3_settle_8 : decode cX3_settle 8 = .ok (.iload_n 3, 1) := by decide +kernel
theorem dX3_settle_9 : decode cX3_settle 9 = .ok (.aload_n 0, 1) := by decide +kernel
theorem dX3_settle_10 : decode cX3_settle 10 = .ok (.getfield 28, 3) := by decide +kernel
theorem dX3_settle_13 : decode cX3_settle 13 = .ok (.if_icmp .le 25, 3) := by decide +kernel
theorem dX3_settle_16 : decode cX3_settle 16 = .ok (.aload_n 0, 1) := by decide +kernel
theorem dX3_settle_17 : decode cX3_settle 17 = .ok (.iload_n 3, 1) := by decide +kernel
theorem dX3_settle_18 : decode cX3_settle 18 = .ok (.putfield 28, 3) := by decide +kernel
theorem dX3_settle_21 : decode cX3_settle 21 = .ok (.aload_n 0, 1) := by decide +kernel
theorem dX3_settle_22 : decode cX3_settle 22 = .ok (.getfield 18, 3) := by decide +kernel
theorem dX3_settle_25 : decode cX3_settle 25 = .ok (.iconst 0, 1) := by decide +kernel
theorem dX3_settle_26 : decode cX3_settle 26 = .ok (.aload_n 0, 1) := by decide +kernel
theorem dX3_settle_27 : decode cX3_settle 27 = .ok (.getfield 21, 3) := by decide +kernel
theorem dX3_settle_30 : decode cX3_settle 30 = .ok (.iconst 0, 1) := by decide +kernel
theorem dX3_settle_31 : decode cX3_settle 31 = .ok (.aload_n 0, 1) := by decide +kernel
theorem dX3_settle_32 : decode cX3_settle 32 = .ok (.getfield 24, 3) := by decide +kernel
theorem dX3_settle_35 : decode cX3_settle 35 = .ok (.invokestatic 41, 3) := by decide +kernel
theorem dX3_settle_38 : decode cX3_settle 38 = .ok (.return_, 1) := by decide +kernel
theorem dX3_settle_39 : decode cX3_settle 39 = .ok (.iconst 0, 1) := by decide +kernel
theorem dX3_settle_40 : decode cX3_settle 40 = .ok (.istore 4, 2) := by decide +kernel
theorem dX3_settle_42 : decode cX3_settle 42 = .ok (.iload 4, 2) := by decide +kernel
theorem dX3_settle_44 : decode cX3_settle 44 = .ok (.bipush 6, 2) := by decide +kernel
theorem dX3_settle_46 : decode cX3_settle 46 = .ok (.if_icmp .ge 63, 3) := by decide +kernel
theorem dX3_settle_49 : decode cX3_settle 49 = .ok (.aload_n 0, 1) := by decide +kernel
theorem dX3_settle_50 : decode cX3_settle 50 = .ok (.getfield 15, 3) := by decide +kernel
theorem dX3_settle_53 : decode cX3_settle 53 = .ok (.iload_n 1, 1) := by decide +kernel
theorem dX3_settle_54 : decode cX3_settle 54 = .ok (.bipush 6, 2) := by decide +kernel
theorem dX3_settle_56 : decode cX3_settle 56 = .ok (.imul, 1) := by decide +kernel
theorem dX3_settle_57 : decode cX3_settle 57 = .ok (.iload 4, 2) := by decide +kernel
theorem dX3_settle_59 : decode cX3_settle 59 = .ok (.iadd, 1) := by decide +kernel
theorem dX3_settle_60 : decode cX3_settle 60 = .ok (.iaload, 1) := by decide +kernel
theorem dX3_settle_61 : decode cX3_settle 61 = .ok (.istore 5, 2) := by decide +kernel
theorem dX3_settle_63 : decode cX3_settle 63 = .ok (.iload 5, 2) := by decide +kernel
theorem dX3_settle_65 : decode cX3_settle 65 = .ok (.iconst (-1), 1) := by decide +kernel
theorem dX3_settle_66 : decode cX3_settle 66 = .ok (.if_icmp .eq 37, 3) := by decide +kernel
theorem dX3_settle_69 : decode cX3_settle 69 = .ok (.iload_n 2, 1) := by decide +kernel
theorem dX3_settle_70 : decode cX3_settle 70 = .ok (.iload 4, 2) := by decide +kernel
theorem dX3_settle_72 : decode cX3_settle 72 = .ok (.ishr, 1) := by decide +kernel
theorem dX3_settle_73 : decode cX3_settle 73 = .ok (.iconst 1, 1) := by decide +kernel
theorem dX3_settle_74 : decode cX3_settle 74 = .ok (.iand, 1) := by decide +kernel
theorem dX3_settle_75 : decode cX3_settle 75 = .ok (.ifCond .ne 28, 3) := by decide +kernel
theorem dX3_settle_78 : decode cX3_settle 78 = .ok (.aload_n 0, 1) := by decide +kernel
theorem dX3_settle_79 : decode cX3_settle 79 = .ok (.getfield 18, 3) := by decide +kernel
theorem dX3_settle_82 : decode cX3_settle 82 = .ok (.iload_n 1, 1) := by decide +kernel
theorem dX3_settle_83 : decode cX3_settle 83 = .ok (.iload 4, 2) := by decide +kernel
theorem dX3_settle_85 : decode cX3_settle 85 = .ok (.iastore, 1) := by decide +kernel
theorem dX3_settle_86 : decode cX3_settle 86 = .ok (.aload_n 0, 1) := by decide +kernel
theorem dX3_settle_87 : decode cX3_settle 87 = .ok (.iload_n 1, 1) := by decide +kernel
theorem dX3_settle_88 : decode cX3_settle 88 = .ok (.iconst 1, 1) := by decide +kernel
theorem dX3_settle_89 : decode cX3_settle 89 = .ok (.iadd, 1) := by decide +kernel
theorem dX3_settle_90 : decode cX3_settle 90 = .ok (.iload_n 2, 1) := by decide +kernel
theorem dX3_settle_91 : decode cX3_settle 91 = .ok (.iconst 1, 1) := by decide +kernel
theorem dX3_settle_92 : decode cX3_settle 92 = .ok (.iload 4, 2) := by decide +kernel
theorem dX3_settle_94 : decode cX3_settle 94 = .ok (.ishl, 1) := by decide +kernel
theorem dX3_settle_95 : decode cX3_settle 95 = .ok (.ior, 1) := by decide +kernel
theorem dX3_settle_96 : decode cX3_settle 96 = .ok (.iload_n 3, 1) := by decide +kernel
theorem dX3_settle_97 : decode cX3_settle 97 = .ok (.iload 5, 2) := by decide +kernel
theorem dX3_settle_99 : decode cX3_settle 99 = .ok (.iadd, 1) := by decide +kernel
theorem dX3_settle_100 : decode cX3_settle 100 = .ok (.invokevirtual 37, 3) := by decide +kernel
theorem dX3_settle_103 : decode cX3_settle 103 = .ok (.iinc 4 1, 3) := by decide +kernel
theorem dX3_settle_106 : decode cX3_settle 106 = .ok (.goto (-64), 3) := by decide +kernel
theorem dX3_settle_109 : decode cX3_settle 109 = .ok (.return_, 1) := by decide +kernel
theorem dX4_init_0 : decode cX4_init 0 = .ok (.aload_n 0, 1) := by decide +kernel
theorem dX4_init_1 : decode cX4_init 1 = .ok (.invokespecial 1, 3) := by decide +kernel
theorem dX4_init_4 : decode cX4_init 4 = .ok (.aload_n 0, 1) := by decide +kernel
theorem dX4_init_5 : decode cX4_init 5 = .ok (.iconst 0, 1) := by decide +kernel
theorem dX4_init_6 : decode cX4_init 6 = .ok (.putfield 7, 3) := by decide +kernel
theorem dX4_init_9 : decode cX4_init 9 = .ok (.aload_n 0, 1) := by decide +kernel
theorem dX4_init_10 : decode cX4_init 10 = .ok (.iconst 0, 1) := by decide +kernel
theorem dX4_init_11 : decode cX4_init 11 = .ok (.putfield 13, 3) := by decide +kernel
theorem dX4_init_14 : decode cX4_init 14 = .ok (.aload_n 0, 1) := by decide +kernel
theorem dX4_init_15 : decode cX4_init 15 = .ok (.iconst 1, 1) := by decide +kernel
theorem dX4_init_16 : decode cX4_init 16 = .ok (.putfield 16, 3) := by decide +kernel
theorem dX4_init_19 : decode cX4_init 19 = .ok (.aload_n 0, 1) := by decide +kernel
theorem dX4_init_20 : decode cX4_init 20 = .ok (.iconst 0, 1) := by decide +kernel
theorem dX4_init_21 : decode cX4_init 21 = .ok (.putfield 19, 3) := by decide +kernel
theorem dX4_init_24 : decode cX4_init 24 = .ok (.aload_n 0, 1) := by decide +kernel
theorem dX4_init_25 : decode cX4_init 25 = .ok (.iconst 0, 1) := by decide +kernel
theorem dX4_init_26 : decode cX4_init 26 = .ok (.putfield 22, 3) := by decide +kernel
theorem dX4_init_29 : decode cX4_init 29 = .ok (.aload_n 0, 1) := by decide +kernel
theorem dX4_init_30 : decode cX4_init 30 = .ok (.iconst 0, 1) := by decide +kernel
theorem dX4_init_31 : decode cX4_init 31 = .ok (.putfield 25, 3) := by decide +kernel
theorem dX4_init_34 : decode cX4_init 34 = .ok (.aload_n 0, 1) := by decide +kernel
theorem dX4_init_35 : decode cX4_init 35 = .ok (.iconst 0, 1) := by decide +kernel
theorem dX4_init_36 : decode cX4_init 36 = .ok (.putfield 28, 3) := by decide +kernel
theorem dX4_init_39 : decode cX4_init 39 = .ok (.aload_n 0, 1) := by decide +kernel
theorem dX4_init_40 : decode cX4_init 40 = .ok (.iconst 0, 1) := by decide +kernel
theorem dX4_init_41 : decode cX4_init 41 = .ok (.putfield 31, 3) := by decide +kernel
theorem dX4_init_44 : decode cX4_init 44 = .ok (.return_, 1) := by decide +kernel
theorem dX4_begin_0 : decode cX4_begin 0 = .ok (.aload_n 0, 1) := by decide +kernel
theorem dX4_begin_1 : decode cX4_begin 1 = .ok (.iload_n 1, 1) := by decide +kernel
theorem dX4_begin_2 : decode cX4_begin 2 = .ok (.putfield 7, 3) := by decide +kernel
theorem dX4_begin_5 : decode cX4_begin 5 = .ok (.aload_n 0, 1) := by decide +kernel
theorem dX4_begin_6 : decode cX4_begin 6 = .ok (.iload_n 2, 1) := by decide +kernel
theorem dX4_begin_7 : decode cX4_begin 7 = .ok (.putfield 13, 3) := by decide +kernel
theorem dX4_begin_10 : decode cX4_begin 10 = .ok (.aload_n 0, 1) := by decide +kernel
theorem dX4_begin_11 : decode cX4_begin 11 = .ok (.iload_n 3, 1) := by decide +kernel
theorem dX4_begin_12 : decode cX4_begin 12 = .ok (.putfield 16, 3) := by decide +kernel
theorem dX4_begin_15 : decode cX4_begin 15 = .ok (.aload_n 0, 1) := by decide +kernel
theorem dX4_begin_16 : decode cX4_begin 16 = .ok (.iload 4, 2) := by decide +kernel
theorem dX4_begin_18 : decode cX4_begin 18 = .ok (.putfield 19, 3) := by decide +kernel
theorem dX4_begin_21 : decode cX4_begin 21 = .ok (.aload_n 0, 1) := by decide +kernel
theorem dX4_begin_22 : decode cX4_begin 22 = .ok (.iconst 0, 1) := by decide +kernel
theorem dX4_begin_23 : decode cX4_begin 23 = .ok (.putfield 22, 3) := by decide +kernel
theorem dX4_begin_26 : decode cX4_begin 26 = .ok (.return_, 1) := by decide +kernel
theorem dX4_touchFrom_0 : decode cX4_touchFrom 0 = .ok (.aload_n 0, 1) := by decide +kernel
theorem dX4_touchFrom_1 : decode cX4_touchFrom 1 = .ok (.iload_n 1, 1) := by decide +kernel
theorem dX4_touchFrom_2 : decode cX4_touchFrom 2 = .ok (.putfield 25, 3) := by decide +kernel
theorem dX4_touchFrom_5 : decode cX4_touchFrom 5 = .ok (.aload_n 0, 1) := by decide +kernel
theorem dX4_touchFrom_6 : decode cX4_touchFrom 6 = .ok (.iload_n 2, 1) := by decide +kernel
theorem dX4_touchFrom_7 : decode cX4_touchFrom 7 = .ok (.putfield 28, 3) := by decide +kernel
theorem dX4_touchFrom_10 : decode cX4_touchFrom 10 = .ok (.return_, 1) := by decide +kernel
theorem dX4_ageOf_0 : decode cX4_ageOf 0 = .ok (.iload_n 2, 1) := by decide +kernel
theorem dX4_ageOf_1 : decode cX4_ageOf 1 = .ok (.aload_n 0, 1) := by decide +kernel
theorem dX4_ageOf_2 : decode cX4_ageOf 2 = .ok (.getfield 25, 3) := by decide +kernel
theorem dX4_ageOf_5 : decode cX4_ageOf 5 = .ok (.isub, 1) := by decide +kernel
theorem dX4_ageOf_6 : decode cX4_ageOf 6 = .ok (.iload_n 1, 1) := by decide +kernel
theorem dX4_ageOf_7 : decode cX4_ageOf 7 = .ok (.aload_n 0, 1) := by decide +kernel
theorem dX4_ageOf_8 : decode cX4_ageOf 8 = .ok (.getfield 28, 3) := by decide +kernel
theorem dX4_ageOf_11 : decode cX4_ageOf 11 = .ok (.imul, 1) := by decide +kernel
theorem dX4_ageOf_12 : decode cX4_ageOf 12 = .ok (.isub, 1) := by decide +kernel
theorem dX4_ageOf_13 : decode cX4_ageOf 13 = .ok (.bipush 10, 2) := by decide +kernel
theorem dX4_ageOf_15 : decode cX4_ageOf 15 = .ok (.idiv, 1) := by decide +kernel
theorem dX4_ageOf_16 : decode cX4_ageOf 16 = .ok (.ireturn, 1) := by decide +kernel
theorem dX4_copyFrom_0 : decode cX4_copyFrom 0 = .ok (.aload_n 0, 1) := by decide +kernel
theorem dX4_copyFrom_1 : decode cX4_copyFrom 1 = .ok (.aload_n 1, 1) := by decide +kernel
theorem dX4_copyFrom_2 : decode cX4_copyFrom 2 = .ok (.getfield 7, 3) := by decide +kernel
theorem dX4_copyFrom_5 : decode cX4_copyFrom 5 = .ok (.putfield 7, 3) := by decide +kernel
theorem dX4_copyFrom_8 : decode cX4_copyFrom 8 = .ok (.aload_n 0, 1) := by decide +kernel
theorem dX4_copyFrom_9 : decode cX4_copyFrom 9 = .ok (.aload_n 1, 1) := by decide +kernel
theorem dX4_copyFrom_10 : decode cX4_copyFrom 10 = .ok (.getfield 13, 3) := by decide +kernel
theorem dX4_copyFrom_13 : decode cX4_copyFrom 13 = .ok (.putfield 13, 3) := by decide +kernel
theorem dX4_copyFrom_16 : decode cX4_copyFrom 16 = .ok (.aload_n 0, 1) := by decide +kernel
theorem dX4_copyFrom_17 : decode cX4_copyFrom 17 = .ok (.aload_n 1, 1) := by decide +kernel
theorem dX4_copyFrom_18 : decode cX4_copyFrom 18 = .ok (.getfield 16, 3) := by decide +kernel
theorem dX4_copyFrom_21 : decode cX4_copyFrom 21 = .ok (.putfield 16, 3) := by decide +kernel
theorem dX4_copyFrom_24 : decode cX4_copyFrom 24 = .ok (.aload_n 0, 1) := by decide +kernel
theorem dX4_copyFrom_25 : decode cX4_copyFrom 25 = .ok (.aload_n 1, 1) := by decide +kernel
theorem dX4_copyFrom_26 : decode cX4_copyFrom 26 = .ok (.getfield 19, 3) := by decide +kernel
theorem dX4_copyFrom_29 : decode cX4_copyFrom 29 = .ok (.putfield 19, 3) := by decide +kernel
theorem dX4_copyFrom_32 : decode cX4_copyFrom 32 = .ok (.aload_n 0, 1) := by decide +kernel
theorem dX4_copyFrom_33 : decode cX4_copyFrom 33 = .ok (.aload_n 1, 1) := by decide +kernel
theorem dX4_copyFrom_34 : decode cX4_copyFrom 34 = .ok (.getfield 22, 3) := by decide +kernel
theorem dX4_copyFrom_37 : decode cX4_copyFrom 37 = .ok (.putfield 22, 3) := by decide +kernel
theorem dX4_copyFrom_40 : decode cX4_copyFrom 40 = .ok (.aload_n 0, 1) := by decide +kernel
theorem dX4_copyFrom_41 : decode cX4_copyFrom 41 = .ok (.aload_n 1, 1) := by decide +kernel
theorem dX4_copyFrom_42 : decode cX4_copyFrom 42 = .ok (.getfield 25, 3) := by decide +kernel
theorem dX4_copyFrom_45 : decode cX4_copyFrom 45 = .ok (.putfield 25, 3) := by decide +kernel
theorem dX4_copyFrom_48 : decode cX4_copyFrom 48 = .ok (.aload_n 0, 1) := by decide +kernel
theorem dX4_copyFrom_49 : decode cX4_copyFrom 49 = .ok (.aload_n 1, 1) := by decide +kernel
theorem dX4_copyFrom_50 : decode cX4_copyFrom 50 = .ok (.getfield 28, 3) := by decide +kernel
theorem dX4_copyFrom_53 : decode cX4_copyFrom 53 = .ok (.putfield 28, 3) := by decide +kernel
theorem dX4_copyFrom_56 : decode cX4_copyFrom 56 = .ok (.aload_n 0, 1) := by decide +kernel
theorem dX4_copyFrom_57 : decode cX4_copyFrom 57 = .ok (.aload_n 1, 1) := by decide +kernel
theorem dX4_copyFrom_58 : decode cX4_copyFrom 58 = .ok (.getfield 31, 3) := by decide +kernel
theorem dX4_copyFrom_61 : decode cX4_copyFrom 61 = .ok (.putfield 31, 3) := by decide +kernel
theorem dX4_copyFrom_64 : decode cX4_copyFrom 64 = .ok (.return_, 1) := by decide +kernel
theorem dX5_init_0 : decode cX5_init 0 = .ok (.aload_n 0, 1) := by decide +kernel
theorem dX5_init_1 : decode cX5_init 1 = .ok (.invokespecial 3, 3) := by decide +kernel
theorem dX5_init_4 : decode cX5_init 4 = .ok (.aload_n 0, 1) := by decide +kernel
theorem dX5_init_5 : decode cX5_init 5 = .ok (.new 9, 3) := by decide +kernel
theorem dX5_init_8 : decode cX5_init 8 = .ok (.dup, 1) := by decide +kernel
theorem dX5_init_9 : decode cX5_init 9 = .ok (.invokespecial 11, 3) := by decide +kernel
theorem dX5_init_12 : decode cX5_init 12 = .ok (.putfield 12, 3) := by decide +kernel
theorem dX5_init_15 : decode cX5_init 15 = .ok (.aload_n 0, 1) := by decide +kernel
theorem dX5_init_16 : decode cX5_init 16 = .ok (.bipush 49, 2) := by decide +kernel
theorem dX5_init_18 : decode cX5_init 18 = .ok (.newarray .int, 2) := by decide +kernel
theorem dX5_init_20 : decode cX5_init 20 = .ok (.putfield 18, 3) := by decide +kernel
theorem dX5_init_23 : decode cX5_init 23 = .ok (.aload_n 0, 1) := by decide +kernel
theorem dX5_init_24 : decode cX5_init 24 = .ok (.aload_n 1, 1) := by decide +kernel
theorem dX5_init_25 : decode cX5_init 25 = .ok (.putfield 22, 3) := by decide +kernel
theorem dX5_init_28 : decode cX5_init 28 = .ok (.aload_n 0, 1) := by decide +kernel
theorem dX5_init_29 : decode cX5_init 29 = .ok (.aload_n 2, 1) := by decide +kernel
theorem dX5_init_30 : decode cX5_init 30 = .ok (.putfield 26, 3) := by decide +kernel
theorem dX5_init_33 : decode cX5_init 33 = .ok (.return_, 1) := by decide +kernel
theorem dX5_heldNow_0 : decode cX5_heldNow 0 = .ok (.aload_n 0, 1) := by decide +kernel
theorem dX5_heldNow_1 : decode cX5_heldNow 1 = .ok (.getfield 22, 3) := by decide +kernel
theorem dX5_heldNow_4 : decode cX5_heldNow 4 = .ok (.getfield 30, 3) := by decide +kernel
theorem dX5_heldNow_7 : decode cX5_heldNow 7 = .ok (.iload_n 2, 1) := by decide +kernel
theorem dX5_heldNow_8 : decode cX5_heldNow 8 = .ok (.aaload, 1) := by decide +kernel
theorem dX5_heldNow_9 : decode cX5_heldNow 9 = .ok (.astore 4, 2) := by decide +kernel
theorem dX5_heldNow_11 : decode cX5_heldNow 11 = .ok (.aload_n 0, 1) := by decide +kernel
theorem dX5_heldNow_12 : decode cX5_heldNow 12 = .ok (.iload_n 2, 1) := by decide +kernel
theorem dX5_heldNow_13 : decode cX5_heldNow 13 = .ok (.aload 4, 2) := by decide +kernel
theorem dX5_heldNow_15 : decode cX5_heldNow 15 = .ok (.getfield 36, 3) := by decide +kernel
theorem dX5_heldNow_18 : decode cX5_heldNow 18 = .ok (.aload 4, 2) := by decide +kernel
theorem dX5_heldNow_20 : decode cX5_heldNow 20 = .ok (.iload_n 3, 1) := by decide +kernel
theorem dX5_heldNow_21 : decode cX5_heldNow 21 = .ok (.invokevirtual 41, 3) := by decide +kernel
theorem dX5_heldNow_24 : decode cX5_heldNow 24 = .ok (.aload_n 0, 1) := by decide +kernel
theorem dX5_heldNow_25 : decode cX5_heldNow 25 = .ok (.getfield 22, 3) := by decide +kernel
theorem dX5_heldNow_28 : decode cX5_heldNow 28 = .ok (.getfield 45, 3) := by decide +kernel
theorem dX5_heldNow_31 : decode cX5_heldNow 31 = .ok (.invokevirtual 49, 3) := by decide +kernel
theorem dX5_heldNow_34 : decode cX5_heldNow 34 = .ok (.aload 4, 2) := by decide +kernel
theorem dX5_heldNow_36 : decode cX5_heldNow 36 = .ok (.iload_n 3, 1) := by decide +kernel
theorem dX5_heldNow_37 : decode cX5_heldNow 37 = .ok (.invokevirtual 53, 3) := by decide +kernel
theorem dX5_heldNow_40 : decode cX5_heldNow 40 = .ok (.istore 5, 2) := by decide +kernel
theorem dX5_heldNow_42 : decode cX5_heldNow 42 = .ok (.aload_n 0, 1) := by decide +kernel
theorem dX5_heldNow_43 : decode cX5_heldNow 43 = .ok (.aload_n 1, 1) := by decide +kernel
theorem dX5_heldNow_44 : decode cX5_heldNow 44 = .ok (.iload 5, 2) := by decide +kernel
theorem dX5_heldNow_46 : decode cX5_heldNow 46 = .ok (.aload_n 0, 1) := by decide +kernel
theorem dX5_heldNow_47 : decode cX5_heldNow 47 = .ok (.getfield 22, 3) := by decide +kernel
theorem dX5_heldNow_50 : decode cX5_heldNow 50 = .ok (.getfield 56, 3) := by decide +kernel
theorem dX5_heldNow_53 : decode cX5_heldNow 53 = .ok (.aload 4, 2) := by decide +kernel
theorem dX5_heldNow_55 : decode cX5_heldNow 55 = .ok (.iload_n 3, 1) := by decide +kernel
theorem dX5_heldNow_56 : decode cX5_heldNow 56 = .ok (.invokevirtual 59, 3) := by decide +kernel
theorem dX5_heldNow_59 : decode cX5_heldNow 59 = .ok (.iconst 3, 1) := by decide +kernel
theorem dX5_heldNow_60 : decode cX5_heldNow 60 = .ok (.imul, 1) := by decide +kernel
theorem dX5_heldNow_61 : decode cX5_heldNow 61 = .ok (.iload 5, 2) := by decide +kernel
theorem dX5_heldNow_63 : decode cX5_heldNow 63 = .ok (.iadd, 1) := by decide +kernel
theorem dX5_heldNow_64 : decode cX5_heldNow 64 = .ok (.iaload, 1) := by decide +kernel
theorem dX5_heldNow_65 : decode cX5_heldNow 65 = .ok (.invokevirtual 62, 3) := by decide +kernel
theorem dX5_heldNow_68 : decode cX5_heldNow 68 = .ok (.ireturn, 1) := by decide +kernel
theorem dX5_sumAt_0 : decode cX5_sumAt 0 = .ok (.aload_n 0, 1) := by decide +kernel
theorem dX5_sumAt_1 : decode cX5_sumAt 1 = .ok (.aload_n 1, 1) := by decide +kernel
theorem dX5_sumAt_2 : decode cX5_sumAt 2 = .ok (.iload_n 2, 1) := by decide +kernel
theorem dX5_sumAt_3 : decode cX5_sumAt 3 = .ok (.aload_n 0, 1) := by decide +kernel
theorem dX5_sumAt_4 : decode cX5_sumAt 4 = .ok (.getfield 22, 3) := by decide +kernel
theorem dX5_sumAt_7 : decode cX5_sumAt 7 = .ok (.getfield 30, 3) := by decide +kernel
theorem dX5_sumAt_10 : decode cX5_sumAt 10 = .ok (.iload_n 2, 1) := by decide +kernel
theorem dX5_sumAt_11 : decode cX5_sumAt 11 = .ok (.aaload, 1) := by decide +kernel
theorem dX5_sumAt_12 : decode cX5_sumAt 12 = .ok (.getfield 36, 3) := by decide +kernel
theorem dX5_sumAt_15 : decode cX5_sumAt 15 = .ok (.iload_n 3, 1) := by decide +kernel
theorem dX5_sumAt_16 : decode cX5_sumAt 16 = .ok (.invokevirtual 66, 3) := by decide +kernel
theorem dX5_sumAt_19 : decode cX5_sumAt 19 = .ok (.ireturn, 1) := by decide +kernel
theorem dX5_sumTouched_0 : decode cX5_sumTouched 0 = .ok (.iconst 0, 1) := by decide +kernel
theorem dX5_sumTouched_1 : decode cX5_sumTouched 1 = .ok (.istore 5, 2) := by decide +kernel
theorem dX5_sumTouched_3 : decode cX5_sumTouched 3 = .ok (.iconst 0, 1) := by decide +kernel
theorem dX5_sumTouched_4 : decode cX5_sumTouched 4 = .ok (.istore 6, 2) := by decide +kernel
theorem dX5_sumTouched_6 : decode cX5_sumTouched 6 = .ok (.iload 6, 2) := by decide +kernel
theorem dX5_sumTouched_8 : decode cX5_sumTouched 8 = .ok (.aload_n 0, 1) := by decide +kernel
theorem dX5_sumTouched_9 : decode cX5_sumTouched 9 = .ok (.getfield 22, 3) := by decide +kernel
theorem dX5_sumTouched_12 : decode cX5_sumTouched 12 = .ok (.getfield 70, 3) := by decide +kernel
theorem dX5_sumTouched_15 : decode cX5_sumTouched 15 = .ok (.if_icmp .ge 30, 3) := by decide +kernel
theorem dX5_sumTouched_18 : decode cX5_sumTouched 18 = .ok (.iload_n 3, 1) := by decide +kernel
theorem dX5_sumTouched_19 : decode cX5_sumTouched 19 = .ok (.iload 6, 2) := by decide +kernel
theorem dX5_sumTouched_21 : decode cX5_sumTouched 21 = .ok (.ishr, 1) := by decide +kernel
theorem dX5_sumTouched_22 : decode cX5_sumTouched 22 = .ok (.iconst 1, 1) := by decide +kernel
theorem dX5_sumTouched_23 : decode cX5_sumTouched 23 = .ok (.iand, 1) := by decide +kernel
theorem dX5_sumTouched_24 : decode cX5_sumTouched 24 = .ok (.iconst 1, 1) := by decide +kernel
theorem dX5_sumTouched_25 : decode cX5_sumTouched 25 = .ok (.if_icmp .ne 10, 3) := by decide +kernel
theorem dX5_sumTouched_28 : decode cX5_sumTouched 28 = .ok (.iload 6, 2) := by decide +kernel
theorem dX5_sumTouched_30 : decode cX5_sumTouched 30 = .ok (.iconst 1, 1) := by decide +kernel
theorem dX5_sumTouched_31 : decode cX5_sumTouched 31 = .ok (.iadd, 1) := by decide +kernel
theorem dX5_sumTouched_32 : decode cX5_sumTouched 32 = .ok (.goto 5, 3) := by decide +kernel
theorem dX5_sumTouched_35 : decode cX5_sumTouched 35 = .ok (.iload 5, 2) := by decide +kernel
theorem dX5_sumTouched_37 : decode cX5_sumTouched 37 = .ok (.istore 5, 2) := by decide +kernel
theorem dX5_sumTouched_39 : decode cX5_sumTouched 39 = .ok (.iinc 6 1, 3) := by decide +kernel
theorem dX5_sumTouched_42 : decode cX5_sumTouched 42 = .ok (.goto (-36), 3) := by decide +kernel
theorem dX5_sumTouched_45 : decode cX5_sumTouched 45 = .ok (.iload_n 3, 1) := by decide +kernel
theorem dX5_sumTouched_46 : decode cX5_sumTouched 46 = .ok (.invokestatic 73, 3) := by decide +kernel
theorem dX5_sumTouched_49 : decode cX5_sumTouched 49 = .ok (.istore 6, 2) := by decide +kernel
theorem dX5_sumTouched_51 : decode cX5_sumTouched 51 = .ok (.iload 5, 2) := by decide +kernel
theorem dX5_sumTouched_53 : decode cX5_sumTouched 53 = .ok (.bipush 7, 2) := by decide +kernel
theorem dX5_sumTouched_55 : decode cX5_sumTouched 55 = .ok (.imul, 1) := by decide +kernel
theorem dX5_sumTouched_56 : decode cX5_sumTouched 56 = .ok (.iload 6, 2) := by decide +kernel
theorem dX5_sumTouched_58 : decode cX5_sumTouched 58 = .ok (.iadd, 1) := by decide +kernel
theorem dX5_sumTouched_59 : decode cX5_sumTouched 59 = .ok (.istore 7, 2) := by decide +kernel
theorem dX5_sumTouched_61 : decode cX5_sumTouched 61 = .ok (.aload_n 0, 1) := by decide +kernel
theorem dX5_sumTouched_62 : decode cX5_sumTouched 62 = .ok (.getfield 18, 3) := by decide +kernel
theorem dX5_sumTouched_65 : decode cX5_sumTouched 65 = .ok (.iload 7, 2) := by decide +kernel
theorem dX5_sumTouched_67 : decode cX5_sumTouched 67 = .ok (.iaload, 1) := by decide +kernel
theorem dX5_sumTouched_68 : decode cX5_sumTouched 68 = .ok (.iconst (-1), 1) := by decide +kernel
theorem dX5_sumTouched_69 : decode cX5_sumTouched 69 = .ok (.if_icmp .ne 96, 3) := by decide +kernel
theorem dX5_sumTouched_72 : decode cX5_sumTouched 72 = .ok (.aload_n 0, 1) := by decide +kernel
theorem dX5_sumTouched_73 : decode cX5_sumTouched 73 = .ok (.getfield 12, 3) := by decide +kernel
theorem dX5_sumTouched_76 : decode cX5_sumTouched 76 = .ok (.aload_n 0, 1) := by decide +kernel
theorem dX5_sumTouched_77 : decode cX5_sumTouched 77 = .ok (.getfield 22, 3) := by decide +kernel
theorem dX5_sumTouched_80 : decode cX5_sumTouched 80 = .ok (.getfield 30, 3) := by decide +kernel
theorem dX5_sumTouched_83 : decode cX5_sumTouched 83 = .ok (.iload_n 2, 1) := by decide +kernel
theorem dX5_sumTouched_84 : decode cX5_sumTouched 84 = .ok (.aaload, 1) := by decide +kernel
theorem dX5_sumTouched_85 : decode cX5_sumTouched 85 = .ok (.getfield 36, 3) := by decide +kernel
theorem dX5_sumTouched_88 : decode cX5_sumTouched 88 = .ok (.invokevirtual 78, 3) := by decide +kernel
theorem dX5_sumTouched_91 : decode cX5_sumTouched 91 = .ok (.aload_n 0, 1) := by decide +kernel
theorem dX5_sumTouched_92 : decode cX5_sumTouched 92 = .ok (.getfield 12, 3) := by decide +kernel
theorem dX5_sumTouched_95 : decode cX5_sumTouched 95 = .ok (.dup, 1) := by decide +kernel
theorem dX5_sumTouched_96 : decode cX5_sumTouched 96 = .ok (.getfield 82, 3) := by decide +kernel
theorem dX5_sumTouched_99 : decode cX5_sumTouched 99 = .ok (.iload 6, 2) := by decide +kernel
theorem dX5_sumTouched_101 : decode cX5_sumTouched 101 = .ok (.iadd, 1) := by decide +kernel
theorem dX5_sumTouched_102 : decode cX5_sumTouched 102 = .ok (.putfield 82, 3) := by decide +kernel
theorem dX5_sumTouched_105 : decode cX5_sumTouched 105 = .ok (.iload 5, 2) := by decide +kernel
theorem dX5_sumTouched_107 : decode cX5_sumTouched 107 = .ok (.ifCond .le 31, 3) := by decide +kernel
theorem dX5_sumTouched_110 : decode cX5_sumTouched 110 = .ok (.aload_n 0, 1) := by decide +kernel
theorem dX5_sumTouched_111 : decode cX5_sumTouched 111 = .ok (.getfield 12, 3) := by decide +kernel
theorem dX5_sumTouched_114 : decode cX5_sumTouched 114 = .ok (.aload_n 0, 1) := by decide +kernel
theorem dX5_sumTouched_115 : decode cX5_sumTouched 115 = .ok (.getfield 22, 3) := by decide +kernel
theorem dX5_sumTouched_118 : decode cX5_sumTouched 118 = .ok (.getfield 45, 3) := by decide +kernel
theorem dX5_sumTouched_121 : decode cX5_sumTouched 121 = .ok (.aload_n 0, 1) := by decide +kernel
theorem dX5_sumTouched_122 : decode cX5_sumTouched 122 = .ok (.getfield 22, 3) := by decide +kernel
theorem dX5_sumTouched_125 : decode cX5_sumTouched 125 = .ok (.getfield 85, 3) := by decide +kernel
theorem dX5_sumTouched_128 : decode cX5_sumTouched 128 = .ok (.iload 5, 2) := by decide +kernel
theorem dX5_sumTouched_130 : decode cX5_sumTouched 130 = .ok (.iconst 1, 1) := by decide +kernel
theorem dX5_sumTouched_131 : decode cX5_sumTouched 131 = .ok (.isub, 1) := by decide +kernel
theorem dX5_sumTouched_132 : decode cX5_sumTouched 132 = .ok (.iaload, 1) := by decide +kernel
theorem dX5_sumTouched_133 : decode cX5_sumTouched 133 = .ok (.iadd, 1) := by decide +kernel
theorem dX5_sumTouched_134 : decode cX5_sumTouched 134 = .ok (.iconst 0, 1) := by decide +kernel
theorem dX5_sumTouched_135 : decode cX5_sumTouched 135 = .ok (.invokevirtual 88, 3) := by decide +kernel
theorem dX5_sumTouched_138 : decode cX5_sumTouched 138 = .ok (.aload_n 0, 1) := by decide +kernel
theorem dX5_sumTouched_139 : decode cX5_sumTouched 139 = .ok (.getfield 18, 3) := by decide +kernel
theorem dX5_sumTouched_142 : decode cX5_sumTouched 142 = .ok (.iload 7, 2) := by decide +kernel
theorem dX5_sumTouched_144 : decode cX5_sumTouched 144 = .ok (.aload_n 0, 1) := by decide +kernel
theorem dX5_sumTouched_145 : decode cX5_sumTouched 145 = .ok (.aload_n 1, 1) := by decide +kernel
theorem dX5_sumTouched_146 : decode cX5_sumTouched 146 = .ok (.iload_n 2, 1) := by decide +kernel
theorem dX5_sumTouched_147 : decode cX5_sumTouched 147 = .ok (.aload_n 0, 1) := by decide +kernel
theorem dX5_sumTouched_148 : decode cX5_sumTouched 148 = .ok (.getfield 12, 3) := by decide +kernel
theorem dX5_sumTouched_151 : decode cX5_sumTouched 151 = .ok (.aload_n 0, 1) := by decide +kernel
theorem dX5_sumTouched_152 : decode cX5_sumTouched 152 = .ok (.getfield 22, 3) := by decide +kernel
theorem dX5_sumTouched_155 : decode cX5_sumTouched 155 = .ok (.getfield 45, 3) := by decide +kernel
theorem dX5_sumTouched_158 : decode cX5_sumTouched 158 = .ok (.iload 4, 2) := by decide +kernel
theorem dX5_sumTouched_160 : decode cX5_sumTouched 160 = .ok (.iadd, 1) := by decide +kernel
theorem dX5_sumTouched_161 : decode cX5_sumTouched 161 = .ok (.invokevirtual 66, 3) := by decide +kernel
theorem dX5_sumTouched_164 : decode cX5_sumTouched 164 = .ok (.iastore, 1) := by decide +kernel
theorem dX5_sumTouched_165 : decode cX5_sumTouched 165 = .ok (.aload_n 0, 1) := by decide +kernel
theorem dX5_sumTouched_166 : decode cX5_sumTouched 166 = .ok (.getfield 18, 3) := by decide +kernel
theorem dX5_sumTouched_169 : decode cX5_sumTouched 169 = .ok (.iload 7, 2) := by decide +kernel
theorem dX5_sumTouched_171 : decode cX5_sumTouched 171 = .ok (.iaload, 1) := by decide +kernel
theorem dX5_sumTouched_172 : decode cX5_sumTouched 172 = .ok (.ireturn, 1) := by decide +kernel
theorem dX5_forgetTouches_0 : decode cX5_forgetTouches 0 = .ok (.aload_n 0, 1) := by decide +kernel
theorem dX5_forgetTouches_1 : decode cX5_forgetTouches 1 = .ok (.getfield 18, 3) := by decide +kernel
theorem dX5_forgetTouches_4 : decode cX5_forgetTouches 4 = .ok (.iconst (-1), 1) := by decide +kernel
theorem dX5_forgetTouches_5 : decode cX5_forgetTouches 5 = .ok (.invokestatic 92, 3) := by decide +kernel
theorem dX5_forgetTouches_8 : decode cX5_forgetTouches 8 = .ok (.return_, 1) := by decide +kernel
theorem dX5_sumIfPut_0 : decode cX5_sumIfPut 0 = .ok (.aload_n 0, 1) := by decide +kernel
theorem dX5_sumIfPut_1 : decode cX5_sumIfPut 1 = .ok (.getfield 22, 3) := by decide +kernel
theorem dX5_sumIfPut_4 : decode cX5_sumIfPut 4 = .ok (.getfield 30, 3) := by decide +kernel
theorem dX5_sumIfPut_7 : decode cX5_sumIfPut 7 = .ok (.iload_n 2, 1) := by decide +kernel
theorem dX5_sumIfPut_8 : decode cX5_sumIfPut 8 = .ok (.aaload, 1) := by decide +kernel
theorem dX5_sumIfPut_9 : decode cX5_sumIfPut 9 = .ok (.iload 4, 2) := by decide +kernel
theorem dX5_sumIfPut_11 : decode cX5_sumIfPut 11 = .ok (.invokevirtual 98, 3) := by decide +kernel
theorem dX5_sumIfPut_14 : decode cX5_sumIfPut 14 = .ok (.aload_n 0, 1) := by decide +kernel
theorem dX5_sumIfPut_15 : decode cX5_sumIfPut 15 = .ok (.getfield 22, 3) := by decide +kernel
theorem dX5_sumIfPut_18 : decode cX5_sumIfPut 18 = .ok (.getfield 101, 3) := by decide +kernel
theorem dX5_sumIfPut_21 : decode cX5_sumIfPut 21 = .ok (.iload_n 3, 1) := by decide +kernel
theorem dX5_sumIfPut_22 : decode cX5_sumIfPut 22 = .ok (.iaload, 1) := by decide +kernel
theorem dX5_sumIfPut_23 : decode cX5_sumIfPut 23 = .ok (.if_icmp .le 5, 3) := by decide +kernel
theorem dX5_sumIfPut_26 : decode cX5_sumIfPut 26 = .ok (.iconst (-1), 1) := by decide +kernel
theorem dX5_sumIfPut_27 : decode cX5_sumIfPut 27 = .ok (.ireturn, 1) := by decide +kernel
theorem dX5_sumIfPut_28 : decode cX5_sumIfPut 28 = .ok (.aload_n 0, 1) := by decide +kernel
theorem dX5_sumIfPut_29 : decode cX5_sumIfPut 29 = .ok (.getfield 12, 3) := by decide +kernel
theorem dX5_sumIfPut_32 : decode cX5_sumIfPut 32 = .ok (.iload_n 3, 1) := by decide +kernel
theorem dX5_sumIfPut_33 : decode cX5_sumIfPut 33 = .ok (.iconst 0, 1) := by decide +kernel
theorem dX5_sumIfPut_34 : decode cX5_sumIfPut 34 = .ok (.iload 4, 2) := by decide +kernel
theorem dX5_sumIfPut_36 : decode cX5_sumIfPut 36 = .ok (.iload 5, 2) := by decide +kernel
theorem dX5_sumIfPut_38 : decode cX5_sumIfPut 38 = .ok (.invokevirtual 104, 3) := by decide +kernel
theorem dX5_sumIfPut_41 : decode cX5_sumIfPut 41 = .ok (.aload_n 0, 1) := by decide +kernel
theorem dX5_sumIfPut_42 : decode cX5_sumIfPut 42 = .ok (.getfield 12, 3) := by decide +kernel
theorem dX5_sumIfPut_45 : decode cX5_sumIfPut 45 = .ok (.aload_n 0, 1) := by decide +kernel
theorem dX5_sumIfPut_46 : decode cX5_sumIfPut 46 = .ok (.getfield 22, 3) := by decide +kernel
theorem dX5_sumIfPut_49 : decode cX5_sumIfPut 49 = .ok (.getfield 108, 3) := by decide +kernel
theorem dX5_sumIfPut_52 : decode cX5_sumIfPut 52 = .ok (.putfield 111, 3) := by decide +kernel
theorem dX5_sumIfPut_55 : decode cX5_sumIfPut 55 = .ok (.aload_n 0, 1) := by decide +kernel
theorem dX5_sumIfPut_56 : decode cX5_sumIfPut 56 = .ok (.getfield 12, 3) := by decide +kernel
theorem dX5_sumIfPut_59 : decode cX5_sumIfPut 59 = .ok (.aload_n 0, 1) := by decide +kernel
theorem dX5_sumIfPut_60 : decode cX5_sumIfPut 60 = .ok (.getfield 22, 3) := by decide +kernel
theorem dX5_sumIfPut_63 : decode cX5_sumIfPut 63 = .ok (.getfield 45, 3) := by decide +kernel
theorem dX5_sumIfPut_66 : decode cX5_sumIfPut 66 = .ok (.iconst 0, 1) := by decide +kernel
theorem dX5_sumIfPut_67 : decode cX5_sumIfPut 67 = .ok (.invokevirtual 88, 3) := by decide +kernel
theorem dX5_sumIfPut_70 : decode cX5_sumIfPut 70 = .ok (.aload_n 0, 1) := by decide +kernel
theorem dX5_sumIfPut_71 : decode cX5_sumIfPut 71 = .ok (.aload_n 1, 1) := by decide +kernel
theorem dX5_sumIfPut_72 : decode cX5_sumIfPut 72 = .ok (.iload_n 2, 1) := by decide +kernel
theorem dX5_sumIfPut_73 : decode cX5_sumIfPut 73 = .ok (.aload_n 0, 1) := by decide +kernel
theorem dX5_sumIfPut_74 : decode cX5_sumIfPut 74 = .ok (.getfield 12, 3) := by decide +kernel
theorem dX5_sumIfPut_77 : decode cX5_sumIfPut 77 = .ok (.aload_n 0, 1) := by decide +kernel
theorem dX5_sumIfPut_78 : decode cX5_sumIfPut 78 = .ok (.getfield 22, 3) := by decide +kernel
theorem dX5_sumIfPut_81 : decode cX5_sumIfPut 81 = .ok (.getfield 45, 3) := by decide +kernel
theorem dX5_sumIfPut_84 : decode cX5_sumIfPut 84 = .ok (.invokevirtual 66, 3) := by decide +kernel
theorem dX5_sumIfPut_87 : decode cX5_sumIfPut 87 = .ok (.ireturn, 1) := by decide +kernel
theorem dX5_heldByTurns_0 : decode cX5_heldByTurns 0 = .ok (.aload_n 0, 1) := by decide +kernel
theorem dX5_heldByTurns_1 : decode cX5_heldByTurns 1 = .ok (.getfield 26, 3) := by decide +kernel
theorem dX5_heldByTurns_4 : decode cX5_heldByTurns 4 = .ok (.getfield 114, 3) := by decide +kernel
theorem dX5_heldByTurns_7 : decode cX5_heldByTurns 7 = .ok (.iconst 0, 1) := by decide +kernel
theorem dX5_heldByTurns_8 : decode cX5_heldByTurns 8 = .ok (.invokestatic 92, 3) := by decide +kernel
theorem dX5_heldByTurns_11 : decode cX5_heldByTurns 11 = .ok (.aload_n 0, 1) := by decide +kernel
theorem dX5_heldByTurns_12 : decode cX5_heldByTurns 12 = .ok (.getfield 26, 3) := by decide +kernel
theorem dX5_heldByTurns_15 : decode cX5_heldByTurns 15 = .ok (.getfield 114, 3) := by decide +kernel
theorem dX5_heldByTurns_18 : decode cX5_heldByTurns 18 = .ok (.iconst 2, 1) := by decide +kernel
theorem dX5_heldByTurns_19 : decode cX5_heldByTurns 19 = .ok (.iload_n 2, 1) := by decide +kernel
theorem dX5_heldByTurns_20 : decode cX5_heldByTurns 20 = .ok (.iastore, 1) := by decide +kernel
theorem dX5_heldByTurns_21 : decode cX5_heldByTurns 21 = .ok (.aload_n 0, 1) := by decide +kernel
theorem dX5_heldByTurns_22 : decode cX5_heldByTurns 22 = .ok (.getfield 26, 3) := by decide +kernel
theorem dX5_heldByTurns_25 : decode cX5_heldByTurns 25 = .ok (.getfield 114, 3) := by decide +kernel
theorem dX5_heldByTurns_28 : decode cX5_heldByTurns 28 = .ok (.iconst 0, 1) := by decide +kernel
theorem dX5_heldByTurns_29 : decode cX5_heldByTurns 29 = .ok (.iload_n 3, 1) := by decide +kernel
theorem dX5_heldByTurns_30 : decode cX5_heldByTurns 30 = .ok (.iastore, 1) := by decide +kernel
theorem dX5_heldByTurns_31 : decode cX5_heldByTurns 31 = .ok (.aload_n 0, 1) := by decide +kernel
theorem dX5_heldByTurns_32 : decode cX5_heldByTurns 32 = .ok (.getfield 26, 3) := by decide +kernel
theorem dX5_heldByTurns_35 : decode cX5_heldByTurns 35 = .ok (.getfield 114, 3) := by decide +kernel
theorem dX5_heldByTurns_38 : decode cX5_heldByTurns 38 = .ok (.bipush 6, 2) := by decide +kernel
theorem dX5_heldByTurns_40 : decode cX5_heldByTurns 40 = .ok (.iconst 3, 1) := by decide +kernel
theorem dX5_heldByTurns_41 : decode cX5_heldByTurns 41 = .ok (.iastore, 1) := by decide +kernel
theorem dX5_heldByTurns_42 : decode cX5_heldByTurns 42 = .ok (.aload_n 0, 1) := by decide +kernel
theorem dX5_heldByTurns_43 : decode cX5_heldByTurns 43 = .ok (.getfield 26, 3) := by decide +kernel
theorem dX5_heldByTurns_46 : decode cX5_heldByTurns 46 = .ok (.aload_n 1, 1) := by decide +kernel
theorem dX5_heldByTurns_47 : decode cX5_heldByTurns 47 = .ok (.invokevirtual 119, 3) := by decide +kernel
theorem dX5_heldByTurns_50 : decode cX5_heldByTurns 50 = .ok (.ireturn, 1) := by decide +kernel
theorem dX5_sumBy_0 : decode cX5_sumBy 0 = .ok (.aload_n 0, 1) := by decide +kernel
theorem dX5_sumBy_1 : decode cX5_sumBy 1 = .ok (.getfield 22, 3) := by decide +kernel
theorem dX5_sumBy_4 : decode cX5_sumBy 4 = .ok (.getfield 30, 3) := by decide +kernel
theorem dX5_sumBy_7 : decode cX5_sumBy 7 = .ok (.iload_n 2, 1) := by decide +kernel
theorem dX5_sumBy_8 : decode cX5_sumBy 8 = .ok (.aaload, 1) := by decide +kernel
theorem dX5_sumBy_9 : decode cX5_sumBy 9 = .ok (.astore 5, 2) := by decide +kernel
theorem dX5_sumBy_11 : decode cX5_sumBy 11 = .ok (.iconst 0, 1) := by decide +kernel
theorem dX5_sumBy_12 : decode cX5_sumBy 12 = .ok (.istore 6, 2) := by decide +kernel
theorem dX5_sumBy_14 : decode cX5_sumBy 14 = .ok (.aload_n 3, 1) := by decide +kernel
theorem dX5_sumBy_15 : decode cX5_sumBy 15 = .ok (.getfield 123, 3) := by decide +kernel
theorem dX5_sumBy_18 : decode cX5_sumBy 18 = .ok (.istore 7, 2) := by decide +kernel
theorem dX5_sumBy_20 : decode cX5_sumBy 20 = .ok (.iconst (-1), 1) := by decide +kernel
theorem dX5_sumBy_21 : decode cX5_sumBy 21 = .ok (.istore 8, 2) := by decide +kernel
theorem dX5_sumBy_23 : decode cX5_sumBy 23 = .ok (.iconst 0, 1) := by decide +kernel
theorem dX5_sumBy_24 : decode cX5_sumBy 24 = .ok (.istore 9, 2) := by decide +kernel
theorem dX5_sumBy_26 : decode cX5_sumBy 26 = .ok (.iload 9, 2) := by decide +kernel
theorem dX5_sumBy_28 : decode cX5_sumBy 28 = .ok (.aload 5, 2) := by decide +kernel
theorem dX5_sumBy_30 : decode cX5_sumBy 30 = .ok (.getfield 126, 3) := by decide +kernel
theorem dX5_sumBy_33 : decode cX5_sumBy 33 = .ok (.if_icmp .ge 69, 3) := by decide +kernel
theorem dX5_sumBy_36 : decode cX5_sumBy 36 = .ok (.iload 7, 2) := by decide +kernel
theorem dX5_sumBy_38 : decode cX5_sumBy 38 = .ok (.aload_n 3, 1) := by decide +kernel
theorem dX5_sumBy_39 : decode cX5_sumBy 39 = .ok (.getfield 123, 3) := by decide +kernel
theorem dX5_sumBy_42 : decode cX5_sumBy 42 = .ok (.if_icmp .lt 19, 3) := by decide +kernel
theorem dX5_sumBy_45 : decode cX5_sumBy 45 = .ok (.iconst 0, 1) := by decide +kernel
theorem dX5_sumBy_46 : decode cX5_sumBy 46 = .ok (.istore 7, 2) := by decide +kernel
theorem dX5_sumBy_48 : decode cX5_sumBy 48 = .ok (.iinc 8 1, 3) := by decide +kernel
theorem dX5_sumBy_51 : decode cX5_sumBy 51 = .ok (.aload_n 0, 1) := by decide +kernel
theorem dX5_sumBy_52 : decode cX5_sumBy 52 = .ok (.iload_n 2, 1) := by decide +kernel
theorem dX5_sumBy_53 : decode cX5_sumBy 53 = .ok (.aload_n 3, 1) := by decide +kernel
theorem dX5_sumBy_54 : decode cX5_sumBy 54 = .ok (.iload 8, 2) := by decide +kernel
theorem dX5_sumBy_56 : decode cX5_sumBy 56 = .ok (.iload 4, 2) := by decide +kernel
theorem dX5_sumBy_58 : decode cX5_sumBy 58 = .ok (.invokevirtual 49, 3) := by decide +kernel
theorem dX5_sumBy_61 : decode cX5_sumBy 61 = .ok (.iload 6, 2) := by decide +kernel
theorem dX5_sumBy_63 : decode cX5_sumBy 63 = .ok (.aload_n 0, 1) := by decide +kernel
theorem dX5_sumBy_64 : decode cX5_sumBy 64 = .ok (.aload_n 1, 1) := by decide +kernel
theorem dX5_sumBy_65 : decode cX5_sumBy 65 = .ok (.iload 7, 2) := by decide +kernel
theorem dX5_sumBy_67 : decode cX5_sumBy 67 = .ok (.aload_n 0, 1) := by decide +kernel
theorem dX5_sumBy_68 : decode cX5_sumBy 68 = .ok (.getfield 22, 3) := by decide +kernel
theorem dX5_sumBy_71 : decode cX5_sumBy 71 = .ok (.getfield 56, 3) := by decide +kernel
theorem dX5_sumBy_74 : decode cX5_sumBy 74 = .ok (.aload 5, 2) := by decide +kernel
theorem dX5_sumBy_76 : decode cX5_sumBy 76 = .ok (.iload 9, 2) := by decide +kernel
theorem dX5_sumBy_78 : decode cX5_sumBy 78 = .ok (.invokevirtual 59, 3) := by decide +kernel
theorem dX5_sumBy_81 : decode cX5_sumBy 81 = .ok (.iconst 3, 1) := by decide +kernel
theorem dX5_sumBy_82 : decode cX5_sumBy 82 = .ok (.imul, 1) := by decide +kernel
theorem dX5_sumBy_83 : decode cX5_sumBy 83 = .ok (.iload 7, 2) := by decide +kernel
theorem dX5_sumBy_85 : decode cX5_sumBy 85 = .ok (.iadd, 1) := by decide +kernel
theorem dX5_sumBy_86 : decode cX5_sumBy 86 = .ok (.iaload, 1) := by decide +kernel
theorem dX5_sumBy_87 : decode cX5_sumBy 87 = .ok (.invokevirtual 62, 3) := by decide +kernel
theorem dX5_sumBy_90 : decode cX5_sumBy 90 = .ok (.iadd, 1) := by decide +kernel
theorem dX5_sumBy_91 : decode cX5_sumBy 91 = .ok (.istore 6, 2) := by decide +kernel
theorem dX5_sumBy_93 : decode cX5_sumBy 93 = .ok (.iinc 7 1, 3) := by decide +kernel
theorem dX5_sumBy_96 : decode cX5_sumBy 96 = .ok (.iinc 9 1, 3) := by decide +kernel
theorem dX5_sumBy_99 : decode cX5_sumBy 99 = .ok (.goto (-73), 3) := by decide +kernel
theorem dX5_sumBy_102 : decode cX5_sumBy 102 = .ok (.iload 6, 2) := by decide +kernel
theorem dX5_sumBy_104 : decode cX5_sumBy 104 = .ok (.ireturn, 1) := by decide +kernel
theorem dX5_facePlace_0 : decode cX5_facePlace 0 = .ok (.aload_n 0, 1) := by decide +kernel
theorem dX5_facePlace_1 : decode cX5_facePlace 1 = .ok (.getfield 22, 3) := by decide +kernel
theorem dX5_facePlace_4 : decode cX5_facePlace 4 = .ok (.getfield 30, 3) := by decide +kernel
theorem dX5_facePlace_7 : decode cX5_facePlace 7 = .ok (.iload_n 1, 1) := by decide +kernel
theorem dX5_facePlace_8 : decode cX5_facePlace 8 = .ok (.aaload, 1) := by decide +kernel
theorem dX5_facePlace_9 : decode cX5_facePlace 9 = .ok (.astore 5, 2) := by decide +kernel
theorem dX5_facePlace_11 : decode cX5_facePlace 11 = .ok (.aload_n 0, 1) := by decide +kernel
theorem dX5_facePlace_12 : decode cX5_facePlace 12 = .ok (.getfield 26, 3) := by decide +kernel
theorem dX5_facePlace_15 : decode cX5_facePlace 15 = .ok (.getfield 114, 3) := by decide +kernel
theorem dX5_facePlace_18 : decode cX5_facePlace 18 = .ok (.astore 6, 2) := by decide +kernel
theorem dX5_facePlace_20 : decode cX5_facePlace 20 = .ok (.aload 6, 2) := by decide +kernel
theorem dX5_facePlace_22 : decode cX5_facePlace 22 = .ok (.iconst 0, 1) := by decide +kernel
theorem dX5_facePlace_23 : decode cX5_facePlace 23 = .ok (.aload_n 2, 1) := by decide +kernel
theorem dX5_facePlace_24 : decode cX5_facePlace 24 = .ok (.getfield 129, 3) := by decide +kernel
theorem dX5_facePlace_27 : decode cX5_facePlace 27 = .ok (.iastore, 1) := by decide +kernel
theorem dX5_facePlace_28 : decode cX5_facePlace 28 = .ok (.aload 6, 2) := by decide +kernel
theorem dX5_facePlace_30 : decode cX5_facePlace 30 = .ok (.iconst 2, 1) := by decide +kernel
theorem dX5_facePlace_31 : decode cX5_facePlace 31 = .ok (.aload_n 0, 1) := by decide +kernel
theorem dX5_facePlace_32 : decode cX5_facePlace 32 = .ok (.iload_n 1, 1) := by decide +kernel
theorem dX5_facePlace_33 : decode cX5_facePlace 33 = .ok (.aload_n 2, 1) := by decide +kernel
theorem dX5_facePlace_34 : decode cX5_facePlace 34 = .ok (.aload_n 2, 1) := by decide +kernel
theorem dX5_facePlace_35 : decode cX5_facePlace 35 = .ok (.getfield 132, 3) := by decide +kernel
theorem dX5_facePlace_38 : decode cX5_facePlace 38 = .ok (.iload_n 3, 1) := by decide +kernel
theorem dX5_facePlace_39 : decode cX5_facePlace 39 = .ok (.iadd, 1) := by decide +kernel
theorem dX5_facePlace_40 : decode cX5_facePlace 40 = .ok (.invokevirtual 135, 3) := by decide +kernel
theorem dX5_facePlace_43 : decode cX5_facePlace 43 = .ok (.iastore, 1) := by decide +kernel
theorem dX5_facePlace_44 : decode cX5_facePlace 44 = .ok (.aload 6, 2) := by decide +kernel
theorem dX5_facePlace_46 : decode cX5_facePlace 46 = .ok (.iconst 3, 1) := by decide +kernel
theorem dX5_facePlace_47 : decode cX5_facePlace 47 = .ok (.aload_n 0, 1) := by decide +kernel
theorem dX5_facePlace_48 : decode cX5_facePlace 48 = .ok (.aload 5, 2) := by decide +kernel
theorem dX5_facePlace_50 : decode cX5_facePlace 50 = .ok (.aload_n 2, 1) := by decide +kernel
theorem dX5_facePlace_51 : decode cX5_facePlace 51 = .ok (.iload_n 3, 1) := by decide +kernel
theorem dX5_facePlace_52 : decode cX5_facePlace 52 = .ok (.invokevirtual 139, 3) := by decide +kernel
theorem dX5_facePlace_55 : decode cX5_facePlace 55 = .ok (.iastore, 1) := by decide +kernel
theorem dX5_facePlace_56 : decode cX5_facePlace 56 = .ok (.aload 6, 2) := by decide +kernel
theorem dX5_facePlace_58 : decode cX5_facePlace 58 = .ok (.iconst 4, 1) := by decide +kernel
theorem dX5_facePlace_59 : decode cX5_facePlace 59 = .ok (.aload_n 2, 1) := by decide +kernel
theorem dX5_facePlace_60 : decode cX5_facePlace 60 = .ok (.iload_n 3, 1) := by decide +kernel
theorem dX5_facePlace_61 : decode cX5_facePlace 61 = .ok (.iload 4, 2) := by decide +kernel
theorem dX5_facePlace_63 : decode cX5_facePlace 63 = .ok (.invokevirtual 143, 3) := by decide +kernel
theorem dX5_facePlace_66 : decode cX5_facePlace 66 = .ok (.iastore, 1) := by decide +kernel
theorem dX5_facePlace_67 : decode cX5_facePlace 67 = .ok (.aload 6, 2) := by decide +kernel
theorem dX5_facePlace_69 : decode cX5_facePlace 69 = .ok (.iconst 5, 1) := by decide +kernel
theorem dX5_facePlace_70 : decode cX5_facePlace 70 = .ok (.aload_n 2, 1) := by decide +kernel
theorem dX5_facePlace_71 : decode cX5_facePlace 71 = .ok (.getfield 82, 3) := by decide +kernel
theorem dX5_facePlace_74 : decode cX5_facePlace 74 = .ok (.iastore, 1) := by decide +kernel
theorem dX5_facePlace_75 : decode cX5_facePlace 75 = .ok (.aload 6, 2) := by decide +kernel
theorem dX5_facePlace_77 : decode cX5_facePlace 77 = .ok (.bipush 6, 2) := by decide +kernel
theorem dX5_facePlace_79 : decode cX5_facePlace 79 = .ok (.aload_n 2, 1) := by decide +kernel
theorem dX5_facePlace_80 : decode cX5_facePlace 80 = .ok (.getfield 123, 3) := by decide +kernel
theorem dX5_facePlace_83 : decode cX5_facePlace 83 = .ok (.iastore, 1) := by decide +kernel
theorem dX5_facePlace_84 : decode cX5_facePlace 84 = .ok (.aload 6, 2) := by decide +kernel
theorem dX5_facePlace_86 : decode cX5_facePlace 86 = .ok (.bipush 8, 2) := by decide +kernel
theorem dX5_facePlace_88 : decode cX5_facePlace 88 = .ok (.iload_n 3, 1) := by decide +kernel
theorem dX5_facePlace_89 : decode cX5_facePlace 89 = .ok (.ifCond .ne 7, 3) := by decide +kernel
theorem dX5_facePlace_92 : decode cX5_facePlace 92 = .ok (.iconst 1, 1) := by decide +kernel
theorem dX5_facePlace_93 : decode cX5_facePlace 93 = .ok (.goto 4, 3) := by decide +kernel
theorem dX5_facePlace_96 : decode cX5_facePlace 96 = .ok (.iconst 0, 1) := by decide +kernel
theorem dX5_facePlace_97 : decode cX5_facePlace 97 = .ok (.iastore, 1) := by decide +kernel
theorem dX5_facePlace_98 : decode cX5_facePlace 98 = .ok (.aload 6, 2) := by decide +kernel
theorem dX5_facePlace_100 : decode cX5_facePlace 100 = .ok (.bipush 9, 2) := by decide +kernel
theorem dX5_facePlace_102 : decode cX5_facePlace 102 = .ok (.iload_n 3, 1) := by decide +kernel
theorem dX5_facePlace_103 : decode cX5_facePlace 103 = .ok (.aload 5, 2) := by decide +kernel
theorem dX5_facePlace_105 : decode cX5_facePlace 105 = .ok (.aload_n 2, 1) := by decide +kernel
theorem dX5_facePlace_106 : decode cX5_facePlace 106 = .ok (.getfield 123, 3) := by decide +kernel
theorem dX5_facePlace_109 : decode cX5_facePlace 109 = .ok (.invokevirtual 98, 3) := by decide +kernel
theorem dX5_facePlace_112 : decode cX5_facePlace 112 = .ok (.iconst 1, 1) := by decide +kernel
theorem dX5_facePlace_113 : decode cX5_facePlace 113 = .ok (.isub, 1) := by decide +kernel
theorem dX5_facePlace_114 : decode cX5_facePlace 114 = .ok (.if_icmp .ne 7, 3) := by decide +kernel
theorem dX5_facePlace_117 : decode cX5_facePlace 117 = .ok (.iconst 1, 1) := by decide +kernel
theorem dX5_facePlace_118 : decode cX5_facePlace 118 = .ok (.goto 4, 3) := by decide +kernel
theorem dX5_facePlace_121 : decode cX5_facePlace 121 = .ok (.iconst 0, 1) := by decide +kernel
theorem dX5_facePlace_122 : decode cX5_facePlace 122 = .ok (.iastore, 1) := by decide +kernel
theorem dX5_facePlace_123 : decode cX5_facePlace 123 = .ok (.return_, 1) := by decide +kernel
theorem dX5_heldWith_0 : decode cX5_heldWith 0 = .ok (.aload_n 0, 1) := by decide +kernel
theorem dX5_heldWith_1 : decode cX5_heldWith 1 = .ok (.getfield 26, 3) := by decide +kernel
theorem dX5_heldWith_4 : decode cX5_heldWith 4 = .ok (.getfield 114, 3) := by decide +kernel
theorem dX5_heldWith_7 : decode cX5_heldWith 7 = .ok (.bipush 7, 2) := by decide +kernel
theorem dX5_heldWith_9 : decode cX5_heldWith 9 = .ok (.iload_n 2, 1) := by decide +kernel
theorem dX5_heldWith_10 : decode cX5_heldWith 10 = .ok (.iastore, 1) := by decide +kernel
theorem dX5_heldWith_11 : decode cX5_heldWith 11 = .ok (.aload_n 0, 1) := by decide +kernel
theorem dX5_heldWith_12 : decode cX5_heldWith 12 = .ok (.getfield 26, 3) := by decide +kernel
theorem dX5_heldWith_15 : decode cX5_heldWith 15 = .ok (.getfield 114, 3) := by decide +kernel
theorem dX5_heldWith_18 : decode cX5_heldWith 18 = .ok (.iconst 1, 1) := by decide +kernel
theorem dX5_heldWith_19 : decode cX5_heldWith 19 = .ok (.iload_n 3, 1) := by decide +kernel
theorem dX5_heldWith_20 : decode cX5_heldWith 20 = .ok (.iastore, 1) := by decide +kernel
theorem dX5_heldWith_21 : decode cX5_heldWith 21 = .ok (.aload_n 0, 1) := by decide +kernel
theorem dX5_heldWith_22 : decode cX5_heldWith 22 = .ok (.getfield 26, 3) := by decide +kernel
theorem dX5_heldWith_25 : decode cX5_heldWith 25 = .ok (.aload_n 1, 1) := by decide +kernel
theorem dX5_heldWith_26 : decode cX5_heldWith 26 = .ok (.invokevirtual 119, 3) := by decide +kernel
theorem dX5_heldWith_29 : decode cX5_heldWith 29 = .ok (.ireturn, 1) := by decide +kernel
theorem dX5_oldAt_0 : decode cX5_oldAt 0 = .ok (.iconst 0, 1) := by decide +kernel
theorem dX5_oldAt_1 : decode cX5_oldAt 1 = .ok (.istore 4, 2) := by decide +kernel
theorem dX5_oldAt_3 : decode cX5_oldAt 3 = .ok (.iconst 0, 1) := by decide +kernel
theorem dX5_oldAt_4 : decode cX5_oldAt 4 = .ok (.istore 5, 2) := by decide +kernel
theorem dX5_oldAt_6 : decode cX5_oldAt 6 = .ok (.iload 5, 2) := by decide +kernel
theorem dX5_oldAt_8 : decode cX5_oldAt 8 = .ok (.aload_n 0, 1) := by decide +kernel
theorem dX5_oldAt_9 : decode cX5_oldAt 9 = .ok (.getfield 22, 3) := by decide +kernel
theorem dX5_oldAt_12 : decode cX5_oldAt 12 = .ok (.getfield 147, 3) := by decide +kernel
theorem dX5_oldAt_15 : decode cX5_oldAt 15 = .ok (.if_icmp .ge 67, 3) := by decide +kernel
theorem dX5_oldAt_18 : decode cX5_oldAt 18 = .ok (.aload_n 0, 1) := by decide +kernel
theorem dX5_oldAt_19 : decode cX5_oldAt 19 = .ok (.getfield 22, 3) := by decide +kernel
theorem dX5_oldAt_22 : decode cX5_oldAt 22 = .ok (.getfield 30, 3) := by decide +kernel
theorem dX5_oldAt_25 : decode cX5_oldAt 25 = .ok (.iload 5, 2) := by decide +kernel
theorem dX5_oldAt_27 : decode cX5_oldAt 27 = .ok (.aaload, 1) := by decide +kernel
theorem dX5_oldAt_28 : decode cX5_oldAt 28 = .ok (.astore 6, 2) := by decide +kernel
theorem dX5_oldAt_30 : decode cX5_oldAt 30 = .ok (.iload 5, 2) := by decide +kernel
theorem dX5_oldAt_32 : decode cX5_oldAt 32 = .ok (.iload_n 1, 1) := by decide +kernel
theorem dX5_oldAt_33 : decode cX5_oldAt 33 = .ok (.if_icmp .eq 43, 3) := by decide +kernel
theorem dX5_oldAt_36 : decode cX5_oldAt 36 = .ok (.aload 6, 2) := by decide +kernel
theorem dX5_oldAt_38 : decode cX5_oldAt 38 = .ok (.getfield 150, 3) := by decide +kernel
theorem dX5_oldAt_41 : decode cX5_oldAt 41 = .ok (.ifCond .eq 35, 3) := by decide +kernel
theorem dX5_oldAt_44 : decode cX5_oldAt 44 = .ok (.aload 6, 2) := by decide +kernel
theorem dX5_oldAt_46 : decode cX5_oldAt 46 = .ok (.getfield 36, 3) := by decide +kernel
theorem dX5_oldAt_49 : decode cX5_oldAt 49 = .ok (.getfield 111, 3) := by decide +kernel
theorem dX5_oldAt_52 : decode cX5_oldAt 52 = .ok (.aload_n 2, 1) := by decide +kernel
theorem dX5_oldAt_53 : decode cX5_oldAt 53 = .ok (.getfield 111, 3) := by decide +kernel
theorem dX5_oldAt_56 : decode cX5_oldAt 56 = .ok (.if_icmp .ge 20, 3) := by decide +kernel
theorem dX5_oldAt_59 : decode cX5_oldAt 59 = .ok (.aload 6, 2) := by decide +kernel
theorem dX5_oldAt_61 : decode cX5_oldAt 61 = .ok (.aload_n 2, 1) := by decide +kernel
theorem dX5_oldAt_62 : decode cX5_oldAt 62 = .ok (.getfield 154, 3) := by decide +kernel
theorem dX5_oldAt_65 : decode cX5_oldAt 65 = .ok (.iload_n 3, 1) := by decide +kernel
theorem dX5_oldAt_66 : decode cX5_oldAt 66 = .ok (.invokevirtual 157, 3) := by decide +kernel
theorem dX5_oldAt_69 : decode cX5_oldAt 69 = .ok (.iconst (-1), 1) := by decide +kernel
theorem dX5_oldAt_70 : decode cX5_oldAt 70 = .ok (.if_icmp .eq 6, 3) := by decide +kernel
theorem dX5_oldAt_73 : decode cX5_oldAt 73 = .ok (.iinc 4 1, 3) := by decide +kernel
theorem dX5_oldAt_76 : decode cX5_oldAt 76 = .ok (.iinc 5 1, 3) := by decide +kernel
theorem dX5_oldAt_79 : decode cX5_oldAt 79 = .ok (.goto (-73), 3) := by decide +kernel
theorem dX5_oldAt_82 : decode cX5_oldAt 82 = .ok (.iload 4, 2) := by decide +kernel
theorem dX5_oldAt_84 : decode cX5_oldAt 84 = .ok (.ireturn, 1) := by decide +kernel
theorem dX5_likeAt_0 : decode cX5_likeAt 0 = .ok (.aload_n 0, 1) := by decide +kernel
theorem dX5_likeAt_1 : decode cX5_likeAt 1 = .ok (.getfield 22, 3) := by decide +kernel
theorem dX5_likeAt_4 : decode cX5_likeAt 4 = .ok (.aload_n 2, 1) := by decide +kernel
theorem dX5_likeAt_5 : decode cX5_likeAt 5 = .ok (.getfield 154, 3) := by decide +kernel
theorem dX5_likeAt_8 : decode cX5_likeAt 8 = .ok (.aload_n 2, 1) := by decide +kernel
theorem dX5_likeAt_9 : decode cX5_likeAt 9 = .ok (.getfield 132, 3) := by decide +kernel
theorem dX5_likeAt_12 : decode cX5_likeAt 12 = .ok (.iload_n 3, 1) := by decide +kernel
theorem dX5_likeAt_13 : decode cX5_likeAt 13 = .ok (.iadd, 1) := by decide +kernel
theorem dX5_likeAt_14 : decode cX5_likeAt 14 = .ok (.invokevirtual 160, 3) := by decide +kernel
theorem dX5_likeAt_17 : decode cX5_likeAt 17 = .ok (.istore 4, 2) := by decide +kernel
theorem dX5_likeAt_19 : decode cX5_likeAt 19 = .ok (.aload_n 1, 1) := by decide +kernel
theorem dX5_likeAt_20 : decode cX5_likeAt 20 = .ok (.aload_n 2, 1) := by decide +kernel
theorem dX5_likeAt_21 : decode cX5_likeAt 21 = .ok (.getfield 123, 3) := by decide +kernel
theorem dX5_likeAt_24 : decode cX5_likeAt 24 = .ok (.invokevirtual 98, 3) := by decide +kernel
theorem dX5_likeAt_27 : decode cX5_likeAt 27 = .ok (.istore 5, 2) := by decide +kernel
theorem dX5_likeAt_29 : decode cX5_likeAt 29 = .ok (.iconst 0, 1) := by decide +kernel
theorem dX5_likeAt_30 : decode cX5_likeAt 30 = .ok (.istore 6, 2) := by decide +kernel
theorem dX5_likeAt_32 : decode cX5_likeAt 32 = .ok (.iconst 0, 1) := by decide +kernel
theorem dX5_likeAt_33 : decode cX5_likeAt 33 = .ok (.istore 7, 2) := by decide +kernel
theorem dX5_likeAt_35 : decode cX5_likeAt 35 = .ok (.iload 7, 2) := by decide +kernel
theorem dX5_likeAt_37 : decode cX5_likeAt 37 = .ok (.iload 5, 2) := by decide +kernel
theorem dX5_likeAt_39 : decode cX5_likeAt 39 = .ok (.if_icmp .ge 41, 3) := by decide +kernel
theorem dX5_likeAt_42 : decode cX5_likeAt 42 = .ok (.iload 7, 2) := by decide +kernel
theorem dX5_likeAt_44 : decode cX5_likeAt 44 = .ok (.iload_n 3, 1) := by decide +kernel
theorem dX5_likeAt_45 : decode cX5_likeAt 45 = .ok (.if_icmp .eq 29, 3) := by decide +kernel
theorem dX5_likeAt_48 : decode cX5_likeAt 48 = .ok (.aload_n 0, 1) := by decide +kernel
theorem dX5_likeAt_49 : decode cX5_likeAt 49 = .ok (.getfield 22, 3) := by decide +kernel
theorem dX5_likeAt_52 : decode cX5_likeAt 52 = .ok (.aload_n 2, 1) := by decide +kernel
theorem dX5_likeAt_53 : decode cX5_likeAt 53 = .ok (.getfield 154, 3) := by decide +kernel
theorem dX5_likeAt_56 : decode cX5_likeAt 56 = .ok (.aload_n 2, 1) := by decide +kernel
theorem dX5_likeAt_57 : decode cX5_likeAt 57 = .ok (.getfield 132, 3) := by decide +kernel
theorem dX5_likeAt_60 : decode cX5_likeAt 60 = .ok (.iload 7, 2) := by decide +kernel
theorem dX5_likeAt_62 : decode cX5_likeAt 62 = .ok (.iadd, 1) := by decide +kernel
theorem dX5_likeAt_63 : decode cX5_likeAt 63 = .ok (.invokevirtual 160, 3) := by decide +kernel
theorem dX5_likeAt_66 : decode cX5_likeAt 66 = .ok (.iload 4, 2) := by decide +kernel
theorem dX5_likeAt_68 : decode cX5_likeAt 68 = .ok (.if_icmp .ne 6, 3) := by decide +kernel
theorem dX5_likeAt_71 : decode cX5_likeAt 71 = .ok (.iinc 6 1, 3) := by decide +kernel
theorem dX5_likeAt_74 : decode cX5_likeAt 74 = .ok (.iinc 7 1, 3) := by decide +kernel
theorem dX5_likeAt_77 : decode cX5_likeAt 77 = .ok (.goto (-42), 3) := by decide +kernel
theorem dX5_likeAt_80 : decode cX5_likeAt 80 = .ok (.iload 6, 2) := by decide +kernel
theorem dX5_likeAt_82 : decode cX5_likeAt 82 = .ok (.ireturn, 1) := by decide +kernel
theorem dX6_init_0 : decode cX6_init 0 = .ok (.aload_n 0, 1) := by decide +kernel
theorem dX6_init_1 : decode cX6_init 1 = .ok (.invokespecial 3, 3) := by decide +kernel
theorem dX6_init_4 : decode cX6_init 4 = .ok (.aload_n 0, 1) := by decide +kernel
theorem dX6_init_5 : decode cX6_init 5 = .ok (.bipush 6, 2) := by decide +kernel
theorem dX6_init_7 : decode cX6_init 7 = .ok (.newarray .int, 2) := by decide +kernel
theorem dX6_init_9 : decode cX6_init 9 = .ok (.putfield 9, 3) := by decide +kernel
theorem dX6_init_12 : decode cX6_init 12 = .ok (.aload_n 0, 1) := by decide +kernel
theorem dX6_init_13 : decode cX6_init 13 = .ok (.aload_n 1, 1) := by decide +kernel
theorem dX6_init_14 : decode cX6_init 14 = .ok (.putfield 15, 3) := by decide +kernel
theorem dX6_init_17 : decode cX6_init 17 = .ok (.return_, 1) := by decide +kernel
theorem dX6_kindOf_0 : decode cX6_kindOf 0 = .ok (.aload_n 0, 1) := by decide +kernel
theorem dX6_kindOf_1 : decode cX6_kindOf 1 = .ok (.getfield 15, 3) := by decide +kernel
theorem dX6_kindOf_4 : decode cX6_kindOf 4 = .ok (.getfield 19, 3) := by decide +kernel
theorem dX6_kindOf_7 : decode cX6_kindOf 7 = .ok (.iload_n 1, 1) := by decide +kernel
theorem dX6_kindOf_8 : decode cX6_kindOf 8 = .ok (.aaload, 1) := by decide +kernel
theorem dX6_kindOf_9 : decode cX6_kindOf 9 = .ok (.astore_n 3, 1) := by decide +kernel
theorem dX6_kindOf_10 : decode cX6_kindOf 10 = .ok (.aload_n 3, 1) := by decide +kernel
theorem dX6_kindOf_11 : decode cX6_kindOf 11 = .ok (.getfield 25, 3) := by decide +kernel
theorem dX6_kindOf_14 : decode cX6_kindOf 14 = .ok (.iload_n 2, 1) := by decide +kernel
theorem dX6_kindOf_15 : decode cX6_kindOf 15 = .ok (.iaload, 1) := by decide +kernel
theorem dX6_kindOf_16 : decode cX6_kindOf 16 = .ok (.istore 4, 2) := by decide +kernel
theorem dX6_kindOf_18 : decode cX6_kindOf 18 = .ok (.iload 4, 2) := by decide +kernel
theorem dX6_kindOf_20 : decode cX6_kindOf 20 = .ok (.aload_n 3, 1) := by decide +kernel
theorem dX6_kindOf_21 : decode cX6_kindOf 21 = .ok (.iload_n 2, 1) := by decide +kernel
theorem dX6_kindOf_22 : decode cX6_kindOf 22 = .ok (.invokevirtual 30, 3) := by decide +kernel
theorem dX6_kindOf_25 : decode cX6_kindOf 25 = .ok (.if_icmp .ne 5, 3) := by decide +kernel
theorem dX6_kindOf_28 : decode cX6_kindOf 28 = .ok (.iconst 0, 1) := by decide +kernel
theorem dX6_kindOf_29 : decode cX6_kindOf 29 = .ok (.ireturn, 1) := by decide +kernel
theorem dX6_kindOf_30 : decode cX6_kindOf 30 = .ok (.iload 4, 2) := by decide +kernel
theorem dX6_kindOf_32 : decode cX6_kindOf 32 = .ok (.iconst (-1), 1) := by decide +kernel
theorem dX6_kindOf_33 : decode cX6_kindOf 33 = .ok (.if_icmp .ne 5, 3) := by decide +kernel
theorem dX6_kindOf_36 : decode cX6_kindOf 36 = .ok (.iconst 1, 1) := by decide +kernel
theorem dX6_kindOf_37 : decode cX6_kindOf 37 = .ok (.ireturn, 1) := by decide +kernel
theorem dX6_kindOf_38 : decode cX6_kindOf 38 = .ok (.aload_n 0, 1) := by decide +kernel
theorem dX6_kindOf_39 : decode cX6_kindOf 39 = .ok (.iload_n 1, 1) := by decide +kernel
theorem dX6_kindOf_40 : decode cX6_kindOf 40 = .ok (.iload_n 2, 1) := by decide +kernel
theorem dX6_kindOf_41 : decode cX6_kindOf 41 = .ok (.invokevirtual 34, 3) := by decide +kernel
theorem dX6_kindOf_44 : decode cX6_kindOf 44 = .ok (.iconst 2, 1) := by decide +kernel
theorem dX6_kindOf_45 : decode cX6_kindOf 45 = .ok (.istore 5, 2) := by decide +kernel
theorem dX6_kindOf_47 : decode cX6_kindOf 47 = .ok (.iload 5, 2) := by decide +kernel
theorem dX6_kindOf_49 : decode cX6_kindOf 49 = .ok (.iconst 5, 1) := by decide +kernel
theorem dX6_kindOf_50 : decode cX6_kindOf 50 = .ok (.if_icmp .gt 24, 3) := by decide +kernel
theorem dX6_kindOf_53 : decode cX6_kindOf 53 = .ok (.aload_n 0, 1) := by decide +kernel
theorem dX6_kindOf_54 : decode cX6_kindOf 54 = .ok (.getfield 9, 3) := by decide +kernel
theorem dX6_kindOf_57 : decode cX6_kindOf 57 = .ok (.iload 5, 2) := by decide +kernel
theorem dX6_kindOf_59 : decode cX6_kindOf 59 = .ok (.iaload, 1) := by decide +kernel
theorem dX6_kindOf_60 : decode cX6_kindOf 60 = .ok (.iload 4, 2) := by decide +kernel
theorem dX6_kindOf_62 : decode cX6_kindOf 62 = .ok (.if_icmp .ne 6, 3) := by decide +kernel
theorem dX6_kindOf_65 : decode cX6_kindOf 65 = .ok (.iload 5, 2) := by decide +kernel
theorem dX6_kindOf_67 : decode cX6_kindOf 67 = .ok (.ireturn, 1) := by decide +kernel
theorem dX6_kindOf_68 : decode cX6_kindOf 68 = .ok (.iinc 5 1, 3) := by decide +kernel
theorem dX6_kindOf_71 : decode cX6_kindOf 71 = .ok (.goto (-24), 3) := by decide +kernel
theorem dX6_kindOf_74 : decode cX6_kindOf 74 = .ok (.bipush 6, 2) := by decide +kernel
theorem dX6_kindOf_76 : decode cX6_kindOf 76 = .ok (.ireturn, 1) := by decide +kernel
theorem dX6_weightOf_0 : decode cX6_weightOf 0 = .ok (.iload_n 1, 1) := by decide +kernel
theorem dX6_weightOf_1 : decode cX6_weightOf 1 = .ok (.iconst 1, 1) := by decide +kernel
theorem dX6_weightOf_2 : decode cX6_weightOf 2 = .ok (.if_icmp .eq 23, 3) := by decide +kernel
theorem dX6_weightOf_5 : decode cX6_weightOf 5 = .ok (.iload_n 1, 1) := by decide +kernel
theorem dX6_weightOf_6 : decode cX6_weightOf 6 = .ok (.iconst 2, 1) := by decide +kernel
theorem dX6_weightOf_7 : decode cX6_weightOf 7 = .ok (.if_icmp .lt 26, 3) := by decide +kernel
theorem dX6_weightOf_10 : decode cX6_weightOf 10 = .ok (.iload_n 1, 1) := by decide +kernel
theorem dX6_weightOf_11 : decode cX6_weightOf 11 = .ok (.iconst 5, 1) := by decide +kernel
theorem dX6_weightOf_12 : decode cX6_weightOf 12 = .ok (.if_icmp .gt 21, 3) := by decide +kernel
theorem dX6_weightOf_15 : decode cX6_weightOf 15 = .ok (.aload_n 0, 1) := by decide +kernel
theorem dX6_weightOf_16 : decode cX6_weightOf 16 = .ok (.getfield 9, 3) := by decide +kernel
theorem dX6_weightOf_19 : decode cX6_weightOf 19 = .ok (.iload_n 1, 1) := by decide +kernel
theorem dX6_weightOf_20 : decode cX6_weightOf 20 = .ok (.iaload, 1) := by decide +kernel
theorem dX6_weightOf_21 : decode cX6_weightOf 21 = .ok (.iconst (-1), 1) := by decide +kernel
theorem dX6_weightOf_22 : decode cX6_weightOf 22 = .ok (.if_icmp .eq 11, 3) := by decide +kernel
theorem dX6_weightOf_25 : decode cX6_weightOf 25 = .ok (.getstatic 38, 3) := by decide +kernel
theorem dX6_weightOf_28 : decode cX6_weightOf 28 = .ok (.iload_n 1, 1) := by decide +kernel
theorem dX6_weightOf_29 : decode cX6_weightOf 29 = .ok (.iaload, 1) := by decide +kernel
theorem dX6_weightOf_30 : decode cX6_weightOf 30 = .ok (.goto 4, 3) := by decide +kernel
theorem dX6_weightOf_33 : decode cX6_weightOf 33 = .ok (.iconst 0, 1) := by decide +kernel
theorem dX6_weightOf_34 : decode cX6_weightOf 34 = .ok (.ireturn, 1) := by decide +kernel
theorem dX6_allWeights_0 : decode cX6_allWeights 0 = .ok (.iconst 0, 1) := by decide +kernel
theorem dX6_allWeights_1 : decode cX6_allWeights 1 = .ok (.istore_n 1, 1) := by decide +kernel
theorem dX6_allWeights_2 : decode cX6_allWeights 2 = .ok (.iconst 1, 1) := by decide +kernel
theorem dX6_allWeights_3 : decode cX6_allWeights 3 = .ok (.istore_n 2, 1) := by decide +kernel
theorem dX6_allWeights_4 : decode cX6_allWeights 4 = .ok (.iload_n 2, 1) := by decide +kernel
theorem dX6_allWeights_5 : decode cX6_allWeights 5 = .ok (.iconst 5, 1) := by decide +kernel
theorem dX6_allWeights_6 : decode cX6_allWeights 6 = .ok (.if_icmp .gt 17, 3) := by decide +kernel
theorem dX6_allWeights_9 : decode cX6_allWeights 9 = .ok (.iload_n 1, 1) := by decide +kernel
theorem dX6_allWeights_10 : decode cX6_allWeights 10 = .ok (.aload_n 0, 1) := by decide +kernel
theorem dX6_allWeights_11 : decode cX6_allWeights 11 = .ok (.iload_n 2, 1) := by decide +kernel
theorem dX6_allWeights_12 : decode cX6_allWeights 12 = .ok (.invokevirtual 41, 3) := by decide +kernel
theorem dX6_allWeights_15 : decode cX6_allWeights 15 = .ok (.iadd, 1) := by decide +kernel
theorem dX6_allWeights_16 : decode cX6_allWeights 16 = .ok (.istore_n 1, 1) := by decide +kernel
theorem dX6_allWeights_17 : decode cX6_allWeights 17 = .ok (.iinc 2 1, 3) := by decide +kernel
theorem dX6_allWeights_20 : decode cX6_allWeights 20 = .ok (.goto (-16), 3) := by decide +kernel
theorem dX6_allWeights_23 : decode cX6_allWeights 23 = .ok (.iload_n 1, 1) := by decide +kernel
theorem dX6_allWeights_24 : decode cX6_allWeights 24 = .ok (.ireturn, 1) := by decide +kernel
theorem dX6_drawn_0 : decode cX6_drawn 0 = .ok (.aload_n 0, 1) := by decide +kernel
theorem dX6_drawn_1 : decode cX6_drawn 1 = .ok (.iload_n 1, 1) := by decide +kernel
theorem dX6_drawn_2 : decode cX6_drawn 2 = .ok (.iload_n 2, 1) := by decide +kernel
theorem dX6_drawn_3 : decode cX6_drawn 3 = .ok (.invokevirtual 34, 3) := by decide +kernel
theorem dX6_drawn_6 : decode cX6_drawn 6 = .ok (.iload_n 3, 1) := by decide +kernel
theorem dX6_drawn_7 : decode cX6_drawn 7 = .ok (.iconst 1, 1) := by decide +kernel
theorem dX6_drawn_8 : decode cX6_drawn 8 = .ok (.aload_n 0, 1) := by decide +kernel
theorem dX6_drawn_9 : decode cX6_drawn 9 = .ok (.invokevirtual 44, 3) := by decide +kernel
theorem dX6_drawn_12 : decode cX6_drawn 12 = .ok (.invokestatic 48, 3) := by decide +kernel
theorem dX6_drawn_15 : decode cX6_drawn 15 = .ok (.irem, 1) := by decide +kernel
theorem dX6_drawn_16 : decode cX6_drawn 16 = .ok (.istore 4, 2) := by decide +kernel
theorem dX6_drawn_18 : decode cX6_drawn 18 = .ok (.iconst 2, 1) := by decide +kernel
theorem dX6_drawn_19 : decode cX6_drawn 19 = .ok (.istore 5, 2) := by decide +kernel
theorem dX6_drawn_21 : decode cX6_drawn 21 = .ok (.iload 5, 2) := by decide +kernel
theorem dX6_drawn_23 : decode cX6_drawn 23 = .ok (.iconst 5, 1) := by decide +kernel
theorem dX6_drawn_24 : decode cX6_drawn 24 = .ok (.if_icmp .gt 39, 3) := by decide +kernel
theorem dX6_drawn_27 : decode cX6_drawn 27 = .ok (.aload_n 0, 1) := by decide +kernel
theorem dX6_drawn_28 : decode cX6_drawn 28 = .ok (.iload 5, 2) := by decide +kernel
theorem dX6_drawn_30 : decode cX6_drawn 30 = .ok (.invokevirtual 41, 3) := by decide +kernel
theorem dX6_drawn_33 : decode cX6_drawn 33 = .ok (.istore 6, 2) := by decide +kernel
theorem dX6_drawn_35 : decode cX6_drawn 35 = .ok (.iload 4, 2) := by decide +kernel
theorem dX6_drawn_37 : decode cX6_drawn 37 = .ok (.iload 6, 2) := by decide +kernel
theorem dX6_drawn_39 : decode cX6_drawn 39 = .ok (.if_icmp .ge 11, 3) := by decide +kernel
theorem dX6_drawn_42 : decode cX6_drawn 42 = .ok (.aload_n 0, 1) := by decide +kernel
theorem dX6_drawn_43 : decode cX6_drawn 43 = .ok (.getfield 9, 3) := by decide +kernel
theorem dX6_drawn_46 : decode cX6_drawn 46 = .ok (.iload 5, 2) := by decide +kernel
theorem dX6_drawn_48 : decode cX6_drawn 48 = .ok (.iaload, 1) := by decide +kernel
theorem dX6_drawn_49 : decode cX6_drawn 49 = .ok (.ireturn, 1) := by decide +kernel
theorem dX6_drawn_50 : decode cX6_drawn 50 = .ok (.iload 4, 2) := by decide +kernel
theorem dX6_drawn_52 : decode cX6_drawn 52 = .ok (.iload 6, 2) := by decide +kernel
theorem dX6_drawn_54 : decode cX6_drawn 54 = .ok (.isub, 1) := by decide +kernel
theorem dX6_drawn_55 : decode cX6_drawn 55 = .ok (.istore 4, 2) := by decide +kernel
theorem dX6_drawn_57 : decode cX6_drawn 57 = .ok (.iinc 5 1, 3) := by decide +kernel
theorem dX6_drawn_60 : decode cX6_drawn 60 = .ok (.goto (-39), 3) := by decide +kernel
theorem dX6_drawn_63 : decode cX6_drawn 63 = .ok (.iconst (-1), 1) := by decide +kernel
theorem dX6_drawn_64 : decode cX6_drawn 64 = .ok (.ireturn, 1) := by decide +kernel
theorem dX6_find_0 : decode cX6_find 0 = .ok (.aload_n 0, 1) := by decide +kernel
theorem dX6_find_1 : decode cX6_find 1 = .ok (.getfield 15, 3) := by decide +kernel
theorem dX6_find_4 : decode cX6_find 4 = .ok (.getfield 19, 3) := by decide +kernel
theorem dX6_find_7 : decode cX6_find 7 = .ok (.iload_n 1, 1) := by decide +kernel
theorem dX6_find_8 : decode cX6_find 8 = .ok (.aaload, 1) := by decide +kernel
theorem dX6_find_9 : decode cX6_find 9 = .ok (.astore_n 3, 1) := by decide +kernel
theorem dX6_find_10 : decode cX6_find 10 = .ok (.aload_n 3, 1) := by decide +kernel
theorem dX6_find_11 : decode cX6_find 11 = .ok (.iload_n 2, 1) := by decide +kernel
theorem dX6_find_12 : decode cX6_find 12 = .ok (.invokevirtual 54, 3) := by decide +kernel
theorem dX6_find_15 : decode cX6_find 15 = .ok (.istore 4, 2) := by decide +kernel
theorem dX6_find_17 : decode cX6_find 17 = .ok (.aload_n 3, 1) := by decide +kernel
theorem dX6_find_18 : decode cX6_find 18 = .ok (.iload_n 2, 1) := by decide +kernel
theorem dX6_find_19 : decode cX6_find 19 = .ok (.invokevirtual 57, 3) := by decide +kernel
theorem dX6_find_22 : decode cX6_find 22 = .ok (.istore 5, 2) := by decide +kernel
theorem dX6_find_24 : decode cX6_find 24 = .ok (.aload_n 3, 1) := by decide +kernel
theorem dX6_find_25 : decode cX6_find 25 = .ok (.iload 4, 2) := by decide +kernel
theorem dX6_find_27 : decode cX6_find 27 = .ok (.iconst 1, 1) := by decide +kernel
theorem dX6_find_28 : decode cX6_find 28 = .ok (.iadd, 1) := by decide +kernel
theorem dX6_find_29 : decode cX6_find 29 = .ok (.iload 5, 2) := by decide +kernel
theorem dX6_find_31 : decode cX6_find 31 = .ok (.invokevirtual 60, 3) := by decide +kernel
theorem dX6_find_34 : decode cX6_find 34 = .ok (.istore 6, 2) := by decide +kernel
theorem dX6_find_36 : decode cX6_find 36 = .ok (.aload_n 0, 1) := by decide +kernel
theorem dX6_find_37 : decode cX6_find 37 = .ok (.getfield 9, 3) := by decide +kernel
theorem dX6_find_40 : decode cX6_find 40 = .ok (.iconst 2, 1) := by decide +kernel
theorem dX6_find_41 : decode cX6_find 41 = .ok (.aload_n 0, 1) := by decide +kernel
theorem dX6_find_42 : decode cX6_find 42 = .ok (.iload_n 1, 1) := by decide +kernel
theorem dX6_find_43 : decode cX6_find 43 = .ok (.aload_n 3, 1) := by decide +kernel
theorem dX6_find_44 : decode cX6_find 44 = .ok (.getfield 63, 3) := by decide +kernel
theorem dX6_find_47 : decode cX6_find 47 = .ok (.getfield 67, 3) := by decide +kernel
theorem dX6_find_50 : decode cX6_find 50 = .ok (.iload 4, 2) := by decide +kernel
theorem dX6_find_52 : decode cX6_find 52 = .ok (.iadd, 1) := by decide +kernel
theorem dX6_find_53 : decode cX6_find 53 = .ok (.iload 5, 2) := by decide +kernel
theorem dX6_find_55 : decode cX6_find 55 = .ok (.invokevirtual 73, 3) := by decide +kernel
theorem dX6_find_58 : decode cX6_find 58 = .ok (.iastore, 1) := by decide +kernel
theorem dX6_find_59 : decode cX6_find 59 = .ok (.aload_n 0, 1) := by decide +kernel
theorem dX6_find_60 : decode cX6_find 60 = .ok (.getfield 9, 3) := by decide +kernel
theorem dX6_find_63 : decode cX6_find 63 = .ok (.iconst 3, 1) := by decide +kernel
theorem dX6_find_64 : decode cX6_find 64 = .ok (.aload_n 0, 1) := by decide +kernel
theorem dX6_find_65 : decode cX6_find 65 = .ok (.aload_n 3, 1) := by decide +kernel
theorem dX6_find_66 : decode cX6_find 66 = .ok (.iload 4, 2) := by decide +kernel
theorem dX6_find_68 : decode cX6_find 68 = .ok (.iload 5, 2) := by decide +kernel
theorem dX6_find_70 : decode cX6_find 70 = .ok (.invokevirtual 77, 3) := by decide +kernel
theorem dX6_find_73 : decode cX6_find 73 = .ok (.iastore, 1) := by decide +kernel
theorem dX6_find_74 : decode cX6_find 74 = .ok (.aload_n 0, 1) := by decide +kernel
theorem dX6_find_75 : decode cX6_find 75 = .ok (.getfield 9, 3) := by decide +kernel
theorem dX6_find_78 : decode cX6_find 78 = .ok (.iconst 4, 1) := by decide +kernel
theorem dX6_find_79 : decode cX6_find 79 = .ok (.aload_n 0, 1) := by decide +kernel
theorem dX6_find_80 : decode cX6_find 80 = .ok (.aload_n 3, 1) := by decide +kernel
theorem dX6_find_81 : decode cX6_find 81 = .ok (.iload 4, 2) := by decide +kernel
theorem dX6_find_83 : decode cX6_find 83 = .ok (.iload 5, 2) := by decide +kernel
theorem dX6_find_85 : decode cX6_find 85 = .ok (.invokevirtual 81, 3) := by decide +kernel
theorem dX6_find_88 : decode cX6_find 88 = .ok (.iastore, 1) := by decide +kernel
theorem dX6_find_89 : decode cX6_find 89 = .ok (.aload_n 0, 1) := by decide +kernel
theorem dX6_find_90 : decode cX6_find 90 = .ok (.getfield 9, 3) := by decide +kernel
theorem dX6_find_93 : decode cX6_find 93 = .ok (.iconst 5, 1) := by decide +kernel
theorem dX6_find_94 : decode cX6_find 94 = .ok (.iload 6, 2) := by decide +kernel
theorem dX6_find_96 : decode cX6_find 96 = .ok (.iconst (-1), 1) := by decide +kernel
theorem dX6_find_97 : decode cX6_find 97 = .ok (.if_icmp .eq 8, 3) := by decide +kernel
theorem dX6_find_100 : decode cX6_find 100 = .ok (.iload 6, 2) := by decide +kernel
theorem dX6_find_102 : decode cX6_find 102 = .ok (.goto 13, 3) := by decide +kernel
theorem dX6_find_105 : decode cX6_find 105 = .ok (.aload_n 3, 1) := by decide +kernel
theorem dX6_find_106 : decode cX6_find 106 = .ok (.iload 4, 2) := by decide +kernel
theorem dX6_find_108 : decode cX6_find 108 = .ok (.iconst 1, 1) := by decide +kernel
theorem dX6_find_109 : decode cX6_find 109 = .ok (.isub, 1) := by decide +kernel
theorem dX6_find_110 : decode cX6_find 110 = .ok (.iload 5, 2) := by decide +kernel
theorem dX6_find_112 : decode cX6_find 112 = .ok (.invokevirtual 60, 3) := by decide +kernel
theorem dX6_find_115 : decode cX6_find 115 = .ok (.iastore, 1) := by decide +kernel
theorem dX6_find_116 : decode cX6_find 116 = .ok (.return_, 1) := by decide +kernel
theorem dX6_ghostAt_0 : decode cX6_ghostAt 0 = .ok (.aload_n 0, 1) := by decide +kernel
theorem dX6_ghostAt_1 : decode cX6_ghostAt 1 = .ok (.getfield 15, 3) := by decide +kernel
theorem dX6_ghostAt_4 : decode cX6_ghostAt 4 = .ok (.getfield 19, 3) := by decide +kernel
theorem dX6_ghostAt_7 : decode cX6_ghostAt 7 = .ok (.iload_n 1, 1) := by decide +kernel
theorem dX6_ghostAt_8 : decode cX6_ghostAt 8 = .ok (.aaload, 1) := by decide +kernel
theorem dX6_ghostAt_9 : decode cX6_ghostAt 9 = .ok (.getfield 63, 3) := by decide +kernel
theorem dX6_ghostAt_12 : decode cX6_ghostAt 12 = .ok (.astore 4, 2) := by decide +kernel
theorem dX6_ghostAt_14 : decode cX6_ghostAt 14 = .ok (.iconst (-1), 1) := by decide +kernel
theorem dX6_ghostAt_15 : decode cX6_ghostAt 15 = .ok (.istore 5, 2) := by decide +kernel
theorem dX6_ghostAt_17 : decode cX6_ghostAt 17 = .ok (.iconst (-1), 1) := by decide +kernel
theorem dX6_ghostAt_18 : decode cX6_ghostAt 18 = .ok (.istore 6, 2) := by decide +kernel
theorem dX6_ghostAt_20 : decode cX6_ghostAt 20 = .ok (.iconst 0, 1) := by decide +kernel
theorem dX6_ghostAt_21 : decode cX6_ghostAt 21 = .ok (.istore 7, 2) := by decide +kernel
theorem dX6_ghostAt_23 : decode cX6_ghostAt 23 = .ok (.iload 7, 2) := by decide +kernel
theorem dX6_ghostAt_25 : decode cX6_ghostAt 25 = .ok (.aload_n 0, 1) := by decide +kernel
theorem dX6_ghostAt_26 : decode cX6_ghostAt 26 = .ok (.getfield 15, 3) := by decide +kernel
theorem dX6_ghostAt_29 : decode cX6_ghostAt 29 = .ok (.getfield 84, 3) := by decide +kernel
theorem dX6_ghostAt_32 : decode cX6_ghostAt 32 = .ok (.if_icmp .ge 93, 3) := by decide +kernel
theorem dX6_ghostAt_35 : decode cX6_ghostAt 35 = .ok (.aload_n 0, 1) := by decide +kernel
theorem dX6_ghostAt_36 : decode cX6_ghostAt 36 = .ok (.getfield 15, 3) := by decide +kernel
theorem dX6_ghostAt_39 : decode cX6_ghostAt 39 = .ok (.getfield 19, 3) := by decide +kernel
theorem dX6_ghostAt_42 : decode cX6_ghostAt 42 = .ok (.iload 7, 2) := by decide +kernel
theorem dX6_ghostAt_44 : decode cX6_ghostAt 44 = .ok (.aaload, 1) := by decide +kernel
theorem dX6_ghostAt_45 : decode cX6_ghostAt 45 = .ok (.astore 8, 2) := by decide +kernel
theorem dX6_ghostAt_47 : decode cX6_ghostAt 47 = .ok (.aload 8, 2) := by decide +kernel
theorem dX6_ghostAt_49 : decode cX6_ghostAt 49 = .ok (.aload 4, 2) := by decide +kernel
theorem dX6_ghostAt_51 : decode cX6_ghostAt 51 = .ok (.getfield 87, 3) := by decide +kernel
theorem dX6_ghostAt_54 : decode cX6_ghostAt 54 = .ok (.iload_n 2, 1) := by decide +kernel
theorem dX6_ghostAt_55 : decode cX6_ghostAt 55 = .ok (.invokevirtual 90, 3) := by decide +kernel
theorem dX6_ghostAt_58 : decode cX6_ghostAt 58 = .ok (.istore 9, 2) := by decide +kernel
theorem dX6_ghostAt_60 : decode cX6_ghostAt 60 = .ok (.aload 8, 2) := by decide +kernel
theorem dX6_ghostAt_62 : decode cX6_ghostAt 62 = .ok (.getfield 63, 3) := by decide +kernel
theorem dX6_ghostAt_65 : decode cX6_ghostAt 65 = .ok (.getfield 93, 3) := by decide +kernel
theorem dX6_ghostAt_68 : decode cX6_ghostAt 68 = .ok (.istore 10, 2) := by decide +kernel
theorem dX6_ghostAt_70 : decode cX6_ghostAt 70 = .ok (.iload 9, 2) := by decide +kernel
theorem dX6_ghostAt_72 : decode cX6_ghostAt 72 = .ok (.iconst (-1), 1) := by decide +kernel
theorem dX6_ghostAt_73 : decode cX6_ghostAt 73 = .ok (.if_icmp .eq 46, 3) := by decide +kernel
theorem dX6_ghostAt_76 : decode cX6_ghostAt 76 = .ok (.iload 10, 2) := by decide +kernel
theorem dX6_ghostAt_78 : decode cX6_ghostAt 78 = .ok (.aload 4, 2) := by decide +kernel
theorem dX6_ghostAt_80 : decode cX6_ghostAt 80 = .ok (.getfield 93, 3) := by decide +kernel
theorem dX6_ghostAt_83 : decode cX6_ghostAt 83 = .ok (.if_icmp .ge 36, 3) := by decide +kernel
theorem dX6_ghostAt_86 : decode cX6_ghostAt 86 = .ok (.iload 10, 2) := by decide +kernel
theorem dX6_ghostAt_88 : decode cX6_ghostAt 88 = .ok (.iload 5, 2) := by decide +kernel
theorem dX6_ghostAt_90 : decode cX6_ghostAt 90 = .ok (.if_icmp .le 29, 3) := by decide +kernel
theorem dX6_ghostAt_93 : decode cX6_ghostAt 93 = .ok (.aload 8, 2) := by decide +kernel
theorem dX6_ghostAt_95 : decode cX6_ghostAt 95 = .ok (.iload 9, 2) := by decide +kernel
theorem dX6_ghostAt_97 : decode cX6_ghostAt 97 = .ok (.iload_n 3, 1) := by decide +kernel
theorem dX6_ghostAt_98 : decode cX6_ghostAt 98 = .ok (.invokevirtual 60, 3) := by decide +kernel
theorem dX6_ghostAt_101 : decode cX6_ghostAt 101 = .ok (.iconst (-1), 1) := by decide +kernel
theorem dX6_ghostAt_102 : decode cX6_ghostAt 102 = .ok (.if_icmp .eq 17, 3) := by decide +kernel
theorem dX6_ghostAt_105 : decode cX6_ghostAt 105 = .ok (.iload 10, 2) := by decide +kernel
theorem dX6_ghostAt_107 : decode cX6_ghostAt 107 = .ok (.istore 5, 2) := by decide +kernel
theorem dX6_ghostAt_109 : decode cX6_ghostAt 109 = .ok (.aload 8, 2) := by decide +kernel
theorem dX6_ghostAt_111 : decode cX6_ghostAt 111 = .ok (.iload 9, 2) := by decide +kernel
theorem dX6_ghostAt_113 : decode cX6_ghostAt 113 = .ok (.iload_n 3, 1) := by decide +kernel
theorem dX6_ghostAt_114 : decode cX6_ghostAt 114 = .ok (.invokevirtual 60, 3) := by decide +kernel
theorem dX6_ghostAt_117 : decode cX6_ghostAt 117 = .ok (.istore 6, 2) := by decide +kernel
theorem dX6_ghostAt_119 : decode cX6_ghostAt 119 = .ok (.iinc 7 1, 3) := by decide +kernel
theorem dX6_ghostAt_122 : decode cX6_ghostAt 122 = .ok (.goto (-99), 3) := by decide +kernel
theorem dX6_ghostAt_125 : decode cX6_ghostAt 125 = .ok (.iload 6, 2) := by decide +kernel
theorem dX6_ghostAt_127 : decode cX6_ghostAt 127 = .ok (.ireturn, 1) := by decide +kernel
theorem dX6_alikeTo_0 : decode cX6_alikeTo 0 = .ok (.aload_n 1, 1) := by decide +kernel
theorem dX6_alikeTo_1 : decode cX6_alikeTo 1 = .ok (.getfield 63, 3) := by decide +kernel
theorem dX6_alikeTo_4 : decode cX6_alikeTo 4 = .ok (.getfield 87, 3) := by decide +kernel
theorem dX6_alikeTo_7 : decode cX6_alikeTo 7 = .ok (.istore 4, 2) := by decide +kernel
theorem dX6_alikeTo_9 : decode cX6_alikeTo 9 = .ok (.aload_n 0, 1) := by decide +kernel
theorem dX6_alikeTo_10 : decode cX6_alikeTo 10 = .ok (.getfield 15, 3) := by decide +kernel
theorem dX6_alikeTo_13 : decode cX6_alikeTo 13 = .ok (.iload 4, 2) := by decide +kernel
theorem dX6_alikeTo_15 : decode cX6_alikeTo 15 = .ok (.aload_n 1, 1) := by decide +kernel
theorem dX6_alikeTo_16 : decode cX6_alikeTo 16 = .ok (.getfield 63, 3) := by decide +kernel
theorem dX6_alikeTo_19 : decode cX6_alikeTo 19 = .ok (.getfield 67, 3) := by decide +kernel
theorem dX6_alikeTo_22 : decode cX6_alikeTo 22 = .ok (.iload_n 2, 1) := by decide +kernel
theorem dX6_alikeTo_23 : decode cX6_alikeTo 23 = .ok (.iadd, 1) := by decide +kernel
theorem dX6_alikeTo_24 : decode cX6_alikeTo 24 = .ok (.invokevirtual 96, 3) := by decide +kernel
theorem dX6_alikeTo_27 : decode cX6_alikeTo 27 = .ok (.istore 5, 2) := by decide +kernel
theorem dX6_alikeTo_29 : decode cX6_alikeTo 29 = .ok (.aload_n 1, 1) := by decide +kernel
theorem dX6_alikeTo_30 : decode cX6_alikeTo 30 = .ok (.invokevirtual 99, 3) := by decide +kernel
theorem dX6_alikeTo_33 : decode cX6_alikeTo 33 = .ok (.istore 6, 2) := by decide +kernel
theorem dX6_alikeTo_35 : decode cX6_alikeTo 35 = .ok (.iconst 0, 1) := by decide +kernel
theorem dX6_alikeTo_36 : decode cX6_alikeTo 36 = .ok (.istore 7, 2) := by decide +kernel
theorem dX6_alikeTo_38 : decode cX6_alikeTo 38 = .ok (.iload 7, 2) := by decide +kernel
theorem dX6_alikeTo_40 : decode cX6_alikeTo 40 = .ok (.iload 6, 2) := by decide +kernel
theorem dX6_alikeTo_42 : decode cX6_alikeTo 42 = .ok (.if_icmp .ge 58, 3) := by decide +kernel
theorem dX6_alikeTo_45 : decode cX6_alikeTo 45 = .ok (.iload 7, 2) := by decide +kernel
theorem dX6_alikeTo_47 : decode cX6_alikeTo 47 = .ok (.iload_n 2, 1) := by decide +kernel
theorem dX6_alikeTo_48 : decode cX6_alikeTo 48 = .ok (.if_icmp .eq 46, 3) := by decide +kernel
theorem dX6_alikeTo_51 : decode cX6_alikeTo 51 = .ok (.aload_n 0, 1) := by decide +kernel
theorem dX6_alikeTo_52 : decode cX6_alikeTo 52 = .ok (.getfield 15, 3) := by decide +kernel
theorem dX6_alikeTo_55 : decode cX6_alikeTo 55 = .ok (.iload 4, 2) := by decide +kernel
theorem dX6_alikeTo_57 : decode cX6_alikeTo 57 = .ok (.aload_n 1, 1) := by decide +kernel
theorem dX6_alikeTo_58 : decode cX6_alikeTo 58 = .ok (.getfield 63, 3) := by decide +kernel
theorem dX6_alikeTo_61 : decode cX6_alikeTo 61 = .ok (.getfield 67, 3) := by decide +kernel
theorem dX6_alikeTo_64 : decode cX6_alikeTo 64 = .ok (.iload 7, 2) := by decide +kernel
theorem dX6_alikeTo_66 : decode cX6_alikeTo 66 = .ok (.iadd, 1) := by decide +kernel
theorem dX6_alikeTo_67 : decode cX6_alikeTo 67 = .ok (.invokevirtual 96, 3) := by decide +kernel
theorem dX6_alikeTo_70 : decode cX6_alikeTo 70 = .ok (.iload 5, 2) := by decide +kernel
theorem dX6_alikeTo_72 : decode cX6_alikeTo 72 = .ok (.if_icmp .ne 22, 3) := by decide +kernel
theorem dX6_alikeTo_75 : decode cX6_alikeTo 75 = .ok (.aload_n 1, 1) := by decide +kernel
theorem dX6_alikeTo_76 : decode cX6_alikeTo 76 = .ok (.iload 7, 2) := by decide +kernel
theorem dX6_alikeTo_78 : decode cX6_alikeTo 78 = .ok (.iload_n 3, 1) := by decide +kernel
theorem dX6_alikeTo_79 : decode cX6_alikeTo 79 = .ok (.invokevirtual 60, 3) := by decide +kernel
theorem dX6_alikeTo_82 : decode cX6_alikeTo 82 = .ok (.iconst (-1), 1) := by decide +kernel
theorem dX6_alikeTo_83 : decode cX6_alikeTo 83 = .ok (.if_icmp .eq 11, 3) := by decide +kernel
theorem dX6_alikeTo_86 : decode cX6_alikeTo 86 = .ok (.aload_n 1, 1) := by decide +kernel
theorem dX6_alikeTo_87 : decode cX6_alikeTo 87 = .ok (.iload 7, 2) := by decide +kernel
theorem dX6_alikeTo_89 : decode cX6_alikeTo 89 = .ok (.iload_n 3, 1) := by decide +kernel
theorem dX6_alikeTo_90 : decode cX6_alikeTo 90 = .ok (.invokevirtual 60, 3) := by decide +kernel
theorem dX6_alikeTo_93 : decode cX6_alikeTo 93 = .ok (.ireturn, 1) := by decide +kernel
theorem dX6_alikeTo_94 : decode cX6_alikeTo 94 = .ok (.iinc 7 1, 3) := by decide +kernel
theorem dX6_alikeTo_97 : decode cX6_alikeTo 97 = .ok (.goto (-59), 3) := by decide +kernel
theorem dX6_alikeTo_100 : decode cX6_alikeTo 100 = .ok (.iconst (-1), 1) := by decide +kernel
theorem dX6_alikeTo_101 : decode cX6_alikeTo 101 = .ok (.ireturn, 1) := by decide +kernel
theorem dX6_swappedWith_0 : decode cX6_swappedWith 0 = .ok (.aload_n 1, 1) := by decide +kernel
theorem dX6_swappedWith_1 : decode cX6_swappedWith 1 = .ok (.iload_n 2, 1) := by decide +kernel
theorem dX6_swappedWith_2 : decode cX6_swappedWith 2 = .ok (.invokevirtual 102, 3) := by decide +kernel
theorem dX6_swappedWith_5 : decode cX6_swappedWith 5 = .ok (.istore 4, 2) := by decide +kernel
theorem dX6_swappedWith_7 : decode cX6_swappedWith 7 = .ok (.iload 4, 2) := by decide +kernel
theorem dX6_swappedWith_9 : decode cX6_swappedWith 9 = .ok (.iconst 2, 1) := by decide +kernel
theorem dX6_swappedWith_10 : decode cX6_swappedWith 10 = .ok (.if_icmp .ge 5, 3) := by decide +kernel
theorem dX6_swappedWith_13 : decode cX6_swappedWith 13 = .ok (.iconst (-1), 1) := by decide +kernel
theorem dX6_swappedWith_14 : decode cX6_swappedWith 14 = .ok (.ireturn, 1) := by decide +kernel
theorem dX6_swappedWith_15 : decode cX6_swappedWith 15 = .ok (.aload_n 1, 1) := by decide +kernel
theorem dX6_swappedWith_16 : decode cX6_swappedWith 16 = .ok (.iload_n 2, 1) := by decide +kernel
theorem dX6_swappedWith_17 : decode cX6_swappedWith 17 = .ok (.iload_n 3, 1) := by decide +kernel
theorem dX6_swappedWith_18 : decode cX6_swappedWith 18 = .ok (.iconst 1, 1) := by decide +kernel
theorem dX6_swappedWith_19 : decode cX6_swappedWith 19 = .ok (.iadd, 1) := by decide +kernel
theorem dX6_swappedWith_20 : decode cX6_swappedWith 20 = .ok (.iload 4, 2) := by decide +kernel
theorem dX6_swappedWith_22 : decode cX6_swappedWith 22 = .ok (.if_icmp .ge 9, 3) := by decide +kernel
theorem dX6_swappedWith_25 : decode cX6_swappedWith 25 = .ok (.iload_n 3, 1) := by decide +kernel
theorem dX6_swappedWith_26 : decode cX6_swappedWith 26 = .ok (.iconst 1, 1) := by decide +kernel
theorem dX6_swappedWith_27 : decode cX6_swappedWith 27 = .ok (.iadd, 1) := by decide +kernel
theorem dX6_swappedWith_28 : decode cX6_swappedWith 28 = .ok (.goto 4, 3) := by decide +kernel
theorem dX6_swappedWith_31 : decode cX6_swappedWith 31 = .ok (.iconst 0, 1) := by decide +kernel
theorem dX6_swappedWith_32 : decode cX6_swappedWith 32 = .ok (.invokevirtual 60, 3) := by decide +kernel
theorem dX6_swappedWith_35 : decode cX6_swappedWith 35 = .ok (.ireturn, 1) := by decide +kernel
theorem dX7_init_0 : decode cX7_init 0 = .ok (.aload_n 0, 1) := by decide +kernel
theorem dX7_init_1 : decode cX7_init 1 = .ok (.invokespecial 3, 3) := by decide +kernel
theorem dX7_init_4 : decode cX7_init 4 = .ok (.aload_n 0, 1) := by decide +kernel
theorem dX7_init_5 : decode cX7_init 5 = .ok (.sipush 156, 3) := by decide +kernel
theorem dX7_init_8 : decode cX7_init 8 = .ok (.newarray .int, 2) := by decide +kernel
theorem dX7_init_10 : decode cX7_init 10 = .ok (.putfield 9, 3) := by decide +kernel
theorem dX7_init_13 : decode cX7_init 13 = .ok (.aload_n 0, 1) := by decide +kernel
theorem dX7_init_14 : decode cX7_init 14 = .ok (.iconst 0, 1) := by decide +kernel
theorem dX7_init_15 : decode cX7_init 15 = .ok (.putfield 15, 3) := by decide +kernel
theorem dX7_init_18 : decode cX7_init 18 = .ok (.aload_n 0, 1) := by decide +kernel
theorem dX7_init_19 : decode cX7_init 19 = .ok (.bipush 6, 2) := by decide +kernel
theorem dX7_init_21 : decode cX7_init 21 = .ok (.newarray .int, 2) := by decide +kernel
theorem dX7_init_23 : decode cX7_init 23 = .ok (.putfield 19, 3) := by decide +kernel
theorem dX7_init_26 : decode cX7_init 26 = .ok (.aload_n 0, 1) := by decide +kernel
theorem dX7_init_27 : decode cX7_init 27 = .ok (.bipush 120, 2) := by decide +kernel
theorem dX7_init_29 : decode cX7_init 29 = .ok (.newarray .int, 2) := by decide +kernel
theorem dX7_init_31 : decode cX7_init 31 = .ok (.putfield 22, 3) := by decide +kernel
theorem dX7_init_34 : decode cX7_init 34 = .ok (.aload_n 0, 1) := by decide +kernel
theorem dX7_init_35 : decode cX7_init 35 = .ok (.iconst 0, 1) := by decide +kernel
theorem dX7_init_36 : decode cX7_init 36 = .ok (.putfield 25, 3) := by decide +kernel
theorem dX7_init_39 : decode cX7_init 39 = .ok (.aload_n 0, 1) := by decide +kernel
theorem dX7_init_40 : decode cX7_init 40 = .ok (.bipush 8, 2) := by decide +kernel
theorem dX7_init_42 : decode cX7_init 42 = .ok (.anewarray 28, 3) := by decide +kernel
theorem dX7_init_45 : decode cX7_init 45 = .ok (.putfield 30, 3) := by decide +kernel
theorem dX7_init_48 : decode cX7_init 48 = .ok (.aload_n 0, 1) := by decide +kernel
theorem dX7_init_49 : decode cX7_init 49 = .ok (.iconst 0, 1) := by decide +kernel
theorem dX7_init_50 : decode cX7_init 50 = .ok (.putfield 34, 3) := by decide +kernel
theorem dX7_init_53 : decode cX7_init 53 = .ok (.aload_n 0, 1) := by decide +kernel
theorem dX7_init_54 : decode cX7_init 54 = .ok (.iconst 0, 1) := by decide +kernel
theorem dX7_init_55 : decode cX7_init 55 = .ok (.putfield 37, 3) := by decide +kernel
theorem dX7_init_58 : decode cX7_init 58 = .ok (.aload_n 0, 1) := by decide +kernel
theorem dX7_init_59 : decode cX7_init 59 = .ok (.iconst 0, 1) := by decide +kernel
theorem dX7_init_60 : decode cX7_init 60 = .ok (.putfield 40, 3) := by decide +kernel
theorem dX7_init_63 : decode cX7_init 63 = .ok (.aload_n 0, 1) := by decide +kernel
theorem dX7_init_64 : decode cX7_init 64 = .ok (.iconst 3, 1) := by decide +kernel
theorem dX7_init_65 : decode cX7_init 65 = .ok (.anewarray 43, 3) := by decide +kernel
theorem dX7_init_68 : decode cX7_init 68 = .ok (.putfield 45, 3) := by decide +kernel
theorem dX7_init_71 : decode cX7_init 71 = .ok (.aload_n 0, 1) := by decide +kernel
theorem dX7_init_72 : decode cX7_init 72 = .ok (.iconst 0, 1) := by decide +kernel
theorem dX7_init_73 : decode cX7_init 73 = .ok (.putfield 49, 3) := by decide +kernel
theorem dX7_init_76 : decode cX7_init 76 = .ok (.aload_n 0, 1) := by decide +kernel
theorem dX7_init_77 : decode cX7_init 77 = .ok (.iconst 3, 1) := by decide +kernel
theorem dX7_init_78 : decode cX7_init 78 = .ok (.anewarray 43, 3) := by decide +kernel
theorem dX7_init_81 : decode cX7_init 81 = .ok (.putfield 52, 3) := by decide +kernel
theorem dX7_init_84 : decode cX7_init 84 = .ok (.aload_n 0, 1) := by decide +kernel
theorem dX7_init_85 : decode cX7_init 85 = .ok (.iconst 0, 1) := by decide +kernel
theorem dX7_init_86 : decode cX7_init 86 = .ok (.putfield 55, 3) := by decide +kernel
theorem dX7_init_89 : decode cX7_init 89 = .ok (.aload_n 0, 1) := by decide +kernel
theorem dX7_init_90 : decode cX7_init 90 = .ok (.bipush 6, 2) := by decide +kernel
theorem dX7_init_92 : decode cX7_init 92 = .ok (.newarray .int, 2) := by decide +kernel
theorem dX7_init_94 : decode cX7_init 94 = .ok (.putfield 58, 3) := by decide +kernel
theorem dX7_init_97 : decode cX7_init 97 = .ok (.aload_n 0, 1) := by decide +kernel
theorem dX7_init_98 : decode cX7_init 98 = .ok (.bipush 6, 2) := by decide +kernel
theorem dX7_init_100 : decode cX7_init 100 = .ok (.newarray .int, 2) := by decide +kernel
theorem dX7_init_102 : decode cX7_init 102 = .ok (.putfield 61, 3) := by decide +kernel
theorem dX7_init_105 : decode cX7_init 105 = .ok (.aload_n 0, 1) := by decide +kernel
theorem dX7_init_106 : decode cX7_init 106 = .ok (.iconst 0, 1) := by decide +kernel
theorem dX7_init_107 : decode cX7_init 107 = .ok (.putfield 64, 3) := by decide +kernel
theorem dX7_init_110 : decode cX7_init 110 = .ok (.aload_n 0, 1) := by decide +kernel
theorem dX7_init_111 : decode cX7_init 111 = .ok (.bipush 20, 2) := by decide +kernel
theorem dX7_init_113 : decode cX7_init 113 = .ok (.newarray .int, 2) := by decide +kernel
theorem dX7_init_115 : decode cX7_init 115 = .ok (.putfield 67, 3) := by decide +kernel
theorem dX7_init_118 : decode cX7_init 118 = .ok (.iconst 0, 1) := by decide +kernel
theorem dX7_init_119 : decode cX7_init 119 = .ok (.istore_n 1, 1) := by decide +kernel
theorem dX7_init_120 : decode cX7_init 120 = .ok (.iload_n 1, 1) := by decide +kernel
theorem dX7_init_121 : decode cX7_init 121 = .ok (.bipush 8, 2) := by decide +kernel
theorem dX7_init_123 : decode cX7_init 123 = .ok (.if_icmp .ge 22, 3) := by decide +kernel
theorem dX7_init_126 : decode cX7_init 126 = .ok (.aload_n 0, 1) := by decide +kernel
theorem dX7_init_127 : decode cX7_init 127 = .ok (.getfield 30, 3) := by decide +kernel
theorem dX7_init_130 : decode cX7_init 130 = .ok (.iload_n 1, 1) := by decide +kernel
theorem dX7_init_131 : decode cX7_init 131 = .ok (.new 28, 3) := by decide +kernel
theorem dX7_init_134 : decode cX7_init 134 = .ok (.dup, 1) := by decide +kernel
theorem dX7_init_135 : decode cX7_init 135 = .ok (.invokespecial 70, 3) := by decide +kernel
theorem dX7_init_138 : decode cX7_init 138 = .ok (.aastore, 1) := by decide +kernel
theorem dX7_init_139 : decode cX7_init 139 = .ok (.iinc 1 1, 3) := by decide +kernel
theorem dX7_init_142 : decode cX7_init 142 = .ok (.goto (-22), 3) := by decide +kernel
theorem dX7_init_145 : decode cX7_init 145 = .ok (.return_, 1) := by decide +kernel
theorem dX7_copyFrom_0 : decode cX7_copyFrom 0 = .ok (.aload_n 1, 1) := by decide +kernel
theorem dX7_copyFrom_1 : decode cX7_copyFrom 1 = .ok (.getfield 9, 3) := by decide +kernel
theorem dX7_copyFrom_4 : decode cX7_copyFrom 4 = .ok (.iconst 0, 1) := by decide +kernel
theorem dX7_copyFrom_5 : decode cX7_copyFrom 5 = .ok (.aload_n 0, 1) := by decide +kernel
theorem dX7_copyFrom_6 : decode cX7_copyFrom 6 = .ok (.getfield 9, 3) := by decide +kernel
theorem dX7_copyFrom_9 : decode cX7_copyFrom 9 = .ok (.iconst 0, 1) := by decide +kernel
theorem dX7_copyFrom_10 : decode cX7_copyFrom 10 = .ok (.aload_n 0, 1) := by decide +kernel
theorem dX7_copyFrom_11 : decode cX7_copyFrom 11 = .ok (.getfield 9, 3) := by decide +kernel
theorem dX7_copyFrom_14 : decode cX7_copyFrom 14 = .ok (.arraylength, 1) := by decide +kernel
theorem dX7_copyFrom_15 : decode cX7_copyFrom 15 = .ok (.invokestatic 71, 3) := by decide +kernel
theorem dX7_copyFrom_18 : decode cX7_copyFrom 18 = .ok (.aload_n 0, 1) := by decide +kernel
theorem dX7_copyFrom_19 : decode cX7_copyFrom 19 = .ok (.aload_n 1, 1) := by decide +kernel
theorem dX7_copyFrom_20 : decode cX7_copyFrom 20 = .ok (.getfield 15, 3) := by decide +kernel
theorem dX7_copyFrom_23 : decode cX7_copyFrom 23 = .ok (.putfield 15, 3) := by decide +kernel
theorem dX7_copyFrom_26 : decode cX7_copyFrom 26 = .ok (.aload_n 1, 1) := by decide +kernel
theorem dX7_copyFrom_27 : decode cX7_copyFrom 27 = .ok (.getfield 19, 3) := by decide +kernel
theorem dX7_copyFrom_30 : decode cX7_copyFrom 30 = .ok (.iconst 0, 1) := by decide +kernel
theorem dX7_copyFrom_31 : decode cX7_copyFrom 31 = .ok (.aload_n 0, 1) := by decide +kernel
theorem dX7_copyFrom_32 : decode cX7_copyFrom 32 = .ok (.getfield 19, 3) := by decide +kernel
theorem dX7_copyFrom_35 : decode cX7_copyFrom 35 = .ok (.iconst 0, 1) := by decide +kernel
theorem dX7_copyFrom_36 : decode cX7_copyFrom 36 = .ok (.aload_n 0, 1) := by decide +kernel
theorem dX7_copyFrom_37 : decode cX7_copyFrom 37 = .ok (.getfield 19, 3) := by decide +kernel
theorem dX7_copyFrom_40 : decode cX7_copyFrom 40 = .ok (.arraylength, 1) := by decide +kernel
theorem dX7_copyFrom_41 : decode cX7_copyFrom 41 = .ok (.invokestatic 71, 3) := by decide +kernel
theorem dX7_copyFrom_44 : decode cX7_copyFrom 44 = .ok (.aload_n 1, 1) := by decide +kernel
theorem dX7_copyFrom_45 : decode cX7_copyFrom 45 = .ok (.getfield 22, 3) := by decide +kernel
theorem dX7_copyFrom_48 : decode cX7_copyFrom 48 = .ok (.iconst 0, 1) := by decide +kernel
theorem dX7_copyFrom_49 : decode cX7_copyFrom 49 = .ok (.aload_n 0, 1) := by decide +kernel
theorem dX7_copyFrom_50 : decode cX7_copyFrom 50 = .ok (.getfield 22, 3) := by decide +kernel
theorem dX7_copyFrom_53 : decode cX7_copyFrom 53 = .ok (.iconst 0, 1) := by decide +kernel
theorem dX7_copyFrom_54 : decode cX7_copyFrom 54 = .ok (.aload_n 0, 1) := by decide +kernel
theorem dX7_copyFrom_55 : decode cX7_copyFrom 55 = .ok (.getfield 22, 3) := by decide +kernel
theorem dX7_copyFrom_58 : decode cX7_copyFrom 58 = .ok (.arraylength, 1) := by decide +kernel
theorem dX7_copyFrom_59 : decode cX7_copyFrom 59 = .ok (.invokestatic 71, 3) := by decide +kernel
theorem dX7_copyFrom_62 : decode cX7_copyFrom 62 = .ok (.aload_n 0, 1) := by decide +kernel
theorem dX7_copyFrom_63 : decode cX7_copyFrom 63 = .ok (.aload_n 1, 1) := by decide +kernel
theorem dX7_copyFrom_64 : decode cX7_copyFrom 64 = .ok (.getfield 25, 3) := by decide +kernel
theorem dX7_copyFrom_67 : decode cX7_copyFrom 67 = .ok (.putfield 25, 3) := by decide +kernel
theorem dX7_copyFrom_70 : decode cX7_copyFrom 70 = .ok (.iconst 0, 1) := by decide +kernel
theorem dX7_copyFrom_71 : decode cX7_copyFrom 71 = .ok (.istore_n 2, 1) := by decide +kernel
theorem dX7_copyFrom_72 : decode cX7_copyFrom 72 = .ok (.iload_n 2, 1) := by decide +kernel
theorem dX7_copyFrom_73 : decode cX7_copyFrom 73 = .ok (.bipush 8, 2) := by decide +kernel
theorem dX7_copyFrom_75 : decode cX7_copyFrom 75 = .ok (.if_icmp .ge 24, 3) := by decide +kernel
theorem dX7_copyFrom_78 : decode cX7_copyFrom 78 = .ok (.aload_n 0, 1) := by decide +kernel
theorem dX7_copyFrom_79 : decode cX7_copyFrom 79 = .ok (.getfield 30, 3) := by decide +kernel
theorem dX7_copyFrom_82 : decode cX7_copyFrom 82 = .ok (.iload_n 2, 1) := by decide +kernel
theorem dX7_copyFrom_83 : decode cX7_copyFrom 83 = .ok (.aaload, 1) := by decide +kernel
theorem dX7_copyFrom_84 : decode cX7_copyFrom 84 = .ok (.aload_n 1, 1) := by decide +kernel
theorem dX7_copyFrom_85 : decode cX7_copyFrom 85 = .ok (.getfield 30, 3) := by decide +kernel
theorem dX7_copyFrom_88 : decode cX7_copyFrom 88 = .ok (.iload_n 2, 1) := by decide +kernel
theorem dX7_copyFrom_89 : decode cX7_copyFrom 89 = .ok (.aaload, 1) := by decide +kernel
theorem dX7_copyFrom_90 : decode cX7_copyFrom 90 = .ok (.invokevirtual 77, 3) := by decide +kernel
theorem dX7_copyFrom_93 : decode cX7_copyFrom 93 = .ok (.iinc 2 1, 3) := by decide +kernel
theorem dX7_copyFrom_96 : decode cX7_copyFrom 96 = .ok (.goto (-24), 3) := by decide +kernel
theorem dX7_copyFrom_99 : decode cX7_copyFrom 99 = .ok (.aload_n 0, 1) := by decide +kernel
theorem dX7_copyFrom_100 : decode cX7_copyFrom 100 = .ok (.aload_n 1, 1) := by decide +kernel
theorem dX7_copyFrom_101 : decode cX7_copyFrom 101 = .ok (.getfield 34, 3) := by decide +kernel
theorem dX7_copyFrom_104 : decode cX7_copyFrom 104 = .ok (.putfield 34, 3) := by decide +kernel
theorem dX7_copyFrom_107 : decode cX7_copyFrom 107 = .ok (.aload_n 0, 1) := by decide +kernel
theorem dX7_copyFrom_108 : decode cX7_copyFrom 108 = .ok (.aload_n 1, 1) := by decide +kernel
theorem dX7_copyFrom_109 : decode cX7_copyFrom 109 = .ok (.getfield 37, 3) := by decide +kernel
theorem dX7_copyFrom_112 : decode cX7_copyFrom 112 = .ok (.putfield 37, 3) := by decide +kernel
theorem dX7_copyFrom_115 : decode cX7_copyFrom 115 = .ok (.aload_n 0, 1) := by decide +kernel
theorem dX7_copyFrom_116 : decode cX7_copyFrom 116 = .ok (.aload_n 1, 1) := by decide +kernel
theorem dX7_copyFrom_117 : decode cX7_copyFrom 117 = .ok (.getfield 40, 3) := by decide +kernel
theorem dX7_copyFrom_120 : decode cX7_copyFrom 120 = .ok (.putfield 40, 3) := by decide +kernel
theorem dX7_copyFrom_123 : decode cX7_copyFrom 123 = .ok (.aload_n 0, 1) := by decide +kernel
theorem dX7_copyFrom_124 : decode cX7_copyFrom 124 = .ok (.aload_n 1, 1) := by decide +kernel
theorem dX7_copyFrom_125 : decode cX7_copyFrom 125 = .ok (.getfield 49, 3) := by decide +kernel
theorem dX7_copyFrom_128 : decode cX7_copyFrom 128 = .ok (.putfield 49, 3) := by decide +kernel
theorem dX7_copyFrom_131 : decode cX7_copyFrom 131 = .ok (.iconst 0, 1) := by decide +kernel
theorem dX7_copyFrom_132 : decode cX7_copyFrom 132 = .ok (.istore_n 2, 1) := by decide +kernel
theorem dX7_copyFrom_133 : decode cX7_copyFrom 133 = .ok (.iload_n 2, 1) := by decide +kernel
theorem dX7_copyFrom_134 : decode cX7_copyFrom 134 = .ok (.iconst 3, 1) := by decide +kernel
theorem dX7_copyFrom_135 : decode cX7_copyFrom 135 = .ok (.if_icmp .ge 33, 3) := by decide +kernel
theorem dX7_copyFrom_138 : decode cX7_copyFrom 138 = .ok (.aload_n 0, 1) := by decide +kernel
theorem dX7_copyFrom_139 : decode cX7_copyFrom 139 = .ok (.getfield 45, 3) := by decide +kernel
theorem dX7_copyFrom_142 : decode cX7_copyFrom 142 = .ok (.iload_n 2, 1) := by decide +kernel
theorem dX7_copyFrom_143 : decode cX7_copyFrom 143 = .ok (.aload_n 1, 1) := by decide +kernel
theorem dX7_copyFrom_144 : decode cX7_copyFrom 144 = .ok (.getfield 45, 3) := by decide +kernel
theorem dX7_copyFrom_147 : decode cX7_copyFrom 147 = .ok (.iload_n 2, 1) := by decide +kernel
theorem dX7_copyFrom_148 : decode cX7_copyFrom 148 = .ok (.aaload, 1) := by decide +kernel
theorem dX7_copyFrom_149 : decode cX7_copyFrom 149 = .ok (.aastore, 1) := by decide +kernel
theorem dX7_copyFrom_150 : decode cX7_copyFrom 150 = .ok (.aload_n 0, 1) := by decide +kernel
theorem dX7_copyFrom_151 : decode cX7_copyFrom 151 = .ok (.getfield 52, 3) := by decide +kernel
theorem dX7_copyFrom_154 : decode cX7_copyFrom 154 = .ok (.iload_n 2, 1) := by decide +kernel
theorem dX7_copyFrom_155 : decode cX7_copyFrom 155 = .ok (.aload_n 1, 1) := by decide +kernel
theorem dX7_copyFrom_156 : decode cX7_copyFrom 156 = .ok (.getfield 52, 3) := by decide +kernel
theorem dX7_copyFrom_159 : decode cX7_copyFrom 159 = .ok (.iload_n 2, 1) := by decide +kernel
theorem dX7_copyFrom_160 : decode cX7_copyFrom 160 = .ok (.aaload, 1) := by decide +kernel
theorem dX7_copyFrom_161 : decode cX7_copyFrom 161 = .ok (.aastore, 1) := by decide +kernel
theorem dX7_copyFrom_162 : decode cX7_copyFrom 162 = .ok (.iinc 2 1, 3) := by decide +kernel
theorem dX7_copyFrom_165 : decode cX7_copyFrom 165 = .ok (.goto (-32), 3) := by decide +kernel
theorem dX7_copyFrom_168 : decode cX7_copyFrom 168 = .ok (.aload_n 0, 1) := by decide +kernel
theorem dX7_copyFrom_169 : decode cX7_copyFrom 169 = .ok (.aload_n 1, 1) := by decide +kernel
theorem dX7_copyFrom_170 : decode cX7_copyFrom 170 = .ok (.getfield 55, 3) := by decide +kernel
theorem dX7_copyFrom_173 : decode cX7_copyFrom 173 = .ok (.putfield 55, 3) := by decide +kernel
theorem dX7_copyFrom_176 : decode cX7_copyFrom 176 = .ok (.aload_n 1, 1) := by decide +kernel
theorem dX7_copyFrom_177 : decode cX7_copyFrom 177 = .ok (.getfield 58, 3) := by decide +kernel
theorem dX7_copyFrom_180 : decode cX7_copyFrom 180 = .ok (.iconst 0, 1) := by decide +kernel
theorem dX7_copyFrom_181 : decode cX7_copyFrom 181 = .ok (.aload_n 0, 1) := by decide +kernel
theorem dX7_copyFrom_182 : decode cX7_copyFrom 182 = .ok (.getfield 58, 3) := by decide +kernel
theorem dX7_copyFrom_185 : decode cX7_copyFrom 185 = .ok (.iconst 0, 1) := by decide +kernel
theorem dX7_copyFrom_186 : decode cX7_copyFrom 186 = .ok (.aload_n 0, 1) := by decide +kernel
theorem dX7_copyFrom_187 : decode cX7_copyFrom 187 = .ok (.getfield 58, 3) := by decide +kernel
theorem dX7_copyFrom_190 : decode cX7_copyFrom 190 = .ok (.arraylength, 1) := by decide +kernel
theorem dX7_copyFrom_191 : decode cX7_copyFrom 191 = .ok (.invokestatic 71, 3) := by decide +kernel
theorem dX7_copyFrom_194 : decode cX7_copyFrom 194 = .ok (.aload_n 1, 1) := by decide +kernel
theorem dX7_copyFrom_195 : decode cX7_copyFrom 195 = .ok (.getfield 61, 3) := by decide +kernel
theorem dX7_copyFrom_198 : decode cX7_copyFrom 198 = .ok (.iconst 0, 1) := by decide +kernel
theorem dX7_copyFrom_199 : decode cX7_copyFrom 199 = .ok (.aload_n 0, 1) := by decide +kernel
theorem dX7_copyFrom_200 : decode cX7_copyFrom 200 = .ok (.getfield 61, 3) := by decide +kernel
theorem dX7_copyFrom_203 : decode cX7_copyFrom 203 = .ok (.iconst 0, 1) := by decide +kernel
theorem dX7_copyFrom_204 : decode cX7_copyFrom 204 = .ok (.aload_n 0, 1) := by decide +kernel
theorem dX7_copyFrom_205 : decode cX7_copyFrom 205 = .ok (.getfield 61, 3) := by decide +kernel
theorem dX7_copyFrom_208 : decode cX7_copyFrom 208 = .ok (.arraylength, 1) := by decide +kernel
theorem dX7_copyFrom_209 : decode cX7_copyFrom 209 = .ok (.invokestatic 71, 3) := by decide +kernel
theorem dX7_copyFrom_212 : decode cX7_copyFrom 212 = .ok (.aload_n 0, 1) := by decide +kernel
theorem dX7_copyFrom_213 : decode cX7_copyFrom 213 = .ok (.aload_n 1, 1) := by decide +kernel
theorem dX7_copyFrom_214 : decode cX7_copyFrom 214 = .ok (.getfield 64, 3) := by decide +kernel
theorem dX7_copyFrom_217 : decode cX7_copyFrom 217 = .ok (.putfield 64, 3) := by decide +kernel
theorem dX7_copyFrom_220 : decode cX7_copyFrom 220 = .ok (.aload_n 1, 1) := by decide +kernel
theorem dX7_copyFrom_221 : decode cX7_copyFrom 221 = .ok (.getfield 67, 3) := by decide +kernel
theorem dX7_copyFrom_224 : decode cX7_copyFrom 224 = .ok (.iconst 0, 1) := by decide +kernel
theorem dX7_copyFrom_225 : decode cX7_copyFrom 225 = .ok (.aload_n 0, 1) := by decide +kernel
theorem dX7_copyFrom_226 : decode cX7_copyFrom 226 = .ok (.getfield 67, 3) := by decide +kernel
theorem dX7_copyFrom_229 : decode cX7_copyFrom 229 = .ok (.iconst 0, 1) := by decide +kernel
theorem dX7_copyFrom_230 : decode cX7_copyFrom 230 = .ok (.aload_n 0, 1) := by decide +kernel
theorem dX7_copyFrom_231 : decode cX7_copyFrom 231 = .ok (.getfield 67, 3) := by decide +kernel
theorem dX7_copyFrom_234 : decode cX7_copyFrom 234 = .ok (.arraylength, 1) := by decide +kernel
theorem dX7_copyFrom_235 : decode cX7_copyFrom 235 = .ok (.invokestatic 71, 3) := by decide +kernel
theorem dX7_copyFrom_238 : decode cX7_copyFrom 238 = .ok (.return_, 1) := by decide +kernel
theorem dX7_addHouse_0 : decode cX7_addHouse 0 = .ok (.aload_n 0, 1) := by decide +kernel
theorem dX7_addHouse_1 : decode cX7_addHouse 1 = .ok (.getfield 19, 3) := by decide +kernel
theorem dX7_addHouse_4 : decode cX7_addHouse 4 = .ok (.aload_n 0, 1) := by decide +kernel
theorem dX7_addHouse_5 : decode cX7_addHouse 5 = .ok (.getfield 15, 3) := by decide +kernel
theorem dX7_addHouse_8 : decode cX7_addHouse 8 = .ok (.iload_n 1, 1) := by decide +kernel
theorem dX7_addHouse_9 : decode cX7_addHouse 9 = .ok (.iastore, 1) := by decide +kernel
theorem dX7_addHouse_10 : decode cX7_addHouse 10 = .ok (.iconst 0, 1) := by decide +kernel
theorem dX7_addHouse_11 : decode cX7_addHouse 11 = .ok (.istore_n 2, 1) := by decide +kernel
theorem dX7_addHouse_12 : decode cX7_addHouse 12 = .ok (.iload_n 2, 1) := by decide +kernel
theorem dX7_addHouse_13 : decode cX7_addHouse 13 = .ok (.iload_n 1, 1) := by decide +kernel
theorem dX7_addHouse_14 : decode cX7_addHouse 14 = .ok (.if_icmp .ge 27, 3) := by decide +kernel
theorem dX7_addHouse_17 : decode cX7_addHouse 17 = .ok (.aload_n 0, 1) := by decide +kernel
theorem dX7_addHouse_18 : decode cX7_addHouse 18 = .ok (.getfield 22, 3) := by decide +kernel
theorem dX7_addHouse_21 : decode cX7_addHouse 21 = .ok (.aload_n 0, 1) := by decide +kernel
theorem dX7_addHouse_22 : decode cX7_addHouse 22 = .ok (.getfield 15, 3) := by decide +kernel
theorem dX7_addHouse_25 : decode cX7_addHouse 25 = .ok (.bipush 20, 2) := by decide +kernel
theorem dX7_addHouse_27 : decode cX7_addHouse 27 = .ok (.imul, 1) := by decide +kernel
theorem dX7_addHouse_28 : decode cX7_addHouse 28 = .ok (.iload_n 2, 1) := by decide +kernel
theorem dX7_addHouse_29 : decode cX7_addHouse 29 = .ok (.iadd, 1) := by decide +kernel
theorem dX7_addHouse_30 : decode cX7_addHouse 30 = .ok (.iload_n 2, 1) := by decide +kernel
theorem dX7_addHouse_31 : decode cX7_addHouse 31 = .ok (.bipush 10, 2) := by decide +kernel
theorem dX7_addHouse_33 : decode cX7_addHouse 33 = .ok (.irem, 1) := by decide +kernel
theorem dX7_addHouse_34 : decode cX7_addHouse 34 = .ok (.iastore, 1) := by decide +kernel
theorem dX7_addHouse_35 : decode cX7_addHouse 35 = .ok (.iinc 2 1, 3) := by decide +kernel
theorem dX7_addHouse_38 : decode cX7_addHouse 38 = .ok (.goto (-26), 3) := by decide +kernel
theorem dX7_addHouse_41 : decode cX7_addHouse 41 = .ok (.aload_n 0, 1) := by decide +kernel
theorem dX7_addHouse_42 : decode cX7_addHouse 42 = .ok (.dup, 1) := by decide +kernel
theorem dX7_addHouse_43 : decode cX7_addHouse 43 = .ok (.getfield 15, 3) := by decide +kernel
theorem dX7_addHouse_46 : decode cX7_addHouse 46 = .ok (.iconst 1, 1) := by decide +kernel
theorem dX7_addHouse_47 : decode cX7_addHouse 47 = .ok (.iadd, 1) := by decide +kernel
theorem dX7_addHouse_48 : decode cX7_addHouse 48 = .ok (.putfield 15, 3) := by decide +kernel
theorem dX7_addHouse_51 : decode cX7_addHouse 51 = .ok (.aload_n 0, 1) := by decide +kernel
theorem dX7_addHouse_52 : decode cX7_addHouse 52 = .ok (.getfield 15, 3) := by decide +kernel
theorem dX7_addHouse_55 : decode cX7_addHouse 55 = .ok (.iconst 1, 1) := by decide +kernel
theorem dX7_addHouse_56 : decode cX7_addHouse 56 = .ok (.isub, 1) := by decide +kernel
theorem dX7_addHouse_57 : decode cX7_addHouse 57 = .ok (.ireturn, 1) := by decide +kernel
theorem dX7_lookOf_0 : decode cX7_lookOf 0 = .ok (.aload_n 0, 1) := by decide +kernel
theorem dX7_lookOf_1 : decode cX7_lookOf 1 = .ok (.getfield 22, 3) := by decide +kernel
theorem dX7_lookOf_4 : decode cX7_lookOf 4 = .ok (.iload_n 1, 1) := by decide +kernel
theorem dX7_lookOf_5 : decode cX7_lookOf 5 = .ok (.bipush 20, 2) := by decide +kernel
theorem dX7_lookOf_7 : decode cX7_lookOf 7 = .ok (.imul, 1) := by decide +kernel
theorem dX7_lookOf_8 : decode cX7_lookOf 8 = .ok (.iload_n 2, 1) := by decide +kernel
theorem dX7_lookOf_9 : decode cX7_lookOf 9 = .ok (.iadd, 1) := by decide +kernel
theorem dX7_lookOf_10 : decode cX7_lookOf 10 = .ok (.iaload, 1) := by decide +kernel
theorem dX7_lookOf_11 : decode cX7_lookOf 11 = .ok (.ireturn, 1) := by decide +kernel
theorem dX7_doorsThatLook_0 : decode cX7_doorsThatLook 0 = .ok (.iconst 0, 1) := by decide +kernel
theorem dX7_doorsThatLook_1 : decode cX7_doorsThatLook 1 = .ok (.istore_n 3, 1) := by decide +kernel
theorem dX7_doorsThatLook_2 : decode cX7_doorsThatLook 2 = .ok (.iconst 0, 1) := by decide +kernel
theorem dX7_doorsThatLook_3 : decode cX7_doorsThatLook 3 = .ok (.istore 4, 2) := by decide +kernel
theorem dX7_doorsThatLook_5 : decode cX7_doorsThatLook 5 = .ok (.iload 4, 2) := by decide +kernel
theorem dX7_doorsThatLook_7 : decode cX7_doorsThatLook 7 = .ok (.aload_n 0, 1) := by decide +kernel
theorem dX7_doorsThatLook_8 : decode cX7_doorsThatLook 8 = .ok (.getfield 15, 3) := by decide +kernel
theorem dX7_doorsThatLook_11 : decode cX7_doorsThatLook 11 = .ok (.if_icmp .ge 60, 3) := by decide +kernel
theorem dX7_doorsThatLook_14 : decode cX7_doorsThatLook 14 = .ok (.iconst 0, 1) := by decide +kernel
theorem dX7_doorsThatLook_15 : decode cX7_doorsThatLook 15 = .ok (.istore 5, 2) := by decide +kernel
theorem dX7_doorsThatLook_17 : decode cX7_doorsThatLook 17 = .ok (.iload 5, 2) := by decide +kernel
theorem dX7_doorsThatLook_19 : decode cX7_doorsThatLook 19 = .ok (.aload_n 0, 1) := by decide +kernel
theorem dX7_doorsThatLook_20 : decode cX7_doorsThatLook 20 = .ok (.getfield 19, 3) := by decide +kernel
theorem dX7_doorsThatLook_23 : decode cX7_doorsThatLook 23 = .ok (.iload 4, 2) := by decide +kernel
theorem dX7_doorsThatLook_25 : decode cX7_doorsThatLook 25 = .ok (.iaload, 1) := by decide +kernel
theorem dX7_doorsThatLook_26 : decode cX7_doorsThatLook 26 = .ok (.if_icmp .ge 39, 3) := by decide +kernel
theorem dX7_doorsThatLook_29 : decode cX7_doorsThatLook 29 = .ok (.iload_n 2, 1) := by decide +kernel
theorem dX7_doorsThatLook_30 : decode cX7_doorsThatLook 30 = .ok (.iload 4, 2) := by decide +kernel
theorem dX7_doorsThatLook_32 : decode cX7_doorsThatLook 32 = .ok (.ishr, 1) := by decide +kernel
theorem dX7_doorsThatLook_33 : decode cX7_doorsThatLook 33 = .ok (.iconst 1, 1) := by decide +kernel
theorem dX7_doorsThatLook_34 : decode cX7_doorsThatLook 34 = .ok (.iand, 1) := by decide +kernel
theorem dX7_doorsThatLook_35 : decode cX7_doorsThatLook 35 = .ok (.iconst 1, 1) := by decide +kernel
theorem dX7_doorsThatLook_36 : decode cX7_doorsThatLook 36 = .ok (.if_icmp .ne 29, 3) := by decide +kernel
theorem dX7_doorsThatLook_39 : decode cX7_doorsThatLook 39 = .ok (.iload_n 3, 1) := by decide +kernel
theorem dX7_doorsThatLook_40 : decode cX7_doorsThatLook 40 = .ok (.aload_n 0, 1) := by decide +kernel
theorem dX7_doorsThatLook_41 : decode cX7_doorsThatLook 41 = .ok (.iload 4, 2) := by decide +kernel
theorem dX7_doorsThatLook_43 : decode cX7_doorsThatLook 43 = .ok (.iload 5, 2) := by decide +kernel
theorem dX7_doorsThatLook_45 : decode cX7_doorsThatLook 45 = .ok (.invokevirtual 81, 3) := by decide +kernel
theorem dX7_doorsThatLook_48 : decode cX7_doorsThatLook 48 = .ok (.iload_n 1, 1) := by decide +kernel
theorem dX7_doorsThatLook_49 : decode cX7_doorsThatLook 49 = .ok (.if_icmp .ne 7, 3) := by decide +kernel
theorem dX7_doorsThatLook_52 : decode cX7_doorsThatLook 52 = .ok (.iconst 1, 1) := by decide +kernel
theorem dX7_doorsThatLook_53 : decode cX7_doorsThatLook 53 = .ok (.goto 4, 3) := by decide +kernel
theorem dX7_doorsThatLook_56 : decode cX7_doorsThatLook 56 = .ok (.iconst 0, 1) := by decide +kernel
theorem dX7_doorsThatLook_57 : decode cX7_doorsThatLook 57 = .ok (.iadd, 1) := by decide +kernel
theorem dX7_doorsThatLook_58 : decode cX7_doorsThatLook 58 = .ok (.istore_n 3, 1) := by decide +kernel
theorem dX7_doorsThatLook_59 : decode cX7_doorsThatLook 59 = .ok (.iinc 5 1, 3) := by decide +kernel
theorem dX7_doorsThatLook_62 : decode cX7_doorsThatLook 62 = .ok (.goto (-45), 3) := by decide +kernel
theorem dX7_doorsThatLook_65 : decode cX7_doorsThatLook 65 = .ok (.iinc 4 1, 3) := by decide +kernel
theorem dX7_doorsThatLook_68 : decode cX7_doorsThatLook 68 = .ok (.goto (-63), 3) := by decide +kernel
theorem dX7_doorsThatLook_71 : decode cX7_doorsThatLook 71 = .ok (.iload_n 3, 1) := by decide +kernel
theorem dX7_doorsThatLook_72 : decode cX7_doorsThatLook 72 = .ok (.ireturn, 1) := by decide +kernel
theorem dX7_doorsInAll_0 : decode cX7_doorsInAll 0 = .ok (.iconst 0, 1) := by decide +kernel
theorem dX7_doorsInAll_1 : decode cX7_doorsInAll 1 = .ok (.istore_n 1, 1) := by decide +kernel
theorem dX7_doorsInAll_2 : decode cX7_doorsInAll 2 = .ok (.iconst 0, 1) := by decide +kernel
theorem dX7_doorsInAll_3 : decode cX7_doorsInAll 3 = .ok (.istore_n 2, 1) := by decide +kernel
theorem dX7_doorsInAll_4 : decode cX7_doorsInAll 4 = .ok (.iload_n 2, 1) := by decide +kernel
theorem dX7_doorsInAll_5 : decode cX7_doorsInAll 5 = .ok (.aload_n 0, 1) := by decide +kernel
theorem dX7_doorsInAll_6 : decode cX7_doorsInAll 6 = .ok (.getfield 15, 3) := by decide +kernel
theorem dX7_doorsInAll_9 : decode cX7_doorsInAll 9 = .ok (.if_icmp .ge 18, 3) := by decide +kernel
theorem dX7_doorsInAll_12 : decode cX7_doorsInAll 12 = .ok (.iload_n 1, 1) := by decide +kernel
theorem dX7_doorsInAll_13 : decode cX7_doorsInAll 13 = .ok (.aload_n 0, 1) := by decide +kernel
theorem dX7_doorsInAll_14 : decode cX7_doorsInAll 14 = .ok (.getfield 19, 3) := by decide +kernel
theorem dX7_doorsInAll_17 : decode cX7_doorsInAll 17 = .ok (.iload_n 2, 1) := by decide +kernel
theorem dX7_doorsInAll_18 : decode cX7_doorsInAll 18 = .ok (.iaload, 1) := by decide +kernel
theorem dX7_doorsInAll_19 : decode cX7_doorsInAll 19 = .ok (.iadd, 1) := by decide +kernel
theorem dX7_doorsInAll_20 : decode cX7_doorsInAll 20 = .ok (.istore_n 1, 1) := by decide +kernel
theorem dX7_doorsInAll_21 : decode cX7_doorsInAll 21 = .ok (.iinc 2 1, 3) := by decide +kernel
theorem dX7_doorsInAll_24 : decode cX7_doorsInAll 24 = .ok (.goto (-20), 3) := by decide +kernel
theorem dX7_doorsInAll_27 : decode cX7_doorsInAll 27 = .ok (.iload_n 1, 1) := by decide +kernel
theorem dX7_doorsInAll_28 : decode cX7_doorsInAll 28 = .ok (.ireturn, 1) := by decide +kernel
theorem dX7_rightInAll_0 : decode cX7_rightInAll 0 = .ok (.iconst 0, 1) := by decide +kernel
theorem dX7_rightInAll_1 : decode cX7_rightInAll 1 = .ok (.istore_n 1, 1) := by decide +kernel
theorem dX7_rightInAll_2 : decode cX7_rightInAll 2 = .ok (.iconst 0, 1) := by decide +kernel
theorem dX7_rightInAll_3 : decode cX7_rightInAll 3 = .ok (.istore_n 2, 1) := by decide +kernel
theorem dX7_rightInAll_4 : decode cX7_rightInAll 4 = .ok (.iload_n 2, 1) := by decide +kernel
theorem dX7_rightInAll_5 : decode cX7_rightInAll 5 = .ok (.aload_n 0, 1) := by decide +kernel
theorem dX7_rightInAll_6 : decode cX7_rightInAll 6 = .ok (.getfield 25, 3) := by decide +kernel
theorem dX7_rightInAll_9 : decode cX7_rightInAll 9 = .ok (.if_icmp .ge 37, 3) := by decide +kernel
theorem dX7_rightInAll_12 : decode cX7_rightInAll 12 = .ok (.iload_n 1, 1) := by decide +kernel
theorem dX7_rightInAll_13 : decode cX7_rightInAll 13 = .ok (.aload_n 0, 1) := by decide +kernel
theorem dX7_rightInAll_14 : decode cX7_rightInAll 14 = .ok (.getfield 30, 3) := by decide +kernel
theorem dX7_rightInAll_17 : decode cX7_rightInAll 17 = .ok (.iload_n 2, 1) := by decide +kernel
theorem dX7_rightInAll_18 : decode cX7_rightInAll 18 = .ok (.aaload, 1) := by decide +kernel
theorem dX7_rightInAll_19 : decode cX7_rightInAll 19 = .ok (.getfield 85, 3) := by decide +kernel
theorem dX7_rightInAll_22 : decode cX7_rightInAll 22 = .ok (.ifCond .eq 15, 3) := by decide +kernel
theorem dX7_rightInAll_25 : decode cX7_rightInAll 25 = .ok (.aload_n 0, 1) := by decide +kernel
theorem dX7_rightInAll_26 : decode cX7_rightInAll 26 = .ok (.getfield 30, 3) := by decide +kernel
theorem dX7_rightInAll_29 : decode cX7_rightInAll 29 = .ok (.iload_n 2, 1) := by decide +kernel
theorem dX7_rightInAll_30 : decode cX7_rightInAll 30 = .ok (.aaload, 1) := by decide +kernel
theorem dX7_rightInAll_31 : decode cX7_rightInAll 31 = .ok (.invokevirtual 89, 3) := by decide +kernel
theorem dX7_rightInAll_34 : decode cX7_rightInAll 34 = .ok (.goto 4, 3) := by decide +kernel
theorem dX7_rightInAll_37 : decode cX7_rightInAll 37 = .ok (.iconst 0, 1) := by decide +kernel
theorem dX7_rightInAll_38 : decode cX7_rightInAll 38 = .ok (.iadd, 1) := by decide +kernel
theorem dX7_rightInAll_39 : decode cX7_rightInAll 39 = .ok (.istore_n 1, 1) := by decide +kernel
theorem dX7_rightInAll_40 : decode cX7_rightInAll 40 = .ok (.iinc 2 1, 3) := by decide +kernel
theorem dX7_rightInAll_43 : decode cX7_rightInAll 43 = .ok (.goto (-39), 3) := by decide +kernel
theorem dX7_rightInAll_46 : decode cX7_rightInAll 46 = .ok (.iload_n 1, 1) := by decide +kernel
theorem dX7_rightInAll_47 : decode cX7_rightInAll 47 = .ok (.ireturn, 1) := by decide +kernel
theorem dX7_lastMoment_0 : decode cX7_lastMoment 0 = .ok (.aload_n 0, 1) := by decide +kernel
theorem dX7_lastMoment_1 : decode cX7_lastMoment 1 = .ok (.getfield 55, 3) := by decide +kernel
theorem dX7_lastMoment_4 : decode cX7_lastMoment 4 = .ok (.iconst 1, 1) := by decide +kernel
theorem dX7_lastMoment_5 : decode cX7_lastMoment 5 = .ok (.if_icmp .ge 7, 3) := by decide +kernel
theorem dX7_lastMoment_8 : decode cX7_lastMoment 8 = .ok (.iconst 0, 1) := by decide +kernel
theorem dX7_lastMoment_9 : decode cX7_lastMoment 9 = .ok (.goto 14, 3) := by decide +kernel
theorem dX7_lastMoment_12 : decode cX7_lastMoment 12 = .ok (.aload_n 0, 1) := by decide +kernel
theorem dX7_lastMoment_13 : decode cX7_lastMoment 13 = .ok (.getfield 58, 3) := by decide +kernel
theorem dX7_lastMoment_16 : decode cX7_lastMoment 16 = .ok (.aload_n 0, 1) := by decide +kernel
theorem dX7_lastMoment_17 : decode cX7_lastMoment 17 = .ok (.getfield 55, 3) := by decide +kernel
theorem dX7_lastMoment_20 : decode cX7_lastMoment 20 = .ok (.iconst 1, 1) := by decide +kernel
theorem dX7_lastMoment_21 : decode cX7_lastMoment 21 = .ok (.isub, 1) := by decide +kernel
theorem dX7_lastMoment_22 : decode cX7_lastMoment 22 = .ok (.iaload, 1) := by decide +kernel
theorem dX7_lastMoment_23 : decode cX7_lastMoment 23 = .ok (.ireturn, 1) := by decide +kernel
theorem dX8_init_0 : decode cX8_init 0 = .ok (.aload_n 0, 1) := by decide +kernel
theorem dX8_init_1 : decode cX8_init 1 = .ok (.invokespecial 5, 3) := by decide +kernel
theorem dX8_init_4 : decode cX8_init 4 = .ok (.aload_n 0, 1) := by decide +kernel
theorem dX8_init_5 : decode cX8_init 5 = .ok (.sipush 400, 3) := by decide +kernel
theorem dX8_init_8 : decode cX8_init 8 = .ok (.newarray .int, 2) := by decide +kernel
theorem dX8_init_10 : decode cX8_init 10 = .ok (.putfield 11, 3) := by decide +kernel
theorem dX8_init_13 : decode cX8_init 13 = .ok (.aload_n 0, 1) := by decide +kernel
theorem dX8_init_14 : decode cX8_init 14 = .ok (.iconst 0, 1) := by decide +kernel
theorem dX8_init_15 : decode cX8_init 15 = .ok (.putfield 15, 3) := by decide +kernel
theorem dX8_init_18 : decode cX8_init 18 = .ok (.aload_n 0, 1) := by decide +kernel
theorem dX8_init_19 : decode cX8_init 19 = .ok (.sipush 401, 3) := by decide +kernel
theorem dX8_init_22 : decode cX8_init 22 = .ok (.newarray .int, 2) := by decide +kernel
theorem dX8_init_24 : decode cX8_init 24 = .ok (.putfield 19, 3) := by decide +kernel
theorem dX8_init_27 : decode cX8_init 27 = .ok (.aload_n 0, 1) := by decide +kernel
theorem dX8_init_28 : decode cX8_init 28 = .ok (.sipush 401, 3) := by decide +kernel
theorem dX8_init_31 : decode cX8_init 31 = .ok (.newarray .int, 2) := by decide +kernel
theorem dX8_init_33 : decode cX8_init 33 = .ok (.putfield 22, 3) := by decide +kernel
theorem dX8_init_36 : decode cX8_init 36 = .ok (.aload_n 0, 1) := by decide +kernel
theorem dX8_init_37 : decode cX8_init 37 = .ok (.bipush 10, 2) := by decide +kernel
theorem dX8_init_39 : decode cX8_init 39 = .ok (.newarray .int, 2) := by decide +kernel
theorem dX8_init_41 : decode cX8_init 41 = .ok (.putfield 27, 3) := by decide +kernel
theorem dX8_init_44 : decode cX8_init 44 = .ok (.aload_n 0, 1) := by decide +kernel
theorem dX8_init_45 : decode cX8_init 45 = .ok (.bipush 10, 2) := by decide +kernel
theorem dX8_init_47 : decode cX8_init 47 = .ok (.newarray .int, 2) := by decide +kernel
theorem dX8_init_49 : decode cX8_init 49 = .ok (.putfield 30, 3) := by decide +kernel
theorem dX8_init_52 : decode cX8_init 52 = .ok (.aload_n 0, 1) := by decide +kernel
theorem dX8_init_53 : decode cX8_init 53 = .ok (.bipush 10, 2) := by decide +kernel
theorem dX8_init_55 : decode cX8_init 55 = .ok (.newarray .int, 2) := by decide +kernel
theorem dX8_init_57 : decode cX8_init 57 = .ok (.putfield 33, 3) := by decide +kernel
theorem dX8_init_60 : decode cX8_init 60 = .ok (.aload_n 0, 1) := by decide +kernel
theorem dX8_init_61 : decode cX8_init 61 = .ok (.sipush 400, 3) := by decide +kernel
theorem dX8_init_64 : decode cX8_init 64 = .ok (.newarray .int, 2) := by decide +kernel
theorem dX8_init_66 : decode cX8_init 66 = .ok (.putfield 36, 3) := by decide +kernel
theorem dX8_init_69 : decode cX8_init 69 = .ok (.aload_n 0, 1) := by decide +kernel
theorem dX8_init_70 : decode cX8_init 70 = .ok (.iconst (-1), 1) := by decide +kernel
theorem dX8_init_71 : decode cX8_init 71 = .ok (.putfield 39, 3) := by decide +kernel
theorem dX8_init_74 : decode cX8_init 74 = .ok (.aload_n 0, 1) := by decide +kernel
theorem dX8_init_75 : decode cX8_init 75 = .ok (.iconst 0, 1) := by decide +kernel
theorem dX8_init_76 : decode cX8_init 76 = .ok (.putfield 42, 3) := by decide +kernel
theorem dX8_init_79 : decode cX8_init 79 = .ok (.aload_n 0, 1) := by decide +kernel
theorem dX8_init_80 : decode cX8_init 80 = .ok (.iconst 0, 1) := by decide +kernel
theorem dX8_init_81 : decode cX8_init 81 = .ok (.putfield 45, 3) := by decide +kernel
theorem dX8_init_84 : decode cX8_init 84 = .ok (.aload_n 0, 1) := by decide +kernel
theorem dX8_init_85 : decode cX8_init 85 = .ok (.iconst 0, 1) := by decide +kernel
theorem dX8_init_86 : decode cX8_init 86 = .ok (.putfield 48, 3) := by decide +kernel
theorem dX8_init_89 : decode cX8_init 89 = .ok (.return_, 1) := by decide +kernel
theorem dX8_hasRoomForFive_0 : decode cX8_hasRoomForFive 0 = .ok (.aload_n 0, 1) := by decide +kernel
theorem dX8_hasRoomForFive_1 : decode cX8_hasRoomForFive 1 = .ok (.getfield 15, 3) := by decide +kernel
theorem dX8_hasRoomForFive_4 : decode cX8_hasRoomForFive 4 = .ok (.bipush 20, 2) := by decide +kernel
theorem dX8_hasRoomForFive_6 : decode cX8_hasRoomForFive 6 = .ok (.iadd, 1) := by decide +kernel
theorem dX8_hasRoomForFive_7 : decode cX8_hasRoomForFive 7 = .ok (.sipush 400, 3) := by decide +kernel
theorem dX8_hasRoomForFive_10 : decode cX8_hasRoomForFive 10 = .ok (.if_icmp .gt 7, 3) := by decide +kernel
theorem dX8_hasRoomForFive_13 : decode cX8_hasRoomForFive 13 = .ok (.iconst 1, 1) := by decide +kernel
theorem dX8_hasRoomForFive_14 : decode cX8_hasRoomForFive 14 = .ok (.goto 4, 3) := by decide +kernel
theorem dX8_hasRoomForFive_17 : decode cX8_hasRoomForFive 17 = .ok (.iconst 0, 1) := by decide +kernel
theorem dX8_hasRoomForFive_18 : decode cX8_hasRoomForFive 18 = .ok (.ireturn, 1) := by decide +kernel
theorem dX8_addNumber_0 : decode cX8_addNumber 0 = .ok (.bipush 24, 2) := by decide +kernel
theorem dX8_addNumber_2 : decode cX8_addNumber 2 = .ok (.istore_n 2, 1) := by decide +kernel
theorem dX8_addNumber_3 : decode cX8_addNumber 3 = .ok (.iload_n 2, 1) := by decide +kernel
theorem dX8_addNumber_4 : decode cX8_addNumber 4 = .ok (.ifCond .lt 45, 3) := by decide +kernel
theorem dX8_addNumber_7 : decode cX8_addNumber 7 = .ok (.aload_n 0, 1) := by decide +kernel
theorem dX8_addNumber_8 : decode cX8_addNumber 8 = .ok (.getfield 15, 3) := by decide +kernel
theorem dX8_addNumber_11 : decode cX8_addNumber 11 = .ok (.sipush 400, 3) := by decide +kernel
theorem dX8_addNumber_14 : decode cX8_addNumber 14 = .ok (.if_icmp .ge 35, 3) := by decide +kernel
theorem dX8_addNumber_17 : decode cX8_addNumber 17 = .ok (.aload_n 0, 1) := by decide +kernel
theorem dX8_addNumber_18 : decode cX8_addNumber 18 = .ok (.getfield 11, 3) := by decide +kernel
theorem dX8_addNumber_21 : decode cX8_addNumber 21 = .ok (.aload_n 0, 1) := by decide +kernel
theorem dX8_addNumber_22 : decode cX8_addNumber 22 = .ok (.getfield 15, 3) := by decide +kernel
theorem dX8_addNumber_25 : decode cX8_addNumber 25 = .ok (.iload_n 1, 1) := by decide +kernel
theorem dX8_addNumber_26 : decode cX8_addNumber 26 = .ok (.iload_n 2, 1) := by decide +kernel
theorem dX8_addNumber_27 : decode cX8_addNumber 27 = .ok (.iushr, 1) := by decide +kernel
theorem dX8_addNumber_28 : decode cX8_addNumber 28 = .ok (.sipush 255, 3) := by decide +kernel
theorem dX8_addNumber_31 : decode cX8_addNumber 31 = .ok (.iand, 1) := by decide +kernel
theorem dX8_addNumber_32 : decode cX8_addNumber 32 = .ok (.iastore, 1) := by decide +kernel
theorem dX8_addNumber_33 : decode cX8_addNumber 33 = .ok (.aload_n 0, 1) := by decide +kernel
theorem dX8_addNumber_34 : decode cX8_addNumber 34 = .ok (.dup, 1) := by decide +kernel
theorem dX8_addNumber_35 : decode cX8_addNumber 35 = .ok (.getfield 15, 3) := by decide +kernel
theorem dX8_addNumber_38 : decode cX8_addNumber 38 = .ok (.iconst 1, 1) := by decide +kernel
theorem dX8_addNumber_39 : decode cX8_addNumber 39 = .ok (.iadd, 1) := by decide +kernel
theorem dX8_addNumber_40 : decode cX8_addNumber 40 = .ok (.putfield 15, 3) := by decide +kernel
theorem dX8_addNumber_43 : decode cX8_addNumber 43 = .ok (.iinc 2 (-8), 3) := by decide +kernel
theorem dX8_addNumber_46 : decode cX8_addNumber 46 = .ok (.goto (-43), 3) := by decide +kernel
theorem dX8_addNumber_49 : decode cX8_addNumber 49 = .ok (.return_, 1) := by decide +kernel
theorem dX8_read_0 : decode cX8_read 0 = .ok (.aload_n 0, 1) := by decide +kernel
theorem dX8_read_1 : decode cX8_read 1 = .ok (.iload_n 1, 1) := by decide +kernel
theorem dX8_read_2 : decode cX8_read 2 = .ok (.invokevirtual 51, 3) := by decide +kernel
theorem dX8_read_5 : decode cX8_read 5 = .ok (.aload_n 0, 1) := by decide +kernel
theorem dX8_read_6 : decode cX8_read 6 = .ok (.iconst 0, 1) := by decide +kernel
theorem dX8_read_7 : decode cX8_read 7 = .ok (.putfield 15, 3) := by decide +kernel
theorem dX8_read_10 : decode cX8_read 10 = .ok (.aload_n 0, 1) := by decide +kernel
theorem dX8_read_11 : decode cX8_read 11 = .ok (.iconst 0, 1) := by decide +kernel
theorem dX8_read_12 : decode cX8_read 12 = .ok (.putfield 42, 3) := by decide +kernel
theorem dX8_read_15 : decode cX8_read 15 = .ok (.aload_n 0, 1) := by decide +kernel
theorem dX8_read_16 : decode cX8_read 16 = .ok (.iconst 0, 1) := by decide +kernel
theorem dX8_read_17 : decode cX8_read 17 = .ok (.putfield 45, 3) := by decide +kernel
theorem dX8_read_20 : decode cX8_read 20 = .ok (.aload_n 0, 1) := by decide +kernel
theorem dX8_read_21 : decode cX8_read 21 = .ok (.iconst 0, 1) := by decide +kernel
theorem dX8_read_22 : decode cX8_read 22 = .ok (.putfield 48, 3) := by decide +kernel
theorem dX8_read_25 : decode cX8_read 25 = .ok (.iconst 1, 1) := by decide +kernel
theorem dX8_read_26 : decode cX8_read 26 = .ok (.istore_n 2, 1) := by decide +kernel
theorem dX8_read_27 : decode cX8_read 27 = .ok (.aload_n 0, 1) := by decide +kernel
theorem dX8_read_28 : decode cX8_read 28 = .ok (.invokevirtual 55, 3) := by decide +kernel
theorem dX8_read_31 : decode cX8_read 31 = .ok (.sipush 1099, 3) := by decide +kernel
theorem dX8_read_34 : decode cX8_read 34 = .ok (.if_icmp .eq 7, 3) := by decide +kernel
theorem dX8_read_37 : decode cX8_read 37 = .ok (.iconst 1, 1) := by decide +kernel
theorem dX8_read_38 : decode cX8_read 38 = .ok (.goto 4, 3) := by decide +kernel
theorem dX8_read_41 : decode cX8_read 41 = .ok (.iconst 0, 1) := by decide +kernel
theorem dX8_read_42 : decode cX8_read 42 = .ok (.istore_n 3, 1) := by decide +kernel
theorem dX8_read_43 : decode cX8_read 43 = .ok (.iconst 0, 1) := by decide +kernel
theorem dX8_read_44 : decode cX8_read 44 = .ok (.istore 4, 2) := by decide +kernel
theorem dX8_read_46 : decode cX8_read 46 = .ok (.iload 4, 2) := by decide +kernel
theorem dX8_read_48 : decode cX8_read 48 = .ok (.bipush 10, 2) := by decide +kernel
theorem dX8_read_50 : decode cX8_read 50 = .ok (.if_icmp .ge 62, 3) := by decide +kernel
theorem dX8_read_53 : decode cX8_read 53 = .ok (.iload_n 2, 1) := by decide +kernel
theorem dX8_read_54 : decode cX8_read 54 = .ok (.ifCond .eq 58, 3) := by decide +kernel
theorem dX8_read_57 : decode cX8_read 57 = .ok (.iload_n 3, 1) := by decide +kernel
theorem dX8_read_58 : decode cX8_read 58 = .ok (.ifCond .eq 54, 3) := by decide +kernel
theorem dX8_read_61 : decode cX8_read 61 = .ok (.aload_n 0, 1) := by decide +kernel
theorem dX8_read_62 : decode cX8_read 62 = .ok (.invokevirtual 59, 3) := by decide +kernel
theorem dX8_read_65 : decode cX8_read 65 = .ok (.istore_n 2, 1) := by decide +kernel
theorem dX8_read_66 : decode cX8_read 66 = .ok (.aload_n 0, 1) := by decide +kernel
theorem dX8_read_67 : decode cX8_read 67 = .ok (.invokevirtual 55, 3) := by decide +kernel
theorem dX8_read_70 : decode cX8_read 70 = .ok (.sipush 1099, 3) := by decide +kernel
theorem dX8_read_73 : decode cX8_read 73 = .ok (.if_icmp .eq 7, 3) := by decide +kernel
theorem dX8_read_76 : decode cX8_read 76 = .ok (.iconst 1, 1) := by decide +kernel
theorem dX8_read_77 : decode cX8_read 77 = .ok (.goto 4, 3) := by decide +kernel
theorem dX8_read_80 : decode cX8_read 80 = .ok (.iconst 0, 1) := by decide +kernel
theorem dX8_read_81 : decode cX8_read 81 = .ok (.istore_n 3, 1) := by decide +kernel
theorem dX8_read_82 : decode cX8_read 82 = .ok (.iload_n 2, 1) := by decide +kernel
theorem dX8_read_83 : decode cX8_read 83 = .ok (.ifCond .eq 21, 3) := by decide +kernel
theorem dX8_read_86 : decode cX8_read 86 = .ok (.iload_n 3, 1) := by decide +kernel
theorem dX8_read_87 : decode cX8_read 87 = .ok (.ifCond .eq 13, 3) := by decide +kernel
theorem dX8_read_90 : decode cX8_read 90 = .ok (.aload_n 0, 1) := by decide +kernel
theorem dX8_read_91 : decode cX8_read 91 = .ok (.sipush 1159, 3) := by decide +kernel
theorem dX8_read_94 : decode cX8_read 94 = .ok (.invokevirtual 63, 3) := by decide +kernel
theorem dX8_read_97 : decode cX8_read 97 = .ok (.ifCond .eq 7, 3) := by decide +kernel
theorem dX8_read_100 : decode cX8_read 100 = .ok (.iconst 1, 1) := by decide +kernel
theorem dX8_read_101 : decode cX8_read 101 = .ok (.goto 4, 3) := by decide +kernel
theorem dX8_read_104 : decode cX8_read 104 = .ok (.iconst 0, 1) := by decide +kernel
theorem dX8_read_105 : decode cX8_read 105 = .ok (.istore_n 2, 1) := by decide +kernel
theorem dX8_read_106 : decode cX8_read 106 = .ok (.iinc 4 1, 3) := by decide +kernel
theorem dX8_read_109 : decode cX8_read 109 = .ok (.goto (-63), 3) := by decide +kernel
theorem dX8_read_112 : decode cX8_read 112 = .ok (.iload_n 2, 1) := by decide +kernel
theorem dX8_read_113 : decode cX8_read 113 = .ok (.ifCond .eq 7, 3) := by decide +kernel
theorem dX8_read_116 : decode cX8_read 116 = .ok (.iload_n 3, 1) := by decide +kernel
theorem dX8_read_117 : decode cX8_read 117 = .ok (.ifCond .eq 18, 3) := by decide +kernel
theorem dX8_read_120 : decode cX8_read 120 = .ok (.aload_n 0, 1) := by decide +kernel
theorem dX8_read_121 : decode cX8_read 121 = .ok (.aload_n 0, 1) := by decide +kernel
theorem dX8_read_122 : decode cX8_read 122 = .ok (.getfield 22, 3) := by decide +kernel
theorem dX8_read_125 : decode cX8_read 125 = .ok (.aload_n 0, 1) := by decide +kernel
theorem dX8_read_126 : decode cX8_read 126 = .ok (.getfield 42, 3) := by decide +kernel
theorem dX8_read_129 : decode cX8_read 129 = .ok (.iaload, 1) := by decide +kernel
theorem dX8_read_130 : decode cX8_read 130 = .ok (.putfield 39, 3) := by decide +kernel
theorem dX8_read_133 : decode cX8_read 133 = .ok (.aconst_null, 1) := by decide +kernel
theorem dX8_read_134 : decode cX8_read 134 = .ok (.areturn, 1) := by decide +kernel
theorem dX8_read_135 : decode cX8_read 135 = .ok (.aload_n 0, 1) := by decide +kernel
theorem dX8_read_136 : decode cX8_read 136 = .ok (.iconst (-1), 1) := by decide +kernel
theorem dX8_read_137 : decode cX8_read 137 = .ok (.putfield 39, 3) := by decide +kernel
theorem dX8_read_140 : decode cX8_read 140 = .ok (.new 25, 3) := by decide +kernel
theorem dX8_read_143 : decode cX8_read 143 = .ok (.dup, 1) := by decide +kernel
theorem dX8_read_144 : decode cX8_read 144 = .ok (.aload_n 0, 1) := by decide +kernel
theorem dX8_read_145 : decode cX8_read 145 = .ok (.getfield 27, 3) := by decide +kernel
theorem dX8_read_148 : decode cX8_read 148 = .ok (.aload_n 0, 1) := by decide +kernel
theorem dX8_read_149 : decode cX8_read 149 = .ok (.getfield 45, 3) := by decide +kernel
theorem dX8_read_152 : decode cX8_read 152 = .ok (.invokestatic 67, 3) := by decide +kernel
theorem dX8_read_155 : decode cX8_read 155 = .ok (.aload_n 0, 1) := by decide +kernel
theorem dX8_read_156 : decode cX8_read 156 = .ok (.getfield 30, 3) := by decide +kernel
theorem dX8_read_159 : decode cX8_read 159 = .ok (.aload_n 0, 1) := by decide +kernel
theorem dX8_read_160 : decode cX8_read 160 = .ok (.getfield 45, 3) := by decide +kernel
theorem dX8_read_163 : decode cX8_read 163 = .ok (.invokestatic 67, 3) := by decide +kernel
theorem dX8_read_166 : decode cX8_read 166 = .ok (.aload_n 0, 1) := by decide +kernel
theorem dX8_read_167 : decode cX8_read 167 = .ok (.getfield 33, 3) := by decide +kernel
theorem dX8_read_170 : decode cX8_read 170 = .ok (.aload_n 0, 1) := by decide +kernel
theorem dX8_read_171 : decode cX8_read 171 = .ok (.getfield 45, 3) := by decide +kernel
theorem dX8_read_174 : decode cX8_read 174 = .ok (.invokestatic 67, 3) := by decide +kernel
theorem dX8_read_177 : decode cX8_read 177 = .ok (.aload_n 0, 1) := by decide +kernel
theorem dX8_read_178 : decode cX8_read 178 = .ok (.getfield 36, 3) := by decide +kernel
theorem dX8_read_181 : decode cX8_read 181 = .ok (.aload_n 0, 1) := by decide +kernel
theorem dX8_read_182 : decode cX8_read 182 = .ok (.getfield 48, 3) := by decide +kernel
theorem dX8_read_185 : decode cX8_read 185 = .ok (.invokestatic 67, 3) := by decide +kernel
theorem dX8_read_188 : decode cX8_read 188 = .ok (.invokespecial 73, 3) := by decide +kernel
theorem dX8_read_191 : decode cX8_read 191 = .ok (.areturn, 1) := by decide +kernel
theorem dX8_split_0 : decode cX8_split 0 = .ok (.iconst 0, 1) := by decide +kernel
theorem dX8_split_1 : decode cX8_split 1 = .ok (.istore_n 2, 1) := by decide +kernel
theorem dX8_split_2 : decode cX8_split 2 = .ok (.iconst 0, 1) := by decide +kernel
theorem dX8_split_3 : decode cX8_split 3 = .ok (.istore_n 3, 1) := by decide +kernel
theorem dX8_split_4 : decode cX8_split 4 = .ok (.iconst 0, 1) := by decide +kernel
theorem dX8_split_5 : decode cX8_split 5 = .ok (.istore 4, 2) := by decide +kernel
theorem dX8_split_7 : decode cX8_split 7 = .ok (.iload 4, 2) := by decide +kernel
theorem dX8_split_9 : decode cX8_split 9 = .ok (.sipush 400, 3) := by decide +kernel
theorem dX8_split_12 : decode cX8_split 12 = .ok (.if_icmp .ge 62, 3) := by decide +kernel
theorem dX8_split_15 : decode cX8_split 15 = .ok (.iload_n 3, 1) := by decide +kernel
theorem dX8_split_16 : decode cX8_split 16 = .ok (.aload_n 0, 1) := by decide +kernel
theorem dX8_split_17 : decode cX8_split 17 = .ok (.getfield 15, 3) := by decide +kernel
theorem dX8_split_20 : decode cX8_split 20 = .ok (.if_icmp .ge 54, 3) := by decide +kernel
theorem dX8_split_23 : decode cX8_split 23 = .ok (.aload_n 0, 1) := by decide +kernel
theorem dX8_split_24 : decode cX8_split 24 = .ok (.iload_n 3, 1) := by decide +kernel
theorem dX8_split_25 : decode cX8_split 25 = .ok (.invokevirtual 76, 3) := by decide +kernel
theorem dX8_split_28 : decode cX8_split 28 = .ok (.istore 5, 2) := by decide +kernel
theorem dX8_split_30 : decode cX8_split 30 = .ok (.aload_n 0, 1) := by decide +kernel
theorem dX8_split_31 : decode cX8_split 31 = .ok (.getfield 11, 3) := by decide +kernel
theorem dX8_split_34 : decode cX8_split 34 = .ok (.iload_n 3, 1) := by decide +kernel
theorem dX8_split_35 : decode cX8_split 35 = .ok (.iaload, 1) := by decide +kernel
theorem dX8_split_36 : decode cX8_split 36 = .ok (.bipush 32, 2) := by decide +kernel
theorem dX8_split_38 : decode cX8_split 38 = .ok (.if_icmp .eq 27, 3) := by decide +kernel
theorem dX8_split_41 : decode cX8_split 41 = .ok (.aload_n 0, 1) := by decide +kernel
theorem dX8_split_42 : decode cX8_split 42 = .ok (.getfield 22, 3) := by decide +kernel
theorem dX8_split_45 : decode cX8_split 45 = .ok (.iload_n 2, 1) := by decide +kernel
theorem dX8_split_46 : decode cX8_split 46 = .ok (.iload_n 3, 1) := by decide +kernel
theorem dX8_split_47 : decode cX8_split 47 = .ok (.iastore, 1) := by decide +kernel
theorem dX8_split_48 : decode cX8_split 48 = .ok (.aload_n 0, 1) := by decide +kernel
theorem dX8_split_49 : decode cX8_split 49 = .ok (.getfield 19, 3) := by decide +kernel
theorem dX8_split_52 : decode cX8_split 52 = .ok (.iload_n 2, 1) := by decide +kernel
theorem dX8_split_53 : decode cX8_split 53 = .ok (.aload_n 0, 1) := by decide +kernel
theorem dX8_split_54 : decode cX8_split 54 = .ok (.iload_n 3, 1) := by decide +kernel
theorem dX8_split_55 : decode cX8_split 55 = .ok (.iload 5, 2) := by decide +kernel
theorem dX8_split_57 : decode cX8_split 57 = .ok (.iload_n 1, 1) := by decide +kernel
theorem dX8_split_58 : decode cX8_split 58 = .ok (.invokevirtual 80, 3) := by decide +kernel
theorem dX8_split_61 : decode cX8_split 61 = .ok (.iastore, 1) := by decide +kernel
theorem dX8_split_62 : decode cX8_split 62 = .ok (.iinc 2 1, 3) := by decide +kernel
theorem dX8_split_65 : decode cX8_split 65 = .ok (.iload 5, 2) := by decide +kernel
theorem dX8_split_67 : decode cX8_split 67 = .ok (.istore_n 3, 1) := by decide +kernel
theorem dX8_split_68 : decode cX8_split 68 = .ok (.iinc 4 1, 3) := by decide +kernel
theorem dX8_split_71 : decode cX8_split 71 = .ok (.goto (-64), 3) := by decide +kernel
theorem dX8_split_74 : decode cX8_split 74 = .ok (.aload_n 0, 1) := by decide +kernel
theorem dX8_split_75 : decode cX8_split 75 = .ok (.getfield 22, 3) := by decide +kernel
theorem dX8_split_78 : decode cX8_split 78 = .ok (.iload_n 2, 1) := by decide +kernel
theorem dX8_split_79 : decode cX8_split 79 = .ok (.aload_n 0, 1) := by decide +kernel
theorem dX8_split_80 : decode cX8_split 80 = .ok (.getfield 15, 3) := by decide +kernel
theorem dX8_split_83 : decode cX8_split 83 = .ok (.iastore, 1) := by decide +kernel
theorem dX8_split_84 : decode cX8_split 84 = .ok (.aload_n 0, 1) := by decide +kernel
theorem dX8_split_85 : decode cX8_split 85 = .ok (.getfield 19, 3) := by decide +kernel
theorem dX8_split_88 : decode cX8_split 88 = .ok (.iload_n 2, 1) := by decide +kernel
theorem dX8_split_89 : decode cX8_split 89 = .ok (.sipush 1099, 3) := by decide +kernel
theorem dX8_split_92 : decode cX8_split 92 = .ok (.iastore, 1) := by decide +kernel
theorem dX8_split_93 : decode cX8_split 93 = .ok (.return_, 1) := by decide +kernel
theorem dX8_endOfThing_0 : decode cX8_endOfThing 0 = .ok (.aload_n 0, 1) := by decide +kernel
theorem dX8_endOfThing_1 : decode cX8_endOfThing 1 = .ok (.getfield 11, 3) := by decide +kernel
theorem dX8_endOfThing_4 : decode cX8_endOfThing 4 = .ok (.iload_n 1, 1) := by decide +kernel
theorem dX8_endOfThing_5 : decode cX8_endOfThing 5 = .ok (.iaload, 1) := by decide +kernel
theorem dX8_endOfThing_6 : decode cX8_endOfThing 6 = .ok (.invokestatic 84, 3) := by decide +kernel
theorem dX8_endOfThing_9 : decode cX8_endOfThing 9 = .ok (.istore_n 2, 1) := by decide +kernel
theorem dX8_endOfThing_10 : decode cX8_endOfThing 10 = .ok (.aload_n 0, 1) := by decide +kernel
theorem dX8_endOfThing_11 : decode cX8_endOfThing 11 = .ok (.getfield 11, 3) := by decide +kernel
theorem dX8_endOfThing_14 : decode cX8_endOfThing 14 = .ok (.iload_n 1, 1) := by decide +kernel
theorem dX8_endOfThing_15 : decode cX8_endOfThing 15 = .ok (.iaload, 1) := by decide +kernel
theorem dX8_endOfThing_16 : decode cX8_endOfThing 16 = .ok (.invokestatic 87, 3) := by decide +kernel
theorem dX8_endOfThing_19 : decode cX8_endOfThing 19 = .ok (.istore_n 3, 1) := by decide +kernel
theorem dX8_endOfThing_20 : decode cX8_endOfThing 20 = .ok (.iload_n 1, 1) := by decide +kernel
theorem dX8_endOfThing_21 : decode cX8_endOfThing 21 = .ok (.iconst 1, 1) := by decide +kernel
theorem dX8_endOfThing_22 : decode cX8_endOfThing 22 = .ok (.iadd, 1) := by decide +kernel
theorem dX8_endOfThing_23 : decode cX8_endOfThing 23 = .ok (.istore 4, 2) := by decide +kernel
theorem dX8_endOfThing_25 : decode cX8_endOfThing 25 = .ok (.iload 4, 2) := by decide +kernel
theorem dX8_endOfThing_27 : decode cX8_endOfThing 27 = .ok (.aload_n 0, 1) := by decide +kernel
theorem dX8_endOfThing_28 : decode cX8_endOfThing 28 = .ok (.getfield 15, 3) := by decide +kernel
theorem dX8_endOfThing_31 : decode cX8_endOfThing 31 = .ok (.if_icmp .ge 43, 3) := by decide +kernel
theorem dX8_endOfThing_34 : decode cX8_endOfThing 34 = .ok (.iload_n 2, 1) := by decide +kernel
theorem dX8_endOfThing_35 : decode cX8_endOfThing 35 = .ok (.ifCond .eq 16, 3) := by decide +kernel
theorem dX8_endOfThing_38 : decode cX8_endOfThing 38 = .ok (.aload_n 0, 1) := by decide +kernel
theorem dX8_endOfThing_39 : decode cX8_endOfThing 39 = .ok (.getfield 11, 3) := by decide +kernel
theorem dX8_endOfThing_42 : decode cX8_endOfThing 42 = .ok (.iload 4, 2) := by decide +kernel
theorem dX8_endOfThing_44 : decode cX8_endOfThing 44 = .ok (.iaload, 1) := by decide +kernel
theorem dX8_endOfThing_45 : decode cX8_endOfThing 45 = .ok (.invokestatic 84, 3) := by decide +kernel
theorem dX8_endOfThing_48 : decode cX8_endOfThing 48 = .ok (.ifCond .ne 20, 3) := by decide +kernel
theorem dX8_endOfThing_51 : decode cX8_endOfThing 51 = .ok (.iload_n 3, 1) := by decide +kernel
theorem dX8_endOfThing_52 : decode cX8_endOfThing 52 = .ok (.ifCond .eq 22, 3) := by decide +kernel
theorem dX8_endOfThing_55 : decode cX8_endOfThing 55 = .ok (.aload_n 0, 1) := by decide +kernel
theorem dX8_endOfThing_56 : decode cX8_endOfThing 56 = .ok (.getfield 11, 3) := by decide +kernel
theorem dX8_endOfThing_59 : decode cX8_endOfThing 59 = .ok (.iload 4, 2) := by decide +kernel
theorem dX8_endOfThing_61 : decode cX8_endOfThing 61 = .ok (.iaload, 1) := by decide +kernel
theorem dX8_endOfThing_62 : decode cX8_endOfThing 62 = .ok (.invokestatic 87, 3) := by decide +kernel
theorem dX8_endOfThing_65 : decode cX8_endOfThing 65 = .ok (.ifCond .eq 9, 3) := by decide +kernel
theorem dX8_endOfThing_68 : decode cX8_endOfThing 68 = .ok (.iinc 4 1, 3) := by decide +kernel
theorem dX8_endOfThing_71 : decode cX8_endOfThing 71 = .ok (.goto (-46), 3) := by decide +kernel
theorem dX8_endOfThing_74 : decode cX8_endOfThing 74 = .ok (.iload 4, 2) := by decide +kernel
theorem dX8_endOfThing_76 : decode cX8_endOfThing 76 = .ok (.ireturn, 1) := by decide +kernel
theorem dX8_isLetter_0 : decode cX8_isLetter 0 = .ok (.iload_n 0, 1) := by decide +kernel
theorem dX8_isLetter_1 : decode cX8_isLetter 1 = .ok (.bipush 97, 2) := by decide +kernel
theorem dX8_isLetter_3 : decode cX8_isLetter 3 = .ok (.if_icmp .lt 13, 3) := by decide +kernel
theorem dX8_isLetter_6 : decode cX8_isLetter 6 = .ok (.iload_n 0, 1) := by decide +kernel
theorem dX8_isLetter_7 : decode cX8_isLetter 7 = .ok (.bipush 122, 2) := by decide +kernel
theorem dX8_isLetter_9 : decode cX8_isLetter 9 = .ok (.if_icmp .gt 7, 3) := by decide +kernel
theorem dX8_isLetter_12 : decode cX8_isLetter 12 = .ok (.iconst 1, 1) := by decide +kernel
theorem dX8_isLetter_13 : decode cX8_isLetter 13 = .ok (.goto 4, 3) := by decide +kernel
theorem dX8_isLetter_16 : decode cX8_isLetter 16 = .ok (.iconst 0, 1) := by decide +kernel
theorem dX8_isLetter_17 : decode cX8_isLetter 17 = .ok (.ireturn, 1) := by decide +kernel
theorem dX8_isDigit_0 : decode cX8_isDigit 0 = .ok (.iload_n 0, 1) := by decide +kernel
theorem dX8_isDigit_1 : decode cX8_isDigit 1 = .ok (.bipush 48, 2) := by decide +kernel
theorem dX8_isDigit_3 : decode cX8_isDigit 3 = .ok (.if_icmp .lt 13, 3) := by decide +kernel
theorem dX8_isDigit_6 : decode cX8_isDigit 6 = .ok (.iload_n 0, 1) := by decide +kernel
theorem dX8_isDigit_7 : decode cX8_isDigit 7 = .ok (.bipush 57, 2) := by decide +kernel
theorem dX8_isDigit_9 : decode cX8_isDigit 9 = .ok (.if_icmp .gt 7, 3) := by decide +kernel
theorem dX8_isDigit_12 : decode cX8_isDigit 12 = .ok (.iconst 1, 1) := by decide +kernel
theorem dX8_isDigit_13 : decode cX8_isDigit 13 = .ok (.goto 4, 3) := by decide +kernel
theorem dX8_isDigit_16 : decode cX8_isDigit 16 = .ok (.iconst 0, 1) := by decide +kernel
theorem dX8_isDigit_17 : decode cX8_isDigit 17 = .ok (.ireturn, 1) := by decide +kernel
theorem dX8_thingOf_0 : decode cX8_thingOf 0 = .ok (.aload_n 0, 1) := by decide +kernel
theorem dX8_thingOf_1 : decode cX8_thingOf 1 = .ok (.getfield 11, 3) := by decide +kernel
theorem dX8_thingOf_4 : decode cX8_thingOf 4 = .ok (.iload_n 1, 1) := by decide +kernel
theorem dX8_thingOf_5 : decode cX8_thingOf 5 = .ok (.iaload, 1) := by decide +kernel
theorem dX8_thingOf_6 : decode cX8_thingOf 6 = .ok (.invokestatic 84, 3) := by decide +kernel
theorem dX8_thingOf_9 : decode cX8_thingOf 9 = .ok (.ifCond .eq 11, 3) := by decide +kernel
theorem dX8_thingOf_12 : decode cX8_thingOf 12 = .ok (.aload_n 0, 1) := by decide +kernel
theorem dX8_thingOf_13 : decode cX8_thingOf 13 = .ok (.iload_n 1, 1) := by decide +kernel
theorem dX8_thingOf_14 : decode cX8_thingOf 14 = .ok (.iload_n 2, 1) := by decide +kernel
theorem dX8_thingOf_15 : decode cX8_thingOf 15 = .ok (.iload_n 3, 1) := by decide +kernel
theorem dX8_thingOf_16 : decode cX8_thingOf 16 = .ok (.invokevirtual 90, 3) := by decide +kernel
theorem dX8_thingOf_19 : decode cX8_thingOf 19 = .ok (.ireturn, 1) := by decide +kernel
theorem dX8_thingOf_20 : decode cX8_thingOf 20 = .ok (.aload_n 0, 1) := by decide +kernel
theorem dX8_thingOf_21 : decode cX8_thingOf 21 = .ok (.getfield 11, 3) := by decide +kernel
theorem dX8_thingOf_24 : decode cX8_thingOf 24 = .ok (.iload_n 1, 1) := by decide +kernel
theorem dX8_thingOf_25 : decode cX8_thingOf 25 = .ok (.iaload, 1) := by decide +kernel
theorem dX8_thingOf_26 : decode cX8_thingOf 26 = .ok (.invokestatic 87, 3) := by decide +kernel
theorem dX8_thingOf_29 : decode cX8_thingOf 29 = .ok (.ifCond .ne 14, 3) := by decide +kernel
theorem dX8_thingOf_32 : decode cX8_thingOf 32 = .ok (.sipush 1100, 3) := by decide +kernel
theorem dX8_thingOf_35 : decode cX8_thingOf 35 = .ok (.aload_n 0, 1) := by decide +kernel
theorem dX8_thingOf_36 : decode cX8_thingOf 36 = .ok (.getfield 11, 3) := by decide +kernel
theorem dX8_thingOf_39 : decode cX8_thingOf 39 = .ok (.iload_n 1, 1) := by decide +kernel
theorem dX8_thingOf_40 : decode cX8_thingOf 40 = .ok (.iaload, 1) := by decide +kernel
theorem dX8_thingOf_41 : decode cX8_thingOf 41 = .ok (.iadd, 1) := by decide +kernel
theorem dX8_thingOf_42 : decode cX8_thingOf 42 = .ok (.ireturn, 1) := by decide +kernel
theorem dX8_thingOf_43 : decode cX8_thingOf 43 = .ok (.iload_n 2, 1) := by decide +kernel
theorem dX8_thingOf_44 : decode cX8_thingOf 44 = .ok (.iload_n 1, 1) := by decide +kernel
theorem dX8_thingOf_45 : decode cX8_thingOf 45 = .ok (.isub, 1) := by decide +kernel
theorem dX8_thingOf_46 : decode cX8_thingOf 46 = .ok (.iconst 3, 1) := by decide +kernel
theorem dX8_thingOf_47 : decode cX8_thingOf 47 = .ok (.if_icmp .le 7, 3) := by decide +kernel
theorem dX8_thingOf_50 : decode cX8_thingOf 50 = .ok (.sipush 1098, 3) := by decide +kernel
theorem dX8_thingOf_53 : decode cX8_thingOf 53 = .ok (.ireturn, 1) := by decide +kernel
theorem dX8_thingOf_54 : decode cX8_thingOf 54 = .ok (.iconst 0, 1) := by decide +kernel
theorem dX8_thingOf_55 : decode cX8_thingOf 55 = .ok (.istore 4, 2) := by decide +kernel
theorem dX8_thingOf_57 : decode cX8_thingOf 57 = .ok (.iload_n 1, 1) := by decide +kernel
theorem dX8_thingOf_58 : decode cX8_thingOf 58 = .ok (.istore 5, 2) := by decide +kernel
theorem dX8_thingOf_60 : decode cX8_thingOf 60 = .ok (.iload 5, 2) := by decide +kernel
theorem dX8_thingOf_62 : decode cX8_thingOf 62 = .ok (.iload_n 2, 1) := by decide +kernel
theorem dX8_thingOf_63 : decode cX8_thingOf 63 = .ok (.if_icmp .ge 27, 3) := by decide +kernel
theorem dX8_thingOf_66 : decode cX8_thingOf 66 = .ok (.iload 4, 2) := by decide +kernel
theorem dX8_thingOf_68 : decode cX8_thingOf 68 = .ok (.bipush 10, 2) := by decide +kernel
theorem dX8_thingOf_70 : decode cX8_thingOf 70 = .ok (.imul, 1) := by decide +kernel
theorem dX8_thingOf_71 : decode cX8_thingOf 71 = .ok (.aload_n 0, 1) := by decide +kernel
theorem dX8_thingOf_72 : decode cX8_thingOf 72 = .ok (.getfield 11, 3) := by decide +kernel
theorem dX8_thingOf_75 : decode cX8_thingOf 75 = .ok (.iload 5, 2) := by decide +kernel
theorem dX8_thingOf_77 : decode cX8_thingOf 77 = .ok (.iaload, 1) := by decide +kernel
theorem dX8_thingOf_78 : decode cX8_thingOf 78 = .ok (.iadd, 1) := by decide +kernel
theorem dX8_thingOf_79 : decode cX8_thingOf 79 = .ok (.bipush 48, 2) := by decide +kernel
theorem dX8_thingOf_81 : decode cX8_thingOf 81 = .ok (.isub, 1) := by decide +kernel
theorem dX8_thingOf_82 : decode cX8_thingOf 82 = .ok (.istore 4, 2) := by decide +kernel
theorem dX8_thingOf_84 : decode cX8_thingOf 84 = .ok (.iinc 5 1, 3) := by decide +kernel
theorem dX8_thingOf_87 : decode cX8_thingOf 87 = .ok (.goto (-27), 3) := by decide +kernel
theorem dX8_thingOf_90 : decode cX8_thingOf 90 = .ok (.iload 4, 2) := by decide +kernel
theorem dX8_thingOf_92 : decode cX8_thingOf 92 = .ok (.ireturn, 1) := by decide +kernel
theorem dX8_wordOf_0 : decode cX8_wordOf 0 = .ok (.aload_n 0, 1) := by decide +kernel
theorem dX8_wordOf_1 : decode cX8_wordOf 1 = .ok (.ldc 93, 2) := by decide +kernel
theorem dX8_wordOf_3 : decode cX8_wordOf 3 = .ok (.iload_n 1, 1) := by decide +kernel
theorem dX8_wordOf_4 : decode cX8_wordOf 4 = .ok (.iload_n 2, 1) := by decide +kernel
theorem dX8_wordOf_5 : decode cX8_wordOf 5 = .ok (.invokevirtual 95, 3) := by decide +kernel
theorem dX8_wordOf_8 : decode cX8_wordOf 8 = .ok (.istore 4, 2) := by decide +kernel
theorem dX8_wordOf_10 : decode cX8_wordOf 10 = .ok (.iload 4, 2) := by decide +kernel
theorem dX8_wordOf_12 : decode cX8_wordOf 12 = .ok (.iconst (-1), 1) := by decide +kernel
theorem dX8_wordOf_13 : decode cX8_wordOf 13 = .ok (.if_icmp .eq 10, 3) := by decide +kernel
theorem dX8_wordOf_16 : decode cX8_wordOf 16 = .ok (.sipush 1040, 3) := by decide +kernel
theorem dX8_wordOf_19 : decode cX8_wordOf 19 = .ok (.iload 4, 2) := by decide +kernel
theorem dX8_wordOf_21 : decode cX8_wordOf 21 = .ok (.iadd, 1) := by decide +kernel
theorem dX8_wordOf_22 : decode cX8_wordOf 22 = .ok (.ireturn, 1) := by decide +kernel
theorem dX8_wordOf_23 : decode cX8_wordOf 23 = .ok (.aload_n 0, 1) := by decide +kernel
theorem dX8_wordOf_24 : decode cX8_wordOf 24 = .ok (.iload_n 3, 1) := by decide +kernel
theorem dX8_wordOf_25 : decode cX8_wordOf 25 = .ok (.ifCond .eq 8, 3) := by decide +kernel
theorem dX8_wordOf_28 : decode cX8_wordOf 28 = .ok (.ldc 99, 2) := by decide +kernel
theorem dX8_wordOf_30 : decode cX8_wordOf 30 = .ok (.goto 5, 3) := by decide +kernel
theorem dX8_wordOf_33 : decode cX8_wordOf 33 = .ok (.ldc 101, 2) := by decide +kernel
theorem dX8_wordOf_35 : decode cX8_wordOf 35 = .ok (.iload_n 1, 1) := by decide +kernel
theorem dX8_wordOf_36 : decode cX8_wordOf 36 = .ok (.iload_n 2, 1) := by decide +kernel
theorem dX8_wordOf_37 : decode cX8_wordOf 37 = .ok (.invokevirtual 95, 3) := by decide +kernel
theorem dX8_wordOf_40 : decode cX8_wordOf 40 = .ok (.istore 5, 2) := by decide +kernel
theorem dX8_wordOf_42 : decode cX8_wordOf 42 = .ok (.iload 5, 2) := by decide +kernel
theorem dX8_wordOf_44 : decode cX8_wordOf 44 = .ok (.iconst (-1), 1) := by decide +kernel
theorem dX8_wordOf_45 : decode cX8_wordOf 45 = .ok (.if_icmp .eq 10, 3) := by decide +kernel
theorem dX8_wordOf_48 : decode cX8_wordOf 48 = .ok (.sipush 1000, 3) := by decide +kernel
theorem dX8_wordOf_51 : decode cX8_wordOf 51 = .ok (.iload 5, 2) := by decide +kernel
theorem dX8_wordOf_53 : decode cX8_wordOf 53 = .ok (.iadd, 1) := by decide +kernel
theorem dX8_wordOf_54 : decode cX8_wordOf 54 = .ok (.ireturn, 1) := by decide +kernel
theorem dX8_wordOf_55 : decode cX8_wordOf 55 = .ok (.aload_n 0, 1) := by decide +kernel
theorem dX8_wordOf_56 : decode cX8_wordOf 56 = .ok (.iload_n 3, 1) := by decide +kernel
theorem dX8_wordOf_57 : decode cX8_wordOf 57 = .ok (.ifCond .eq 8, 3) := by decide +kernel
theorem dX8_wordOf_60 : decode cX8_wordOf 60 = .ok (.ldc 103, 2) := by decide +kernel
theorem dX8_wordOf_62 : decode cX8_wordOf 62 = .ok (.goto 5, 3) := by decide +kernel
theorem dX8_wordOf_65 : decode cX8_wordOf 65 = .ok (.ldc 105, 2) := by decide +kernel
theorem dX8_wordOf_67 : decode cX8_wordOf 67 = .ok (.iload_n 1, 1) := by decide +kernel
theorem dX8_wordOf_68 : decode cX8_wordOf 68 = .ok (.iload_n 2, 1) := by decide +kernel
theorem dX8_wordOf_69 : decode cX8_wordOf 69 = .ok (.invokevirtual 95, 3) := by decide +kernel
theorem dX8_wordOf_72 : decode cX8_wordOf 72 = .ok (.istore 6, 2) := by decide +kernel
theorem dX8_wordOf_74 : decode cX8_wordOf 74 = .ok (.iload 6, 2) := by decide +kernel
theorem dX8_wordOf_76 : decode cX8_wordOf 76 = .ok (.iconst (-1), 1) := by decide +kernel
theorem dX8_wordOf_77 : decode cX8_wordOf 77 = .ok (.if_icmp .eq 21, 3) := by decide +kernel
theorem dX8_wordOf_80 : decode cX8_wordOf 80 = .ok (.sipush 1020, 3) := by decide +kernel
theorem dX8_wordOf_83 : decode cX8_wordOf 83 = .ok (.iload_n 3, 1) := by decide +kernel
theorem dX8_wordOf_84 : decode cX8_wordOf 84 = .ok (.ifCond .eq 8, 3) := by decide +kernel
theorem dX8_wordOf_87 : decode cX8_wordOf 87 = .ok (.bipush 8, 2) := by decide +kernel
theorem dX8_wordOf_89 : decode cX8_wordOf 89 = .ok (.goto 4, 3) := by decide +kernel
theorem dX8_wordOf_92 : decode cX8_wordOf 92 = .ok (.iconst 4, 1) := by decide +kernel
theorem dX8_wordOf_93 : decode cX8_wordOf 93 = .ok (.iadd, 1) := by decide +kernel
theorem dX8_wordOf_94 : decode cX8_wordOf 94 = .ok (.iload 6, 2) := by decide +kernel
theorem dX8_wordOf_96 : decode cX8_wordOf 96 = .ok (.iadd, 1) := by decide +kernel
theorem dX8_wordOf_97 : decode cX8_wordOf 97 = .ok (.ireturn, 1) := by decide +kernel
theorem dX8_wordOf_98 : decode cX8_wordOf 98 = .ok (.sipush 1098, 3) := by decide +kernel
theorem dX8_wordOf_101 : decode cX8_wordOf 101 = .ok (.ireturn, 1) := by decide +kernel
theorem dX8_indexIn_0 : decode cX8_indexIn 0 = .ok (.iconst 0, 1) := by decide +kernel
theorem dX8_indexIn_1 : decode cX8_indexIn 1 = .ok (.istore 4, 2) := by decide +kernel
theorem dX8_indexIn_3 : decode cX8_indexIn 3 = .ok (.iconst 0, 1) := by decide +kernel
theorem dX8_indexIn_4 : decode cX8_indexIn 4 = .ok (.istore 5, 2) := by decide +kernel
theorem dX8_indexIn_6 : decode cX8_indexIn 6 = .ok (.iconst 1, 1) := by decide +kernel
theorem dX8_indexIn_7 : decode cX8_indexIn 7 = .ok (.istore 6, 2) := by decide +kernel
theorem dX8_indexIn_9 : decode cX8_indexIn 9 = .ok (.iconst 0, 1) := by decide +kernel
theorem dX8_indexIn_10 : decode cX8_indexIn 10 = .ok (.istore 7, 2) := by decide +kernel
theorem dX8_indexIn_12 : decode cX8_indexIn 12 = .ok (.iload 7, 2) := by decide +kernel
theorem dX8_indexIn_14 : decode cX8_indexIn 14 = .ok (.aload_n 1, 1) := by decide +kernel
theorem dX8_indexIn_15 : decode cX8_indexIn 15 = .ok (.invokevirtual 107, 3) := by decide +kernel
theorem dX8_indexIn_18 : decode cX8_indexIn 18 = .ok (.if_icmp .gt 98, 3) := by decide +kernel
theorem dX8_indexIn_21 : decode cX8_indexIn 21 = .ok (.iload 7, 2) := by decide +kernel
theorem dX8_indexIn_23 : decode cX8_indexIn 23 = .ok (.aload_n 1, 1) := by decide +kernel
theorem dX8_indexIn_24 : decode cX8_indexIn 24 = .ok (.invokevirtual 107, 3) := by decide +kernel
theorem dX8_indexIn_27 : decode cX8_indexIn 27 = .ok (.if_icmp .eq 14, 3) := by decide +kernel
theorem dX8_indexIn_30 : decode cX8_indexIn 30 = .ok (.aload_n 1, 1) := by decide +kernel
theorem dX8_indexIn_31 : decode cX8_indexIn 31 = .ok (.iload 7, 2) := by decide +kernel
theorem dX8_indexIn_33 : decode cX8_indexIn 33 = .ok (.invokevirtual 111, 3) := by decide +kernel
theorem dX8_indexIn_36 : decode cX8_indexIn 36 = .ok (.bipush 32, 2) := by decide +kernel
theorem dX8_indexIn_38 : decode cX8_indexIn 38 = .ok (.if_icmp .ne 31, 3) := by decide +kernel
theorem dX8_indexIn_41 : decode cX8_indexIn 41 = .ok (.iload 6, 2) := by decide +kernel
theorem dX8_indexIn_43 : decode cX8_indexIn 43 = .ok (.ifCond .eq 14, 3) := by decide +kernel
theorem dX8_indexIn_46 : decode cX8_indexIn 46 = .ok (.iload 5, 2) := by decide +kernel
theorem dX8_indexIn_48 : decode cX8_indexIn 48 = .ok (.iload_n 3, 1) := by decide +kernel
theorem dX8_indexIn_49 : decode cX8_indexIn 49 = .ok (.iload_n 2, 1) := by decide +kernel
theorem dX8_indexIn_50 : decode cX8_indexIn 50 = .ok (.isub, 1) := by decide +kernel
theorem dX8_indexIn_51 : decode cX8_indexIn 51 = .ok (.if_icmp .ne 6, 3) := by decide +kernel
theorem dX8_indexIn_54 : decode cX8_indexIn 54 = .ok (.iload 4, 2) := by decide +kernel
theorem dX8_indexIn_56 : decode cX8_indexIn 56 = .ok (.ireturn, 1) := by decide +kernel
theorem dX8_indexIn_57 : decode cX8_indexIn 57 = .ok (.iinc 4 1, 3) := by decide +kernel
theorem dX8_indexIn_60 : decode cX8_indexIn 60 = .ok (.iconst 0, 1) := by decide +kernel
theorem dX8_indexIn_61 : decode cX8_indexIn 61 = .ok (.istore 5, 2) := by decide +kernel
theorem dX8_indexIn_63 : decode cX8_indexIn 63 = .ok (.iconst 1, 1) := by decide +kernel
theorem dX8_indexIn_64 : decode cX8_indexIn 64 = .ok (.istore 6, 2) := by decide +kernel
theorem dX8_indexIn_66 : decode cX8_indexIn 66 = .ok (.goto 44, 3) := by decide +kernel
theorem dX8_indexIn_69 : decode cX8_indexIn 69 = .ok (.iload 6, 2) := by decide +kernel
theorem dX8_indexIn_71 : decode cX8_indexIn 71 = .ok (.ifCond .eq 33, 3) := by decide +kernel
theorem dX8_indexIn_74 : decode cX8_indexIn 74 = .ok (.iload 5, 2) := by decide +kernel
theorem dX8_indexIn_76 : decode cX8_indexIn 76 = .ok (.iload_n 3, 1) := by decide +kernel
theorem dX8_indexIn_77 : decode cX8_indexIn 77 = .ok (.iload_n 2, 1) := by decide +kernel
theorem dX8_indexIn_78 : decode cX8_indexIn 78 = .ok (.isub, 1) := by decide +kernel
theorem dX8_indexIn_79 : decode cX8_indexIn 79 = .ok (.if_icmp .ge 25, 3) := by decide +kernel
theorem dX8_indexIn_82 : decode cX8_indexIn 82 = .ok (.aload_n 0, 1) := by decide +kernel
theorem dX8_indexIn_83 : decode cX8_indexIn 83 = .ok (.getfield 11, 3) := by decide +kernel
theorem dX8_indexIn_86 : decode cX8_indexIn 86 = .ok (.iload_n 2, 1) := by decide +kernel
theorem dX8_indexIn_87 : decode cX8_indexIn 87 = .ok (.iload 5, 2) := by decide +kernel
theorem dX8_indexIn_89 : decode cX8_indexIn 89 = .ok (.iadd, 1) := by decide +kernel
theorem dX8_indexIn_90 : decode cX8_indexIn 90 = .ok (.iaload, 1) := by decide +kernel
theorem dX8_indexIn_91 : decode cX8_indexIn 91 = .ok (.aload_n 1, 1) := by decide +kernel
theorem dX8_indexIn_92 : decode cX8_indexIn 92 = .ok (.iload 7, 2) := by decide +kernel
theorem dX8_indexIn_94 : decode cX8_indexIn 94 = .ok (.invokevirtual 111, 3) := by decide +kernel
theorem dX8_indexIn_97 : decode cX8_indexIn 97 = .ok (.if_icmp .ne 7, 3) := by decide +kernel
theorem dX8_indexIn_100 : decode cX8_indexIn 100 = .ok (.iconst 1, 1) := by decide +kernel
theorem dX8_indexIn_101 : decode cX8_indexIn 101 = .ok (.goto 4, 3) := by decide +kernel
theorem dX8_indexIn_104 : decode cX8_indexIn 104 = .ok (.iconst 0, 1) := by decide +kernel
theorem dX8_indexIn_105 : decode cX8_indexIn 105 = .ok (.istore 6, 2) := by decide +kernel
theorem dX8_indexIn_107 : decode cX8_indexIn 107 = .ok (.iinc 5 1, 3) := by decide +kernel
theorem dX8_indexIn_110 : decode cX8_indexIn 110 = .ok (.iinc 7 1, 3) := by decide +kernel
theorem dX8_indexIn_113 : decode cX8_indexIn 113 = .ok (.goto (-101), 3) := by decide +kernel
theorem dX8_indexIn_116 : decode cX8_indexIn 116 = .ok (.iconst (-1), 1) := by decide +kernel
theorem dX8_indexIn_117 : decode cX8_indexIn 117 = .ok (.ireturn, 1) := by decide +kernel
theorem dX8_here_0 : decode cX8_here 0 = .ok (.aload_n 0, 1) := by decide +kernel
theorem dX8_here_1 : decode cX8_here 1 = .ok (.getfield 19, 3) := by decide +kernel
theorem dX8_here_4 : decode cX8_here 4 = .ok (.aload_n 0, 1) := by decide +kernel
theorem dX8_here_5 : decode cX8_here 5 = .ok (.getfield 42, 3) := by decide +kernel
theorem dX8_here_8 : decode cX8_here 8 = .ok (.iaload, 1) := by decide +kernel
theorem dX8_here_9 : decode cX8_here 9 = .ok (.ireturn, 1) := by decide +kernel
theorem dX8_take_0 : decode cX8_take 0 = .ok (.aload_n 0, 1) := by decide +kernel
theorem dX8_take_1 : decode cX8_take 1 = .ok (.getfield 42, 3) := by decide +kernel
theorem dX8_take_4 : decode cX8_take 4 = .ok (.sipush 400, 3) := by decide +kernel
theorem dX8_take_7 : decode cX8_take 7 = .ok (.if_icmp .ge 23, 3) := by decide +kernel
theorem dX8_take_10 : decode cX8_take 10 = .ok (.aload_n 0, 1) := by decide +kernel
theorem dX8_take_11 : decode cX8_take 11 = .ok (.getfield 19, 3) := by decide +kernel
theorem dX8_take_14 : decode cX8_take 14 = .ok (.aload_n 0, 1) := by decide +kernel
theorem dX8_take_15 : decode cX8_take 15 = .ok (.getfield 42, 3) := by decide +kernel
theorem dX8_take_18 : decode cX8_take 18 = .ok (.iaload, 1) := by decide +kernel
theorem dX8_take_19 : decode cX8_take 19 = .ok (.iload_n 1, 1) := by decide +kernel
theorem dX8_take_20 : decode cX8_take 20 = .ok (.if_icmp .ne 10, 3) := by decide +kernel
theorem dX8_take_23 : decode cX8_take 23 = .ok (.iload_n 1, 1) := by decide +kernel
theorem dX8_take_24 : decode cX8_take 24 = .ok (.sipush 1099, 3) := by decide +kernel
theorem dX8_take_27 : decode cX8_take 27 = .ok (.if_icmp .ne 5, 3) := by decide +kernel
theorem dX8_take_30 : decode cX8_take 30 = .ok (.iconst 0, 1) := by decide +kernel
theorem dX8_take_31 : decode cX8_take 31 = .ok (.ireturn, 1) := by decide +kernel
theorem dX8_take_32 : decode cX8_take 32 = .ok (.aload_n 0, 1) := by decide +kernel
theorem dX8_take_33 : decode cX8_take 33 = .ok (.dup, 1) := by decide +kernel
theorem dX8_take_34 : decode cX8_take 34 = .ok (.getfield 42, 3) := by decide +kernel
theorem dX8_take_37 : decode cX8_take 37 = .ok (.iconst 1, 1) := by decide +kernel
theorem dX8_take_38 : decode cX8_take 38 = .ok (.iadd, 1) := by decide +kernel
theorem dX8_take_39 : decode cX8_take 39 = .ok (.putfield 42, 3) := by decide +kernel
theorem dX8_take_42 : decode cX8_take 42 = .ok (.iconst 1, 1) := by decide +kernel
theorem dX8_take_43 : decode cX8_take 43 = .ok (.ireturn, 1) := by decide +kernel
theorem dX8_write_0 : decode cX8_write 0 = .ok (.aload_n 0, 1) := by decide +kernel
theorem dX8_write_1 : decode cX8_write 1 = .ok (.getfield 48, 3) := by decide +kernel
theorem dX8_write_4 : decode cX8_write 4 = .ok (.aload_n 0, 1) := by decide +kernel
theorem dX8_write_5 : decode cX8_write 5 = .ok (.getfield 36, 3) := by decide +kernel
theorem dX8_write_8 : decode cX8_write 8 = .ok (.arraylength, 1) := by decide +kernel
theorem dX8_write_9 : decode cX8_write 9 = .ok (.if_icmp .ge 23, 3) := by decide +kernel
theorem dX8_write_12 : decode cX8_write 12 = .ok (.aload_n 0, 1) := by decide +kernel
theorem dX8_write_13 : decode cX8_write 13 = .ok (.getfield 36, 3) := by decide +kernel
theorem dX8_write_16 : decode cX8_write 16 = .ok (.aload_n 0, 1) := by decide +kernel
theorem dX8_write_17 : decode cX8_write 17 = .ok (.getfield 48, 3) := by decide +kernel
theorem dX8_write_20 : decode cX8_write 20 = .ok (.iload_n 1, 1) := by decide +kernel
theorem dX8_write_21 : decode cX8_write 21 = .ok (.iastore, 1) := by decide +kernel
theorem dX8_write_22 : decode cX8_write 22 = .ok (.aload_n 0, 1) := by decide +kernel
theorem dX8_write_23 : decode cX8_write 23 = .ok (.dup, 1) := by decide +kernel
theorem dX8_write_24 : decode cX8_write 24 = .ok (.getfield 48, 3) := by decide +kernel
theorem dX8_write_27 : decode cX8_write 27 = .ok (.iconst 1, 1) := by decide +kernel
theorem dX8_write_28 : decode cX8_write 28 = .ok (.iadd, 1) := by decide +kernel
theorem dX8_write_29 : decode cX8_write 29 = .ok (.putfield 48, 3) := by decide +kernel
theorem dX8_write_32 : decode cX8_write 32 = .ok (.return_, 1) := by decide +kernel
theorem dX8_readLine_0 : decode cX8_readLine 0 = .ok (.aload_n 0, 1) := by decide +kernel
theorem dX8_readLine_1 : decode cX8_readLine 1 = .ok (.sipush 1040, 3) := by decide +kernel
theorem dX8_readLine_4 : decode cX8_readLine 4 = .ok (.invokevirtual 63, 3) := by decide +kernel
theorem dX8_readLine_7 : decode cX8_readLine 7 = .ok (.istore_n 1, 1) := by decide +kernel
theorem dX8_readLine_8 : decode cX8_readLine 8 = .ok (.iload_n 1, 1) := by decide +kernel
theorem dX8_readLine_9 : decode cX8_readLine 9 = .ok (.ifCond .ne 15, 3) := by decide +kernel
theorem dX8_readLine_12 : decode cX8_readLine 12 = .ok (.aload_n 0, 1) := by decide +kernel
theorem dX8_readLine_13 : decode cX8_readLine 13 = .ok (.sipush 1041, 3) := by decide +kernel
theorem dX8_readLine_16 : decode cX8_readLine 16 = .ok (.invokevirtual 63, 3) := by decide +kernel
theorem dX8_readLine_19 : decode cX8_readLine 19 = .ok (.ifCond .ne 5, 3) := by decide +kernel
theorem dX8_readLine_22 : decode cX8_readLine 22 = .ok (.iconst 0, 1) := by decide +kernel
theorem dX8_readLine_23 : decode cX8_readLine 23 = .ok (.ireturn, 1) := by decide +kernel
theorem dX8_readLine_24 : decode cX8_readLine 24 = .ok (.aload_n 0, 1) := by decide +kernel
theorem dX8_readLine_25 : decode cX8_readLine 25 = .ok (.invokevirtual 55, 3) := by decide +kernel
theorem dX8_readLine_28 : decode cX8_readLine 28 = .ok (.istore_n 2, 1) := by decide +kernel
theorem dX8_readLine_29 : decode cX8_readLine 29 = .ok (.iload_n 2, 1) := by decide +kernel
theorem dX8_readLine_30 : decode cX8_readLine 30 = .ok (.sipush 1000, 3) := by decide +kernel
theorem dX8_readLine_33 : decode cX8_readLine 33 = .ok (.if_icmp .ge 11, 3) := by decide +kernel
theorem dX8_readLine_36 : decode cX8_readLine 36 = .ok (.aload_n 0, 1) := by decide +kernel
theorem dX8_readLine_37 : decode cX8_readLine 37 = .ok (.iload_n 2, 1) := by decide +kernel
theorem dX8_readLine_38 : decode cX8_readLine 38 = .ok (.invokevirtual 63, 3) := by decide +kernel
theorem dX8_readLine_41 : decode cX8_readLine 41 = .ok (.ifCond .ne 5, 3) := by decide +kernel
theorem dX8_readLine_44 : decode cX8_readLine 44 = .ok (.iconst 0, 1) := by decide +kernel
theorem dX8_readLine_45 : decode cX8_readLine 45 = .ok (.ireturn, 1) := by decide +kernel
theorem dX8_readLine_46 : decode cX8_readLine 46 = .ok (.iconst (-1), 1) := by decide +kernel
theorem dX8_readLine_47 : decode cX8_readLine 47 = .ok (.istore_n 3, 1) := by decide +kernel
theorem dX8_readLine_48 : decode cX8_readLine 48 = .ok (.aload_n 0, 1) := by decide +kernel
theorem dX8_readLine_49 : decode cX8_readLine 49 = .ok (.sipush 1142, 3) := by decide +kernel
theorem dX8_readLine_52 : decode cX8_readLine 52 = .ok (.invokevirtual 63, 3) := by decide +kernel
theorem dX8_readLine_55 : decode cX8_readLine 55 = .ok (.ifCond .eq 36, 3) := by decide +kernel
theorem dX8_readLine_58 : decode cX8_readLine 58 = .ok (.aload_n 0, 1) := by decide +kernel
theorem dX8_readLine_59 : decode cX8_readLine 59 = .ok (.invokevirtual 55, 3) := by decide +kernel
theorem dX8_readLine_62 : decode cX8_readLine 62 = .ok (.sipush 1000, 3) := by decide +kernel
theorem dX8_readLine_65 : decode cX8_readLine 65 = .ok (.isub, 1) := by decide +kernel
theorem dX8_readLine_66 : decode cX8_readLine 66 = .ok (.istore_n 3, 1) := by decide +kernel
theorem dX8_readLine_67 : decode cX8_readLine 67 = .ok (.iload_n 3, 1) := by decide +kernel
theorem dX8_readLine_68 : decode cX8_readLine 68 = .ok (.ifCond .lt 21, 3) := by decide +kernel
theorem dX8_readLine_71 : decode cX8_readLine 71 = .ok (.iload_n 3, 1) := by decide +kernel
theorem dX8_readLine_72 : decode cX8_readLine 72 = .ok (.bipush 20, 2) := by decide +kernel
theorem dX8_readLine_74 : decode cX8_readLine 74 = .ok (.if_icmp .ge 15, 3) := by decide +kernel
theorem dX8_readLine_77 : decode cX8_readLine 77 = .ok (.aload_n 0, 1) := by decide +kernel
theorem dX8_readLine_78 : decode cX8_readLine 78 = .ok (.iload_n 3, 1) := by decide +kernel
theorem dX8_readLine_79 : decode cX8_readLine 79 = .ok (.sipush 1000, 3) := by decide +kernel
theorem dX8_readLine_82 : decode cX8_readLine 82 = .ok (.iadd, 1) := by decide +kernel
theorem dX8_readLine_83 : decode cX8_readLine 83 = .ok (.invokevirtual 63, 3) := by decide +kernel
theorem dX8_readLine_86 : decode cX8_readLine 86 = .ok (.ifCond .ne 5, 3) := by decide +kernel
theorem dX8_readLine_89 : decode cX8_readLine 89 = .ok (.iconst 0, 1) := by decide +kernel
theorem dX8_readLine_90 : decode cX8_readLine 90 = .ok (.ireturn, 1) := by decide +kernel
theorem dX8_readLine_91 : decode cX8_readLine 91 = .ok (.aload_n 0, 1) := by decide +kernel
theorem dX8_readLine_92 : decode cX8_readLine 92 = .ok (.sipush 1042, 3) := by decide +kernel
theorem dX8_readLine_95 : decode cX8_readLine 95 = .ok (.invokevirtual 63, 3) := by decide +kernel
theorem dX8_readLine_98 : decode cX8_readLine 98 = .ok (.ifCond .eq 13, 3) := by decide +kernel
theorem dX8_readLine_101 : decode cX8_readLine 101 = .ok (.aload_n 0, 1) := by decide +kernel
theorem dX8_readLine_102 : decode cX8_readLine 102 = .ok (.iconst 0, 1) := by decide +kernel
theorem dX8_readLine_103 : decode cX8_readLine 103 = .ok (.invokevirtual 115, 3) := by decide +kernel
theorem dX8_readLine_106 : decode cX8_readLine 106 = .ok (.ifCond .ne 5, 3) := by decide +kernel
theorem dX8_readLine_109 : decode cX8_readLine 109 = .ok (.iconst 0, 1) := by decide +kernel
theorem dX8_readLine_110 : decode cX8_readLine 110 = .ok (.ireturn, 1) := by decide +kernel
theorem dX8_readLine_111 : decode cX8_readLine 111 = .ok (.aload_n 0, 1) := by decide +kernel
theorem dX8_readLine_112 : decode cX8_readLine 112 = .ok (.getfield 27, 3) := by decide +kernel
theorem dX8_readLine_115 : decode cX8_readLine 115 = .ok (.aload_n 0, 1) := by decide +kernel
theorem dX8_readLine_116 : decode cX8_readLine 116 = .ok (.getfield 45, 3) := by decide +kernel
theorem dX8_readLine_119 : decode cX8_readLine 119 = .ok (.iload_n 1, 1) := by decide +kernel
theorem dX8_readLine_120 : decode cX8_readLine 120 = .ok (.ifCond .eq 7, 3) := by decide +kernel
theorem dX8_readLine_123 : decode cX8_readLine 123 = .ok (.iload_n 2, 1) := by decide +kernel
theorem dX8_readLine_124 : decode cX8_readLine 124 = .ok (.goto 5, 3) := by decide +kernel
theorem dX8_readLine_127 : decode cX8_readLine 127 = .ok (.iload_n 2, 1) := by decide +kernel
theorem dX8_readLine_128 : decode cX8_readLine 128 = .ok (.ineg, 1) := by decide +kernel
theorem dX8_readLine_129 : decode cX8_readLine 129 = .ok (.iastore, 1) := by decide +kernel
theorem dX8_readLine_130 : decode cX8_readLine 130 = .ok (.aload_n 0, 1) := by decide +kernel
theorem dX8_readLine_131 : decode cX8_readLine 131 = .ok (.getfield 30, 3) := by decide +kernel
theorem dX8_readLine_134 : decode cX8_readLine 134 = .ok (.aload_n 0, 1) := by decide +kernel
theorem dX8_readLine_135 : decode cX8_readLine 135 = .ok (.getfield 45, 3) := by decide +kernel
theorem dX8_readLine_138 : decode cX8_readLine 138 = .ok (.iload_n 3, 1) := by decide +kernel
theorem dX8_readLine_139 : decode cX8_readLine 139 = .ok (.iastore, 1) := by decide +kernel
theorem dX8_readLine_140 : decode cX8_readLine 140 = .ok (.aload_n 0, 1) := by decide +kernel
theorem dX8_readLine_141 : decode cX8_readLine 141 = .ok (.getfield 33, 3) := by decide +kernel
theorem dX8_readLine_144 : decode cX8_readLine 144 = .ok (.aload_n 0, 1) := by decide +kernel
theorem dX8_readLine_145 : decode cX8_readLine 145 = .ok (.getfield 45, 3) := by decide +kernel
theorem dX8_readLine_148 : decode cX8_readLine 148 = .ok (.aload_n 0, 1) := by decide +kernel
theorem dX8_readLine_149 : decode cX8_readLine 149 = .ok (.getfield 48, 3) := by decide +kernel
theorem dX8_readLine_152 : decode cX8_readLine 152 = .ok (.iastore, 1) := by decide +kernel
theorem dX8_readLine_153 : decode cX8_readLine 153 = .ok (.aload_n 0, 1) := by decide +kernel
theorem dX8_readLine_154 : decode cX8_readLine 154 = .ok (.dup, 1) := by decide +kernel
theorem dX8_readLine_155 : decode cX8_readLine 155 = .ok (.getfield 45, 3) := by decide +kernel
theorem dX8_readLine_158 : decode cX8_readLine 158 = .ok (.iconst 1, 1) := by decide +kernel
theorem dX8_readLine_159 : decode cX8_readLine 159 = .ok (.iadd, 1) := by decide +kernel
theorem dX8_readLine_160 : decode cX8_readLine 160 = .ok (.putfield 45, 3) := by decide +kernel
theorem dX8_readLine_163 : decode cX8_readLine 163 = .ok (.iconst 1, 1) := by decide +kernel
theorem dX8_readLine_164 : decode cX8_readLine 164 = .ok (.ireturn, 1) := by decide +kernel
theorem dX8_readEither_0 : decode cX8_readEither 0 = .ok (.aload_n 0, 1) := by decide +kernel
theorem dX8_readEither_1 : decode cX8_readEither 1 = .ok (.iload_n 1, 1) := by decide +kernel
theorem dX8_readEither_2 : decode cX8_readEither 2 = .ok (.invokevirtual 118, 3) := by decide +kernel
theorem dX8_readEither_5 : decode cX8_readEither 5 = .ok (.ifCond .ne 5, 3) := by decide +kernel
theorem dX8_readEither_8 : decode cX8_readEither 8 = .ok (.iconst 0, 1) := by decide +kernel
theorem dX8_readEither_9 : decode cX8_readEither 9 = .ok (.ireturn, 1) := by decide +kernel
theorem dX8_readEither_10 : decode cX8_readEither 10 = .ok (.iconst 0, 1) := by decide +kernel
theorem dX8_readEither_11 : decode cX8_readEither 11 = .ok (.istore_n 2, 1) := by decide +kernel
theorem dX8_readEither_12 : decode cX8_readEither 12 = .ok (.iload_n 2, 1) := by decide +kernel
theorem dX8_readEither_13 : decode cX8_readEither 13 = .ok (.sipush 400, 3) := by decide +kernel
theorem dX8_readEither_16 : decode cX8_readEither 16 = .ok (.if_icmp .ge 36, 3) := by decide +kernel
theorem dX8_readEither_19 : decode cX8_readEither 19 = .ok (.aload_n 0, 1) := by decide +kernel
theorem dX8_readEither_20 : decode cX8_readEither 20 = .ok (.sipush 1044, 3) := by decide +kernel
theorem dX8_readEither_23 : decode cX8_readEither 23 = .ok (.invokevirtual 63, 3) := by decide +kernel
theorem dX8_readEither_26 : decode cX8_readEither 26 = .ok (.ifCond .eq 26, 3) := by decide +kernel
theorem dX8_readEither_29 : decode cX8_readEither 29 = .ok (.aload_n 0, 1) := by decide +kernel
theorem dX8_readEither_30 : decode cX8_readEither 30 = .ok (.iload_n 1, 1) := by decide +kernel
theorem dX8_readEither_31 : decode cX8_readEither 31 = .ok (.invokevirtual 118, 3) := by decide +kernel
theorem dX8_readEither_34 : decode cX8_readEither 34 = .ok (.ifCond .ne 5, 3) := by decide +kernel
theorem dX8_readEither_37 : decode cX8_readEither 37 = .ok (.iconst 0, 1) := by decide +kernel
theorem dX8_readEither_38 : decode cX8_readEither 38 = .ok (.ireturn, 1) := by decide +kernel
theorem dX8_readEither_39 : decode cX8_readEither 39 = .ok (.aload_n 0, 1) := by decide +kernel
theorem dX8_readEither_40 : decode cX8_readEither 40 = .ok (.sipush 1044, 3) := by decide +kernel
theorem dX8_readEither_43 : decode cX8_readEither 43 = .ok (.invokevirtual 121, 3) := by decide +kernel
theorem dX8_readEither_46 : decode cX8_readEither 46 = .ok (.iinc 2 1, 3) := by decide +kernel
theorem dX8_readEither_49 : decode cX8_readEither 49 = .ok (.goto (-37), 3) := by decide +kernel
theorem dX8_readEither_52 : decode cX8_readEither 52 = .ok (.iconst 1, 1) := by decide +kernel
theorem dX8_readEither_53 : decode cX8_readEither 53 = .ok (.ireturn, 1) := by decide +kernel
theorem dX8_readAll_0 : decode cX8_readAll 0 = .ok (.aload_n 0, 1) := by decide +kernel
theorem dX8_readAll_1 : decode cX8_readAll 1 = .ok (.iload_n 1, 1) := by decide +kernel
theorem dX8_readAll_2 : decode cX8_readAll 2 = .ok (.invokevirtual 125, 3) := by decide +kernel
theorem dX8_readAll_5 : decode cX8_readAll 5 = .ok (.ifCond .ne 5, 3) := by decide +kernel
theorem dX8_readAll_8 : decode cX8_readAll 8 = .ok (.iconst 0, 1) := by decide +kernel
theorem dX8_readAll_9 : decode cX8_readAll 9 = .ok (.ireturn, 1) := by decide +kernel
theorem dX8_readAll_10 : decode cX8_readAll 10 = .ok (.iconst 0, 1) := by decide +kernel
theorem dX8_readAll_11 : decode cX8_readAll 11 = .ok (.istore_n 2, 1) := by decide +kernel
theorem dX8_readAll_12 : decode cX8_readAll 12 = .ok (.iload_n 2, 1) := by decide +kernel
theorem dX8_readAll_13 : decode cX8_readAll 13 = .ok (.sipush 400, 3) := by decide +kernel
theorem dX8_readAll_16 : decode cX8_readAll 16 = .ok (.if_icmp .ge 36, 3) := by decide +kernel
theorem dX8_readAll_19 : decode cX8_readAll 19 = .ok (.aload_n 0, 1) := by decide +kernel
theorem dX8_readAll_20 : decode cX8_readAll 20 = .ok (.sipush 1043, 3) := by decide +kernel
theorem dX8_readAll_23 : decode cX8_readAll 23 = .ok (.invokevirtual 63, 3) := by decide +kernel
theorem dX8_readAll_26 : decode cX8_readAll 26 = .ok (.ifCond .eq 26, 3) := by decide +kernel
theorem dX8_readAll_29 : decode cX8_readAll 29 = .ok (.aload_n 0, 1) := by decide +kernel
theorem dX8_readAll_30 : decode cX8_readAll 30 = .ok (.iload_n 1, 1) := by decide +kernel
theorem dX8_readAll_31 : decode cX8_readAll 31 = .ok (.invokevirtual 125, 3) := by decide +kernel
theorem dX8_readAll_34 : decode cX8_readAll 34 = .ok (.ifCond .ne 5, 3) := by decide +kernel
theorem dX8_readAll_37 : decode cX8_readAll 37 = .ok (.iconst 0, 1) := by decide +kernel
theorem dX8_readAll_38 : decode cX8_readAll 38 = .ok (.ireturn, 1) := by decide +kernel
theorem dX8_readAll_39 : decode cX8_readAll 39 = .ok (.aload_n 0, 1) := by decide +kernel
theorem dX8_readAll_40 : decode cX8_readAll 40 = .ok (.sipush 1043, 3) := by decide +kernel
theorem dX8_readAll_43 : decode cX8_readAll 43 = .ok (.invokevirtual 121, 3) := by decide +kernel
theorem dX8_readAll_46 : decode cX8_readAll 46 = .ok (.iinc 2 1, 3) := by decide +kernel
theorem dX8_readAll_49 : decode cX8_readAll 49 = .ok (.goto (-37), 3) := by decide +kernel
theorem dX8_readAll_52 : decode cX8_readAll 52 = .ok (.iconst 1, 1) := by decide +kernel
theorem dX8_readAll_53 : decode cX8_readAll 53 = .ok (.ireturn, 1) := by decide +kernel
theorem dX8_readAtom_0 : decode cX8_readAtom 0 = .ok (.aload_n 0, 1) := by decide +kernel
theorem dX8_readAtom_1 : decode cX8_readAtom 1 = .ok (.invokevirtual 55, 3) := by decide +kernel
theorem dX8_readAtom_4 : decode cX8_readAtom 4 = .ok (.istore_n 2, 1) := by decide +kernel
theorem dX8_readAtom_5 : decode cX8_readAtom 5 = .ok (.iload_n 2, 1) := by decide +kernel
theorem dX8_readAtom_6 : decode cX8_readAtom 6 = .ok (.sipush 1045, 3) := by decide +kernel
theorem dX8_readAtom_9 : decode cX8_readAtom 9 = .ok (.if_icmp .eq 10, 3) := by decide +kernel
theorem dX8_readAtom_12 : decode cX8_readAtom 12 = .ok (.iload_n 2, 1) := by decide +kernel
theorem dX8_readAtom_13 : decode cX8_readAtom 13 = .ok (.sipush 1140, 3) := by decide +kernel
