theorem dX8_readAtom_16 : decode cX8_readAtom 16 = .ok (.if_icmp .ne 69, 3) := by decide +kernel
theorem dX8_readAtom_19 : decode cX8_readAtom 19 = .ok (.iload_n 1, 1) := by decide +kernel
theorem dX8_readAtom_20 : decode cX8_readAtom 20 = .ok (.bipush 6, 2) := by decide +kernel
theorem dX8_readAtom_22 : decode cX8_readAtom 22 = .ok (.if_icmp .ge 11, 3) := by decide +kernel
theorem dX8_readAtom_25 : decode cX8_readAtom 25 = .ok (.aload_n 0, 1) := by decide +kernel
theorem dX8_readAtom_26 : decode cX8_readAtom 26 = .ok (.iload_n 2, 1) := by decide +kernel
theorem dX8_readAtom_27 : decode cX8_readAtom 27 = .ok (.invokevirtual 63, 3) := by decide +kernel
theorem dX8_readAtom_30 : decode cX8_readAtom 30 = .ok (.ifCond .ne 5, 3) := by decide +kernel
theorem dX8_readAtom_33 : decode cX8_readAtom 33 = .ok (.iconst 0, 1) := by decide +kernel
theorem dX8_readAtom_34 : decode cX8_readAtom 34 = .ok (.ireturn, 1) := by decide +kernel
theorem dX8_readAtom_35 : decode cX8_readAtom 35 = .ok (.iload_n 2, 1) := by decide +kernel
theorem dX8_readAtom_36 : decode cX8_readAtom 36 = .ok (.sipush 1045, 3) := by decide +kernel
theorem dX8_readAtom_39 : decode cX8_readAtom 39 = .ok (.if_icmp .ne 20, 3) := by decide +kernel
theorem dX8_readAtom_42 : decode cX8_readAtom 42 = .ok (.aload_n 0, 1) := by decide +kernel
theorem dX8_readAtom_43 : decode cX8_readAtom 43 = .ok (.iload_n 1, 1) := by decide +kernel
theorem dX8_readAtom_44 : decode cX8_readAtom 44 = .ok (.iconst 1, 1) := by decide +kernel
theorem dX8_readAtom_45 : decode cX8_readAtom 45 = .ok (.iadd, 1) := by decide +kernel
theorem dX8_readAtom_46 : decode cX8_readAtom 46 = .ok (.invokevirtual 125, 3) := by decide +kernel
theorem dX8_readAtom_49 : decode cX8_readAtom 49 = .ok (.istore_n 3, 1) := by decide +kernel
theorem dX8_readAtom_50 : decode cX8_readAtom 50 = .ok (.aload_n 0, 1) := by decide +kernel
theorem dX8_readAtom_51 : decode cX8_readAtom 51 = .ok (.sipush 1045, 3) := by decide +kernel
theorem dX8_readAtom_54 : decode cX8_readAtom 54 = .ok (.invokevirtual 121, 3) := by decide +kernel
theorem dX8_readAtom_57 : decode cX8_readAtom 57 = .ok (.iload_n 3, 1) := by decide +kernel
theorem dX8_readAtom_58 : decode cX8_readAtom 58 = .ok (.ireturn, 1) := by decide +kernel
theorem dX8_readAtom_59 : decode cX8_readAtom 59 = .ok (.aload_n 0, 1) := by decide +kernel
theorem dX8_readAtom_60 : decode cX8_readAtom 60 = .ok (.iload_n 1, 1) := by decide +kernel
theorem dX8_readAtom_61 : decode cX8_readAtom 61 = .ok (.iconst 1, 1) := by decide +kernel
theorem dX8_readAtom_62 : decode cX8_readAtom 62 = .ok (.iadd, 1) := by decide +kernel
theorem dX8_readAtom_63 : decode cX8_readAtom 63 = .ok (.invokevirtual 115, 3) := by decide +kernel
theorem dX8_readAtom_66 : decode cX8_readAtom 66 = .ok (.ifCond .eq 17, 3) := by decide +kernel
theorem dX8_readAtom_69 : decode cX8_readAtom 69 = .ok (.aload_n 0, 1) := by decide +kernel
theorem dX8_readAtom_70 : decode cX8_readAtom 70 = .ok (.sipush 1141, 3) := by decide +kernel
theorem dX8_readAtom_73 : decode cX8_readAtom 73 = .ok (.invokevirtual 63, 3) := by decide +kernel
theorem dX8_readAtom_76 : decode cX8_readAtom 76 = .ok (.ifCond .eq 7, 3) := by decide +kernel
theorem dX8_readAtom_79 : decode cX8_readAtom 79 = .ok (.iconst 1, 1) := by decide +kernel
theorem dX8_readAtom_80 : decode cX8_readAtom 80 = .ok (.goto 4, 3) := by decide +kernel
theorem dX8_readAtom_83 : decode cX8_readAtom 83 = .ok (.iconst 0, 1) := by decide +kernel
theorem dX8_readAtom_84 : decode cX8_readAtom 84 = .ok (.ireturn, 1) := by decide +kernel
theorem dX8_readAtom_85 : decode cX8_readAtom 85 = .ok (.iload_n 2, 1) := by decide +kernel
theorem dX8_readAtom_86 : decode cX8_readAtom 86 = .ok (.sipush 1020, 3) := by decide +kernel
theorem dX8_readAtom_89 : decode cX8_readAtom 89 = .ok (.if_icmp .lt 29, 3) := by decide +kernel
theorem dX8_readAtom_92 : decode cX8_readAtom 92 = .ok (.iload_n 2, 1) := by decide +kernel
theorem dX8_readAtom_93 : decode cX8_readAtom 93 = .ok (.sipush 1040, 3) := by decide +kernel
theorem dX8_readAtom_96 : decode cX8_readAtom 96 = .ok (.if_icmp .ge 22, 3) := by decide +kernel
theorem dX8_readAtom_99 : decode cX8_readAtom 99 = .ok (.aload_n 0, 1) := by decide +kernel
theorem dX8_readAtom_100 : decode cX8_readAtom 100 = .ok (.iload_n 2, 1) := by decide +kernel
theorem dX8_readAtom_101 : decode cX8_readAtom 101 = .ok (.sipush 1020, 3) := by decide +kernel
theorem dX8_readAtom_104 : decode cX8_readAtom 104 = .ok (.isub, 1) := by decide +kernel
theorem dX8_readAtom_105 : decode cX8_readAtom 105 = .ok (.sipush 1000, 3) := by decide +kernel
theorem dX8_readAtom_108 : decode cX8_readAtom 108 = .ok (.iadd, 1) := by decide +kernel
theorem dX8_readAtom_109 : decode cX8_readAtom 109 = .ok (.invokevirtual 121, 3) := by decide +kernel
theorem dX8_readAtom_112 : decode cX8_readAtom 112 = .ok (.aload_n 0, 1) := by decide +kernel
theorem dX8_readAtom_113 : decode cX8_readAtom 113 = .ok (.iload_n 2, 1) := by decide +kernel
theorem dX8_readAtom_114 : decode cX8_readAtom 114 = .ok (.invokevirtual 63, 3) := by decide +kernel
theorem dX8_readAtom_117 : decode cX8_readAtom 117 = .ok (.ireturn, 1) := by decide +kernel
theorem dX8_readAtom_118 : decode cX8_readAtom 118 = .ok (.aload_n 0, 1) := by decide +kernel
theorem dX8_readAtom_119 : decode cX8_readAtom 119 = .ok (.invokevirtual 128, 3) := by decide +kernel
theorem dX8_readAtom_122 : decode cX8_readAtom 122 = .ok (.ifCond .ne 5, 3) := by decide +kernel
theorem dX8_readAtom_125 : decode cX8_readAtom 125 = .ok (.iconst 0, 1) := by decide +kernel
theorem dX8_readAtom_126 : decode cX8_readAtom 126 = .ok (.ireturn, 1) := by decide +kernel
theorem dX8_readAtom_127 : decode cX8_readAtom 127 = .ok (.aload_n 0, 1) := by decide +kernel
theorem dX8_readAtom_128 : decode cX8_readAtom 128 = .ok (.invokevirtual 55, 3) := by decide +kernel
theorem dX8_readAtom_131 : decode cX8_readAtom 131 = .ok (.istore_n 3, 1) := by decide +kernel
theorem dX8_readAtom_132 : decode cX8_readAtom 132 = .ok (.iload_n 3, 1) := by decide +kernel
theorem dX8_readAtom_133 : decode cX8_readAtom 133 = .ok (.sipush 1160, 3) := by decide +kernel
theorem dX8_readAtom_136 : decode cX8_readAtom 136 = .ok (.if_icmp .eq 10, 3) := by decide +kernel
theorem dX8_readAtom_139 : decode cX8_readAtom 139 = .ok (.iload_n 3, 1) := by decide +kernel
theorem dX8_readAtom_140 : decode cX8_readAtom 140 = .ok (.sipush 1162, 3) := by decide +kernel
theorem dX8_readAtom_143 : decode cX8_readAtom 143 = .ok (.if_icmp .ne 18, 3) := by decide +kernel
theorem dX8_readAtom_146 : decode cX8_readAtom 146 = .ok (.aload_n 0, 1) := by decide +kernel
theorem dX8_readAtom_147 : decode cX8_readAtom 147 = .ok (.iload_n 3, 1) := by decide +kernel
theorem dX8_readAtom_148 : decode cX8_readAtom 148 = .ok (.invokevirtual 63, 3) := by decide +kernel
theorem dX8_readAtom_151 : decode cX8_readAtom 151 = .ok (.ifCond .eq 10, 3) := by decide +kernel
theorem dX8_readAtom_154 : decode cX8_readAtom 154 = .ok (.aload_n 0, 1) := by decide +kernel
theorem dX8_readAtom_155 : decode cX8_readAtom 155 = .ok (.invokevirtual 128, 3) := by decide +kernel
theorem dX8_readAtom_158 : decode cX8_readAtom 158 = .ok (.ifCond .ne 5, 3) := by decide +kernel
theorem dX8_readAtom_161 : decode cX8_readAtom 161 = .ok (.iconst 0, 1) := by decide +kernel
theorem dX8_readAtom_162 : decode cX8_readAtom 162 = .ok (.ireturn, 1) := by decide +kernel
theorem dX8_readAtom_163 : decode cX8_readAtom 163 = .ok (.aload_n 0, 1) := by decide +kernel
theorem dX8_readAtom_164 : decode cX8_readAtom 164 = .ok (.iload_n 3, 1) := by decide +kernel
theorem dX8_readAtom_165 : decode cX8_readAtom 165 = .ok (.invokevirtual 121, 3) := by decide +kernel
theorem dX8_readAtom_168 : decode cX8_readAtom 168 = .ok (.iconst 1, 1) := by decide +kernel
theorem dX8_readAtom_169 : decode cX8_readAtom 169 = .ok (.ireturn, 1) := by decide +kernel
theorem dX8_readSum_0 : decode cX8_readSum 0 = .ok (.iconst 0, 1) := by decide +kernel
theorem dX8_readSum_1 : decode cX8_readSum 1 = .ok (.istore_n 1, 1) := by decide +kernel
theorem dX8_readSum_2 : decode cX8_readSum 2 = .ok (.iload_n 1, 1) := by decide +kernel
theorem dX8_readSum_3 : decode cX8_readSum 3 = .ok (.sipush 400, 3) := by decide +kernel
theorem dX8_readSum_6 : decode cX8_readSum 6 = .ok (.if_icmp .ge 59, 3) := by decide +kernel
theorem dX8_readSum_9 : decode cX8_readSum 9 = .ok (.aload_n 0, 1) := by decide +kernel
theorem dX8_readSum_10 : decode cX8_readSum 10 = .ok (.invokevirtual 55, 3) := by decide +kernel
theorem dX8_readSum_13 : decode cX8_readSum 13 = .ok (.istore_n 2, 1) := by decide +kernel
theorem dX8_readSum_14 : decode cX8_readSum 14 = .ok (.iload_n 2, 1) := by decide +kernel
theorem dX8_readSum_15 : decode cX8_readSum 15 = .ok (.sipush 1020, 3) := by decide +kernel
theorem dX8_readSum_18 : decode cX8_readSum 18 = .ok (.if_icmp .ge 11, 3) := by decide +kernel
theorem dX8_readSum_21 : decode cX8_readSum 21 = .ok (.aload_n 0, 1) := by decide +kernel
theorem dX8_readSum_22 : decode cX8_readSum 22 = .ok (.iload_n 2, 1) := by decide +kernel
theorem dX8_readSum_23 : decode cX8_readSum 23 = .ok (.invokevirtual 63, 3) := by decide +kernel
theorem dX8_readSum_26 : decode cX8_readSum 26 = .ok (.ifCond .ne 5, 3) := by decide +kernel
theorem dX8_readSum_29 : decode cX8_readSum 29 = .ok (.iconst 0, 1) := by decide +kernel
theorem dX8_readSum_30 : decode cX8_readSum 30 = .ok (.ireturn, 1) := by decide +kernel
theorem dX8_readSum_31 : decode cX8_readSum 31 = .ok (.aload_n 0, 1) := by decide +kernel
theorem dX8_readSum_32 : decode cX8_readSum 32 = .ok (.iload_n 2, 1) := by decide +kernel
theorem dX8_readSum_33 : decode cX8_readSum 33 = .ok (.invokevirtual 121, 3) := by decide +kernel
theorem dX8_readSum_36 : decode cX8_readSum 36 = .ok (.iload_n 1, 1) := by decide +kernel
theorem dX8_readSum_37 : decode cX8_readSum 37 = .ok (.ifCond .le 10, 3) := by decide +kernel
theorem dX8_readSum_40 : decode cX8_readSum 40 = .ok (.aload_n 0, 1) := by decide +kernel
theorem dX8_readSum_41 : decode cX8_readSum 41 = .ok (.sipush 1143, 3) := by decide +kernel
theorem dX8_readSum_44 : decode cX8_readSum 44 = .ok (.invokevirtual 121, 3) := by decide +kernel
theorem dX8_readSum_47 : decode cX8_readSum 47 = .ok (.aload_n 0, 1) := by decide +kernel
theorem dX8_readSum_48 : decode cX8_readSum 48 = .ok (.sipush 1143, 3) := by decide +kernel
theorem dX8_readSum_51 : decode cX8_readSum 51 = .ok (.invokevirtual 63, 3) := by decide +kernel
theorem dX8_readSum_54 : decode cX8_readSum 54 = .ok (.ifCond .ne 5, 3) := by decide +kernel
theorem dX8_readSum_57 : decode cX8_readSum 57 = .ok (.iconst 1, 1) := by decide +kernel
theorem dX8_readSum_58 : decode cX8_readSum 58 = .ok (.ireturn, 1) := by decide +kernel
theorem dX8_readSum_59 : decode cX8_readSum 59 = .ok (.iinc 1 1, 3) := by decide +kernel
theorem dX8_readSum_62 : decode cX8_readSum 62 = .ok (.goto (-60), 3) := by decide +kernel
theorem dX8_readSum_65 : decode cX8_readSum 65 = .ok (.iconst 0, 1) := by decide +kernel
theorem dX8_readSum_66 : decode cX8_readSum 66 = .ok (.ireturn, 1) := by decide +kernel
theorem dX9_init_0 : decode cX9_init 0 = .ok (.aload_n 0, 1) := by decide +kernel
theorem dX9_init_1 : decode cX9_init 1 = .ok (.invokespecial 3, 3) := by decide +kernel
theorem dX9_init_4 : decode cX9_init 4 = .ok (.aload_n 0, 1) := by decide +kernel
theorem dX9_init_5 : decode cX9_init 5 = .ok (.bipush 10, 2) := by decide +kernel
theorem dX9_init_7 : decode cX9_init 7 = .ok (.newarray .int, 2) := by decide +kernel
theorem dX9_init_9 : decode cX9_init 9 = .ok (.putfield 11, 3) := by decide +kernel
theorem dX9_init_12 : decode cX9_init 12 = .ok (.aload_n 0, 1) := by decide +kernel
theorem dX9_init_13 : decode cX9_init 13 = .ok (.bipush 20, 2) := by decide +kernel
theorem dX9_init_15 : decode cX9_init 15 = .ok (.newarray .int, 2) := by decide +kernel
theorem dX9_init_17 : decode cX9_init 17 = .ok (.putfield 15, 3) := by decide +kernel
theorem dX9_init_20 : decode cX9_init 20 = .ok (.return_, 1) := by decide +kernel
theorem dX9_tell_0 : decode cX9_tell 0 = .ok (.aload_n 1, 1) := by decide +kernel
theorem dX9_tell_1 : decode cX9_tell 1 = .ok (.ifnonnull 5, 3) := by decide +kernel
theorem dX9_tell_4 : decode cX9_tell 4 = .ok (.lconst 0, 1) := by decide +kernel
theorem dX9_tell_5 : decode cX9_tell 5 = .ok (.lreturn, 1) := by decide +kernel
theorem dX9_tell_6 : decode cX9_tell 6 = .ok (.lconst 0, 1) := by decide +kernel
theorem dX9_tell_7 : decode cX9_tell 7 = .ok (.lstore_n 2, 1) := by decide +kernel
theorem dX9_tell_8 : decode cX9_tell 8 = .ok (.iconst 0, 1) := by decide +kernel
theorem dX9_tell_9 : decode cX9_tell 9 = .ok (.istore 4, 2) := by decide +kernel
theorem dX9_tell_11 : decode cX9_tell 11 = .ok (.iconst 0, 1) := by decide +kernel
theorem dX9_tell_12 : decode cX9_tell 12 = .ok (.istore 5, 2) := by decide +kernel
theorem dX9_tell_14 : decode cX9_tell 14 = .ok (.iload 5, 2) := by decide +kernel
theorem dX9_tell_16 : decode cX9_tell 16 = .ok (.aload_n 1, 1) := by decide +kernel
theorem dX9_tell_17 : decode cX9_tell 17 = .ok (.getfield 18, 3) := by decide +kernel
theorem dX9_tell_20 : decode cX9_tell 20 = .ok (.arraylength, 1) := by decide +kernel
theorem dX9_tell_21 : decode cX9_tell 21 = .ok (.if_icmp .ge 82, 3) := by decide +kernel
theorem dX9_tell_24 : decode cX9_tell 24 = .ok (.aload_n 1, 1) := by decide +kernel
theorem dX9_tell_25 : decode cX9_tell 25 = .ok (.getfield 23, 3) := by decide +kernel
theorem dX9_tell_28 : decode cX9_tell 28 = .ok (.iload 5, 2) := by decide +kernel
theorem dX9_tell_30 : decode cX9_tell 30 = .ok (.iaload, 1) := by decide +kernel
theorem dX9_tell_31 : decode cX9_tell 31 = .ok (.istore 6, 2) := by decide +kernel
theorem dX9_tell_33 : decode cX9_tell 33 = .ok (.aload_n 0, 1) := by decide +kernel
theorem dX9_tell_34 : decode cX9_tell 34 = .ok (.aload_n 1, 1) := by decide +kernel
theorem dX9_tell_35 : decode cX9_tell 35 = .ok (.iload 4, 2) := by decide +kernel
theorem dX9_tell_37 : decode cX9_tell 37 = .ok (.iload 6, 2) := by decide +kernel
theorem dX9_tell_39 : decode cX9_tell 39 = .ok (.invokevirtual 26, 3) := by decide +kernel
theorem dX9_tell_42 : decode cX9_tell 42 = .ok (.ifCond .eq 51, 3) := by decide +kernel
theorem dX9_tell_45 : decode cX9_tell 45 = .ok (.aload_n 1, 1) := by decide +kernel
theorem dX9_tell_46 : decode cX9_tell 46 = .ok (.getfield 30, 3) := by decide +kernel
theorem dX9_tell_49 : decode cX9_tell 49 = .ok (.iload 5, 2) := by decide +kernel
theorem dX9_tell_51 : decode cX9_tell 51 = .ok (.iaload, 1) := by decide +kernel
theorem dX9_tell_52 : decode cX9_tell 52 = .ok (.istore 7, 2) := by decide +kernel
theorem dX9_tell_54 : decode cX9_tell 54 = .ok (.lload_n 2, 1) := by decide +kernel
theorem dX9_tell_55 : decode cX9_tell 55 = .ok (.aload_n 1, 1) := by decide +kernel
theorem dX9_tell_56 : decode cX9_tell 56 = .ok (.getfield 18, 3) := by decide +kernel
theorem dX9_tell_59 : decode cX9_tell 59 = .ok (.iload 5, 2) := by decide +kernel
theorem dX9_tell_61 : decode cX9_tell 61 = .ok (.iaload, 1) := by decide +kernel
theorem dX9_tell_62 : decode cX9_tell 62 = .ok (.i2l, 1) := by decide +kernel
theorem dX9_tell_63 : decode cX9_tell 63 = .ok (.iload 7, 2) := by decide +kernel
theorem dX9_tell_65 : decode cX9_tell 65 = .ok (.ifCond .lt 13, 3) := by decide +kernel
theorem dX9_tell_68 : decode cX9_tell 68 = .ok (.iload 7, 2) := by decide +kernel
theorem dX9_tell_70 : decode cX9_tell 70 = .ok (.aload_n 0, 1) := by decide +kernel
theorem dX9_tell_71 : decode cX9_tell 71 = .ok (.getfield 11, 3) := by decide +kernel
theorem dX9_tell_74 : decode cX9_tell 74 = .ok (.arraylength, 1) := by decide +kernel
theorem dX9_tell_75 : decode cX9_tell 75 = .ok (.if_icmp .lt 7, 3) := by decide +kernel
theorem dX9_tell_78 : decode cX9_tell 78 = .ok (.iconst 1, 1) := by decide +kernel
theorem dX9_tell_79 : decode cX9_tell 79 = .ok (.goto 10, 3) := by decide +kernel
theorem dX9_tell_82 : decode cX9_tell 82 = .ok (.aload_n 0, 1) := by decide +kernel
theorem dX9_tell_83 : decode cX9_tell 83 = .ok (.getfield 11, 3) := by decide +kernel
theorem dX9_tell_86 : decode cX9_tell 86 = .ok (.iload 7, 2) := by decide +kernel
theorem dX9_tell_88 : decode cX9_tell 88 = .ok (.iaload, 1) := by decide +kernel
theorem dX9_tell_89 : decode cX9_tell 89 = .ok (.i2l, 1) := by decide +kernel
theorem dX9_tell_90 : decode cX9_tell 90 = .ok (.lmul, 1) := by decide +kernel
theorem dX9_tell_91 : decode cX9_tell 91 = .ok (.ladd, 1) := by decide +kernel
theorem dX9_tell_92 : decode cX9_tell 92 = .ok (.lstore_n 2, 1) := by decide +kernel
theorem dX9_tell_93 : decode cX9_tell 93 = .ok (.iload 6, 2) := by decide +kernel
theorem dX9_tell_95 : decode cX9_tell 95 = .ok (.istore 4, 2) := by decide +kernel
theorem dX9_tell_97 : decode cX9_tell 97 = .ok (.iinc 5 1, 3) := by decide +kernel
theorem dX9_tell_100 : decode cX9_tell 100 = .ok (.goto (-86), 3) := by decide +kernel
theorem dX9_tell_103 : decode cX9_tell 103 = .ok (.lload_n 2, 1) := by decide +kernel
theorem dX9_tell_104 : decode cX9_tell 104 = .ok (.lreturn, 1) := by decide +kernel
theorem dX9_heldBy_0 : decode cX9_heldBy 0 = .ok (.aload_n 0, 1) := by decide +kernel
theorem dX9_heldBy_1 : decode cX9_heldBy 1 = .ok (.aload_n 1, 1) := by decide +kernel
theorem dX9_heldBy_2 : decode cX9_heldBy 2 = .ok (.invokevirtual 33, 3) := by decide +kernel
theorem dX9_heldBy_5 : decode cX9_heldBy 5 = .ok (.lstore_n 2, 1) := by decide +kernel
theorem dX9_heldBy_6 : decode cX9_heldBy 6 = .ok (.lload_n 2, 1) := by decide +kernel
theorem dX9_heldBy_7 : decode cX9_heldBy 7 = .ok (.lconst 0, 1) := by decide +kernel
theorem dX9_heldBy_8 : decode cX9_heldBy 8 = .ok (.lcmp, 1) := by decide +kernel
theorem dX9_heldBy_9 : decode cX9_heldBy 9 = .ok (.ifCond .ge 7, 3) := by decide +kernel
theorem dX9_heldBy_12 : decode cX9_heldBy 12 = .ok (.iconst 0, 1) := by decide +kernel
theorem dX9_heldBy_13 : decode cX9_heldBy 13 = .ok (.goto 18, 3) := by decide +kernel
theorem dX9_heldBy_16 : decode cX9_heldBy 16 = .ok (.lload_n 2, 1) := by decide +kernel
theorem dX9_heldBy_17 : decode cX9_heldBy 17 = .ok (.ldc2_w 37, 3) := by decide +kernel
theorem dX9_heldBy_20 : decode cX9_heldBy 20 = .ok (.lcmp, 1) := by decide +kernel
theorem dX9_heldBy_21 : decode cX9_heldBy 21 = .ok (.ifCond .le 8, 3) := by decide +kernel
theorem dX9_heldBy_24 : decode cX9_heldBy 24 = .ok (.bipush 100, 2) := by decide +kernel
theorem dX9_heldBy_26 : decode cX9_heldBy 26 = .ok (.goto 5, 3) := by decide +kernel
theorem dX9_heldBy_29 : decode cX9_heldBy 29 = .ok (.lload_n 2, 1) := by decide +kernel
theorem dX9_heldBy_30 : decode cX9_heldBy 30 = .ok (.l2i, 1) := by decide +kernel
theorem dX9_heldBy_31 : decode cX9_heldBy 31 = .ok (.ireturn, 1) := by decide +kernel
theorem dX9_scoreOf_0 : decode cX9_scoreOf 0 = .ok (.aload_n 0, 1) := by decide +kernel
theorem dX9_scoreOf_1 : decode cX9_scoreOf 1 = .ok (.getfield 11, 3) := by decide +kernel
theorem dX9_scoreOf_4 : decode cX9_scoreOf 4 = .ok (.iconst 0, 1) := by decide +kernel
theorem dX9_scoreOf_5 : decode cX9_scoreOf 5 = .ok (.iload_n 2, 1) := by decide +kernel
theorem dX9_scoreOf_6 : decode cX9_scoreOf 6 = .ok (.iastore, 1) := by decide +kernel
theorem dX9_scoreOf_7 : decode cX9_scoreOf 7 = .ok (.aload_n 0, 1) := by decide +kernel
theorem dX9_scoreOf_8 : decode cX9_scoreOf 8 = .ok (.getfield 11, 3) := by decide +kernel
theorem dX9_scoreOf_11 : decode cX9_scoreOf 11 = .ok (.iconst 1, 1) := by decide +kernel
theorem dX9_scoreOf_12 : decode cX9_scoreOf 12 = .ok (.iload 4, 2) := by decide +kernel
theorem dX9_scoreOf_14 : decode cX9_scoreOf 14 = .ok (.iload_n 2, 1) := by decide +kernel
theorem dX9_scoreOf_15 : decode cX9_scoreOf 15 = .ok (.isub, 1) := by decide +kernel
theorem dX9_scoreOf_16 : decode cX9_scoreOf 16 = .ok (.iload_n 3, 1) := by decide +kernel
theorem dX9_scoreOf_17 : decode cX9_scoreOf 17 = .ok (.isub, 1) := by decide +kernel
theorem dX9_scoreOf_18 : decode cX9_scoreOf 18 = .ok (.iastore, 1) := by decide +kernel
theorem dX9_scoreOf_19 : decode cX9_scoreOf 19 = .ok (.aload_n 0, 1) := by decide +kernel
theorem dX9_scoreOf_20 : decode cX9_scoreOf 20 = .ok (.getfield 11, 3) := by decide +kernel
theorem dX9_scoreOf_23 : decode cX9_scoreOf 23 = .ok (.iconst 2, 1) := by decide +kernel
theorem dX9_scoreOf_24 : decode cX9_scoreOf 24 = .ok (.iload_n 3, 1) := by decide +kernel
theorem dX9_scoreOf_25 : decode cX9_scoreOf 25 = .ok (.iastore, 1) := by decide +kernel
theorem dX9_scoreOf_26 : decode cX9_scoreOf 26 = .ok (.aload_n 0, 1) := by decide +kernel
theorem dX9_scoreOf_27 : decode cX9_scoreOf 27 = .ok (.getfield 11, 3) := by decide +kernel
theorem dX9_scoreOf_30 : decode cX9_scoreOf 30 = .ok (.iconst 3, 1) := by decide +kernel
theorem dX9_scoreOf_31 : decode cX9_scoreOf 31 = .ok (.iload 4, 2) := by decide +kernel
theorem dX9_scoreOf_33 : decode cX9_scoreOf 33 = .ok (.iastore, 1) := by decide +kernel
theorem dX9_scoreOf_34 : decode cX9_scoreOf 34 = .ok (.aload_n 0, 1) := by decide +kernel
theorem dX9_scoreOf_35 : decode cX9_scoreOf 35 = .ok (.getfield 11, 3) := by decide +kernel
theorem dX9_scoreOf_38 : decode cX9_scoreOf 38 = .ok (.iconst 4, 1) := by decide +kernel
theorem dX9_scoreOf_39 : decode cX9_scoreOf 39 = .ok (.iload_n 2, 1) := by decide +kernel
theorem dX9_scoreOf_40 : decode cX9_scoreOf 40 = .ok (.iload 4, 2) := by decide +kernel
theorem dX9_scoreOf_42 : decode cX9_scoreOf 42 = .ok (.if_icmp .ne 7, 3) := by decide +kernel
theorem dX9_scoreOf_45 : decode cX9_scoreOf 45 = .ok (.iconst 1, 1) := by decide +kernel
theorem dX9_scoreOf_46 : decode cX9_scoreOf 46 = .ok (.goto 4, 3) := by decide +kernel
theorem dX9_scoreOf_49 : decode cX9_scoreOf 49 = .ok (.iconst 0, 1) := by decide +kernel
theorem dX9_scoreOf_50 : decode cX9_scoreOf 50 = .ok (.iastore, 1) := by decide +kernel
theorem dX9_scoreOf_51 : decode cX9_scoreOf 51 = .ok (.aload_n 0, 1) := by decide +kernel
theorem dX9_scoreOf_52 : decode cX9_scoreOf 52 = .ok (.aload_n 1, 1) := by decide +kernel
theorem dX9_scoreOf_53 : decode cX9_scoreOf 53 = .ok (.invokevirtual 33, 3) := by decide +kernel
theorem dX9_scoreOf_56 : decode cX9_scoreOf 56 = .ok (.lreturn, 1) := by decide +kernel
theorem dX9_isMet_0 : decode cX9_isMet 0 = .ok (.iconst 0, 1) := by decide +kernel
theorem dX9_isMet_1 : decode cX9_isMet 1 = .ok (.istore 4, 2) := by decide +kernel
theorem dX9_isMet_3 : decode cX9_isMet 3 = .ok (.iload_n 2, 1) := by decide +kernel
theorem dX9_isMet_4 : decode cX9_isMet 4 = .ok (.istore 5, 2) := by decide +kernel
theorem dX9_isMet_6 : decode cX9_isMet 6 = .ok (.iload 5, 2) := by decide +kernel
theorem dX9_isMet_8 : decode cX9_isMet 8 = .ok (.iload_n 3, 1) := by decide +kernel
theorem dX9_isMet_9 : decode cX9_isMet 9 = .ok (.if_icmp .ge 301, 3) := by decide +kernel
theorem dX9_isMet_12 : decode cX9_isMet 12 = .ok (.iload 5, 2) := by decide +kernel
theorem dX9_isMet_14 : decode cX9_isMet 14 = .ok (.aload_n 1, 1) := by decide +kernel
theorem dX9_isMet_15 : decode cX9_isMet 15 = .ok (.getfield 39, 3) := by decide +kernel
theorem dX9_isMet_18 : decode cX9_isMet 18 = .ok (.arraylength, 1) := by decide +kernel
theorem dX9_isMet_19 : decode cX9_isMet 19 = .ok (.if_icmp .ge 291, 3) := by decide +kernel
theorem dX9_isMet_22 : decode cX9_isMet 22 = .ok (.aload_n 1, 1) := by decide +kernel
theorem dX9_isMet_23 : decode cX9_isMet 23 = .ok (.getfield 39, 3) := by decide +kernel
theorem dX9_isMet_26 : decode cX9_isMet 26 = .ok (.iload 5, 2) := by decide +kernel
theorem dX9_isMet_28 : decode cX9_isMet 28 = .ok (.iaload, 1) := by decide +kernel
theorem dX9_isMet_29 : decode cX9_isMet 29 = .ok (.istore 6, 2) := by decide +kernel
theorem dX9_isMet_31 : decode cX9_isMet 31 = .ok (.iload 6, 2) := by decide +kernel
theorem dX9_isMet_33 : decode cX9_isMet 33 = .ok (.sipush 1040, 3) := by decide +kernel
theorem dX9_isMet_36 : decode cX9_isMet 36 = .ok (.if_icmp .ge 61, 3) := by decide +kernel
theorem dX9_isMet_39 : decode cX9_isMet 39 = .ok (.iload 4, 2) := by decide +kernel
theorem dX9_isMet_41 : decode cX9_isMet 41 = .ok (.aload_n 0, 1) := by decide +kernel
theorem dX9_isMet_42 : decode cX9_isMet 42 = .ok (.getfield 15, 3) := by decide +kernel
theorem dX9_isMet_45 : decode cX9_isMet 45 = .ok (.arraylength, 1) := by decide +kernel
theorem dX9_isMet_46 : decode cX9_isMet 46 = .ok (.if_icmp .ge 258, 3) := by decide +kernel
theorem dX9_isMet_49 : decode cX9_isMet 49 = .ok (.iload 6, 2) := by decide +kernel
theorem dX9_isMet_51 : decode cX9_isMet 51 = .ok (.sipush 1000, 3) := by decide +kernel
theorem dX9_isMet_54 : decode cX9_isMet 54 = .ok (.isub, 1) := by decide +kernel
theorem dX9_isMet_55 : decode cX9_isMet 55 = .ok (.istore 7, 2) := by decide +kernel
theorem dX9_isMet_57 : decode cX9_isMet 57 = .ok (.aload_n 0, 1) := by decide +kernel
theorem dX9_isMet_58 : decode cX9_isMet 58 = .ok (.getfield 15, 3) := by decide +kernel
theorem dX9_isMet_61 : decode cX9_isMet 61 = .ok (.iload 4, 2) := by decide +kernel
theorem dX9_isMet_63 : decode cX9_isMet 63 = .ok (.iload 7, 2) := by decide +kernel
theorem dX9_isMet_65 : decode cX9_isMet 65 = .ok (.ifCond .lt 13, 3) := by decide +kernel
theorem dX9_isMet_68 : decode cX9_isMet 68 = .ok (.iload 7, 2) := by decide +kernel
theorem dX9_isMet_70 : decode cX9_isMet 70 = .ok (.aload_n 0, 1) := by decide +kernel
theorem dX9_isMet_71 : decode cX9_isMet 71 = .ok (.getfield 11, 3) := by decide +kernel
theorem dX9_isMet_74 : decode cX9_isMet 74 = .ok (.arraylength, 1) := by decide +kernel
theorem dX9_isMet_75 : decode cX9_isMet 75 = .ok (.if_icmp .lt 8, 3) := by decide +kernel
theorem dX9_isMet_78 : decode cX9_isMet 78 = .ok (.iload 6, 2) := by decide +kernel
theorem dX9_isMet_80 : decode cX9_isMet 80 = .ok (.goto 10, 3) := by decide +kernel
theorem dX9_isMet_83 : decode cX9_isMet 83 = .ok (.aload_n 0, 1) := by decide +kernel
theorem dX9_isMet_84 : decode cX9_isMet 84 = .ok (.getfield 11, 3) := by decide +kernel
theorem dX9_isMet_87 : decode cX9_isMet 87 = .ok (.iload 7, 2) := by decide +kernel
theorem dX9_isMet_89 : decode cX9_isMet 89 = .ok (.iaload, 1) := by decide +kernel
theorem dX9_isMet_90 : decode cX9_isMet 90 = .ok (.iastore, 1) := by decide +kernel
theorem dX9_isMet_91 : decode cX9_isMet 91 = .ok (.iinc 4 1, 3) := by decide +kernel
theorem dX9_isMet_94 : decode cX9_isMet 94 = .ok (.goto 210, 3) := by decide +kernel
theorem dX9_isMet_97 : decode cX9_isMet 97 = .ok (.iload 6, 2) := by decide +kernel
theorem dX9_isMet_99 : decode cX9_isMet 99 = .ok (.sipush 1045, 3) := by decide +kernel
theorem dX9_isMet_102 : decode cX9_isMet 102 = .ok (.if_icmp .ne 32, 3) := by decide +kernel
theorem dX9_isMet_105 : decode cX9_isMet 105 = .ok (.iload 4, 2) := by decide +kernel
theorem dX9_isMet_107 : decode cX9_isMet 107 = .ok (.iconst 1, 1) := by decide +kernel
theorem dX9_isMet_108 : decode cX9_isMet 108 = .ok (.if_icmp .lt 196, 3) := by decide +kernel
theorem dX9_isMet_111 : decode cX9_isMet 111 = .ok (.aload_n 0, 1) := by decide +kernel
theorem dX9_isMet_112 : decode cX9_isMet 112 = .ok (.getfield 15, 3) := by decide +kernel
theorem dX9_isMet_115 : decode cX9_isMet 115 = .ok (.iload 4, 2) := by decide +kernel
theorem dX9_isMet_117 : decode cX9_isMet 117 = .ok (.iconst 1, 1) := by decide +kernel
theorem dX9_isMet_118 : decode cX9_isMet 118 = .ok (.isub, 1) := by decide +kernel
theorem dX9_isMet_119 : decode cX9_isMet 119 = .ok (.iconst 1, 1) := by decide +kernel
theorem dX9_isMet_120 : decode cX9_isMet 120 = .ok (.aload_n 0, 1) := by decide +kernel
theorem dX9_isMet_121 : decode cX9_isMet 121 = .ok (.getfield 15, 3) := by decide +kernel
theorem dX9_isMet_124 : decode cX9_isMet 124 = .ok (.iload 4, 2) := by decide +kernel
theorem dX9_isMet_126 : decode cX9_isMet 126 = .ok (.iconst 1, 1) := by decide +kernel
theorem dX9_isMet_127 : decode cX9_isMet 127 = .ok (.isub, 1) := by decide +kernel
theorem dX9_isMet_128 : decode cX9_isMet 128 = .ok (.iaload, 1) := by decide +kernel
theorem dX9_isMet_129 : decode cX9_isMet 129 = .ok (.isub, 1) := by decide +kernel
theorem dX9_isMet_130 : decode cX9_isMet 130 = .ok (.iastore, 1) := by decide +kernel
theorem dX9_isMet_131 : decode cX9_isMet 131 = .ok (.goto 173, 3) := by decide +kernel
theorem dX9_isMet_134 : decode cX9_isMet 134 = .ok (.iload 4, 2) := by decide +kernel
theorem dX9_isMet_136 : decode cX9_isMet 136 = .ok (.iconst 2, 1) := by decide +kernel
theorem dX9_isMet_137 : decode cX9_isMet 137 = .ok (.if_icmp .lt 167, 3) := by decide +kernel
theorem dX9_isMet_140 : decode cX9_isMet 140 = .ok (.iinc 4 (-1), 3) := by decide +kernel
theorem dX9_isMet_143 : decode cX9_isMet 143 = .ok (.aload_n 0, 1) := by decide +kernel
theorem dX9_isMet_144 : decode cX9_isMet 144 = .ok (.getfield 15, 3) := by decide +kernel
theorem dX9_isMet_147 : decode cX9_isMet 147 = .ok (.iload 4, 2) := by decide +kernel
theorem dX9_isMet_149 : decode cX9_isMet 149 = .ok (.iconst 1, 1) := by decide +kernel
theorem dX9_isMet_150 : decode cX9_isMet 150 = .ok (.isub, 1) := by decide +kernel
theorem dX9_isMet_151 : decode cX9_isMet 151 = .ok (.iaload, 1) := by decide +kernel
theorem dX9_isMet_152 : decode cX9_isMet 152 = .ok (.istore 7, 2) := by decide +kernel
theorem dX9_isMet_154 : decode cX9_isMet 154 = .ok (.aload_n 0, 1) := by decide +kernel
theorem dX9_isMet_155 : decode cX9_isMet 155 = .ok (.getfield 15, 3) := by decide +kernel
theorem dX9_isMet_158 : decode cX9_isMet 158 = .ok (.iload 4, 2) := by decide +kernel
theorem dX9_isMet_160 : decode cX9_isMet 160 = .ok (.iaload, 1) := by decide +kernel
theorem dX9_isMet_161 : decode cX9_isMet 161 = .ok (.istore 8, 2) := by decide +kernel
theorem dX9_isMet_163 : decode cX9_isMet 163 = .ok (.iload 6, 2) := by decide +kernel
theorem dX9_isMet_165 : decode cX9_isMet 165 = .ok (.lookupswitch 118 #[(1043, 43), (1044, 60), (1143, 77), (1160, 94)], 43) := by decide +kernel
theorem dX9_isMet_208 : decode cX9_isMet 208 = .ok (.aload_n 0, 1) := by decide +kernel
theorem dX9_isMet_209 : decode cX9_isMet 209 = .ok (.getfield 15, 3) := by decide +kernel
theorem dX9_isMet_212 : decode cX9_isMet 212 = .ok (.iload 4, 2) := by decide +kernel
theorem dX9_isMet_214 : decode cX9_isMet 214 = .ok (.iconst 1, 1) := by decide +kernel
theorem dX9_isMet_215 : decode cX9_isMet 215 = .ok (.isub, 1) := by decide +kernel
theorem dX9_isMet_216 : decode cX9_isMet 216 = .ok (.iload 7, 2) := by decide +kernel
theorem dX9_isMet_218 : decode cX9_isMet 218 = .ok (.iload 8, 2) := by decide +kernel
theorem dX9_isMet_220 : decode cX9_isMet 220 = .ok (.iand, 1) := by decide +kernel
theorem dX9_isMet_221 : decode cX9_isMet 221 = .ok (.iastore, 1) := by decide +kernel
theorem dX9_isMet_222 : decode cX9_isMet 222 = .ok (.goto 82, 3) := by decide +kernel
theorem dX9_isMet_225 : decode cX9_isMet 225 = .ok (.aload_n 0, 1) := by decide +kernel
theorem dX9_isMet_226 : decode cX9_isMet 226 = .ok (.getfield 15, 3) := by decide +kernel
theorem dX9_isMet_229 : decode cX9_isMet 229 = .ok (.iload 4, 2) := by decide +kernel
theorem dX9_isMet_231 : decode cX9_isMet 231 = .ok (.iconst 1, 1) := by decide +kernel
theorem dX9_isMet_232 : decode cX9_isMet 232 = .ok (.isub, 1) := by decide +kernel
theorem dX9_isMet_233 : decode cX9_isMet 233 = .ok (.iload 7, 2) := by decide +kernel
theorem dX9_isMet_235 : decode cX9_isMet 235 = .ok (.iload 8, 2) := by decide +kernel
theorem dX9_isMet_237 : decode cX9_isMet 237 = .ok (.ior, 1) := by decide +kernel
theorem dX9_isMet_238 : decode cX9_isMet 238 = .ok (.iastore, 1) := by decide +kernel
theorem dX9_isMet_239 : decode cX9_isMet 239 = .ok (.goto 65, 3) := by decide +kernel
theorem dX9_isMet_242 : decode cX9_isMet 242 = .ok (.aload_n 0, 1) := by decide +kernel
theorem dX9_isMet_243 : decode cX9_isMet 243 = .ok (.getfield 15, 3) := by decide +kernel
theorem dX9_isMet_246 : decode cX9_isMet 246 = .ok (.iload 4, 2) := by decide +kernel
theorem dX9_isMet_248 : decode cX9_isMet 248 = .ok (.iconst 1, 1) := by decide +kernel
theorem dX9_isMet_249 : decode cX9_isMet 249 = .ok (.isub, 1) := by decide +kernel
theorem dX9_isMet_250 : decode cX9_isMet 250 = .ok (.iload 7, 2) := by decide +kernel
theorem dX9_isMet_252 : decode cX9_isMet 252 = .ok (.iload 8, 2) := by decide +kernel
theorem dX9_isMet_254 : decode cX9_isMet 254 = .ok (.iadd, 1) := by decide +kernel
theorem dX9_isMet_255 : decode cX9_isMet 255 = .ok (.iastore, 1) := by decide +kernel
theorem dX9_isMet_256 : decode cX9_isMet 256 = .ok (.goto 48, 3) := by decide +kernel
theorem dX9_isMet_259 : decode cX9_isMet 259 = .ok (.aload_n 0, 1) := by decide +kernel
theorem dX9_isMet_260 : decode cX9_isMet 260 = .ok (.getfield 15, 3) := by decide +kernel
theorem dX9_isMet_263 : decode cX9_isMet 263 = .ok (.iload 4, 2) := by decide +kernel
theorem dX9_isMet_265 : decode cX9_isMet 265 = .ok (.iconst 1, 1) := by decide +kernel
theorem dX9_isMet_266 : decode cX9_isMet 266 = .ok (.isub, 1) := by decide +kernel
theorem dX9_isMet_267 : decode cX9_isMet 267 = .ok (.iload 7, 2) := by decide +kernel
theorem dX9_isMet_269 : decode cX9_isMet 269 = .ok (.iload 8, 2) := by decide +kernel
theorem dX9_isMet_271 : decode cX9_isMet 271 = .ok (.if_icmp .ge 7, 3) := by decide +kernel
theorem dX9_isMet_274 : decode cX9_isMet 274 = .ok (.iconst 1, 1) := by decide +kernel
theorem dX9_isMet_275 : decode cX9_isMet 275 = .ok (.goto 4, 3) := by decide +kernel
theorem dX9_isMet_278 : decode cX9_isMet 278 = .ok (.iconst 0, 1) := by decide +kernel
theorem dX9_isMet_279 : decode cX9_isMet 279 = .ok (.iastore, 1) := by decide +kernel
theorem dX9_isMet_280 : decode cX9_isMet 280 = .ok (.goto 24, 3) := by decide +kernel
theorem dX9_isMet_283 : decode cX9_isMet 283 = .ok (.aload_n 0, 1) := by decide +kernel
theorem dX9_isMet_284 : decode cX9_isMet 284 = .ok (.getfield 15, 3) := by decide +kernel
theorem dX9_isMet_287 : decode cX9_isMet 287 = .ok (.iload 4, 2) := by decide +kernel
theorem dX9_isMet_289 : decode cX9_isMet 289 = .ok (.iconst 1, 1) := by decide +kernel
theorem dX9_isMet_290 : decode cX9_isMet 290 = .ok (.isub, 1) := by decide +kernel
theorem dX9_isMet_291 : decode cX9_isMet 291 = .ok (.iload 7, 2) := by decide +kernel
theorem dX9_isMet_293 : decode cX9_isMet 293 = .ok (.iload 8, 2) := by decide +kernel
theorem dX9_isMet_295 : decode cX9_isMet 295 = .ok (.if_icmp .le 7, 3) := by decide +kernel
theorem dX9_isMet_298 : decode cX9_isMet 298 = .ok (.iconst 1, 1) := by decide +kernel
theorem dX9_isMet_299 : decode cX9_isMet 299 = .ok (.goto 4, 3) := by decide +kernel
theorem dX9_isMet_302 : decode cX9_isMet 302 = .ok (.iconst 0, 1) := by decide +kernel
theorem dX9_isMet_303 : decode cX9_isMet 303 = .ok (.iastore, 1) := by decide +kernel
theorem dX9_isMet_304 : decode cX9_isMet 304 = .ok (.iinc 5 1, 3) := by decide +kernel
theorem dX9_isMet_307 : decode cX9_isMet 307 = .ok (.goto (-301), 3) := by decide +kernel
theorem dX9_isMet_310 : decode cX9_isMet 310 = .ok (.iload 4, 2) := by decide +kernel
theorem dX9_isMet_312 : decode cX9_isMet 312 = .ok (.ifCond .eq 12, 3) := by decide +kernel
theorem dX9_isMet_315 : decode cX9_isMet 315 = .ok (.aload_n 0, 1) := by decide +kernel
theorem dX9_isMet_316 : decode cX9_isMet 316 = .ok (.getfield 15, 3) := by decide +kernel
theorem dX9_isMet_319 : decode cX9_isMet 319 = .ok (.iconst 0, 1) := by decide +kernel
theorem dX9_isMet_320 : decode cX9_isMet 320 = .ok (.iaload, 1) := by decide +kernel
theorem dX9_isMet_321 : decode cX9_isMet 321 = .ok (.ifCond .eq 7, 3) := by decide +kernel
theorem dX9_isMet_324 : decode cX9_isMet 324 = .ok (.iconst 1, 1) := by decide +kernel
theorem dX9_isMet_325 : decode cX9_isMet 325 = .ok (.goto 4, 3) := by decide +kernel
theorem dX9_isMet_328 : decode cX9_isMet 328 = .ok (.iconst 0, 1) := by decide +kernel
theorem dX9_isMet_329 : decode cX9_isMet 329 = .ok (.ireturn, 1) := by decide +kernel
theorem dX10_init_0 : decode cX10_init 0 = .ok (.aload_n 0, 1) := by decide +kernel
theorem dX10_init_1 : decode cX10_init 1 = .ok (.invokespecial 1, 3) := by decide +kernel
theorem dX10_init_4 : decode cX10_init 4 = .ok (.aload_n 0, 1) := by decide +kernel
theorem dX10_init_5 : decode cX10_init 5 = .ok (.aload_n 1, 1) := by decide +kernel
theorem dX10_init_6 : decode cX10_init 6 = .ok (.putfield 7, 3) := by decide +kernel
theorem dX10_init_9 : decode cX10_init 9 = .ok (.aload_n 0, 1) := by decide +kernel
theorem dX10_init_10 : decode cX10_init 10 = .ok (.aload_n 2, 1) := by decide +kernel
theorem dX10_init_11 : decode cX10_init 11 = .ok (.putfield 13, 3) := by decide +kernel
theorem dX10_init_14 : decode cX10_init 14 = .ok (.aload_n 0, 1) := by decide +kernel
theorem dX10_init_15 : decode cX10_init 15 = .ok (.aload_n 3, 1) := by decide +kernel
theorem dX10_init_16 : decode cX10_init 16 = .ok (.putfield 16, 3) := by decide +kernel
theorem dX10_init_19 : decode cX10_init 19 = .ok (.aload_n 0, 1) := by decide +kernel
theorem dX10_init_20 : decode cX10_init 20 = .ok (.aload 4, 2) := by decide +kernel
theorem dX10_init_22 : decode cX10_init 22 = .ok (.putfield 19, 3) := by decide +kernel
theorem dX10_init_25 : decode cX10_init 25 = .ok (.return_, 1) := by decide +kernel
theorem dX11_init_0 : decode cX11_init 0 = .ok (.aload_n 0, 1) := by decide +kernel
theorem dX11_init_1 : decode cX11_init 1 = .ok (.invokespecial 1, 3) := by decide +kernel
theorem dX11_init_4 : decode cX11_init 4 = .ok (.aload_n 0, 1) := by decide +kernel
theorem dX11_init_5 : decode cX11_init 5 = .ok (.new 7, 3) := by decide +kernel
theorem dX11_init_8 : decode cX11_init 8 = .ok (.dup, 1) := by decide +kernel
theorem dX11_init_9 : decode cX11_init 9 = .ok (.invokespecial 9, 3) := by decide +kernel
theorem dX11_init_12 : decode cX11_init 12 = .ok (.putfield 10, 3) := by decide +kernel
theorem dX11_init_15 : decode cX11_init 15 = .ok (.aload_n 0, 1) := by decide +kernel
theorem dX11_init_16 : decode cX11_init 16 = .ok (.new 16, 3) := by decide +kernel
theorem dX11_init_19 : decode cX11_init 19 = .ok (.dup, 1) := by decide +kernel
theorem dX11_init_20 : decode cX11_init 20 = .ok (.invokespecial 18, 3) := by decide +kernel
theorem dX11_init_23 : decode cX11_init 23 = .ok (.putfield 19, 3) := by decide +kernel
theorem dX11_init_26 : decode cX11_init 26 = .ok (.aload_n 0, 1) := by decide +kernel
theorem dX11_init_27 : decode cX11_init 27 = .ok (.new 23, 3) := by decide +kernel
theorem dX11_init_30 : decode cX11_init 30 = .ok (.dup, 1) := by decide +kernel
theorem dX11_init_31 : decode cX11_init 31 = .ok (.invokespecial 25, 3) := by decide +kernel
theorem dX11_init_34 : decode cX11_init 34 = .ok (.putfield 26, 3) := by decide +kernel
theorem dX11_init_37 : decode cX11_init 37 = .ok (.aload_n 0, 1) := by decide +kernel
theorem dX11_init_38 : decode cX11_init 38 = .ok (.new 30, 3) := by decide +kernel
theorem dX11_init_41 : decode cX11_init 41 = .ok (.dup, 1) := by decide +kernel
theorem dX11_init_42 : decode cX11_init 42 = .ok (.aload_n 0, 1) := by decide +kernel
theorem dX11_init_43 : decode cX11_init 43 = .ok (.getfield 19, 3) := by decide +kernel
theorem dX11_init_46 : decode cX11_init 46 = .ok (.aload_n 0, 1) := by decide +kernel
theorem dX11_init_47 : decode cX11_init 47 = .ok (.getfield 26, 3) := by decide +kernel
theorem dX11_init_50 : decode cX11_init 50 = .ok (.invokespecial 32, 3) := by decide +kernel
theorem dX11_init_53 : decode cX11_init 53 = .ok (.putfield 35, 3) := by decide +kernel
theorem dX11_init_56 : decode cX11_init 56 = .ok (.aload_n 0, 1) := by decide +kernel
theorem dX11_init_57 : decode cX11_init 57 = .ok (.new 39, 3) := by decide +kernel
theorem dX11_init_60 : decode cX11_init 60 = .ok (.dup, 1) := by decide +kernel
theorem dX11_init_61 : decode cX11_init 61 = .ok (.aload_n 0, 1) := by decide +kernel
theorem dX11_init_62 : decode cX11_init 62 = .ok (.getfield 19, 3) := by decide +kernel
theorem dX11_init_65 : decode cX11_init 65 = .ok (.invokespecial 41, 3) := by decide +kernel
theorem dX11_init_68 : decode cX11_init 68 = .ok (.putfield 44, 3) := by decide +kernel
theorem dX11_init_71 : decode cX11_init 71 = .ok (.aload_n 0, 1) := by decide +kernel
theorem dX11_init_72 : decode cX11_init 72 = .ok (.new 48, 3) := by decide +kernel
theorem dX11_init_75 : decode cX11_init 75 = .ok (.dup, 1) := by decide +kernel
theorem dX11_init_76 : decode cX11_init 76 = .ok (.aload_n 0, 1) := by decide +kernel
theorem dX11_init_77 : decode cX11_init 77 = .ok (.getfield 26, 3) := by decide +kernel
theorem dX11_init_80 : decode cX11_init 80 = .ok (.invokespecial 50, 3) := by decide +kernel
theorem dX11_init_83 : decode cX11_init 83 = .ok (.putfield 53, 3) := by decide +kernel
theorem dX11_init_86 : decode cX11_init 86 = .ok (.aload_n 0, 1) := by decide +kernel
theorem dX11_init_87 : decode cX11_init 87 = .ok (.new 57, 3) := by decide +kernel
theorem dX11_init_90 : decode cX11_init 90 = .ok (.dup, 1) := by decide +kernel
theorem dX11_init_91 : decode cX11_init 91 = .ok (.invokespecial 59, 3) := by decide +kernel
theorem dX11_init_94 : decode cX11_init 94 = .ok (.putfield 60, 3) := by decide +kernel
theorem dX11_init_97 : decode cX11_init 97 = .ok (.aload_n 0, 1) := by decide +kernel
theorem dX11_init_98 : decode cX11_init 98 = .ok (.new 64, 3) := by decide +kernel
theorem dX11_init_101 : decode cX11_init 101 = .ok (.dup, 1) := by decide +kernel
theorem dX11_init_102 : decode cX11_init 102 = .ok (.aload_n 0, 1) := by decide +kernel
theorem dX11_init_103 : decode cX11_init 103 = .ok (.getfield 19, 3) := by decide +kernel
theorem dX11_init_106 : decode cX11_init 106 = .ok (.aload_n 0, 1) := by decide +kernel
theorem dX11_init_107 : decode cX11_init 107 = .ok (.getfield 35, 3) := by decide +kernel
theorem dX11_init_110 : decode cX11_init 110 = .ok (.invokespecial 66, 3) := by decide +kernel
theorem dX11_init_113 : decode cX11_init 113 = .ok (.putfield 69, 3) := by decide +kernel
theorem dX11_init_116 : decode cX11_init 116 = .ok (.aload_n 0, 1) := by decide +kernel
theorem dX11_init_117 : decode cX11_init 117 = .ok (.aconst_null, 1) := by decide +kernel
theorem dX11_init_118 : decode cX11_init 118 = .ok (.putfield 73, 3) := by decide +kernel
theorem dX11_init_121 : decode cX11_init 121 = .ok (.return_, 1) := by decide +kernel
theorem dX11_feed_0 : decode cX11_feed 0 = .ok (.aload_n 0, 1) := by decide +kernel
theorem dX11_feed_1 : decode cX11_feed 1 = .ok (.getfield 10, 3) := by decide +kernel
theorem dX11_feed_4 : decode cX11_feed 4 = .ok (.invokevirtual 76, 3) := by decide +kernel
theorem dX11_feed_7 : decode cX11_feed 7 = .ok (.ifCond .ne 5, 3) := by decide +kernel
theorem dX11_feed_10 : decode cX11_feed 10 = .ok (.iconst (-1), 1) := by decide +kernel
theorem dX11_feed_11 : decode cX11_feed 11 = .ok (.ireturn, 1) := by decide +kernel
theorem dX11_feed_12 : decode cX11_feed 12 = .ok (.aload_n 0, 1) := by decide +kernel
theorem dX11_feed_13 : decode cX11_feed 13 = .ok (.getfield 10, 3) := by decide +kernel
theorem dX11_feed_16 : decode cX11_feed 16 = .ok (.iload_n 1, 1) := by decide +kernel
theorem dX11_feed_17 : decode cX11_feed 17 = .ok (.invokevirtual 80, 3) := by decide +kernel
theorem dX11_feed_20 : decode cX11_feed 20 = .ok (.aload_n 0, 1) := by decide +kernel
theorem dX11_feed_21 : decode cX11_feed 21 = .ok (.getfield 10, 3) := by decide +kernel
theorem dX11_feed_24 : decode cX11_feed 24 = .ok (.iload_n 2, 1) := by decide +kernel
theorem dX11_feed_25 : decode cX11_feed 25 = .ok (.invokevirtual 80, 3) := by decide +kernel
theorem dX11_feed_28 : decode cX11_feed 28 = .ok (.aload_n 0, 1) := by decide +kernel
theorem dX11_feed_29 : decode cX11_feed 29 = .ok (.getfield 10, 3) := by decide +kernel
theorem dX11_feed_32 : decode cX11_feed 32 = .ok (.iload_n 3, 1) := by decide +kernel
theorem dX11_feed_33 : decode cX11_feed 33 = .ok (.invokevirtual 80, 3) := by decide +kernel
theorem dX11_feed_36 : decode cX11_feed 36 = .ok (.aload_n 0, 1) := by decide +kernel
theorem dX11_feed_37 : decode cX11_feed 37 = .ok (.getfield 10, 3) := by decide +kernel
theorem dX11_feed_40 : decode cX11_feed 40 = .ok (.iload 4, 2) := by decide +kernel
theorem dX11_feed_42 : decode cX11_feed 42 = .ok (.invokevirtual 80, 3) := by decide +kernel
theorem dX11_feed_45 : decode cX11_feed 45 = .ok (.aload_n 0, 1) := by decide +kernel
theorem dX11_feed_46 : decode cX11_feed 46 = .ok (.getfield 10, 3) := by decide +kernel
theorem dX11_feed_49 : decode cX11_feed 49 = .ok (.iload 5, 2) := by decide +kernel
theorem dX11_feed_51 : decode cX11_feed 51 = .ok (.invokevirtual 80, 3) := by decide +kernel
theorem dX11_feed_54 : decode cX11_feed 54 = .ok (.aload_n 0, 1) := by decide +kernel
theorem dX11_feed_55 : decode cX11_feed 55 = .ok (.getfield 10, 3) := by decide +kernel
theorem dX11_feed_58 : decode cX11_feed 58 = .ok (.getfield 84, 3) := by decide +kernel
theorem dX11_feed_61 : decode cX11_feed 61 = .ok (.ireturn, 1) := by decide +kernel
theorem dX11_end_0 : decode cX11_end 0 = .ok (.iload_n 1, 1) := by decide +kernel
theorem dX11_end_1 : decode cX11_end 1 = .ok (.ifCond .lt 14, 3) := by decide +kernel
theorem dX11_end_4 : decode cX11_end 4 = .ok (.iload_n 1, 1) := by decide +kernel
theorem dX11_end_5 : decode cX11_end 5 = .ok (.aload_n 0, 1) := by decide +kernel
theorem dX11_end_6 : decode cX11_end 6 = .ok (.getfield 10, 3) := by decide +kernel
theorem dX11_end_9 : decode cX11_end 9 = .ok (.getfield 84, 3) := by decide +kernel
theorem dX11_end_12 : decode cX11_end 12 = .ok (.if_icmp .le 5, 3) := by decide +kernel
theorem dX11_end_15 : decode cX11_end 15 = .ok (.iconst 0, 1) := by decide +kernel
theorem dX11_end_16 : decode cX11_end 16 = .ok (.ireturn, 1) := by decide +kernel
theorem dX11_end_17 : decode cX11_end 17 = .ok (.aload_n 0, 1) := by decide +kernel
theorem dX11_end_18 : decode cX11_end 18 = .ok (.getfield 10, 3) := by decide +kernel
theorem dX11_end_21 : decode cX11_end 21 = .ok (.iload_n 1, 1) := by decide +kernel
theorem dX11_end_22 : decode cX11_end 22 = .ok (.putfield 84, 3) := by decide +kernel
theorem dX11_end_25 : decode cX11_end 25 = .ok (.iconst 1, 1) := by decide +kernel
theorem dX11_end_26 : decode cX11_end 26 = .ok (.ireturn, 1) := by decide +kernel
theorem dX11_law_0 : decode cX11_law 0 = .ok (.aload_n 0, 1) := by decide +kernel
theorem dX11_law_1 : decode cX11_law 1 = .ok (.getfield 10, 3) := by decide +kernel
theorem dX11_law_4 : decode cX11_law 4 = .ok (.iconst 1, 1) := by decide +kernel
theorem dX11_law_5 : decode cX11_law 5 = .ok (.invokevirtual 88, 3) := by decide +kernel
theorem dX11_law_8 : decode cX11_law 8 = .ok (.astore_n 1, 1) := by decide +kernel
theorem dX11_law_9 : decode cX11_law 9 = .ok (.aload_n 1, 1) := by decide +kernel
theorem dX11_law_10 : decode cX11_law 10 = .ok (.ifnonnull 13, 3) := by decide +kernel
theorem dX11_law_13 : decode cX11_law 13 = .ok (.new 92, 3) := by decide +kernel
theorem dX11_law_16 : decode cX11_law 16 = .ok (.dup, 1) := by decide +kernel
theorem dX11_law_17 : decode cX11_law 17 = .ok (.ldc 94, 2) := by decide +kernel
theorem dX11_law_19 : decode cX11_law 19 = .ok (.invokespecial 96, 3) := by decide +kernel
theorem dX11_law_22 : decode cX11_law 22 = .ok (.athrow, 1) := by decide +kernel
theorem dX11_law_23 : decode cX11_law 23 = .ok (.aload_n 0, 1) := by decide +kernel
theorem dX11_law_24 : decode cX11_law 24 = .ok (.getfield 19, 3) := by decide +kernel
theorem dX11_law_27 : decode cX11_law 27 = .ok (.getfield 99, 3) := by decide +kernel
theorem dX11_law_30 : decode cX11_law 30 = .ok (.iconst 3, 1) := by decide +kernel
theorem dX11_law_31 : decode cX11_law 31 = .ok (.if_icmp .lt 13, 3) := by decide +kernel
theorem dX11_law_34 : decode cX11_law 34 = .ok (.new 102, 3) := by decide +kernel
theorem dX11_law_37 : decode cX11_law 37 = .ok (.dup, 1) := by decide +kernel
theorem dX11_law_38 : decode cX11_law 38 = .ok (.ldc 104, 2) := by decide +kernel
theorem dX11_law_40 : decode cX11_law 40 = .ok (.invokespecial 106, 3) := by decide +kernel
theorem dX11_law_43 : decode cX11_law 43 = .ok (.athrow, 1) := by decide +kernel
theorem dX11_law_44 : decode cX11_law 44 = .ok (.aload_n 0, 1) := by decide +kernel
theorem dX11_law_45 : decode cX11_law 45 = .ok (.getfield 19, 3) := by decide +kernel
theorem dX11_law_48 : decode cX11_law 48 = .ok (.getfield 107, 3) := by decide +kernel
theorem dX11_law_51 : decode cX11_law 51 = .ok (.aload_n 0, 1) := by decide +kernel
theorem dX11_law_52 : decode cX11_law 52 = .ok (.getfield 19, 3) := by decide +kernel
theorem dX11_law_55 : decode cX11_law 55 = .ok (.getfield 99, 3) := by decide +kernel
theorem dX11_law_58 : decode cX11_law 58 = .ok (.aload_n 1, 1) := by decide +kernel
theorem dX11_law_59 : decode cX11_law 59 = .ok (.aastore, 1) := by decide +kernel
theorem dX11_law_60 : decode cX11_law 60 = .ok (.aload_n 0, 1) := by decide +kernel
theorem dX11_law_61 : decode cX11_law 61 = .ok (.getfield 19, 3) := by decide +kernel
theorem dX11_law_64 : decode cX11_law 64 = .ok (.dup, 1) := by decide +kernel
theorem dX11_law_65 : decode cX11_law 65 = .ok (.getfield 99, 3) := by decide +kernel
theorem dX11_law_68 : decode cX11_law 68 = .ok (.iconst 1, 1) := by decide +kernel
theorem dX11_law_69 : decode cX11_law 69 = .ok (.iadd, 1) := by decide +kernel
theorem dX11_law_70 : decode cX11_law 70 = .ok (.putfield 99, 3) := by decide +kernel
theorem dX11_law_73 : decode cX11_law 73 = .ok (.aload_n 0, 1) := by decide +kernel
theorem dX11_law_74 : decode cX11_law 74 = .ok (.getfield 19, 3) := by decide +kernel
theorem dX11_law_77 : decode cX11_law 77 = .ok (.getfield 99, 3) := by decide +kernel
theorem dX11_law_80 : decode cX11_law 80 = .ok (.iconst 1, 1) := by decide +kernel
theorem dX11_law_81 : decode cX11_law 81 = .ok (.isub, 1) := by decide +kernel
theorem dX11_law_82 : decode cX11_law 82 = .ok (.ireturn, 1) := by decide +kernel
theorem dX11_rule_0 : decode cX11_rule 0 = .ok (.aload_n 0, 1) := by decide +kernel
theorem dX11_rule_1 : decode cX11_rule 1 = .ok (.getfield 10, 3) := by decide +kernel
theorem dX11_rule_4 : decode cX11_rule 4 = .ok (.iconst 0, 1) := by decide +kernel
theorem dX11_rule_5 : decode cX11_rule 5 = .ok (.invokevirtual 88, 3) := by decide +kernel
theorem dX11_rule_8 : decode cX11_rule 8 = .ok (.astore_n 1, 1) := by decide +kernel
theorem dX11_rule_9 : decode cX11_rule 9 = .ok (.aload_n 1, 1) := by decide +kernel
theorem dX11_rule_10 : decode cX11_rule 10 = .ok (.ifnonnull 13, 3) := by decide +kernel
theorem dX11_rule_13 : decode cX11_rule 13 = .ok (.new 92, 3) := by decide +kernel
theorem dX11_rule_16 : decode cX11_rule 16 = .ok (.dup, 1) := by decide +kernel
theorem dX11_rule_17 : decode cX11_rule 17 = .ok (.ldc 111, 2) := by decide +kernel
theorem dX11_rule_19 : decode cX11_rule 19 = .ok (.invokespecial 96, 3) := by decide +kernel
theorem dX11_rule_22 : decode cX11_rule 22 = .ok (.athrow, 1) := by decide +kernel
theorem dX11_rule_23 : decode cX11_rule 23 = .ok (.aload_n 0, 1) := by decide +kernel
theorem dX11_rule_24 : decode cX11_rule 24 = .ok (.getfield 19, 3) := by decide +kernel
theorem dX11_rule_27 : decode cX11_rule 27 = .ok (.getfield 113, 3) := by decide +kernel
theorem dX11_rule_30 : decode cX11_rule 30 = .ok (.iconst 3, 1) := by decide +kernel
theorem dX11_rule_31 : decode cX11_rule 31 = .ok (.if_icmp .lt 13, 3) := by decide +kernel
theorem dX11_rule_34 : decode cX11_rule 34 = .ok (.new 102, 3) := by decide +kernel
theorem dX11_rule_37 : decode cX11_rule 37 = .ok (.dup, 1) := by decide +kernel
theorem dX11_rule_38 : decode cX11_rule 38 = .ok (.ldc 116, 2) := by decide +kernel
theorem dX11_rule_40 : decode cX11_rule 40 = .ok (.invokespecial 106, 3) := by decide +kernel
theorem dX11_rule_43 : decode cX11_rule 43 = .ok (.athrow, 1) := by decide +kernel
theorem dX11_rule_44 : decode cX11_rule 44 = .ok (.aload_n 0, 1) := by decide +kernel
theorem dX11_rule_45 : decode cX11_rule 45 = .ok (.getfield 19, 3) := by decide +kernel
theorem dX11_rule_48 : decode cX11_rule 48 = .ok (.getfield 118, 3) := by decide +kernel
theorem dX11_rule_51 : decode cX11_rule 51 = .ok (.aload_n 0, 1) := by decide +kernel
theorem dX11_rule_52 : decode cX11_rule 52 = .ok (.getfield 19, 3) := by decide +kernel
theorem dX11_rule_55 : decode cX11_rule 55 = .ok (.getfield 113, 3) := by decide +kernel
theorem dX11_rule_58 : decode cX11_rule 58 = .ok (.aload_n 1, 1) := by decide +kernel
theorem dX11_rule_59 : decode cX11_rule 59 = .ok (.aastore, 1) := by decide +kernel
theorem dX11_rule_60 : decode cX11_rule 60 = .ok (.aload_n 0, 1) := by decide +kernel
theorem dX11_rule_61 : decode cX11_rule 61 = .ok (.getfield 19, 3) := by decide +kernel
theorem dX11_rule_64 : decode cX11_rule 64 = .ok (.dup, 1) := by decide +kernel
theorem dX11_rule_65 : decode cX11_rule 65 = .ok (.getfield 113, 3) := by decide +kernel
theorem dX11_rule_68 : decode cX11_rule 68 = .ok (.iconst 1, 1) := by decide +kernel
theorem dX11_rule_69 : decode cX11_rule 69 = .ok (.iadd, 1) := by decide +kernel
theorem dX11_rule_70 : decode cX11_rule 70 = .ok (.putfield 113, 3) := by decide +kernel
theorem dX11_rule_73 : decode cX11_rule 73 = .ok (.aload_n 0, 1) := by decide +kernel
theorem dX11_rule_74 : decode cX11_rule 74 = .ok (.getfield 19, 3) := by decide +kernel
theorem dX11_rule_77 : decode cX11_rule 77 = .ok (.getfield 113, 3) := by decide +kernel
theorem dX11_rule_80 : decode cX11_rule 80 = .ok (.iconst 1, 1) := by decide +kernel
theorem dX11_rule_81 : decode cX11_rule 81 = .ok (.isub, 1) := by decide +kernel
theorem dX11_rule_82 : decode cX11_rule 82 = .ok (.ireturn, 1) := by decide +kernel
theorem dX11_fault_0 : decode cX11_fault 0 = .ok (.aload_n 0, 1) := by decide +kernel
theorem dX11_fault_1 : decode cX11_fault 1 = .ok (.getfield 10, 3) := by decide +kernel
theorem dX11_fault_4 : decode cX11_fault 4 = .ok (.getfield 121, 3) := by decide +kernel
theorem dX11_fault_7 : decode cX11_fault 7 = .ok (.ireturn, 1) := by decide +kernel
theorem dX11_dull_0 : decode cX11_dull 0 = .ok (.iload_n 1, 1) := by decide +kernel
theorem dX11_dull_1 : decode cX11_dull 1 = .ok (.ifCond .lt 18, 3) := by decide +kernel
theorem dX11_dull_4 : decode cX11_dull 4 = .ok (.iload_n 1, 1) := by decide +kernel
theorem dX11_dull_5 : decode cX11_dull 5 = .ok (.bipush 52, 2) := by decide +kernel
theorem dX11_dull_7 : decode cX11_dull 7 = .ok (.if_icmp .ge 12, 3) := by decide +kernel
theorem dX11_dull_10 : decode cX11_dull 10 = .ok (.iload_n 2, 1) := by decide +kernel
theorem dX11_dull_11 : decode cX11_dull 11 = .ok (.ifCond .lt 8, 3) := by decide +kernel
theorem dX11_dull_14 : decode cX11_dull 14 = .ok (.iload_n 2, 1) := by decide +kernel
theorem dX11_dull_15 : decode cX11_dull 15 = .ok (.iconst 3, 1) := by decide +kernel
theorem dX11_dull_16 : decode cX11_dull 16 = .ok (.if_icmp .lt 13, 3) := by decide +kernel
theorem dX11_dull_19 : decode cX11_dull 19 = .ok (.new 124, 3) := by decide +kernel
theorem dX11_dull_22 : decode cX11_dull 22 = .ok (.dup, 1) := by decide +kernel
theorem dX11_dull_23 : decode cX11_dull 23 = .ok (.ldc 126, 2) := by decide +kernel
theorem dX11_dull_25 : decode cX11_dull 25 = .ok (.invokespecial 128, 3) := by decide +kernel
theorem dX11_dull_28 : decode cX11_dull 28 = .ok (.athrow, 1) := by decide +kernel
theorem dX11_dull_29 : decode cX11_dull 29 = .ok (.iload_n 3, 1) := by decide +kernel
theorem dX11_dull_30 : decode cX11_dull 30 = .ok (.ifCond .lt 9, 3) := by decide +kernel
theorem dX11_dull_33 : decode cX11_dull 33 = .ok (.iload_n 3, 1) := by decide +kernel
theorem dX11_dull_34 : decode cX11_dull 34 = .ok (.bipush 10, 2) := by decide +kernel
theorem dX11_dull_36 : decode cX11_dull 36 = .ok (.if_icmp .lt 13, 3) := by decide +kernel
theorem dX11_dull_39 : decode cX11_dull 39 = .ok (.new 92, 3) := by decide +kernel
theorem dX11_dull_42 : decode cX11_dull 42 = .ok (.dup, 1) := by decide +kernel
theorem dX11_dull_43 : decode cX11_dull 43 = .ok (.ldc 129, 2) := by decide +kernel
theorem dX11_dull_45 : decode cX11_dull 45 = .ok (.invokespecial 96, 3) := by decide +kernel
theorem dX11_dull_48 : decode cX11_dull 48 = .ok (.athrow, 1) := by decide +kernel
theorem dX11_dull_49 : decode cX11_dull 49 = .ok (.aload_n 0, 1) := by decide +kernel
theorem dX11_dull_50 : decode cX11_dull 50 = .ok (.getfield 19, 3) := by decide +kernel
theorem dX11_dull_53 : decode cX11_dull 53 = .ok (.getfield 131, 3) := by decide +kernel
theorem dX11_dull_56 : decode cX11_dull 56 = .ok (.iload_n 1, 1) := by decide +kernel
theorem dX11_dull_57 : decode cX11_dull 57 = .ok (.iconst 3, 1) := by decide +kernel
theorem dX11_dull_58 : decode cX11_dull 58 = .ok (.imul, 1) := by decide +kernel
theorem dX11_dull_59 : decode cX11_dull 59 = .ok (.iload_n 2, 1) := by decide +kernel
theorem dX11_dull_60 : decode cX11_dull 60 = .ok (.iadd, 1) := by decide +kernel
theorem dX11_dull_61 : decode cX11_dull 61 = .ok (.iaload, 1) := by decide +kernel
theorem dX11_dull_62 : decode cX11_dull 62 = .ok (.istore 4, 2) := by decide +kernel
theorem dX11_dull_64 : decode cX11_dull 64 = .ok (.aload_n 0, 1) := by decide +kernel
theorem dX11_dull_65 : decode cX11_dull 65 = .ok (.getfield 19, 3) := by decide +kernel
theorem dX11_dull_68 : decode cX11_dull 68 = .ok (.getfield 131, 3) := by decide +kernel
theorem dX11_dull_71 : decode cX11_dull 71 = .ok (.iload_n 1, 1) := by decide +kernel
theorem dX11_dull_72 : decode cX11_dull 72 = .ok (.iconst 3, 1) := by decide +kernel
theorem dX11_dull_73 : decode cX11_dull 73 = .ok (.imul, 1) := by decide +kernel
theorem dX11_dull_74 : decode cX11_dull 74 = .ok (.iload_n 2, 1) := by decide +kernel
theorem dX11_dull_75 : decode cX11_dull 75 = .ok (.iadd, 1) := by decide +kernel
theorem dX11_dull_76 : decode cX11_dull 76 = .ok (.iload_n 3, 1) := by decide +kernel
theorem dX11_dull_77 : decode cX11_dull 77 = .ok (.iastore, 1) := by decide +kernel
theorem dX11_dull_78 : decode cX11_dull 78 = .ok (.iload 4, 2) := by decide +kernel
theorem dX11_dull_80 : decode cX11_dull 80 = .ok (.ireturn, 1) := by decide +kernel
theorem dX11_house_0 : decode cX11_house 0 = .ok (.iload_n 1, 1) := by decide +kernel
theorem dX11_house_1 : decode cX11_house 1 = .ok (.iconst 1, 1) := by decide +kernel
theorem dX11_house_2 : decode cX11_house 2 = .ok (.if_icmp .lt 9, 3) := by decide +kernel
theorem dX11_house_5 : decode cX11_house 5 = .ok (.iload_n 1, 1) := by decide +kernel
theorem dX11_house_6 : decode cX11_house 6 = .ok (.bipush 20, 2) := by decide +kernel
theorem dX11_house_8 : decode cX11_house 8 = .ok (.if_icmp .le 13, 3) := by decide +kernel
theorem dX11_house_11 : decode cX11_house 11 = .ok (.new 92, 3) := by decide +kernel
theorem dX11_house_14 : decode cX11_house 14 = .ok (.dup, 1) := by decide +kernel
theorem dX11_house_15 : decode cX11_house 15 = .ok (.ldc 135, 2) := by decide +kernel
theorem dX11_house_17 : decode cX11_house 17 = .ok (.invokespecial 96, 3) := by decide +kernel
theorem dX11_house_20 : decode cX11_house 20 = .ok (.athrow, 1) := by decide +kernel
theorem dX11_house_21 : decode cX11_house 21 = .ok (.aload_n 0, 1) := by decide +kernel
theorem dX11_house_22 : decode cX11_house 22 = .ok (.getfield 19, 3) := by decide +kernel
theorem dX11_house_25 : decode cX11_house 25 = .ok (.getfield 137, 3) := by decide +kernel
theorem dX11_house_28 : decode cX11_house 28 = .ok (.bipush 6, 2) := by decide +kernel
theorem dX11_house_30 : decode cX11_house 30 = .ok (.if_icmp .lt 13, 3) := by decide +kernel
theorem dX11_house_33 : decode cX11_house 33 = .ok (.new 102, 3) := by decide +kernel
theorem dX11_house_36 : decode cX11_house 36 = .ok (.dup, 1) := by decide +kernel
theorem dX11_house_37 : decode cX11_house 37 = .ok (.ldc 140, 2) := by decide +kernel
theorem dX11_house_39 : decode cX11_house 39 = .ok (.invokespecial 106, 3) := by decide +kernel
theorem dX11_house_42 : decode cX11_house 42 = .ok (.athrow, 1) := by decide +kernel
theorem dX11_house_43 : decode cX11_house 43 = .ok (.aload_n 0, 1) := by decide +kernel
theorem dX11_house_44 : decode cX11_house 44 = .ok (.getfield 19, 3) := by decide +kernel
theorem dX11_house_47 : decode cX11_house 47 = .ok (.iload_n 1, 1) := by decide +kernel
theorem dX11_house_48 : decode cX11_house 48 = .ok (.invokevirtual 142, 3) := by decide +kernel
theorem dX11_house_51 : decode cX11_house 51 = .ok (.ireturn, 1) := by decide +kernel
theorem dX11_look_0 : decode cX11_look 0 = .ok (.aload_n 0, 1) := by decide +kernel
theorem dX11_look_1 : decode cX11_look 1 = .ok (.iload_n 1, 1) := by decide +kernel
theorem dX11_look_2 : decode cX11_look 2 = .ok (.iload_n 2, 1) := by decide +kernel
theorem dX11_look_3 : decode cX11_look 3 = .ok (.invokevirtual 146, 3) := by decide +kernel
theorem dX11_look_6 : decode cX11_look 6 = .ok (.iload_n 3, 1) := by decide +kernel
theorem dX11_look_7 : decode cX11_look 7 = .ok (.ifCond .lt 9, 3) := by decide +kernel
theorem dX11_look_10 : decode cX11_look 10 = .ok (.iload_n 3, 1) := by decide +kernel
theorem dX11_look_11 : decode cX11_look 11 = .ok (.bipush 10, 2) := by decide +kernel
theorem dX11_look_13 : decode cX11_look 13 = .ok (.if_icmp .lt 13, 3) := by decide +kernel
theorem dX11_look_16 : decode cX11_look 16 = .ok (.new 92, 3) := by decide +kernel
theorem dX11_look_19 : decode cX11_look 19 = .ok (.dup, 1) := by decide +kernel
theorem dX11_look_20 : decode cX11_look 20 = .ok (.ldc 150, 2) := by decide +kernel
theorem dX11_look_22 : decode cX11_look 22 = .ok (.invokespecial 96, 3) := by decide +kernel
theorem dX11_look_25 : decode cX11_look 25 = .ok (.athrow, 1) := by decide +kernel
theorem dX11_look_26 : decode cX11_look 26 = .ok (.aload_n 0, 1) := by decide +kernel
theorem dX11_look_27 : decode cX11_look 27 = .ok (.getfield 19, 3) := by decide +kernel
theorem dX11_look_30 : decode cX11_look 30 = .ok (.getfield 152, 3) := by decide +kernel
theorem dX11_look_33 : decode cX11_look 33 = .ok (.iload_n 1, 1) := by decide +kernel
theorem dX11_look_34 : decode cX11_look 34 = .ok (.bipush 20, 2) := by decide +kernel
theorem dX11_look_36 : decode cX11_look 36 = .ok (.imul, 1) := by decide +kernel
theorem dX11_look_37 : decode cX11_look 37 = .ok (.iload_n 2, 1) := by decide +kernel
theorem dX11_look_38 : decode cX11_look 38 = .ok (.iadd, 1) := by decide +kernel
theorem dX11_look_39 : decode cX11_look 39 = .ok (.iload_n 3, 1) := by decide +kernel
theorem dX11_look_40 : decode cX11_look 40 = .ok (.iastore, 1) := by decide +kernel
theorem dX11_look_41 : decode cX11_look 41 = .ok (.return_, 1) := by decide +kernel
theorem dX11_pack_0 : decode cX11_pack 0 = .ok (.iload_n 1, 1) := by decide +kernel
theorem dX11_pack_1 : decode cX11_pack 1 = .ok (.ifCond .lt 27, 3) := by decide +kernel
theorem dX11_pack_4 : decode cX11_pack 4 = .ok (.iload_n 1, 1) := by decide +kernel
theorem dX11_pack_5 : decode cX11_pack 5 = .ok (.bipush 52, 2) := by decide +kernel
theorem dX11_pack_7 : decode cX11_pack 7 = .ok (.if_icmp .ge 21, 3) := by decide +kernel
theorem dX11_pack_10 : decode cX11_pack 10 = .ok (.iload_n 2, 1) := by decide +kernel
theorem dX11_pack_11 : decode cX11_pack 11 = .ok (.invokestatic 155, 3) := by decide +kernel
theorem dX11_pack_14 : decode cX11_pack 14 = .ok (.ifCond .eq 14, 3) := by decide +kernel
theorem dX11_pack_17 : decode cX11_pack 17 = .ok (.iload_n 3, 1) := by decide +kernel
theorem dX11_pack_18 : decode cX11_pack 18 = .ok (.iconst 3, 1) := by decide +kernel
theorem dX11_pack_19 : decode cX11_pack 19 = .ok (.if_icmp .lt 9, 3) := by decide +kernel
theorem dX11_pack_22 : decode cX11_pack 22 = .ok (.iload_n 3, 1) := by decide +kernel
theorem dX11_pack_23 : decode cX11_pack 23 = .ok (.bipush 52, 2) := by decide +kernel
theorem dX11_pack_25 : decode cX11_pack 25 = .ok (.if_icmp .le 13, 3) := by decide +kernel
theorem dX11_pack_28 : decode cX11_pack 28 = .ok (.new 92, 3) := by decide +kernel
theorem dX11_pack_31 : decode cX11_pack 31 = .ok (.dup, 1) := by decide +kernel
theorem dX11_pack_32 : decode cX11_pack 32 = .ok (.ldc 159, 2) := by decide +kernel
theorem dX11_pack_34 : decode cX11_pack 34 = .ok (.invokespecial 96, 3) := by decide +kernel
theorem dX11_pack_37 : decode cX11_pack 37 = .ok (.athrow, 1) := by decide +kernel
theorem dX11_pack_38 : decode cX11_pack 38 = .ok (.aload_n 0, 1) := by decide +kernel
theorem dX11_pack_39 : decode cX11_pack 39 = .ok (.getfield 19, 3) := by decide +kernel
theorem dX11_pack_42 : decode cX11_pack 42 = .ok (.getfield 161, 3) := by decide +kernel
theorem dX11_pack_45 : decode cX11_pack 45 = .ok (.bipush 8, 2) := by decide +kernel
theorem dX11_pack_47 : decode cX11_pack 47 = .ok (.if_icmp .lt 13, 3) := by decide +kernel
theorem dX11_pack_50 : decode cX11_pack 50 = .ok (.new 102, 3) := by decide +kernel
theorem dX11_pack_53 : decode cX11_pack 53 = .ok (.dup, 1) := by decide +kernel
theorem dX11_pack_54 : decode cX11_pack 54 = .ok (.ldc 164, 2) := by decide +kernel
theorem dX11_pack_56 : decode cX11_pack 56 = .ok (.invokespecial 106, 3) := by decide +kernel
theorem dX11_pack_59 : decode cX11_pack 59 = .ok (.athrow, 1) := by decide +kernel
theorem dX11_pack_60 : decode cX11_pack 60 = .ok (.aload_n 0, 1) := by decide +kernel
theorem dX11_pack_61 : decode cX11_pack 61 = .ok (.getfield 19, 3) := by decide +kernel
theorem dX11_pack_64 : decode cX11_pack 64 = .ok (.getfield 166, 3) := by decide +kernel
theorem dX11_pack_67 : decode cX11_pack 67 = .ok (.aload_n 0, 1) := by decide +kernel
theorem dX11_pack_68 : decode cX11_pack 68 = .ok (.getfield 19, 3) := by decide +kernel
theorem dX11_pack_71 : decode cX11_pack 71 = .ok (.getfield 161, 3) := by decide +kernel
theorem dX11_pack_74 : decode cX11_pack 74 = .ok (.aaload, 1) := by decide +kernel
theorem dX11_pack_75 : decode cX11_pack 75 = .ok (.iload_n 1, 1) := by decide +kernel
theorem dX11_pack_76 : decode cX11_pack 76 = .ok (.iload_n 2, 1) := by decide +kernel
theorem dX11_pack_77 : decode cX11_pack 77 = .ok (.iload_n 3, 1) := by decide +kernel
theorem dX11_pack_78 : decode cX11_pack 78 = .ok (.invokevirtual 170, 3) := by decide +kernel
theorem dX11_pack_81 : decode cX11_pack 81 = .ok (.aload_n 0, 1) := by decide +kernel
theorem dX11_pack_82 : decode cX11_pack 82 = .ok (.getfield 19, 3) := by decide +kernel
theorem dX11_pack_85 : decode cX11_pack 85 = .ok (.dup, 1) := by decide +kernel
theorem dX11_pack_86 : decode cX11_pack 86 = .ok (.getfield 161, 3) := by decide +kernel
theorem dX11_pack_89 : decode cX11_pack 89 = .ok (.iconst 1, 1) := by decide +kernel
theorem dX11_pack_90 : decode cX11_pack 90 = .ok (.iadd, 1) := by decide +kernel
theorem dX11_pack_91 : decode cX11_pack 91 = .ok (.putfield 161, 3) := by decide +kernel
theorem dX11_pack_94 : decode cX11_pack 94 = .ok (.aload_n 0, 1) := by decide +kernel
theorem dX11_pack_95 : decode cX11_pack 95 = .ok (.getfield 19, 3) := by decide +kernel
theorem dX11_pack_98 : decode cX11_pack 98 = .ok (.getfield 161, 3) := by decide +kernel
theorem dX11_pack_101 : decode cX11_pack 101 = .ok (.iconst 1, 1) := by decide +kernel
theorem dX11_pack_102 : decode cX11_pack 102 = .ok (.isub, 1) := by decide +kernel
theorem dX11_pack_103 : decode cX11_pack 103 = .ok (.ireturn, 1) := by decide +kernel
theorem dX11_card_0 : decode cX11_card 0 = .ok (.aload_n 0, 1) := by decide +kernel
theorem dX11_card_1 : decode cX11_card 1 = .ok (.iload_n 1, 1) := by decide +kernel
theorem dX11_card_2 : decode cX11_card 2 = .ok (.iload_n 2, 1) := by decide +kernel
theorem dX11_card_3 : decode cX11_card 3 = .ok (.invokevirtual 176, 3) := by decide +kernel
theorem dX11_card_6 : decode cX11_card 6 = .ok (.aload_n 0, 1) := by decide +kernel
theorem dX11_card_7 : decode cX11_card 7 = .ok (.getfield 19, 3) := by decide +kernel
theorem dX11_card_10 : decode cX11_card 10 = .ok (.getfield 166, 3) := by decide +kernel
theorem dX11_card_13 : decode cX11_card 13 = .ok (.iload_n 1, 1) := by decide +kernel
theorem dX11_card_14 : decode cX11_card 14 = .ok (.aaload, 1) := by decide +kernel
theorem dX11_card_15 : decode cX11_card 15 = .ok (.iload_n 2, 1) := by decide +kernel
theorem dX11_card_16 : decode cX11_card 16 = .ok (.invokevirtual 179, 3) := by decide +kernel
theorem dX11_card_19 : decode cX11_card 19 = .ok (.ireturn, 1) := by decide +kernel
theorem dX11_put_0 : decode cX11_put 0 = .ok (.aload_n 0, 1) := by decide +kernel
theorem dX11_put_1 : decode cX11_put 1 = .ok (.iload_n 1, 1) := by decide +kernel
theorem dX11_put_2 : decode cX11_put 2 = .ok (.invokevirtual 182, 3) := by decide +kernel
theorem dX11_put_5 : decode cX11_put 5 = .ok (.aload_n 0, 1) := by decide +kernel
theorem dX11_put_6 : decode cX11_put 6 = .ok (.iload_n 2, 1) := by decide +kernel
theorem dX11_put_7 : decode cX11_put 7 = .ok (.iload_n 3, 1) := by decide +kernel
theorem dX11_put_8 : decode cX11_put 8 = .ok (.invokevirtual 146, 3) := by decide +kernel
theorem dX11_put_11 : decode cX11_put 11 = .ok (.aload_n 0, 1) := by decide +kernel
theorem dX11_put_12 : decode cX11_put 12 = .ok (.getfield 19, 3) := by decide +kernel
theorem dX11_put_15 : decode cX11_put 15 = .ok (.getfield 166, 3) := by decide +kernel
theorem dX11_put_18 : decode cX11_put 18 = .ok (.iload_n 1, 1) := by decide +kernel
theorem dX11_put_19 : decode cX11_put 19 = .ok (.aaload, 1) := by decide +kernel
theorem dX11_put_20 : decode cX11_put 20 = .ok (.astore 6, 2) := by decide +kernel
theorem dX11_put_22 : decode cX11_put 22 = .ok (.aload 6, 2) := by decide +kernel
theorem dX11_put_24 : decode cX11_put 24 = .ok (.getfield 185, 3) := by decide +kernel
theorem dX11_put_27 : decode cX11_put 27 = .ok (.ifCond .eq 13, 3) := by decide +kernel
theorem dX11_put_30 : decode cX11_put 30 = .ok (.new 189, 3) := by decide +kernel
theorem dX11_put_33 : decode cX11_put 33 = .ok (.dup, 1) := by decide +kernel
theorem dX11_put_34 : decode cX11_put 34 = .ok (.ldc 191, 2) := by decide +kernel
theorem dX11_put_36 : decode cX11_put 36 = .ok (.invokespecial 193, 3) := by decide +kernel
theorem dX11_put_39 : decode cX11_put 39 = .ok (.athrow, 1) := by decide +kernel
theorem dX11_put_40 : decode cX11_put 40 = .ok (.aload_n 0, 1) := by decide +kernel
theorem dX11_put_41 : decode cX11_put 41 = .ok (.iload 4, 2) := by decide +kernel
theorem dX11_put_43 : decode cX11_put 43 = .ok (.invokevirtual 194, 3) := by decide +kernel
theorem dX11_put_46 : decode cX11_put 46 = .ok (.aload_n 0, 1) := by decide +kernel
theorem dX11_put_47 : decode cX11_put 47 = .ok (.iload 5, 2) := by decide +kernel
theorem dX11_put_49 : decode cX11_put 49 = .ok (.invokevirtual 197, 3) := by decide +kernel
theorem dX11_put_52 : decode cX11_put 52 = .ok (.aload 6, 2) := by decide +kernel
theorem dX11_put_54 : decode cX11_put 54 = .ok (.iload 4, 2) := by decide +kernel
theorem dX11_put_56 : decode cX11_put 56 = .ok (.invokevirtual 200, 3) := by decide +kernel
theorem dX11_put_59 : decode cX11_put 59 = .ok (.istore 7, 2) := by decide +kernel
theorem dX11_put_61 : decode cX11_put 61 = .ok (.iload_n 3, 1) := by decide +kernel
theorem dX11_put_62 : decode cX11_put 62 = .ok (.iload 7, 2) := by decide +kernel
theorem dX11_put_64 : decode cX11_put 64 = .ok (.iadd, 1) := by decide +kernel
theorem dX11_put_65 : decode cX11_put 65 = .ok (.aload_n 0, 1) := by decide +kernel
theorem dX11_put_66 : decode cX11_put 66 = .ok (.getfield 19, 3) := by decide +kernel
theorem dX11_put_69 : decode cX11_put 69 = .ok (.getfield 203, 3) := by decide +kernel
theorem dX11_put_72 : decode cX11_put 72 = .ok (.iload_n 2, 1) := by decide +kernel
theorem dX11_put_73 : decode cX11_put 73 = .ok (.iaload, 1) := by decide +kernel
theorem dX11_put_74 : decode cX11_put 74 = .ok (.if_icmp .le 13, 3) := by decide +kernel
theorem dX11_put_77 : decode cX11_put 77 = .ok (.new 92, 3) := by decide +kernel
theorem dX11_put_80 : decode cX11_put 80 = .ok (.dup, 1) := by decide +kernel
theorem dX11_put_81 : decode cX11_put 81 = .ok (.ldc 206, 2) := by decide +kernel
theorem dX11_put_83 : decode cX11_put 83 = .ok (.invokespecial 96, 3) := by decide +kernel
theorem dX11_put_86 : decode cX11_put 86 = .ok (.athrow, 1) := by decide +kernel
theorem dX11_put_87 : decode cX11_put 87 = .ok (.aload_n 0, 1) := by decide +kernel
theorem dX11_put_88 : decode cX11_put 88 = .ok (.iload 7, 2) := by decide +kernel
theorem dX11_put_90 : decode cX11_put 90 = .ok (.iload 5, 2) := by decide +kernel
theorem dX11_put_92 : decode cX11_put 92 = .ok (.imul, 1) := by decide +kernel
theorem dX11_put_93 : decode cX11_put 93 = .ok (.invokevirtual 208, 3) := by decide +kernel
theorem dX11_put_96 : decode cX11_put 96 = .ok (.aload 6, 2) := by decide +kernel
theorem dX11_put_98 : decode cX11_put 98 = .ok (.iconst 1, 1) := by decide +kernel
theorem dX11_put_99 : decode cX11_put 99 = .ok (.putfield 185, 3) := by decide +kernel
theorem dX11_put_102 : decode cX11_put 102 = .ok (.aload 6, 2) := by decide +kernel
theorem dX11_put_104 : decode cX11_put 104 = .ok (.getfield 211, 3) := by decide +kernel
theorem dX11_put_107 : decode cX11_put 107 = .ok (.iload_n 2, 1) := by decide +kernel
theorem dX11_put_108 : decode cX11_put 108 = .ok (.iload_n 3, 1) := by decide +kernel
theorem dX11_put_109 : decode cX11_put 109 = .ok (.iload 4, 2) := by decide +kernel
theorem dX11_put_111 : decode cX11_put 111 = .ok (.iload 5, 2) := by decide +kernel
theorem dX11_put_113 : decode cX11_put 113 = .ok (.invokevirtual 215, 3) := by decide +kernel
theorem dX11_put_116 : decode cX11_put 116 = .ok (.aload 6, 2) := by decide +kernel
theorem dX11_put_118 : decode cX11_put 118 = .ok (.getfield 211, 3) := by decide +kernel
theorem dX11_put_121 : decode cX11_put 121 = .ok (.aload_n 0, 1) := by decide +kernel
theorem dX11_put_122 : decode cX11_put 122 = .ok (.getfield 19, 3) := by decide +kernel
theorem dX11_put_125 : decode cX11_put 125 = .ok (.getfield 220, 3) := by decide +kernel
theorem dX11_put_128 : decode cX11_put 128 = .ok (.putfield 223, 3) := by decide +kernel
theorem dX11_put_131 : decode cX11_put 131 = .ok (.aload 6, 2) := by decide +kernel
theorem dX11_put_133 : decode cX11_put 133 = .ok (.getfield 211, 3) := by decide +kernel
theorem dX11_put_136 : decode cX11_put 136 = .ok (.aload_n 0, 1) := by decide +kernel
theorem dX11_put_137 : decode cX11_put 137 = .ok (.getfield 19, 3) := by decide +kernel
theorem dX11_put_140 : decode cX11_put 140 = .ok (.getfield 226, 3) := by decide +kernel
theorem dX11_put_143 : decode cX11_put 143 = .ok (.iload 5, 2) := by decide +kernel
theorem dX11_put_145 : decode cX11_put 145 = .ok (.invokevirtual 229, 3) := by decide +kernel
theorem dX11_put_148 : decode cX11_put 148 = .ok (.aload_n 0, 1) := by decide +kernel
theorem dX11_put_149 : decode cX11_put 149 = .ok (.getfield 19, 3) := by decide +kernel
theorem dX11_put_152 : decode cX11_put 152 = .ok (.dup, 1) := by decide +kernel
theorem dX11_put_153 : decode cX11_put 153 = .ok (.getfield 220, 3) := by decide +kernel
theorem dX11_put_156 : decode cX11_put 156 = .ok (.iconst 1, 1) := by decide +kernel
theorem dX11_put_157 : decode cX11_put 157 = .ok (.iadd, 1) := by decide +kernel
theorem dX11_put_158 : decode cX11_put 158 = .ok (.putfield 220, 3) := by decide +kernel
theorem dX11_put_161 : decode cX11_put 161 = .ok (.aload_n 0, 1) := by decide +kernel
theorem dX11_put_162 : decode cX11_put 162 = .ok (.getfield 19, 3) := by decide +kernel
theorem dX11_put_165 : decode cX11_put 165 = .ok (.dup, 1) := by decide +kernel
theorem dX11_put_166 : decode cX11_put 166 = .ok (.getfield 226, 3) := by decide +kernel
theorem dX11_put_169 : decode cX11_put 169 = .ok (.iload 7, 2) := by decide +kernel
theorem dX11_put_171 : decode cX11_put 171 = .ok (.iload 5, 2) := by decide +kernel
theorem dX11_put_173 : decode cX11_put 173 = .ok (.imul, 1) := by decide +kernel
theorem dX11_put_174 : decode cX11_put 174 = .ok (.iadd, 1) := by decide +kernel
theorem dX11_put_175 : decode cX11_put 175 = .ok (.putfield 226, 3) := by decide +kernel
theorem dX11_put_178 : decode cX11_put 178 = .ok (.iload 7, 2) := by decide +kernel
theorem dX11_put_180 : decode cX11_put 180 = .ok (.ireturn, 1) := by decide +kernel
theorem dX11_later_0 : decode cX11_later 0 = .ok (.iload_n 1, 1) := by decide +kernel
theorem dX11_later_1 : decode cX11_later 1 = .ok (.ifCond .ge 13, 3) := by decide +kernel
theorem dX11_later_4 : decode cX11_later 4 = .ok (.new 92, 3) := by decide +kernel
theorem dX11_later_7 : decode cX11_later 7 = .ok (.dup, 1) := by decide +kernel
theorem dX11_later_8 : decode cX11_later 8 = .ok (.ldc 232, 2) := by decide +kernel
theorem dX11_later_10 : decode cX11_later 10 = .ok (.invokespecial 96, 3) := by decide +kernel
theorem dX11_later_13 : decode cX11_later 13 = .ok (.athrow, 1) := by decide +kernel
theorem dX11_later_14 : decode cX11_later 14 = .ok (.aload_n 0, 1) := by decide +kernel
theorem dX11_later_15 : decode cX11_later 15 = .ok (.iload_n 1, 1) := by decide +kernel
theorem dX11_later_16 : decode cX11_later 16 = .ok (.invokevirtual 208, 3) := by decide +kernel
theorem dX11_later_19 : decode cX11_later 19 = .ok (.aload_n 0, 1) := by decide +kernel
theorem dX11_later_20 : decode cX11_later 20 = .ok (.getfield 19, 3) := by decide +kernel
theorem dX11_later_23 : decode cX11_later 23 = .ok (.dup, 1) := by decide +kernel
theorem dX11_later_24 : decode cX11_later 24 = .ok (.getfield 226, 3) := by decide +kernel
theorem dX11_later_27 : decode cX11_later 27 = .ok (.iload_n 1, 1) := by decide +kernel
theorem dX11_later_28 : decode cX11_later 28 = .ok (.iadd, 1) := by decide +kernel
theorem dX11_later_29 : decode cX11_later 29 = .ok (.putfield 226, 3) := by decide +kernel
theorem dX11_later_32 : decode cX11_later 32 = .ok (.aload_n 0, 1) := by decide +kernel
theorem dX11_later_33 : decode cX11_later 33 = .ok (.getfield 19, 3) := by decide +kernel
theorem dX11_later_36 : decode cX11_later 36 = .ok (.getfield 226, 3) := by decide +kernel
theorem dX11_later_39 : decode cX11_later 39 = .ok (.ireturn, 1) := by decide +kernel
theorem dX11_go_0 : decode cX11_go 0 = .ok (.aload_n 0, 1) := by decide +kernel
theorem dX11_go_1 : decode cX11_go 1 = .ok (.iload_n 1, 1) := by decide +kernel
theorem dX11_go_2 : decode cX11_go 2 = .ok (.invokevirtual 234, 3) := by decide +kernel
theorem dX11_go_5 : decode cX11_go 5 = .ok (.aload_n 0, 1) := by decide +kernel
theorem dX11_go_6 : decode cX11_go 6 = .ok (.iload_n 2, 1) := by decide +kernel
theorem dX11_go_7 : decode cX11_go 7 = .ok (.invokevirtual 197, 3) := by decide +kernel
theorem dX11_go_10 : decode cX11_go 10 = .ok (.aload_n 0, 1) := by decide +kernel
theorem dX11_go_11 : decode cX11_go 11 = .ok (.getfield 19, 3) := by decide +kernel
theorem dX11_go_14 : decode cX11_go 14 = .ok (.getfield 166, 3) := by decide +kernel
theorem dX11_go_17 : decode cX11_go 17 = .ok (.iload_n 1, 1) := by decide +kernel
theorem dX11_go_18 : decode cX11_go 18 = .ok (.aaload, 1) := by decide +kernel
theorem dX11_go_19 : decode cX11_go 19 = .ok (.astore_n 3, 1) := by decide +kernel
theorem dX11_go_20 : decode cX11_go 20 = .ok (.aload_n 3, 1) := by decide +kernel
theorem dX11_go_21 : decode cX11_go 21 = .ok (.invokevirtual 237, 3) := by decide +kernel
theorem dX11_go_24 : decode cX11_go 24 = .ok (.iload_n 2, 1) := by decide +kernel
theorem dX11_go_25 : decode cX11_go 25 = .ok (.imul, 1) := by decide +kernel
theorem dX11_go_26 : decode cX11_go 26 = .ok (.istore 4, 2) := by decide +kernel
theorem dX11_go_28 : decode cX11_go 28 = .ok (.aload_n 0, 1) := by decide +kernel
theorem dX11_go_29 : decode cX11_go 29 = .ok (.iload 4, 2) := by decide +kernel
theorem dX11_go_31 : decode cX11_go 31 = .ok (.invokevirtual 208, 3) := by decide +kernel
theorem dX11_go_34 : decode cX11_go 34 = .ok (.aload_n 3, 1) := by decide +kernel
theorem dX11_go_35 : decode cX11_go 35 = .ok (.getfield 211, 3) := by decide +kernel
theorem dX11_go_38 : decode cX11_go 38 = .ok (.aload_n 0, 1) := by decide +kernel
theorem dX11_go_39 : decode cX11_go 39 = .ok (.getfield 19, 3) := by decide +kernel
theorem dX11_go_42 : decode cX11_go 42 = .ok (.getfield 226, 3) := by decide +kernel
theorem dX11_go_45 : decode cX11_go 45 = .ok (.iload_n 2, 1) := by decide +kernel
theorem dX11_go_46 : decode cX11_go 46 = .ok (.invokevirtual 229, 3) := by decide +kernel
theorem dX11_go_49 : decode cX11_go 49 = .ok (.aload_n 3, 1) := by decide +kernel
theorem dX11_go_50 : decode cX11_go 50 = .ok (.getfield 211, 3) := by decide +kernel
theorem dX11_go_53 : decode cX11_go 53 = .ok (.dup, 1) := by decide +kernel
theorem dX11_go_54 : decode cX11_go 54 = .ok (.getfield 241, 3) := by decide +kernel
theorem dX11_go_57 : decode cX11_go 57 = .ok (.iconst 1, 1) := by decide +kernel
theorem dX11_go_58 : decode cX11_go 58 = .ok (.iadd, 1) := by decide +kernel
theorem dX11_go_59 : decode cX11_go 59 = .ok (.putfield 241, 3) := by decide +kernel
theorem dX11_go_62 : decode cX11_go 62 = .ok (.aload_n 0, 1) := by decide +kernel
theorem dX11_go_63 : decode cX11_go 63 = .ok (.getfield 19, 3) := by decide +kernel
theorem dX11_go_66 : decode cX11_go 66 = .ok (.dup, 1) := by decide +kernel
theorem dX11_go_67 : decode cX11_go 67 = .ok (.getfield 226, 3) := by decide +kernel
theorem dX11_go_70 : decode cX11_go 70 = .ok (.iload 4, 2) := by decide +kernel
theorem dX11_go_72 : decode cX11_go 72 = .ok (.iadd, 1) := by decide +kernel
theorem dX11_go_73 : decode cX11_go 73 = .ok (.putfield 226, 3) := by decide +kernel
theorem dX11_go_76 : decode cX11_go 76 = .ok (.aload_n 3, 1) := by decide +kernel
theorem dX11_go_77 : decode cX11_go 77 = .ok (.getfield 211, 3) := by decide +kernel
theorem dX11_go_80 : decode cX11_go 80 = .ok (.getfield 241, 3) := by decide +kernel
theorem dX11_go_83 : decode cX11_go 83 = .ok (.ireturn, 1) := by decide +kernel
theorem dX11_about_0 : decode cX11_about 0 = .ok (.aload_n 0, 1) := by decide +kernel
theorem dX11_about_1 : decode cX11_about 1 = .ok (.iload_n 1, 1) := by decide +kernel
theorem dX11_about_2 : decode cX11_about 2 = .ok (.iload_n 2, 1) := by decide +kernel
theorem dX11_about_3 : decode cX11_about 3 = .ok (.invokevirtual 176, 3) := by decide +kernel
theorem dX11_about_6 : decode cX11_about 6 = .ok (.aload_n 0, 1) := by decide +kernel
theorem dX11_about_7 : decode cX11_about 7 = .ok (.iload_n 1, 1) := by decide +kernel
theorem dX11_about_8 : decode cX11_about 8 = .ok (.invokevirtual 234, 3) := by decide +kernel
theorem dX11_about_11 : decode cX11_about 11 = .ok (.aload_n 0, 1) := by decide +kernel
theorem dX11_about_12 : decode cX11_about 12 = .ok (.getfield 19, 3) := by decide +kernel
theorem dX11_about_15 : decode cX11_about 15 = .ok (.getfield 166, 3) := by decide +kernel
theorem dX11_about_18 : decode cX11_about 18 = .ok (.iload_n 1, 1) := by decide +kernel
theorem dX11_about_19 : decode cX11_about 19 = .ok (.aaload, 1) := by decide +kernel
theorem dX11_about_20 : decode cX11_about 20 = .ok (.astore 4, 2) := by decide +kernel
theorem dX11_about_22 : decode cX11_about 22 = .ok (.aload 4, 2) := by decide +kernel
theorem dX11_about_24 : decode cX11_about 24 = .ok (.iload_n 2, 1) := by decide +kernel
theorem dX11_about_25 : decode cX11_about 25 = .ok (.invokevirtual 244, 3) := by decide +kernel
theorem dX11_about_28 : decode cX11_about 28 = .ok (.istore 5, 2) := by decide +kernel
theorem dX11_about_30 : decode cX11_about 30 = .ok (.aload 4, 2) := by decide +kernel
theorem dX11_about_32 : decode cX11_about 32 = .ok (.iload_n 2, 1) := by decide +kernel
theorem dX11_about_33 : decode cX11_about 33 = .ok (.invokevirtual 247, 3) := by decide +kernel
theorem dX11_about_36 : decode cX11_about 36 = .ok (.istore 6, 2) := by decide +kernel
theorem dX11_about_38 : decode cX11_about 38 = .ok (.iload_n 3, 1) := by decide +kernel
theorem dX11_about_39 : decode cX11_about 39 = .ok (.tableswitch 151 0 7 #[45, 48, 60, 63, 81, 106, 123, 143], 45) := by decide +kernel
theorem dX11_about_84 : decode cX11_about 84 = .ok (.iload 5, 2) := by decide +kernel
theorem dX11_about_86 : decode cX11_about 86 = .ok (.ireturn, 1) := by decide +kernel
theorem dX11_about_87 : decode cX11_about 87 = .ok (.aload 4, 2) := by decide +kernel
theorem dX11_about_89 : decode cX11_about 89 = .ok (.getfield 211, 3) := by decide +kernel
theorem dX11_about_92 : decode cX11_about 92 = .ok (.getfield 250, 3) := by decide +kernel
theorem dX11_about_95 : decode cX11_about 95 = .ok (.iload 5, 2) := by decide +kernel
theorem dX11_about_97 : decode cX11_about 97 = .ok (.iadd, 1) := by decide +kernel
theorem dX11_about_98 : decode cX11_about 98 = .ok (.ireturn, 1) := by decide +kernel
theorem dX11_about_99 : decode cX11_about 99 = .ok (.iload 6, 2) := by decide +kernel
theorem dX11_about_101 : decode cX11_about 101 = .ok (.ireturn, 1) := by decide +kernel
theorem dX11_about_102 : decode cX11_about 102 = .ok (.aload 4, 2) := by decide +kernel
theorem dX11_about_104 : decode cX11_about 104 = .ok (.getfield 211, 3) := by decide +kernel
theorem dX11_about_107 : decode cX11_about 107 = .ok (.iload 5, 2) := by decide +kernel
theorem dX11_about_109 : decode cX11_about 109 = .ok (.aload_n 0, 1) := by decide +kernel
theorem dX11_about_110 : decode cX11_about 110 = .ok (.getfield 19, 3) := by decide +kernel
theorem dX11_about_113 : decode cX11_about 113 = .ok (.getfield 226, 3) := by decide +kernel
theorem dX11_about_116 : decode cX11_about 116 = .ok (.invokevirtual 253, 3) := by decide +kernel
theorem dX11_about_119 : decode cX11_about 119 = .ok (.ireturn, 1) := by decide +kernel
theorem dX11_about_120 : decode cX11_about 120 = .ok (.aload_n 0, 1) := by decide +kernel
theorem dX11_about_121 : decode cX11_about 121 = .ok (.getfield 35, 3) := by decide +kernel
theorem dX11_about_124 : decode cX11_about 124 = .ok (.iload_n 1, 1) := by decide +kernel
theorem dX11_about_125 : decode cX11_about 125 = .ok (.aload 4, 2) := by decide +kernel
theorem dX11_about_127 : decode cX11_about 127 = .ok (.getfield 211, 3) := by decide +kernel
theorem dX11_about_130 : decode cX11_about 130 = .ok (.aload 4, 2) := by decide +kernel
theorem dX11_about_132 : decode cX11_about 132 = .ok (.getfield 211, 3) := by decide +kernel
theorem dX11_about_135 : decode cX11_about 135 = .ok (.getfield 250, 3) := by decide +kernel
theorem dX11_about_138 : decode cX11_about 138 = .ok (.iload 5, 2) := by decide +kernel
theorem dX11_about_140 : decode cX11_about 140 = .ok (.iadd, 1) := by decide +kernel
theorem dX11_about_141 : decode cX11_about 141 = .ok (.invokevirtual 257, 3) := by decide +kernel
theorem dX11_about_144 : decode cX11_about 144 = .ok (.ireturn, 1) := by decide +kernel
theorem dX11_about_145 : decode cX11_about 145 = .ok (.aload_n 0, 1) := by decide +kernel
theorem dX11_about_146 : decode cX11_about 146 = .ok (.getfield 35, 3) := by decide +kernel
theorem dX11_about_149 : decode cX11_about 149 = .ok (.aload 4, 2) := by decide +kernel
theorem dX11_about_151 : decode cX11_about 151 = .ok (.aload 4, 2) := by decide +kernel
theorem dX11_about_153 : decode cX11_about 153 = .ok (.getfield 211, 3) := by decide +kernel
theorem dX11_about_156 : decode cX11_about 156 = .ok (.iload 5, 2) := by decide +kernel
theorem dX11_about_158 : decode cX11_about 158 = .ok (.invokevirtual 261, 3) := by decide +kernel
theorem dX11_about_161 : decode cX11_about 161 = .ok (.ireturn, 1) := by decide +kernel
theorem dX11_about_162 : decode cX11_about 162 = .ok (.aload_n 0, 1) := by decide +kernel
theorem dX11_about_163 : decode cX11_about 163 = .ok (.getfield 19, 3) := by decide +kernel
theorem dX11_about_166 : decode cX11_about 166 = .ok (.getfield 131, 3) := by decide +kernel
theorem dX11_about_169 : decode cX11_about 169 = .ok (.aload 4, 2) := by decide +kernel
theorem dX11_about_171 : decode cX11_about 171 = .ok (.iload_n 2, 1) := by decide +kernel
theorem dX11_about_172 : decode cX11_about 172 = .ok (.invokevirtual 179, 3) := by decide +kernel
theorem dX11_about_175 : decode cX11_about 175 = .ok (.iconst 3, 1) := by decide +kernel
theorem dX11_about_176 : decode cX11_about 176 = .ok (.imul, 1) := by decide +kernel
theorem dX11_about_177 : decode cX11_about 177 = .ok (.iload 6, 2) := by decide +kernel
theorem dX11_about_179 : decode cX11_about 179 = .ok (.iadd, 1) := by decide +kernel
theorem dX11_about_180 : decode cX11_about 180 = .ok (.iaload, 1) := by decide +kernel
theorem dX11_about_181 : decode cX11_about 181 = .ok (.ireturn, 1) := by decide +kernel
theorem dX11_about_182 : decode cX11_about 182 = .ok (.aload 4, 2) := by decide +kernel
theorem dX11_about_184 : decode cX11_about 184 = .ok (.getfield 265, 3) := by decide +kernel
theorem dX11_about_187 : decode cX11_about 187 = .ok (.iload_n 2, 1) := by decide +kernel
theorem dX11_about_188 : decode cX11_about 188 = .ok (.iaload, 1) := by decide +kernel
theorem dX11_about_189 : decode cX11_about 189 = .ok (.ireturn, 1) := by decide +kernel
theorem dX11_about_190 : decode cX11_about 190 = .ok (.new 268, 3) := by decide +kernel
theorem dX11_about_193 : decode cX11_about 193 = .ok (.dup, 1) := by decide +kernel
theorem dX11_about_194 : decode cX11_about 194 = .ok (.ldc_w 270, 3) := by decide +kernel
theorem dX11_about_197 : decode cX11_about 197 = .ok (.invokespecial 272, 3) := by decide +kernel
theorem dX11_about_200 : decode cX11_about 200 = .ok (.athrow, 1) := by decide +kernel
theorem dX11_holds_0 : decode cX11_holds 0 = .ok (.aload_n 0, 1) := by decide +kernel
theorem dX11_holds_1 : decode cX11_holds 1 = .ok (.iload_n 1, 1) := by decide +kernel
theorem dX11_holds_2 : decode cX11_holds 2 = .ok (.invokevirtual 273, 3) := by decide +kernel
theorem dX11_holds_5 : decode cX11_holds 5 = .ok (.aload_n 0, 1) := by decide +kernel
theorem dX11_holds_6 : decode cX11_holds 6 = .ok (.iload_n 2, 1) := by decide +kernel
theorem dX11_holds_7 : decode cX11_holds 7 = .ok (.iload_n 3, 1) := by decide +kernel
theorem dX11_holds_8 : decode cX11_holds 8 = .ok (.invokevirtual 176, 3) := by decide +kernel
theorem dX11_holds_11 : decode cX11_holds 11 = .ok (.aload_n 0, 1) := by decide +kernel
theorem dX11_holds_12 : decode cX11_holds 12 = .ok (.iload_n 2, 1) := by decide +kernel
theorem dX11_holds_13 : decode cX11_holds 13 = .ok (.invokevirtual 234, 3) := by decide +kernel
theorem dX11_holds_16 : decode cX11_holds 16 = .ok (.aload_n 0, 1) := by decide +kernel
theorem dX11_holds_17 : decode cX11_holds 17 = .ok (.getfield 35, 3) := by decide +kernel
theorem dX11_holds_20 : decode cX11_holds 20 = .ok (.aload_n 0, 1) := by decide +kernel
theorem dX11_holds_21 : decode cX11_holds 21 = .ok (.getfield 19, 3) := by decide +kernel
theorem dX11_holds_24 : decode cX11_holds 24 = .ok (.getfield 107, 3) := by decide +kernel
theorem dX11_holds_27 : decode cX11_holds 27 = .ok (.iload_n 1, 1) := by decide +kernel
theorem dX11_holds_28 : decode cX11_holds 28 = .ok (.aaload, 1) := by decide +kernel
theorem dX11_holds_29 : decode cX11_holds 29 = .ok (.iload_n 2, 1) := by decide +kernel
theorem dX11_holds_30 : decode cX11_holds 30 = .ok (.iload_n 3, 1) := by decide +kernel
theorem dX11_holds_31 : decode cX11_holds 31 = .ok (.invokevirtual 276, 3) := by decide +kernel
theorem dX11_holds_34 : decode cX11_holds 34 = .ok (.ireturn, 1) := by decide +kernel
theorem dX11_awaited_0 : decode cX11_awaited 0 = .ok (.aload_n 0, 1) := by decide +kernel
theorem dX11_awaited_1 : decode cX11_awaited 1 = .ok (.iload_n 1, 1) := by decide +kernel
theorem dX11_awaited_2 : decode cX11_awaited 2 = .ok (.invokevirtual 273, 3) := by decide +kernel
theorem dX11_awaited_5 : decode cX11_awaited 5 = .ok (.aload_n 0, 1) := by decide +kernel
theorem dX11_awaited_6 : decode cX11_awaited 6 = .ok (.iload_n 2, 1) := by decide +kernel
theorem dX11_awaited_7 : decode cX11_awaited 7 = .ok (.invokevirtual 234, 3) := by decide +kernel
theorem dX11_awaited_10 : decode cX11_awaited 10 = .ok (.aload_n 0, 1) := by decide +kernel
theorem dX11_awaited_11 : decode cX11_awaited 11 = .ok (.getfield 35, 3) := by decide +kernel
theorem dX11_awaited_14 : decode cX11_awaited 14 = .ok (.aload_n 0, 1) := by decide +kernel
theorem dX11_awaited_15 : decode cX11_awaited 15 = .ok (.getfield 19, 3) := by decide +kernel
theorem dX11_awaited_18 : decode cX11_awaited 18 = .ok (.getfield 107, 3) := by decide +kernel
theorem dX11_awaited_21 : decode cX11_awaited 21 = .ok (.iload_n 1, 1) := by decide +kernel
theorem dX11_awaited_22 : decode cX11_awaited 22 = .ok (.aaload, 1) := by decide +kernel
theorem dX11_awaited_23 : decode cX11_awaited 23 = .ok (.iload_n 2, 1) := by decide +kernel
theorem dX11_awaited_24 : decode cX11_awaited 24 = .ok (.aload_n 0, 1) := by decide +kernel
theorem dX11_awaited_25 : decode cX11_awaited 25 = .ok (.getfield 19, 3) := by decide +kernel
theorem dX11_awaited_28 : decode cX11_awaited 28 = .ok (.getfield 226, 3) := by decide +kernel
theorem dX11_awaited_31 : decode cX11_awaited 31 = .ok (.invokevirtual 280, 3) := by decide +kernel
theorem dX11_awaited_34 : decode cX11_awaited 34 = .ok (.ireturn, 1) := by decide +kernel
theorem dX11_say_0 : decode cX11_say 0 = .ok (.aload_n 0, 1) := by decide +kernel
theorem dX11_say_1 : decode cX11_say 1 = .ok (.iload_n 1, 1) := by decide +kernel
theorem dX11_say_2 : decode cX11_say 2 = .ok (.iload_n 2, 1) := by decide +kernel
theorem dX11_say_3 : decode cX11_say 3 = .ok (.invokevirtual 176, 3) := by decide +kernel
theorem dX11_say_6 : decode cX11_say 6 = .ok (.iload_n 3, 1) := by decide +kernel
theorem dX11_say_7 : decode cX11_say 7 = .ok (.iconst (-1), 1) := by decide +kernel
theorem dX11_say_8 : decode cX11_say 8 = .ok (.if_icmp .lt 9, 3) := by decide +kernel
theorem dX11_say_11 : decode cX11_say 11 = .ok (.iload_n 3, 1) := by decide +kernel
theorem dX11_say_12 : decode cX11_say 12 = .ok (.bipush 52, 2) := by decide +kernel
theorem dX11_say_14 : decode cX11_say 14 = .ok (.if_icmp .lt 14, 3) := by decide +kernel
theorem dX11_say_17 : decode cX11_say 17 = .ok (.new 124, 3) := by decide +kernel
theorem dX11_say_20 : decode cX11_say 20 = .ok (.dup, 1) := by decide +kernel
theorem dX11_say_21 : decode cX11_say 21 = .ok (.ldc_w 283, 3) := by decide +kernel
theorem dX11_say_24 : decode cX11_say 24 = .ok (.invokespecial 128, 3) := by decide +kernel
theorem dX11_say_27 : decode cX11_say 27 = .ok (.athrow, 1) := by decide +kernel
theorem dX11_say_28 : decode cX11_say 28 = .ok (.aload_n 0, 1) := by decide +kernel
theorem dX11_say_29 : decode cX11_say 29 = .ok (.iload_n 1, 1) := by decide +kernel
theorem dX11_say_30 : decode cX11_say 30 = .ok (.invokevirtual 234, 3) := by decide +kernel
theorem dX11_say_33 : decode cX11_say 33 = .ok (.aload_n 0, 1) := by decide +kernel
theorem dX11_say_34 : decode cX11_say 34 = .ok (.getfield 19, 3) := by decide +kernel
theorem dX11_say_37 : decode cX11_say 37 = .ok (.getfield 166, 3) := by decide +kernel
theorem dX11_say_40 : decode cX11_say 40 = .ok (.iload_n 1, 1) := by decide +kernel
theorem dX11_say_41 : decode cX11_say 41 = .ok (.aaload, 1) := by decide +kernel
theorem dX11_say_42 : decode cX11_say 42 = .ok (.getfield 265, 3) := by decide +kernel
theorem dX11_say_45 : decode cX11_say 45 = .ok (.iload_n 2, 1) := by decide +kernel
theorem dX11_say_46 : decode cX11_say 46 = .ok (.iload_n 3, 1) := by decide +kernel
theorem dX11_say_47 : decode cX11_say 47 = .ok (.iastore, 1) := by decide +kernel
theorem dX11_say_48 : decode cX11_say 48 = .ok (.aload_n 0, 1) := by decide +kernel
theorem dX11_say_49 : decode cX11_say 49 = .ok (.getfield 44, 3) := by decide +kernel
theorem dX11_say_52 : decode cX11_say 52 = .ok (.iload_n 1, 1) := by decide +kernel
theorem dX11_say_53 : decode cX11_say 53 = .ok (.iload_n 2, 1) := by decide +kernel
theorem dX11_say_54 : decode cX11_say 54 = .ok (.invokevirtual 285, 3) := by decide +kernel
theorem dX11_say_57 : decode cX11_say 57 = .ok (.ireturn, 1) := by decide +kernel
theorem dX11_kind_0 : decode cX11_kind 0 = .ok (.aload_n 0, 1) := by decide +kernel
theorem dX11_kind_1 : decode cX11_kind 1 = .ok (.iload_n 1, 1) := by decide +kernel
theorem dX11_kind_2 : decode cX11_kind 2 = .ok (.iload_n 2, 1) := by decide +kernel
theorem dX11_kind_3 : decode cX11_kind 3 = .ok (.invokevirtual 176, 3) := by decide +kernel
theorem dX11_kind_6 : decode cX11_kind 6 = .ok (.aload_n 0, 1) := by decide +kernel
theorem dX11_kind_7 : decode cX11_kind 7 = .ok (.iload_n 1, 1) := by decide +kernel
theorem dX11_kind_8 : decode cX11_kind 8 = .ok (.invokevirtual 234, 3) := by decide +kernel
theorem dX11_kind_11 : decode cX11_kind 11 = .ok (.aload_n 0, 1) := by decide +kernel
theorem dX11_kind_12 : decode cX11_kind 12 = .ok (.getfield 44, 3) := by decide +kernel
theorem dX11_kind_15 : decode cX11_kind 15 = .ok (.iload_n 1, 1) := by decide +kernel
theorem dX11_kind_16 : decode cX11_kind 16 = .ok (.iload_n 2, 1) := by decide +kernel
theorem dX11_kind_17 : decode cX11_kind 17 = .ok (.invokevirtual 285, 3) := by decide +kernel
theorem dX11_kind_20 : decode cX11_kind 20 = .ok (.ireturn, 1) := by decide +kernel
theorem dX11_run_0 : decode cX11_run 0 = .ok (.aload_n 0, 1) := by decide +kernel
theorem dX11_run_1 : decode cX11_run 1 = .ok (.iload_n 1, 1) := by decide +kernel
theorem dX11_run_2 : decode cX11_run 2 = .ok (.invokevirtual 273, 3) := by decide +kernel
theorem dX11_run_5 : decode cX11_run 5 = .ok (.aload_n 0, 1) := by decide +kernel
theorem dX11_run_6 : decode cX11_run 6 = .ok (.iload_n 2, 1) := by decide +kernel
theorem dX11_run_7 : decode cX11_run 7 = .ok (.invokevirtual 234, 3) := by decide +kernel
theorem dX11_run_10 : decode cX11_run 10 = .ok (.aload_n 0, 1) := by decide +kernel
theorem dX11_run_11 : decode cX11_run 11 = .ok (.getfield 19, 3) := by decide +kernel
theorem dX11_run_14 : decode cX11_run 14 = .ok (.getfield 166, 3) := by decide +kernel
theorem dX11_run_17 : decode cX11_run 17 = .ok (.iload_n 2, 1) := by decide +kernel
theorem dX11_run_18 : decode cX11_run 18 = .ok (.aaload, 1) := by decide +kernel
theorem dX11_run_19 : decode cX11_run 19 = .ok (.astore 4, 2) := by decide +kernel
theorem dX11_run_21 : decode cX11_run 21 = .ok (.iload_n 3, 1) := by decide +kernel
theorem dX11_run_22 : decode cX11_run 22 = .ok (.istore 5, 2) := by decide +kernel
theorem dX11_run_24 : decode cX11_run 24 = .ok (.iconst 0, 1) := by decide +kernel
theorem dX11_run_25 : decode cX11_run 25 = .ok (.istore 6, 2) := by decide +kernel
theorem dX11_run_27 : decode cX11_run 27 = .ok (.iload 6, 2) := by decide +kernel
theorem dX11_run_29 : decode cX11_run 29 = .ok (.aload 4, 2) := by decide +kernel
theorem dX11_run_31 : decode cX11_run 31 = .ok (.getfield 288, 3) := by decide +kernel
theorem dX11_run_34 : decode cX11_run 34 = .ok (.if_icmp .ge 94, 3) := by decide +kernel
theorem dX11_run_37 : decode cX11_run 37 = .ok (.iload 5, 2) := by decide +kernel
theorem dX11_run_39 : decode cX11_run 39 = .ok (.invokestatic 291, 3) := by decide +kernel
theorem dX11_run_42 : decode cX11_run 42 = .ok (.istore 5, 2) := by decide +kernel
theorem dX11_run_44 : decode cX11_run 44 = .ok (.iload 5, 2) := by decide +kernel
theorem dX11_run_46 : decode cX11_run 46 = .ok (.invokestatic 294, 3) := by decide +kernel
theorem dX11_run_49 : decode cX11_run 49 = .ok (.bipush 100, 2) := by decide +kernel
theorem dX11_run_51 : decode cX11_run 51 = .ok (.irem, 1) := by decide +kernel
theorem dX11_run_52 : decode cX11_run 52 = .ok (.aload_n 0, 1) := by decide +kernel
theorem dX11_run_53 : decode cX11_run 53 = .ok (.getfield 35, 3) := by decide +kernel
theorem dX11_run_56 : decode cX11_run 56 = .ok (.aload_n 0, 1) := by decide +kernel
theorem dX11_run_57 : decode cX11_run 57 = .ok (.getfield 19, 3) := by decide +kernel
theorem dX11_run_60 : decode cX11_run 60 = .ok (.getfield 107, 3) := by decide +kernel
theorem dX11_run_63 : decode cX11_run 63 = .ok (.iload_n 1, 1) := by decide +kernel
theorem dX11_run_64 : decode cX11_run 64 = .ok (.aaload, 1) := by decide +kernel
theorem dX11_run_65 : decode cX11_run 65 = .ok (.iload_n 2, 1) := by decide +kernel
theorem dX11_run_66 : decode cX11_run 66 = .ok (.iload 6, 2) := by decide +kernel
theorem dX11_run_68 : decode cX11_run 68 = .ok (.invokevirtual 276, 3) := by decide +kernel
theorem dX11_run_71 : decode cX11_run 71 = .ok (.if_icmp .ge 21, 3) := by decide +kernel
theorem dX11_run_74 : decode cX11_run 74 = .ok (.aload 4, 2) := by decide +kernel
theorem dX11_run_76 : decode cX11_run 76 = .ok (.getfield 265, 3) := by decide +kernel
theorem dX11_run_79 : decode cX11_run 79 = .ok (.iload 6, 2) := by decide +kernel
theorem dX11_run_81 : decode cX11_run 81 = .ok (.aload 4, 2) := by decide +kernel
theorem dX11_run_83 : decode cX11_run 83 = .ok (.iload 6, 2) := by decide +kernel
theorem dX11_run_85 : decode cX11_run 85 = .ok (.invokevirtual 179, 3) := by decide +kernel
theorem dX11_run_88 : decode cX11_run 88 = .ok (.iastore, 1) := by decide +kernel
theorem dX11_run_89 : decode cX11_run 89 = .ok (.goto 33, 3) := by decide +kernel
theorem dX11_run_92 : decode cX11_run 92 = .ok (.iload 5, 2) := by decide +kernel
theorem dX11_run_94 : decode cX11_run 94 = .ok (.invokestatic 291, 3) := by decide +kernel
theorem dX11_run_97 : decode cX11_run 97 = .ok (.istore 5, 2) := by decide +kernel
theorem dX11_run_99 : decode cX11_run 99 = .ok (.aload 4, 2) := by decide +kernel
theorem dX11_run_101 : decode cX11_run 101 = .ok (.getfield 265, 3) := by decide +kernel
theorem dX11_run_104 : decode cX11_run 104 = .ok (.iload 6, 2) := by decide +kernel
theorem dX11_run_106 : decode cX11_run 106 = .ok (.aload_n 0, 1) := by decide +kernel
theorem dX11_run_107 : decode cX11_run 107 = .ok (.getfield 44, 3) := by decide +kernel
theorem dX11_run_110 : decode cX11_run 110 = .ok (.iload_n 2, 1) := by decide +kernel
theorem dX11_run_111 : decode cX11_run 111 = .ok (.iload 6, 2) := by decide +kernel
theorem dX11_run_113 : decode cX11_run 113 = .ok (.iload 5, 2) := by decide +kernel
theorem dX11_run_115 : decode cX11_run 115 = .ok (.invokestatic 294, 3) := by decide +kernel
theorem dX11_run_118 : decode cX11_run 118 = .ok (.invokevirtual 297, 3) := by decide +kernel
theorem dX11_run_121 : decode cX11_run 121 = .ok (.iastore, 1) := by decide +kernel
theorem dX11_run_122 : decode cX11_run 122 = .ok (.iinc 6 1, 3) := by decide +kernel
theorem dX11_run_125 : decode cX11_run 125 = .ok (.goto (-98), 3) := by decide +kernel
theorem dX11_run_128 : decode cX11_run 128 = .ok (.aload 4, 2) := by decide +kernel
theorem dX11_run_130 : decode cX11_run 130 = .ok (.invokevirtual 301, 3) := by decide +kernel
theorem dX11_run_133 : decode cX11_run 133 = .ok (.ireturn, 1) := by decide +kernel
theorem dX11_odds_0 : decode cX11_odds 0 = .ok (.aload_n 0, 1) := by decide +kernel
theorem dX11_odds_1 : decode cX11_odds 1 = .ok (.iload_n 1, 1) := by decide +kernel
theorem dX11_odds_2 : decode cX11_odds 2 = .ok (.invokevirtual 273, 3) := by decide +kernel
theorem dX11_odds_5 : decode cX11_odds 5 = .ok (.aload_n 0, 1) := by decide +kernel
theorem dX11_odds_6 : decode cX11_odds 6 = .ok (.iload_n 2, 1) := by decide +kernel
theorem dX11_odds_7 : decode cX11_odds 7 = .ok (.iload_n 3, 1) := by decide +kernel
theorem dX11_odds_8 : decode cX11_odds 8 = .ok (.invokevirtual 176, 3) := by decide +kernel
theorem dX11_odds_11 : decode cX11_odds 11 = .ok (.aload_n 0, 1) := by decide +kernel
theorem dX11_odds_12 : decode cX11_odds 12 = .ok (.iload_n 2, 1) := by decide +kernel
theorem dX11_odds_13 : decode cX11_odds 13 = .ok (.invokevirtual 234, 3) := by decide +kernel
theorem dX11_odds_16 : decode cX11_odds 16 = .ok (.iload 4, 2) := by decide +kernel
theorem dX11_odds_18 : decode cX11_odds 18 = .ok (.ifCond .lt 9, 3) := by decide +kernel
theorem dX11_odds_21 : decode cX11_odds 21 = .ok (.iload 4, 2) := by decide +kernel
theorem dX11_odds_23 : decode cX11_odds 23 = .ok (.iconst 5, 1) := by decide +kernel
theorem dX11_odds_24 : decode cX11_odds 24 = .ok (.if_icmp .le 14, 3) := by decide +kernel
theorem dX11_odds_27 : decode cX11_odds 27 = .ok (.new 92, 3) := by decide +kernel
theorem dX11_odds_30 : decode cX11_odds 30 = .ok (.dup, 1) := by decide +kernel
theorem dX11_odds_31 : decode cX11_odds 31 = .ok (.ldc_w 304, 3) := by decide +kernel
theorem dX11_odds_34 : decode cX11_odds 34 = .ok (.invokespecial 96, 3) := by decide +kernel
theorem dX11_odds_37 : decode cX11_odds 37 = .ok (.athrow, 1) := by decide +kernel
theorem dX11_odds_38 : decode cX11_odds 38 = .ok (.aload_n 0, 1) := by decide +kernel
theorem dX11_odds_39 : decode cX11_odds 39 = .ok (.getfield 35, 3) := by decide +kernel
theorem dX11_odds_42 : decode cX11_odds 42 = .ok (.aload_n 0, 1) := by decide +kernel
theorem dX11_odds_43 : decode cX11_odds 43 = .ok (.getfield 19, 3) := by decide +kernel
theorem dX11_odds_46 : decode cX11_odds 46 = .ok (.getfield 107, 3) := by decide +kernel
theorem dX11_odds_49 : decode cX11_odds 49 = .ok (.iload_n 1, 1) := by decide +kernel
theorem dX11_odds_50 : decode cX11_odds 50 = .ok (.aaload, 1) := by decide +kernel
theorem dX11_odds_51 : decode cX11_odds 51 = .ok (.iload_n 2, 1) := by decide +kernel
theorem dX11_odds_52 : decode cX11_odds 52 = .ok (.iload_n 3, 1) := by decide +kernel
theorem dX11_odds_53 : decode cX11_odds 53 = .ok (.invokevirtual 276, 3) := by decide +kernel
theorem dX11_odds_56 : decode cX11_odds 56 = .ok (.istore 6, 2) := by decide +kernel
theorem dX11_odds_58 : decode cX11_odds 58 = .ok (.iload 6, 2) := by decide +kernel
theorem dX11_odds_60 : decode cX11_odds 60 = .ok (.i2l, 1) := by decide +kernel
theorem dX11_odds_61 : decode cX11_odds 61 = .ok (.lstore 7, 2) := by decide +kernel
theorem dX11_odds_63 : decode cX11_odds 63 = .ok (.ldc2_w 306, 3) := by decide +kernel
theorem dX11_odds_66 : decode cX11_odds 66 = .ok (.lstore 9, 2) := by decide +kernel
theorem dX11_odds_68 : decode cX11_odds 68 = .ok (.iload 4, 2) := by decide +kernel
theorem dX11_odds_70 : decode cX11_odds 70 = .ok (.ifCond .eq 43, 3) := by decide +kernel
theorem dX11_odds_73 : decode cX11_odds 73 = .ok (.aload_n 0, 1) := by decide +kernel
theorem dX11_odds_74 : decode cX11_odds 74 = .ok (.getfield 44, 3) := by decide +kernel
theorem dX11_odds_77 : decode cX11_odds 77 = .ok (.iload_n 2, 1) := by decide +kernel
theorem dX11_odds_78 : decode cX11_odds 78 = .ok (.iload_n 3, 1) := by decide +kernel
theorem dX11_odds_79 : decode cX11_odds 79 = .ok (.invokevirtual 308, 3) := by decide +kernel
theorem dX11_odds_82 : decode cX11_odds 82 = .ok (.bipush 100, 2) := by decide +kernel
theorem dX11_odds_84 : decode cX11_odds 84 = .ok (.iload 6, 2) := by decide +kernel
theorem dX11_odds_86 : decode cX11_odds 86 = .ok (.isub, 1) := by decide +kernel
theorem dX11_odds_87 : decode cX11_odds 87 = .ok (.aload_n 0, 1) := by decide +kernel
theorem dX11_odds_88 : decode cX11_odds 88 = .ok (.getfield 44, 3) := by decide +kernel
theorem dX11_odds_91 : decode cX11_odds 91 = .ok (.iload 4, 2) := by decide +kernel
theorem dX11_odds_93 : decode cX11_odds 93 = .ok (.invokevirtual 311, 3) := by decide +kernel
theorem dX11_odds_96 : decode cX11_odds 96 = .ok (.imul, 1) := by decide +kernel
theorem dX11_odds_97 : decode cX11_odds 97 = .ok (.i2l, 1) := by decide +kernel
theorem dX11_odds_98 : decode cX11_odds 98 = .ok (.lstore 7, 2) := by decide +kernel
theorem dX11_odds_100 : decode cX11_odds 100 = .ok (.bipush 100, 2) := by decide +kernel
theorem dX11_odds_102 : decode cX11_odds 102 = .ok (.aload_n 0, 1) := by decide +kernel
theorem dX11_odds_103 : decode cX11_odds 103 = .ok (.getfield 44, 3) := by decide +kernel
theorem dX11_odds_106 : decode cX11_odds 106 = .ok (.invokevirtual 314, 3) := by decide +kernel
theorem dX11_odds_109 : decode cX11_odds 109 = .ok (.imul, 1) := by decide +kernel
theorem dX11_odds_110 : decode cX11_odds 110 = .ok (.i2l, 1) := by decide +kernel
theorem dX11_odds_111 : decode cX11_odds 111 = .ok (.lstore 9, 2) := by decide +kernel
theorem dX11_odds_113 : decode cX11_odds 113 = .ok (.lload 7, 2) := by decide +kernel
theorem dX11_odds_115 : decode cX11_odds 115 = .ok (.lload 9, 2) := by decide +kernel
theorem dX11_odds_117 : decode cX11_odds 117 = .ok (.invokestatic 317, 3) := by decide +kernel
theorem dX11_odds_120 : decode cX11_odds 120 = .ok (.lstore 11, 2) := by decide +kernel
theorem dX11_odds_122 : decode cX11_odds 122 = .ok (.iload 5, 2) := by decide +kernel
theorem dX11_odds_124 : decode cX11_odds 124 = .ok (.ifCond .eq 8, 3) := by decide +kernel
theorem dX11_odds_127 : decode cX11_odds 127 = .ok (.lload 9, 2) := by decide +kernel
theorem dX11_odds_129 : decode cX11_odds 129 = .ok (.goto 5, 3) := by decide +kernel
theorem dX11_odds_132 : decode cX11_odds 132 = .ok (.lload 7, 2) := by decide +kernel
theorem dX11_odds_134 : decode cX11_odds 134 = .ok (.lload 11, 2) := by decide +kernel
theorem dX11_odds_136 : decode cX11_odds 136 = .ok (.ldiv, 1) := by decide +kernel
theorem dX11_odds_137 : decode cX11_odds 137 = .ok (.l2i, 1) := by decide +kernel
theorem dX11_odds_138 : decode cX11_odds 138 = .ok (.ireturn, 1) := by decide +kernel
theorem dX11_kinds_0 : decode cX11_kinds 0 = .ok (.aload_n 0, 1) := by decide +kernel
theorem dX11_kinds_1 : decode cX11_kinds 1 = .ok (.iload_n 1, 1) := by decide +kernel
theorem dX11_kinds_2 : decode cX11_kinds 2 = .ok (.invokevirtual 234, 3) := by decide +kernel
theorem dX11_kinds_5 : decode cX11_kinds 5 = .ok (.iload_n 2, 1) := by decide +kernel
theorem dX11_kinds_6 : decode cX11_kinds 6 = .ok (.ifCond .lt 9, 3) := by decide +kernel
theorem dX11_kinds_9 : decode cX11_kinds 9 = .ok (.iload_n 2, 1) := by decide +kernel
theorem dX11_kinds_10 : decode cX11_kinds 10 = .ok (.bipush 6, 2) := by decide +kernel
theorem dX11_kinds_12 : decode cX11_kinds 12 = .ok (.if_icmp .le 14, 3) := by decide +kernel
theorem dX11_kinds_15 : decode cX11_kinds 15 = .ok (.new 92, 3) := by decide +kernel
theorem dX11_kinds_18 : decode cX11_kinds 18 = .ok (.dup, 1) := by decide +kernel
theorem dX11_kinds_19 : decode cX11_kinds 19 = .ok (.ldc_w 321, 3) := by decide +kernel
theorem dX11_kinds_22 : decode cX11_kinds 22 = .ok (.invokespecial 96, 3) := by decide +kernel
theorem dX11_kinds_25 : decode cX11_kinds 25 = .ok (.athrow, 1) := by decide +kernel
theorem dX11_kinds_26 : decode cX11_kinds 26 = .ok (.iconst 0, 1) := by decide +kernel
theorem dX11_kinds_27 : decode cX11_kinds 27 = .ok (.istore_n 3, 1) := by decide +kernel
theorem dX11_kinds_28 : decode cX11_kinds 28 = .ok (.iconst 0, 1) := by decide +kernel
theorem dX11_kinds_29 : decode cX11_kinds 29 = .ok (.istore 4, 2) := by decide +kernel
theorem dX11_kinds_31 : decode cX11_kinds 31 = .ok (.iload 4, 2) := by decide +kernel
theorem dX11_kinds_33 : decode cX11_kinds 33 = .ok (.aload_n 0, 1) := by decide +kernel
theorem dX11_kinds_34 : decode cX11_kinds 34 = .ok (.getfield 19, 3) := by decide +kernel
theorem dX11_kinds_37 : decode cX11_kinds 37 = .ok (.getfield 166, 3) := by decide +kernel
theorem dX11_kinds_40 : decode cX11_kinds 40 = .ok (.iload_n 1, 1) := by decide +kernel
theorem dX11_kinds_41 : decode cX11_kinds 41 = .ok (.aaload, 1) := by decide +kernel
theorem dX11_kinds_42 : decode cX11_kinds 42 = .ok (.getfield 288, 3) := by decide +kernel
theorem dX11_kinds_45 : decode cX11_kinds 45 = .ok (.if_icmp .ge 26, 3) := by decide +kernel
theorem dX11_kinds_48 : decode cX11_kinds 48 = .ok (.aload_n 0, 1) := by decide +kernel
theorem dX11_kinds_49 : decode cX11_kinds 49 = .ok (.getfield 44, 3) := by decide +kernel
theorem dX11_kinds_52 : decode cX11_kinds 52 = .ok (.iload_n 1, 1) := by decide +kernel
theorem dX11_kinds_53 : decode cX11_kinds 53 = .ok (.iload 4, 2) := by decide +kernel
theorem dX11_kinds_55 : decode cX11_kinds 55 = .ok (.invokevirtual 285, 3) := by decide +kernel
theorem dX11_kinds_58 : decode cX11_kinds 58 = .ok (.iload_n 2, 1) := by decide +kernel
theorem dX11_kinds_59 : decode cX11_kinds 59 = .ok (.if_icmp .ne 6, 3) := by decide +kernel
theorem dX11_kinds_62 : decode cX11_kinds 62 = .ok (.iinc 3 1, 3) := by decide +kernel
theorem dX11_kinds_65 : decode cX11_kinds 65 = .ok (.iinc 4 1, 3) := by decide +kernel
theorem dX11_kinds_68 : decode cX11_kinds 68 = .ok (.goto (-37), 3) := by decide +kernel
theorem dX11_kinds_71 : decode cX11_kinds 71 = .ok (.iload_n 3, 1) := by decide +kernel
theorem dX11_kinds_72 : decode cX11_kinds 72 = .ok (.ireturn, 1) := by decide +kernel
theorem dX11_score_0 : decode cX11_score 0 = .ok (.aload_n 0, 1) := by decide +kernel
theorem dX11_score_1 : decode cX11_score 1 = .ok (.iload_n 1, 1) := by decide +kernel
theorem dX11_score_2 : decode cX11_score 2 = .ok (.invokevirtual 323, 3) := by decide +kernel
theorem dX11_score_5 : decode cX11_score 5 = .ok (.aload_n 0, 1) := by decide +kernel
theorem dX11_score_6 : decode cX11_score 6 = .ok (.iload_n 2, 1) := by decide +kernel
theorem dX11_score_7 : decode cX11_score 7 = .ok (.invokevirtual 234, 3) := by decide +kernel
theorem dX11_score_10 : decode cX11_score 10 = .ok (.aload_n 0, 1) := by decide +kernel
theorem dX11_score_11 : decode cX11_score 11 = .ok (.getfield 19, 3) := by decide +kernel
theorem dX11_score_14 : decode cX11_score 14 = .ok (.getfield 166, 3) := by decide +kernel
theorem dX11_score_17 : decode cX11_score 17 = .ok (.iload_n 2, 1) := by decide +kernel
theorem dX11_score_18 : decode cX11_score 18 = .ok (.aaload, 1) := by decide +kernel
theorem dX11_score_19 : decode cX11_score 19 = .ok (.astore_n 3, 1) := by decide +kernel
theorem dX11_score_20 : decode cX11_score 20 = .ok (.aload_n 0, 1) := by decide +kernel
theorem dX11_score_21 : decode cX11_score 21 = .ok (.getfield 26, 3) := by decide +kernel
theorem dX11_score_24 : decode cX11_score 24 = .ok (.aload_n 0, 1) := by decide +kernel
theorem dX11_score_25 : decode cX11_score 25 = .ok (.getfield 19, 3) := by decide +kernel
theorem dX11_score_28 : decode cX11_score 28 = .ok (.getfield 118, 3) := by decide +kernel
theorem dX11_score_31 : decode cX11_score 31 = .ok (.iload_n 1, 1) := by decide +kernel
theorem dX11_score_32 : decode cX11_score 32 = .ok (.aaload, 1) := by decide +kernel
theorem dX11_score_33 : decode cX11_score 33 = .ok (.aload_n 3, 1) := by decide +kernel
theorem dX11_score_34 : decode cX11_score 34 = .ok (.invokevirtual 301, 3) := by decide +kernel
theorem dX11_score_37 : decode cX11_score 37 = .ok (.aload_n 3, 1) := by decide +kernel
theorem dX11_score_38 : decode cX11_score 38 = .ok (.invokevirtual 326, 3) := by decide +kernel
theorem dX11_score_41 : decode cX11_score 41 = .ok (.aload_n 3, 1) := by decide +kernel
theorem dX11_score_42 : decode cX11_score 42 = .ok (.getfield 288, 3) := by decide +kernel
theorem dX11_score_45 : decode cX11_score 45 = .ok (.invokevirtual 329, 3) := by decide +kernel
theorem dX11_score_48 : decode cX11_score 48 = .ok (.l2i, 1) := by decide +kernel
theorem dX11_score_49 : decode cX11_score 49 = .ok (.ireturn, 1) := by decide +kernel
theorem dX11_fits_0 : decode cX11_fits 0 = .ok (.aload_n 0, 1) := by decide +kernel
theorem dX11_fits_1 : decode cX11_fits 1 = .ok (.iload_n 1, 1) := by decide +kernel
theorem dX11_fits_2 : decode cX11_fits 2 = .ok (.invokevirtual 234, 3) := by decide +kernel
theorem dX11_fits_5 : decode cX11_fits 5 = .ok (.iload_n 2, 1) := by decide +kernel
theorem dX11_fits_6 : decode cX11_fits 6 = .ok (.ifCond .lt 10, 3) := by decide +kernel
theorem dX11_fits_9 : decode cX11_fits 9 = .ok (.iload_n 2, 1) := by decide +kernel
theorem dX11_fits_10 : decode cX11_fits 10 = .ok (.sipush 5200, 3) := by decide +kernel
theorem dX11_fits_13 : decode cX11_fits 13 = .ok (.if_icmp .le 14, 3) := by decide +kernel
theorem dX11_fits_16 : decode cX11_fits 16 = .ok (.new 92, 3) := by decide +kernel
theorem dX11_fits_19 : decode cX11_fits 19 = .ok (.dup, 1) := by decide +kernel
theorem dX11_fits_20 : decode cX11_fits 20 = .ok (.ldc_w 333, 3) := by decide +kernel
theorem dX11_fits_23 : decode cX11_fits 23 = .ok (.invokespecial 96, 3) := by decide +kernel
theorem dX11_fits_26 : decode cX11_fits 26 = .ok (.athrow, 1) := by decide +kernel
theorem dX11_fits_27 : decode cX11_fits 27 = .ok (.bipush 100, 2) := by decide +kernel
theorem dX11_fits_29 : decode cX11_fits 29 = .ok (.aload_n 0, 1) := by decide +kernel
theorem dX11_fits_30 : decode cX11_fits 30 = .ok (.getfield 19, 3) := by decide +kernel
theorem dX11_fits_33 : decode cX11_fits 33 = .ok (.getfield 166, 3) := by decide +kernel
theorem dX11_fits_36 : decode cX11_fits 36 = .ok (.iload_n 1, 1) := by decide +kernel
theorem dX11_fits_37 : decode cX11_fits 37 = .ok (.aaload, 1) := by decide +kernel
theorem dX11_fits_38 : decode cX11_fits 38 = .ok (.invokevirtual 301, 3) := by decide +kernel
theorem dX11_fits_41 : decode cX11_fits 41 = .ok (.imul, 1) := by decide +kernel
theorem dX11_fits_42 : decode cX11_fits 42 = .ok (.istore_n 3, 1) := by decide +kernel
theorem dX11_fits_43 : decode cX11_fits 43 = .ok (.iconst 0, 1) := by decide +kernel
theorem dX11_fits_44 : decode cX11_fits 44 = .ok (.istore 4, 2) := by decide +kernel
theorem dX11_fits_46 : decode cX11_fits 46 = .ok (.iconst 0, 1) := by decide +kernel
theorem dX11_fits_47 : decode cX11_fits 47 = .ok (.istore 5, 2) := by decide +kernel
theorem dX11_fits_49 : decode cX11_fits 49 = .ok (.iload 5, 2) := by decide +kernel
theorem dX11_fits_51 : decode cX11_fits 51 = .ok (.aload_n 0, 1) := by decide +kernel
theorem dX11_fits_52 : decode cX11_fits 52 = .ok (.getfield 19, 3) := by decide +kernel
theorem dX11_fits_55 : decode cX11_fits 55 = .ok (.getfield 99, 3) := by decide +kernel
theorem dX11_fits_58 : decode cX11_fits 58 = .ok (.if_icmp .ge 52, 3) := by decide +kernel
theorem dX11_fits_61 : decode cX11_fits 61 = .ok (.aload_n 0, 1) := by decide +kernel
theorem dX11_fits_62 : decode cX11_fits 62 = .ok (.getfield 35, 3) := by decide +kernel
theorem dX11_fits_65 : decode cX11_fits 65 = .ok (.aload_n 0, 1) := by decide +kernel
theorem dX11_fits_66 : decode cX11_fits 66 = .ok (.getfield 19, 3) := by decide +kernel
theorem dX11_fits_69 : decode cX11_fits 69 = .ok (.getfield 107, 3) := by decide +kernel
theorem dX11_fits_72 : decode cX11_fits 72 = .ok (.iload 5, 2) := by decide +kernel
theorem dX11_fits_74 : decode cX11_fits 74 = .ok (.aaload, 1) := by decide +kernel
theorem dX11_fits_75 : decode cX11_fits 75 = .ok (.iload_n 1, 1) := by decide +kernel
theorem dX11_fits_76 : decode cX11_fits 76 = .ok (.aload_n 0, 1) := by decide +kernel
theorem dX11_fits_77 : decode cX11_fits 77 = .ok (.getfield 19, 3) := by decide +kernel
theorem dX11_fits_80 : decode cX11_fits 80 = .ok (.getfield 226, 3) := by decide +kernel
theorem dX11_fits_83 : decode cX11_fits 83 = .ok (.invokevirtual 280, 3) := by decide +kernel
theorem dX11_fits_86 : decode cX11_fits 86 = .ok (.iload_n 3, 1) := by decide +kernel
theorem dX11_fits_87 : decode cX11_fits 87 = .ok (.isub, 1) := by decide +kernel
theorem dX11_fits_88 : decode cX11_fits 88 = .ok (.invokestatic 335, 3) := by decide +kernel
theorem dX11_fits_91 : decode cX11_fits 91 = .ok (.iload_n 2, 1) := by decide +kernel
theorem dX11_fits_92 : decode cX11_fits 92 = .ok (.if_icmp .gt 12, 3) := by decide +kernel
theorem dX11_fits_95 : decode cX11_fits 95 = .ok (.iload 4, 2) := by decide +kernel
theorem dX11_fits_97 : decode cX11_fits 97 = .ok (.iconst 1, 1) := by decide +kernel
theorem dX11_fits_98 : decode cX11_fits 98 = .ok (.iload 5, 2) := by decide +kernel
theorem dX11_fits_100 : decode cX11_fits 100 = .ok (.ishl, 1) := by decide +kernel
theorem dX11_fits_101 : decode cX11_fits 101 = .ok (.ior, 1) := by decide +kernel
theorem dX11_fits_102 : decode cX11_fits 102 = .ok (.istore 4, 2) := by decide +kernel
theorem dX11_fits_104 : decode cX11_fits 104 = .ok (.iinc 5 1, 3) := by decide +kernel
theorem dX11_fits_107 : decode cX11_fits 107 = .ok (.goto (-58), 3) := by decide +kernel
theorem dX11_fits_110 : decode cX11_fits 110 = .ok (.iload 4, 2) := by decide +kernel
theorem dX11_fits_112 : decode cX11_fits 112 = .ok (.ireturn, 1) := by decide +kernel
theorem dX11_lacks_0 : decode cX11_lacks 0 = .ok (.aload_n 0, 1) := by decide +kernel
theorem dX11_lacks_1 : decode cX11_lacks 1 = .ok (.iload_n 1, 1) := by decide +kernel
theorem dX11_lacks_2 : decode cX11_lacks 2 = .ok (.invokevirtual 234, 3) := by decide +kernel
theorem dX11_lacks_5 : decode cX11_lacks 5 = .ok (.iload_n 2, 1) := by decide +kernel
theorem dX11_lacks_6 : decode cX11_lacks 6 = .ok (.iconst (-1), 1) := by decide +kernel
theorem dX11_lacks_7 : decode cX11_lacks 7 = .ok (.if_icmp .ge 14, 3) := by decide +kernel
theorem dX11_lacks_10 : decode cX11_lacks 10 = .ok (.new 92, 3) := by decide +kernel
theorem dX11_lacks_13 : decode cX11_lacks 13 = .ok (.dup, 1) := by decide +kernel
theorem dX11_lacks_14 : decode cX11_lacks 14 = .ok (.ldc_w 340, 3) := by decide +kernel
theorem dX11_lacks_17 : decode cX11_lacks 17 = .ok (.invokespecial 96, 3) := by decide +kernel
theorem dX11_lacks_20 : decode cX11_lacks 20 = .ok (.athrow, 1) := by decide +kernel
theorem dX11_lacks_21 : decode cX11_lacks 21 = .ok (.aload_n 0, 1) := by decide +kernel
theorem dX11_lacks_22 : decode cX11_lacks 22 = .ok (.getfield 19, 3) := by decide +kernel
theorem dX11_lacks_25 : decode cX11_lacks 25 = .ok (.getfield 166, 3) := by decide +kernel
theorem dX11_lacks_28 : decode cX11_lacks 28 = .ok (.iload_n 1, 1) := by decide +kernel
theorem dX11_lacks_29 : decode cX11_lacks 29 = .ok (.aaload, 1) := by decide +kernel
theorem dX11_lacks_30 : decode cX11_lacks 30 = .ok (.astore_n 3, 1) := by decide +kernel
theorem dX11_lacks_31 : decode cX11_lacks 31 = .ok (.iload_n 2, 1) := by decide +kernel
theorem dX11_lacks_32 : decode cX11_lacks 32 = .ok (.iconst (-1), 1) := by decide +kernel
theorem dX11_lacks_33 : decode cX11_lacks 33 = .ok (.if_icmp .ne 10, 3) := by decide +kernel
theorem dX11_lacks_36 : decode cX11_lacks 36 = .ok (.aload_n 3, 1) := by decide +kernel
theorem dX11_lacks_37 : decode cX11_lacks 37 = .ok (.invokevirtual 342, 3) := by decide +kernel
theorem dX11_lacks_40 : decode cX11_lacks 40 = .ok (.goto 8, 3) := by decide +kernel
theorem dX11_lacks_43 : decode cX11_lacks 43 = .ok (.aload_n 3, 1) := by decide +kernel
theorem dX11_lacks_44 : decode cX11_lacks 44 = .ok (.iload_n 2, 1) := by decide +kernel
theorem dX11_lacks_45 : decode cX11_lacks 45 = .ok (.invokevirtual 345, 3) := by decide +kernel
theorem dX11_lacks_48 : decode cX11_lacks 48 = .ok (.ireturn, 1) := by decide +kernel
theorem dX11_guess_0 : decode cX11_guess 0 = .ok (.aload_n 0, 1) := by decide +kernel
theorem dX11_guess_1 : decode cX11_guess 1 = .ok (.iload_n 1, 1) := by decide +kernel
theorem dX11_guess_2 : decode cX11_guess 2 = .ok (.invokevirtual 323, 3) := by decide +kernel
theorem dX11_guess_5 : decode cX11_guess 5 = .ok (.aload_n 0, 1) := by decide +kernel
theorem dX11_guess_6 : decode cX11_guess 6 = .ok (.iload_n 2, 1) := by decide +kernel
theorem dX11_guess_7 : decode cX11_guess 7 = .ok (.invokevirtual 234, 3) := by decide +kernel
theorem dX11_guess_10 : decode cX11_guess 10 = .ok (.iload_n 3, 1) := by decide +kernel
theorem dX11_guess_11 : decode cX11_guess 11 = .ok (.ifCond .lt 8, 3) := by decide +kernel
theorem dX11_guess_14 : decode cX11_guess 14 = .ok (.iload_n 3, 1) := by decide +kernel
theorem dX11_guess_15 : decode cX11_guess 15 = .ok (.iconst 2, 1) := by decide +kernel
theorem dX11_guess_16 : decode cX11_guess 16 = .ok (.if_icmp .le 14, 3) := by decide +kernel
theorem dX11_guess_19 : decode cX11_guess 19 = .ok (.new 268, 3) := by decide +kernel
theorem dX11_guess_22 : decode cX11_guess 22 = .ok (.dup, 1) := by decide +kernel
theorem dX11_guess_23 : decode cX11_guess 23 = .ok (.ldc_w 348, 3) := by decide +kernel
theorem dX11_guess_26 : decode cX11_guess 26 = .ok (.invokespecial 272, 3) := by decide +kernel
theorem dX11_guess_29 : decode cX11_guess 29 = .ok (.athrow, 1) := by decide +kernel
theorem dX11_guess_30 : decode cX11_guess 30 = .ok (.aload_n 0, 1) := by decide +kernel
theorem dX11_guess_31 : decode cX11_guess 31 = .ok (.getfield 53, 3) := by decide +kernel
theorem dX11_guess_34 : decode cX11_guess 34 = .ok (.aload_n 0, 1) := by decide +kernel
theorem dX11_guess_35 : decode cX11_guess 35 = .ok (.getfield 19, 3) := by decide +kernel
theorem dX11_guess_38 : decode cX11_guess 38 = .ok (.getfield 118, 3) := by decide +kernel
theorem dX11_guess_41 : decode cX11_guess 41 = .ok (.iload_n 1, 1) := by decide +kernel
theorem dX11_guess_42 : decode cX11_guess 42 = .ok (.aaload, 1) := by decide +kernel
theorem dX11_guess_43 : decode cX11_guess 43 = .ok (.aload_n 0, 1) := by decide +kernel
theorem dX11_guess_44 : decode cX11_guess 44 = .ok (.getfield 19, 3) := by decide +kernel
theorem dX11_guess_47 : decode cX11_guess 47 = .ok (.getfield 166, 3) := by decide +kernel
theorem dX11_guess_50 : decode cX11_guess 50 = .ok (.iload_n 2, 1) := by decide +kernel
theorem dX11_guess_51 : decode cX11_guess 51 = .ok (.aaload, 1) := by decide +kernel
theorem dX11_guess_52 : decode cX11_guess 52 = .ok (.invokevirtual 350, 3) := by decide +kernel
theorem dX11_guess_55 : decode cX11_guess 55 = .ok (.iload_n 3, 1) := by decide +kernel
theorem dX11_guess_56 : decode cX11_guess 56 = .ok (.ifCond .ne 11, 3) := by decide +kernel
theorem dX11_guess_59 : decode cX11_guess 59 = .ok (.aload_n 0, 1) := by decide +kernel
theorem dX11_guess_60 : decode cX11_guess 60 = .ok (.getfield 53, 3) := by decide +kernel
theorem dX11_guess_63 : decode cX11_guess 63 = .ok (.getfield 354, 3) := by decide +kernel
theorem dX11_guess_66 : decode cX11_guess 66 = .ok (.ireturn, 1) := by decide +kernel
theorem dX11_guess_67 : decode cX11_guess 67 = .ok (.aload_n 0, 1) := by decide +kernel
theorem dX11_guess_68 : decode cX11_guess 68 = .ok (.getfield 53, 3) := by decide +kernel
theorem dX11_guess_71 : decode cX11_guess 71 = .ok (.getfield 357, 3) := by decide +kernel
theorem dX11_guess_74 : decode cX11_guess 74 = .ok (.aload_n 0, 1) := by decide +kernel
theorem dX11_guess_75 : decode cX11_guess 75 = .ok (.getfield 53, 3) := by decide +kernel
theorem dX11_guess_78 : decode cX11_guess 78 = .ok (.getfield 361, 3) := by decide +kernel
theorem dX11_guess_81 : decode cX11_guess 81 = .ok (.invokestatic 317, 3) := by decide +kernel
theorem dX11_guess_84 : decode cX11_guess 84 = .ok (.lstore 4, 2) := by decide +kernel
theorem dX11_guess_86 : decode cX11_guess 86 = .ok (.iload_n 3, 1) := by decide +kernel
theorem dX11_guess_87 : decode cX11_guess 87 = .ok (.iconst 1, 1) := by decide +kernel
theorem dX11_guess_88 : decode cX11_guess 88 = .ok (.if_icmp .ne 13, 3) := by decide +kernel
theorem dX11_guess_91 : decode cX11_guess 91 = .ok (.aload_n 0, 1) := by decide +kernel
theorem dX11_guess_92 : decode cX11_guess 92 = .ok (.getfield 53, 3) := by decide +kernel
theorem dX11_guess_95 : decode cX11_guess 95 = .ok (.getfield 357, 3) := by decide +kernel
theorem dX11_guess_98 : decode cX11_guess 98 = .ok (.goto 10, 3) := by decide +kernel
theorem dX11_guess_101 : decode cX11_guess 101 = .ok (.aload_n 0, 1) := by decide +kernel
theorem dX11_guess_102 : decode cX11_guess 102 = .ok (.getfield 53, 3) := by decide +kernel
theorem dX11_guess_105 : decode cX11_guess 105 = .ok (.getfield 361, 3) := by decide +kernel
theorem dX11_guess_108 : decode cX11_guess 108 = .ok (.lload 4, 2) := by decide +kernel
theorem dX11_guess_110 : decode cX11_guess 110 = .ok (.ldiv, 1) := by decide +kernel
theorem dX11_guess_111 : decode cX11_guess 111 = .ok (.l2i, 1) := by decide +kernel
theorem dX11_guess_112 : decode cX11_guess 112 = .ok (.ireturn, 1) := by decide +kernel
theorem dX11_moment_0 : decode cX11_moment 0 = .ok (.iload_n 1, 1) := by decide +kernel
theorem dX11_moment_1 : decode cX11_moment 1 = .ok (.aload_n 0, 1) := by decide +kernel
theorem dX11_moment_2 : decode cX11_moment 2 = .ok (.getfield 19, 3) := by decide +kernel
theorem dX11_moment_5 : decode cX11_moment 5 = .ok (.invokevirtual 364, 3) := by decide +kernel
theorem dX11_moment_8 : decode cX11_moment 8 = .ok (.if_icmp .le 10, 3) := by decide +kernel
theorem dX11_moment_11 : decode cX11_moment 11 = .ok (.iload_n 1, 1) := by decide +kernel
theorem dX11_moment_12 : decode cX11_moment 12 = .ok (.ldc_w 367, 3) := by decide +kernel
theorem dX11_moment_15 : decode cX11_moment 15 = .ok (.if_icmp .le 14, 3) := by decide +kernel
theorem dX11_moment_18 : decode cX11_moment 18 = .ok (.new 92, 3) := by decide +kernel
theorem dX11_moment_21 : decode cX11_moment 21 = .ok (.dup, 1) := by decide +kernel
theorem dX11_moment_22 : decode cX11_moment 22 = .ok (.ldc_w 368, 3) := by decide +kernel
theorem dX11_moment_25 : decode cX11_moment 25 = .ok (.invokespecial 96, 3) := by decide +kernel
theorem dX11_moment_28 : decode cX11_moment 28 = .ok (.athrow, 1) := by decide +kernel
theorem dX11_moment_29 : decode cX11_moment 29 = .ok (.aload_n 0, 1) := by decide +kernel
theorem dX11_moment_30 : decode cX11_moment 30 = .ok (.getfield 19, 3) := by decide +kernel
theorem dX11_moment_33 : decode cX11_moment 33 = .ok (.getfield 370, 3) := by decide +kernel
theorem dX11_moment_36 : decode cX11_moment 36 = .ok (.bipush 6, 2) := by decide +kernel
theorem dX11_moment_38 : decode cX11_moment 38 = .ok (.if_icmp .lt 14, 3) := by decide +kernel
theorem dX11_moment_41 : decode cX11_moment 41 = .ok (.new 102, 3) := by decide +kernel
theorem dX11_moment_44 : decode cX11_moment 44 = .ok (.dup, 1) := by decide +kernel
theorem dX11_moment_45 : decode cX11_moment 45 = .ok (.ldc_w 373, 3) := by decide +kernel
theorem dX11_moment_48 : decode cX11_moment 48 = .ok (.invokespecial 106, 3) := by decide +kernel
theorem dX11_moment_51 : decode cX11_moment 51 = .ok (.athrow, 1) := by decide +kernel
theorem dX11_moment_52 : decode cX11_moment 52 = .ok (.aload_n 0, 1) := by decide +kernel
theorem dX11_moment_53 : decode cX11_moment 53 = .ok (.getfield 19, 3) := by decide +kernel
theorem dX11_moment_56 : decode cX11_moment 56 = .ok (.getfield 375, 3) := by decide +kernel
theorem dX11_moment_59 : decode cX11_moment 59 = .ok (.aload_n 0, 1) := by decide +kernel
theorem dX11_moment_60 : decode cX11_moment 60 = .ok (.getfield 19, 3) := by decide +kernel
theorem dX11_moment_63 : decode cX11_moment 63 = .ok (.getfield 370, 3) := by decide +kernel
theorem dX11_moment_66 : decode cX11_moment 66 = .ok (.iload_n 1, 1) := by decide +kernel
theorem dX11_moment_67 : decode cX11_moment 67 = .ok (.iastore, 1) := by decide +kernel
theorem dX11_moment_68 : decode cX11_moment 68 = .ok (.aload_n 0, 1) := by decide +kernel
theorem dX11_moment_69 : decode cX11_moment 69 = .ok (.getfield 19, 3) := by decide +kernel
theorem dX11_moment_72 : decode cX11_moment 72 = .ok (.dup, 1) := by decide +kernel
theorem dX11_moment_73 : decode cX11_moment 73 = .ok (.getfield 370, 3) := by decide +kernel
theorem dX11_moment_76 : decode cX11_moment 76 = .ok (.iconst 1, 1) := by decide +kernel
theorem dX11_moment_77 : decode cX11_moment 77 = .ok (.iadd, 1) := by decide +kernel
theorem dX11_moment_78 : decode cX11_moment 78 = .ok (.putfield 370, 3) := by decide +kernel
theorem dX11_moment_81 : decode cX11_moment 81 = .ok (.aload_n 0, 1) := by decide +kernel
theorem dX11_moment_82 : decode cX11_moment 82 = .ok (.getfield 19, 3) := by decide +kernel
theorem dX11_moment_85 : decode cX11_moment 85 = .ok (.getfield 370, 3) := by decide +kernel
theorem dX11_moment_88 : decode cX11_moment 88 = .ok (.ireturn, 1) := by decide +kernel
theorem dX11_moments_0 : decode cX11_moments 0 = .ok (.aload_n 0, 1) := by decide +kernel
theorem dX11_moments_1 : decode cX11_moments 1 = .ok (.getfield 19, 3) := by decide +kernel
theorem dX11_moments_4 : decode cX11_moments 4 = .ok (.getfield 370, 3) := by decide +kernel
theorem dX11_moments_7 : decode cX11_moments 7 = .ok (.istore_n 1, 1) := by decide +kernel
theorem dX11_moments_8 : decode cX11_moments 8 = .ok (.aload_n 0, 1) := by decide +kernel
theorem dX11_moments_9 : decode cX11_moments 9 = .ok (.getfield 19, 3) := by decide +kernel
theorem dX11_moments_12 : decode cX11_moments 12 = .ok (.iconst 0, 1) := by decide +kernel
theorem dX11_moments_13 : decode cX11_moments 13 = .ok (.putfield 370, 3) := by decide +kernel
theorem dX11_moments_16 : decode cX11_moments 16 = .ok (.iload_n 1, 1) := by decide +kernel
theorem dX11_moments_17 : decode cX11_moments 17 = .ok (.ireturn, 1) := by decide +kernel
theorem dX11_again_0 : decode cX11_again 0 = .ok (.aload_n 0, 1) := by decide +kernel
theorem dX11_again_1 : decode cX11_again 1 = .ok (.iload_n 1, 1) := by decide +kernel
theorem dX11_again_2 : decode cX11_again 2 = .ok (.invokevirtual 273, 3) := by decide +kernel
theorem dX11_again_5 : decode cX11_again 5 = .ok (.aload_n 0, 1) := by decide +kernel
theorem dX11_again_6 : decode cX11_again 6 = .ok (.iload_n 2, 1) := by decide +kernel
theorem dX11_again_7 : decode cX11_again 7 = .ok (.invokevirtual 234, 3) := by decide +kernel
theorem dX11_again_10 : decode cX11_again 10 = .ok (.iload_n 3, 1) := by decide +kernel
theorem dX11_again_11 : decode cX11_again 11 = .ok (.ifCond .lt 28, 3) := by decide +kernel
theorem dX11_again_14 : decode cX11_again 14 = .ok (.iload 4, 2) := by decide +kernel
theorem dX11_again_16 : decode cX11_again 16 = .ok (.aload_n 0, 1) := by decide +kernel
theorem dX11_again_17 : decode cX11_again 17 = .ok (.getfield 19, 3) := by decide +kernel
theorem dX11_again_20 : decode cX11_again 20 = .ok (.invokevirtual 364, 3) := by decide +kernel
theorem dX11_again_23 : decode cX11_again 23 = .ok (.if_icmp .lt 16, 3) := by decide +kernel
theorem dX11_again_26 : decode cX11_again 26 = .ok (.iload 4, 2) := by decide +kernel
theorem dX11_again_28 : decode cX11_again 28 = .ok (.ifCond .lt 11, 3) := by decide +kernel
theorem dX11_again_31 : decode cX11_again 31 = .ok (.iload 4, 2) := by decide +kernel
theorem dX11_again_33 : decode cX11_again 33 = .ok (.ldc_w 367, 3) := by decide +kernel
theorem dX11_again_36 : decode cX11_again 36 = .ok (.if_icmp .le 14, 3) := by decide +kernel
theorem dX11_again_39 : decode cX11_again 39 = .ok (.new 92, 3) := by decide +kernel
theorem dX11_again_42 : decode cX11_again 42 = .ok (.dup, 1) := by decide +kernel
theorem dX11_again_43 : decode cX11_again 43 = .ok (.ldc_w 378, 3) := by decide +kernel
theorem dX11_again_46 : decode cX11_again 46 = .ok (.invokespecial 96, 3) := by decide +kernel
theorem dX11_again_49 : decode cX11_again 49 = .ok (.athrow, 1) := by decide +kernel
theorem dX11_again_50 : decode cX11_again 50 = .ok (.aload_n 0, 1) := by decide +kernel
theorem dX11_again_51 : decode cX11_again 51 = .ok (.getfield 35, 3) := by decide +kernel
theorem dX11_again_54 : decode cX11_again 54 = .ok (.invokevirtual 380, 3) := by decide +kernel
theorem dX11_again_57 : decode cX11_again 57 = .ok (.iconst 0, 1) := by decide +kernel
theorem dX11_again_58 : decode cX11_again 58 = .ok (.istore 6, 2) := by decide +kernel
theorem dX11_again_60 : decode cX11_again 60 = .ok (.aload_n 0, 1) := by decide +kernel
theorem dX11_again_61 : decode cX11_again 61 = .ok (.getfield 35, 3) := by decide +kernel
theorem dX11_again_64 : decode cX11_again 64 = .ok (.aload_n 0, 1) := by decide +kernel
theorem dX11_again_65 : decode cX11_again 65 = .ok (.getfield 19, 3) := by decide +kernel
theorem dX11_again_68 : decode cX11_again 68 = .ok (.getfield 107, 3) := by decide +kernel
theorem dX11_again_71 : decode cX11_again 71 = .ok (.iload_n 1, 1) := by decide +kernel
theorem dX11_again_72 : decode cX11_again 72 = .ok (.aaload, 1) := by decide +kernel
theorem dX11_again_73 : decode cX11_again 73 = .ok (.iload_n 2, 1) := by decide +kernel
theorem dX11_again_74 : decode cX11_again 74 = .ok (.iconst 0, 1) := by decide +kernel
theorem dX11_again_75 : decode cX11_again 75 = .ok (.iload 4, 2) := by decide +kernel
theorem dX11_again_77 : decode cX11_again 77 = .ok (.invokevirtual 383, 3) := by decide +kernel
theorem dX11_again_80 : decode cX11_again 80 = .ok (.istore 7, 2) := by decide +kernel
theorem dX11_again_82 : decode cX11_again 82 = .ok (.iload 7, 2) := by decide +kernel
theorem dX11_again_84 : decode cX11_again 84 = .ok (.istore 8, 2) := by decide +kernel
theorem dX11_again_86 : decode cX11_again 86 = .ok (.iconst 1, 1) := by decide +kernel
theorem dX11_again_87 : decode cX11_again 87 = .ok (.istore 9, 2) := by decide +kernel
theorem dX11_again_89 : decode cX11_again 89 = .ok (.iload 9, 2) := by decide +kernel
theorem dX11_again_91 : decode cX11_again 91 = .ok (.iconst 1, 1) := by decide +kernel
theorem dX11_again_92 : decode cX11_again 92 = .ok (.aload_n 0, 1) := by decide +kernel
theorem dX11_again_93 : decode cX11_again 93 = .ok (.getfield 19, 3) := by decide +kernel
theorem dX11_again_96 : decode cX11_again 96 = .ok (.getfield 370, 3) := by decide +kernel
theorem dX11_again_99 : decode cX11_again 99 = .ok (.ishl, 1) := by decide +kernel
theorem dX11_again_100 : decode cX11_again 100 = .ok (.if_icmp .ge 77, 3) := by decide +kernel
theorem dX11_again_103 : decode cX11_again 103 = .ok (.iload 9, 2) := by decide +kernel
theorem dX11_again_105 : decode cX11_again 105 = .ok (.invokestatic 387, 3) := by decide +kernel
theorem dX11_again_108 : decode cX11_again 108 = .ok (.istore 10, 2) := by decide +kernel
theorem dX11_again_110 : decode cX11_again 110 = .ok (.iload 10, 2) := by decide +kernel
theorem dX11_again_112 : decode cX11_again 112 = .ok (.iload_n 3, 1) := by decide +kernel
theorem dX11_again_113 : decode cX11_again 113 = .ok (.if_icmp .gt 58, 3) := by decide +kernel
theorem dX11_again_116 : decode cX11_again 116 = .ok (.aload_n 0, 1) := by decide +kernel
theorem dX11_again_117 : decode cX11_again 117 = .ok (.getfield 35, 3) := by decide +kernel
theorem dX11_again_120 : decode cX11_again 120 = .ok (.aload_n 0, 1) := by decide +kernel
theorem dX11_again_121 : decode cX11_again 121 = .ok (.getfield 19, 3) := by decide +kernel
theorem dX11_again_124 : decode cX11_again 124 = .ok (.getfield 107, 3) := by decide +kernel
theorem dX11_again_127 : decode cX11_again 127 = .ok (.iload_n 1, 1) := by decide +kernel
theorem dX11_again_128 : decode cX11_again 128 = .ok (.aaload, 1) := by decide +kernel
theorem dX11_again_129 : decode cX11_again 129 = .ok (.iload_n 2, 1) := by decide +kernel
theorem dX11_again_130 : decode cX11_again 130 = .ok (.iload 9, 2) := by decide +kernel
theorem dX11_again_132 : decode cX11_again 132 = .ok (.iload 4, 2) := by decide +kernel
theorem dX11_again_134 : decode cX11_again 134 = .ok (.invokevirtual 383, 3) := by decide +kernel
theorem dX11_again_137 : decode cX11_again 137 = .ok (.istore 11, 2) := by decide +kernel
theorem dX11_again_139 : decode cX11_again 139 = .ok (.iload 11, 2) := by decide +kernel
theorem dX11_again_141 : decode cX11_again 141 = .ok (.iload 8, 2) := by decide +kernel
theorem dX11_again_143 : decode cX11_again 143 = .ok (.if_icmp .gt 20, 3) := by decide +kernel
theorem dX11_again_146 : decode cX11_again 146 = .ok (.iload 11, 2) := by decide +kernel
theorem dX11_again_148 : decode cX11_again 148 = .ok (.iload 8, 2) := by decide +kernel
theorem dX11_again_150 : decode cX11_again 150 = .ok (.if_icmp .ne 21, 3) := by decide +kernel
theorem dX11_again_153 : decode cX11_again 153 = .ok (.iload 10, 2) := by decide +kernel
theorem dX11_again_155 : decode cX11_again 155 = .ok (.iload 6, 2) := by decide +kernel
theorem dX11_again_157 : decode cX11_again 157 = .ok (.invokestatic 387, 3) := by decide +kernel
theorem dX11_again_160 : decode cX11_again 160 = .ok (.if_icmp .ge 11, 3) := by decide +kernel
theorem dX11_again_163 : decode cX11_again 163 = .ok (.iload 11, 2) := by decide +kernel
theorem dX11_again_165 : decode cX11_again 165 = .ok (.istore 8, 2) := by decide +kernel
theorem dX11_again_167 : decode cX11_again 167 = .ok (.iload 9, 2) := by decide +kernel
theorem dX11_again_169 : decode cX11_again 169 = .ok (.istore 6, 2) := by decide +kernel
theorem dX11_again_171 : decode cX11_again 171 = .ok (.iinc 9 1, 3) := by decide +kernel
theorem dX11_again_174 : decode cX11_again 174 = .ok (.goto (-85), 3) := by decide +kernel
theorem dX11_again_177 : decode cX11_again 177 = .ok (.iload 5, 2) := by decide +kernel
theorem dX11_again_179 : decode cX11_again 179 = .ok (.ifCond .eq 11, 3) := by decide +kernel
theorem dX11_again_182 : decode cX11_again 182 = .ok (.iload 8, 2) := by decide +kernel
theorem dX11_again_184 : decode cX11_again 184 = .ok (.iload 7, 2) := by decide +kernel
theorem dX11_again_186 : decode cX11_again 186 = .ok (.isub, 1) := by decide +kernel
theorem dX11_again_187 : decode cX11_again 187 = .ok (.goto 5, 3) := by decide +kernel
theorem dX11_again_190 : decode cX11_again 190 = .ok (.iload 6, 2) := by decide +kernel
theorem dX11_again_192 : decode cX11_again 192 = .ok (.ireturn, 1) := by decide +kernel
theorem dX11_houses_0 : decode cX11_houses 0 = .ok (.aload_n 0, 1) := by decide +kernel
theorem dX11_houses_1 : decode cX11_houses 1 = .ok (.iload_n 1, 1) := by decide +kernel
theorem dX11_houses_2 : decode cX11_houses 2 = .ok (.invokevirtual 273, 3) := by decide +kernel
theorem dX11_houses_5 : decode cX11_houses 5 = .ok (.aload_n 0, 1) := by decide +kernel
theorem dX11_houses_6 : decode cX11_houses 6 = .ok (.iload_n 3, 1) := by decide +kernel
theorem dX11_houses_7 : decode cX11_houses 7 = .ok (.invokevirtual 197, 3) := by decide +kernel
theorem dX11_houses_10 : decode cX11_houses 10 = .ok (.iload_n 2, 1) := by decide +kernel
theorem dX11_houses_11 : decode cX11_houses 11 = .ok (.iconst 1, 1) := by decide +kernel
theorem dX11_houses_12 : decode cX11_houses 12 = .ok (.if_icmp .lt 21, 3) := by decide +kernel
theorem dX11_houses_15 : decode cX11_houses 15 = .ok (.iload_n 2, 1) := by decide +kernel
theorem dX11_houses_16 : decode cX11_houses 16 = .ok (.bipush 60, 2) := by decide +kernel
theorem dX11_houses_18 : decode cX11_houses 18 = .ok (.if_icmp .gt 15, 3) := by decide +kernel
theorem dX11_houses_21 : decode cX11_houses 21 = .ok (.iload 4, 2) := by decide +kernel
theorem dX11_houses_23 : decode cX11_houses 23 = .ok (.ifCond .lt 10, 3) := by decide +kernel
theorem dX11_houses_26 : decode cX11_houses 26 = .ok (.iload 4, 2) := by decide +kernel
theorem dX11_houses_28 : decode cX11_houses 28 = .ok (.bipush 100, 2) := by decide +kernel
theorem dX11_houses_30 : decode cX11_houses 30 = .ok (.if_icmp .le 14, 3) := by decide +kernel
theorem dX11_houses_33 : decode cX11_houses 33 = .ok (.new 92, 3) := by decide +kernel
theorem dX11_houses_36 : decode cX11_houses 36 = .ok (.dup, 1) := by decide +kernel
theorem dX11_houses_37 : decode cX11_houses 37 = .ok (.ldc_w 392, 3) := by decide +kernel
theorem dX11_houses_40 : decode cX11_houses 40 = .ok (.invokespecial 96, 3) := by decide +kernel
theorem dX11_houses_43 : decode cX11_houses 43 = .ok (.athrow, 1) := by decide +kernel
theorem dX11_houses_44 : decode cX11_houses 44 = .ok (.iconst 1, 1) := by decide +kernel
theorem dX11_houses_45 : decode cX11_houses 45 = .ok (.istore 5, 2) := by decide +kernel
theorem dX11_houses_47 : decode cX11_houses 47 = .ok (.iload 5, 2) := by decide +kernel
theorem dX11_houses_49 : decode cX11_houses 49 = .ok (.bipush 20, 2) := by decide +kernel
theorem dX11_houses_51 : decode cX11_houses 51 = .ok (.if_icmp .gt 40, 3) := by decide +kernel
theorem dX11_houses_54 : decode cX11_houses 54 = .ok (.aload_n 0, 1) := by decide +kernel
theorem dX11_houses_55 : decode cX11_houses 55 = .ok (.getfield 35, 3) := by decide +kernel
theorem dX11_houses_58 : decode cX11_houses 58 = .ok (.aload_n 0, 1) := by decide +kernel
theorem dX11_houses_59 : decode cX11_houses 59 = .ok (.getfield 19, 3) := by decide +kernel
theorem dX11_houses_62 : decode cX11_houses 62 = .ok (.getfield 107, 3) := by decide +kernel
theorem dX11_houses_65 : decode cX11_houses 65 = .ok (.iload_n 1, 1) := by decide +kernel
theorem dX11_houses_66 : decode cX11_houses 66 = .ok (.aaload, 1) := by decide +kernel
theorem dX11_houses_67 : decode cX11_houses 67 = .ok (.iload_n 2, 1) := by decide +kernel
theorem dX11_houses_68 : decode cX11_houses 68 = .ok (.iconst 1, 1) := by decide +kernel
theorem dX11_houses_69 : decode cX11_houses 69 = .ok (.isub, 1) := by decide +kernel
theorem dX11_houses_70 : decode cX11_houses 70 = .ok (.iload 5, 2) := by decide +kernel
theorem dX11_houses_72 : decode cX11_houses 72 = .ok (.idiv, 1) := by decide +kernel
theorem dX11_houses_73 : decode cX11_houses 73 = .ok (.iload_n 3, 1) := by decide +kernel
theorem dX11_houses_74 : decode cX11_houses 74 = .ok (.invokevirtual 394, 3) := by decide +kernel
theorem dX11_houses_77 : decode cX11_houses 77 = .ok (.iload 4, 2) := by decide +kernel
theorem dX11_houses_79 : decode cX11_houses 79 = .ok (.if_icmp .lt 6, 3) := by decide +kernel
theorem dX11_houses_82 : decode cX11_houses 82 = .ok (.iload 5, 2) := by decide +kernel
theorem dX11_houses_84 : decode cX11_houses 84 = .ok (.ireturn, 1) := by decide +kernel
theorem dX11_houses_85 : decode cX11_houses 85 = .ok (.iinc 5 1, 3) := by decide +kernel
theorem dX11_houses_88 : decode cX11_houses 88 = .ok (.goto (-41), 3) := by decide +kernel
theorem dX11_houses_91 : decode cX11_houses 91 = .ok (.iconst (-1), 1) := by decide +kernel
theorem dX11_houses_92 : decode cX11_houses 92 = .ok (.ireturn, 1) := by decide +kernel
theorem dX11_unlike_0 : decode cX11_unlike 0 = .ok (.iconst 0, 1) := by decide +kernel
theorem dX11_unlike_1 : decode cX11_unlike 1 = .ok (.istore_n 3, 1) := by decide +kernel
theorem dX11_unlike_2 : decode cX11_unlike 2 = .ok (.iconst 0, 1) := by decide +kernel
theorem dX11_unlike_3 : decode cX11_unlike 3 = .ok (.istore 4, 2) := by decide +kernel
theorem dX11_unlike_5 : decode cX11_unlike 5 = .ok (.iconst 0, 1) := by decide +kernel
theorem dX11_unlike_6 : decode cX11_unlike 6 = .ok (.istore 5, 2) := by decide +kernel
theorem dX11_unlike_8 : decode cX11_unlike 8 = .ok (.iload 5, 2) := by decide +kernel
theorem dX11_unlike_10 : decode cX11_unlike 10 = .ok (.bipush 10, 2) := by decide +kernel
theorem dX11_unlike_12 : decode cX11_unlike 12 = .ok (.if_icmp .ge 48, 3) := by decide +kernel
theorem dX11_unlike_15 : decode cX11_unlike 15 = .ok (.aload_n 0, 1) := by decide +kernel
theorem dX11_unlike_16 : decode cX11_unlike 16 = .ok (.getfield 19, 3) := by decide +kernel
theorem dX11_unlike_19 : decode cX11_unlike 19 = .ok (.iload 5, 2) := by decide +kernel
theorem dX11_unlike_21 : decode cX11_unlike 21 = .ok (.iload_n 1, 1) := by decide +kernel
theorem dX11_unlike_22 : decode cX11_unlike 22 = .ok (.invokevirtual 397, 3) := by decide +kernel
theorem dX11_unlike_25 : decode cX11_unlike 25 = .ok (.istore 6, 2) := by decide +kernel
theorem dX11_unlike_27 : decode cX11_unlike 27 = .ok (.iload_n 3, 1) := by decide +kernel
theorem dX11_unlike_28 : decode cX11_unlike 28 = .ok (.iload 6, 2) := by decide +kernel
theorem dX11_unlike_30 : decode cX11_unlike 30 = .ok (.ifCond .le 7, 3) := by decide +kernel
theorem dX11_unlike_33 : decode cX11_unlike 33 = .ok (.iconst 1, 1) := by decide +kernel
theorem dX11_unlike_34 : decode cX11_unlike 34 = .ok (.goto 4, 3) := by decide +kernel
theorem dX11_unlike_37 : decode cX11_unlike 37 = .ok (.iconst 0, 1) := by decide +kernel
theorem dX11_unlike_38 : decode cX11_unlike 38 = .ok (.iadd, 1) := by decide +kernel
theorem dX11_unlike_39 : decode cX11_unlike 39 = .ok (.istore_n 3, 1) := by decide +kernel
theorem dX11_unlike_40 : decode cX11_unlike 40 = .ok (.iload 4, 2) := by decide +kernel
theorem dX11_unlike_42 : decode cX11_unlike 42 = .ok (.iload 6, 2) := by decide +kernel
theorem dX11_unlike_44 : decode cX11_unlike 44 = .ok (.iload 6, 2) := by decide +kernel
theorem dX11_unlike_46 : decode cX11_unlike 46 = .ok (.iconst 1, 1) := by decide +kernel
theorem dX11_unlike_47 : decode cX11_unlike 47 = .ok (.isub, 1) := by decide +kernel
theorem dX11_unlike_48 : decode cX11_unlike 48 = .ok (.imul, 1) := by decide +kernel
theorem dX11_unlike_49 : decode cX11_unlike 49 = .ok (.iconst 2, 1) := by decide +kernel
theorem dX11_unlike_50 : decode cX11_unlike 50 = .ok (.idiv, 1) := by decide +kernel
theorem dX11_unlike_51 : decode cX11_unlike 51 = .ok (.iadd, 1) := by decide +kernel
theorem dX11_unlike_52 : decode cX11_unlike 52 = .ok (.istore 4, 2) := by decide +kernel
theorem dX11_unlike_54 : decode cX11_unlike 54 = .ok (.iinc 5 1, 3) := by decide +kernel
theorem dX11_unlike_57 : decode cX11_unlike 57 = .ok (.goto (-49), 3) := by decide +kernel
theorem dX11_unlike_60 : decode cX11_unlike 60 = .ok (.iload_n 2, 1) := by decide +kernel
theorem dX11_unlike_61 : decode cX11_unlike 61 = .ok (.ifCond .eq 8, 3) := by decide +kernel
theorem dX11_unlike_64 : decode cX11_unlike 64 = .ok (.iload 4, 2) := by decide +kernel
theorem dX11_unlike_66 : decode cX11_unlike 66 = .ok (.goto 4, 3) := by decide +kernel
theorem dX11_unlike_69 : decode cX11_unlike 69 = .ok (.iload_n 3, 1) := by decide +kernel
theorem dX11_unlike_70 : decode cX11_unlike 70 = .ok (.ireturn, 1) := by decide +kernel
theorem dX11_per_0 : decode cX11_per 0 = .ok (.aload_n 0, 1) := by decide +kernel
theorem dX11_per_1 : decode cX11_per 1 = .ok (.iload_n 1, 1) := by decide +kernel
theorem dX11_per_2 : decode cX11_per 2 = .ok (.invokevirtual 273, 3) := by decide +kernel
theorem dX11_per_5 : decode cX11_per 5 = .ok (.aload_n 0, 1) := by decide +kernel
theorem dX11_per_6 : decode cX11_per 6 = .ok (.iload_n 2, 1) := by decide +kernel
theorem dX11_per_7 : decode cX11_per 7 = .ok (.invokevirtual 182, 3) := by decide +kernel
theorem dX11_per_10 : decode cX11_per 10 = .ok (.aload_n 0, 1) := by decide +kernel
theorem dX11_per_11 : decode cX11_per 11 = .ok (.iload_n 3, 1) := by decide +kernel
theorem dX11_per_12 : decode cX11_per 12 = .ok (.invokevirtual 400, 3) := by decide +kernel
theorem dX11_per_15 : decode cX11_per 15 = .ok (.iload 4, 2) := by decide +kernel
theorem dX11_per_17 : decode cX11_per 17 = .ok (.iconst 1, 1) := by decide +kernel
theorem dX11_per_18 : decode cX11_per 18 = .ok (.if_icmp .lt 11, 3) := by decide +kernel
theorem dX11_per_21 : decode cX11_per 21 = .ok (.iload 4, 2) := by decide +kernel
theorem dX11_per_23 : decode cX11_per 23 = .ok (.sipush 9999, 3) := by decide +kernel
theorem dX11_per_26 : decode cX11_per 26 = .ok (.if_icmp .le 14, 3) := by decide +kernel
theorem dX11_per_29 : decode cX11_per 29 = .ok (.new 92, 3) := by decide +kernel
theorem dX11_per_32 : decode cX11_per 32 = .ok (.dup, 1) := by decide +kernel
theorem dX11_per_33 : decode cX11_per 33 = .ok (.ldc_w 403, 3) := by decide +kernel
theorem dX11_per_36 : decode cX11_per 36 = .ok (.invokespecial 96, 3) := by decide +kernel
theorem dX11_per_39 : decode cX11_per 39 = .ok (.athrow, 1) := by decide +kernel
theorem dX11_per_40 : decode cX11_per 40 = .ok (.iconst (-1), 1) := by decide +kernel
theorem dX11_per_41 : decode cX11_per 41 = .ok (.istore 6, 2) := by decide +kernel
theorem dX11_per_43 : decode cX11_per 43 = .ok (.iconst (-1), 1) := by decide +kernel
theorem dX11_per_44 : decode cX11_per 44 = .ok (.istore 7, 2) := by decide +kernel
theorem dX11_per_46 : decode cX11_per 46 = .ok (.iconst 1, 1) := by decide +kernel
theorem dX11_per_47 : decode cX11_per 47 = .ok (.istore 8, 2) := by decide +kernel
theorem dX11_per_49 : decode cX11_per 49 = .ok (.iload 8, 2) := by decide +kernel
theorem dX11_per_51 : decode cX11_per 51 = .ok (.iconst 3, 1) := by decide +kernel
theorem dX11_per_52 : decode cX11_per 52 = .ok (.if_icmp .gt 96, 3) := by decide +kernel
theorem dX11_per_55 : decode cX11_per 55 = .ok (.aload_n 0, 1) := by decide +kernel
theorem dX11_per_56 : decode cX11_per 56 = .ok (.getfield 19, 3) := by decide +kernel
theorem dX11_per_59 : decode cX11_per 59 = .ok (.getfield 166, 3) := by decide +kernel
theorem dX11_per_62 : decode cX11_per 62 = .ok (.iload_n 2, 1) := by decide +kernel
theorem dX11_per_63 : decode cX11_per 63 = .ok (.aaload, 1) := by decide +kernel
theorem dX11_per_64 : decode cX11_per 64 = .ok (.iload 8, 2) := by decide +kernel
theorem dX11_per_66 : decode cX11_per 66 = .ok (.invokevirtual 200, 3) := by decide +kernel
theorem dX11_per_69 : decode cX11_per 69 = .ok (.istore 9, 2) := by decide +kernel
theorem dX11_per_71 : decode cX11_per 71 = .ok (.iload 9, 2) := by decide +kernel
theorem dX11_per_73 : decode cX11_per 73 = .ok (.iconst 1, 1) := by decide +kernel
theorem dX11_per_74 : decode cX11_per 74 = .ok (.if_icmp .ge 7, 3) := by decide +kernel
theorem dX11_per_77 : decode cX11_per 77 = .ok (.iconst 0, 1) := by decide +kernel
theorem dX11_per_78 : decode cX11_per 78 = .ok (.goto 13, 3) := by decide +kernel
theorem dX11_per_81 : decode cX11_per 81 = .ok (.iload 4, 2) := by decide +kernel
theorem dX11_per_83 : decode cX11_per 83 = .ok (.iload 9, 2) := by decide +kernel
theorem dX11_per_85 : decode cX11_per 85 = .ok (.idiv, 1) := by decide +kernel
theorem dX11_per_86 : decode cX11_per 86 = .ok (.bipush 60, 2) := by decide +kernel
theorem dX11_per_88 : decode cX11_per 88 = .ok (.invokestatic 405, 3) := by decide +kernel
theorem dX11_per_91 : decode cX11_per 91 = .ok (.istore 10, 2) := by decide +kernel
theorem dX11_per_93 : decode cX11_per 93 = .ok (.iload 10, 2) := by decide +kernel
theorem dX11_per_95 : decode cX11_per 95 = .ok (.iconst 1, 1) := by decide +kernel
theorem dX11_per_96 : decode cX11_per 96 = .ok (.if_icmp .ge 7, 3) := by decide +kernel
theorem dX11_per_99 : decode cX11_per 99 = .ok (.iconst (-1), 1) := by decide +kernel
theorem dX11_per_100 : decode cX11_per 100 = .ok (.goto 25, 3) := by decide +kernel
theorem dX11_per_103 : decode cX11_per 103 = .ok (.aload_n 0, 1) := by decide +kernel
theorem dX11_per_104 : decode cX11_per 104 = .ok (.getfield 35, 3) := by decide +kernel
theorem dX11_per_107 : decode cX11_per 107 = .ok (.aload_n 0, 1) := by decide +kernel
theorem dX11_per_108 : decode cX11_per 108 = .ok (.getfield 19, 3) := by decide +kernel
theorem dX11_per_111 : decode cX11_per 111 = .ok (.getfield 107, 3) := by decide +kernel
theorem dX11_per_114 : decode cX11_per 114 = .ok (.iload_n 1, 1) := by decide +kernel
theorem dX11_per_115 : decode cX11_per 115 = .ok (.aaload, 1) := by decide +kernel
theorem dX11_per_116 : decode cX11_per 116 = .ok (.iload_n 2, 1) := by decide +kernel
theorem dX11_per_117 : decode cX11_per 117 = .ok (.iload_n 3, 1) := by decide +kernel
theorem dX11_per_118 : decode cX11_per 118 = .ok (.iload 8, 2) := by decide +kernel
theorem dX11_per_120 : decode cX11_per 120 = .ok (.iload 10, 2) := by decide +kernel
theorem dX11_per_122 : decode cX11_per 122 = .ok (.invokevirtual 408, 3) := by decide +kernel
theorem dX11_per_125 : decode cX11_per 125 = .ok (.istore 11, 2) := by decide +kernel
theorem dX11_per_127 : decode cX11_per 127 = .ok (.iload 11, 2) := by decide +kernel
theorem dX11_per_129 : decode cX11_per 129 = .ok (.iload 7, 2) := by decide +kernel
theorem dX11_per_131 : decode cX11_per 131 = .ok (.if_icmp .le 11, 3) := by decide +kernel
theorem dX11_per_134 : decode cX11_per 134 = .ok (.iload 11, 2) := by decide +kernel
theorem dX11_per_136 : decode cX11_per 136 = .ok (.istore 7, 2) := by decide +kernel
theorem dX11_per_138 : decode cX11_per 138 = .ok (.iload 8, 2) := by decide +kernel
theorem dX11_per_140 : decode cX11_per 140 = .ok (.istore 6, 2) := by decide +kernel
theorem dX11_per_142 : decode cX11_per 142 = .ok (.iinc 8 1, 3) := by decide +kernel
theorem dX11_per_145 : decode cX11_per 145 = .ok (.goto (-96), 3) := by decide +kernel
theorem dX11_per_148 : decode cX11_per 148 = .ok (.iload 5, 2) := by decide +kernel
theorem dX11_per_150 : decode cX11_per 150 = .ok (.ifCond .eq 8, 3) := by decide +kernel
theorem dX11_per_153 : decode cX11_per 153 = .ok (.iload 7, 2) := by decide +kernel
theorem dX11_per_155 : decode cX11_per 155 = .ok (.goto 5, 3) := by decide +kernel
theorem dX11_per_158 : decode cX11_per 158 = .ok (.iload 6, 2) := by decide +kernel
theorem dX11_per_160 : decode cX11_per 160 = .ok (.ireturn, 1) := by decide +kernel
theorem dX11_plan_0 : decode cX11_plan 0 = .ok (.aload_n 0, 1) := by decide +kernel
theorem dX11_plan_1 : decode cX11_plan 1 = .ok (.iload_n 1, 1) := by decide +kernel
theorem dX11_plan_2 : decode cX11_plan 2 = .ok (.invokevirtual 273, 3) := by decide +kernel
theorem dX11_plan_5 : decode cX11_plan 5 = .ok (.iload 5, 2) := by decide +kernel
theorem dX11_plan_7 : decode cX11_plan 7 = .ok (.iconst (-1), 1) := by decide +kernel
theorem dX11_plan_8 : decode cX11_plan 8 = .ok (.if_icmp .eq 9, 3) := by decide +kernel
theorem dX11_plan_11 : decode cX11_plan 11 = .ok (.aload_n 0, 1) := by decide +kernel
theorem dX11_plan_12 : decode cX11_plan 12 = .ok (.iload 5, 2) := by decide +kernel
theorem dX11_plan_14 : decode cX11_plan 14 = .ok (.invokevirtual 182, 3) := by decide +kernel
theorem dX11_plan_17 : decode cX11_plan 17 = .ok (.aload_n 0, 1) := by decide +kernel
theorem dX11_plan_18 : decode cX11_plan 18 = .ok (.iload_n 2, 1) := by decide +kernel
theorem dX11_plan_19 : decode cX11_plan 19 = .ok (.invokevirtual 412, 3) := by decide +kernel
theorem dX11_plan_22 : decode cX11_plan 22 = .ok (.aload_n 0, 1) := by decide +kernel
theorem dX11_plan_23 : decode cX11_plan 23 = .ok (.iload_n 3, 1) := by decide +kernel
theorem dX11_plan_24 : decode cX11_plan 24 = .ok (.invokevirtual 194, 3) := by decide +kernel
theorem dX11_plan_27 : decode cX11_plan 27 = .ok (.aload_n 0, 1) := by decide +kernel
theorem dX11_plan_28 : decode cX11_plan 28 = .ok (.iload 4, 2) := by decide +kernel
theorem dX11_plan_30 : decode cX11_plan 30 = .ok (.invokevirtual 197, 3) := by decide +kernel
theorem dX11_plan_33 : decode cX11_plan 33 = .ok (.aload_n 0, 1) := by decide +kernel
theorem dX11_plan_34 : decode cX11_plan 34 = .ok (.getfield 60, 3) := by decide +kernel
theorem dX11_plan_37 : decode cX11_plan 37 = .ok (.invokevirtual 415, 3) := by decide +kernel
theorem dX11_plan_40 : decode cX11_plan 40 = .ok (.iconst 0, 1) := by decide +kernel
theorem dX11_plan_41 : decode cX11_plan 41 = .ok (.istore 6, 2) := by decide +kernel
theorem dX11_plan_43 : decode cX11_plan 43 = .ok (.iload 6, 2) := by decide +kernel
theorem dX11_plan_45 : decode cX11_plan 45 = .ok (.aload_n 0, 1) := by decide +kernel
theorem dX11_plan_46 : decode cX11_plan 46 = .ok (.getfield 19, 3) := by decide +kernel
theorem dX11_plan_49 : decode cX11_plan 49 = .ok (.getfield 161, 3) := by decide +kernel
theorem dX11_plan_52 : decode cX11_plan 52 = .ok (.if_icmp .ge 81, 3) := by decide +kernel
theorem dX11_plan_55 : decode cX11_plan 55 = .ok (.iload_n 2, 1) := by decide +kernel
theorem dX11_plan_56 : decode cX11_plan 56 = .ok (.iload 6, 2) := by decide +kernel
theorem dX11_plan_58 : decode cX11_plan 58 = .ok (.ishr, 1) := by decide +kernel
theorem dX11_plan_59 : decode cX11_plan 59 = .ok (.iconst 1, 1) := by decide +kernel
theorem dX11_plan_60 : decode cX11_plan 60 = .ok (.iand, 1) := by decide +kernel
theorem dX11_plan_61 : decode cX11_plan 61 = .ok (.iconst 1, 1) := by decide +kernel
theorem dX11_plan_62 : decode cX11_plan 62 = .ok (.if_icmp .ne 65, 3) := by decide +kernel
theorem dX11_plan_65 : decode cX11_plan 65 = .ok (.aload_n 0, 1) := by decide +kernel
theorem dX11_plan_66 : decode cX11_plan 66 = .ok (.getfield 60, 3) := by decide +kernel
theorem dX11_plan_69 : decode cX11_plan 69 = .ok (.iload 6, 2) := by decide +kernel
theorem dX11_plan_71 : decode cX11_plan 71 = .ok (.invokevirtual 417, 3) := by decide +kernel
theorem dX11_plan_74 : decode cX11_plan 74 = .ok (.iconst 0, 1) := by decide +kernel
theorem dX11_plan_75 : decode cX11_plan 75 = .ok (.istore 7, 2) := by decide +kernel
theorem dX11_plan_77 : decode cX11_plan 77 = .ok (.iload 7, 2) := by decide +kernel
theorem dX11_plan_79 : decode cX11_plan 79 = .ok (.aload_n 0, 1) := by decide +kernel
theorem dX11_plan_80 : decode cX11_plan 80 = .ok (.getfield 19, 3) := by decide +kernel
theorem dX11_plan_83 : decode cX11_plan 83 = .ok (.getfield 137, 3) := by decide +kernel
theorem dX11_plan_86 : decode cX11_plan 86 = .ok (.if_icmp .ge 41, 3) := by decide +kernel
theorem dX11_plan_89 : decode cX11_plan 89 = .ok (.aload_n 0, 1) := by decide +kernel
theorem dX11_plan_90 : decode cX11_plan 90 = .ok (.getfield 60, 3) := by decide +kernel
theorem dX11_plan_93 : decode cX11_plan 93 = .ok (.iload 7, 2) := by decide +kernel
theorem dX11_plan_95 : decode cX11_plan 95 = .ok (.aload_n 0, 1) := by decide +kernel
theorem dX11_plan_96 : decode cX11_plan 96 = .ok (.getfield 35, 3) := by decide +kernel
theorem dX11_plan_99 : decode cX11_plan 99 = .ok (.aload_n 0, 1) := by decide +kernel
theorem dX11_plan_100 : decode cX11_plan 100 = .ok (.getfield 19, 3) := by decide +kernel
theorem dX11_plan_103 : decode cX11_plan 103 = .ok (.getfield 107, 3) := by decide +kernel
theorem dX11_plan_106 : decode cX11_plan 106 = .ok (.iload_n 1, 1) := by decide +kernel
theorem dX11_plan_107 : decode cX11_plan 107 = .ok (.aaload, 1) := by decide +kernel
theorem dX11_plan_108 : decode cX11_plan 108 = .ok (.iload 6, 2) := by decide +kernel
theorem dX11_plan_110 : decode cX11_plan 110 = .ok (.iload 7, 2) := by decide +kernel
theorem dX11_plan_112 : decode cX11_plan 112 = .ok (.iload_n 3, 1) := by decide +kernel
theorem dX11_plan_113 : decode cX11_plan 113 = .ok (.iload 4, 2) := by decide +kernel
theorem dX11_plan_115 : decode cX11_plan 115 = .ok (.invokevirtual 408, 3) := by decide +kernel
theorem dX11_plan_118 : decode cX11_plan 118 = .ok (.invokevirtual 420, 3) := by decide +kernel
theorem dX11_plan_121 : decode cX11_plan 121 = .ok (.iinc 7 1, 3) := by decide +kernel
theorem dX11_plan_124 : decode cX11_plan 124 = .ok (.goto (-47), 3) := by decide +kernel
theorem dX11_plan_127 : decode cX11_plan 127 = .ok (.iinc 6 1, 3) := by decide +kernel
theorem dX11_plan_130 : decode cX11_plan 130 = .ok (.goto (-87), 3) := by decide +kernel
theorem dX11_plan_133 : decode cX11_plan 133 = .ok (.aload_n 0, 1) := by decide +kernel
theorem dX11_plan_134 : decode cX11_plan 134 = .ok (.getfield 60, 3) := by decide +kernel
theorem dX11_plan_137 : decode cX11_plan 137 = .ok (.invokevirtual 423, 3) := by decide +kernel
theorem dX11_plan_140 : decode cX11_plan 140 = .ok (.iload 5, 2) := by decide +kernel
theorem dX11_plan_142 : decode cX11_plan 142 = .ok (.iconst (-1), 1) := by decide +kernel
theorem dX11_plan_143 : decode cX11_plan 143 = .ok (.if_icmp .ne 13, 3) := by decide +kernel
theorem dX11_plan_146 : decode cX11_plan 146 = .ok (.aload_n 0, 1) := by decide +kernel
theorem dX11_plan_147 : decode cX11_plan 147 = .ok (.getfield 60, 3) := by decide +kernel
theorem dX11_plan_150 : decode cX11_plan 150 = .ok (.getfield 426, 3) := by decide +kernel
theorem dX11_plan_153 : decode cX11_plan 153 = .ok (.goto 12, 3) := by decide +kernel
theorem dX11_plan_156 : decode cX11_plan 156 = .ok (.aload_n 0, 1) := by decide +kernel
theorem dX11_plan_157 : decode cX11_plan 157 = .ok (.getfield 60, 3) := by decide +kernel
theorem dX11_plan_160 : decode cX11_plan 160 = .ok (.iload 5, 2) := by decide +kernel
theorem dX11_plan_162 : decode cX11_plan 162 = .ok (.invokevirtual 429, 3) := by decide +kernel
theorem dX11_plan_165 : decode cX11_plan 165 = .ok (.ireturn, 1) := by decide +kernel
theorem dX11_last_0 : decode cX11_last 0 = .ok (.aload_n 0, 1) := by decide +kernel
theorem dX11_last_1 : decode cX11_last 1 = .ok (.iload_n 1, 1) := by decide +kernel
theorem dX11_last_2 : decode cX11_last 2 = .ok (.invokevirtual 273, 3) := by decide +kernel
theorem dX11_last_5 : decode cX11_last 5 = .ok (.iload_n 3, 1) := by decide +kernel
theorem dX11_last_6 : decode cX11_last 6 = .ok (.ifCond .lt 10, 3) := by decide +kernel
theorem dX11_last_9 : decode cX11_last 9 = .ok (.iload_n 3, 1) := by decide +kernel
theorem dX11_last_10 : decode cX11_last 10 = .ok (.sipush 9999, 3) := by decide +kernel
theorem dX11_last_13 : decode cX11_last 13 = .ok (.if_icmp .le 14, 3) := by decide +kernel
theorem dX11_last_16 : decode cX11_last 16 = .ok (.new 92, 3) := by decide +kernel
theorem dX11_last_19 : decode cX11_last 19 = .ok (.dup, 1) := by decide +kernel
theorem dX11_last_20 : decode cX11_last 20 = .ok (.ldc_w 432, 3) := by decide +kernel
theorem dX11_last_23 : decode cX11_last 23 = .ok (.invokespecial 96, 3) := by decide +kernel
theorem dX11_last_26 : decode cX11_last 26 = .ok (.athrow, 1) := by decide +kernel
theorem dX11_last_27 : decode cX11_last 27 = .ok (.iconst (-1), 1) := by decide +kernel
theorem dX11_last_28 : decode cX11_last 28 = .ok (.istore 4, 2) := by decide +kernel
theorem dX11_last_30 : decode cX11_last 30 = .ok (.iconst 0, 1) := by decide +kernel
theorem dX11_last_31 : decode cX11_last 31 = .ok (.istore 5, 2) := by decide +kernel
theorem dX11_last_33 : decode cX11_last 33 = .ok (.iconst 0, 1) := by decide +kernel
theorem dX11_last_34 : decode cX11_last 34 = .ok (.istore 6, 2) := by decide +kernel
theorem dX11_last_36 : decode cX11_last 36 = .ok (.iload 6, 2) := by decide +kernel
theorem dX11_last_38 : decode cX11_last 38 = .ok (.aload_n 0, 1) := by decide +kernel
theorem dX11_last_39 : decode cX11_last 39 = .ok (.getfield 19, 3) := by decide +kernel
theorem dX11_last_42 : decode cX11_last 42 = .ok (.getfield 161, 3) := by decide +kernel
theorem dX11_last_45 : decode cX11_last 45 = .ok (.if_icmp .ge 111, 3) := by decide +kernel
theorem dX11_last_48 : decode cX11_last 48 = .ok (.iload_n 2, 1) := by decide +kernel
theorem dX11_last_49 : decode cX11_last 49 = .ok (.iload 6, 2) := by decide +kernel
theorem dX11_last_51 : decode cX11_last 51 = .ok (.ishr, 1) := by decide +kernel
theorem dX11_last_52 : decode cX11_last 52 = .ok (.iconst 1, 1) := by decide +kernel
theorem dX11_last_53 : decode cX11_last 53 = .ok (.iand, 1) := by decide +kernel
theorem dX11_last_54 : decode cX11_last 54 = .ok (.iconst 1, 1) := by decide +kernel
theorem dX11_last_55 : decode cX11_last 55 = .ok (.if_icmp .ne 95, 3) := by decide +kernel
theorem dX11_last_58 : decode cX11_last 58 = .ok (.aload_n 0, 1) := by decide +kernel
theorem dX11_last_59 : decode cX11_last 59 = .ok (.getfield 19, 3) := by decide +kernel
theorem dX11_last_62 : decode cX11_last 62 = .ok (.getfield 166, 3) := by decide +kernel
theorem dX11_last_65 : decode cX11_last 65 = .ok (.iload 6, 2) := by decide +kernel
theorem dX11_last_67 : decode cX11_last 67 = .ok (.aaload, 1) := by decide +kernel
theorem dX11_last_68 : decode cX11_last 68 = .ok (.getfield 185, 3) := by decide +kernel
theorem dX11_last_71 : decode cX11_last 71 = .ok (.ifCond .eq 79, 3) := by decide +kernel
theorem dX11_last_74 : decode cX11_last 74 = .ok (.aload_n 0, 1) := by decide +kernel
theorem dX11_last_75 : decode cX11_last 75 = .ok (.getfield 35, 3) := by decide +kernel
theorem dX11_last_78 : decode cX11_last 78 = .ok (.aload_n 0, 1) := by decide +kernel
theorem dX11_last_79 : decode cX11_last 79 = .ok (.getfield 19, 3) := by decide +kernel
theorem dX11_last_82 : decode cX11_last 82 = .ok (.getfield 107, 3) := by decide +kernel
theorem dX11_last_85 : decode cX11_last 85 = .ok (.iload_n 1, 1) := by decide +kernel
theorem dX11_last_86 : decode cX11_last 86 = .ok (.aaload, 1) := by decide +kernel
theorem dX11_last_87 : decode cX11_last 87 = .ok (.iload 6, 2) := by decide +kernel
theorem dX11_last_89 : decode cX11_last 89 = .ok (.aload_n 0, 1) := by decide +kernel
theorem dX11_last_90 : decode cX11_last 90 = .ok (.getfield 19, 3) := by decide +kernel
theorem dX11_last_93 : decode cX11_last 93 = .ok (.getfield 226, 3) := by decide +kernel
theorem dX11_last_96 : decode cX11_last 96 = .ok (.invokevirtual 280, 3) := by decide +kernel
theorem dX11_last_99 : decode cX11_last 99 = .ok (.aload_n 0, 1) := by decide +kernel
theorem dX11_last_100 : decode cX11_last 100 = .ok (.getfield 35, 3) := by decide +kernel
theorem dX11_last_103 : decode cX11_last 103 = .ok (.aload_n 0, 1) := by decide +kernel
theorem dX11_last_104 : decode cX11_last 104 = .ok (.getfield 19, 3) := by decide +kernel
theorem dX11_last_107 : decode cX11_last 107 = .ok (.getfield 107, 3) := by decide +kernel
theorem dX11_last_110 : decode cX11_last 110 = .ok (.iload_n 1, 1) := by decide +kernel
theorem dX11_last_111 : decode cX11_last 111 = .ok (.aaload, 1) := by decide +kernel
theorem dX11_last_112 : decode cX11_last 112 = .ok (.iload 6, 2) := by decide +kernel
theorem dX11_last_114 : decode cX11_last 114 = .ok (.aload_n 0, 1) := by decide +kernel
theorem dX11_last_115 : decode cX11_last 115 = .ok (.getfield 19, 3) := by decide +kernel
theorem dX11_last_118 : decode cX11_last 118 = .ok (.getfield 226, 3) := by decide +kernel
theorem dX11_last_121 : decode cX11_last 121 = .ok (.iload_n 3, 1) := by decide +kernel
theorem dX11_last_122 : decode cX11_last 122 = .ok (.iadd, 1) := by decide +kernel
theorem dX11_last_123 : decode cX11_last 123 = .ok (.invokevirtual 280, 3) := by decide +kernel
theorem dX11_last_126 : decode cX11_last 126 = .ok (.isub, 1) := by decide +kernel
theorem dX11_last_127 : decode cX11_last 127 = .ok (.istore 7, 2) := by decide +kernel
theorem dX11_last_129 : decode cX11_last 129 = .ok (.iload 4, 2) := by decide +kernel
theorem dX11_last_131 : decode cX11_last 131 = .ok (.iconst (-1), 1) := by decide +kernel
theorem dX11_last_132 : decode cX11_last 132 = .ok (.if_icmp .eq 10, 3) := by decide +kernel
theorem dX11_last_135 : decode cX11_last 135 = .ok (.iload 7, 2) := by decide +kernel
theorem dX11_last_137 : decode cX11_last 137 = .ok (.iload 5, 2) := by decide +kernel
theorem dX11_last_139 : decode cX11_last 139 = .ok (.if_icmp .ge 11, 3) := by decide +kernel
theorem dX11_last_142 : decode cX11_last 142 = .ok (.iload 6, 2) := by decide +kernel
theorem dX11_last_144 : decode cX11_last 144 = .ok (.istore 4, 2) := by decide +kernel
theorem dX11_last_146 : decode cX11_last 146 = .ok (.iload 7, 2) := by decide +kernel
theorem dX11_last_148 : decode cX11_last 148 = .ok (.istore 5, 2) := by decide +kernel
theorem dX11_last_150 : decode cX11_last 150 = .ok (.iinc 6 1, 3) := by decide +kernel
theorem dX11_last_153 : decode cX11_last 153 = .ok (.goto (-117), 3) := by decide +kernel
theorem dX11_last_156 : decode cX11_last 156 = .ok (.iload 4, 2) := by decide +kernel
theorem dX11_last_158 : decode cX11_last 158 = .ok (.ireturn, 1) := by decide +kernel
theorem dX11_chance_0 : decode cX11_chance 0 = .ok (.iload_n 1, 1) := by decide +kernel
theorem dX11_chance_1 : decode cX11_chance 1 = .ok (.iconst 1, 1) := by decide +kernel
theorem dX11_chance_2 : decode cX11_chance 2 = .ok (.if_icmp .lt 19, 3) := by decide +kernel
theorem dX11_chance_5 : decode cX11_chance 5 = .ok (.iload_n 1, 1) := by decide +kernel
theorem dX11_chance_6 : decode cX11_chance 6 = .ok (.bipush 6, 2) := by decide +kernel
theorem dX11_chance_8 : decode cX11_chance 8 = .ok (.if_icmp .gt 13, 3) := by decide +kernel
theorem dX11_chance_11 : decode cX11_chance 11 = .ok (.iload_n 2, 1) := by decide +kernel
theorem dX11_chance_12 : decode cX11_chance 12 = .ok (.ifCond .lt 9, 3) := by decide +kernel
theorem dX11_chance_15 : decode cX11_chance 15 = .ok (.iload_n 2, 1) := by decide +kernel
theorem dX11_chance_16 : decode cX11_chance 16 = .ok (.bipush 100, 2) := by decide +kernel
theorem dX11_chance_18 : decode cX11_chance 18 = .ok (.if_icmp .le 14, 3) := by decide +kernel
theorem dX11_chance_21 : decode cX11_chance 21 = .ok (.new 92, 3) := by decide +kernel
theorem dX11_chance_24 : decode cX11_chance 24 = .ok (.dup, 1) := by decide +kernel
theorem dX11_chance_25 : decode cX11_chance 25 = .ok (.ldc_w 434, 3) := by decide +kernel
theorem dX11_chance_28 : decode cX11_chance 28 = .ok (.invokespecial 96, 3) := by decide +kernel
theorem dX11_chance_31 : decode cX11_chance 31 = .ok (.athrow, 1) := by decide +kernel
theorem dX11_chance_32 : decode cX11_chance 32 = .ok (.aload_n 0, 1) := by decide +kernel
theorem dX11_chance_33 : decode cX11_chance 33 = .ok (.getfield 19, 3) := by decide +kernel
theorem dX11_chance_36 : decode cX11_chance 36 = .ok (.getfield 436, 3) := by decide +kernel
theorem dX11_chance_39 : decode cX11_chance 39 = .ok (.iload_n 1, 1) := by decide +kernel
theorem dX11_chance_40 : decode cX11_chance 40 = .ok (.iconst 1, 1) := by decide +kernel
theorem dX11_chance_41 : decode cX11_chance 41 = .ok (.isub, 1) := by decide +kernel
theorem dX11_chance_42 : decode cX11_chance 42 = .ok (.iload_n 2, 1) := by decide +kernel
theorem dX11_chance_43 : decode cX11_chance 43 = .ok (.iastore, 1) := by decide +kernel
theorem dX11_chance_44 : decode cX11_chance 44 = .ok (.return_, 1) := by decide +kernel
theorem dX11_risk_0 : decode cX11_risk 0 = .ok (.iload_n 1, 1) := by decide +kernel
theorem dX11_risk_1 : decode cX11_risk 1 = .ok (.ifCond .lt 9, 3) := by decide +kernel
theorem dX11_risk_4 : decode cX11_risk 4 = .ok (.iload_n 1, 1) := by decide +kernel
theorem dX11_risk_5 : decode cX11_risk 5 = .ok (.bipush 6, 2) := by decide +kernel
theorem dX11_risk_7 : decode cX11_risk 7 = .ok (.if_icmp .le 14, 3) := by decide +kernel
theorem dX11_risk_10 : decode cX11_risk 10 = .ok (.new 92, 3) := by decide +kernel
theorem dX11_risk_13 : decode cX11_risk 13 = .ok (.dup, 1) := by decide +kernel
theorem dX11_risk_14 : decode cX11_risk 14 = .ok (.ldc_w 439, 3) := by decide +kernel
theorem dX11_risk_17 : decode cX11_risk 17 = .ok (.invokespecial 96, 3) := by decide +kernel
theorem dX11_risk_20 : decode cX11_risk 20 = .ok (.athrow, 1) := by decide +kernel
theorem dX11_risk_21 : decode cX11_risk 21 = .ok (.iconst 1, 1) := by decide +kernel
theorem dX11_risk_22 : decode cX11_risk 22 = .ok (.istore_n 3, 1) := by decide +kernel
theorem dX11_risk_23 : decode cX11_risk 23 = .ok (.aload_n 0, 1) := by decide +kernel
theorem dX11_risk_24 : decode cX11_risk 24 = .ok (.iconst 1, 1) := by decide +kernel
theorem dX11_risk_25 : decode cX11_risk 25 = .ok (.iload_n 1, 1) := by decide +kernel
theorem dX11_risk_26 : decode cX11_risk 26 = .ok (.invokevirtual 441, 3) := by decide +kernel
theorem dX11_risk_29 : decode cX11_risk 29 = .ok (.lstore 4, 2) := by decide +kernel
theorem dX11_risk_31 : decode cX11_risk 31 = .ok (.iconst 2, 1) := by decide +kernel
theorem dX11_risk_32 : decode cX11_risk 32 = .ok (.istore 6, 2) := by decide +kernel
theorem dX11_risk_34 : decode cX11_risk 34 = .ok (.iload 6, 2) := by decide +kernel
theorem dX11_risk_36 : decode cX11_risk 36 = .ok (.bipush 6, 2) := by decide +kernel
theorem dX11_risk_38 : decode cX11_risk 38 = .ok (.if_icmp .gt 33, 3) := by decide +kernel
theorem dX11_risk_41 : decode cX11_risk 41 = .ok (.aload_n 0, 1) := by decide +kernel
theorem dX11_risk_42 : decode cX11_risk 42 = .ok (.iload 6, 2) := by decide +kernel
theorem dX11_risk_44 : decode cX11_risk 44 = .ok (.iload_n 1, 1) := by decide +kernel
theorem dX11_risk_45 : decode cX11_risk 45 = .ok (.invokevirtual 441, 3) := by decide +kernel
theorem dX11_risk_48 : decode cX11_risk 48 = .ok (.lstore 7, 2) := by decide +kernel
theorem dX11_risk_50 : decode cX11_risk 50 = .ok (.lload 7, 2) := by decide +kernel
theorem dX11_risk_52 : decode cX11_risk 52 = .ok (.lload 4, 2) := by decide +kernel
theorem dX11_risk_54 : decode cX11_risk 54 = .ok (.lcmp, 1) := by decide +kernel
theorem dX11_risk_55 : decode cX11_risk 55 = .ok (.ifCond .le 10, 3) := by decide +kernel
theorem dX11_risk_58 : decode cX11_risk 58 = .ok (.iload 6, 2) := by decide +kernel
theorem dX11_risk_60 : decode cX11_risk 60 = .ok (.istore_n 3, 1) := by decide +kernel
theorem dX11_risk_61 : decode cX11_risk 61 = .ok (.lload 7, 2) := by decide +kernel
theorem dX11_risk_63 : decode cX11_risk 63 = .ok (.lstore 4, 2) := by decide +kernel
theorem dX11_risk_65 : decode cX11_risk 65 = .ok (.iinc 6 1, 3) := by decide +kernel
theorem dX11_risk_68 : decode cX11_risk 68 = .ok (.goto (-34), 3) := by decide +kernel
theorem dX11_risk_71 : decode cX11_risk 71 = .ok (.iload_n 2, 1) := by decide +kernel
theorem dX11_risk_72 : decode cX11_risk 72 = .ok (.ifCond .eq 8, 3) := by decide +kernel
theorem dX11_risk_75 : decode cX11_risk 75 = .ok (.lload 4, 2) := by decide +kernel
theorem dX11_risk_77 : decode cX11_risk 77 = .ok (.goto 5, 3) := by decide +kernel
theorem dX11_risk_80 : decode cX11_risk 80 = .ok (.iload_n 3, 1) := by decide +kernel
theorem dX11_risk_81 : decode cX11_risk 81 = .ok (.i2l, 1) := by decide +kernel
theorem dX11_risk_82 : decode cX11_risk 82 = .ok (.lreturn, 1) := by decide +kernel
theorem dX11_week_0 : decode cX11_week 0 = .ok (.iload_n 1, 1) := by decide +kernel
theorem dX11_week_1 : decode cX11_week 1 = .ok (.ifCond .lt 10, 3) := by decide +kernel
theorem dX11_week_4 : decode cX11_week 4 = .ok (.iload_n 1, 1) := by decide +kernel
theorem dX11_week_5 : decode cX11_week 5 = .ok (.sipush 9999, 3) := by decide +kernel
theorem dX11_week_8 : decode cX11_week 8 = .ok (.if_icmp .le 14, 3) := by decide +kernel
theorem dX11_week_11 : decode cX11_week 11 = .ok (.new 92, 3) := by decide +kernel
theorem dX11_week_14 : decode cX11_week 14 = .ok (.dup, 1) := by decide +kernel
theorem dX11_week_15 : decode cX11_week 15 = .ok (.ldc_w 445, 3) := by decide +kernel
theorem dX11_week_18 : decode cX11_week 18 = .ok (.invokespecial 96, 3) := by decide +kernel
theorem dX11_week_21 : decode cX11_week 21 = .ok (.athrow, 1) := by decide +kernel
theorem dX11_week_22 : decode cX11_week 22 = .ok (.aload_n 0, 1) := by decide +kernel
theorem dX11_week_23 : decode cX11_week 23 = .ok (.getfield 19, 3) := by decide +kernel
theorem dX11_week_26 : decode cX11_week 26 = .ok (.getfield 447, 3) := by decide +kernel
theorem dX11_week_29 : decode cX11_week 29 = .ok (.bipush 20, 2) := by decide +kernel
theorem dX11_week_31 : decode cX11_week 31 = .ok (.if_icmp .lt 14, 3) := by decide +kernel
theorem dX11_week_34 : decode cX11_week 34 = .ok (.new 102, 3) := by decide +kernel
theorem dX11_week_37 : decode cX11_week 37 = .ok (.dup, 1) := by decide +kernel
theorem dX11_week_38 : decode cX11_week 38 = .ok (.ldc_w 450, 3) := by decide +kernel
theorem dX11_week_41 : decode cX11_week 41 = .ok (.invokespecial 106, 3) := by decide +kernel
theorem dX11_week_44 : decode cX11_week 44 = .ok (.athrow, 1) := by decide +kernel
theorem dX11_week_45 : decode cX11_week 45 = .ok (.aload_n 0, 1) := by decide +kernel
theorem dX11_week_46 : decode cX11_week 46 = .ok (.getfield 19, 3) := by decide +kernel
theorem dX11_week_49 : decode cX11_week 49 = .ok (.getfield 452, 3) := by decide +kernel
theorem dX11_week_52 : decode cX11_week 52 = .ok (.aload_n 0, 1) := by decide +kernel
theorem dX11_week_53 : decode cX11_week 53 = .ok (.getfield 19, 3) := by decide +kernel
theorem dX11_week_56 : decode cX11_week 56 = .ok (.getfield 447, 3) := by decide +kernel
theorem dX11_week_59 : decode cX11_week 59 = .ok (.iload_n 1, 1) := by decide +kernel
theorem dX11_week_60 : decode cX11_week 60 = .ok (.iastore, 1) := by decide +kernel
theorem dX11_week_61 : decode cX11_week 61 = .ok (.aload_n 0, 1) := by decide +kernel
theorem dX11_week_62 : decode cX11_week 62 = .ok (.getfield 19, 3) := by decide +kernel
theorem dX11_week_65 : decode cX11_week 65 = .ok (.dup, 1) := by decide +kernel
theorem dX11_week_66 : decode cX11_week 66 = .ok (.getfield 447, 3) := by decide +kernel
theorem dX11_week_69 : decode cX11_week 69 = .ok (.iconst 1, 1) := by decide +kernel
theorem dX11_week_70 : decode cX11_week 70 = .ok (.iadd, 1) := by decide +kernel
theorem dX11_week_71 : decode cX11_week 71 = .ok (.putfield 447, 3) := by decide +kernel
theorem dX11_week_74 : decode cX11_week 74 = .ok (.aload_n 0, 1) := by decide +kernel
theorem dX11_week_75 : decode cX11_week 75 = .ok (.getfield 19, 3) := by decide +kernel
theorem dX11_week_78 : decode cX11_week 78 = .ok (.getfield 447, 3) := by decide +kernel
theorem dX11_week_81 : decode cX11_week 81 = .ok (.ireturn, 1) := by decide +kernel
theorem dX11_rates_0 : decode cX11_rates 0 = .ok (.iload_n 1, 1) := by decide +kernel
theorem dX11_rates_1 : decode cX11_rates 1 = .ok (.ifCond .lt 10, 3) := by decide +kernel
theorem dX11_rates_4 : decode cX11_rates 4 = .ok (.iload_n 1, 1) := by decide +kernel
theorem dX11_rates_5 : decode cX11_rates 5 = .ok (.sipush 9999, 3) := by decide +kernel
theorem dX11_rates_8 : decode cX11_rates 8 = .ok (.if_icmp .le 14, 3) := by decide +kernel
theorem dX11_rates_11 : decode cX11_rates 11 = .ok (.new 92, 3) := by decide +kernel
theorem dX11_rates_14 : decode cX11_rates 14 = .ok (.dup, 1) := by decide +kernel
theorem dX11_rates_15 : decode cX11_rates 15 = .ok (.ldc_w 455, 3) := by decide +kernel
theorem dX11_rates_18 : decode cX11_rates 18 = .ok (.invokespecial 96, 3) := by decide +kernel
theorem dX11_rates_21 : decode cX11_rates 21 = .ok (.athrow, 1) := by decide +kernel
theorem dX11_rates_22 : decode cX11_rates 22 = .ok (.iload_n 2, 1) := by decide +kernel
theorem dX11_rates_23 : decode cX11_rates 23 = .ok (.ifCond .lt 8, 3) := by decide +kernel
theorem dX11_rates_26 : decode cX11_rates 26 = .ok (.iload_n 2, 1) := by decide +kernel
theorem dX11_rates_27 : decode cX11_rates 27 = .ok (.iconst 4, 1) := by decide +kernel
theorem dX11_rates_28 : decode cX11_rates 28 = .ok (.if_icmp .le 14, 3) := by decide +kernel
theorem dX11_rates_31 : decode cX11_rates 31 = .ok (.new 268, 3) := by decide +kernel
theorem dX11_rates_34 : decode cX11_rates 34 = .ok (.dup, 1) := by decide +kernel
theorem dX11_rates_35 : decode cX11_rates 35 = .ok (.ldc_w 457, 3) := by decide +kernel
theorem dX11_rates_38 : decode cX11_rates 38 = .ok (.invokespecial 272, 3) := by decide +kernel
theorem dX11_rates_41 : decode cX11_rates 41 = .ok (.athrow, 1) := by decide +kernel
theorem dX11_rates_42 : decode cX11_rates 42 = .ok (.iconst 0, 1) := by decide +kernel
theorem dX11_rates_43 : decode cX11_rates 43 = .ok (.istore_n 3, 1) := by decide +kernel
theorem dX11_rates_44 : decode cX11_rates 44 = .ok (.iconst (-1), 1) := by decide +kernel
theorem dX11_rates_45 : decode cX11_rates 45 = .ok (.istore 4, 2) := by decide +kernel
theorem dX11_rates_47 : decode cX11_rates 47 = .ok (.iconst (-1), 1) := by decide +kernel
theorem dX11_rates_48 : decode cX11_rates 48 = .ok (.istore 5, 2) := by decide +kernel
theorem dX11_rates_50 : decode cX11_rates 50 = .ok (.iconst 0, 1) := by decide +kernel
theorem dX11_rates_51 : decode cX11_rates 51 = .ok (.istore 6, 2) := by decide +kernel
theorem dX11_rates_53 : decode cX11_rates 53 = .ok (.iload 6, 2) := by decide +kernel
theorem dX11_rates_55 : decode cX11_rates 55 = .ok (.bipush 100, 2) := by decide +kernel
theorem dX11_rates_57 : decode cX11_rates 57 = .ok (.if_icmp .gt 39, 3) := by decide +kernel
theorem dX11_rates_60 : decode cX11_rates 60 = .ok (.aload_n 0, 1) := by decide +kernel
theorem dX11_rates_61 : decode cX11_rates 61 = .ok (.iload 6, 2) := by decide +kernel
theorem dX11_rates_63 : decode cX11_rates 63 = .ok (.iload_n 1, 1) := by decide +kernel
theorem dX11_rates_64 : decode cX11_rates 64 = .ok (.invokevirtual 459, 3) := by decide +kernel
theorem dX11_rates_67 : decode cX11_rates 67 = .ok (.ifCond .eq 23, 3) := by decide +kernel
theorem dX11_rates_70 : decode cX11_rates 70 = .ok (.iload_n 3, 1) := by decide +kernel
theorem dX11_rates_71 : decode cX11_rates 71 = .ok (.ifCond .ne 8, 3) := by decide +kernel
theorem dX11_rates_74 : decode cX11_rates 74 = .ok (.iload 6, 2) := by decide +kernel
theorem dX11_rates_76 : decode cX11_rates 76 = .ok (.goto 5, 3) := by decide +kernel
theorem dX11_rates_79 : decode cX11_rates 79 = .ok (.iload 4, 2) := by decide +kernel
theorem dX11_rates_81 : decode cX11_rates 81 = .ok (.istore 4, 2) := by decide +kernel
theorem dX11_rates_83 : decode cX11_rates 83 = .ok (.iload 6, 2) := by decide +kernel
theorem dX11_rates_85 : decode cX11_rates 85 = .ok (.istore 5, 2) := by decide +kernel
theorem dX11_rates_87 : decode cX11_rates 87 = .ok (.iinc 3 1, 3) := by decide +kernel
theorem dX11_rates_90 : decode cX11_rates 90 = .ok (.iinc 6 1, 3) := by decide +kernel
theorem dX11_rates_93 : decode cX11_rates 93 = .ok (.goto (-40), 3) := by decide +kernel
theorem dX11_rates_96 : decode cX11_rates 96 = .ok (.iload_n 2, 1) := by decide +kernel
theorem dX11_rates_97 : decode cX11_rates 97 = .ok (.ifCond .ne 5, 3) := by decide +kernel
theorem dX11_rates_100 : decode cX11_rates 100 = .ok (.iload_n 3, 1) := by decide +kernel
theorem dX11_rates_101 : decode cX11_rates 101 = .ok (.ireturn, 1) := by decide +kernel
theorem dX11_rates_102 : decode cX11_rates 102 = .ok (.iload_n 2, 1) := by decide +kernel
theorem dX11_rates_103 : decode cX11_rates 103 = .ok (.iconst 2, 1) := by decide +kernel
theorem dX11_rates_104 : decode cX11_rates 104 = .ok (.if_icmp .gt 16, 3) := by decide +kernel
theorem dX11_rates_107 : decode cX11_rates 107 = .ok (.iload_n 2, 1) := by decide +kernel
theorem dX11_rates_108 : decode cX11_rates 108 = .ok (.iconst 1, 1) := by decide +kernel
theorem dX11_rates_109 : decode cX11_rates 109 = .ok (.if_icmp .ne 8, 3) := by decide +kernel
theorem dX11_rates_112 : decode cX11_rates 112 = .ok (.iload 4, 2) := by decide +kernel
theorem dX11_rates_114 : decode cX11_rates 114 = .ok (.goto 5, 3) := by decide +kernel
theorem dX11_rates_117 : decode cX11_rates 117 = .ok (.iload 5, 2) := by decide +kernel
theorem dX11_rates_119 : decode cX11_rates 119 = .ok (.ireturn, 1) := by decide +kernel
theorem dX11_rates_120 : decode cX11_rates 120 = .ok (.iload_n 3, 1) := by decide +kernel
theorem dX11_rates_121 : decode cX11_rates 121 = .ok (.ifCond .eq 14, 3) := by decide +kernel
theorem dX11_rates_124 : decode cX11_rates 124 = .ok (.aload_n 0, 1) := by decide +kernel
theorem dX11_rates_125 : decode cX11_rates 125 = .ok (.getfield 19, 3) := by decide +kernel
theorem dX11_rates_128 : decode cX11_rates 128 = .ok (.getfield 447, 3) := by decide +kernel
theorem dX11_rates_131 : decode cX11_rates 131 = .ok (.iconst 1, 1) := by decide +kernel
theorem dX11_rates_132 : decode cX11_rates 132 = .ok (.if_icmp .ge 5, 3) := by decide +kernel
theorem dX11_rates_135 : decode cX11_rates 135 = .ok (.iconst (-1), 1) := by decide +kernel
theorem dX11_rates_136 : decode cX11_rates 136 = .ok (.ireturn, 1) := by decide +kernel
theorem dX11_rates_137 : decode cX11_rates 137 = .ok (.aload_n 0, 1) := by decide +kernel
theorem dX11_rates_138 : decode cX11_rates 138 = .ok (.iload_n 1, 1) := by decide +kernel
theorem dX11_rates_139 : decode cX11_rates 139 = .ok (.iload_n 2, 1) := by decide +kernel
theorem dX11_rates_140 : decode cX11_rates 140 = .ok (.iconst 3, 1) := by decide +kernel
theorem dX11_rates_141 : decode cX11_rates 141 = .ok (.if_icmp .ne 7, 3) := by decide +kernel
theorem dX11_rates_144 : decode cX11_rates 144 = .ok (.iconst 1, 1) := by decide +kernel
theorem dX11_rates_145 : decode cX11_rates 145 = .ok (.goto 4, 3) := by decide +kernel
theorem dX11_rates_148 : decode cX11_rates 148 = .ok (.iconst 0, 1) := by decide +kernel
theorem dX11_rates_149 : decode cX11_rates 149 = .ok (.iload 4, 2) := by decide +kernel
theorem dX11_rates_151 : decode cX11_rates 151 = .ok (.iload 5, 2) := by decide +kernel
theorem dX11_rates_153 : decode cX11_rates 153 = .ok (.invokevirtual 463, 3) := by decide +kernel
theorem dX11_rates_156 : decode cX11_rates 156 = .ok (.ireturn, 1) := by decide +kernel
theorem dX11_dullest_0 : decode cX11_dullest 0 = .ok (.aload_n 0, 1) := by decide +kernel
theorem dX11_dullest_1 : decode cX11_dullest 1 = .ok (.getfield 69, 3) := by decide +kernel
theorem dX11_dullest_4 : decode cX11_dullest 4 = .ok (.invokevirtual 467, 3) := by decide +kernel
theorem dX11_dullest_7 : decode cX11_dullest 7 = .ok (.ireturn, 1) := by decide +kernel
theorem dX11_change_0 : decode cX11_change 0 = .ok (.aload_n 0, 1) := by decide +kernel
theorem dX11_change_1 : decode cX11_change 1 = .ok (.iload_n 1, 1) := by decide +kernel
theorem dX11_change_2 : decode cX11_change 2 = .ok (.invokevirtual 273, 3) := by decide +kernel
theorem dX11_change_5 : decode cX11_change 5 = .ok (.aload_n 0, 1) := by decide +kernel
theorem dX11_change_6 : decode cX11_change 6 = .ok (.getfield 69, 3) := by decide +kernel
theorem dX11_change_9 : decode cX11_change 9 = .ok (.aload_n 0, 1) := by decide +kernel
theorem dX11_change_10 : decode cX11_change 10 = .ok (.getfield 19, 3) := by decide +kernel
theorem dX11_change_13 : decode cX11_change 13 = .ok (.getfield 107, 3) := by decide +kernel
theorem dX11_change_16 : decode cX11_change 16 = .ok (.iload_n 1, 1) := by decide +kernel
theorem dX11_change_17 : decode cX11_change 17 = .ok (.aaload, 1) := by decide +kernel
theorem dX11_change_18 : decode cX11_change 18 = .ok (.invokevirtual 470, 3) := by decide +kernel
theorem dX11_change_21 : decode cX11_change 21 = .ok (.ireturn, 1) := by decide +kernel
theorem dX11_image_0 : decode cX11_image 0 = .ok (.aload_n 0, 1) := by decide +kernel
theorem dX11_image_1 : decode cX11_image 1 = .ok (.getfield 73, 3) := by decide +kernel
theorem dX11_image_4 : decode cX11_image 4 = .ok (.ifnonnull 14, 3) := by decide +kernel
theorem dX11_image_7 : decode cX11_image 7 = .ok (.aload_n 0, 1) := by decide +kernel
theorem dX11_image_8 : decode cX11_image 8 = .ok (.new 16, 3) := by decide +kernel
theorem dX11_image_11 : decode cX11_image 11 = .ok (.dup, 1) := by decide +kernel
theorem dX11_image_12 : decode cX11_image 12 = .ok (.invokespecial 18, 3) := by decide +kernel
theorem dX11_image_15 : decode cX11_image 15 = .ok (.putfield 73, 3) := by decide +kernel
theorem dX11_image_18 : decode cX11_image 18 = .ok (.aload_n 0, 1) := by decide +kernel
theorem dX11_image_19 : decode cX11_image 19 = .ok (.getfield 73, 3) := by decide +kernel
theorem dX11_image_22 : decode cX11_image 22 = .ok (.aload_n 0, 1) := by decide +kernel
theorem dX11_image_23 : decode cX11_image 23 = .ok (.getfield 19, 3) := by decide +kernel
theorem dX11_image_26 : decode cX11_image 26 = .ok (.invokevirtual 474, 3) := by decide +kernel
theorem dX11_image_29 : decode cX11_image 29 = .ok (.return_, 1) := by decide +kernel
theorem dX11_back_0 : decode cX11_back 0 = .ok (.aload_n 0, 1) := by decide +kernel
theorem dX11_back_1 : decode cX11_back 1 = .ok (.getfield 73, 3) := by decide +kernel
theorem dX11_back_4 : decode cX11_back 4 = .ok (.ifnonnull 5, 3) := by decide +kernel
theorem dX11_back_7 : decode cX11_back 7 = .ok (.iconst 0, 1) := by decide +kernel
theorem dX11_back_8 : decode cX11_back 8 = .ok (.ireturn, 1) := by decide +kernel
theorem dX11_back_9 : decode cX11_back 9 = .ok (.aload_n 0, 1) := by decide +kernel
theorem dX11_back_10 : decode cX11_back 10 = .ok (.getfield 19, 3) := by decide +kernel
theorem dX11_back_13 : decode cX11_back 13 = .ok (.aload_n 0, 1) := by decide +kernel
theorem dX11_back_14 : decode cX11_back 14 = .ok (.getfield 73, 3) := by decide +kernel
theorem dX11_back_17 : decode cX11_back 17 = .ok (.invokevirtual 474, 3) := by decide +kernel
theorem dX11_back_20 : decode cX11_back 20 = .ok (.iconst 1, 1) := by decide +kernel
theorem dX11_back_21 : decode cX11_back 21 = .ok (.ireturn, 1) := by decide +kernel
theorem dX11_count_0 : decode cX11_count 0 = .ok (.iload_n 1, 1) := by decide +kernel
theorem dX11_count_1 : decode cX11_count 1 = .ok (.tableswitch 135 0 9 #[55, 63, 71, 79, 87, 95, 103, 111, 119, 127], 55) := by decide +kernel
theorem dX11_count_56 : decode cX11_count 56 = .ok (.aload_n 0, 1) := by decide +kernel
theorem dX11_count_57 : decode cX11_count 57 = .ok (.getfield 19, 3) := by decide +kernel
theorem dX11_count_60 : decode cX11_count 60 = .ok (.getfield 137, 3) := by decide +kernel
theorem dX11_count_63 : decode cX11_count 63 = .ok (.ireturn, 1) := by decide +kernel
theorem dX11_count_64 : decode cX11_count 64 = .ok (.aload_n 0, 1) := by decide +kernel
theorem dX11_count_65 : decode cX11_count 65 = .ok (.getfield 19, 3) := by decide +kernel
theorem dX11_count_68 : decode cX11_count 68 = .ok (.invokevirtual 477, 3) := by decide +kernel
theorem dX11_count_71 : decode cX11_count 71 = .ok (.ireturn, 1) := by decide +kernel
theorem dX11_count_72 : decode cX11_count 72 = .ok (.aload_n 0, 1) := by decide +kernel
theorem dX11_count_73 : decode cX11_count 73 = .ok (.getfield 19, 3) := by decide +kernel
theorem dX11_count_76 : decode cX11_count 76 = .ok (.getfield 161, 3) := by decide +kernel
theorem dX11_count_79 : decode cX11_count 79 = .ok (.ireturn, 1) := by decide +kernel
theorem dX11_count_80 : decode cX11_count 80 = .ok (.aload_n 0, 1) := by decide +kernel
theorem dX11_count_81 : decode cX11_count 81 = .ok (.getfield 19, 3) := by decide +kernel
theorem dX11_count_84 : decode cX11_count 84 = .ok (.getfield 220, 3) := by decide +kernel
theorem dX11_count_87 : decode cX11_count 87 = .ok (.ireturn, 1) := by decide +kernel
theorem dX11_count_88 : decode cX11_count 88 = .ok (.aload_n 0, 1) := by decide +kernel
theorem dX11_count_89 : decode cX11_count 89 = .ok (.getfield 19, 3) := by decide +kernel
theorem dX11_count_92 : decode cX11_count 92 = .ok (.getfield 226, 3) := by decide +kernel
theorem dX11_count_95 : decode cX11_count 95 = .ok (.ireturn, 1) := by decide +kernel
theorem dX11_count_96 : decode cX11_count 96 = .ok (.aload_n 0, 1) := by decide +kernel
theorem dX11_count_97 : decode cX11_count 97 = .ok (.getfield 19, 3) := by decide +kernel
theorem dX11_count_100 : decode cX11_count 100 = .ok (.getfield 99, 3) := by decide +kernel
theorem dX11_count_103 : decode cX11_count 103 = .ok (.ireturn, 1) := by decide +kernel
theorem dX11_count_104 : decode cX11_count 104 = .ok (.aload_n 0, 1) := by decide +kernel
theorem dX11_count_105 : decode cX11_count 105 = .ok (.getfield 19, 3) := by decide +kernel
theorem dX11_count_108 : decode cX11_count 108 = .ok (.getfield 113, 3) := by decide +kernel
theorem dX11_count_111 : decode cX11_count 111 = .ok (.ireturn, 1) := by decide +kernel
theorem dX11_count_112 : decode cX11_count 112 = .ok (.aload_n 0, 1) := by decide +kernel
theorem dX11_count_113 : decode cX11_count 113 = .ok (.getfield 19, 3) := by decide +kernel
theorem dX11_count_116 : decode cX11_count 116 = .ok (.getfield 447, 3) := by decide +kernel
theorem dX11_count_119 : decode cX11_count 119 = .ok (.ireturn, 1) := by decide +kernel
theorem dX11_count_120 : decode cX11_count 120 = .ok (.aload_n 0, 1) := by decide +kernel
theorem dX11_count_121 : decode cX11_count 121 = .ok (.getfield 19, 3) := by decide +kernel
theorem dX11_count_124 : decode cX11_count 124 = .ok (.getfield 370, 3) := by decide +kernel
theorem dX11_count_127 : decode cX11_count 127 = .ok (.ireturn, 1) := by decide +kernel
theorem dX11_count_128 : decode cX11_count 128 = .ok (.aload_n 0, 1) := by decide +kernel
theorem dX11_count_129 : decode cX11_count 129 = .ok (.getfield 19, 3) := by decide +kernel
theorem dX11_count_132 : decode cX11_count 132 = .ok (.invokevirtual 480, 3) := by decide +kernel
theorem dX11_count_135 : decode cX11_count 135 = .ok (.ireturn, 1) := by decide +kernel
theorem dX11_count_136 : decode cX11_count 136 = .ok (.iconst (-1), 1) := by decide +kernel
theorem dX11_count_137 : decode cX11_count 137 = .ok (.ireturn, 1) := by decide +kernel
theorem dX11_checkLaw_0 : decode cX11_checkLaw 0 = .ok (.iload_n 1, 1) := by decide +kernel
theorem dX11_checkLaw_1 : decode cX11_checkLaw 1 = .ok (.ifCond .lt 14, 3) := by decide +kernel
theorem dX11_checkLaw_4 : decode cX11_checkLaw 4 = .ok (.iload_n 1, 1) := by decide +kernel
theorem dX11_checkLaw_5 : decode cX11_checkLaw 5 = .ok (.aload_n 0, 1) := by decide +kernel
theorem dX11_checkLaw_6 : decode cX11_checkLaw 6 = .ok (.getfield 19, 3) := by decide +kernel
theorem dX11_checkLaw_9 : decode cX11_checkLaw 9 = .ok (.getfield 99, 3) := by decide +kernel
theorem dX11_checkLaw_12 : decode cX11_checkLaw 12 = .ok (.if_icmp .lt 14, 3) := by decide +kernel
theorem dX11_checkLaw_15 : decode cX11_checkLaw 15 = .ok (.new 124, 3) := by decide +kernel
theorem dX11_checkLaw_18 : decode cX11_checkLaw 18 = .ok (.dup, 1) := by decide +kernel
theorem dX11_checkLaw_19 : decode cX11_checkLaw 19 = .ok (.ldc_w 483, 3) := by decide +kernel
theorem dX11_checkLaw_22 : decode cX11_checkLaw 22 = .ok (.invokespecial 128, 3) := by decide +kernel
theorem dX11_checkLaw_25 : decode cX11_checkLaw 25 = .ok (.athrow, 1) := by decide +kernel
theorem dX11_checkLaw_26 : decode cX11_checkLaw 26 = .ok (.return_, 1) := by decide +kernel
theorem dX11_checkRule_0 : decode cX11_checkRule 0 = .ok (.iload_n 1, 1) := by decide +kernel
theorem dX11_checkRule_1 : decode cX11_checkRule 1 = .ok (.ifCond .lt 14, 3) := by decide +kernel
theorem dX11_checkRule_4 : decode cX11_checkRule 4 = .ok (.iload_n 1, 1) := by decide +kernel
theorem dX11_checkRule_5 : decode cX11_checkRule 5 = .ok (.aload_n 0, 1) := by decide +kernel
theorem dX11_checkRule_6 : decode cX11_checkRule 6 = .ok (.getfield 19, 3) := by decide +kernel
theorem dX11_checkRule_9 : decode cX11_checkRule 9 = .ok (.getfield 113, 3) := by decide +kernel
theorem dX11_checkRule_12 : decode cX11_checkRule 12 = .ok (.if_icmp .lt 14, 3) := by decide +kernel
theorem dX11_checkRule_15 : decode cX11_checkRule 15 = .ok (.new 124, 3) := by decide +kernel
theorem dX11_checkRule_18 : decode cX11_checkRule 18 = .ok (.dup, 1) := by decide +kernel
theorem dX11_checkRule_19 : decode cX11_checkRule 19 = .ok (.ldc_w 485, 3) := by decide +kernel
theorem dX11_checkRule_22 : decode cX11_checkRule 22 = .ok (.invokespecial 128, 3) := by decide +kernel
theorem dX11_checkRule_25 : decode cX11_checkRule 25 = .ok (.athrow, 1) := by decide +kernel
theorem dX11_checkRule_26 : decode cX11_checkRule 26 = .ok (.return_, 1) := by decide +kernel
theorem dX11_checkHouse_0 : decode cX11_checkHouse 0 = .ok (.iload_n 1, 1) := by decide +kernel
theorem dX11_checkHouse_1 : decode cX11_checkHouse 1 = .ok (.ifCond .lt 14, 3) := by decide +kernel
theorem dX11_checkHouse_4 : decode cX11_checkHouse 4 = .ok (.iload_n 1, 1) := by decide +kernel
theorem dX11_checkHouse_5 : decode cX11_checkHouse 5 = .ok (.aload_n 0, 1) := by decide +kernel
theorem dX11_checkHouse_6 : decode cX11_checkHouse 6 = .ok (.getfield 19, 3) := by decide +kernel
theorem dX11_checkHouse_9 : decode cX11_checkHouse 9 = .ok (.getfield 137, 3) := by decide +kernel
theorem dX11_checkHouse_12 : decode cX11_checkHouse 12 = .ok (.if_icmp .lt 14, 3) := by decide +kernel
theorem dX11_checkHouse_15 : decode cX11_checkHouse 15 = .ok (.new 124, 3) := by decide +kernel
theorem dX11_checkHouse_18 : decode cX11_checkHouse 18 = .ok (.dup, 1) := by decide +kernel
theorem dX11_checkHouse_19 : decode cX11_checkHouse 19 = .ok (.ldc_w 487, 3) := by decide +kernel
theorem dX11_checkHouse_22 : decode cX11_checkHouse 22 = .ok (.invokespecial 128, 3) := by decide +kernel
theorem dX11_checkHouse_25 : decode cX11_checkHouse 25 = .ok (.athrow, 1) := by decide +kernel
theorem dX11_checkHouse_26 : decode cX11_checkHouse 26 = .ok (.return_, 1) := by decide +kernel
theorem dX11_checkDoor_0 : decode cX11_checkDoor 0 = .ok (.aload_n 0, 1) := by decide +kernel
theorem dX11_checkDoor_1 : decode cX11_checkDoor 1 = .ok (.iload_n 1, 1) := by decide +kernel
theorem dX11_checkDoor_2 : decode cX11_checkDoor 2 = .ok (.invokevirtual 400, 3) := by decide +kernel
theorem dX11_checkDoor_5 : decode cX11_checkDoor 5 = .ok (.iload_n 2, 1) := by decide +kernel
theorem dX11_checkDoor_6 : decode cX11_checkDoor 6 = .ok (.ifCond .lt 16, 3) := by decide +kernel
theorem dX11_checkDoor_9 : decode cX11_checkDoor 9 = .ok (.iload_n 2, 1) := by decide +kernel
theorem dX11_checkDoor_10 : decode cX11_checkDoor 10 = .ok (.aload_n 0, 1) := by decide +kernel
theorem dX11_checkDoor_11 : decode cX11_checkDoor 11 = .ok (.getfield 19, 3) := by decide +kernel
theorem dX11_checkDoor_14 : decode cX11_checkDoor 14 = .ok (.getfield 203, 3) := by decide +kernel
theorem dX11_checkDoor_17 : decode cX11_checkDoor 17 = .ok (.iload_n 1, 1) := by decide +kernel
theorem dX11_checkDoor_18 : decode cX11_checkDoor 18 = .ok (.iaload, 1) := by decide +kernel
theorem dX11_checkDoor_19 : decode cX11_checkDoor 19 = .ok (.if_icmp .lt 14, 3) := by decide +kernel
theorem dX11_checkDoor_22 : decode cX11_checkDoor 22 = .ok (.new 124, 3) := by decide +kernel
theorem dX11_checkDoor_25 : decode cX11_checkDoor 25 = .ok (.dup, 1) := by decide +kernel
theorem dX11_checkDoor_26 : decode cX11_checkDoor 26 = .ok (.ldc_w 489, 3) := by decide +kernel
theorem dX11_checkDoor_29 : decode cX11_checkDoor 29 = .ok (.invokespecial 128, 3) := by decide +kernel
theorem dX11_checkDoor_32 : decode cX11_checkDoor 32 = .ok (.athrow, 1) := by decide +kernel
theorem dX11_checkDoor_33 : decode cX11_checkDoor 33 = .ok (.return_, 1) := by decide +kernel
theorem dX11_checkPack_0 : decode cX11_checkPack 0 = .ok (.iload_n 1, 1) := by decide +kernel
theorem dX11_checkPack_1 : decode cX11_checkPack 1 = .ok (.ifCond .lt 14, 3) := by decide +kernel
theorem dX11_checkPack_4 : decode cX11_checkPack 4 = .ok (.iload_n 1, 1) := by decide +kernel
theorem dX11_checkPack_5 : decode cX11_checkPack 5 = .ok (.aload_n 0, 1) := by decide +kernel
theorem dX11_checkPack_6 : decode cX11_checkPack 6 = .ok (.getfield 19, 3) := by decide +kernel
theorem dX11_checkPack_9 : decode cX11_checkPack 9 = .ok (.getfield 161, 3) := by decide +kernel
theorem dX11_checkPack_12 : decode cX11_checkPack 12 = .ok (.if_icmp .lt 14, 3) := by decide +kernel
theorem dX11_checkPack_15 : decode cX11_checkPack 15 = .ok (.new 124, 3) := by decide +kernel
theorem dX11_checkPack_18 : decode cX11_checkPack 18 = .ok (.dup, 1) := by decide +kernel
theorem dX11_checkPack_19 : decode cX11_checkPack 19 = .ok (.ldc_w 491, 3) := by decide +kernel
theorem dX11_checkPack_22 : decode cX11_checkPack 22 = .ok (.invokespecial 128, 3) := by decide +kernel
theorem dX11_checkPack_25 : decode cX11_checkPack 25 = .ok (.athrow, 1) := by decide +kernel
theorem dX11_checkPack_26 : decode cX11_checkPack 26 = .ok (.return_, 1) := by decide +kernel
theorem dX11_checkPlaceIn_0 : decode cX11_checkPlaceIn 0 = .ok (.aload_n 0, 1) := by decide +kernel
theorem dX11_checkPlaceIn_1 : decode cX11_checkPlaceIn 1 = .ok (.iload_n 1, 1) := by decide +kernel
theorem dX11_checkPlaceIn_2 : decode cX11_checkPlaceIn 2 = .ok (.invokevirtual 182, 3) := by decide +kernel
theorem dX11_checkPlaceIn_5 : decode cX11_checkPlaceIn 5 = .ok (.iload_n 2, 1) := by decide +kernel
theorem dX11_checkPlaceIn_6 : decode cX11_checkPlaceIn 6 = .ok (.ifCond .lt 19, 3) := by decide +kernel
theorem dX11_checkPlaceIn_9 : decode cX11_checkPlaceIn 9 = .ok (.iload_n 2, 1) := by decide +kernel
theorem dX11_checkPlaceIn_10 : decode cX11_checkPlaceIn 10 = .ok (.aload_n 0, 1) := by decide +kernel
theorem dX11_checkPlaceIn_11 : decode cX11_checkPlaceIn 11 = .ok (.getfield 19, 3) := by decide +kernel
theorem dX11_checkPlaceIn_14 : decode cX11_checkPlaceIn 14 = .ok (.getfield 166, 3) := by decide +kernel
theorem dX11_checkPlaceIn_17 : decode cX11_checkPlaceIn 17 = .ok (.iload_n 1, 1) := by decide +kernel
theorem dX11_checkPlaceIn_18 : decode cX11_checkPlaceIn 18 = .ok (.aaload, 1) := by decide +kernel
theorem dX11_checkPlaceIn_19 : decode cX11_checkPlaceIn 19 = .ok (.getfield 288, 3) := by decide +kernel
theorem dX11_checkPlaceIn_22 : decode cX11_checkPlaceIn 22 = .ok (.if_icmp .lt 14, 3) := by decide +kernel
theorem dX11_checkPlaceIn_25 : decode cX11_checkPlaceIn 25 = .ok (.new 124, 3) := by decide +kernel
theorem dX11_checkPlaceIn_28 : decode cX11_checkPlaceIn 28 = .ok (.dup, 1) := by decide +kernel
theorem dX11_checkPlaceIn_29 : decode cX11_checkPlaceIn 29 = .ok (.ldc_w 493, 3) := by decide +kernel
theorem dX11_checkPlaceIn_32 : decode cX11_checkPlaceIn 32 = .ok (.invokespecial 128, 3) := by decide +kernel
theorem dX11_checkPlaceIn_35 : decode cX11_checkPlaceIn 35 = .ok (.athrow, 1) := by decide +kernel
theorem dX11_checkPlaceIn_36 : decode cX11_checkPlaceIn 36 = .ok (.return_, 1) := by decide +kernel
theorem dX11_checkPut_0 : decode cX11_checkPut 0 = .ok (.aload_n 0, 1) := by decide +kernel
theorem dX11_checkPut_1 : decode cX11_checkPut 1 = .ok (.iload_n 1, 1) := by decide +kernel
theorem dX11_checkPut_2 : decode cX11_checkPut 2 = .ok (.invokevirtual 182, 3) := by decide +kernel
theorem dX11_checkPut_5 : decode cX11_checkPut 5 = .ok (.aload_n 0, 1) := by decide +kernel
theorem dX11_checkPut_6 : decode cX11_checkPut 6 = .ok (.getfield 19, 3) := by decide +kernel
theorem dX11_checkPut_9 : decode cX11_checkPut 9 = .ok (.getfield 166, 3) := by decide +kernel
theorem dX11_checkPut_12 : decode cX11_checkPut 12 = .ok (.iload_n 1, 1) := by decide +kernel
theorem dX11_checkPut_13 : decode cX11_checkPut 13 = .ok (.aaload, 1) := by decide +kernel
theorem dX11_checkPut_14 : decode cX11_checkPut 14 = .ok (.getfield 185, 3) := by decide +kernel
theorem dX11_checkPut_17 : decode cX11_checkPut 17 = .ok (.ifCond .ne 14, 3) := by decide +kernel
theorem dX11_checkPut_20 : decode cX11_checkPut 20 = .ok (.new 189, 3) := by decide +kernel
theorem dX11_checkPut_23 : decode cX11_checkPut 23 = .ok (.dup, 1) := by decide +kernel
theorem dX11_checkPut_24 : decode cX11_checkPut 24 = .ok (.ldc_w 495, 3) := by decide +kernel
theorem dX11_checkPut_27 : decode cX11_checkPut 27 = .ok (.invokespecial 193, 3) := by decide +kernel
theorem dX11_checkPut_30 : decode cX11_checkPut 30 = .ok (.athrow, 1) := by decide +kernel
theorem dX11_checkPut_31 : decode cX11_checkPut 31 = .ok (.return_, 1) := by decide +kernel
theorem dX11_checkPer_0 : decode cX11_checkPer 0 = .ok (.iload_n 1, 1) := by decide +kernel
theorem dX11_checkPer_1 : decode cX11_checkPer 1 = .ok (.iconst 1, 1) := by decide +kernel
theorem dX11_checkPer_2 : decode cX11_checkPer 2 = .ok (.if_icmp .lt 8, 3) := by decide +kernel
theorem dX11_checkPer_5 : decode cX11_checkPer 5 = .ok (.iload_n 1, 1) := by decide +kernel
theorem dX11_checkPer_6 : decode cX11_checkPer 6 = .ok (.iconst 3, 1) := by decide +kernel
theorem dX11_checkPer_7 : decode cX11_checkPer 7 = .ok (.if_icmp .le 14, 3) := by decide +kernel
theorem dX11_checkPer_10 : decode cX11_checkPer 10 = .ok (.new 92, 3) := by decide +kernel
theorem dX11_checkPer_13 : decode cX11_checkPer 13 = .ok (.dup, 1) := by decide +kernel
theorem dX11_checkPer_14 : decode cX11_checkPer 14 = .ok (.ldc_w 497, 3) := by decide +kernel
theorem dX11_checkPer_17 : decode cX11_checkPer 17 = .ok (.invokespecial 96, 3) := by decide +kernel
theorem dX11_checkPer_20 : decode cX11_checkPer 20 = .ok (.athrow, 1) := by decide +kernel
theorem dX11_checkPer_21 : decode cX11_checkPer 21 = .ok (.return_, 1) := by decide +kernel
theorem dX11_checkSeconds_0 : decode cX11_checkSeconds 0 = .ok (.iload_n 1, 1) := by decide +kernel
theorem dX11_checkSeconds_1 : decode cX11_checkSeconds 1 = .ok (.iconst 1, 1) := by decide +kernel
theorem dX11_checkSeconds_2 : decode cX11_checkSeconds 2 = .ok (.if_icmp .lt 9, 3) := by decide +kernel
theorem dX11_checkSeconds_5 : decode cX11_checkSeconds 5 = .ok (.iload_n 1, 1) := by decide +kernel
theorem dX11_checkSeconds_6 : decode cX11_checkSeconds 6 = .ok (.bipush 60, 2) := by decide +kernel
theorem dX11_checkSeconds_8 : decode cX11_checkSeconds 8 = .ok (.if_icmp .le 14, 3) := by decide +kernel
theorem dX11_checkSeconds_11 : decode cX11_checkSeconds 11 = .ok (.new 92, 3) := by decide +kernel
theorem dX11_checkSeconds_14 : decode cX11_checkSeconds 14 = .ok (.dup, 1) := by decide +kernel
theorem dX11_checkSeconds_15 : decode cX11_checkSeconds 15 = .ok (.ldc_w 499, 3) := by decide +kernel
theorem dX11_checkSeconds_18 : decode cX11_checkSeconds 18 = .ok (.invokespecial 96, 3) := by decide +kernel
theorem dX11_checkSeconds_21 : decode cX11_checkSeconds 21 = .ok (.athrow, 1) := by decide +kernel
theorem dX11_checkSeconds_22 : decode cX11_checkSeconds 22 = .ok (.return_, 1) := by decide +kernel
theorem dX11_checkClock_0 : decode cX11_checkClock 0 = .ok (.iload_n 1, 1) := by decide +kernel
theorem dX11_checkClock_1 : decode cX11_checkClock 1 = .ok (.ldc_w 501, 3) := by decide +kernel
theorem dX11_checkClock_4 : decode cX11_checkClock 4 = .ok (.aload_n 0, 1) := by decide +kernel
theorem dX11_checkClock_5 : decode cX11_checkClock 5 = .ok (.getfield 19, 3) := by decide +kernel
theorem dX11_checkClock_8 : decode cX11_checkClock 8 = .ok (.getfield 226, 3) := by decide +kernel
theorem dX11_checkClock_11 : decode cX11_checkClock 11 = .ok (.isub, 1) := by decide +kernel
theorem dX11_checkClock_12 : decode cX11_checkClock 12 = .ok (.if_icmp .le 14, 3) := by decide +kernel
theorem dX11_checkClock_15 : decode cX11_checkClock 15 = .ok (.new 92, 3) := by decide +kernel
theorem dX11_checkClock_18 : decode cX11_checkClock 18 = .ok (.dup, 1) := by decide +kernel
theorem dX11_checkClock_19 : decode cX11_checkClock 19 = .ok (.ldc_w 502, 3) := by decide +kernel
theorem dX11_checkClock_22 : decode cX11_checkClock 22 = .ok (.invokespecial 96, 3) := by decide +kernel
theorem dX11_checkClock_25 : decode cX11_checkClock 25 = .ok (.athrow, 1) := by decide +kernel
theorem dX11_checkClock_26 : decode cX11_checkClock 26 = .ok (.return_, 1) := by decide +kernel
theorem dX11_checkPlanned_0 : decode cX11_checkPlanned 0 = .ok (.iload_n 1, 1) := by decide +kernel
theorem dX11_checkPlanned_1 : decode cX11_checkPlanned 1 = .ok (.aload_n 0, 1) := by decide +kernel
theorem dX11_checkPlanned_2 : decode cX11_checkPlanned 2 = .ok (.getfield 19, 3) := by decide +kernel
theorem dX11_checkPlanned_5 : decode cX11_checkPlanned 5 = .ok (.getfield 161, 3) := by decide +kernel
theorem dX11_checkPlanned_8 : decode cX11_checkPlanned 8 = .ok (.ishr, 1) := by decide +kernel
theorem dX11_checkPlanned_9 : decode cX11_checkPlanned 9 = .ok (.ifCond .ne 11, 3) := by decide +kernel
theorem dX11_checkPlanned_12 : decode cX11_checkPlanned 12 = .ok (.iload_n 1, 1) := by decide +kernel
theorem dX11_checkPlanned_13 : decode cX11_checkPlanned 13 = .ok (.invokestatic 387, 3) := by decide +kernel
theorem dX11_checkPlanned_16 : decode cX11_checkPlanned 16 = .ok (.iconst 5, 1) := by decide +kernel
theorem dX11_checkPlanned_17 : decode cX11_checkPlanned 17 = .ok (.if_icmp .le 14, 3) := by decide +kernel
theorem dX11_checkPlanned_20 : decode cX11_checkPlanned 20 = .ok (.new 92, 3) := by decide +kernel
theorem dX11_checkPlanned_23 : decode cX11_checkPlanned 23 = .ok (.dup, 1) := by decide +kernel
theorem dX11_checkPlanned_24 : decode cX11_checkPlanned 24 = .ok (.ldc_w 504, 3) := by decide +kernel
theorem dX11_checkPlanned_27 : decode cX11_checkPlanned 27 = .ok (.invokespecial 96, 3) := by decide +kernel
theorem dX11_checkPlanned_30 : decode cX11_checkPlanned 30 = .ok (.athrow, 1) := by decide +kernel
theorem dX11_checkPlanned_31 : decode cX11_checkPlanned 31 = .ok (.iconst 0, 1) := by decide +kernel
theorem dX11_checkPlanned_32 : decode cX11_checkPlanned 32 = .ok (.istore_n 2, 1) := by decide +kernel
theorem dX11_checkPlanned_33 : decode cX11_checkPlanned 33 = .ok (.iload_n 2, 1) := by decide +kernel
theorem dX11_checkPlanned_34 : decode cX11_checkPlanned 34 = .ok (.aload_n 0, 1) := by decide +kernel
theorem dX11_checkPlanned_35 : decode cX11_checkPlanned 35 = .ok (.getfield 19, 3) := by decide +kernel
theorem dX11_checkPlanned_38 : decode cX11_checkPlanned 38 = .ok (.getfield 161, 3) := by decide +kernel
theorem dX11_checkPlanned_41 : decode cX11_checkPlanned 41 = .ok (.if_icmp .ge 44, 3) := by decide +kernel
theorem dX11_checkPlanned_44 : decode cX11_checkPlanned 44 = .ok (.iload_n 1, 1) := by decide +kernel
theorem dX11_checkPlanned_45 : decode cX11_checkPlanned 45 = .ok (.iload_n 2, 1) := by decide +kernel
theorem dX11_checkPlanned_46 : decode cX11_checkPlanned 46 = .ok (.ishr, 1) := by decide +kernel
theorem dX11_checkPlanned_47 : decode cX11_checkPlanned 47 = .ok (.iconst 1, 1) := by decide +kernel
theorem dX11_checkPlanned_48 : decode cX11_checkPlanned 48 = .ok (.iand, 1) := by decide +kernel
theorem dX11_checkPlanned_49 : decode cX11_checkPlanned 49 = .ok (.iconst 1, 1) := by decide +kernel
theorem dX11_checkPlanned_50 : decode cX11_checkPlanned 50 = .ok (.if_icmp .ne 29, 3) := by decide +kernel
theorem dX11_checkPlanned_53 : decode cX11_checkPlanned 53 = .ok (.aload_n 0, 1) := by decide +kernel
theorem dX11_checkPlanned_54 : decode cX11_checkPlanned 54 = .ok (.getfield 19, 3) := by decide +kernel
theorem dX11_checkPlanned_57 : decode cX11_checkPlanned 57 = .ok (.getfield 166, 3) := by decide +kernel
theorem dX11_checkPlanned_60 : decode cX11_checkPlanned 60 = .ok (.iload_n 2, 1) := by decide +kernel
theorem dX11_checkPlanned_61 : decode cX11_checkPlanned 61 = .ok (.aaload, 1) := by decide +kernel
theorem dX11_checkPlanned_62 : decode cX11_checkPlanned 62 = .ok (.getfield 185, 3) := by decide +kernel
theorem dX11_checkPlanned_65 : decode cX11_checkPlanned 65 = .ok (.ifCond .eq 14, 3) := by decide +kernel
theorem dX11_checkPlanned_68 : decode cX11_checkPlanned 68 = .ok (.new 92, 3) := by decide +kernel
theorem dX11_checkPlanned_71 : decode cX11_checkPlanned 71 = .ok (.dup, 1) := by decide +kernel
theorem dX11_checkPlanned_72 : decode cX11_checkPlanned 72 = .ok (.ldc_w 506, 3) := by decide +kernel
theorem dX11_checkPlanned_75 : decode cX11_checkPlanned 75 = .ok (.invokespecial 96, 3) := by decide +kernel
theorem dX11_checkPlanned_78 : decode cX11_checkPlanned 78 = .ok (.athrow, 1) := by decide +kernel
theorem dX11_checkPlanned_79 : decode cX11_checkPlanned 79 = .ok (.iinc 2 1, 3) := by decide +kernel
theorem dX11_checkPlanned_82 : decode cX11_checkPlanned 82 = .ok (.goto (-49), 3) := by decide +kernel
theorem dX11_checkPlanned_85 : decode cX11_checkPlanned 85 = .ok (.return_, 1) := by decide +kernel
theorem dX11_isStep_0 : decode cX11_isStep 0 = .ok (.iload_n 0, 1) := by decide +kernel
theorem dX11_isStep_1 : decode cX11_isStep 1 = .ok (.iconst 1, 1) := by decide +kernel
theorem dX11_isStep_2 : decode cX11_isStep 2 = .ok (.if_icmp .lt 26, 3) := by decide +kernel
theorem dX11_isStep_5 : decode cX11_isStep 5 = .ok (.iload_n 0, 1) := by decide +kernel
theorem dX11_isStep_6 : decode cX11_isStep 6 = .ok (.bipush 52, 2) := by decide +kernel
theorem dX11_isStep_8 : decode cX11_isStep 8 = .ok (.if_icmp .ge 20, 3) := by decide +kernel
theorem dX11_isStep_11 : decode cX11_isStep 11 = .ok (.iload_n 0, 1) := by decide +kernel
theorem dX11_isStep_12 : decode cX11_isStep 12 = .ok (.iconst 2, 1) := by decide +kernel
theorem dX11_isStep_13 : decode cX11_isStep 13 = .ok (.irem, 1) := by decide +kernel
theorem dX11_isStep_14 : decode cX11_isStep 14 = .ok (.ifCond .eq 14, 3) := by decide +kernel
theorem dX11_isStep_17 : decode cX11_isStep 17 = .ok (.iload_n 0, 1) := by decide +kernel
theorem dX11_isStep_18 : decode cX11_isStep 18 = .ok (.bipush 13, 2) := by decide +kernel
theorem dX11_isStep_20 : decode cX11_isStep 20 = .ok (.irem, 1) := by decide +kernel
theorem dX11_isStep_21 : decode cX11_isStep 21 = .ok (.ifCond .eq 7, 3) := by decide +kernel
theorem dX11_isStep_24 : decode cX11_isStep 24 = .ok (.iconst 1, 1) := by decide +kernel
theorem dX11_isStep_25 : decode cX11_isStep 25 = .ok (.goto 4, 3) := by decide +kernel
theorem dX11_isStep_28 : decode cX11_isStep 28 = .ok (.iconst 0, 1) := by decide +kernel
theorem dX11_isStep_29 : decode cX11_isStep 29 = .ok (.ireturn, 1) := by decide +kernel
theorem dX11_nextSeed_0 : decode cX11_nextSeed 0 = .ok (.ldc_w 508, 3) := by decide +kernel
theorem dX11_nextSeed_3 : decode cX11_nextSeed 3 = .ok (.iload_n 0, 1) := by decide +kernel
theorem dX11_nextSeed_4 : decode cX11_nextSeed 4 = .ok (.imul, 1) := by decide +kernel
theorem dX11_nextSeed_5 : decode cX11_nextSeed 5 = .ok (.sipush 12345, 3) := by decide +kernel
theorem dX11_nextSeed_8 : decode cX11_nextSeed 8 = .ok (.iadd, 1) := by decide +kernel
theorem dX11_nextSeed_9 : decode cX11_nextSeed 9 = .ok (.ireturn, 1) := by decide +kernel
theorem dX11_drawOf_0 : decode cX11_drawOf 0 = .ok (.iload_n 0, 1) := by decide +kernel
theorem dX11_drawOf_1 : decode cX11_drawOf 1 = .ok (.bipush 16, 2) := by decide +kernel
theorem dX11_drawOf_3 : decode cX11_drawOf 3 = .ok (.iushr, 1) := by decide +kernel
theorem dX11_drawOf_4 : decode cX11_drawOf 4 = .ok (.sipush 32767, 3) := by decide +kernel
theorem dX11_drawOf_7 : decode cX11_drawOf 7 = .ok (.iand, 1) := by decide +kernel
theorem dX11_drawOf_8 : decode cX11_drawOf 8 = .ok (.ireturn, 1) := by decide +kernel
theorem dX11_commonPart_0 : decode cX11_commonPart 0 = .ok (.lload_n 0, 1) := by decide +kernel
theorem dX11_commonPart_1 : decode cX11_commonPart 1 = .ok (.lconst 0, 1) := by decide +kernel
theorem dX11_commonPart_2 : decode cX11_commonPart 2 = .ok (.lcmp, 1) := by decide +kernel
theorem dX11_commonPart_3 : decode cX11_commonPart 3 = .ok (.ifCond .ge 8, 3) := by decide +kernel
theorem dX11_commonPart_6 : decode cX11_commonPart 6 = .ok (.lload_n 0, 1) := by decide +kernel
theorem dX11_commonPart_7 : decode cX11_commonPart 7 = .ok (.lneg, 1) := by decide +kernel
theorem dX11_commonPart_8 : decode cX11_commonPart 8 = .ok (.goto 4, 3) := by decide +kernel
theorem dX11_commonPart_11 : decode cX11_commonPart 11 = .ok (.lload_n 0, 1) := by decide +kernel
theorem dX11_commonPart_12 : decode cX11_commonPart 12 = .ok (.lstore 4, 2) := by decide +kernel
theorem dX11_commonPart_14 : decode cX11_commonPart 14 = .ok (.lload_n 2, 1) := by decide +kernel
theorem dX11_commonPart_15 : decode cX11_commonPart 15 = .ok (.lconst 0, 1) := by decide +kernel
theorem dX11_commonPart_16 : decode cX11_commonPart 16 = .ok (.lcmp, 1) := by decide +kernel
theorem dX11_commonPart_17 : decode cX11_commonPart 17 = .ok (.ifCond .ge 8, 3) := by decide +kernel
theorem dX11_commonPart_20 : decode cX11_commonPart 20 = .ok (.lload_n 2, 1) := by decide +kernel
theorem dX11_commonPart_21 : decode cX11_commonPart 21 = .ok (.lneg, 1) := by decide +kernel
theorem dX11_commonPart_22 : decode cX11_commonPart 22 = .ok (.goto 4, 3) := by decide +kernel
theorem dX11_commonPart_25 : decode cX11_commonPart 25 = .ok (.lload_n 2, 1) := by decide +kernel
theorem dX11_commonPart_26 : decode cX11_commonPart 26 = .ok (.lstore 6, 2) := by decide +kernel
theorem dX11_commonPart_28 : decode cX11_commonPart 28 = .ok (.iconst 0, 1) := by decide +kernel
theorem dX11_commonPart_29 : decode cX11_commonPart 29 = .ok (.istore 8, 2) := by decide +kernel
theorem dX11_commonPart_31 : decode cX11_commonPart 31 = .ok (.iload 8, 2) := by decide +kernel
theorem dX11_commonPart_33 : decode cX11_commonPart 33 = .ok (.bipush 100, 2) := by decide +kernel
theorem dX11_commonPart_35 : decode cX11_commonPart 35 = .ok (.if_icmp .ge 31, 3) := by decide +kernel
theorem dX11_commonPart_38 : decode cX11_commonPart 38 = .ok (.lload 6, 2) := by decide +kernel
theorem dX11_commonPart_40 : decode cX11_commonPart 40 = .ok (.lconst 0, 1) := by decide +kernel
theorem dX11_commonPart_41 : decode cX11_commonPart 41 = .ok (.lcmp, 1) := by decide +kernel
theorem dX11_commonPart_42 : decode cX11_commonPart 42 = .ok (.ifCond .eq 24, 3) := by decide +kernel
theorem dX11_commonPart_45 : decode cX11_commonPart 45 = .ok (.lload 4, 2) := by decide +kernel
theorem dX11_commonPart_47 : decode cX11_commonPart 47 = .ok (.lload 6, 2) := by decide +kernel
theorem dX11_commonPart_49 : decode cX11_commonPart 49 = .ok (.lrem, 1) := by decide +kernel
theorem dX11_commonPart_50 : decode cX11_commonPart 50 = .ok (.lstore 9, 2) := by decide +kernel
theorem dX11_commonPart_52 : decode cX11_commonPart 52 = .ok (.lload 6, 2) := by decide +kernel
theorem dX11_commonPart_54 : decode cX11_commonPart 54 = .ok (.lstore 4, 2) := by decide +kernel
theorem dX11_commonPart_56 : decode cX11_commonPart 56 = .ok (.lload 9, 2) := by decide +kernel
theorem dX11_commonPart_58 : decode cX11_commonPart 58 = .ok (.lstore 6, 2) := by decide +kernel
theorem dX11_commonPart_60 : decode cX11_commonPart 60 = .ok (.iinc 8 1, 3) := by decide +kernel
theorem dX11_commonPart_63 : decode cX11_commonPart 63 = .ok (.goto (-32), 3) := by decide +kernel
theorem dX11_commonPart_66 : decode cX11_commonPart 66 = .ok (.lload 4, 2) := by decide +kernel
theorem dX11_commonPart_68 : decode cX11_commonPart 68 = .ok (.lconst 1, 1) := by decide +kernel
theorem dX11_commonPart_69 : decode cX11_commonPart 69 = .ok (.lcmp, 1) := by decide +kernel
theorem dX11_commonPart_70 : decode cX11_commonPart 70 = .ok (.ifCond .ge 7, 3) := by decide +kernel
theorem dX11_commonPart_73 : decode cX11_commonPart 73 = .ok (.lconst 1, 1) := by decide +kernel
theorem dX11_commonPart_74 : decode cX11_commonPart 74 = .ok (.goto 5, 3) := by decide +kernel
theorem dX11_commonPart_77 : decode cX11_commonPart 77 = .ok (.lload 4, 2) := by decide +kernel
theorem dX11_commonPart_79 : decode cX11_commonPart 79 = .ok (.lreturn, 1) := by decide +kernel
theorem dX11_oddsOfWhole_0 : decode cX11_oddsOfWhole 0 = .ok (.aload_n 0, 1) := by decide +kernel
theorem dX11_oddsOfWhole_1 : decode cX11_oddsOfWhole 1 = .ok (.getfield 19, 3) := by decide +kernel
theorem dX11_oddsOfWhole_4 : decode cX11_oddsOfWhole 4 = .ok (.getfield 436, 3) := by decide +kernel
theorem dX11_oddsOfWhole_7 : decode cX11_oddsOfWhole 7 = .ok (.iload_n 1, 1) := by decide +kernel
theorem dX11_oddsOfWhole_8 : decode cX11_oddsOfWhole 8 = .ok (.iconst 1, 1) := by decide +kernel
theorem dX11_oddsOfWhole_9 : decode cX11_oddsOfWhole 9 = .ok (.isub, 1) := by decide +kernel
theorem dX11_oddsOfWhole_10 : decode cX11_oddsOfWhole 10 = .ok (.iaload, 1) := by decide +kernel
theorem dX11_oddsOfWhole_11 : decode cX11_oddsOfWhole 11 = .ok (.istore_n 3, 1) := by decide +kernel
theorem dX11_oddsOfWhole_12 : decode cX11_oddsOfWhole 12 = .ok (.lconst 0, 1) := by decide +kernel
theorem dX11_oddsOfWhole_13 : decode cX11_oddsOfWhole 13 = .ok (.lstore 4, 2) := by decide +kernel
theorem dX11_oddsOfWhole_15 : decode cX11_oddsOfWhole 15 = .ok (.iload_n 2, 1) := by decide +kernel
theorem dX11_oddsOfWhole_16 : decode cX11_oddsOfWhole 16 = .ok (.istore 6, 2) := by decide +kernel
theorem dX11_oddsOfWhole_18 : decode cX11_oddsOfWhole 18 = .ok (.iload 6, 2) := by decide +kernel
theorem dX11_oddsOfWhole_20 : decode cX11_oddsOfWhole 20 = .ok (.iload_n 1, 1) := by decide +kernel
theorem dX11_oddsOfWhole_21 : decode cX11_oddsOfWhole 21 = .ok (.if_icmp .gt 76, 3) := by decide +kernel
theorem dX11_oddsOfWhole_24 : decode cX11_oddsOfWhole 24 = .ok (.lconst 1, 1) := by decide +kernel
theorem dX11_oddsOfWhole_25 : decode cX11_oddsOfWhole 25 = .ok (.lstore 7, 2) := by decide +kernel
theorem dX11_oddsOfWhole_27 : decode cX11_oddsOfWhole 27 = .ok (.iconst 0, 1) := by decide +kernel
theorem dX11_oddsOfWhole_28 : decode cX11_oddsOfWhole 28 = .ok (.istore 9, 2) := by decide +kernel
theorem dX11_oddsOfWhole_30 : decode cX11_oddsOfWhole 30 = .ok (.iload 9, 2) := by decide +kernel
theorem dX11_oddsOfWhole_32 : decode cX11_oddsOfWhole 32 = .ok (.bipush 6, 2) := by decide +kernel
theorem dX11_oddsOfWhole_34 : decode cX11_oddsOfWhole 34 = .ok (.if_icmp .ge 43, 3) := by decide +kernel
theorem dX11_oddsOfWhole_37 : decode cX11_oddsOfWhole 37 = .ok (.lload 7, 2) := by decide +kernel
theorem dX11_oddsOfWhole_39 : decode cX11_oddsOfWhole 39 = .ok (.iload 9, 2) := by decide +kernel
theorem dX11_oddsOfWhole_41 : decode cX11_oddsOfWhole 41 = .ok (.iload 6, 2) := by decide +kernel
theorem dX11_oddsOfWhole_43 : decode cX11_oddsOfWhole 43 = .ok (.if_icmp .ge 8, 3) := by decide +kernel
theorem dX11_oddsOfWhole_46 : decode cX11_oddsOfWhole 46 = .ok (.iload_n 3, 1) := by decide +kernel
theorem dX11_oddsOfWhole_47 : decode cX11_oddsOfWhole 47 = .ok (.i2l, 1) := by decide +kernel
theorem dX11_oddsOfWhole_48 : decode cX11_oddsOfWhole 48 = .ok (.goto 20, 3) := by decide +kernel
theorem dX11_oddsOfWhole_51 : decode cX11_oddsOfWhole 51 = .ok (.iload 9, 2) := by decide +kernel
theorem dX11_oddsOfWhole_53 : decode cX11_oddsOfWhole 53 = .ok (.iload_n 1, 1) := by decide +kernel
theorem dX11_oddsOfWhole_54 : decode cX11_oddsOfWhole 54 = .ok (.if_icmp .ge 11, 3) := by decide +kernel
theorem dX11_oddsOfWhole_57 : decode cX11_oddsOfWhole 57 = .ok (.bipush 100, 2) := by decide +kernel
theorem dX11_oddsOfWhole_59 : decode cX11_oddsOfWhole 59 = .ok (.iload_n 3, 1) := by decide +kernel
theorem dX11_oddsOfWhole_60 : decode cX11_oddsOfWhole 60 = .ok (.isub, 1) := by decide +kernel
theorem dX11_oddsOfWhole_61 : decode cX11_oddsOfWhole 61 = .ok (.i2l, 1) := by decide +kernel
theorem dX11_oddsOfWhole_62 : decode cX11_oddsOfWhole 62 = .ok (.goto 6, 3) := by decide +kernel
theorem dX11_oddsOfWhole_65 : decode cX11_oddsOfWhole 65 = .ok (.ldc2_w 306, 3) := by decide +kernel
theorem dX11_oddsOfWhole_68 : decode cX11_oddsOfWhole 68 = .ok (.lmul, 1) := by decide +kernel
theorem dX11_oddsOfWhole_69 : decode cX11_oddsOfWhole 69 = .ok (.lstore 7, 2) := by decide +kernel
theorem dX11_oddsOfWhole_71 : decode cX11_oddsOfWhole 71 = .ok (.iinc 9 1, 3) := by decide +kernel
theorem dX11_oddsOfWhole_74 : decode cX11_oddsOfWhole 74 = .ok (.goto (-44), 3) := by decide +kernel
theorem dX11_oddsOfWhole_77 : decode cX11_oddsOfWhole 77 = .ok (.lload 4, 2) := by decide +kernel
theorem dX11_oddsOfWhole_79 : decode cX11_oddsOfWhole 79 = .ok (.lload 7, 2) := by decide +kernel
theorem dX11_oddsOfWhole_81 : decode cX11_oddsOfWhole 81 = .ok (.iload_n 1, 1) := by decide +kernel
theorem dX11_oddsOfWhole_82 : decode cX11_oddsOfWhole 82 = .ok (.iload 6, 2) := by decide +kernel
theorem dX11_oddsOfWhole_84 : decode cX11_oddsOfWhole 84 = .ok (.invokestatic 509, 3) := by decide +kernel
theorem dX11_oddsOfWhole_87 : decode cX11_oddsOfWhole 87 = .ok (.lmul, 1) := by decide +kernel
theorem dX11_oddsOfWhole_88 : decode cX11_oddsOfWhole 88 = .ok (.ladd, 1) := by decide +kernel
theorem dX11_oddsOfWhole_89 : decode cX11_oddsOfWhole 89 = .ok (.lstore 4, 2) := by decide +kernel
theorem dX11_oddsOfWhole_91 : decode cX11_oddsOfWhole 91 = .ok (.iinc 6 1, 3) := by decide +kernel
theorem dX11_oddsOfWhole_94 : decode cX11_oddsOfWhole 94 = .ok (.goto (-76), 3) := by decide +kernel
theorem dX11_oddsOfWhole_97 : decode cX11_oddsOfWhole 97 = .ok (.lload 4, 2) := by decide +kernel
theorem dX11_oddsOfWhole_99 : decode cX11_oddsOfWhole 99 = .ok (.lreturn, 1) := by decide +kernel
theorem dX11_waysToChoose_0 : decode cX11_waysToChoose 0 = .ok (.lconst 1, 1) := by decide +kernel
theorem dX11_waysToChoose_1 : decode cX11_waysToChoose 1 = .ok (.lstore_n 2, 1) := by decide +kernel
theorem dX11_waysToChoose_2 : decode cX11_waysToChoose 2 = .ok (.iconst 1, 1) := by decide +kernel
theorem dX11_waysToChoose_3 : decode cX11_waysToChoose 3 = .ok (.istore 4, 2) := by decide +kernel
theorem dX11_waysToChoose_5 : decode cX11_waysToChoose 5 = .ok (.iload 4, 2) := by decide +kernel
theorem dX11_waysToChoose_7 : decode cX11_waysToChoose 7 = .ok (.iload_n 1, 1) := by decide +kernel
theorem dX11_waysToChoose_8 : decode cX11_waysToChoose 8 = .ok (.if_icmp .gt 23, 3) := by decide +kernel
theorem dX11_waysToChoose_11 : decode cX11_waysToChoose 11 = .ok (.lload_n 2, 1) := by decide +kernel
theorem dX11_waysToChoose_12 : decode cX11_waysToChoose 12 = .ok (.iload_n 0, 1) := by decide +kernel
theorem dX11_waysToChoose_13 : decode cX11_waysToChoose 13 = .ok (.iload_n 1, 1) := by decide +kernel
theorem dX11_waysToChoose_14 : decode cX11_waysToChoose 14 = .ok (.isub, 1) := by decide +kernel
theorem dX11_waysToChoose_15 : decode cX11_waysToChoose 15 = .ok (.iload 4, 2) := by decide +kernel
theorem dX11_waysToChoose_17 : decode cX11_waysToChoose 17 = .ok (.iadd, 1) := by decide +kernel
theorem dX11_waysToChoose_18 : decode cX11_waysToChoose 18 = .ok (.i2l, 1) := by decide +kernel
theorem dX11_waysToChoose_19 : decode cX11_waysToChoose 19 = .ok (.lmul, 1) := by decide +kernel
theorem dX11_waysToChoose_20 : decode cX11_waysToChoose 20 = .ok (.iload 4, 2) := by decide +kernel
theorem dX11_waysToChoose_22 : decode cX11_waysToChoose 22 = .ok (.i2l, 1) := by decide +kernel
theorem dX11_waysToChoose_23 : decode cX11_waysToChoose 23 = .ok (.ldiv, 1) := by decide +kernel
theorem dX11_waysToChoose_24 : decode cX11_waysToChoose 24 = .ok (.lstore_n 2, 1) := by decide +kernel
theorem dX11_waysToChoose_25 : decode cX11_waysToChoose 25 = .ok (.iinc 4 1, 3) := by decide +kernel
theorem dX11_waysToChoose_28 : decode cX11_waysToChoose 28 = .ok (.goto (-23), 3) := by decide +kernel
theorem dX11_waysToChoose_31 : decode cX11_waysToChoose 31 = .ok (.lload_n 2, 1) := by decide +kernel
theorem dX11_waysToChoose_32 : decode cX11_waysToChoose 32 = .ok (.lreturn, 1) := by decide +kernel
theorem dX11_weekAfter_0 : decode cX11_weekAfter 0 = .ok (.iload_n 0, 1) := by decide +kernel
theorem dX11_weekAfter_1 : decode cX11_weekAfter 1 = .ok (.iload_n 2, 1) := by decide +kernel
theorem dX11_weekAfter_2 : decode cX11_weekAfter 2 = .ok (.iload_n 1, 1) := by decide +kernel
theorem dX11_weekAfter_3 : decode cX11_weekAfter 3 = .ok (.iload_n 0, 1) := by decide +kernel
theorem dX11_weekAfter_4 : decode cX11_weekAfter 4 = .ok (.isub, 1) := by decide +kernel
theorem dX11_weekAfter_5 : decode cX11_weekAfter 5 = .ok (.imul, 1) := by decide +kernel
theorem dX11_weekAfter_6 : decode cX11_weekAfter 6 = .ok (.bipush 100, 2) := by decide +kernel
theorem dX11_weekAfter_8 : decode cX11_weekAfter 8 = .ok (.invokestatic 512, 3) := by decide +kernel
theorem dX11_weekAfter_11 : decode cX11_weekAfter 11 = .ok (.iadd, 1) := by decide +kernel
theorem dX11_weekAfter_12 : decode cX11_weekAfter 12 = .ok (.ireturn, 1) := by decide +kernel
theorem dX11_isRate_0 : decode cX11_isRate 0 = .ok (.iconst 1, 1) := by decide +kernel
theorem dX11_isRate_1 : decode cX11_isRate 1 = .ok (.istore_n 3, 1) := by decide +kernel
theorem dX11_isRate_2 : decode cX11_isRate 2 = .ok (.iload_n 3, 1) := by decide +kernel
theorem dX11_isRate_3 : decode cX11_isRate 3 = .ok (.aload_n 0, 1) := by decide +kernel
theorem dX11_isRate_4 : decode cX11_isRate 4 = .ok (.getfield 19, 3) := by decide +kernel
theorem dX11_isRate_7 : decode cX11_isRate 7 = .ok (.getfield 447, 3) := by decide +kernel
theorem dX11_isRate_10 : decode cX11_isRate 10 = .ok (.if_icmp .ge 44, 3) := by decide +kernel
theorem dX11_isRate_13 : decode cX11_isRate 13 = .ok (.aload_n 0, 1) := by decide +kernel
theorem dX11_isRate_14 : decode cX11_isRate 14 = .ok (.getfield 19, 3) := by decide +kernel
theorem dX11_isRate_17 : decode cX11_isRate 17 = .ok (.getfield 452, 3) := by decide +kernel
theorem dX11_isRate_20 : decode cX11_isRate 20 = .ok (.iload_n 3, 1) := by decide +kernel
theorem dX11_isRate_21 : decode cX11_isRate 21 = .ok (.iconst 1, 1) := by decide +kernel
theorem dX11_isRate_22 : decode cX11_isRate 22 = .ok (.isub, 1) := by decide +kernel
theorem dX11_isRate_23 : decode cX11_isRate 23 = .ok (.iaload, 1) := by decide +kernel
theorem dX11_isRate_24 : decode cX11_isRate 24 = .ok (.iload_n 2, 1) := by decide +kernel
theorem dX11_isRate_25 : decode cX11_isRate 25 = .ok (.iload_n 1, 1) := by decide +kernel
theorem dX11_isRate_26 : decode cX11_isRate 26 = .ok (.invokestatic 515, 3) := by decide +kernel
theorem dX11_isRate_29 : decode cX11_isRate 29 = .ok (.aload_n 0, 1) := by decide +kernel
theorem dX11_isRate_30 : decode cX11_isRate 30 = .ok (.getfield 19, 3) := by decide +kernel
theorem dX11_isRate_33 : decode cX11_isRate 33 = .ok (.getfield 452, 3) := by decide +kernel
theorem dX11_isRate_36 : decode cX11_isRate 36 = .ok (.iload_n 3, 1) := by decide +kernel
theorem dX11_isRate_37 : decode cX11_isRate 37 = .ok (.iaload, 1) := by decide +kernel
theorem dX11_isRate_38 : decode cX11_isRate 38 = .ok (.isub, 1) := by decide +kernel
theorem dX11_isRate_39 : decode cX11_isRate 39 = .ok (.invokestatic 335, 3) := by decide +kernel
theorem dX11_isRate_42 : decode cX11_isRate 42 = .ok (.iconst 1, 1) := by decide +kernel
theorem dX11_isRate_43 : decode cX11_isRate 43 = .ok (.if_icmp .le 5, 3) := by decide +kernel
theorem dX11_isRate_46 : decode cX11_isRate 46 = .ok (.iconst 0, 1) := by decide +kernel
theorem dX11_isRate_47 : decode cX11_isRate 47 = .ok (.ireturn, 1) := by decide +kernel
theorem dX11_isRate_48 : decode cX11_isRate 48 = .ok (.iinc 3 1, 3) := by decide +kernel
theorem dX11_isRate_51 : decode cX11_isRate 51 = .ok (.goto (-49), 3) := by decide +kernel
theorem dX11_isRate_54 : decode cX11_isRate 54 = .ok (.iconst 1, 1) := by decide +kernel
theorem dX11_isRate_55 : decode cX11_isRate 55 = .ok (.ireturn, 1) := by decide +kernel
theorem dX11_nextWeekEdge_0 : decode cX11_nextWeekEdge 0 = .ok (.aload_n 0, 1) := by decide +kernel
theorem dX11_nextWeekEdge_1 : decode cX11_nextWeekEdge 1 = .ok (.getfield 19, 3) := by decide +kernel
theorem dX11_nextWeekEdge_4 : decode cX11_nextWeekEdge 4 = .ok (.getfield 452, 3) := by decide +kernel
theorem dX11_nextWeekEdge_7 : decode cX11_nextWeekEdge 7 = .ok (.aload_n 0, 1) := by decide +kernel
theorem dX11_nextWeekEdge_8 : decode cX11_nextWeekEdge 8 = .ok (.getfield 19, 3) := by decide +kernel
theorem dX11_nextWeekEdge_11 : decode cX11_nextWeekEdge 11 = .ok (.getfield 447, 3) := by decide +kernel
theorem dX11_nextWeekEdge_14 : decode cX11_nextWeekEdge 14 = .ok (.iconst 1, 1) := by decide +kernel
theorem dX11_nextWeekEdge_15 : decode cX11_nextWeekEdge 15 = .ok (.isub, 1) := by decide +kernel
theorem dX11_nextWeekEdge_16 : decode cX11_nextWeekEdge 16 = .ok (.iaload, 1) := by decide +kernel
theorem dX11_nextWeekEdge_17 : decode cX11_nextWeekEdge 17 = .ok (.istore 5, 2) := by decide +kernel
theorem dX11_nextWeekEdge_19 : decode cX11_nextWeekEdge 19 = .ok (.iload 5, 2) := by decide +kernel
theorem dX11_nextWeekEdge_21 : decode cX11_nextWeekEdge 21 = .ok (.iload_n 1, 1) := by decide +kernel
theorem dX11_nextWeekEdge_22 : decode cX11_nextWeekEdge 22 = .ok (.iload_n 3, 1) := by decide +kernel
theorem dX11_nextWeekEdge_23 : decode cX11_nextWeekEdge 23 = .ok (.invokestatic 515, 3) := by decide +kernel
theorem dX11_nextWeekEdge_26 : decode cX11_nextWeekEdge 26 = .ok (.istore 6, 2) := by decide +kernel
theorem dX11_nextWeekEdge_28 : decode cX11_nextWeekEdge 28 = .ok (.iload_n 3, 1) := by decide +kernel
theorem dX11_nextWeekEdge_29 : decode cX11_nextWeekEdge 29 = .ok (.iconst 1, 1) := by decide +kernel
theorem dX11_nextWeekEdge_30 : decode cX11_nextWeekEdge 30 = .ok (.iadd, 1) := by decide +kernel
theorem dX11_nextWeekEdge_31 : decode cX11_nextWeekEdge 31 = .ok (.istore 7, 2) := by decide +kernel
theorem dX11_nextWeekEdge_33 : decode cX11_nextWeekEdge 33 = .ok (.iload 7, 2) := by decide +kernel
theorem dX11_nextWeekEdge_35 : decode cX11_nextWeekEdge 35 = .ok (.iload 4, 2) := by decide +kernel
theorem dX11_nextWeekEdge_37 : decode cX11_nextWeekEdge 37 = .ok (.if_icmp .gt 52, 3) := by decide +kernel
theorem dX11_nextWeekEdge_40 : decode cX11_nextWeekEdge 40 = .ok (.aload_n 0, 1) := by decide +kernel
theorem dX11_nextWeekEdge_41 : decode cX11_nextWeekEdge 41 = .ok (.iload 7, 2) := by decide +kernel
theorem dX11_nextWeekEdge_43 : decode cX11_nextWeekEdge 43 = .ok (.iload_n 1, 1) := by decide +kernel
theorem dX11_nextWeekEdge_44 : decode cX11_nextWeekEdge 44 = .ok (.invokevirtual 459, 3) := by decide +kernel
theorem dX11_nextWeekEdge_47 : decode cX11_nextWeekEdge 47 = .ok (.ifCond .eq 36, 3) := by decide +kernel
theorem dX11_nextWeekEdge_50 : decode cX11_nextWeekEdge 50 = .ok (.iload 5, 2) := by decide +kernel
theorem dX11_nextWeekEdge_52 : decode cX11_nextWeekEdge 52 = .ok (.iload_n 1, 1) := by decide +kernel
theorem dX11_nextWeekEdge_53 : decode cX11_nextWeekEdge 53 = .ok (.iload 7, 2) := by decide +kernel
theorem dX11_nextWeekEdge_55 : decode cX11_nextWeekEdge 55 = .ok (.invokestatic 515, 3) := by decide +kernel
theorem dX11_nextWeekEdge_58 : decode cX11_nextWeekEdge 58 = .ok (.istore 8, 2) := by decide +kernel
theorem dX11_nextWeekEdge_60 : decode cX11_nextWeekEdge 60 = .ok (.iload_n 2, 1) := by decide +kernel
theorem dX11_nextWeekEdge_61 : decode cX11_nextWeekEdge 61 = .ok (.ifCond .eq 13, 3) := by decide +kernel
theorem dX11_nextWeekEdge_64 : decode cX11_nextWeekEdge 64 = .ok (.iload 6, 2) := by decide +kernel
theorem dX11_nextWeekEdge_66 : decode cX11_nextWeekEdge 66 = .ok (.iload 8, 2) := by decide +kernel
theorem dX11_nextWeekEdge_68 : decode cX11_nextWeekEdge 68 = .ok (.invokestatic 405, 3) := by decide +kernel
theorem dX11_nextWeekEdge_71 : decode cX11_nextWeekEdge 71 = .ok (.goto 10, 3) := by decide +kernel
theorem dX11_nextWeekEdge_74 : decode cX11_nextWeekEdge 74 = .ok (.iload 6, 2) := by decide +kernel
theorem dX11_nextWeekEdge_76 : decode cX11_nextWeekEdge 76 = .ok (.iload 8, 2) := by decide +kernel
theorem dX11_nextWeekEdge_78 : decode cX11_nextWeekEdge 78 = .ok (.invokestatic 518, 3) := by decide +kernel
theorem dX11_nextWeekEdge_81 : decode cX11_nextWeekEdge 81 = .ok (.istore 6, 2) := by decide +kernel
theorem dX11_nextWeekEdge_83 : decode cX11_nextWeekEdge 83 = .ok (.iinc 7 1, 3) := by decide +kernel
theorem dX11_nextWeekEdge_86 : decode cX11_nextWeekEdge 86 = .ok (.goto (-53), 3) := by decide +kernel
theorem dX11_nextWeekEdge_89 : decode cX11_nextWeekEdge 89 = .ok (.iload 6, 2) := by decide +kernel
theorem dX11_nextWeekEdge_91 : decode cX11_nextWeekEdge 91 = .ok (.ireturn, 1) := by decide +kernel
theorem dX12_thrown_0 : decode cX12_thrown 0 = .ok (.aload_n 0, 1) := by decide +kernel
theorem dX12_thrown_1 : decode cX12_thrown 1 = .ok (.getfield 3, 3) := by decide +kernel
theorem dX12_thrown_4 : decode cX12_thrown 4 = .ok (.ireturn, 1) := by decide +kernel
theorem dX12_throwsIf_0 : decode cX12_throwsIf 0 = .ok (.iload_n 1, 1) := by decide +kernel
theorem dX12_throwsIf_1 : decode cX12_throwsIf 1 = .ok (.ifCond .eq 8, 3) := by decide +kernel
theorem dX12_throwsIf_4 : decode cX12_throwsIf 4 = .ok (.aload_n 0, 1) := by decide +kernel
theorem dX12_throwsIf_5 : decode cX12_throwsIf 5 = .ok (.iload_n 2, 1) := by decide +kernel
theorem dX12_throwsIf_6 : decode cX12_throwsIf 6 = .ok (.putfield 3, 3) := by decide +kernel
theorem dX12_throwsIf_9 : decode cX12_throwsIf 9 = .ok (.iload_n 1, 1) := by decide +kernel
theorem dX12_throwsIf_10 : decode cX12_throwsIf 10 = .ok (.ireturn, 1) := by decide +kernel
theorem dX12_in_0 : decode cX12_in 0 = .ok (.iload_n 0, 1) := by decide +kernel
theorem dX12_in_1 : decode cX12_in 1 = .ok (.iload_n 1, 1) := by decide +kernel
theorem dX12_in_2 : decode cX12_in 2 = .ok (.if_icmp .lt 12, 3) := by decide +kernel
theorem dX12_in_5 : decode cX12_in 5 = .ok (.iload_n 0, 1) := by decide +kernel
theorem dX12_in_6 : decode cX12_in 6 = .ok (.iload_n 2, 1) := by decide +kernel
theorem dX12_in_7 : decode cX12_in 7 = .ok (.if_icmp .gt 7, 3) := by decide +kernel
theorem dX12_in_10 : decode cX12_in 10 = .ok (.iconst 1, 1) := by decide +kernel
theorem dX12_in_11 : decode cX12_in 11 = .ok (.goto 4, 3) := by decide +kernel
theorem dX12_in_14 : decode cX12_in 14 = .ok (.iconst 0, 1) := by decide +kernel
theorem dX12_in_15 : decode cX12_in 15 = .ok (.ireturn, 1) := by decide +kernel
theorem dX12_init_0 : decode cX12_init 0 = .ok (.aload_n 0, 1) := by decide +kernel
theorem dX12_init_1 : decode cX12_init 1 = .ok (.invokespecial 7, 3) := by decide +kernel
theorem dX12_init_4 : decode cX12_init 4 = .ok (.aload_n 0, 1) := by decide +kernel
theorem dX12_init_5 : decode cX12_init 5 = .ok (.sipush 6927, 3) := by decide +kernel
theorem dX12_init_8 : decode cX12_init 8 = .ok (.newarray .int, 2) := by decide +kernel
theorem dX12_init_10 : decode cX12_init 10 = .ok (.putfield 13, 3) := by decide +kernel
theorem dX12_init_13 : decode cX12_init 13 = .ok (.aload_n 0, 1) := by decide +kernel
theorem dX12_init_14 : decode cX12_init 14 = .ok (.sipush 6076, 3) := by decide +kernel
theorem dX12_init_17 : decode cX12_init 17 = .ok (.newarray .int, 2) := by decide +kernel
theorem dX12_init_19 : decode cX12_init 19 = .ok (.putfield 17, 3) := by decide +kernel
theorem dX12_init_22 : decode cX12_init 22 = .ok (.aload_n 0, 1) := by decide +kernel
theorem dX12_init_23 : decode cX12_init 23 = .ok (.sipush 400, 3) := by decide +kernel
theorem dX12_init_26 : decode cX12_init 26 = .ok (.newarray .byte, 2) := by decide +kernel
theorem dX12_init_28 : decode cX12_init 28 = .ok (.putfield 20, 3) := by decide +kernel
theorem dX12_init_31 : decode cX12_init 31 = .ok (.aload_n 0, 1) := by decide +kernel
theorem dX12_init_32 : decode cX12_init 32 = .ok (.iconst (-1), 1) := by decide +kernel
theorem dX12_init_33 : decode cX12_init 33 = .ok (.putfield 24, 3) := by decide +kernel
theorem dX12_init_36 : decode cX12_init 36 = .ok (.aload_n 0, 1) := by decide +kernel
theorem dX12_init_37 : decode cX12_init 37 = .ok (.iconst 5, 1) := by decide +kernel
theorem dX12_init_38 : decode cX12_init 38 = .ok (.newarray .int, 2) := by decide +kernel
theorem dX12_init_40 : decode cX12_init 40 = .ok (.putfield 27, 3) := by decide +kernel
theorem dX12_init_43 : decode cX12_init 43 = .ok (.aload_n 0, 1) := by decide +kernel
theorem dX12_init_44 : decode cX12_init 44 = .ok (.bipush 10, 2) := by decide +kernel
theorem dX12_init_46 : decode cX12_init 46 = .ok (.newarray .int, 2) := by decide +kernel
theorem dX12_init_48 : decode cX12_init 48 = .ok (.putfield 30, 3) := by decide +kernel
theorem dX12_init_51 : decode cX12_init 51 = .ok (.aload_n 0, 1) := by decide +kernel
theorem dX12_init_52 : decode cX12_init 52 = .ok (.sipush 400, 3) := by decide +kernel
theorem dX12_init_55 : decode cX12_init 55 = .ok (.newarray .int, 2) := by decide +kernel
theorem dX12_init_57 : decode cX12_init 57 = .ok (.putfield 33, 3) := by decide +kernel
theorem dX12_init_60 : decode cX12_init 60 = .ok (.aload_n 0, 1) := by decide +kernel
theorem dX12_init_61 : decode cX12_init 61 = .ok (.bipush 6, 2) := by decide +kernel
theorem dX12_init_63 : decode cX12_init 63 = .ok (.newarray .int, 2) := by decide +kernel
theorem dX12_init_65 : decode cX12_init 65 = .ok (.putfield 36, 3) := by decide +kernel
theorem dX12_init_68 : decode cX12_init 68 = .ok (.aload_n 0, 1) := by decide +kernel
theorem dX12_init_69 : decode cX12_init 69 = .ok (.bipush 6, 2) := by decide +kernel
theorem dX12_init_71 : decode cX12_init 71 = .ok (.newarray .int, 2) := by decide +kernel
theorem dX12_init_73 : decode cX12_init 73 = .ok (.putfield 39, 3) := by decide +kernel
theorem dX12_init_76 : decode cX12_init 76 = .ok (.aload_n 0, 1) := by decide +kernel
theorem dX12_init_77 : decode cX12_init 77 = .ok (.bipush 6, 2) := by decide +kernel
theorem dX12_init_79 : decode cX12_init 79 = .ok (.newarray .int, 2) := by decide +kernel
theorem dX12_init_81 : decode cX12_init 81 = .ok (.putfield 42, 3) := by decide +kernel
theorem dX12_init_84 : decode cX12_init 84 = .ok (.aload_n 0, 1) := by decide +kernel
theorem dX12_init_85 : decode cX12_init 85 = .ok (.bipush 8, 2) := by decide +kernel
theorem dX12_init_87 : decode cX12_init 87 = .ok (.newarray .int, 2) := by decide +kernel
theorem dX12_init_89 : decode cX12_init 89 = .ok (.putfield 45, 3) := by decide +kernel
theorem dX12_init_92 : decode cX12_init 92 = .ok (.aload_n 0, 1) := by decide +kernel
theorem dX12_init_93 : decode cX12_init 93 = .ok (.bipush 48, 2) := by decide +kernel
theorem dX12_init_95 : decode cX12_init 95 = .ok (.newarray .int, 2) := by decide +kernel
theorem dX12_init_97 : decode cX12_init 97 = .ok (.putfield 48, 3) := by decide +kernel
theorem dX12_init_100 : decode cX12_init 100 = .ok (.return_, 1) := by decide +kernel
theorem dX12_image_0 : decode cX12_image 0 = .ok (.aload_n 0, 1) := by decide +kernel
theorem dX12_image_1 : decode cX12_image 1 = .ok (.iconst 0, 1) := by decide +kernel
theorem dX12_image_2 : decode cX12_image 2 = .ok (.putfield 3, 3) := by decide +kernel
theorem dX12_image_5 : decode cX12_image 5 = .ok (.iconst 0, 1) := by decide +kernel
theorem dX12_image_6 : decode cX12_image 6 = .ok (.istore_n 1, 1) := by decide +kernel
theorem dX12_image_7 : decode cX12_image 7 = .ok (.iload_n 1, 1) := by decide +kernel
theorem dX12_image_8 : decode cX12_image 8 = .ok (.sipush 6076, 3) := by decide +kernel
theorem dX12_image_11 : decode cX12_image 11 = .ok (.if_icmp .ge 21, 3) := by decide +kernel
theorem dX12_image_14 : decode cX12_image 14 = .ok (.aload_n 0, 1) := by decide +kernel
theorem dX12_image_15 : decode cX12_image 15 = .ok (.getfield 17, 3) := by decide +kernel
theorem dX12_image_18 : decode cX12_image 18 = .ok (.iload_n 1, 1) := by decide +kernel
theorem dX12_image_19 : decode cX12_image 19 = .ok (.aload_n 0, 1) := by decide +kernel
theorem dX12_image_20 : decode cX12_image 20 = .ok (.getfield 13, 3) := by decide +kernel
theorem dX12_image_23 : decode cX12_image 23 = .ok (.iload_n 1, 1) := by decide +kernel
theorem dX12_image_24 : decode cX12_image 24 = .ok (.iaload, 1) := by decide +kernel
theorem dX12_image_25 : decode cX12_image 25 = .ok (.iastore, 1) := by decide +kernel
theorem dX12_image_26 : decode cX12_image 26 = .ok (.iinc 1 1, 3) := by decide +kernel
theorem dX12_image_29 : decode cX12_image 29 = .ok (.goto (-22), 3) := by decide +kernel
theorem dX12_image_32 : decode cX12_image 32 = .ok (.aload_n 0, 1) := by decide +kernel
theorem dX12_image_33 : decode cX12_image 33 = .ok (.iconst 1, 1) := by decide +kernel
theorem dX12_image_34 : decode cX12_image 34 = .ok (.putfield 51, 3) := by decide +kernel
theorem dX12_image_37 : decode cX12_image 37 = .ok (.return_, 1) := by decide +kernel
theorem dX12_back_0 : decode cX12_back 0 = .ok (.aload_n 0, 1) := by decide +kernel
theorem dX12_back_1 : decode cX12_back 1 = .ok (.iconst 0, 1) := by decide +kernel
theorem dX12_back_2 : decode cX12_back 2 = .ok (.putfield 3, 3) := by decide +kernel
theorem dX12_back_5 : decode cX12_back 5 = .ok (.aload_n 0, 1) := by decide +kernel
theorem dX12_back_6 : decode cX12_back 6 = .ok (.getfield 51, 3) := by decide +kernel
theorem dX12_back_9 : decode cX12_back 9 = .ok (.ifCond .ne 5, 3) := by decide +kernel
theorem dX12_back_12 : decode cX12_back 12 = .ok (.iconst 0, 1) := by decide +kernel
theorem dX12_back_13 : decode cX12_back 13 = .ok (.ireturn, 1) := by decide +kernel
theorem dX12_back_14 : decode cX12_back 14 = .ok (.iconst 0, 1) := by decide +kernel
theorem dX12_back_15 : decode cX12_back 15 = .ok (.istore_n 1, 1) := by decide +kernel
theorem dX12_back_16 : decode cX12_back 16 = .ok (.iload_n 1, 1) := by decide +kernel
theorem dX12_back_17 : decode cX12_back 17 = .ok (.sipush 6076, 3) := by decide +kernel
theorem dX12_back_20 : decode cX12_back 20 = .ok (.if_icmp .ge 21, 3) := by decide +kernel
theorem dX12_back_23 : decode cX12_back 23 = .ok (.aload_n 0, 1) := by decide +kernel
theorem dX12_back_24 : decode cX12_back 24 = .ok (.getfield 13, 3) := by decide +kernel
theorem dX12_back_27 : decode cX12_back 27 = .ok (.iload_n 1, 1) := by decide +kernel
theorem dX12_back_28 : decode cX12_back 28 = .ok (.aload_n 0, 1) := by decide +kernel
theorem dX12_back_29 : decode cX12_back 29 = .ok (.getfield 17, 3) := by decide +kernel
theorem dX12_back_32 : decode cX12_back 32 = .ok (.iload_n 1, 1) := by decide +kernel
theorem dX12_back_33 : decode cX12_back 33 = .ok (.iaload, 1) := by decide +kernel
theorem dX12_back_34 : decode cX12_back 34 = .ok (.iastore, 1) := by decide +kernel
theorem dX12_back_35 : decode cX12_back 35 = .ok (.iinc 1 1, 3) := by decide +kernel
theorem dX12_back_38 : decode cX12_back 38 = .ok (.goto (-22), 3) := by decide +kernel
theorem dX12_back_41 : decode cX12_back 41 = .ok (.iconst 1, 1) := by decide +kernel
theorem dX12_back_42 : decode cX12_back 42 = .ok (.ireturn, 1) := by decide +kernel
theorem dX12_none_0 : decode cX12_none 0 = .ok (.iload_n 1, 1) := by decide +kernel
theorem dX12_none_1 : decode cX12_none 1 = .ok (.iconst 0, 1) := by decide +kernel
theorem dX12_none_2 : decode cX12_none 2 = .ok (.aload_n 0, 1) := by decide +kernel
theorem dX12_none_3 : decode cX12_none 3 = .ok (.getfield 13, 3) := by decide +kernel
theorem dX12_none_6 : decode cX12_none 6 = .ok (.iload_n 2, 1) := by decide +kernel
theorem dX12_none_7 : decode cX12_none 7 = .ok (.iaload, 1) := by decide +kernel
theorem dX12_none_8 : decode cX12_none 8 = .ok (.iconst 1, 1) := by decide +kernel
theorem dX12_none_9 : decode cX12_none 9 = .ok (.isub, 1) := by decide +kernel
theorem dX12_none_10 : decode cX12_none 10 = .ok (.invokestatic 55, 3) := by decide +kernel
theorem dX12_none_13 : decode cX12_none 13 = .ok (.ifCond .ne 7, 3) := by decide +kernel
theorem dX12_none_16 : decode cX12_none 16 = .ok (.iconst 1, 1) := by decide +kernel
theorem dX12_none_17 : decode cX12_none 17 = .ok (.goto 4, 3) := by decide +kernel
theorem dX12_none_20 : decode cX12_none 20 = .ok (.iconst 0, 1) := by decide +kernel
theorem dX12_none_21 : decode cX12_none 21 = .ok (.ireturn, 1) := by decide +kernel
theorem dX12_noCard_0 : decode cX12_noCard 0 = .ok (.iload_n 0, 1) := by decide +kernel
theorem dX12_noCard_1 : decode cX12_noCard 1 = .ok (.iconst 0, 1) := by decide +kernel
theorem dX12_noCard_2 : decode cX12_noCard 2 = .ok (.bipush 51, 2) := by decide +kernel
theorem dX12_noCard_4 : decode cX12_noCard 4 = .ok (.invokestatic 55, 3) := by decide +kernel
theorem dX12_noCard_7 : decode cX12_noCard 7 = .ok (.ifCond .ne 7, 3) := by decide +kernel
theorem dX12_noCard_10 : decode cX12_noCard 10 = .ok (.iconst 1, 1) := by decide +kernel
theorem dX12_noCard_11 : decode cX12_noCard 11 = .ok (.goto 4, 3) := by decide +kernel
theorem dX12_noCard_14 : decode cX12_noCard 14 = .ok (.iconst 0, 1) := by decide +kernel
theorem dX12_noCard_15 : decode cX12_noCard 15 = .ok (.ireturn, 1) := by decide +kernel
theorem dX12_feed_0 : decode cX12_feed 0 = .ok (.aload_n 0, 1) := by decide +kernel
theorem dX12_feed_1 : decode cX12_feed 1 = .ok (.iconst 0, 1) := by decide +kernel
theorem dX12_feed_2 : decode cX12_feed 2 = .ok (.putfield 3, 3) := by decide +kernel
theorem dX12_feed_5 : decode cX12_feed 5 = .ok (.aload_n 0, 1) := by decide +kernel
theorem dX12_feed_6 : decode cX12_feed 6 = .ok (.getfield 59, 3) := by decide +kernel
theorem dX12_feed_9 : decode cX12_feed 9 = .ok (.bipush 20, 2) := by decide +kernel
theorem dX12_feed_11 : decode cX12_feed 11 = .ok (.iadd, 1) := by decide +kernel
theorem dX12_feed_12 : decode cX12_feed 12 = .ok (.sipush 400, 3) := by decide +kernel
theorem dX12_feed_15 : decode cX12_feed 15 = .ok (.if_icmp .le 5, 3) := by decide +kernel
theorem dX12_feed_18 : decode cX12_feed 18 = .ok (.iconst (-1), 1) := by decide +kernel
theorem dX12_feed_19 : decode cX12_feed 19 = .ok (.ireturn, 1) := by decide +kernel
theorem dX12_feed_20 : decode cX12_feed 20 = .ok (.aload_n 0, 1) := by decide +kernel
theorem dX12_feed_21 : decode cX12_feed 21 = .ok (.getfield 27, 3) := by decide +kernel
theorem dX12_feed_24 : decode cX12_feed 24 = .ok (.iconst 0, 1) := by decide +kernel
theorem dX12_feed_25 : decode cX12_feed 25 = .ok (.iload_n 1, 1) := by decide +kernel
theorem dX12_feed_26 : decode cX12_feed 26 = .ok (.iastore, 1) := by decide +kernel
theorem dX12_feed_27 : decode cX12_feed 27 = .ok (.aload_n 0, 1) := by decide +kernel
theorem dX12_feed_28 : decode cX12_feed 28 = .ok (.getfield 27, 3) := by decide +kernel
theorem dX12_feed_31 : decode cX12_feed 31 = .ok (.iconst 1, 1) := by decide +kernel
theorem dX12_feed_32 : decode cX12_feed 32 = .ok (.iload_n 2, 1) := by decide +kernel
theorem dX12_feed_33 : decode cX12_feed 33 = .ok (.iastore, 1) := by decide +kernel
theorem dX12_feed_34 : decode cX12_feed 34 = .ok (.aload_n 0, 1) := by decide +kernel
theorem dX12_feed_35 : decode cX12_feed 35 = .ok (.getfield 27, 3) := by decide +kernel
theorem dX12_feed_38 : decode cX12_feed 38 = .ok (.iconst 2, 1) := by decide +kernel
theorem dX12_feed_39 : decode cX12_feed 39 = .ok (.iload_n 3, 1) := by decide +kernel
theorem dX12_feed_40 : decode cX12_feed 40 = .ok (.iastore, 1) := by decide +kernel
theorem dX12_feed_41 : decode cX12_feed 41 = .ok (.aload_n 0, 1) := by decide +kernel
theorem dX12_feed_42 : decode cX12_feed 42 = .ok (.getfield 27, 3) := by decide +kernel
theorem dX12_feed_45 : decode cX12_feed 45 = .ok (.iconst 3, 1) := by decide +kernel
theorem dX12_feed_46 : decode cX12_feed 46 = .ok (.iload 4, 2) := by decide +kernel
theorem dX12_feed_48 : decode cX12_feed 48 = .ok (.iastore, 1) := by decide +kernel
theorem dX12_feed_49 : decode cX12_feed 49 = .ok (.aload_n 0, 1) := by decide +kernel
theorem dX12_feed_50 : decode cX12_feed 50 = .ok (.getfield 27, 3) := by decide +kernel
theorem dX12_feed_53 : decode cX12_feed 53 = .ok (.iconst 4, 1) := by decide +kernel
theorem dX12_feed_54 : decode cX12_feed 54 = .ok (.iload 5, 2) := by decide +kernel
theorem dX12_feed_56 : decode cX12_feed 56 = .ok (.iastore, 1) := by decide +kernel
theorem dX12_feed_57 : decode cX12_feed 57 = .ok (.iconst 0, 1) := by decide +kernel
theorem dX12_feed_58 : decode cX12_feed 58 = .ok (.istore 6, 2) := by decide +kernel
theorem dX12_feed_60 : decode cX12_feed 60 = .ok (.iload 6, 2) := by decide +kernel
theorem dX12_feed_62 : decode cX12_feed 62 = .ok (.bipush 20, 2) := by decide +kernel
theorem dX12_feed_64 : decode cX12_feed 64 = .ok (.if_icmp .ge 42, 3) := by decide +kernel
theorem dX12_feed_67 : decode cX12_feed 67 = .ok (.aload_n 0, 1) := by decide +kernel
theorem dX12_feed_68 : decode cX12_feed 68 = .ok (.getfield 20, 3) := by decide +kernel
theorem dX12_feed_71 : decode cX12_feed 71 = .ok (.aload_n 0, 1) := by decide +kernel
theorem dX12_feed_72 : decode cX12_feed 72 = .ok (.getfield 59, 3) := by decide +kernel
theorem dX12_feed_75 : decode cX12_feed 75 = .ok (.iload 6, 2) := by decide +kernel
theorem dX12_feed_77 : decode cX12_feed 77 = .ok (.iadd, 1) := by decide +kernel
theorem dX12_feed_78 : decode cX12_feed 78 = .ok (.aload_n 0, 1) := by decide +kernel
theorem dX12_feed_79 : decode cX12_feed 79 = .ok (.getfield 27, 3) := by decide +kernel
theorem dX12_feed_82 : decode cX12_feed 82 = .ok (.iload 6, 2) := by decide +kernel
theorem dX12_feed_84 : decode cX12_feed 84 = .ok (.iconst 4, 1) := by decide +kernel
theorem dX12_feed_85 : decode cX12_feed 85 = .ok (.idiv, 1) := by decide +kernel
theorem dX12_feed_86 : decode cX12_feed 86 = .ok (.iaload, 1) := by decide +kernel
theorem dX12_feed_87 : decode cX12_feed 87 = .ok (.bipush 24, 2) := by decide +kernel
theorem dX12_feed_89 : decode cX12_feed 89 = .ok (.bipush 8, 2) := by decide +kernel
theorem dX12_feed_91 : decode cX12_feed 91 = .ok (.iload 6, 2) := by decide +kernel
theorem dX12_feed_93 : decode cX12_feed 93 = .ok (.iconst 4, 1) := by decide +kernel
theorem dX12_feed_94 : decode cX12_feed 94 = .ok (.irem, 1) := by decide +kernel
theorem dX12_feed_95 : decode cX12_feed 95 = .ok (.imul, 1) := by decide +kernel
theorem dX12_feed_96 : decode cX12_feed 96 = .ok (.isub, 1) := by decide +kernel
theorem dX12_feed_97 : decode cX12_feed 97 = .ok (.ishr, 1) := by decide +kernel
theorem dX12_feed_98 : decode cX12_feed 98 = .ok (.i2b, 1) := by decide +kernel
theorem dX12_feed_99 : decode cX12_feed 99 = .ok (.bastore, 1) := by decide +kernel
theorem dX12_feed_100 : decode cX12_feed 100 = .ok (.iinc 6 1, 3) := by decide +kernel
theorem dX12_feed_103 : decode cX12_feed 103 = .ok (.goto (-43), 3) := by decide +kernel
theorem dX12_feed_106 : decode cX12_feed 106 = .ok (.aload_n 0, 1) := by decide +kernel
theorem dX12_feed_107 : decode cX12_feed 107 = .ok (.dup, 1) := by decide +kernel
theorem dX12_feed_108 : decode cX12_feed 108 = .ok (.getfield 59, 3) := by decide +kernel
theorem dX12_feed_111 : decode cX12_feed 111 = .ok (.bipush 20, 2) := by decide +kernel
theorem dX12_feed_113 : decode cX12_feed 113 = .ok (.iadd, 1) := by decide +kernel
theorem dX12_feed_114 : decode cX12_feed 114 = .ok (.putfield 59, 3) := by decide +kernel
theorem dX12_feed_117 : decode cX12_feed 117 = .ok (.aload_n 0, 1) := by decide +kernel
theorem dX12_feed_118 : decode cX12_feed 118 = .ok (.getfield 59, 3) := by decide +kernel
theorem dX12_feed_121 : decode cX12_feed 121 = .ok (.ireturn, 1) := by decide +kernel
theorem dX12_end_0 : decode cX12_end 0 = .ok (.aload_n 0, 1) := by decide +kernel
theorem dX12_end_1 : decode cX12_end 1 = .ok (.iconst 0, 1) := by decide +kernel
theorem dX12_end_2 : decode cX12_end 2 = .ok (.putfield 3, 3) := by decide +kernel
theorem dX12_end_5 : decode cX12_end 5 = .ok (.iload_n 1, 1) := by decide +kernel
theorem dX12_end_6 : decode cX12_end 6 = .ok (.ifCond .lt 11, 3) := by decide +kernel
theorem dX12_end_9 : decode cX12_end 9 = .ok (.iload_n 1, 1) := by decide +kernel
theorem dX12_end_10 : decode cX12_end 10 = .ok (.aload_n 0, 1) := by decide +kernel
theorem dX12_end_11 : decode cX12_end 11 = .ok (.getfield 59, 3) := by decide +kernel
theorem dX12_end_14 : decode cX12_end 14 = .ok (.if_icmp .le 5, 3) := by decide +kernel
theorem dX12_end_17 : decode cX12_end 17 = .ok (.iconst 0, 1) := by decide +kernel
theorem dX12_end_18 : decode cX12_end 18 = .ok (.ireturn, 1) := by decide +kernel
theorem dX12_end_19 : decode cX12_end 19 = .ok (.aload_n 0, 1) := by decide +kernel
theorem dX12_end_20 : decode cX12_end 20 = .ok (.iload_n 1, 1) := by decide +kernel
theorem dX12_end_21 : decode cX12_end 21 = .ok (.putfield 59, 3) := by decide +kernel
theorem dX12_end_24 : decode cX12_end 24 = .ok (.iconst 1, 1) := by decide +kernel
theorem dX12_end_25 : decode cX12_end 25 = .ok (.ireturn, 1) := by decide +kernel
theorem dX12_isAt_0 : decode cX12_isAt 0 = .ok (.aload_n 0, 1) := by decide +kernel
theorem dX12_isAt_1 : decode cX12_isAt 1 = .ok (.getfield 62, 3) := by decide +kernel
theorem dX12_isAt_4 : decode cX12_isAt 4 = .ok (.aload_n 0, 1) := by decide +kernel
theorem dX12_isAt_5 : decode cX12_isAt 5 = .ok (.getfield 65, 3) := by decide +kernel
theorem dX12_isAt_8 : decode cX12_isAt 8 = .ok (.if_icmp .ge 33, 3) := by decide +kernel
theorem dX12_isAt_11 : decode cX12_isAt 11 = .ok (.aload_n 0, 1) := by decide +kernel
theorem dX12_isAt_12 : decode cX12_isAt 12 = .ok (.getfield 20, 3) := by decide +kernel
theorem dX12_isAt_15 : decode cX12_isAt 15 = .ok (.aload_n 0, 1) := by decide +kernel
theorem dX12_isAt_16 : decode cX12_isAt 16 = .ok (.getfield 62, 3) := by decide +kernel
theorem dX12_isAt_19 : decode cX12_isAt 19 = .ok (.baload, 1) := by decide +kernel
theorem dX12_isAt_20 : decode cX12_isAt 20 = .ok (.iload_n 1, 1) := by decide +kernel
theorem dX12_isAt_21 : decode cX12_isAt 21 = .ok (.if_icmp .lt 20, 3) := by decide +kernel
theorem dX12_isAt_24 : decode cX12_isAt 24 = .ok (.aload_n 0, 1) := by decide +kernel
theorem dX12_isAt_25 : decode cX12_isAt 25 = .ok (.getfield 20, 3) := by decide +kernel
theorem dX12_isAt_28 : decode cX12_isAt 28 = .ok (.aload_n 0, 1) := by decide +kernel
theorem dX12_isAt_29 : decode cX12_isAt 29 = .ok (.getfield 62, 3) := by decide +kernel
theorem dX12_isAt_32 : decode cX12_isAt 32 = .ok (.baload, 1) := by decide +kernel
theorem dX12_isAt_33 : decode cX12_isAt 33 = .ok (.iload_n 2, 1) := by decide +kernel
theorem dX12_isAt_34 : decode cX12_isAt 34 = .ok (.if_icmp .gt 7, 3) := by decide +kernel
theorem dX12_isAt_37 : decode cX12_isAt 37 = .ok (.iconst 1, 1) := by decide +kernel
theorem dX12_isAt_38 : decode cX12_isAt 38 = .ok (.goto 4, 3) := by decide +kernel
theorem dX12_isAt_41 : decode cX12_isAt 41 = .ok (.iconst 0, 1) := by decide +kernel
theorem dX12_isAt_42 : decode cX12_isAt 42 = .ok (.ireturn, 1) := by decide +kernel
theorem dX12_blanks_0 : decode cX12_blanks 0 = .ok (.aload_n 0, 1) := by decide +kernel
theorem dX12_blanks_1 : decode cX12_blanks 1 = .ok (.bipush 32, 2) := by decide +kernel
theorem dX12_blanks_3 : decode cX12_blanks 3 = .ok (.bipush 32, 2) := by decide +kernel
theorem dX12_blanks_5 : decode cX12_blanks 5 = .ok (.invokevirtual 68, 3) := by decide +kernel
theorem dX12_blanks_8 : decode cX12_blanks 8 = .ok (.ifCond .eq 16, 3) := by decide +kernel
theorem dX12_blanks_11 : decode cX12_blanks 11 = .ok (.aload_n 0, 1) := by decide +kernel
theorem dX12_blanks_12 : decode cX12_blanks 12 = .ok (.dup, 1) := by decide +kernel
theorem dX12_blanks_13 : decode cX12_blanks 13 = .ok (.getfield 62, 3) := by decide +kernel
theorem dX12_blanks_16 : decode cX12_blanks 16 = .ok (.iconst 1, 1) := by decide +kernel
theorem dX12_blanks_17 : decode cX12_blanks 17 = .ok (.iadd, 1) := by decide +kernel
theorem dX12_blanks_18 : decode cX12_blanks 18 = .ok (.putfield 62, 3) := by decide +kernel
theorem dX12_blanks_21 : decode cX12_blanks 21 = .ok (.goto (-21), 3) := by decide +kernel
theorem dX12_blanks_24 : decode cX12_blanks 24 = .ok (.aload_n 0, 1) := by decide +kernel
theorem dX12_blanks_25 : decode cX12_blanks 25 = .ok (.aload_n 0, 1) := by decide +kernel
theorem dX12_blanks_26 : decode cX12_blanks 26 = .ok (.getfield 62, 3) := by decide +kernel
theorem dX12_blanks_29 : decode cX12_blanks 29 = .ok (.putfield 72, 3) := by decide +kernel
theorem dX12_blanks_32 : decode cX12_blanks 32 = .ok (.return_, 1) := by decide +kernel
theorem dX12_letters_0 : decode cX12_letters 0 = .ok (.aload_n 0, 1) := by decide +kernel
theorem dX12_letters_1 : decode cX12_letters 1 = .ok (.invokevirtual 75, 3) := by decide +kernel
theorem dX12_letters_4 : decode cX12_letters 4 = .ok (.aload_n 0, 1) := by decide +kernel
theorem dX12_letters_5 : decode cX12_letters 5 = .ok (.bipush 97, 2) := by decide +kernel
theorem dX12_letters_7 : decode cX12_letters 7 = .ok (.bipush 122, 2) := by decide +kernel
theorem dX12_letters_9 : decode cX12_letters 9 = .ok (.invokevirtual 68, 3) := by decide +kernel
theorem dX12_letters_12 : decode cX12_letters 12 = .ok (.ifCond .eq 16, 3) := by decide +kernel
theorem dX12_letters_15 : decode cX12_letters 15 = .ok (.aload_n 0, 1) := by decide +kernel
theorem dX12_letters_16 : decode cX12_letters 16 = .ok (.dup, 1) := by decide +kernel
theorem dX12_letters_17 : decode cX12_letters 17 = .ok (.getfield 62, 3) := by decide +kernel
theorem dX12_letters_20 : decode cX12_letters 20 = .ok (.iconst 1, 1) := by decide +kernel
theorem dX12_letters_21 : decode cX12_letters 21 = .ok (.iadd, 1) := by decide +kernel
theorem dX12_letters_22 : decode cX12_letters 22 = .ok (.putfield 62, 3) := by decide +kernel
theorem dX12_letters_25 : decode cX12_letters 25 = .ok (.goto (-21), 3) := by decide +kernel
theorem dX12_letters_28 : decode cX12_letters 28 = .ok (.return_, 1) := by decide +kernel
theorem dX12_isWord_0 : decode cX12_isWord 0 = .ok (.aload_n 0, 1) := by decide +kernel
theorem dX12_isWord_1 : decode cX12_isWord 1 = .ok (.getfield 62, 3) := by decide +kernel
theorem dX12_isWord_4 : decode cX12_isWord 4 = .ok (.aload_n 0, 1) := by decide +kernel
theorem dX12_isWord_5 : decode cX12_isWord 5 = .ok (.getfield 72, 3) := by decide +kernel
theorem dX12_isWord_8 : decode cX12_isWord 8 = .ok (.isub, 1) := by decide +kernel
theorem dX12_isWord_9 : decode cX12_isWord 9 = .ok (.aload_n 1, 1) := by decide +kernel
theorem dX12_isWord_10 : decode cX12_isWord 10 = .ok (.invokevirtual 77, 3) := by decide +kernel
theorem dX12_isWord_13 : decode cX12_isWord 13 = .ok (.if_icmp .ne 7, 3) := by decide +kernel
theorem dX12_isWord_16 : decode cX12_isWord 16 = .ok (.iconst 1, 1) := by decide +kernel
theorem dX12_isWord_17 : decode cX12_isWord 17 = .ok (.goto 4, 3) := by decide +kernel
theorem dX12_isWord_20 : decode cX12_isWord 20 = .ok (.iconst 0, 1) := by decide +kernel
theorem dX12_isWord_21 : decode cX12_isWord 21 = .ok (.istore_n 2, 1) := by decide +kernel
theorem dX12_isWord_22 : decode cX12_isWord 22 = .ok (.iconst 0, 1) := by decide +kernel
theorem dX12_isWord_23 : decode cX12_isWord 23 = .ok (.istore_n 3, 1) := by decide +kernel
theorem dX12_isWord_24 : decode cX12_isWord 24 = .ok (.iload_n 2, 1) := by decide +kernel
theorem dX12_isWord_25 : decode cX12_isWord 25 = .ok (.ifCond .eq 42, 3) := by decide +kernel
theorem dX12_isWord_28 : decode cX12_isWord 28 = .ok (.iload_n 3, 1) := by decide +kernel
theorem dX12_isWord_29 : decode cX12_isWord 29 = .ok (.aload_n 1, 1) := by decide +kernel
theorem dX12_isWord_30 : decode cX12_isWord 30 = .ok (.invokevirtual 77, 3) := by decide +kernel
theorem dX12_isWord_33 : decode cX12_isWord 33 = .ok (.if_icmp .ge 34, 3) := by decide +kernel
theorem dX12_isWord_36 : decode cX12_isWord 36 = .ok (.aload_n 0, 1) := by decide +kernel
theorem dX12_isWord_37 : decode cX12_isWord 37 = .ok (.getfield 20, 3) := by decide +kernel
theorem dX12_isWord_40 : decode cX12_isWord 40 = .ok (.aload_n 0, 1) := by decide +kernel
theorem dX12_isWord_41 : decode cX12_isWord 41 = .ok (.getfield 72, 3) := by decide +kernel
theorem dX12_isWord_44 : decode cX12_isWord 44 = .ok (.iload_n 3, 1) := by decide +kernel
theorem dX12_isWord_45 : decode cX12_isWord 45 = .ok (.iadd, 1) := by decide +kernel
theorem dX12_isWord_46 : decode cX12_isWord 46 = .ok (.baload, 1) := by decide +kernel
theorem dX12_isWord_47 : decode cX12_isWord 47 = .ok (.aload_n 1, 1) := by decide +kernel
theorem dX12_isWord_48 : decode cX12_isWord 48 = .ok (.iload_n 3, 1) := by decide +kernel
theorem dX12_isWord_49 : decode cX12_isWord 49 = .ok (.invokevirtual 83, 3) := by decide +kernel
theorem dX12_isWord_52 : decode cX12_isWord 52 = .ok (.if_icmp .ne 7, 3) := by decide +kernel
theorem dX12_isWord_55 : decode cX12_isWord 55 = .ok (.iconst 1, 1) := by decide +kernel
theorem dX12_isWord_56 : decode cX12_isWord 56 = .ok (.goto 4, 3) := by decide +kernel
theorem dX12_isWord_59 : decode cX12_isWord 59 = .ok (.iconst 0, 1) := by decide +kernel
theorem dX12_isWord_60 : decode cX12_isWord 60 = .ok (.istore_n 2, 1) := by decide +kernel
theorem dX12_isWord_61 : decode cX12_isWord 61 = .ok (.iinc 3 1, 3) := by decide +kernel
theorem dX12_isWord_64 : decode cX12_isWord 64 = .ok (.goto (-40), 3) := by decide +kernel
theorem dX12_isWord_67 : decode cX12_isWord 67 = .ok (.iload_n 2, 1) := by decide +kernel
theorem dX12_isWord_68 : decode cX12_isWord 68 = .ok (.ireturn, 1) := by decide +kernel
theorem dX12_passes_0 : decode cX12_passes 0 = .ok (.aload_n 0, 1) := by decide +kernel
theorem dX12_passes_1 : decode cX12_passes 1 = .ok (.invokevirtual 87, 3) := by decide +kernel
theorem dX12_passes_4 : decode cX12_passes 4 = .ok (.aload_n 0, 1) := by decide +kernel
theorem dX12_passes_5 : decode cX12_passes 5 = .ok (.aload_n 1, 1) := by decide +kernel
theorem dX12_passes_6 : decode cX12_passes 6 = .ok (.invokevirtual 90, 3) := by decide +kernel
theorem dX12_passes_9 : decode cX12_passes 9 = .ok (.ifCond .eq 5, 3) := by decide +kernel
theorem dX12_passes_12 : decode cX12_passes 12 = .ok (.iconst 1, 1) := by decide +kernel
theorem dX12_passes_13 : decode cX12_passes 13 = .ok (.ireturn, 1) := by decide +kernel
theorem dX12_passes_14 : decode cX12_passes 14 = .ok (.aload_n 0, 1) := by decide +kernel
theorem dX12_passes_15 : decode cX12_passes 15 = .ok (.aload_n 0, 1) := by decide +kernel
theorem dX12_passes_16 : decode cX12_passes 16 = .ok (.getfield 72, 3) := by decide +kernel
theorem dX12_passes_19 : decode cX12_passes 19 = .ok (.putfield 62, 3) := by decide +kernel
theorem dX12_passes_22 : decode cX12_passes 22 = .ok (.iconst 0, 1) := by decide +kernel
theorem dX12_passes_23 : decode cX12_passes 23 = .ok (.ireturn, 1) := by decide +kernel
theorem dX12_sign_0 : decode cX12_sign 0 = .ok (.aload_n 0, 1) := by decide +kernel
theorem dX12_sign_1 : decode cX12_sign 1 = .ok (.invokevirtual 75, 3) := by decide +kernel
theorem dX12_sign_4 : decode cX12_sign 4 = .ok (.aload_n 0, 1) := by decide +kernel
theorem dX12_sign_5 : decode cX12_sign 5 = .ok (.iload_n 1, 1) := by decide +kernel
theorem dX12_sign_6 : decode cX12_sign 6 = .ok (.iload_n 1, 1) := by decide +kernel
theorem dX12_sign_7 : decode cX12_sign 7 = .ok (.invokevirtual 68, 3) := by decide +kernel
theorem dX12_sign_10 : decode cX12_sign 10 = .ok (.ifCond .ne 5, 3) := by decide +kernel
theorem dX12_sign_13 : decode cX12_sign 13 = .ok (.iconst 0, 1) := by decide +kernel
theorem dX12_sign_14 : decode cX12_sign 14 = .ok (.ireturn, 1) := by decide +kernel
theorem dX12_sign_15 : decode cX12_sign 15 = .ok (.aload_n 0, 1) := by decide +kernel
theorem dX12_sign_16 : decode cX12_sign 16 = .ok (.dup, 1) := by decide +kernel
theorem dX12_sign_17 : decode cX12_sign 17 = .ok (.getfield 62, 3) := by decide +kernel
theorem dX12_sign_20 : decode cX12_sign 20 = .ok (.iconst 1, 1) := by decide +kernel
theorem dX12_sign_21 : decode cX12_sign 21 = .ok (.iadd, 1) := by decide +kernel
theorem dX12_sign_22 : decode cX12_sign 22 = .ok (.putfield 62, 3) := by decide +kernel
theorem dX12_sign_25 : decode cX12_sign 25 = .ok (.iconst 1, 1) := by decide +kernel
theorem dX12_sign_26 : decode cX12_sign 26 = .ok (.ireturn, 1) := by decide +kernel
theorem dX12_number_0 : decode cX12_number 0 = .ok (.aload_n 0, 1) := by decide +kernel
theorem dX12_number_1 : decode cX12_number 1 = .ok (.invokevirtual 75, 3) := by decide +kernel
theorem dX12_number_4 : decode cX12_number 4 = .ok (.iconst 0, 1) := by decide +kernel
theorem dX12_number_5 : decode cX12_number 5 = .ok (.istore_n 1, 1) := by decide +kernel
theorem dX12_number_6 : decode cX12_number 6 = .ok (.aload_n 0, 1) := by decide +kernel
theorem dX12_number_7 : decode cX12_number 7 = .ok (.bipush 48, 2) := by decide +kernel
theorem dX12_number_9 : decode cX12_number 9 = .ok (.bipush 57, 2) := by decide +kernel
theorem dX12_number_11 : decode cX12_number 11 = .ok (.invokevirtual 68, 3) := by decide +kernel
theorem dX12_number_14 : decode cX12_number 14 = .ok (.ifCond .eq 51, 3) := by decide +kernel
theorem dX12_number_17 : decode cX12_number 17 = .ok (.aload_n 0, 1) := by decide +kernel
theorem dX12_number_18 : decode cX12_number 18 = .ok (.getfield 62, 3) := by decide +kernel
theorem dX12_number_21 : decode cX12_number 21 = .ok (.aload_n 0, 1) := by decide +kernel
theorem dX12_number_22 : decode cX12_number 22 = .ok (.getfield 72, 3) := by decide +kernel
theorem dX12_number_25 : decode cX12_number 25 = .ok (.isub, 1) := by decide +kernel
theorem dX12_number_26 : decode cX12_number 26 = .ok (.iconst 3, 1) := by decide +kernel
theorem dX12_number_27 : decode cX12_number 27 = .ok (.if_icmp .ge 23, 3) := by decide +kernel
theorem dX12_number_30 : decode cX12_number 30 = .ok (.bipush 10, 2) := by decide +kernel
theorem dX12_number_32 : decode cX12_number 32 = .ok (.iload_n 1, 1) := by decide +kernel
theorem dX12_number_33 : decode cX12_number 33 = .ok (.imul, 1) := by decide +kernel
theorem dX12_number_34 : decode cX12_number 34 = .ok (.aload_n 0, 1) := by decide +kernel
theorem dX12_number_35 : decode cX12_number 35 = .ok (.getfield 20, 3) := by decide +kernel
theorem dX12_number_38 : decode cX12_number 38 = .ok (.aload_n 0, 1) := by decide +kernel
theorem dX12_number_39 : decode cX12_number 39 = .ok (.getfield 62, 3) := by decide +kernel
