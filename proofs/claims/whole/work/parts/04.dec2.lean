theorem dX12_number_42 : decode cX12_number 42 = .ok (.baload, 1) := by decide +kernel
theorem dX12_number_43 : decode cX12_number 43 = .ok (.iadd, 1) := by decide +kernel
theorem dX12_number_44 : decode cX12_number 44 = .ok (.bipush 48, 2) := by decide +kernel
theorem dX12_number_46 : decode cX12_number 46 = .ok (.isub, 1) := by decide +kernel
theorem dX12_number_47 : decode cX12_number 47 = .ok (.goto 4, 3) := by decide +kernel
theorem dX12_number_50 : decode cX12_number 50 = .ok (.iload_n 1, 1) := by decide +kernel
theorem dX12_number_51 : decode cX12_number 51 = .ok (.istore_n 1, 1) := by decide +kernel
theorem dX12_number_52 : decode cX12_number 52 = .ok (.aload_n 0, 1) := by decide +kernel
theorem dX12_number_53 : decode cX12_number 53 = .ok (.dup, 1) := by decide +kernel
theorem dX12_number_54 : decode cX12_number 54 = .ok (.getfield 62, 3) := by decide +kernel
theorem dX12_number_57 : decode cX12_number 57 = .ok (.iconst 1, 1) := by decide +kernel
theorem dX12_number_58 : decode cX12_number 58 = .ok (.iadd, 1) := by decide +kernel
theorem dX12_number_59 : decode cX12_number 59 = .ok (.putfield 62, 3) := by decide +kernel
theorem dX12_number_62 : decode cX12_number 62 = .ok (.goto (-56), 3) := by decide +kernel
theorem dX12_number_65 : decode cX12_number 65 = .ok (.aload_n 0, 1) := by decide +kernel
theorem dX12_number_66 : decode cX12_number 66 = .ok (.getfield 62, 3) := by decide +kernel
theorem dX12_number_69 : decode cX12_number 69 = .ok (.aload_n 0, 1) := by decide +kernel
theorem dX12_number_70 : decode cX12_number 70 = .ok (.getfield 72, 3) := by decide +kernel
theorem dX12_number_73 : decode cX12_number 73 = .ok (.if_icmp .eq 16, 3) := by decide +kernel
theorem dX12_number_76 : decode cX12_number 76 = .ok (.aload_n 0, 1) := by decide +kernel
theorem dX12_number_77 : decode cX12_number 77 = .ok (.getfield 62, 3) := by decide +kernel
theorem dX12_number_80 : decode cX12_number 80 = .ok (.aload_n 0, 1) := by decide +kernel
theorem dX12_number_81 : decode cX12_number 81 = .ok (.getfield 72, 3) := by decide +kernel
theorem dX12_number_84 : decode cX12_number 84 = .ok (.isub, 1) := by decide +kernel
theorem dX12_number_85 : decode cX12_number 85 = .ok (.iconst 3, 1) := by decide +kernel
theorem dX12_number_86 : decode cX12_number 86 = .ok (.if_icmp .le 7, 3) := by decide +kernel
theorem dX12_number_89 : decode cX12_number 89 = .ok (.iconst (-1), 1) := by decide +kernel
theorem dX12_number_90 : decode cX12_number 90 = .ok (.goto 4, 3) := by decide +kernel
theorem dX12_number_93 : decode cX12_number 93 = .ok (.iload_n 1, 1) := by decide +kernel
theorem dX12_number_94 : decode cX12_number 94 = .ok (.ireturn, 1) := by decide +kernel
theorem dX12_fault_0 : decode cX12_fault 0 = .ok (.aload_n 0, 1) := by decide +kernel
theorem dX12_fault_1 : decode cX12_fault 1 = .ok (.iconst 0, 1) := by decide +kernel
theorem dX12_fault_2 : decode cX12_fault 2 = .ok (.putfield 3, 3) := by decide +kernel
theorem dX12_fault_5 : decode cX12_fault 5 = .ok (.aload_n 0, 1) := by decide +kernel
theorem dX12_fault_6 : decode cX12_fault 6 = .ok (.getfield 24, 3) := by decide +kernel
theorem dX12_fault_9 : decode cX12_fault 9 = .ok (.ireturn, 1) := by decide +kernel
theorem dX12_textAt_0 : decode cX12_textAt 0 = .ok (.sipush 970, 3) := by decide +kernel
theorem dX12_textAt_3 : decode cX12_textAt 3 = .ok (.sipush 851, 3) := by decide +kernel
theorem dX12_textAt_6 : decode cX12_textAt 6 = .ok (.iload_n 0, 1) := by decide +kernel
theorem dX12_textAt_7 : decode cX12_textAt 7 = .ok (.imul, 1) := by decide +kernel
theorem dX12_textAt_8 : decode cX12_textAt 8 = .ok (.iadd, 1) := by decide +kernel
theorem dX12_textAt_9 : decode cX12_textAt 9 = .ok (.ireturn, 1) := by decide +kernel
theorem dX12_lineAt_0 : decode cX12_lineAt 0 = .ok (.iload_n 0, 1) := by decide +kernel
theorem dX12_lineAt_1 : decode cX12_lineAt 1 = .ok (.invokestatic 94, 3) := by decide +kernel
theorem dX12_lineAt_4 : decode cX12_lineAt 4 = .ok (.iconst 1, 1) := by decide +kernel
theorem dX12_lineAt_5 : decode cX12_lineAt 5 = .ok (.iadd, 1) := by decide +kernel
theorem dX12_lineAt_6 : decode cX12_lineAt 6 = .ok (.iconst 5, 1) := by decide +kernel
theorem dX12_lineAt_7 : decode cX12_lineAt 7 = .ok (.iload_n 1, 1) := by decide +kernel
theorem dX12_lineAt_8 : decode cX12_lineAt 8 = .ok (.imul, 1) := by decide +kernel
theorem dX12_lineAt_9 : decode cX12_lineAt 9 = .ok (.iadd, 1) := by decide +kernel
theorem dX12_lineAt_10 : decode cX12_lineAt 10 = .ok (.ireturn, 1) := by decide +kernel
theorem dX12_emits_0 : decode cX12_emits 0 = .ok (.bipush 6, 2) := by decide +kernel
theorem dX12_emits_2 : decode cX12_emits 2 = .ok (.invokestatic 94, 3) := by decide +kernel
theorem dX12_emits_5 : decode cX12_emits 5 = .ok (.bipush 51, 2) := by decide +kernel
theorem dX12_emits_7 : decode cX12_emits 7 = .ok (.iadd, 1) := by decide +kernel
theorem dX12_emits_8 : decode cX12_emits 8 = .ok (.iconst 2, 1) := by decide +kernel
theorem dX12_emits_9 : decode cX12_emits 9 = .ok (.aload_n 0, 1) := by decide +kernel
theorem dX12_emits_10 : decode cX12_emits 10 = .ok (.getfield 98, 3) := by decide +kernel
theorem dX12_emits_13 : decode cX12_emits 13 = .ok (.imul, 1) := by decide +kernel
theorem dX12_emits_14 : decode cX12_emits 14 = .ok (.iadd, 1) := by decide +kernel
theorem dX12_emits_15 : decode cX12_emits 15 = .ok (.istore_n 3, 1) := by decide +kernel
theorem dX12_emits_16 : decode cX12_emits 16 = .ok (.aload_n 0, 1) := by decide +kernel
theorem dX12_emits_17 : decode cX12_emits 17 = .ok (.getfield 13, 3) := by decide +kernel
theorem dX12_emits_20 : decode cX12_emits 20 = .ok (.iload_n 3, 1) := by decide +kernel
theorem dX12_emits_21 : decode cX12_emits 21 = .ok (.iload_n 1, 1) := by decide +kernel
theorem dX12_emits_22 : decode cX12_emits 22 = .ok (.iastore, 1) := by decide +kernel
theorem dX12_emits_23 : decode cX12_emits 23 = .ok (.aload_n 0, 1) := by decide +kernel
theorem dX12_emits_24 : decode cX12_emits 24 = .ok (.getfield 13, 3) := by decide +kernel
theorem dX12_emits_27 : decode cX12_emits 27 = .ok (.iload_n 3, 1) := by decide +kernel
theorem dX12_emits_28 : decode cX12_emits 28 = .ok (.iconst 1, 1) := by decide +kernel
theorem dX12_emits_29 : decode cX12_emits 29 = .ok (.iadd, 1) := by decide +kernel
theorem dX12_emits_30 : decode cX12_emits 30 = .ok (.iload_n 2, 1) := by decide +kernel
theorem dX12_emits_31 : decode cX12_emits 31 = .ok (.iastore, 1) := by decide +kernel
theorem dX12_emits_32 : decode cX12_emits 32 = .ok (.aload_n 0, 1) := by decide +kernel
theorem dX12_emits_33 : decode cX12_emits 33 = .ok (.dup, 1) := by decide +kernel
theorem dX12_emits_34 : decode cX12_emits 34 = .ok (.getfield 98, 3) := by decide +kernel
theorem dX12_emits_37 : decode cX12_emits 37 = .ok (.iconst 1, 1) := by decide +kernel
theorem dX12_emits_38 : decode cX12_emits 38 = .ok (.iadd, 1) := by decide +kernel
theorem dX12_emits_39 : decode cX12_emits 39 = .ok (.putfield 98, 3) := by decide +kernel
theorem dX12_emits_42 : decode cX12_emits 42 = .ok (.return_, 1) := by decide +kernel
theorem dX12_factAt_0 : decode cX12_factAt 0 = .ok (.aload_n 0, 1) := by decide +kernel
theorem dX12_factAt_1 : decode cX12_factAt 1 = .ok (.getfield 101, 3) := by decide +kernel
theorem dX12_factAt_4 : decode cX12_factAt 4 = .ok (.ifCond .eq 57, 3) := by decide +kernel
theorem dX12_factAt_7 : decode cX12_factAt 7 = .ok (.aload_n 0, 1) := by decide +kernel
theorem dX12_factAt_8 : decode cX12_factAt 8 = .ok (.ldc 104, 2) := by decide +kernel
theorem dX12_factAt_10 : decode cX12_factAt 10 = .ok (.invokevirtual 90, 3) := by decide +kernel
theorem dX12_factAt_13 : decode cX12_factAt 13 = .ok (.ifCond .eq 7, 3) := by decide +kernel
theorem dX12_factAt_16 : decode cX12_factAt 16 = .ok (.iconst 0, 1) := by decide +kernel
theorem dX12_factAt_17 : decode cX12_factAt 17 = .ok (.goto 43, 3) := by decide +kernel
theorem dX12_factAt_20 : decode cX12_factAt 20 = .ok (.aload_n 0, 1) := by decide +kernel
theorem dX12_factAt_21 : decode cX12_factAt 21 = .ok (.ldc 106, 2) := by decide +kernel
theorem dX12_factAt_23 : decode cX12_factAt 23 = .ok (.invokevirtual 90, 3) := by decide +kernel
theorem dX12_factAt_26 : decode cX12_factAt 26 = .ok (.ifCond .eq 7, 3) := by decide +kernel
theorem dX12_factAt_29 : decode cX12_factAt 29 = .ok (.iconst 1, 1) := by decide +kernel
theorem dX12_factAt_30 : decode cX12_factAt 30 = .ok (.goto 30, 3) := by decide +kernel
theorem dX12_factAt_33 : decode cX12_factAt 33 = .ok (.aload_n 0, 1) := by decide +kernel
theorem dX12_factAt_34 : decode cX12_factAt 34 = .ok (.ldc 108, 2) := by decide +kernel
theorem dX12_factAt_36 : decode cX12_factAt 36 = .ok (.invokevirtual 90, 3) := by decide +kernel
theorem dX12_factAt_39 : decode cX12_factAt 39 = .ok (.ifCond .eq 7, 3) := by decide +kernel
theorem dX12_factAt_42 : decode cX12_factAt 42 = .ok (.iconst 2, 1) := by decide +kernel
theorem dX12_factAt_43 : decode cX12_factAt 43 = .ok (.goto 17, 3) := by decide +kernel
theorem dX12_factAt_46 : decode cX12_factAt 46 = .ok (.aload_n 0, 1) := by decide +kernel
theorem dX12_factAt_47 : decode cX12_factAt 47 = .ok (.ldc 110, 2) := by decide +kernel
theorem dX12_factAt_49 : decode cX12_factAt 49 = .ok (.invokevirtual 90, 3) := by decide +kernel
theorem dX12_factAt_52 : decode cX12_factAt 52 = .ok (.ifCond .eq 7, 3) := by decide +kernel
theorem dX12_factAt_55 : decode cX12_factAt 55 = .ok (.iconst 3, 1) := by decide +kernel
theorem dX12_factAt_56 : decode cX12_factAt 56 = .ok (.goto 4, 3) := by decide +kernel
theorem dX12_factAt_59 : decode cX12_factAt 59 = .ok (.iconst (-1), 1) := by decide +kernel
theorem dX12_factAt_60 : decode cX12_factAt 60 = .ok (.ireturn, 1) := by decide +kernel
theorem dX12_factAt_61 : decode cX12_factAt 61 = .ok (.aload_n 0, 1) := by decide +kernel
theorem dX12_factAt_62 : decode cX12_factAt 62 = .ok (.ldc 112, 2) := by decide +kernel
theorem dX12_factAt_64 : decode cX12_factAt 64 = .ok (.invokevirtual 90, 3) := by decide +kernel
theorem dX12_factAt_67 : decode cX12_factAt 67 = .ok (.ifCond .eq 7, 3) := by decide +kernel
theorem dX12_factAt_70 : decode cX12_factAt 70 = .ok (.iconst 0, 1) := by decide +kernel
theorem dX12_factAt_71 : decode cX12_factAt 71 = .ok (.goto 97, 3) := by decide +kernel
theorem dX12_factAt_74 : decode cX12_factAt 74 = .ok (.aload_n 0, 1) := by decide +kernel
theorem dX12_factAt_75 : decode cX12_factAt 75 = .ok (.ldc 114, 2) := by decide +kernel
theorem dX12_factAt_77 : decode cX12_factAt 77 = .ok (.invokevirtual 90, 3) := by decide +kernel
theorem dX12_factAt_80 : decode cX12_factAt 80 = .ok (.ifCond .eq 7, 3) := by decide +kernel
theorem dX12_factAt_83 : decode cX12_factAt 83 = .ok (.iconst 1, 1) := by decide +kernel
theorem dX12_factAt_84 : decode cX12_factAt 84 = .ok (.goto 84, 3) := by decide +kernel
theorem dX12_factAt_87 : decode cX12_factAt 87 = .ok (.aload_n 0, 1) := by decide +kernel
theorem dX12_factAt_88 : decode cX12_factAt 88 = .ok (.ldc 116, 2) := by decide +kernel
theorem dX12_factAt_90 : decode cX12_factAt 90 = .ok (.invokevirtual 90, 3) := by decide +kernel
theorem dX12_factAt_93 : decode cX12_factAt 93 = .ok (.ifCond .eq 7, 3) := by decide +kernel
theorem dX12_factAt_96 : decode cX12_factAt 96 = .ok (.iconst 2, 1) := by decide +kernel
theorem dX12_factAt_97 : decode cX12_factAt 97 = .ok (.goto 71, 3) := by decide +kernel
theorem dX12_factAt_100 : decode cX12_factAt 100 = .ok (.aload_n 0, 1) := by decide +kernel
theorem dX12_factAt_101 : decode cX12_factAt 101 = .ok (.ldc 118, 2) := by decide +kernel
theorem dX12_factAt_103 : decode cX12_factAt 103 = .ok (.invokevirtual 90, 3) := by decide +kernel
theorem dX12_factAt_106 : decode cX12_factAt 106 = .ok (.ifCond .eq 7, 3) := by decide +kernel
theorem dX12_factAt_109 : decode cX12_factAt 109 = .ok (.iconst 3, 1) := by decide +kernel
theorem dX12_factAt_110 : decode cX12_factAt 110 = .ok (.goto 58, 3) := by decide +kernel
theorem dX12_factAt_113 : decode cX12_factAt 113 = .ok (.aload_n 0, 1) := by decide +kernel
theorem dX12_factAt_114 : decode cX12_factAt 114 = .ok (.ldc 120, 2) := by decide +kernel
theorem dX12_factAt_116 : decode cX12_factAt 116 = .ok (.invokevirtual 90, 3) := by decide +kernel
theorem dX12_factAt_119 : decode cX12_factAt 119 = .ok (.ifCond .eq 7, 3) := by decide +kernel
theorem dX12_factAt_122 : decode cX12_factAt 122 = .ok (.iconst 4, 1) := by decide +kernel
theorem dX12_factAt_123 : decode cX12_factAt 123 = .ok (.goto 45, 3) := by decide +kernel
theorem dX12_factAt_126 : decode cX12_factAt 126 = .ok (.aload_n 0, 1) := by decide +kernel
theorem dX12_factAt_127 : decode cX12_factAt 127 = .ok (.ldc 122, 2) := by decide +kernel
theorem dX12_factAt_129 : decode cX12_factAt 129 = .ok (.invokevirtual 90, 3) := by decide +kernel
theorem dX12_factAt_132 : decode cX12_factAt 132 = .ok (.ifCond .eq 7, 3) := by decide +kernel
theorem dX12_factAt_135 : decode cX12_factAt 135 = .ok (.iconst 5, 1) := by decide +kernel
theorem dX12_factAt_136 : decode cX12_factAt 136 = .ok (.goto 32, 3) := by decide +kernel
theorem dX12_factAt_139 : decode cX12_factAt 139 = .ok (.aload_n 0, 1) := by decide +kernel
theorem dX12_factAt_140 : decode cX12_factAt 140 = .ok (.ldc 124, 2) := by decide +kernel
theorem dX12_factAt_142 : decode cX12_factAt 142 = .ok (.invokevirtual 90, 3) := by decide +kernel
theorem dX12_factAt_145 : decode cX12_factAt 145 = .ok (.ifCond .eq 8, 3) := by decide +kernel
theorem dX12_factAt_148 : decode cX12_factAt 148 = .ok (.bipush 6, 2) := by decide +kernel
theorem dX12_factAt_150 : decode cX12_factAt 150 = .ok (.goto 18, 3) := by decide +kernel
theorem dX12_factAt_153 : decode cX12_factAt 153 = .ok (.aload_n 0, 1) := by decide +kernel
theorem dX12_factAt_154 : decode cX12_factAt 154 = .ok (.ldc 126, 2) := by decide +kernel
theorem dX12_factAt_156 : decode cX12_factAt 156 = .ok (.invokevirtual 90, 3) := by decide +kernel
theorem dX12_factAt_159 : decode cX12_factAt 159 = .ok (.ifCond .eq 8, 3) := by decide +kernel
theorem dX12_factAt_162 : decode cX12_factAt 162 = .ok (.bipush 7, 2) := by decide +kernel
theorem dX12_factAt_164 : decode cX12_factAt 164 = .ok (.goto 4, 3) := by decide +kernel
theorem dX12_factAt_167 : decode cX12_factAt 167 = .ok (.iconst (-1), 1) := by decide +kernel
theorem dX12_factAt_168 : decode cX12_factAt 168 = .ok (.ireturn, 1) := by decide +kernel
theorem dX12_tagAt_0 : decode cX12_tagAt 0 = .ok (.aload_n 0, 1) := by decide +kernel
theorem dX12_tagAt_1 : decode cX12_tagAt 1 = .ok (.getfield 101, 3) := by decide +kernel
theorem dX12_tagAt_4 : decode cX12_tagAt 4 = .ok (.ifCond .eq 19, 3) := by decide +kernel
theorem dX12_tagAt_7 : decode cX12_tagAt 7 = .ok (.aload_n 0, 1) := by decide +kernel
theorem dX12_tagAt_8 : decode cX12_tagAt 8 = .ok (.ldc 128, 2) := by decide +kernel
theorem dX12_tagAt_10 : decode cX12_tagAt 10 = .ok (.invokevirtual 90, 3) := by decide +kernel
theorem dX12_tagAt_13 : decode cX12_tagAt 13 = .ok (.ifCond .eq 8, 3) := by decide +kernel
theorem dX12_tagAt_16 : decode cX12_tagAt 16 = .ok (.bipush 8, 2) := by decide +kernel
theorem dX12_tagAt_18 : decode cX12_tagAt 18 = .ok (.goto 4, 3) := by decide +kernel
theorem dX12_tagAt_21 : decode cX12_tagAt 21 = .ok (.iconst (-1), 1) := by decide +kernel
theorem dX12_tagAt_22 : decode cX12_tagAt 22 = .ok (.ireturn, 1) := by decide +kernel
theorem dX12_tagAt_23 : decode cX12_tagAt 23 = .ok (.aload_n 0, 1) := by decide +kernel
theorem dX12_tagAt_24 : decode cX12_tagAt 24 = .ok (.ldc 130, 2) := by decide +kernel
theorem dX12_tagAt_26 : decode cX12_tagAt 26 = .ok (.invokevirtual 90, 3) := by decide +kernel
theorem dX12_tagAt_29 : decode cX12_tagAt 29 = .ok (.ifCond .eq 8, 3) := by decide +kernel
theorem dX12_tagAt_32 : decode cX12_tagAt 32 = .ok (.bipush 8, 2) := by decide +kernel
theorem dX12_tagAt_34 : decode cX12_tagAt 34 = .ok (.goto 18, 3) := by decide +kernel
theorem dX12_tagAt_37 : decode cX12_tagAt 37 = .ok (.aload_n 0, 1) := by decide +kernel
theorem dX12_tagAt_38 : decode cX12_tagAt 38 = .ok (.ldc 132, 2) := by decide +kernel
theorem dX12_tagAt_40 : decode cX12_tagAt 40 = .ok (.invokevirtual 90, 3) := by decide +kernel
theorem dX12_tagAt_43 : decode cX12_tagAt 43 = .ok (.ifCond .eq 8, 3) := by decide +kernel
theorem dX12_tagAt_46 : decode cX12_tagAt 46 = .ok (.bipush 9, 2) := by decide +kernel
theorem dX12_tagAt_48 : decode cX12_tagAt 48 = .ok (.goto 4, 3) := by decide +kernel
theorem dX12_tagAt_51 : decode cX12_tagAt 51 = .ok (.iconst (-1), 1) := by decide +kernel
theorem dX12_tagAt_52 : decode cX12_tagAt 52 = .ok (.ireturn, 1) := by decide +kernel
theorem dX12_readPart_0 : decode cX12_readPart 0 = .ok (.aload_n 0, 1) := by decide +kernel
theorem dX12_readPart_1 : decode cX12_readPart 1 = .ok (.invokevirtual 87, 3) := by decide +kernel
theorem dX12_readPart_4 : decode cX12_readPart 4 = .ok (.aload_n 0, 1) := by decide +kernel
theorem dX12_readPart_5 : decode cX12_readPart 5 = .ok (.getfield 62, 3) := by decide +kernel
theorem dX12_readPart_8 : decode cX12_readPart 8 = .ok (.aload_n 0, 1) := by decide +kernel
theorem dX12_readPart_9 : decode cX12_readPart 9 = .ok (.getfield 72, 3) := by decide +kernel
theorem dX12_readPart_12 : decode cX12_readPart 12 = .ok (.if_icmp .ne 25, 3) := by decide +kernel
theorem dX12_readPart_15 : decode cX12_readPart 15 = .ok (.aload_n 0, 1) := by decide +kernel
theorem dX12_readPart_16 : decode cX12_readPart 16 = .ok (.invokevirtual 134, 3) := by decide +kernel
theorem dX12_readPart_19 : decode cX12_readPart 19 = .ok (.istore_n 1, 1) := by decide +kernel
theorem dX12_readPart_20 : decode cX12_readPart 20 = .ok (.aload_n 0, 1) := by decide +kernel
theorem dX12_readPart_21 : decode cX12_readPart 21 = .ok (.bipush 10, 2) := by decide +kernel
theorem dX12_readPart_23 : decode cX12_readPart 23 = .ok (.iload_n 1, 1) := by decide +kernel
theorem dX12_readPart_24 : decode cX12_readPart 24 = .ok (.invokevirtual 137, 3) := by decide +kernel
theorem dX12_readPart_27 : decode cX12_readPart 27 = .ok (.iload_n 1, 1) := by decide +kernel
theorem dX12_readPart_28 : decode cX12_readPart 28 = .ok (.ifCond .lt 7, 3) := by decide +kernel
theorem dX12_readPart_31 : decode cX12_readPart 31 = .ok (.iconst 1, 1) := by decide +kernel
theorem dX12_readPart_32 : decode cX12_readPart 32 = .ok (.goto 4, 3) := by decide +kernel
theorem dX12_readPart_35 : decode cX12_readPart 35 = .ok (.iconst 0, 1) := by decide +kernel
theorem dX12_readPart_36 : decode cX12_readPart 36 = .ok (.ireturn, 1) := by decide +kernel
theorem dX12_readPart_37 : decode cX12_readPart 37 = .ok (.aload_n 0, 1) := by decide +kernel
theorem dX12_readPart_38 : decode cX12_readPart 38 = .ok (.invokevirtual 141, 3) := by decide +kernel
theorem dX12_readPart_41 : decode cX12_readPart 41 = .ok (.istore_n 1, 1) := by decide +kernel
theorem dX12_readPart_42 : decode cX12_readPart 42 = .ok (.aload_n 0, 1) := by decide +kernel
theorem dX12_readPart_43 : decode cX12_readPart 43 = .ok (.iload_n 1, 1) := by decide +kernel
theorem dX12_readPart_44 : decode cX12_readPart 44 = .ok (.iconst 0, 1) := by decide +kernel
theorem dX12_readPart_45 : decode cX12_readPart 45 = .ok (.invokevirtual 137, 3) := by decide +kernel
theorem dX12_readPart_48 : decode cX12_readPart 48 = .ok (.iload_n 1, 1) := by decide +kernel
theorem dX12_readPart_49 : decode cX12_readPart 49 = .ok (.ifCond .lt 7, 3) := by decide +kernel
theorem dX12_readPart_52 : decode cX12_readPart 52 = .ok (.iconst 1, 1) := by decide +kernel
theorem dX12_readPart_53 : decode cX12_readPart 53 = .ok (.goto 4, 3) := by decide +kernel
theorem dX12_readPart_56 : decode cX12_readPart 56 = .ok (.iconst 0, 1) := by decide +kernel
theorem dX12_readPart_57 : decode cX12_readPart 57 = .ok (.ireturn, 1) := by decide +kernel
theorem dX12_readSum_0 : decode cX12_readSum 0 = .ok (.aload_n 0, 1) := by decide +kernel
theorem dX12_readSum_1 : decode cX12_readSum 1 = .ok (.invokevirtual 144, 3) := by decide +kernel
theorem dX12_readSum_4 : decode cX12_readSum 4 = .ok (.ifCond .ne 5, 3) := by decide +kernel
theorem dX12_readSum_7 : decode cX12_readSum 7 = .ok (.iconst 0, 1) := by decide +kernel
theorem dX12_readSum_8 : decode cX12_readSum 8 = .ok (.ireturn, 1) := by decide +kernel
theorem dX12_readSum_9 : decode cX12_readSum 9 = .ok (.aload_n 0, 1) := by decide +kernel
theorem dX12_readSum_10 : decode cX12_readSum 10 = .ok (.bipush 43, 2) := by decide +kernel
theorem dX12_readSum_12 : decode cX12_readSum 12 = .ok (.invokevirtual 148, 3) := by decide +kernel
theorem dX12_readSum_15 : decode cX12_readSum 15 = .ok (.ifCond .eq 22, 3) := by decide +kernel
theorem dX12_readSum_18 : decode cX12_readSum 18 = .ok (.aload_n 0, 1) := by decide +kernel
theorem dX12_readSum_19 : decode cX12_readSum 19 = .ok (.invokevirtual 144, 3) := by decide +kernel
theorem dX12_readSum_22 : decode cX12_readSum 22 = .ok (.ifCond .ne 5, 3) := by decide +kernel
theorem dX12_readSum_25 : decode cX12_readSum 25 = .ok (.iconst 0, 1) := by decide +kernel
theorem dX12_readSum_26 : decode cX12_readSum 26 = .ok (.ireturn, 1) := by decide +kernel
theorem dX12_readSum_27 : decode cX12_readSum 27 = .ok (.aload_n 0, 1) := by decide +kernel
theorem dX12_readSum_28 : decode cX12_readSum 28 = .ok (.bipush 11, 2) := by decide +kernel
theorem dX12_readSum_30 : decode cX12_readSum 30 = .ok (.iconst 0, 1) := by decide +kernel
theorem dX12_readSum_31 : decode cX12_readSum 31 = .ok (.invokevirtual 137, 3) := by decide +kernel
theorem dX12_readSum_34 : decode cX12_readSum 34 = .ok (.goto (-25), 3) := by decide +kernel
theorem dX12_readSum_37 : decode cX12_readSum 37 = .ok (.iconst 1, 1) := by decide +kernel
theorem dX12_readSum_38 : decode cX12_readSum 38 = .ok (.ireturn, 1) := by decide +kernel
theorem dX12_readAtom_0 : decode cX12_readAtom 0 = .ok (.aload_n 0, 1) := by decide +kernel
theorem dX12_readAtom_1 : decode cX12_readAtom 1 = .ok (.bipush 40, 2) := by decide +kernel
theorem dX12_readAtom_3 : decode cX12_readAtom 3 = .ok (.invokevirtual 148, 3) := by decide +kernel
theorem dX12_readAtom_6 : decode cX12_readAtom 6 = .ok (.ifCond .eq 50, 3) := by decide +kernel
theorem dX12_readAtom_9 : decode cX12_readAtom 9 = .ok (.aload_n 0, 1) := by decide +kernel
theorem dX12_readAtom_10 : decode cX12_readAtom 10 = .ok (.getfield 152, 3) := by decide +kernel
theorem dX12_readAtom_13 : decode cX12_readAtom 13 = .ok (.bipush 6, 2) := by decide +kernel
theorem dX12_readAtom_15 : decode cX12_readAtom 15 = .ok (.if_icmp .ne 5, 3) := by decide +kernel
theorem dX12_readAtom_18 : decode cX12_readAtom 18 = .ok (.iconst 0, 1) := by decide +kernel
theorem dX12_readAtom_19 : decode cX12_readAtom 19 = .ok (.ireturn, 1) := by decide +kernel
theorem dX12_readAtom_20 : decode cX12_readAtom 20 = .ok (.aload_n 0, 1) := by decide +kernel
theorem dX12_readAtom_21 : decode cX12_readAtom 21 = .ok (.dup, 1) := by decide +kernel
theorem dX12_readAtom_22 : decode cX12_readAtom 22 = .ok (.getfield 152, 3) := by decide +kernel
theorem dX12_readAtom_25 : decode cX12_readAtom 25 = .ok (.iconst 1, 1) := by decide +kernel
theorem dX12_readAtom_26 : decode cX12_readAtom 26 = .ok (.iadd, 1) := by decide +kernel
theorem dX12_readAtom_27 : decode cX12_readAtom 27 = .ok (.putfield 152, 3) := by decide +kernel
theorem dX12_readAtom_30 : decode cX12_readAtom 30 = .ok (.aload_n 0, 1) := by decide +kernel
theorem dX12_readAtom_31 : decode cX12_readAtom 31 = .ok (.invokevirtual 155, 3) := by decide +kernel
theorem dX12_readAtom_34 : decode cX12_readAtom 34 = .ok (.ifCond .ne 5, 3) := by decide +kernel
theorem dX12_readAtom_37 : decode cX12_readAtom 37 = .ok (.iconst 0, 1) := by decide +kernel
theorem dX12_readAtom_38 : decode cX12_readAtom 38 = .ok (.ireturn, 1) := by decide +kernel
theorem dX12_readAtom_39 : decode cX12_readAtom 39 = .ok (.aload_n 0, 1) := by decide +kernel
theorem dX12_readAtom_40 : decode cX12_readAtom 40 = .ok (.dup, 1) := by decide +kernel
theorem dX12_readAtom_41 : decode cX12_readAtom 41 = .ok (.getfield 152, 3) := by decide +kernel
theorem dX12_readAtom_44 : decode cX12_readAtom 44 = .ok (.iconst 1, 1) := by decide +kernel
theorem dX12_readAtom_45 : decode cX12_readAtom 45 = .ok (.isub, 1) := by decide +kernel
theorem dX12_readAtom_46 : decode cX12_readAtom 46 = .ok (.putfield 152, 3) := by decide +kernel
theorem dX12_readAtom_49 : decode cX12_readAtom 49 = .ok (.aload_n 0, 1) := by decide +kernel
theorem dX12_readAtom_50 : decode cX12_readAtom 50 = .ok (.bipush 41, 2) := by decide +kernel
theorem dX12_readAtom_52 : decode cX12_readAtom 52 = .ok (.invokevirtual 148, 3) := by decide +kernel
theorem dX12_readAtom_55 : decode cX12_readAtom 55 = .ok (.ireturn, 1) := by decide +kernel
theorem dX12_readAtom_56 : decode cX12_readAtom 56 = .ok (.aload_n 0, 1) := by decide +kernel
theorem dX12_readAtom_57 : decode cX12_readAtom 57 = .ok (.ldc 158, 2) := by decide +kernel
theorem dX12_readAtom_59 : decode cX12_readAtom 59 = .ok (.invokevirtual 160, 3) := by decide +kernel
theorem dX12_readAtom_62 : decode cX12_readAtom 62 = .ok (.ifCond .eq 52, 3) := by decide +kernel
theorem dX12_readAtom_65 : decode cX12_readAtom 65 = .ok (.aload_n 0, 1) := by decide +kernel
theorem dX12_readAtom_66 : decode cX12_readAtom 66 = .ok (.getfield 152, 3) := by decide +kernel
theorem dX12_readAtom_69 : decode cX12_readAtom 69 = .ok (.bipush 6, 2) := by decide +kernel
theorem dX12_readAtom_71 : decode cX12_readAtom 71 = .ok (.if_icmp .ne 5, 3) := by decide +kernel
theorem dX12_readAtom_74 : decode cX12_readAtom 74 = .ok (.iconst 0, 1) := by decide +kernel
theorem dX12_readAtom_75 : decode cX12_readAtom 75 = .ok (.ireturn, 1) := by decide +kernel
theorem dX12_readAtom_76 : decode cX12_readAtom 76 = .ok (.aload_n 0, 1) := by decide +kernel
theorem dX12_readAtom_77 : decode cX12_readAtom 77 = .ok (.dup, 1) := by decide +kernel
theorem dX12_readAtom_78 : decode cX12_readAtom 78 = .ok (.getfield 152, 3) := by decide +kernel
theorem dX12_readAtom_81 : decode cX12_readAtom 81 = .ok (.iconst 1, 1) := by decide +kernel
theorem dX12_readAtom_82 : decode cX12_readAtom 82 = .ok (.iadd, 1) := by decide +kernel
theorem dX12_readAtom_83 : decode cX12_readAtom 83 = .ok (.putfield 152, 3) := by decide +kernel
theorem dX12_readAtom_86 : decode cX12_readAtom 86 = .ok (.aload_n 0, 1) := by decide +kernel
theorem dX12_readAtom_87 : decode cX12_readAtom 87 = .ok (.invokevirtual 163, 3) := by decide +kernel
theorem dX12_readAtom_90 : decode cX12_readAtom 90 = .ok (.ifCond .ne 5, 3) := by decide +kernel
theorem dX12_readAtom_93 : decode cX12_readAtom 93 = .ok (.iconst 0, 1) := by decide +kernel
theorem dX12_readAtom_94 : decode cX12_readAtom 94 = .ok (.ireturn, 1) := by decide +kernel
theorem dX12_readAtom_95 : decode cX12_readAtom 95 = .ok (.aload_n 0, 1) := by decide +kernel
theorem dX12_readAtom_96 : decode cX12_readAtom 96 = .ok (.dup, 1) := by decide +kernel
theorem dX12_readAtom_97 : decode cX12_readAtom 97 = .ok (.getfield 152, 3) := by decide +kernel
theorem dX12_readAtom_100 : decode cX12_readAtom 100 = .ok (.iconst 1, 1) := by decide +kernel
theorem dX12_readAtom_101 : decode cX12_readAtom 101 = .ok (.isub, 1) := by decide +kernel
theorem dX12_readAtom_102 : decode cX12_readAtom 102 = .ok (.putfield 152, 3) := by decide +kernel
theorem dX12_readAtom_105 : decode cX12_readAtom 105 = .ok (.aload_n 0, 1) := by decide +kernel
theorem dX12_readAtom_106 : decode cX12_readAtom 106 = .ok (.bipush 14, 2) := by decide +kernel
theorem dX12_readAtom_108 : decode cX12_readAtom 108 = .ok (.iconst 0, 1) := by decide +kernel
theorem dX12_readAtom_109 : decode cX12_readAtom 109 = .ok (.invokevirtual 137, 3) := by decide +kernel
theorem dX12_readAtom_112 : decode cX12_readAtom 112 = .ok (.iconst 1, 1) := by decide +kernel
theorem dX12_readAtom_113 : decode cX12_readAtom 113 = .ok (.ireturn, 1) := by decide +kernel
theorem dX12_readAtom_114 : decode cX12_readAtom 114 = .ok (.aload_n 0, 1) := by decide +kernel
theorem dX12_readAtom_115 : decode cX12_readAtom 115 = .ok (.invokevirtual 87, 3) := by decide +kernel
theorem dX12_readAtom_118 : decode cX12_readAtom 118 = .ok (.aload_n 0, 1) := by decide +kernel
theorem dX12_readAtom_119 : decode cX12_readAtom 119 = .ok (.invokevirtual 166, 3) := by decide +kernel
theorem dX12_readAtom_122 : decode cX12_readAtom 122 = .ok (.istore_n 1, 1) := by decide +kernel
theorem dX12_readAtom_123 : decode cX12_readAtom 123 = .ok (.iload_n 1, 1) := by decide +kernel
theorem dX12_readAtom_124 : decode cX12_readAtom 124 = .ok (.ifCond .lt 11, 3) := by decide +kernel
theorem dX12_readAtom_127 : decode cX12_readAtom 127 = .ok (.aload_n 0, 1) := by decide +kernel
theorem dX12_readAtom_128 : decode cX12_readAtom 128 = .ok (.iload_n 1, 1) := by decide +kernel
theorem dX12_readAtom_129 : decode cX12_readAtom 129 = .ok (.iconst 0, 1) := by decide +kernel
theorem dX12_readAtom_130 : decode cX12_readAtom 130 = .ok (.invokevirtual 137, 3) := by decide +kernel
theorem dX12_readAtom_133 : decode cX12_readAtom 133 = .ok (.iconst 1, 1) := by decide +kernel
theorem dX12_readAtom_134 : decode cX12_readAtom 134 = .ok (.ireturn, 1) := by decide +kernel
theorem dX12_readAtom_135 : decode cX12_readAtom 135 = .ok (.aload_n 0, 1) := by decide +kernel
theorem dX12_readAtom_136 : decode cX12_readAtom 136 = .ok (.aload_n 0, 1) := by decide +kernel
theorem dX12_readAtom_137 : decode cX12_readAtom 137 = .ok (.getfield 72, 3) := by decide +kernel
theorem dX12_readAtom_140 : decode cX12_readAtom 140 = .ok (.putfield 62, 3) := by decide +kernel
theorem dX12_readAtom_143 : decode cX12_readAtom 143 = .ok (.aload_n 0, 1) := by decide +kernel
theorem dX12_readAtom_144 : decode cX12_readAtom 144 = .ok (.invokevirtual 169, 3) := by decide +kernel
theorem dX12_readAtom_147 : decode cX12_readAtom 147 = .ok (.ifCond .ne 5, 3) := by decide +kernel
theorem dX12_readAtom_150 : decode cX12_readAtom 150 = .ok (.iconst 0, 1) := by decide +kernel
theorem dX12_readAtom_151 : decode cX12_readAtom 151 = .ok (.ireturn, 1) := by decide +kernel
theorem dX12_readAtom_152 : decode cX12_readAtom 152 = .ok (.aload_n 0, 1) := by decide +kernel
theorem dX12_readAtom_153 : decode cX12_readAtom 153 = .ok (.bipush 60, 2) := by decide +kernel
theorem dX12_readAtom_155 : decode cX12_readAtom 155 = .ok (.invokevirtual 148, 3) := by decide +kernel
theorem dX12_readAtom_158 : decode cX12_readAtom 158 = .ok (.istore_n 2, 1) := by decide +kernel
theorem dX12_readAtom_159 : decode cX12_readAtom 159 = .ok (.iload_n 2, 1) := by decide +kernel
theorem dX12_readAtom_160 : decode cX12_readAtom 160 = .ok (.ifCond .ne 12, 3) := by decide +kernel
theorem dX12_readAtom_163 : decode cX12_readAtom 163 = .ok (.aload_n 0, 1) := by decide +kernel
theorem dX12_readAtom_164 : decode cX12_readAtom 164 = .ok (.bipush 62, 2) := by decide +kernel
theorem dX12_readAtom_166 : decode cX12_readAtom 166 = .ok (.invokevirtual 148, 3) := by decide +kernel
theorem dX12_readAtom_169 : decode cX12_readAtom 169 = .ok (.ifCond .eq 10, 3) := by decide +kernel
theorem dX12_readAtom_172 : decode cX12_readAtom 172 = .ok (.aload_n 0, 1) := by decide +kernel
theorem dX12_readAtom_173 : decode cX12_readAtom 173 = .ok (.invokevirtual 169, 3) := by decide +kernel
theorem dX12_readAtom_176 : decode cX12_readAtom 176 = .ok (.ifCond .ne 5, 3) := by decide +kernel
theorem dX12_readAtom_179 : decode cX12_readAtom 179 = .ok (.iconst 0, 1) := by decide +kernel
theorem dX12_readAtom_180 : decode cX12_readAtom 180 = .ok (.ireturn, 1) := by decide +kernel
theorem dX12_readAtom_181 : decode cX12_readAtom 181 = .ok (.aload_n 0, 1) := by decide +kernel
theorem dX12_readAtom_182 : decode cX12_readAtom 182 = .ok (.iload_n 2, 1) := by decide +kernel
theorem dX12_readAtom_183 : decode cX12_readAtom 183 = .ok (.ifCond .eq 8, 3) := by decide +kernel
theorem dX12_readAtom_186 : decode cX12_readAtom 186 = .ok (.bipush 12, 2) := by decide +kernel
theorem dX12_readAtom_188 : decode cX12_readAtom 188 = .ok (.goto 5, 3) := by decide +kernel
theorem dX12_readAtom_191 : decode cX12_readAtom 191 = .ok (.bipush 13, 2) := by decide +kernel
theorem dX12_readAtom_193 : decode cX12_readAtom 193 = .ok (.iconst 0, 1) := by decide +kernel
theorem dX12_readAtom_194 : decode cX12_readAtom 194 = .ok (.invokevirtual 137, 3) := by decide +kernel
theorem dX12_readAtom_197 : decode cX12_readAtom 197 = .ok (.iconst 1, 1) := by decide +kernel
theorem dX12_readAtom_198 : decode cX12_readAtom 198 = .ok (.ireturn, 1) := by decide +kernel
theorem dX12_readAllOf_0 : decode cX12_readAllOf 0 = .ok (.aload_n 0, 1) := by decide +kernel
theorem dX12_readAllOf_1 : decode cX12_readAllOf 1 = .ok (.invokevirtual 163, 3) := by decide +kernel
theorem dX12_readAllOf_4 : decode cX12_readAllOf 4 = .ok (.ifCond .ne 5, 3) := by decide +kernel
theorem dX12_readAllOf_7 : decode cX12_readAllOf 7 = .ok (.iconst 0, 1) := by decide +kernel
theorem dX12_readAllOf_8 : decode cX12_readAllOf 8 = .ok (.ireturn, 1) := by decide +kernel
theorem dX12_readAllOf_9 : decode cX12_readAllOf 9 = .ok (.aload_n 0, 1) := by decide +kernel
theorem dX12_readAllOf_10 : decode cX12_readAllOf 10 = .ok (.ldc 172, 2) := by decide +kernel
theorem dX12_readAllOf_12 : decode cX12_readAllOf 12 = .ok (.invokevirtual 160, 3) := by decide +kernel
theorem dX12_readAllOf_15 : decode cX12_readAllOf 15 = .ok (.ifCond .eq 22, 3) := by decide +kernel
theorem dX12_readAllOf_18 : decode cX12_readAllOf 18 = .ok (.aload_n 0, 1) := by decide +kernel
theorem dX12_readAllOf_19 : decode cX12_readAllOf 19 = .ok (.invokevirtual 163, 3) := by decide +kernel
theorem dX12_readAllOf_22 : decode cX12_readAllOf 22 = .ok (.ifCond .ne 5, 3) := by decide +kernel
theorem dX12_readAllOf_25 : decode cX12_readAllOf 25 = .ok (.iconst 0, 1) := by decide +kernel
theorem dX12_readAllOf_26 : decode cX12_readAllOf 26 = .ok (.ireturn, 1) := by decide +kernel
theorem dX12_readAllOf_27 : decode cX12_readAllOf 27 = .ok (.aload_n 0, 1) := by decide +kernel
theorem dX12_readAllOf_28 : decode cX12_readAllOf 28 = .ok (.bipush 15, 2) := by decide +kernel
theorem dX12_readAllOf_30 : decode cX12_readAllOf 30 = .ok (.iconst 0, 1) := by decide +kernel
theorem dX12_readAllOf_31 : decode cX12_readAllOf 31 = .ok (.invokevirtual 137, 3) := by decide +kernel
theorem dX12_readAllOf_34 : decode cX12_readAllOf 34 = .ok (.goto (-25), 3) := by decide +kernel
theorem dX12_readAllOf_37 : decode cX12_readAllOf 37 = .ok (.iconst 1, 1) := by decide +kernel
theorem dX12_readAllOf_38 : decode cX12_readAllOf 38 = .ok (.ireturn, 1) := by decide +kernel
theorem dX12_readCond_0 : decode cX12_readCond 0 = .ok (.aload_n 0, 1) := by decide +kernel
theorem dX12_readCond_1 : decode cX12_readCond 1 = .ok (.invokevirtual 174, 3) := by decide +kernel
theorem dX12_readCond_4 : decode cX12_readCond 4 = .ok (.ifCond .ne 5, 3) := by decide +kernel
theorem dX12_readCond_7 : decode cX12_readCond 7 = .ok (.iconst 0, 1) := by decide +kernel
theorem dX12_readCond_8 : decode cX12_readCond 8 = .ok (.ireturn, 1) := by decide +kernel
theorem dX12_readCond_9 : decode cX12_readCond 9 = .ok (.aload_n 0, 1) := by decide +kernel
theorem dX12_readCond_10 : decode cX12_readCond 10 = .ok (.ldc 177, 2) := by decide +kernel
theorem dX12_readCond_12 : decode cX12_readCond 12 = .ok (.invokevirtual 160, 3) := by decide +kernel
theorem dX12_readCond_15 : decode cX12_readCond 15 = .ok (.ifCond .eq 22, 3) := by decide +kernel
theorem dX12_readCond_18 : decode cX12_readCond 18 = .ok (.aload_n 0, 1) := by decide +kernel
theorem dX12_readCond_19 : decode cX12_readCond 19 = .ok (.invokevirtual 174, 3) := by decide +kernel
theorem dX12_readCond_22 : decode cX12_readCond 22 = .ok (.ifCond .ne 5, 3) := by decide +kernel
theorem dX12_readCond_25 : decode cX12_readCond 25 = .ok (.iconst 0, 1) := by decide +kernel
theorem dX12_readCond_26 : decode cX12_readCond 26 = .ok (.ireturn, 1) := by decide +kernel
theorem dX12_readCond_27 : decode cX12_readCond 27 = .ok (.aload_n 0, 1) := by decide +kernel
theorem dX12_readCond_28 : decode cX12_readCond 28 = .ok (.bipush 16, 2) := by decide +kernel
theorem dX12_readCond_30 : decode cX12_readCond 30 = .ok (.iconst 0, 1) := by decide +kernel
theorem dX12_readCond_31 : decode cX12_readCond 31 = .ok (.invokevirtual 137, 3) := by decide +kernel
theorem dX12_readCond_34 : decode cX12_readCond 34 = .ok (.goto (-25), 3) := by decide +kernel
theorem dX12_readCond_37 : decode cX12_readCond 37 = .ok (.iconst 1, 1) := by decide +kernel
theorem dX12_readCond_38 : decode cX12_readCond 38 = .ok (.ireturn, 1) := by decide +kernel
theorem dX12_readLine_0 : decode cX12_readLine 0 = .ok (.aload_n 0, 1) := by decide +kernel
theorem dX12_readLine_1 : decode cX12_readLine 1 = .ok (.invokevirtual 87, 3) := by decide +kernel
theorem dX12_readLine_4 : decode cX12_readLine 4 = .ok (.iload_n 1, 1) := by decide +kernel
theorem dX12_readLine_5 : decode cX12_readLine 5 = .ok (.bipush 10, 2) := by decide +kernel
theorem dX12_readLine_7 : decode cX12_readLine 7 = .ok (.if_icmp .ne 5, 3) := by decide +kernel
theorem dX12_readLine_10 : decode cX12_readLine 10 = .ok (.iconst 0, 1) := by decide +kernel
theorem dX12_readLine_11 : decode cX12_readLine 11 = .ok (.ireturn, 1) := by decide +kernel
theorem dX12_readLine_12 : decode cX12_readLine 12 = .ok (.bipush 6, 2) := by decide +kernel
theorem dX12_readLine_14 : decode cX12_readLine 14 = .ok (.iload_n 1, 1) := by decide +kernel
theorem dX12_readLine_15 : decode cX12_readLine 15 = .ok (.invokestatic 179, 3) := by decide +kernel
theorem dX12_readLine_18 : decode cX12_readLine 18 = .ok (.istore_n 2, 1) := by decide +kernel
theorem dX12_readLine_19 : decode cX12_readLine 19 = .ok (.aload_n 0, 1) := by decide +kernel
theorem dX12_readLine_20 : decode cX12_readLine 20 = .ok (.getfield 13, 3) := by decide +kernel
theorem dX12_readLine_23 : decode cX12_readLine 23 = .ok (.iload_n 2, 1) := by decide +kernel
theorem dX12_readLine_24 : decode cX12_readLine 24 = .ok (.aload_n 0, 1) := by decide +kernel
theorem dX12_readLine_25 : decode cX12_readLine 25 = .ok (.ldc 183, 2) := by decide +kernel
theorem dX12_readLine_27 : decode cX12_readLine 27 = .ok (.invokevirtual 90, 3) := by decide +kernel
theorem dX12_readLine_30 : decode cX12_readLine 30 = .ok (.ifCond .eq 7, 3) := by decide +kernel
theorem dX12_readLine_33 : decode cX12_readLine 33 = .ok (.iconst 0, 1) := by decide +kernel
theorem dX12_readLine_34 : decode cX12_readLine 34 = .ok (.goto 17, 3) := by decide +kernel
theorem dX12_readLine_37 : decode cX12_readLine 37 = .ok (.aload_n 0, 1) := by decide +kernel
theorem dX12_readLine_38 : decode cX12_readLine 38 = .ok (.ldc 185, 2) := by decide +kernel
theorem dX12_readLine_40 : decode cX12_readLine 40 = .ok (.invokevirtual 90, 3) := by decide +kernel
theorem dX12_readLine_43 : decode cX12_readLine 43 = .ok (.ifCond .eq 7, 3) := by decide +kernel
theorem dX12_readLine_46 : decode cX12_readLine 46 = .ok (.iconst 1, 1) := by decide +kernel
theorem dX12_readLine_47 : decode cX12_readLine 47 = .ok (.goto 4, 3) := by decide +kernel
theorem dX12_readLine_50 : decode cX12_readLine 50 = .ok (.iconst (-1), 1) := by decide +kernel
theorem dX12_readLine_51 : decode cX12_readLine 51 = .ok (.iastore, 1) := by decide +kernel
theorem dX12_readLine_52 : decode cX12_readLine 52 = .ok (.aload_n 0, 1) := by decide +kernel
theorem dX12_readLine_53 : decode cX12_readLine 53 = .ok (.getfield 13, 3) := by decide +kernel
theorem dX12_readLine_56 : decode cX12_readLine 56 = .ok (.iload_n 2, 1) := by decide +kernel
theorem dX12_readLine_57 : decode cX12_readLine 57 = .ok (.iaload, 1) := by decide +kernel
theorem dX12_readLine_58 : decode cX12_readLine 58 = .ok (.ifCond .ge 5, 3) := by decide +kernel
theorem dX12_readLine_61 : decode cX12_readLine 61 = .ok (.iconst 0, 1) := by decide +kernel
theorem dX12_readLine_62 : decode cX12_readLine 62 = .ok (.ireturn, 1) := by decide +kernel
theorem dX12_readLine_63 : decode cX12_readLine 63 = .ok (.aload_n 0, 1) := by decide +kernel
theorem dX12_readLine_64 : decode cX12_readLine 64 = .ok (.getfield 13, 3) := by decide +kernel
theorem dX12_readLine_67 : decode cX12_readLine 67 = .ok (.iload_n 2, 1) := by decide +kernel
theorem dX12_readLine_68 : decode cX12_readLine 68 = .ok (.iconst 1, 1) := by decide +kernel
theorem dX12_readLine_69 : decode cX12_readLine 69 = .ok (.iadd, 1) := by decide +kernel
theorem dX12_readLine_70 : decode cX12_readLine 70 = .ok (.aload_n 0, 1) := by decide +kernel
theorem dX12_readLine_71 : decode cX12_readLine 71 = .ok (.invokevirtual 134, 3) := by decide +kernel
theorem dX12_readLine_74 : decode cX12_readLine 74 = .ok (.iastore, 1) := by decide +kernel
theorem dX12_readLine_75 : decode cX12_readLine 75 = .ok (.aload_n 0, 1) := by decide +kernel
theorem dX12_readLine_76 : decode cX12_readLine 76 = .ok (.getfield 13, 3) := by decide +kernel
theorem dX12_readLine_79 : decode cX12_readLine 79 = .ok (.iload_n 2, 1) := by decide +kernel
theorem dX12_readLine_80 : decode cX12_readLine 80 = .ok (.iconst 1, 1) := by decide +kernel
theorem dX12_readLine_81 : decode cX12_readLine 81 = .ok (.iadd, 1) := by decide +kernel
theorem dX12_readLine_82 : decode cX12_readLine 82 = .ok (.iaload, 1) := by decide +kernel
theorem dX12_readLine_83 : decode cX12_readLine 83 = .ok (.ifCond .ge 5, 3) := by decide +kernel
theorem dX12_readLine_86 : decode cX12_readLine 86 = .ok (.iconst 0, 1) := by decide +kernel
theorem dX12_readLine_87 : decode cX12_readLine 87 = .ok (.ireturn, 1) := by decide +kernel
theorem dX12_readLine_88 : decode cX12_readLine 88 = .ok (.aload_n 0, 1) := by decide +kernel
theorem dX12_readLine_89 : decode cX12_readLine 89 = .ok (.getfield 13, 3) := by decide +kernel
theorem dX12_readLine_92 : decode cX12_readLine 92 = .ok (.iload_n 2, 1) := by decide +kernel
theorem dX12_readLine_93 : decode cX12_readLine 93 = .ok (.iconst 2, 1) := by decide +kernel
theorem dX12_readLine_94 : decode cX12_readLine 94 = .ok (.iadd, 1) := by decide +kernel
theorem dX12_readLine_95 : decode cX12_readLine 95 = .ok (.iconst (-1), 1) := by decide +kernel
theorem dX12_readLine_96 : decode cX12_readLine 96 = .ok (.iastore, 1) := by decide +kernel
theorem dX12_readLine_97 : decode cX12_readLine 97 = .ok (.aload_n 0, 1) := by decide +kernel
theorem dX12_readLine_98 : decode cX12_readLine 98 = .ok (.bipush 42, 2) := by decide +kernel
theorem dX12_readLine_100 : decode cX12_readLine 100 = .ok (.invokevirtual 148, 3) := by decide +kernel
theorem dX12_readLine_103 : decode cX12_readLine 103 = .ok (.ifCond .eq 32, 3) := by decide +kernel
theorem dX12_readLine_106 : decode cX12_readLine 106 = .ok (.aload_n 0, 1) := by decide +kernel
theorem dX12_readLine_107 : decode cX12_readLine 107 = .ok (.invokevirtual 87, 3) := by decide +kernel
theorem dX12_readLine_110 : decode cX12_readLine 110 = .ok (.aload_n 0, 1) := by decide +kernel
theorem dX12_readLine_111 : decode cX12_readLine 111 = .ok (.getfield 13, 3) := by decide +kernel
theorem dX12_readLine_114 : decode cX12_readLine 114 = .ok (.iload_n 2, 1) := by decide +kernel
theorem dX12_readLine_115 : decode cX12_readLine 115 = .ok (.iconst 2, 1) := by decide +kernel
theorem dX12_readLine_116 : decode cX12_readLine 116 = .ok (.iadd, 1) := by decide +kernel
theorem dX12_readLine_117 : decode cX12_readLine 117 = .ok (.aload_n 0, 1) := by decide +kernel
theorem dX12_readLine_118 : decode cX12_readLine 118 = .ok (.invokevirtual 141, 3) := by decide +kernel
theorem dX12_readLine_121 : decode cX12_readLine 121 = .ok (.iastore, 1) := by decide +kernel
theorem dX12_readLine_122 : decode cX12_readLine 122 = .ok (.aload_n 0, 1) := by decide +kernel
theorem dX12_readLine_123 : decode cX12_readLine 123 = .ok (.getfield 13, 3) := by decide +kernel
theorem dX12_readLine_126 : decode cX12_readLine 126 = .ok (.iload_n 2, 1) := by decide +kernel
theorem dX12_readLine_127 : decode cX12_readLine 127 = .ok (.iconst 2, 1) := by decide +kernel
theorem dX12_readLine_128 : decode cX12_readLine 128 = .ok (.iadd, 1) := by decide +kernel
theorem dX12_readLine_129 : decode cX12_readLine 129 = .ok (.iaload, 1) := by decide +kernel
theorem dX12_readLine_130 : decode cX12_readLine 130 = .ok (.ifCond .ge 5, 3) := by decide +kernel
theorem dX12_readLine_133 : decode cX12_readLine 133 = .ok (.iconst 0, 1) := by decide +kernel
theorem dX12_readLine_134 : decode cX12_readLine 134 = .ok (.ireturn, 1) := by decide +kernel
theorem dX12_readLine_135 : decode cX12_readLine 135 = .ok (.aload_n 0, 1) := by decide +kernel
theorem dX12_readLine_136 : decode cX12_readLine 136 = .ok (.getfield 13, 3) := by decide +kernel
theorem dX12_readLine_139 : decode cX12_readLine 139 = .ok (.iload_n 2, 1) := by decide +kernel
theorem dX12_readLine_140 : decode cX12_readLine 140 = .ok (.iconst 3, 1) := by decide +kernel
theorem dX12_readLine_141 : decode cX12_readLine 141 = .ok (.iadd, 1) := by decide +kernel
theorem dX12_readLine_142 : decode cX12_readLine 142 = .ok (.aload_n 0, 1) := by decide +kernel
theorem dX12_readLine_143 : decode cX12_readLine 143 = .ok (.getfield 98, 3) := by decide +kernel
theorem dX12_readLine_146 : decode cX12_readLine 146 = .ok (.iastore, 1) := by decide +kernel
theorem dX12_readLine_147 : decode cX12_readLine 147 = .ok (.aload_n 0, 1) := by decide +kernel
theorem dX12_readLine_148 : decode cX12_readLine 148 = .ok (.iconst 0, 1) := by decide +kernel
theorem dX12_readLine_149 : decode cX12_readLine 149 = .ok (.putfield 152, 3) := by decide +kernel
theorem dX12_readLine_152 : decode cX12_readLine 152 = .ok (.aload_n 0, 1) := by decide +kernel
theorem dX12_readLine_153 : decode cX12_readLine 153 = .ok (.ldc 187, 2) := by decide +kernel
theorem dX12_readLine_155 : decode cX12_readLine 155 = .ok (.invokevirtual 160, 3) := by decide +kernel
theorem dX12_readLine_158 : decode cX12_readLine 158 = .ok (.ifCond .eq 12, 3) := by decide +kernel
theorem dX12_readLine_161 : decode cX12_readLine 161 = .ok (.aload_n 0, 1) := by decide +kernel
theorem dX12_readLine_162 : decode cX12_readLine 162 = .ok (.invokevirtual 155, 3) := by decide +kernel
theorem dX12_readLine_165 : decode cX12_readLine 165 = .ok (.ifCond .ne 5, 3) := by decide +kernel
theorem dX12_readLine_168 : decode cX12_readLine 168 = .ok (.iconst 0, 1) := by decide +kernel
theorem dX12_readLine_169 : decode cX12_readLine 169 = .ok (.ireturn, 1) := by decide +kernel
theorem dX12_readLine_170 : decode cX12_readLine 170 = .ok (.aload_n 0, 1) := by decide +kernel
theorem dX12_readLine_171 : decode cX12_readLine 171 = .ok (.getfield 13, 3) := by decide +kernel
theorem dX12_readLine_174 : decode cX12_readLine 174 = .ok (.iload_n 2, 1) := by decide +kernel
theorem dX12_readLine_175 : decode cX12_readLine 175 = .ok (.iconst 4, 1) := by decide +kernel
theorem dX12_readLine_176 : decode cX12_readLine 176 = .ok (.iadd, 1) := by decide +kernel
theorem dX12_readLine_177 : decode cX12_readLine 177 = .ok (.aload_n 0, 1) := by decide +kernel
theorem dX12_readLine_178 : decode cX12_readLine 178 = .ok (.getfield 98, 3) := by decide +kernel
theorem dX12_readLine_181 : decode cX12_readLine 181 = .ok (.iastore, 1) := by decide +kernel
theorem dX12_readLine_182 : decode cX12_readLine 182 = .ok (.iconst 1, 1) := by decide +kernel
theorem dX12_readLine_183 : decode cX12_readLine 183 = .ok (.ireturn, 1) := by decide +kernel
theorem dX12_readAll_0 : decode cX12_readAll 0 = .ok (.aload_n 0, 1) := by decide +kernel
theorem dX12_readAll_1 : decode cX12_readAll 1 = .ok (.invokevirtual 75, 3) := by decide +kernel
theorem dX12_readAll_4 : decode cX12_readAll 4 = .ok (.aload_n 0, 1) := by decide +kernel
theorem dX12_readAll_5 : decode cX12_readAll 5 = .ok (.getfield 62, 3) := by decide +kernel
theorem dX12_readAll_8 : decode cX12_readAll 8 = .ok (.aload_n 0, 1) := by decide +kernel
theorem dX12_readAll_9 : decode cX12_readAll 9 = .ok (.getfield 65, 3) := by decide +kernel
theorem dX12_readAll_12 : decode cX12_readAll 12 = .ok (.if_icmp .ne 5, 3) := by decide +kernel
theorem dX12_readAll_15 : decode cX12_readAll 15 = .ok (.iconst 0, 1) := by decide +kernel
theorem dX12_readAll_16 : decode cX12_readAll 16 = .ok (.ireturn, 1) := by decide +kernel
theorem dX12_readAll_17 : decode cX12_readAll 17 = .ok (.iconst 0, 1) := by decide +kernel
theorem dX12_readAll_18 : decode cX12_readAll 18 = .ok (.istore_n 1, 1) := by decide +kernel
theorem dX12_readAll_19 : decode cX12_readAll 19 = .ok (.aload_n 0, 1) := by decide +kernel
theorem dX12_readAll_20 : decode cX12_readAll 20 = .ok (.iload_n 1, 1) := by decide +kernel
theorem dX12_readAll_21 : decode cX12_readAll 21 = .ok (.invokevirtual 189, 3) := by decide +kernel
theorem dX12_readAll_24 : decode cX12_readAll 24 = .ok (.ifCond .ne 5, 3) := by decide +kernel
theorem dX12_readAll_27 : decode cX12_readAll 27 = .ok (.iconst (-1), 1) := by decide +kernel
theorem dX12_readAll_28 : decode cX12_readAll 28 = .ok (.ireturn, 1) := by decide +kernel
theorem dX12_readAll_29 : decode cX12_readAll 29 = .ok (.aload_n 0, 1) := by decide +kernel
theorem dX12_readAll_30 : decode cX12_readAll 30 = .ok (.invokevirtual 75, 3) := by decide +kernel
theorem dX12_readAll_33 : decode cX12_readAll 33 = .ok (.aload_n 0, 1) := by decide +kernel
theorem dX12_readAll_34 : decode cX12_readAll 34 = .ok (.getfield 62, 3) := by decide +kernel
theorem dX12_readAll_37 : decode cX12_readAll 37 = .ok (.aload_n 0, 1) := by decide +kernel
theorem dX12_readAll_38 : decode cX12_readAll 38 = .ok (.getfield 65, 3) := by decide +kernel
theorem dX12_readAll_41 : decode cX12_readAll 41 = .ok (.if_icmp .ne 7, 3) := by decide +kernel
theorem dX12_readAll_44 : decode cX12_readAll 44 = .ok (.iload_n 1, 1) := by decide +kernel
theorem dX12_readAll_45 : decode cX12_readAll 45 = .ok (.iconst 1, 1) := by decide +kernel
theorem dX12_readAll_46 : decode cX12_readAll 46 = .ok (.iadd, 1) := by decide +kernel
theorem dX12_readAll_47 : decode cX12_readAll 47 = .ok (.ireturn, 1) := by decide +kernel
theorem dX12_readAll_48 : decode cX12_readAll 48 = .ok (.aload_n 0, 1) := by decide +kernel
theorem dX12_readAll_49 : decode cX12_readAll 49 = .ok (.bipush 59, 2) := by decide +kernel
theorem dX12_readAll_51 : decode cX12_readAll 51 = .ok (.bipush 59, 2) := by decide +kernel
theorem dX12_readAll_53 : decode cX12_readAll 53 = .ok (.invokevirtual 68, 3) := by decide +kernel
theorem dX12_readAll_56 : decode cX12_readAll 56 = .ok (.ifCond .ne 5, 3) := by decide +kernel
theorem dX12_readAll_59 : decode cX12_readAll 59 = .ok (.iconst (-1), 1) := by decide +kernel
theorem dX12_readAll_60 : decode cX12_readAll 60 = .ok (.ireturn, 1) := by decide +kernel
theorem dX12_readAll_61 : decode cX12_readAll 61 = .ok (.aload_n 0, 1) := by decide +kernel
theorem dX12_readAll_62 : decode cX12_readAll 62 = .ok (.dup, 1) := by decide +kernel
theorem dX12_readAll_63 : decode cX12_readAll 63 = .ok (.getfield 62, 3) := by decide +kernel
theorem dX12_readAll_66 : decode cX12_readAll 66 = .ok (.iconst 1, 1) := by decide +kernel
theorem dX12_readAll_67 : decode cX12_readAll 67 = .ok (.iadd, 1) := by decide +kernel
theorem dX12_readAll_68 : decode cX12_readAll 68 = .ok (.putfield 62, 3) := by decide +kernel
theorem dX12_readAll_71 : decode cX12_readAll 71 = .ok (.iinc 1 1, 3) := by decide +kernel
theorem dX12_readAll_74 : decode cX12_readAll 74 = .ok (.goto (-55), 3) := by decide +kernel
theorem dX12_keeps_0 : decode cX12_keeps 0 = .ok (.aload_n 0, 1) := by decide +kernel
theorem dX12_keeps_1 : decode cX12_keeps 1 = .ok (.iconst 0, 1) := by decide +kernel
theorem dX12_keeps_2 : decode cX12_keeps 2 = .ok (.putfield 3, 3) := by decide +kernel
theorem dX12_keeps_5 : decode cX12_keeps 5 = .ok (.aload_n 0, 1) := by decide +kernel
theorem dX12_keeps_6 : decode cX12_keeps 6 = .ok (.aload_n 0, 1) := by decide +kernel
theorem dX12_keeps_7 : decode cX12_keeps 7 = .ok (.getfield 59, 3) := by decide +kernel
theorem dX12_keeps_10 : decode cX12_keeps 10 = .ok (.putfield 65, 3) := by decide +kernel
theorem dX12_keeps_13 : decode cX12_keeps 13 = .ok (.aload_n 0, 1) := by decide +kernel
theorem dX12_keeps_14 : decode cX12_keeps 14 = .ok (.iconst 0, 1) := by decide +kernel
theorem dX12_keeps_15 : decode cX12_keeps 15 = .ok (.putfield 59, 3) := by decide +kernel
theorem dX12_keeps_18 : decode cX12_keeps 18 = .ok (.aload_n 0, 1) := by decide +kernel
theorem dX12_keeps_19 : decode cX12_keeps 19 = .ok (.iconst 0, 1) := by decide +kernel
theorem dX12_keeps_20 : decode cX12_keeps 20 = .ok (.putfield 62, 3) := by decide +kernel
theorem dX12_keeps_23 : decode cX12_keeps 23 = .ok (.aload_n 0, 1) := by decide +kernel
theorem dX12_keeps_24 : decode cX12_keeps 24 = .ok (.iconst 0, 1) := by decide +kernel
theorem dX12_keeps_25 : decode cX12_keeps 25 = .ok (.putfield 98, 3) := by decide +kernel
theorem dX12_keeps_28 : decode cX12_keeps 28 = .ok (.aload_n 0, 1) := by decide +kernel
theorem dX12_keeps_29 : decode cX12_keeps 29 = .ok (.iload_n 1, 1) := by decide +kernel
theorem dX12_keeps_30 : decode cX12_keeps 30 = .ok (.putfield 101, 3) := by decide +kernel
theorem dX12_keeps_33 : decode cX12_keeps 33 = .ok (.aload_n 0, 1) := by decide +kernel
theorem dX12_keeps_34 : decode cX12_keeps 34 = .ok (.invokevirtual 192, 3) := by decide +kernel
theorem dX12_keeps_37 : decode cX12_keeps 37 = .ok (.istore 5, 2) := by decide +kernel
theorem dX12_keeps_39 : decode cX12_keeps 39 = .ok (.aload_n 0, 1) := by decide +kernel
theorem dX12_keeps_40 : decode cX12_keeps 40 = .ok (.iload 5, 2) := by decide +kernel
theorem dX12_keeps_42 : decode cX12_keeps 42 = .ok (.ifCond .ge 10, 3) := by decide +kernel
theorem dX12_keeps_45 : decode cX12_keeps 45 = .ok (.aload_n 0, 1) := by decide +kernel
theorem dX12_keeps_46 : decode cX12_keeps 46 = .ok (.getfield 72, 3) := by decide +kernel
theorem dX12_keeps_49 : decode cX12_keeps 49 = .ok (.goto 4, 3) := by decide +kernel
theorem dX12_keeps_52 : decode cX12_keeps 52 = .ok (.iconst (-1), 1) := by decide +kernel
theorem dX12_keeps_53 : decode cX12_keeps 53 = .ok (.putfield 24, 3) := by decide +kernel
theorem dX12_keeps_56 : decode cX12_keeps 56 = .ok (.aload_n 0, 1) := by decide +kernel
theorem dX12_keeps_57 : decode cX12_keeps 57 = .ok (.iload 5, 2) := by decide +kernel
theorem dX12_keeps_59 : decode cX12_keeps 59 = .ok (.ifCond .ge 7, 3) := by decide +kernel
theorem dX12_keeps_62 : decode cX12_keeps 62 = .ok (.iconst 1, 1) := by decide +kernel
theorem dX12_keeps_63 : decode cX12_keeps 63 = .ok (.goto 4, 3) := by decide +kernel
theorem dX12_keeps_66 : decode cX12_keeps 66 = .ok (.iconst 0, 1) := by decide +kernel
theorem dX12_keeps_67 : decode cX12_keeps 67 = .ok (.iconst 1, 1) := by decide +kernel
theorem dX12_keeps_68 : decode cX12_keeps 68 = .ok (.invokevirtual 195, 3) := by decide +kernel
theorem dX12_keeps_71 : decode cX12_keeps 71 = .ok (.ifCond .ne 27, 3) := by decide +kernel
theorem dX12_keeps_74 : decode cX12_keeps 74 = .ok (.aload_n 0, 1) := by decide +kernel
theorem dX12_keeps_75 : decode cX12_keeps 75 = .ok (.aload_n 0, 1) := by decide +kernel
theorem dX12_keeps_76 : decode cX12_keeps 76 = .ok (.getfield 13, 3) := by decide +kernel
theorem dX12_keeps_79 : decode cX12_keeps 79 = .ok (.iload_n 2, 1) := by decide +kernel
theorem dX12_keeps_80 : decode cX12_keeps 80 = .ok (.iaload, 1) := by decide +kernel
theorem dX12_keeps_81 : decode cX12_keeps 81 = .ok (.iload 4, 2) := by decide +kernel
theorem dX12_keeps_83 : decode cX12_keeps 83 = .ok (.if_icmp .ne 7, 3) := by decide +kernel
theorem dX12_keeps_86 : decode cX12_keeps 86 = .ok (.iconst 1, 1) := by decide +kernel
theorem dX12_keeps_87 : decode cX12_keeps 87 = .ok (.goto 4, 3) := by decide +kernel
theorem dX12_keeps_90 : decode cX12_keeps 90 = .ok (.iconst 0, 1) := by decide +kernel
theorem dX12_keeps_91 : decode cX12_keeps 91 = .ok (.iconst 2, 1) := by decide +kernel
theorem dX12_keeps_92 : decode cX12_keeps 92 = .ok (.invokevirtual 195, 3) := by decide +kernel
theorem dX12_keeps_95 : decode cX12_keeps 95 = .ok (.ifCond .eq 5, 3) := by decide +kernel
theorem dX12_keeps_98 : decode cX12_keeps 98 = .ok (.iconst 0, 1) := by decide +kernel
theorem dX12_keeps_99 : decode cX12_keeps 99 = .ok (.ireturn, 1) := by decide +kernel
theorem dX12_keeps_100 : decode cX12_keeps 100 = .ok (.iload_n 3, 1) := by decide +kernel
theorem dX12_keeps_101 : decode cX12_keeps 101 = .ok (.aload_n 0, 1) := by decide +kernel
theorem dX12_keeps_102 : decode cX12_keeps 102 = .ok (.getfield 13, 3) := by decide +kernel
theorem dX12_keeps_105 : decode cX12_keeps 105 = .ok (.iload_n 2, 1) := by decide +kernel
theorem dX12_keeps_106 : decode cX12_keeps 106 = .ok (.iaload, 1) := by decide +kernel
theorem dX12_keeps_107 : decode cX12_keeps 107 = .ok (.iadd, 1) := by decide +kernel
theorem dX12_keeps_108 : decode cX12_keeps 108 = .ok (.istore 6, 2) := by decide +kernel
theorem dX12_keeps_110 : decode cX12_keeps 110 = .ok (.iconst 0, 1) := by decide +kernel
theorem dX12_keeps_111 : decode cX12_keeps 111 = .ok (.istore 7, 2) := by decide +kernel
theorem dX12_keeps_113 : decode cX12_keeps 113 = .ok (.iload 7, 2) := by decide +kernel
theorem dX12_keeps_115 : decode cX12_keeps 115 = .ok (.sipush 851, 3) := by decide +kernel
theorem dX12_keeps_118 : decode cX12_keeps 118 = .ok (.if_icmp .ge 35, 3) := by decide +kernel
theorem dX12_keeps_121 : decode cX12_keeps 121 = .ok (.aload_n 0, 1) := by decide +kernel
theorem dX12_keeps_122 : decode cX12_keeps 122 = .ok (.getfield 13, 3) := by decide +kernel
theorem dX12_keeps_125 : decode cX12_keeps 125 = .ok (.iload 6, 2) := by decide +kernel
theorem dX12_keeps_127 : decode cX12_keeps 127 = .ok (.invokestatic 94, 3) := by decide +kernel
theorem dX12_keeps_130 : decode cX12_keeps 130 = .ok (.iload 7, 2) := by decide +kernel
theorem dX12_keeps_132 : decode cX12_keeps 132 = .ok (.iadd, 1) := by decide +kernel
theorem dX12_keeps_133 : decode cX12_keeps 133 = .ok (.aload_n 0, 1) := by decide +kernel
theorem dX12_keeps_134 : decode cX12_keeps 134 = .ok (.getfield 13, 3) := by decide +kernel
theorem dX12_keeps_137 : decode cX12_keeps 137 = .ok (.bipush 6, 2) := by decide +kernel
theorem dX12_keeps_139 : decode cX12_keeps 139 = .ok (.invokestatic 94, 3) := by decide +kernel
theorem dX12_keeps_142 : decode cX12_keeps 142 = .ok (.iload 7, 2) := by decide +kernel
theorem dX12_keeps_144 : decode cX12_keeps 144 = .ok (.iadd, 1) := by decide +kernel
theorem dX12_keeps_145 : decode cX12_keeps 145 = .ok (.iaload, 1) := by decide +kernel
theorem dX12_keeps_146 : decode cX12_keeps 146 = .ok (.iastore, 1) := by decide +kernel
theorem dX12_keeps_147 : decode cX12_keeps 147 = .ok (.iinc 7 1, 3) := by decide +kernel
theorem dX12_keeps_150 : decode cX12_keeps 150 = .ok (.goto (-37), 3) := by decide +kernel
theorem dX12_keeps_153 : decode cX12_keeps 153 = .ok (.aload_n 0, 1) := by decide +kernel
theorem dX12_keeps_154 : decode cX12_keeps 154 = .ok (.getfield 13, 3) := by decide +kernel
theorem dX12_keeps_157 : decode cX12_keeps 157 = .ok (.iload 6, 2) := by decide +kernel
theorem dX12_keeps_159 : decode cX12_keeps 159 = .ok (.invokestatic 94, 3) := by decide +kernel
theorem dX12_keeps_162 : decode cX12_keeps 162 = .ok (.iload 5, 2) := by decide +kernel
theorem dX12_keeps_164 : decode cX12_keeps 164 = .ok (.iastore, 1) := by decide +kernel
theorem dX12_keeps_165 : decode cX12_keeps 165 = .ok (.aload_n 0, 1) := by decide +kernel
theorem dX12_keeps_166 : decode cX12_keeps 166 = .ok (.getfield 13, 3) := by decide +kernel
theorem dX12_keeps_169 : decode cX12_keeps 169 = .ok (.iload_n 2, 1) := by decide +kernel
theorem dX12_keeps_170 : decode cX12_keeps 170 = .ok (.dup2, 1) := by decide +kernel
theorem dX12_keeps_171 : decode cX12_keeps 171 = .ok (.iaload, 1) := by decide +kernel
theorem dX12_keeps_172 : decode cX12_keeps 172 = .ok (.iconst 1, 1) := by decide +kernel
theorem dX12_keeps_173 : decode cX12_keeps 173 = .ok (.iadd, 1) := by decide +kernel
theorem dX12_keeps_174 : decode cX12_keeps 174 = .ok (.iastore, 1) := by decide +kernel
theorem dX12_keeps_175 : decode cX12_keeps 175 = .ok (.aload_n 0, 1) := by decide +kernel
theorem dX12_keeps_176 : decode cX12_keeps 176 = .ok (.getfield 13, 3) := by decide +kernel
theorem dX12_keeps_179 : decode cX12_keeps 179 = .ok (.iload_n 2, 1) := by decide +kernel
theorem dX12_keeps_180 : decode cX12_keeps 180 = .ok (.iaload, 1) := by decide +kernel
theorem dX12_keeps_181 : decode cX12_keeps 181 = .ok (.iconst 1, 1) := by decide +kernel
theorem dX12_keeps_182 : decode cX12_keeps 182 = .ok (.isub, 1) := by decide +kernel
theorem dX12_keeps_183 : decode cX12_keeps 183 = .ok (.ireturn, 1) := by decide +kernel
theorem dX12_law_0 : decode cX12_law 0 = .ok (.aload_n 0, 1) := by decide +kernel
theorem dX12_law_1 : decode cX12_law 1 = .ok (.iconst 0, 1) := by decide +kernel
theorem dX12_law_2 : decode cX12_law 2 = .ok (.iconst 2, 1) := by decide +kernel
theorem dX12_law_3 : decode cX12_law 3 = .ok (.iconst 0, 1) := by decide +kernel
theorem dX12_law_4 : decode cX12_law 4 = .ok (.iconst 3, 1) := by decide +kernel
theorem dX12_law_5 : decode cX12_law 5 = .ok (.invokevirtual 199, 3) := by decide +kernel
theorem dX12_law_8 : decode cX12_law 8 = .ok (.ireturn, 1) := by decide +kernel
theorem dX12_rule_0 : decode cX12_rule 0 = .ok (.aload_n 0, 1) := by decide +kernel
theorem dX12_rule_1 : decode cX12_rule 1 = .ok (.iconst 1, 1) := by decide +kernel
theorem dX12_rule_2 : decode cX12_rule 2 = .ok (.iconst 3, 1) := by decide +kernel
theorem dX12_rule_3 : decode cX12_rule 3 = .ok (.iconst 3, 1) := by decide +kernel
theorem dX12_rule_4 : decode cX12_rule 4 = .ok (.iconst 3, 1) := by decide +kernel
theorem dX12_rule_5 : decode cX12_rule 5 = .ok (.invokevirtual 199, 3) := by decide +kernel
theorem dX12_rule_8 : decode cX12_rule 8 = .ok (.ireturn, 1) := by decide +kernel
theorem dX12_holdsLine_0 : decode cX12_holdsLine 0 = .ok (.iconst 0, 1) := by decide +kernel
theorem dX12_holdsLine_1 : decode cX12_holdsLine 1 = .ok (.istore_n 3, 1) := by decide +kernel
theorem dX12_holdsLine_2 : decode cX12_holdsLine 2 = .ok (.aload_n 0, 1) := by decide +kernel
theorem dX12_holdsLine_3 : decode cX12_holdsLine 3 = .ok (.getfield 13, 3) := by decide +kernel
theorem dX12_holdsLine_6 : decode cX12_holdsLine 6 = .ok (.iload_n 2, 1) := by decide +kernel
theorem dX12_holdsLine_7 : decode cX12_holdsLine 7 = .ok (.iconst 3, 1) := by decide +kernel
theorem dX12_holdsLine_8 : decode cX12_holdsLine 8 = .ok (.iadd, 1) := by decide +kernel
theorem dX12_holdsLine_9 : decode cX12_holdsLine 9 = .ok (.iaload, 1) := by decide +kernel
theorem dX12_holdsLine_10 : decode cX12_holdsLine 10 = .ok (.istore 4, 2) := by decide +kernel
theorem dX12_holdsLine_12 : decode cX12_holdsLine 12 = .ok (.iload 4, 2) := by decide +kernel
theorem dX12_holdsLine_14 : decode cX12_holdsLine 14 = .ok (.aload_n 0, 1) := by decide +kernel
theorem dX12_holdsLine_15 : decode cX12_holdsLine 15 = .ok (.getfield 13, 3) := by decide +kernel
theorem dX12_holdsLine_18 : decode cX12_holdsLine 18 = .ok (.iload_n 2, 1) := by decide +kernel
theorem dX12_holdsLine_19 : decode cX12_holdsLine 19 = .ok (.iconst 4, 1) := by decide +kernel
theorem dX12_holdsLine_20 : decode cX12_holdsLine 20 = .ok (.iadd, 1) := by decide +kernel
theorem dX12_holdsLine_21 : decode cX12_holdsLine 21 = .ok (.iaload, 1) := by decide +kernel
theorem dX12_holdsLine_22 : decode cX12_holdsLine 22 = .ok (.if_icmp .ge 248, 3) := by decide +kernel
theorem dX12_holdsLine_25 : decode cX12_holdsLine 25 = .ok (.aload_n 0, 1) := by decide +kernel
theorem dX12_holdsLine_26 : decode cX12_holdsLine 26 = .ok (.getfield 13, 3) := by decide +kernel
theorem dX12_holdsLine_29 : decode cX12_holdsLine 29 = .ok (.iload_n 1, 1) := by decide +kernel
theorem dX12_holdsLine_30 : decode cX12_holdsLine 30 = .ok (.invokestatic 94, 3) := by decide +kernel
theorem dX12_holdsLine_33 : decode cX12_holdsLine 33 = .ok (.bipush 51, 2) := by decide +kernel
theorem dX12_holdsLine_35 : decode cX12_holdsLine 35 = .ok (.iadd, 1) := by decide +kernel
theorem dX12_holdsLine_36 : decode cX12_holdsLine 36 = .ok (.iconst 2, 1) := by decide +kernel
theorem dX12_holdsLine_37 : decode cX12_holdsLine 37 = .ok (.iload 4, 2) := by decide +kernel
theorem dX12_holdsLine_39 : decode cX12_holdsLine 39 = .ok (.imul, 1) := by decide +kernel
theorem dX12_holdsLine_40 : decode cX12_holdsLine 40 = .ok (.iadd, 1) := by decide +kernel
theorem dX12_holdsLine_41 : decode cX12_holdsLine 41 = .ok (.iaload, 1) := by decide +kernel
theorem dX12_holdsLine_42 : decode cX12_holdsLine 42 = .ok (.istore 5, 2) := by decide +kernel
theorem dX12_holdsLine_44 : decode cX12_holdsLine 44 = .ok (.iload 5, 2) := by decide +kernel
theorem dX12_holdsLine_46 : decode cX12_holdsLine 46 = .ok (.bipush 10, 2) := by decide +kernel
theorem dX12_holdsLine_48 : decode cX12_holdsLine 48 = .ok (.if_icmp .gt 51, 3) := by decide +kernel
theorem dX12_holdsLine_51 : decode cX12_holdsLine 51 = .ok (.aload_n 0, 1) := by decide +kernel
theorem dX12_holdsLine_52 : decode cX12_holdsLine 52 = .ok (.getfield 33, 3) := by decide +kernel
theorem dX12_holdsLine_55 : decode cX12_holdsLine 55 = .ok (.iload_n 3, 1) := by decide +kernel
theorem dX12_holdsLine_56 : decode cX12_holdsLine 56 = .ok (.iload 5, 2) := by decide +kernel
theorem dX12_holdsLine_58 : decode cX12_holdsLine 58 = .ok (.bipush 10, 2) := by decide +kernel
theorem dX12_holdsLine_60 : decode cX12_holdsLine 60 = .ok (.if_icmp .ne 25, 3) := by decide +kernel
theorem dX12_holdsLine_63 : decode cX12_holdsLine 63 = .ok (.aload_n 0, 1) := by decide +kernel
theorem dX12_holdsLine_64 : decode cX12_holdsLine 64 = .ok (.getfield 13, 3) := by decide +kernel
theorem dX12_holdsLine_67 : decode cX12_holdsLine 67 = .ok (.iload_n 1, 1) := by decide +kernel
theorem dX12_holdsLine_68 : decode cX12_holdsLine 68 = .ok (.invokestatic 94, 3) := by decide +kernel
theorem dX12_holdsLine_71 : decode cX12_holdsLine 71 = .ok (.bipush 51, 2) := by decide +kernel
theorem dX12_holdsLine_73 : decode cX12_holdsLine 73 = .ok (.iadd, 1) := by decide +kernel
theorem dX12_holdsLine_74 : decode cX12_holdsLine 74 = .ok (.iconst 2, 1) := by decide +kernel
theorem dX12_holdsLine_75 : decode cX12_holdsLine 75 = .ok (.iload 4, 2) := by decide +kernel
theorem dX12_holdsLine_77 : decode cX12_holdsLine 77 = .ok (.imul, 1) := by decide +kernel
theorem dX12_holdsLine_78 : decode cX12_holdsLine 78 = .ok (.iadd, 1) := by decide +kernel
theorem dX12_holdsLine_79 : decode cX12_holdsLine 79 = .ok (.iconst 1, 1) := by decide +kernel
theorem dX12_holdsLine_80 : decode cX12_holdsLine 80 = .ok (.iadd, 1) := by decide +kernel
theorem dX12_holdsLine_81 : decode cX12_holdsLine 81 = .ok (.iaload, 1) := by decide +kernel
theorem dX12_holdsLine_82 : decode cX12_holdsLine 82 = .ok (.goto 10, 3) := by decide +kernel
theorem dX12_holdsLine_85 : decode cX12_holdsLine 85 = .ok (.aload_n 0, 1) := by decide +kernel
theorem dX12_holdsLine_86 : decode cX12_holdsLine 86 = .ok (.getfield 30, 3) := by decide +kernel
theorem dX12_holdsLine_89 : decode cX12_holdsLine 89 = .ok (.iload 5, 2) := by decide +kernel
theorem dX12_holdsLine_91 : decode cX12_holdsLine 91 = .ok (.iaload, 1) := by decide +kernel
theorem dX12_holdsLine_92 : decode cX12_holdsLine 92 = .ok (.iastore, 1) := by decide +kernel
theorem dX12_holdsLine_93 : decode cX12_holdsLine 93 = .ok (.iinc 3 1, 3) := by decide +kernel
theorem dX12_holdsLine_96 : decode cX12_holdsLine 96 = .ok (.goto 168, 3) := by decide +kernel
theorem dX12_holdsLine_99 : decode cX12_holdsLine 99 = .ok (.iload 5, 2) := by decide +kernel
theorem dX12_holdsLine_101 : decode cX12_holdsLine 101 = .ok (.bipush 14, 2) := by decide +kernel
theorem dX12_holdsLine_103 : decode cX12_holdsLine 103 = .ok (.if_icmp .ne 24, 3) := by decide +kernel
theorem dX12_holdsLine_106 : decode cX12_holdsLine 106 = .ok (.aload_n 0, 1) := by decide +kernel
theorem dX12_holdsLine_107 : decode cX12_holdsLine 107 = .ok (.getfield 33, 3) := by decide +kernel
theorem dX12_holdsLine_110 : decode cX12_holdsLine 110 = .ok (.iload_n 3, 1) := by decide +kernel
theorem dX12_holdsLine_111 : decode cX12_holdsLine 111 = .ok (.iconst 1, 1) := by decide +kernel
theorem dX12_holdsLine_112 : decode cX12_holdsLine 112 = .ok (.isub, 1) := by decide +kernel
theorem dX12_holdsLine_113 : decode cX12_holdsLine 113 = .ok (.iconst 1, 1) := by decide +kernel
theorem dX12_holdsLine_114 : decode cX12_holdsLine 114 = .ok (.aload_n 0, 1) := by decide +kernel
theorem dX12_holdsLine_115 : decode cX12_holdsLine 115 = .ok (.getfield 33, 3) := by decide +kernel
theorem dX12_holdsLine_118 : decode cX12_holdsLine 118 = .ok (.iload_n 3, 1) := by decide +kernel
theorem dX12_holdsLine_119 : decode cX12_holdsLine 119 = .ok (.iconst 1, 1) := by decide +kernel
theorem dX12_holdsLine_120 : decode cX12_holdsLine 120 = .ok (.isub, 1) := by decide +kernel
theorem dX12_holdsLine_121 : decode cX12_holdsLine 121 = .ok (.iaload, 1) := by decide +kernel
theorem dX12_holdsLine_122 : decode cX12_holdsLine 122 = .ok (.isub, 1) := by decide +kernel
theorem dX12_holdsLine_123 : decode cX12_holdsLine 123 = .ok (.iastore, 1) := by decide +kernel
theorem dX12_holdsLine_124 : decode cX12_holdsLine 124 = .ok (.goto 140, 3) := by decide +kernel
theorem dX12_holdsLine_127 : decode cX12_holdsLine 127 = .ok (.iinc 3 (-1), 3) := by decide +kernel
theorem dX12_holdsLine_130 : decode cX12_holdsLine 130 = .ok (.aload_n 0, 1) := by decide +kernel
theorem dX12_holdsLine_131 : decode cX12_holdsLine 131 = .ok (.getfield 33, 3) := by decide +kernel
theorem dX12_holdsLine_134 : decode cX12_holdsLine 134 = .ok (.iload_n 3, 1) := by decide +kernel
theorem dX12_holdsLine_135 : decode cX12_holdsLine 135 = .ok (.iconst 1, 1) := by decide +kernel
theorem dX12_holdsLine_136 : decode cX12_holdsLine 136 = .ok (.isub, 1) := by decide +kernel
theorem dX12_holdsLine_137 : decode cX12_holdsLine 137 = .ok (.iaload, 1) := by decide +kernel
theorem dX12_holdsLine_138 : decode cX12_holdsLine 138 = .ok (.istore 6, 2) := by decide +kernel
theorem dX12_holdsLine_140 : decode cX12_holdsLine 140 = .ok (.aload_n 0, 1) := by decide +kernel
theorem dX12_holdsLine_141 : decode cX12_holdsLine 141 = .ok (.getfield 33, 3) := by decide +kernel
theorem dX12_holdsLine_144 : decode cX12_holdsLine 144 = .ok (.iload_n 3, 1) := by decide +kernel
theorem dX12_holdsLine_145 : decode cX12_holdsLine 145 = .ok (.iaload, 1) := by decide +kernel
theorem dX12_holdsLine_146 : decode cX12_holdsLine 146 = .ok (.istore 7, 2) := by decide +kernel
theorem dX12_holdsLine_148 : decode cX12_holdsLine 148 = .ok (.iload 5, 2) := by decide +kernel
theorem dX12_holdsLine_150 : decode cX12_holdsLine 150 = .ok (.bipush 12, 2) := by decide +kernel
theorem dX12_holdsLine_152 : decode cX12_holdsLine 152 = .ok (.if_icmp .ne 18, 3) := by decide +kernel
theorem dX12_holdsLine_155 : decode cX12_holdsLine 155 = .ok (.iload 6, 2) := by decide +kernel
theorem dX12_holdsLine_157 : decode cX12_holdsLine 157 = .ok (.iload 7, 2) := by decide +kernel
theorem dX12_holdsLine_159 : decode cX12_holdsLine 159 = .ok (.if_icmp .ge 7, 3) := by decide +kernel
theorem dX12_holdsLine_162 : decode cX12_holdsLine 162 = .ok (.iconst 1, 1) := by decide +kernel
theorem dX12_holdsLine_163 : decode cX12_holdsLine 163 = .ok (.goto 66, 3) := by decide +kernel
theorem dX12_holdsLine_166 : decode cX12_holdsLine 166 = .ok (.iconst 0, 1) := by decide +kernel
theorem dX12_holdsLine_167 : decode cX12_holdsLine 167 = .ok (.goto 62, 3) := by decide +kernel
theorem dX12_holdsLine_170 : decode cX12_holdsLine 170 = .ok (.iload 5, 2) := by decide +kernel
theorem dX12_holdsLine_172 : decode cX12_holdsLine 172 = .ok (.bipush 13, 2) := by decide +kernel
theorem dX12_holdsLine_174 : decode cX12_holdsLine 174 = .ok (.if_icmp .ne 18, 3) := by decide +kernel
theorem dX12_holdsLine_177 : decode cX12_holdsLine 177 = .ok (.iload 6, 2) := by decide +kernel
theorem dX12_holdsLine_179 : decode cX12_holdsLine 179 = .ok (.iload 7, 2) := by decide +kernel
theorem dX12_holdsLine_181 : decode cX12_holdsLine 181 = .ok (.if_icmp .le 7, 3) := by decide +kernel
theorem dX12_holdsLine_184 : decode cX12_holdsLine 184 = .ok (.iconst 1, 1) := by decide +kernel
theorem dX12_holdsLine_185 : decode cX12_holdsLine 185 = .ok (.goto 44, 3) := by decide +kernel
theorem dX12_holdsLine_188 : decode cX12_holdsLine 188 = .ok (.iconst 0, 1) := by decide +kernel
theorem dX12_holdsLine_189 : decode cX12_holdsLine 189 = .ok (.goto 40, 3) := by decide +kernel
theorem dX12_holdsLine_192 : decode cX12_holdsLine 192 = .ok (.iload 5, 2) := by decide +kernel
theorem dX12_holdsLine_194 : decode cX12_holdsLine 194 = .ok (.bipush 15, 2) := by decide +kernel
theorem dX12_holdsLine_196 : decode cX12_holdsLine 196 = .ok (.if_icmp .ne 20, 3) := by decide +kernel
theorem dX12_holdsLine_199 : decode cX12_holdsLine 199 = .ok (.iload 6, 2) := by decide +kernel
theorem dX12_holdsLine_201 : decode cX12_holdsLine 201 = .ok (.iload 7, 2) := by decide +kernel
theorem dX12_holdsLine_203 : decode cX12_holdsLine 203 = .ok (.iadd, 1) := by decide +kernel
theorem dX12_holdsLine_204 : decode cX12_holdsLine 204 = .ok (.iconst 2, 1) := by decide +kernel
theorem dX12_holdsLine_205 : decode cX12_holdsLine 205 = .ok (.if_icmp .ne 7, 3) := by decide +kernel
theorem dX12_holdsLine_208 : decode cX12_holdsLine 208 = .ok (.iconst 1, 1) := by decide +kernel
theorem dX12_holdsLine_209 : decode cX12_holdsLine 209 = .ok (.goto 20, 3) := by decide +kernel
theorem dX12_holdsLine_212 : decode cX12_holdsLine 212 = .ok (.iconst 0, 1) := by decide +kernel
theorem dX12_holdsLine_213 : decode cX12_holdsLine 213 = .ok (.goto 16, 3) := by decide +kernel
theorem dX12_holdsLine_216 : decode cX12_holdsLine 216 = .ok (.iload 6, 2) := by decide +kernel
theorem dX12_holdsLine_218 : decode cX12_holdsLine 218 = .ok (.iload 7, 2) := by decide +kernel
theorem dX12_holdsLine_220 : decode cX12_holdsLine 220 = .ok (.iadd, 1) := by decide +kernel
theorem dX12_holdsLine_221 : decode cX12_holdsLine 221 = .ok (.ifCond .le 7, 3) := by decide +kernel
theorem dX12_holdsLine_224 : decode cX12_holdsLine 224 = .ok (.iconst 1, 1) := by decide +kernel
theorem dX12_holdsLine_225 : decode cX12_holdsLine 225 = .ok (.goto 4, 3) := by decide +kernel
theorem dX12_holdsLine_228 : decode cX12_holdsLine 228 = .ok (.iconst 0, 1) := by decide +kernel
theorem dX12_holdsLine_229 : decode cX12_holdsLine 229 = .ok (.istore 8, 2) := by decide +kernel
theorem dX12_holdsLine_231 : decode cX12_holdsLine 231 = .ok (.aload_n 0, 1) := by decide +kernel
theorem dX12_holdsLine_232 : decode cX12_holdsLine 232 = .ok (.getfield 33, 3) := by decide +kernel
theorem dX12_holdsLine_235 : decode cX12_holdsLine 235 = .ok (.iload_n 3, 1) := by decide +kernel
theorem dX12_holdsLine_236 : decode cX12_holdsLine 236 = .ok (.iconst 1, 1) := by decide +kernel
theorem dX12_holdsLine_237 : decode cX12_holdsLine 237 = .ok (.isub, 1) := by decide +kernel
theorem dX12_holdsLine_238 : decode cX12_holdsLine 238 = .ok (.iload 5, 2) := by decide +kernel
theorem dX12_holdsLine_240 : decode cX12_holdsLine 240 = .ok (.bipush 11, 2) := by decide +kernel
theorem dX12_holdsLine_242 : decode cX12_holdsLine 242 = .ok (.if_icmp .ne 11, 3) := by decide +kernel
theorem dX12_holdsLine_245 : decode cX12_holdsLine 245 = .ok (.iload 6, 2) := by decide +kernel
theorem dX12_holdsLine_247 : decode cX12_holdsLine 247 = .ok (.iload 7, 2) := by decide +kernel
theorem dX12_holdsLine_249 : decode cX12_holdsLine 249 = .ok (.iadd, 1) := by decide +kernel
theorem dX12_holdsLine_250 : decode cX12_holdsLine 250 = .ok (.goto 13, 3) := by decide +kernel
theorem dX12_holdsLine_253 : decode cX12_holdsLine 253 = .ok (.iload 8, 2) := by decide +kernel
theorem dX12_holdsLine_255 : decode cX12_holdsLine 255 = .ok (.ifCond .eq 7, 3) := by decide +kernel
theorem dX12_holdsLine_258 : decode cX12_holdsLine 258 = .ok (.iconst 1, 1) := by decide +kernel
theorem dX12_holdsLine_259 : decode cX12_holdsLine 259 = .ok (.goto 4, 3) := by decide +kernel
theorem dX12_holdsLine_262 : decode cX12_holdsLine 262 = .ok (.iconst 0, 1) := by decide +kernel
theorem dX12_holdsLine_263 : decode cX12_holdsLine 263 = .ok (.iastore, 1) := by decide +kernel
theorem dX12_holdsLine_264 : decode cX12_holdsLine 264 = .ok (.iinc 4 1, 3) := by decide +kernel
theorem dX12_holdsLine_267 : decode cX12_holdsLine 267 = .ok (.goto (-255), 3) := by decide +kernel
theorem dX12_holdsLine_270 : decode cX12_holdsLine 270 = .ok (.iload_n 3, 1) := by decide +kernel
theorem dX12_holdsLine_271 : decode cX12_holdsLine 271 = .ok (.ifCond .eq 13, 3) := by decide +kernel
theorem dX12_holdsLine_274 : decode cX12_holdsLine 274 = .ok (.aload_n 0, 1) := by decide +kernel
theorem dX12_holdsLine_275 : decode cX12_holdsLine 275 = .ok (.getfield 33, 3) := by decide +kernel
theorem dX12_holdsLine_278 : decode cX12_holdsLine 278 = .ok (.iconst 0, 1) := by decide +kernel
theorem dX12_holdsLine_279 : decode cX12_holdsLine 279 = .ok (.iaload, 1) := by decide +kernel
theorem dX12_holdsLine_280 : decode cX12_holdsLine 280 = .ok (.iconst 1, 1) := by decide +kernel
theorem dX12_holdsLine_281 : decode cX12_holdsLine 281 = .ok (.if_icmp .ne 7, 3) := by decide +kernel
theorem dX12_holdsLine_284 : decode cX12_holdsLine 284 = .ok (.iconst 1, 1) := by decide +kernel
theorem dX12_holdsLine_285 : decode cX12_holdsLine 285 = .ok (.goto 4, 3) := by decide +kernel
theorem dX12_holdsLine_288 : decode cX12_holdsLine 288 = .ok (.iconst 0, 1) := by decide +kernel
theorem dX12_holdsLine_289 : decode cX12_holdsLine 289 = .ok (.ireturn, 1) := by decide +kernel
theorem dX12_told_0 : decode cX12_told 0 = .ok (.iconst 0, 1) := by decide +kernel
theorem dX12_told_1 : decode cX12_told 1 = .ok (.istore_n 2, 1) := by decide +kernel
theorem dX12_told_2 : decode cX12_told 2 = .ok (.iconst 0, 1) := by decide +kernel
theorem dX12_told_3 : decode cX12_told 3 = .ok (.istore_n 3, 1) := by decide +kernel
theorem dX12_told_4 : decode cX12_told 4 = .ok (.iload_n 3, 1) := by decide +kernel
theorem dX12_told_5 : decode cX12_told 5 = .ok (.aload_n 0, 1) := by decide +kernel
theorem dX12_told_6 : decode cX12_told 6 = .ok (.getfield 13, 3) := by decide +kernel
theorem dX12_told_9 : decode cX12_told 9 = .ok (.iload_n 1, 1) := by decide +kernel
theorem dX12_told_10 : decode cX12_told 10 = .ok (.invokestatic 94, 3) := by decide +kernel
theorem dX12_told_13 : decode cX12_told 13 = .ok (.iaload, 1) := by decide +kernel
theorem dX12_told_14 : decode cX12_told 14 = .ok (.if_icmp .ge 92, 3) := by decide +kernel
theorem dX12_told_17 : decode cX12_told 17 = .ok (.iload_n 1, 1) := by decide +kernel
theorem dX12_told_18 : decode cX12_told 18 = .ok (.iload_n 3, 1) := by decide +kernel
theorem dX12_told_19 : decode cX12_told 19 = .ok (.invokestatic 179, 3) := by decide +kernel
theorem dX12_told_22 : decode cX12_told 22 = .ok (.istore 4, 2) := by decide +kernel
theorem dX12_told_24 : decode cX12_told 24 = .ok (.aload_n 0, 1) := by decide +kernel
theorem dX12_told_25 : decode cX12_told 25 = .ok (.iload_n 1, 1) := by decide +kernel
theorem dX12_told_26 : decode cX12_told 26 = .ok (.iload 4, 2) := by decide +kernel
theorem dX12_told_28 : decode cX12_told 28 = .ok (.invokevirtual 203, 3) := by decide +kernel
theorem dX12_told_31 : decode cX12_told 31 = .ok (.ifCond .ne 6, 3) := by decide +kernel
theorem dX12_told_34 : decode cX12_told 34 = .ok (.goto 66, 3) := by decide +kernel
theorem dX12_told_37 : decode cX12_told 37 = .ok (.aload_n 0, 1) := by decide +kernel
theorem dX12_told_38 : decode cX12_told 38 = .ok (.getfield 13, 3) := by decide +kernel
theorem dX12_told_41 : decode cX12_told 41 = .ok (.iload 4, 2) := by decide +kernel
theorem dX12_told_43 : decode cX12_told 43 = .ok (.iconst 1, 1) := by decide +kernel
theorem dX12_told_44 : decode cX12_told 44 = .ok (.iadd, 1) := by decide +kernel
theorem dX12_told_45 : decode cX12_told 45 = .ok (.iaload, 1) := by decide +kernel
theorem dX12_told_46 : decode cX12_told 46 = .ok (.aload_n 0, 1) := by decide +kernel
theorem dX12_told_47 : decode cX12_told 47 = .ok (.getfield 13, 3) := by decide +kernel
theorem dX12_told_50 : decode cX12_told 50 = .ok (.iload 4, 2) := by decide +kernel
theorem dX12_told_52 : decode cX12_told 52 = .ok (.iconst 2, 1) := by decide +kernel
theorem dX12_told_53 : decode cX12_told 53 = .ok (.iadd, 1) := by decide +kernel
theorem dX12_told_54 : decode cX12_told 54 = .ok (.iaload, 1) := by decide +kernel
theorem dX12_told_55 : decode cX12_told 55 = .ok (.ifCond .ge 7, 3) := by decide +kernel
theorem dX12_told_58 : decode cX12_told 58 = .ok (.iconst 1, 1) := by decide +kernel
theorem dX12_told_59 : decode cX12_told 59 = .ok (.goto 17, 3) := by decide +kernel
theorem dX12_told_62 : decode cX12_told 62 = .ok (.aload_n 0, 1) := by decide +kernel
theorem dX12_told_63 : decode cX12_told 63 = .ok (.getfield 30, 3) := by decide +kernel
theorem dX12_told_66 : decode cX12_told 66 = .ok (.aload_n 0, 1) := by decide +kernel
theorem dX12_told_67 : decode cX12_told 67 = .ok (.getfield 13, 3) := by decide +kernel
theorem dX12_told_70 : decode cX12_told 70 = .ok (.iload 4, 2) := by decide +kernel
theorem dX12_told_72 : decode cX12_told 72 = .ok (.iconst 2, 1) := by decide +kernel
theorem dX12_told_73 : decode cX12_told 73 = .ok (.iadd, 1) := by decide +kernel
theorem dX12_told_74 : decode cX12_told 74 = .ok (.iaload, 1) := by decide +kernel
theorem dX12_told_75 : decode cX12_told 75 = .ok (.iaload, 1) := by decide +kernel
theorem dX12_told_76 : decode cX12_told 76 = .ok (.imul, 1) := by decide +kernel
theorem dX12_told_77 : decode cX12_told 77 = .ok (.istore 5, 2) := by decide +kernel
theorem dX12_told_79 : decode cX12_told 79 = .ok (.iload_n 2, 1) := by decide +kernel
theorem dX12_told_80 : decode cX12_told 80 = .ok (.aload_n 0, 1) := by decide +kernel
theorem dX12_told_81 : decode cX12_told 81 = .ok (.getfield 13, 3) := by decide +kernel
theorem dX12_told_84 : decode cX12_told 84 = .ok (.iload 4, 2) := by decide +kernel
theorem dX12_told_86 : decode cX12_told 86 = .ok (.iaload, 1) := by decide +kernel
theorem dX12_told_87 : decode cX12_told 87 = .ok (.ifCond .ne 8, 3) := by decide +kernel
theorem dX12_told_90 : decode cX12_told 90 = .ok (.iload 5, 2) := by decide +kernel
theorem dX12_told_92 : decode cX12_told 92 = .ok (.goto 6, 3) := by decide +kernel
theorem dX12_told_95 : decode cX12_told 95 = .ok (.iload 5, 2) := by decide +kernel
theorem dX12_told_97 : decode cX12_told 97 = .ok (.ineg, 1) := by decide +kernel
theorem dX12_told_98 : decode cX12_told 98 = .ok (.iadd, 1) := by decide +kernel
theorem dX12_told_99 : decode cX12_told 99 = .ok (.istore_n 2, 1) := by decide +kernel
theorem dX12_told_100 : decode cX12_told 100 = .ok (.iinc 3 1, 3) := by decide +kernel
theorem dX12_told_103 : decode cX12_told 103 = .ok (.goto (-99), 3) := by decide +kernel
theorem dX12_told_106 : decode cX12_told 106 = .ok (.iload_n 2, 1) := by decide +kernel
theorem dX12_told_107 : decode cX12_told 107 = .ok (.ireturn, 1) := by decide +kernel
theorem dX12_held_0 : decode cX12_held 0 = .ok (.iconst 0, 1) := by decide +kernel
theorem dX12_held_1 : decode cX12_held 1 = .ok (.bipush 100, 2) := by decide +kernel
theorem dX12_held_3 : decode cX12_held 3 = .ok (.aload_n 0, 1) := by decide +kernel
theorem dX12_held_4 : decode cX12_held 4 = .ok (.iload_n 1, 1) := by decide +kernel
theorem dX12_held_5 : decode cX12_held 5 = .ok (.invokevirtual 206, 3) := by decide +kernel
theorem dX12_held_8 : decode cX12_held 8 = .ok (.invokestatic 209, 3) := by decide +kernel
theorem dX12_held_11 : decode cX12_held 11 = .ok (.invokestatic 214, 3) := by decide +kernel
theorem dX12_held_14 : decode cX12_held 14 = .ok (.ireturn, 1) := by decide +kernel
theorem dX12_noRole_0 : decode cX12_noRole 0 = .ok (.iload_n 0, 1) := by decide +kernel
theorem dX12_noRole_1 : decode cX12_noRole 1 = .ok (.iconst 0, 1) := by decide +kernel
theorem dX12_noRole_2 : decode cX12_noRole 2 = .ok (.iconst 2, 1) := by decide +kernel
theorem dX12_noRole_3 : decode cX12_noRole 3 = .ok (.invokestatic 55, 3) := by decide +kernel
theorem dX12_noRole_6 : decode cX12_noRole 6 = .ok (.ifCond .ne 7, 3) := by decide +kernel
theorem dX12_noRole_9 : decode cX12_noRole 9 = .ok (.iconst 1, 1) := by decide +kernel
theorem dX12_noRole_10 : decode cX12_noRole 10 = .ok (.goto 4, 3) := by decide +kernel
theorem dX12_noRole_13 : decode cX12_noRole 13 = .ok (.iconst 0, 1) := by decide +kernel
theorem dX12_noRole_14 : decode cX12_noRole 14 = .ok (.ireturn, 1) := by decide +kernel
theorem dX12_dullOf_0 : decode cX12_dullOf 0 = .ok (.aload_n 0, 1) := by decide +kernel
theorem dX12_dullOf_1 : decode cX12_dullOf 1 = .ok (.getfield 13, 3) := by decide +kernel
theorem dX12_dullOf_4 : decode cX12_dullOf 4 = .ok (.bipush 8, 2) := by decide +kernel
theorem dX12_dullOf_6 : decode cX12_dullOf 6 = .ok (.iconst 3, 1) := by decide +kernel
theorem dX12_dullOf_7 : decode cX12_dullOf 7 = .ok (.iload_n 1, 1) := by decide +kernel
theorem dX12_dullOf_8 : decode cX12_dullOf 8 = .ok (.imul, 1) := by decide +kernel
theorem dX12_dullOf_9 : decode cX12_dullOf 9 = .ok (.iadd, 1) := by decide +kernel
theorem dX12_dullOf_10 : decode cX12_dullOf 10 = .ok (.iload_n 2, 1) := by decide +kernel
theorem dX12_dullOf_11 : decode cX12_dullOf 11 = .ok (.iadd, 1) := by decide +kernel
theorem dX12_dullOf_12 : decode cX12_dullOf 12 = .ok (.iaload, 1) := by decide +kernel
theorem dX12_dullOf_13 : decode cX12_dullOf 13 = .ok (.ireturn, 1) := by decide +kernel
theorem dX12_dull_0 : decode cX12_dull 0 = .ok (.aload_n 0, 1) := by decide +kernel
theorem dX12_dull_1 : decode cX12_dull 1 = .ok (.iconst 0, 1) := by decide +kernel
theorem dX12_dull_2 : decode cX12_dull 2 = .ok (.putfield 3, 3) := by decide +kernel
theorem dX12_dull_5 : decode cX12_dull 5 = .ok (.aload_n 0, 1) := by decide +kernel
theorem dX12_dull_6 : decode cX12_dull 6 = .ok (.iload_n 1, 1) := by decide +kernel
theorem dX12_dull_7 : decode cX12_dull 7 = .ok (.invokestatic 217, 3) := by decide +kernel
theorem dX12_dull_10 : decode cX12_dull 10 = .ok (.ifCond .ne 10, 3) := by decide +kernel
theorem dX12_dull_13 : decode cX12_dull 13 = .ok (.iload_n 2, 1) := by decide +kernel
theorem dX12_dull_14 : decode cX12_dull 14 = .ok (.invokestatic 220, 3) := by decide +kernel
theorem dX12_dull_17 : decode cX12_dull 17 = .ok (.ifCond .eq 7, 3) := by decide +kernel
theorem dX12_dull_20 : decode cX12_dull 20 = .ok (.iconst 1, 1) := by decide +kernel
theorem dX12_dull_21 : decode cX12_dull 21 = .ok (.goto 4, 3) := by decide +kernel
theorem dX12_dull_24 : decode cX12_dull 24 = .ok (.iconst 0, 1) := by decide +kernel
theorem dX12_dull_25 : decode cX12_dull 25 = .ok (.iconst 1, 1) := by decide +kernel
theorem dX12_dull_26 : decode cX12_dull 26 = .ok (.invokevirtual 195, 3) := by decide +kernel
theorem dX12_dull_29 : decode cX12_dull 29 = .ok (.ifCond .ne 26, 3) := by decide +kernel
theorem dX12_dull_32 : decode cX12_dull 32 = .ok (.aload_n 0, 1) := by decide +kernel
theorem dX12_dull_33 : decode cX12_dull 33 = .ok (.iload_n 3, 1) := by decide +kernel
theorem dX12_dull_34 : decode cX12_dull 34 = .ok (.iconst 0, 1) := by decide +kernel
theorem dX12_dull_35 : decode cX12_dull 35 = .ok (.bipush 9, 2) := by decide +kernel
theorem dX12_dull_37 : decode cX12_dull 37 = .ok (.invokestatic 55, 3) := by decide +kernel
theorem dX12_dull_40 : decode cX12_dull 40 = .ok (.ifCond .ne 7, 3) := by decide +kernel
theorem dX12_dull_43 : decode cX12_dull 43 = .ok (.iconst 1, 1) := by decide +kernel
theorem dX12_dull_44 : decode cX12_dull 44 = .ok (.goto 4, 3) := by decide +kernel
theorem dX12_dull_47 : decode cX12_dull 47 = .ok (.iconst 0, 1) := by decide +kernel
theorem dX12_dull_48 : decode cX12_dull 48 = .ok (.iconst 2, 1) := by decide +kernel
theorem dX12_dull_49 : decode cX12_dull 49 = .ok (.invokevirtual 195, 3) := by decide +kernel
theorem dX12_dull_52 : decode cX12_dull 52 = .ok (.ifCond .eq 5, 3) := by decide +kernel
theorem dX12_dull_55 : decode cX12_dull 55 = .ok (.iconst 0, 1) := by decide +kernel
theorem dX12_dull_56 : decode cX12_dull 56 = .ok (.ireturn, 1) := by decide +kernel
theorem dX12_dull_57 : decode cX12_dull 57 = .ok (.aload_n 0, 1) := by decide +kernel
theorem dX12_dull_58 : decode cX12_dull 58 = .ok (.iload_n 1, 1) := by decide +kernel
theorem dX12_dull_59 : decode cX12_dull 59 = .ok (.iload_n 2, 1) := by decide +kernel
theorem dX12_dull_60 : decode cX12_dull 60 = .ok (.invokevirtual 223, 3) := by decide +kernel
theorem dX12_dull_63 : decode cX12_dull 63 = .ok (.istore 4, 2) := by decide +kernel
theorem dX12_dull_65 : decode cX12_dull 65 = .ok (.aload_n 0, 1) := by decide +kernel
theorem dX12_dull_66 : decode cX12_dull 66 = .ok (.getfield 13, 3) := by decide +kernel
theorem dX12_dull_69 : decode cX12_dull 69 = .ok (.bipush 8, 2) := by decide +kernel
theorem dX12_dull_71 : decode cX12_dull 71 = .ok (.iconst 3, 1) := by decide +kernel
theorem dX12_dull_72 : decode cX12_dull 72 = .ok (.iload_n 1, 1) := by decide +kernel
theorem dX12_dull_73 : decode cX12_dull 73 = .ok (.imul, 1) := by decide +kernel
theorem dX12_dull_74 : decode cX12_dull 74 = .ok (.iadd, 1) := by decide +kernel
theorem dX12_dull_75 : decode cX12_dull 75 = .ok (.iload_n 2, 1) := by decide +kernel
theorem dX12_dull_76 : decode cX12_dull 76 = .ok (.iadd, 1) := by decide +kernel
theorem dX12_dull_77 : decode cX12_dull 77 = .ok (.iload_n 3, 1) := by decide +kernel
theorem dX12_dull_78 : decode cX12_dull 78 = .ok (.iastore, 1) := by decide +kernel
theorem dX12_dull_79 : decode cX12_dull 79 = .ok (.iload 4, 2) := by decide +kernel
theorem dX12_dull_81 : decode cX12_dull 81 = .ok (.ireturn, 1) := by decide +kernel
theorem dX12_doors_0 : decode cX12_doors 0 = .ok (.aload_n 0, 1) := by decide +kernel
theorem dX12_doors_1 : decode cX12_doors 1 = .ok (.getfield 13, 3) := by decide +kernel
theorem dX12_doors_4 : decode cX12_doors 4 = .ok (.sipush 164, 3) := by decide +kernel
theorem dX12_doors_7 : decode cX12_doors 7 = .ok (.bipush 21, 2) := by decide +kernel
theorem dX12_doors_9 : decode cX12_doors 9 = .ok (.iload_n 1, 1) := by decide +kernel
theorem dX12_doors_10 : decode cX12_doors 10 = .ok (.imul, 1) := by decide +kernel
theorem dX12_doors_11 : decode cX12_doors 11 = .ok (.iadd, 1) := by decide +kernel
theorem dX12_doors_12 : decode cX12_doors 12 = .ok (.iaload, 1) := by decide +kernel
theorem dX12_doors_13 : decode cX12_doors 13 = .ok (.ireturn, 1) := by decide +kernel
theorem dX12_lookOf_0 : decode cX12_lookOf 0 = .ok (.aload_n 0, 1) := by decide +kernel
theorem dX12_lookOf_1 : decode cX12_lookOf 1 = .ok (.getfield 13, 3) := by decide +kernel
theorem dX12_lookOf_4 : decode cX12_lookOf 4 = .ok (.sipush 164, 3) := by decide +kernel
theorem dX12_lookOf_7 : decode cX12_lookOf 7 = .ok (.bipush 21, 2) := by decide +kernel
theorem dX12_lookOf_9 : decode cX12_lookOf 9 = .ok (.iload_n 1, 1) := by decide +kernel
theorem dX12_lookOf_10 : decode cX12_lookOf 10 = .ok (.imul, 1) := by decide +kernel
theorem dX12_lookOf_11 : decode cX12_lookOf 11 = .ok (.iadd, 1) := by decide +kernel
theorem dX12_lookOf_12 : decode cX12_lookOf 12 = .ok (.iconst 1, 1) := by decide +kernel
theorem dX12_lookOf_13 : decode cX12_lookOf 13 = .ok (.iadd, 1) := by decide +kernel
theorem dX12_lookOf_14 : decode cX12_lookOf 14 = .ok (.iload_n 2, 1) := by decide +kernel
theorem dX12_lookOf_15 : decode cX12_lookOf 15 = .ok (.iadd, 1) := by decide +kernel
theorem dX12_lookOf_16 : decode cX12_lookOf 16 = .ok (.iaload, 1) := by decide +kernel
theorem dX12_lookOf_17 : decode cX12_lookOf 17 = .ok (.ireturn, 1) := by decide +kernel
theorem dX12_house_0 : decode cX12_house 0 = .ok (.aload_n 0, 1) := by decide +kernel
theorem dX12_house_1 : decode cX12_house 1 = .ok (.iconst 0, 1) := by decide +kernel
theorem dX12_house_2 : decode cX12_house 2 = .ok (.putfield 3, 3) := by decide +kernel
theorem dX12_house_5 : decode cX12_house 5 = .ok (.aload_n 0, 1) := by decide +kernel
theorem dX12_house_6 : decode cX12_house 6 = .ok (.iload_n 1, 1) := by decide +kernel
theorem dX12_house_7 : decode cX12_house 7 = .ok (.iconst 1, 1) := by decide +kernel
theorem dX12_house_8 : decode cX12_house 8 = .ok (.bipush 20, 2) := by decide +kernel
theorem dX12_house_10 : decode cX12_house 10 = .ok (.invokestatic 55, 3) := by decide +kernel
theorem dX12_house_13 : decode cX12_house 13 = .ok (.ifCond .ne 7, 3) := by decide +kernel
theorem dX12_house_16 : decode cX12_house 16 = .ok (.iconst 1, 1) := by decide +kernel
theorem dX12_house_17 : decode cX12_house 17 = .ok (.goto 4, 3) := by decide +kernel
theorem dX12_house_20 : decode cX12_house 20 = .ok (.iconst 0, 1) := by decide +kernel
theorem dX12_house_21 : decode cX12_house 21 = .ok (.iconst 1, 1) := by decide +kernel
theorem dX12_house_22 : decode cX12_house 22 = .ok (.invokevirtual 195, 3) := by decide +kernel
theorem dX12_house_25 : decode cX12_house 25 = .ok (.ifCond .ne 27, 3) := by decide +kernel
theorem dX12_house_28 : decode cX12_house 28 = .ok (.aload_n 0, 1) := by decide +kernel
theorem dX12_house_29 : decode cX12_house 29 = .ok (.aload_n 0, 1) := by decide +kernel
theorem dX12_house_30 : decode cX12_house 30 = .ok (.getfield 13, 3) := by decide +kernel
theorem dX12_house_33 : decode cX12_house 33 = .ok (.iconst 0, 1) := by decide +kernel
theorem dX12_house_34 : decode cX12_house 34 = .ok (.iaload, 1) := by decide +kernel
theorem dX12_house_35 : decode cX12_house 35 = .ok (.bipush 6, 2) := by decide +kernel
theorem dX12_house_37 : decode cX12_house 37 = .ok (.if_icmp .ne 7, 3) := by decide +kernel
theorem dX12_house_40 : decode cX12_house 40 = .ok (.iconst 1, 1) := by decide +kernel
theorem dX12_house_41 : decode cX12_house 41 = .ok (.goto 4, 3) := by decide +kernel
theorem dX12_house_44 : decode cX12_house 44 = .ok (.iconst 0, 1) := by decide +kernel
theorem dX12_house_45 : decode cX12_house 45 = .ok (.iconst 2, 1) := by decide +kernel
theorem dX12_house_46 : decode cX12_house 46 = .ok (.invokevirtual 195, 3) := by decide +kernel
theorem dX12_house_49 : decode cX12_house 49 = .ok (.ifCond .eq 5, 3) := by decide +kernel
theorem dX12_house_52 : decode cX12_house 52 = .ok (.iconst 0, 1) := by decide +kernel
theorem dX12_house_53 : decode cX12_house 53 = .ok (.ireturn, 1) := by decide +kernel
theorem dX12_house_54 : decode cX12_house 54 = .ok (.aload_n 0, 1) := by decide +kernel
theorem dX12_house_55 : decode cX12_house 55 = .ok (.getfield 13, 3) := by decide +kernel
theorem dX12_house_58 : decode cX12_house 58 = .ok (.iconst 0, 1) := by decide +kernel
theorem dX12_house_59 : decode cX12_house 59 = .ok (.iaload, 1) := by decide +kernel
theorem dX12_house_60 : decode cX12_house 60 = .ok (.istore_n 2, 1) := by decide +kernel
theorem dX12_house_61 : decode cX12_house 61 = .ok (.aload_n 0, 1) := by decide +kernel
theorem dX12_house_62 : decode cX12_house 62 = .ok (.getfield 13, 3) := by decide +kernel
theorem dX12_house_65 : decode cX12_house 65 = .ok (.sipush 164, 3) := by decide +kernel
theorem dX12_house_68 : decode cX12_house 68 = .ok (.bipush 21, 2) := by decide +kernel
theorem dX12_house_70 : decode cX12_house 70 = .ok (.iload_n 2, 1) := by decide +kernel
theorem dX12_house_71 : decode cX12_house 71 = .ok (.imul, 1) := by decide +kernel
theorem dX12_house_72 : decode cX12_house 72 = .ok (.iadd, 1) := by decide +kernel
theorem dX12_house_73 : decode cX12_house 73 = .ok (.iload_n 1, 1) := by decide +kernel
theorem dX12_house_74 : decode cX12_house 74 = .ok (.iastore, 1) := by decide +kernel
theorem dX12_house_75 : decode cX12_house 75 = .ok (.iconst 0, 1) := by decide +kernel
theorem dX12_house_76 : decode cX12_house 76 = .ok (.istore_n 3, 1) := by decide +kernel
theorem dX12_house_77 : decode cX12_house 77 = .ok (.iload_n 3, 1) := by decide +kernel
theorem dX12_house_78 : decode cX12_house 78 = .ok (.bipush 20, 2) := by decide +kernel
theorem dX12_house_80 : decode cX12_house 80 = .ok (.if_icmp .ge 30, 3) := by decide +kernel
theorem dX12_house_83 : decode cX12_house 83 = .ok (.aload_n 0, 1) := by decide +kernel
theorem dX12_house_84 : decode cX12_house 84 = .ok (.getfield 13, 3) := by decide +kernel
theorem dX12_house_87 : decode cX12_house 87 = .ok (.sipush 164, 3) := by decide +kernel
theorem dX12_house_90 : decode cX12_house 90 = .ok (.bipush 21, 2) := by decide +kernel
theorem dX12_house_92 : decode cX12_house 92 = .ok (.iload_n 2, 1) := by decide +kernel
theorem dX12_house_93 : decode cX12_house 93 = .ok (.imul, 1) := by decide +kernel
theorem dX12_house_94 : decode cX12_house 94 = .ok (.iadd, 1) := by decide +kernel
theorem dX12_house_95 : decode cX12_house 95 = .ok (.iconst 1, 1) := by decide +kernel
theorem dX12_house_96 : decode cX12_house 96 = .ok (.iadd, 1) := by decide +kernel
theorem dX12_house_97 : decode cX12_house 97 = .ok (.iload_n 3, 1) := by decide +kernel
theorem dX12_house_98 : decode cX12_house 98 = .ok (.iadd, 1) := by decide +kernel
theorem dX12_house_99 : decode cX12_house 99 = .ok (.iload_n 3, 1) := by decide +kernel
theorem dX12_house_100 : decode cX12_house 100 = .ok (.bipush 10, 2) := by decide +kernel
theorem dX12_house_102 : decode cX12_house 102 = .ok (.irem, 1) := by decide +kernel
theorem dX12_house_103 : decode cX12_house 103 = .ok (.iastore, 1) := by decide +kernel
theorem dX12_house_104 : decode cX12_house 104 = .ok (.iinc 3 1, 3) := by decide +kernel
theorem dX12_house_107 : decode cX12_house 107 = .ok (.goto (-30), 3) := by decide +kernel
theorem dX12_house_110 : decode cX12_house 110 = .ok (.aload_n 0, 1) := by decide +kernel
theorem dX12_house_111 : decode cX12_house 111 = .ok (.getfield 13, 3) := by decide +kernel
theorem dX12_house_114 : decode cX12_house 114 = .ok (.iconst 0, 1) := by decide +kernel
theorem dX12_house_115 : decode cX12_house 115 = .ok (.dup2, 1) := by decide +kernel
theorem dX12_house_116 : decode cX12_house 116 = .ok (.iaload, 1) := by decide +kernel
theorem dX12_house_117 : decode cX12_house 117 = .ok (.iconst 1, 1) := by decide +kernel
theorem dX12_house_118 : decode cX12_house 118 = .ok (.iadd, 1) := by decide +kernel
theorem dX12_house_119 : decode cX12_house 119 = .ok (.iastore, 1) := by decide +kernel
theorem dX12_house_120 : decode cX12_house 120 = .ok (.iload_n 2, 1) := by decide +kernel
theorem dX12_house_121 : decode cX12_house 121 = .ok (.ireturn, 1) := by decide +kernel
theorem dX12_noDoor_0 : decode cX12_noDoor 0 = .ok (.aload_n 0, 1) := by decide +kernel
theorem dX12_noDoor_1 : decode cX12_noDoor 1 = .ok (.iload_n 1, 1) := by decide +kernel
theorem dX12_noDoor_2 : decode cX12_noDoor 2 = .ok (.iconst 0, 1) := by decide +kernel
theorem dX12_noDoor_3 : decode cX12_noDoor 3 = .ok (.invokevirtual 226, 3) := by decide +kernel
theorem dX12_noDoor_6 : decode cX12_noDoor 6 = .ok (.ifCond .ne 18, 3) := by decide +kernel
theorem dX12_noDoor_9 : decode cX12_noDoor 9 = .ok (.iload_n 2, 1) := by decide +kernel
theorem dX12_noDoor_10 : decode cX12_noDoor 10 = .ok (.iconst 0, 1) := by decide +kernel
theorem dX12_noDoor_11 : decode cX12_noDoor 11 = .ok (.aload_n 0, 1) := by decide +kernel
theorem dX12_noDoor_12 : decode cX12_noDoor 12 = .ok (.iload_n 1, 1) := by decide +kernel
theorem dX12_noDoor_13 : decode cX12_noDoor 13 = .ok (.invokevirtual 229, 3) := by decide +kernel
theorem dX12_noDoor_16 : decode cX12_noDoor 16 = .ok (.iconst 1, 1) := by decide +kernel
theorem dX12_noDoor_17 : decode cX12_noDoor 17 = .ok (.isub, 1) := by decide +kernel
theorem dX12_noDoor_18 : decode cX12_noDoor 18 = .ok (.invokestatic 55, 3) := by decide +kernel
theorem dX12_noDoor_21 : decode cX12_noDoor 21 = .ok (.ifCond .ne 7, 3) := by decide +kernel
theorem dX12_noDoor_24 : decode cX12_noDoor 24 = .ok (.iconst 1, 1) := by decide +kernel
theorem dX12_noDoor_25 : decode cX12_noDoor 25 = .ok (.goto 4, 3) := by decide +kernel
theorem dX12_noDoor_28 : decode cX12_noDoor 28 = .ok (.iconst 0, 1) := by decide +kernel
theorem dX12_noDoor_29 : decode cX12_noDoor 29 = .ok (.ireturn, 1) := by decide +kernel
theorem dX12_look_0 : decode cX12_look 0 = .ok (.aload_n 0, 1) := by decide +kernel
theorem dX12_look_1 : decode cX12_look 1 = .ok (.iconst 0, 1) := by decide +kernel
theorem dX12_look_2 : decode cX12_look 2 = .ok (.putfield 3, 3) := by decide +kernel
theorem dX12_look_5 : decode cX12_look 5 = .ok (.aload_n 0, 1) := by decide +kernel
theorem dX12_look_6 : decode cX12_look 6 = .ok (.aload_n 0, 1) := by decide +kernel
theorem dX12_look_7 : decode cX12_look 7 = .ok (.iload_n 1, 1) := by decide +kernel
theorem dX12_look_8 : decode cX12_look 8 = .ok (.iload_n 2, 1) := by decide +kernel
theorem dX12_look_9 : decode cX12_look 9 = .ok (.invokevirtual 232, 3) := by decide +kernel
theorem dX12_look_12 : decode cX12_look 12 = .ok (.iconst 1, 1) := by decide +kernel
theorem dX12_look_13 : decode cX12_look 13 = .ok (.invokevirtual 195, 3) := by decide +kernel
theorem dX12_look_16 : decode cX12_look 16 = .ok (.ifCond .ne 26, 3) := by decide +kernel
theorem dX12_look_19 : decode cX12_look 19 = .ok (.aload_n 0, 1) := by decide +kernel
theorem dX12_look_20 : decode cX12_look 20 = .ok (.iload_n 3, 1) := by decide +kernel
theorem dX12_look_21 : decode cX12_look 21 = .ok (.iconst 0, 1) := by decide +kernel
theorem dX12_look_22 : decode cX12_look 22 = .ok (.bipush 9, 2) := by decide +kernel
theorem dX12_look_24 : decode cX12_look 24 = .ok (.invokestatic 55, 3) := by decide +kernel
theorem dX12_look_27 : decode cX12_look 27 = .ok (.ifCond .ne 7, 3) := by decide +kernel
theorem dX12_look_30 : decode cX12_look 30 = .ok (.iconst 1, 1) := by decide +kernel
theorem dX12_look_31 : decode cX12_look 31 = .ok (.goto 4, 3) := by decide +kernel
theorem dX12_look_34 : decode cX12_look 34 = .ok (.iconst 0, 1) := by decide +kernel
theorem dX12_look_35 : decode cX12_look 35 = .ok (.iconst 2, 1) := by decide +kernel
theorem dX12_look_36 : decode cX12_look 36 = .ok (.invokevirtual 195, 3) := by decide +kernel
theorem dX12_look_39 : decode cX12_look 39 = .ok (.ifCond .eq 4, 3) := by decide +kernel
theorem dX12_look_42 : decode cX12_look 42 = .ok (.return_, 1) := by decide +kernel
theorem dX12_look_43 : decode cX12_look 43 = .ok (.aload_n 0, 1) := by decide +kernel
theorem dX12_look_44 : decode cX12_look 44 = .ok (.getfield 13, 3) := by decide +kernel
theorem dX12_look_47 : decode cX12_look 47 = .ok (.sipush 164, 3) := by decide +kernel
theorem dX12_look_50 : decode cX12_look 50 = .ok (.bipush 21, 2) := by decide +kernel
theorem dX12_look_52 : decode cX12_look 52 = .ok (.iload_n 1, 1) := by decide +kernel
theorem dX12_look_53 : decode cX12_look 53 = .ok (.imul, 1) := by decide +kernel
theorem dX12_look_54 : decode cX12_look 54 = .ok (.iadd, 1) := by decide +kernel
theorem dX12_look_55 : decode cX12_look 55 = .ok (.iconst 1, 1) := by decide +kernel
theorem dX12_look_56 : decode cX12_look 56 = .ok (.iadd, 1) := by decide +kernel
theorem dX12_look_57 : decode cX12_look 57 = .ok (.iload_n 2, 1) := by decide +kernel
theorem dX12_look_58 : decode cX12_look 58 = .ok (.iadd, 1) := by decide +kernel
theorem dX12_look_59 : decode cX12_look 59 = .ok (.iload_n 3, 1) := by decide +kernel
theorem dX12_look_60 : decode cX12_look 60 = .ok (.iastore, 1) := by decide +kernel
theorem dX12_look_61 : decode cX12_look 61 = .ok (.return_, 1) := by decide +kernel
theorem dX12_of_0 : decode cX12_of 0 = .ok (.aload_n 0, 1) := by decide +kernel
theorem dX12_of_1 : decode cX12_of 1 = .ok (.getfield 13, 3) := by decide +kernel
theorem dX12_of_4 : decode cX12_of 4 = .ok (.sipush 290, 3) := by decide +kernel
theorem dX12_of_7 : decode cX12_of 7 = .ok (.bipush 81, 2) := by decide +kernel
theorem dX12_of_9 : decode cX12_of 9 = .ok (.iload_n 1, 1) := by decide +kernel
theorem dX12_of_10 : decode cX12_of 10 = .ok (.imul, 1) := by decide +kernel
theorem dX12_of_11 : decode cX12_of 11 = .ok (.iadd, 1) := by decide +kernel
theorem dX12_of_12 : decode cX12_of 12 = .ok (.iload_n 2, 1) := by decide +kernel
theorem dX12_of_13 : decode cX12_of 13 = .ok (.iadd, 1) := by decide +kernel
theorem dX12_of_14 : decode cX12_of 14 = .ok (.iaload, 1) := by decide +kernel
theorem dX12_of_15 : decode cX12_of 15 = .ok (.ireturn, 1) := by decide +kernel
theorem dX12_sets_0 : decode cX12_sets 0 = .ok (.aload_n 0, 1) := by decide +kernel
theorem dX12_sets_1 : decode cX12_sets 1 = .ok (.getfield 13, 3) := by decide +kernel
theorem dX12_sets_4 : decode cX12_sets 4 = .ok (.sipush 290, 3) := by decide +kernel
theorem dX12_sets_7 : decode cX12_sets 7 = .ok (.bipush 81, 2) := by decide +kernel
theorem dX12_sets_9 : decode cX12_sets 9 = .ok (.iload_n 1, 1) := by decide +kernel
theorem dX12_sets_10 : decode cX12_sets 10 = .ok (.imul, 1) := by decide +kernel
theorem dX12_sets_11 : decode cX12_sets 11 = .ok (.iadd, 1) := by decide +kernel
theorem dX12_sets_12 : decode cX12_sets 12 = .ok (.iload_n 2, 1) := by decide +kernel
theorem dX12_sets_13 : decode cX12_sets 13 = .ok (.iadd, 1) := by decide +kernel
theorem dX12_sets_14 : decode cX12_sets 14 = .ok (.iload_n 3, 1) := by decide +kernel
theorem dX12_sets_15 : decode cX12_sets 15 = .ok (.iastore, 1) := by decide +kernel
theorem dX12_sets_16 : decode cX12_sets 16 = .ok (.return_, 1) := by decide +kernel
theorem dX12_cardOf_0 : decode cX12_cardOf 0 = .ok (.aload_n 0, 1) := by decide +kernel
theorem dX12_cardOf_1 : decode cX12_cardOf 1 = .ok (.iload_n 1, 1) := by decide +kernel
theorem dX12_cardOf_2 : decode cX12_cardOf 2 = .ok (.iconst 0, 1) := by decide +kernel
theorem dX12_cardOf_3 : decode cX12_cardOf 3 = .ok (.invokevirtual 235, 3) := by decide +kernel
theorem dX12_cardOf_6 : decode cX12_cardOf 6 = .ok (.iload_n 2, 1) := by decide +kernel
theorem dX12_cardOf_7 : decode cX12_cardOf 7 = .ok (.aload_n 0, 1) := by decide +kernel
theorem dX12_cardOf_8 : decode cX12_cardOf 8 = .ok (.iload_n 1, 1) := by decide +kernel
theorem dX12_cardOf_9 : decode cX12_cardOf 9 = .ok (.iconst 1, 1) := by decide +kernel
theorem dX12_cardOf_10 : decode cX12_cardOf 10 = .ok (.invokevirtual 235, 3) := by decide +kernel
theorem dX12_cardOf_13 : decode cX12_cardOf 13 = .ok (.imul, 1) := by decide +kernel
theorem dX12_cardOf_14 : decode cX12_cardOf 14 = .ok (.iadd, 1) := by decide +kernel
theorem dX12_cardOf_15 : decode cX12_cardOf 15 = .ok (.bipush 52, 2) := by decide +kernel
theorem dX12_cardOf_17 : decode cX12_cardOf 17 = .ok (.irem, 1) := by decide +kernel
theorem dX12_cardOf_18 : decode cX12_cardOf 18 = .ok (.ireturn, 1) := by decide +kernel
theorem dX12_placesFor_0 : decode cX12_placesFor 0 = .ok (.iload_n 0, 1) := by decide +kernel
theorem dX12_placesFor_1 : decode cX12_placesFor 1 = .ok (.iload_n 1, 1) := by decide +kernel
theorem dX12_placesFor_2 : decode cX12_placesFor 2 = .ok (.iadd, 1) := by decide +kernel
theorem dX12_placesFor_3 : decode cX12_placesFor 3 = .ok (.iconst 1, 1) := by decide +kernel
theorem dX12_placesFor_4 : decode cX12_placesFor 4 = .ok (.isub, 1) := by decide +kernel
theorem dX12_placesFor_5 : decode cX12_placesFor 5 = .ok (.iload_n 1, 1) := by decide +kernel
theorem dX12_placesFor_6 : decode cX12_placesFor 6 = .ok (.idiv, 1) := by decide +kernel
theorem dX12_placesFor_7 : decode cX12_placesFor 7 = .ok (.ireturn, 1) := by decide +kernel
theorem dX12_places_0 : decode cX12_places 0 = .ok (.aload_n 0, 1) := by decide +kernel
theorem dX12_places_1 : decode cX12_places 1 = .ok (.iload_n 1, 1) := by decide +kernel
theorem dX12_places_2 : decode cX12_places 2 = .ok (.iconst 2, 1) := by decide +kernel
theorem dX12_places_3 : decode cX12_places 3 = .ok (.invokevirtual 235, 3) := by decide +kernel
theorem dX12_places_6 : decode cX12_places 6 = .ok (.aload_n 0, 1) := by decide +kernel
theorem dX12_places_7 : decode cX12_places 7 = .ok (.iload_n 1, 1) := by decide +kernel
theorem dX12_places_8 : decode cX12_places 8 = .ok (.bipush 6, 2) := by decide +kernel
theorem dX12_places_10 : decode cX12_places 10 = .ok (.invokevirtual 235, 3) := by decide +kernel
theorem dX12_places_13 : decode cX12_places 13 = .ok (.invokestatic 238, 3) := by decide +kernel
theorem dX12_places_16 : decode cX12_places 16 = .ok (.ireturn, 1) := by decide +kernel
theorem dX12_noPack_0 : decode cX12_noPack 0 = .ok (.aload_n 0, 1) := by decide +kernel
theorem dX12_noPack_1 : decode cX12_noPack 1 = .ok (.iload_n 1, 1) := by decide +kernel
theorem dX12_noPack_2 : decode cX12_noPack 2 = .ok (.iconst 1, 1) := by decide +kernel
theorem dX12_noPack_3 : decode cX12_noPack 3 = .ok (.invokevirtual 226, 3) := by decide +kernel
theorem dX12_noPack_6 : decode cX12_noPack 6 = .ok (.ireturn, 1) := by decide +kernel
theorem dX12_noPlace_0 : decode cX12_noPlace 0 = .ok (.aload_n 0, 1) := by decide +kernel
theorem dX12_noPlace_1 : decode cX12_noPlace 1 = .ok (.iload_n 1, 1) := by decide +kernel
theorem dX12_noPlace_2 : decode cX12_noPlace 2 = .ok (.invokevirtual 241, 3) := by decide +kernel
theorem dX12_noPlace_5 : decode cX12_noPlace 5 = .ok (.ifCond .ne 19, 3) := by decide +kernel
theorem dX12_noPlace_8 : decode cX12_noPlace 8 = .ok (.iload_n 2, 1) := by decide +kernel
theorem dX12_noPlace_9 : decode cX12_noPlace 9 = .ok (.iconst 0, 1) := by decide +kernel
theorem dX12_noPlace_10 : decode cX12_noPlace 10 = .ok (.aload_n 0, 1) := by decide +kernel
theorem dX12_noPlace_11 : decode cX12_noPlace 11 = .ok (.iload_n 1, 1) := by decide +kernel
theorem dX12_noPlace_12 : decode cX12_noPlace 12 = .ok (.iconst 2, 1) := by decide +kernel
theorem dX12_noPlace_13 : decode cX12_noPlace 13 = .ok (.invokevirtual 235, 3) := by decide +kernel
theorem dX12_noPlace_16 : decode cX12_noPlace 16 = .ok (.iconst 1, 1) := by decide +kernel
theorem dX12_noPlace_17 : decode cX12_noPlace 17 = .ok (.isub, 1) := by decide +kernel
theorem dX12_noPlace_18 : decode cX12_noPlace 18 = .ok (.invokestatic 55, 3) := by decide +kernel
theorem dX12_noPlace_21 : decode cX12_noPlace 21 = .ok (.ifCond .ne 7, 3) := by decide +kernel
theorem dX12_noPlace_24 : decode cX12_noPlace 24 = .ok (.iconst 1, 1) := by decide +kernel
theorem dX12_noPlace_25 : decode cX12_noPlace 25 = .ok (.goto 4, 3) := by decide +kernel
theorem dX12_noPlace_28 : decode cX12_noPlace 28 = .ok (.iconst 0, 1) := by decide +kernel
theorem dX12_noPlace_29 : decode cX12_noPlace 29 = .ok (.ireturn, 1) := by decide +kernel
theorem dX12_isPut_0 : decode cX12_isPut 0 = .ok (.aload_n 0, 1) := by decide +kernel
theorem dX12_isPut_1 : decode cX12_isPut 1 = .ok (.iload_n 1, 1) := by decide +kernel
theorem dX12_isPut_2 : decode cX12_isPut 2 = .ok (.iconst 3, 1) := by decide +kernel
theorem dX12_isPut_3 : decode cX12_isPut 3 = .ok (.invokevirtual 235, 3) := by decide +kernel
theorem dX12_isPut_6 : decode cX12_isPut 6 = .ok (.ifCond .le 7, 3) := by decide +kernel
theorem dX12_isPut_9 : decode cX12_isPut 9 = .ok (.iconst 1, 1) := by decide +kernel
theorem dX12_isPut_10 : decode cX12_isPut 10 = .ok (.goto 4, 3) := by decide +kernel
theorem dX12_isPut_13 : decode cX12_isPut 13 = .ok (.iconst 0, 1) := by decide +kernel
theorem dX12_isPut_14 : decode cX12_isPut 14 = .ok (.ireturn, 1) := by decide +kernel
theorem dX12_pack_0 : decode cX12_pack 0 = .ok (.aload_n 0, 1) := by decide +kernel
theorem dX12_pack_1 : decode cX12_pack 1 = .ok (.iconst 0, 1) := by decide +kernel
theorem dX12_pack_2 : decode cX12_pack 2 = .ok (.putfield 3, 3) := by decide +kernel
theorem dX12_pack_5 : decode cX12_pack 5 = .ok (.aload_n 0, 1) := by decide +kernel
theorem dX12_pack_6 : decode cX12_pack 6 = .ok (.iload_n 1, 1) := by decide +kernel
theorem dX12_pack_7 : decode cX12_pack 7 = .ok (.invokestatic 217, 3) := by decide +kernel
theorem dX12_pack_10 : decode cX12_pack 10 = .ok (.ifCond .ne 36, 3) := by decide +kernel
theorem dX12_pack_13 : decode cX12_pack 13 = .ok (.iload_n 2, 1) := by decide +kernel
theorem dX12_pack_14 : decode cX12_pack 14 = .ok (.iconst 1, 1) := by decide +kernel
theorem dX12_pack_15 : decode cX12_pack 15 = .ok (.bipush 51, 2) := by decide +kernel
theorem dX12_pack_17 : decode cX12_pack 17 = .ok (.invokestatic 55, 3) := by decide +kernel
theorem dX12_pack_20 : decode cX12_pack 20 = .ok (.ifCond .eq 26, 3) := by decide +kernel
theorem dX12_pack_23 : decode cX12_pack 23 = .ok (.iload_n 2, 1) := by decide +kernel
theorem dX12_pack_24 : decode cX12_pack 24 = .ok (.iconst 2, 1) := by decide +kernel
theorem dX12_pack_25 : decode cX12_pack 25 = .ok (.irem, 1) := by decide +kernel
theorem dX12_pack_26 : decode cX12_pack 26 = .ok (.ifCond .eq 20, 3) := by decide +kernel
theorem dX12_pack_29 : decode cX12_pack 29 = .ok (.iload_n 2, 1) := by decide +kernel
theorem dX12_pack_30 : decode cX12_pack 30 = .ok (.bipush 13, 2) := by decide +kernel
theorem dX12_pack_32 : decode cX12_pack 32 = .ok (.irem, 1) := by decide +kernel
theorem dX12_pack_33 : decode cX12_pack 33 = .ok (.ifCond .eq 13, 3) := by decide +kernel
theorem dX12_pack_36 : decode cX12_pack 36 = .ok (.iload_n 3, 1) := by decide +kernel
theorem dX12_pack_37 : decode cX12_pack 37 = .ok (.iconst 3, 1) := by decide +kernel
theorem dX12_pack_38 : decode cX12_pack 38 = .ok (.bipush 52, 2) := by decide +kernel
theorem dX12_pack_40 : decode cX12_pack 40 = .ok (.invokestatic 55, 3) := by decide +kernel
theorem dX12_pack_43 : decode cX12_pack 43 = .ok (.ifCond .ne 7, 3) := by decide +kernel
theorem dX12_pack_46 : decode cX12_pack 46 = .ok (.iconst 1, 1) := by decide +kernel
theorem dX12_pack_47 : decode cX12_pack 47 = .ok (.goto 4, 3) := by decide +kernel
theorem dX12_pack_50 : decode cX12_pack 50 = .ok (.iconst 0, 1) := by decide +kernel
theorem dX12_pack_51 : decode cX12_pack 51 = .ok (.iconst 1, 1) := by decide +kernel
theorem dX12_pack_52 : decode cX12_pack 52 = .ok (.invokevirtual 195, 3) := by decide +kernel
theorem dX12_pack_55 : decode cX12_pack 55 = .ok (.ifCond .ne 27, 3) := by decide +kernel
theorem dX12_pack_58 : decode cX12_pack 58 = .ok (.aload_n 0, 1) := by decide +kernel
theorem dX12_pack_59 : decode cX12_pack 59 = .ok (.aload_n 0, 1) := by decide +kernel
theorem dX12_pack_60 : decode cX12_pack 60 = .ok (.getfield 13, 3) := by decide +kernel
theorem dX12_pack_63 : decode cX12_pack 63 = .ok (.iconst 1, 1) := by decide +kernel
theorem dX12_pack_64 : decode cX12_pack 64 = .ok (.iaload, 1) := by decide +kernel
theorem dX12_pack_65 : decode cX12_pack 65 = .ok (.bipush 8, 2) := by decide +kernel
theorem dX12_pack_67 : decode cX12_pack 67 = .ok (.if_icmp .ne 7, 3) := by decide +kernel
theorem dX12_pack_70 : decode cX12_pack 70 = .ok (.iconst 1, 1) := by decide +kernel
theorem dX12_pack_71 : decode cX12_pack 71 = .ok (.goto 4, 3) := by decide +kernel
theorem dX12_pack_74 : decode cX12_pack 74 = .ok (.iconst 0, 1) := by decide +kernel
theorem dX12_pack_75 : decode cX12_pack 75 = .ok (.iconst 2, 1) := by decide +kernel
theorem dX12_pack_76 : decode cX12_pack 76 = .ok (.invokevirtual 195, 3) := by decide +kernel
theorem dX12_pack_79 : decode cX12_pack 79 = .ok (.ifCond .eq 5, 3) := by decide +kernel
theorem dX12_pack_82 : decode cX12_pack 82 = .ok (.iconst 0, 1) := by decide +kernel
theorem dX12_pack_83 : decode cX12_pack 83 = .ok (.ireturn, 1) := by decide +kernel
theorem dX12_pack_84 : decode cX12_pack 84 = .ok (.aload_n 0, 1) := by decide +kernel
theorem dX12_pack_85 : decode cX12_pack 85 = .ok (.getfield 13, 3) := by decide +kernel
theorem dX12_pack_88 : decode cX12_pack 88 = .ok (.iconst 1, 1) := by decide +kernel
theorem dX12_pack_89 : decode cX12_pack 89 = .ok (.iaload, 1) := by decide +kernel
theorem dX12_pack_90 : decode cX12_pack 90 = .ok (.istore 4, 2) := by decide +kernel
theorem dX12_pack_92 : decode cX12_pack 92 = .ok (.iconst 0, 1) := by decide +kernel
theorem dX12_pack_93 : decode cX12_pack 93 = .ok (.istore 5, 2) := by decide +kernel
theorem dX12_pack_95 : decode cX12_pack 95 = .ok (.iload 5, 2) := by decide +kernel
theorem dX12_pack_97 : decode cX12_pack 97 = .ok (.bipush 81, 2) := by decide +kernel
theorem dX12_pack_99 : decode cX12_pack 99 = .ok (.if_icmp .ge 18, 3) := by decide +kernel
theorem dX12_pack_102 : decode cX12_pack 102 = .ok (.aload_n 0, 1) := by decide +kernel
theorem dX12_pack_103 : decode cX12_pack 103 = .ok (.iload 4, 2) := by decide +kernel
theorem dX12_pack_105 : decode cX12_pack 105 = .ok (.iload 5, 2) := by decide +kernel
theorem dX12_pack_107 : decode cX12_pack 107 = .ok (.iconst 0, 1) := by decide +kernel
theorem dX12_pack_108 : decode cX12_pack 108 = .ok (.invokevirtual 244, 3) := by decide +kernel
theorem dX12_pack_111 : decode cX12_pack 111 = .ok (.iinc 5 1, 3) := by decide +kernel
theorem dX12_pack_114 : decode cX12_pack 114 = .ok (.goto (-19), 3) := by decide +kernel
theorem dX12_pack_117 : decode cX12_pack 117 = .ok (.iconst 0, 1) := by decide +kernel
theorem dX12_pack_118 : decode cX12_pack 118 = .ok (.istore 5, 2) := by decide +kernel
theorem dX12_pack_120 : decode cX12_pack 120 = .ok (.iload 5, 2) := by decide +kernel
theorem dX12_pack_122 : decode cX12_pack 122 = .ok (.bipush 52, 2) := by decide +kernel
theorem dX12_pack_124 : decode cX12_pack 124 = .ok (.if_icmp .ge 21, 3) := by decide +kernel
theorem dX12_pack_127 : decode cX12_pack 127 = .ok (.aload_n 0, 1) := by decide +kernel
theorem dX12_pack_128 : decode cX12_pack 128 = .ok (.iload 4, 2) := by decide +kernel
theorem dX12_pack_130 : decode cX12_pack 130 = .ok (.bipush 29, 2) := by decide +kernel
theorem dX12_pack_132 : decode cX12_pack 132 = .ok (.iload 5, 2) := by decide +kernel
theorem dX12_pack_134 : decode cX12_pack 134 = .ok (.iadd, 1) := by decide +kernel
theorem dX12_pack_135 : decode cX12_pack 135 = .ok (.iconst (-1), 1) := by decide +kernel
theorem dX12_pack_136 : decode cX12_pack 136 = .ok (.invokevirtual 244, 3) := by decide +kernel
theorem dX12_pack_139 : decode cX12_pack 139 = .ok (.iinc 5 1, 3) := by decide +kernel
theorem dX12_pack_142 : decode cX12_pack 142 = .ok (.goto (-22), 3) := by decide +kernel
theorem dX12_pack_145 : decode cX12_pack 145 = .ok (.aload_n 0, 1) := by decide +kernel
theorem dX12_pack_146 : decode cX12_pack 146 = .ok (.iload 4, 2) := by decide +kernel
theorem dX12_pack_148 : decode cX12_pack 148 = .ok (.iconst 0, 1) := by decide +kernel
theorem dX12_pack_149 : decode cX12_pack 149 = .ok (.iload_n 1, 1) := by decide +kernel
theorem dX12_pack_150 : decode cX12_pack 150 = .ok (.invokevirtual 244, 3) := by decide +kernel
theorem dX12_pack_153 : decode cX12_pack 153 = .ok (.aload_n 0, 1) := by decide +kernel
theorem dX12_pack_154 : decode cX12_pack 154 = .ok (.iload 4, 2) := by decide +kernel
theorem dX12_pack_156 : decode cX12_pack 156 = .ok (.iconst 1, 1) := by decide +kernel
theorem dX12_pack_157 : decode cX12_pack 157 = .ok (.iload_n 2, 1) := by decide +kernel
theorem dX12_pack_158 : decode cX12_pack 158 = .ok (.invokevirtual 244, 3) := by decide +kernel
theorem dX12_pack_161 : decode cX12_pack 161 = .ok (.aload_n 0, 1) := by decide +kernel
theorem dX12_pack_162 : decode cX12_pack 162 = .ok (.iload 4, 2) := by decide +kernel
theorem dX12_pack_164 : decode cX12_pack 164 = .ok (.iconst 2, 1) := by decide +kernel
theorem dX12_pack_165 : decode cX12_pack 165 = .ok (.iload_n 3, 1) := by decide +kernel
theorem dX12_pack_166 : decode cX12_pack 166 = .ok (.invokevirtual 244, 3) := by decide +kernel
theorem dX12_pack_169 : decode cX12_pack 169 = .ok (.aload_n 0, 1) := by decide +kernel
theorem dX12_pack_170 : decode cX12_pack 170 = .ok (.iload 4, 2) := by decide +kernel
theorem dX12_pack_172 : decode cX12_pack 172 = .ok (.bipush 6, 2) := by decide +kernel
theorem dX12_pack_174 : decode cX12_pack 174 = .ok (.iconst 1, 1) := by decide +kernel
theorem dX12_pack_175 : decode cX12_pack 175 = .ok (.invokevirtual 244, 3) := by decide +kernel
theorem dX12_pack_178 : decode cX12_pack 178 = .ok (.aload_n 0, 1) := by decide +kernel
theorem dX12_pack_179 : decode cX12_pack 179 = .ok (.getfield 13, 3) := by decide +kernel
theorem dX12_pack_182 : decode cX12_pack 182 = .ok (.iconst 1, 1) := by decide +kernel
theorem dX12_pack_183 : decode cX12_pack 183 = .ok (.dup2, 1) := by decide +kernel
theorem dX12_pack_184 : decode cX12_pack 184 = .ok (.iaload, 1) := by decide +kernel
theorem dX12_pack_185 : decode cX12_pack 185 = .ok (.iconst 1, 1) := by decide +kernel
theorem dX12_pack_186 : decode cX12_pack 186 = .ok (.iadd, 1) := by decide +kernel
theorem dX12_pack_187 : decode cX12_pack 187 = .ok (.iastore, 1) := by decide +kernel
theorem dX12_pack_188 : decode cX12_pack 188 = .ok (.iload 4, 2) := by decide +kernel
theorem dX12_pack_190 : decode cX12_pack 190 = .ok (.ireturn, 1) := by decide +kernel
theorem dX12_card_0 : decode cX12_card 0 = .ok (.aload_n 0, 1) := by decide +kernel
theorem dX12_card_1 : decode cX12_card 1 = .ok (.iconst 0, 1) := by decide +kernel
theorem dX12_card_2 : decode cX12_card 2 = .ok (.putfield 3, 3) := by decide +kernel
theorem dX12_card_5 : decode cX12_card 5 = .ok (.aload_n 0, 1) := by decide +kernel
theorem dX12_card_6 : decode cX12_card 6 = .ok (.aload_n 0, 1) := by decide +kernel
theorem dX12_card_7 : decode cX12_card 7 = .ok (.iload_n 1, 1) := by decide +kernel
theorem dX12_card_8 : decode cX12_card 8 = .ok (.iload_n 2, 1) := by decide +kernel
theorem dX12_card_9 : decode cX12_card 9 = .ok (.invokevirtual 248, 3) := by decide +kernel
theorem dX12_card_12 : decode cX12_card 12 = .ok (.iconst 1, 1) := by decide +kernel
theorem dX12_card_13 : decode cX12_card 13 = .ok (.invokevirtual 195, 3) := by decide +kernel
theorem dX12_card_16 : decode cX12_card 16 = .ok (.ifCond .eq 7, 3) := by decide +kernel
theorem dX12_card_19 : decode cX12_card 19 = .ok (.iconst 0, 1) := by decide +kernel
theorem dX12_card_20 : decode cX12_card 20 = .ok (.goto 9, 3) := by decide +kernel
theorem dX12_card_23 : decode cX12_card 23 = .ok (.aload_n 0, 1) := by decide +kernel
theorem dX12_card_24 : decode cX12_card 24 = .ok (.iload_n 1, 1) := by decide +kernel
theorem dX12_card_25 : decode cX12_card 25 = .ok (.iload_n 2, 1) := by decide +kernel
theorem dX12_card_26 : decode cX12_card 26 = .ok (.invokevirtual 251, 3) := by decide +kernel
theorem dX12_card_29 : decode cX12_card 29 = .ok (.ireturn, 1) := by decide +kernel
theorem dX12_noSeconds_0 : decode cX12_noSeconds 0 = .ok (.iload_n 0, 1) := by decide +kernel
theorem dX12_noSeconds_1 : decode cX12_noSeconds 1 = .ok (.iconst 1, 1) := by decide +kernel
theorem dX12_noSeconds_2 : decode cX12_noSeconds 2 = .ok (.bipush 60, 2) := by decide +kernel
theorem dX12_noSeconds_4 : decode cX12_noSeconds 4 = .ok (.invokestatic 55, 3) := by decide +kernel
theorem dX12_noSeconds_7 : decode cX12_noSeconds 7 = .ok (.ifCond .ne 7, 3) := by decide +kernel
theorem dX12_noSeconds_10 : decode cX12_noSeconds 10 = .ok (.iconst 1, 1) := by decide +kernel
theorem dX12_noSeconds_11 : decode cX12_noSeconds 11 = .ok (.goto 4, 3) := by decide +kernel
theorem dX12_noSeconds_14 : decode cX12_noSeconds 14 = .ok (.iconst 0, 1) := by decide +kernel
theorem dX12_noSeconds_15 : decode cX12_noSeconds 15 = .ok (.ireturn, 1) := by decide +kernel
theorem dX12_touches_0 : decode cX12_touches 0 = .ok (.iconst 0, 1) := by decide +kernel
theorem dX12_touches_1 : decode cX12_touches 1 = .ok (.istore_n 3, 1) := by decide +kernel
theorem dX12_touches_2 : decode cX12_touches 2 = .ok (.iload_n 3, 1) := by decide +kernel
theorem dX12_touches_3 : decode cX12_touches 3 = .ok (.aload_n 0, 1) := by decide +kernel
theorem dX12_touches_4 : decode cX12_touches 4 = .ok (.iload_n 1, 1) := by decide +kernel
theorem dX12_touches_5 : decode cX12_touches 5 = .ok (.invokevirtual 254, 3) := by decide +kernel
theorem dX12_touches_8 : decode cX12_touches 8 = .ok (.if_icmp .ge 29, 3) := by decide +kernel
theorem dX12_touches_11 : decode cX12_touches 11 = .ok (.aload_n 0, 1) := by decide +kernel
theorem dX12_touches_12 : decode cX12_touches 12 = .ok (.iload_n 1, 1) := by decide +kernel
theorem dX12_touches_13 : decode cX12_touches 13 = .ok (.bipush 9, 2) := by decide +kernel
theorem dX12_touches_15 : decode cX12_touches 15 = .ok (.iload_n 3, 1) := by decide +kernel
theorem dX12_touches_16 : decode cX12_touches 16 = .ok (.iadd, 1) := by decide +kernel
theorem dX12_touches_17 : decode cX12_touches 17 = .ok (.aload_n 0, 1) := by decide +kernel
theorem dX12_touches_18 : decode cX12_touches 18 = .ok (.getfield 13, 3) := by decide +kernel
theorem dX12_touches_21 : decode cX12_touches 21 = .ok (.bipush 6, 2) := by decide +kernel
theorem dX12_touches_23 : decode cX12_touches 23 = .ok (.iaload, 1) := by decide +kernel
theorem dX12_touches_24 : decode cX12_touches 24 = .ok (.iload_n 3, 1) := by decide +kernel
theorem dX12_touches_25 : decode cX12_touches 25 = .ok (.iload_n 2, 1) := by decide +kernel
theorem dX12_touches_26 : decode cX12_touches 26 = .ok (.imul, 1) := by decide +kernel
theorem dX12_touches_27 : decode cX12_touches 27 = .ok (.iadd, 1) := by decide +kernel
theorem dX12_touches_28 : decode cX12_touches 28 = .ok (.invokevirtual 244, 3) := by decide +kernel
theorem dX12_touches_31 : decode cX12_touches 31 = .ok (.iinc 3 1, 3) := by decide +kernel
theorem dX12_touches_34 : decode cX12_touches 34 = .ok (.goto (-32), 3) := by decide +kernel
theorem dX12_touches_37 : decode cX12_touches 37 = .ok (.aload_n 0, 1) := by decide +kernel
theorem dX12_touches_38 : decode cX12_touches 38 = .ok (.getfield 13, 3) := by decide +kernel
theorem dX12_touches_41 : decode cX12_touches 41 = .ok (.bipush 6, 2) := by decide +kernel
theorem dX12_touches_43 : decode cX12_touches 43 = .ok (.dup2, 1) := by decide +kernel
theorem dX12_touches_44 : decode cX12_touches 44 = .ok (.iaload, 1) := by decide +kernel
theorem dX12_touches_45 : decode cX12_touches 45 = .ok (.aload_n 0, 1) := by decide +kernel
theorem dX12_touches_46 : decode cX12_touches 46 = .ok (.iload_n 1, 1) := by decide +kernel
theorem dX12_touches_47 : decode cX12_touches 47 = .ok (.invokevirtual 254, 3) := by decide +kernel
theorem dX12_touches_50 : decode cX12_touches 50 = .ok (.iload_n 2, 1) := by decide +kernel
theorem dX12_touches_51 : decode cX12_touches 51 = .ok (.imul, 1) := by decide +kernel
theorem dX12_touches_52 : decode cX12_touches 52 = .ok (.iadd, 1) := by decide +kernel
theorem dX12_touches_53 : decode cX12_touches 53 = .ok (.iastore, 1) := by decide +kernel
theorem dX12_touches_54 : decode cX12_touches 54 = .ok (.return_, 1) := by decide +kernel
theorem dX12_put_0 : decode cX12_put 0 = .ok (.aload_n 0, 1) := by decide +kernel
theorem dX12_put_1 : decode cX12_put 1 = .ok (.iconst 0, 1) := by decide +kernel
theorem dX12_put_2 : decode cX12_put 2 = .ok (.putfield 3, 3) := by decide +kernel
theorem dX12_put_5 : decode cX12_put 5 = .ok (.aload_n 0, 1) := by decide +kernel
theorem dX12_put_6 : decode cX12_put 6 = .ok (.aload_n 0, 1) := by decide +kernel
theorem dX12_put_7 : decode cX12_put 7 = .ok (.iload_n 1, 1) := by decide +kernel
theorem dX12_put_8 : decode cX12_put 8 = .ok (.invokevirtual 241, 3) := by decide +kernel
theorem dX12_put_11 : decode cX12_put 11 = .ok (.ifCond .ne 12, 3) := by decide +kernel
theorem dX12_put_14 : decode cX12_put 14 = .ok (.aload_n 0, 1) := by decide +kernel
theorem dX12_put_15 : decode cX12_put 15 = .ok (.iload_n 2, 1) := by decide +kernel
theorem dX12_put_16 : decode cX12_put 16 = .ok (.iload_n 3, 1) := by decide +kernel
theorem dX12_put_17 : decode cX12_put 17 = .ok (.invokevirtual 232, 3) := by decide +kernel
theorem dX12_put_20 : decode cX12_put 20 = .ok (.ifCond .eq 7, 3) := by decide +kernel
theorem dX12_put_23 : decode cX12_put 23 = .ok (.iconst 1, 1) := by decide +kernel
theorem dX12_put_24 : decode cX12_put 24 = .ok (.goto 4, 3) := by decide +kernel
theorem dX12_put_27 : decode cX12_put 27 = .ok (.iconst 0, 1) := by decide +kernel
theorem dX12_put_28 : decode cX12_put 28 = .ok (.iconst 1, 1) := by decide +kernel
theorem dX12_put_29 : decode cX12_put 29 = .ok (.invokevirtual 195, 3) := by decide +kernel
theorem dX12_put_32 : decode cX12_put 32 = .ok (.ifCond .ne 16, 3) := by decide +kernel
theorem dX12_put_35 : decode cX12_put 35 = .ok (.aload_n 0, 1) := by decide +kernel
theorem dX12_put_36 : decode cX12_put 36 = .ok (.aload_n 0, 1) := by decide +kernel
theorem dX12_put_37 : decode cX12_put 37 = .ok (.iload_n 1, 1) := by decide +kernel
theorem dX12_put_38 : decode cX12_put 38 = .ok (.invokevirtual 257, 3) := by decide +kernel
theorem dX12_put_41 : decode cX12_put 41 = .ok (.iconst 2, 1) := by decide +kernel
theorem dX12_put_42 : decode cX12_put 42 = .ok (.invokevirtual 195, 3) := by decide +kernel
theorem dX12_put_45 : decode cX12_put 45 = .ok (.ifCond .eq 5, 3) := by decide +kernel
theorem dX12_put_48 : decode cX12_put 48 = .ok (.iconst 0, 1) := by decide +kernel
theorem dX12_put_49 : decode cX12_put 49 = .ok (.ireturn, 1) := by decide +kernel
theorem dX12_put_50 : decode cX12_put 50 = .ok (.iload 4, 2) := by decide +kernel
theorem dX12_put_52 : decode cX12_put 52 = .ok (.iconst 1, 1) := by decide +kernel
theorem dX12_put_53 : decode cX12_put 53 = .ok (.iconst 3, 1) := by decide +kernel
theorem dX12_put_54 : decode cX12_put 54 = .ok (.invokestatic 55, 3) := by decide +kernel
theorem dX12_put_57 : decode cX12_put 57 = .ok (.ifCond .eq 11, 3) := by decide +kernel
theorem dX12_put_60 : decode cX12_put 60 = .ok (.iload 5, 2) := by decide +kernel
theorem dX12_put_62 : decode cX12_put 62 = .ok (.invokestatic 260, 3) := by decide +kernel
theorem dX12_put_65 : decode cX12_put 65 = .ok (.ifCond .eq 7, 3) := by decide +kernel
theorem dX12_put_68 : decode cX12_put 68 = .ok (.iconst 1, 1) := by decide +kernel
theorem dX12_put_69 : decode cX12_put 69 = .ok (.goto 4, 3) := by decide +kernel
theorem dX12_put_72 : decode cX12_put 72 = .ok (.iconst 0, 1) := by decide +kernel
theorem dX12_put_73 : decode cX12_put 73 = .ok (.istore 6, 2) := by decide +kernel
theorem dX12_put_75 : decode cX12_put 75 = .ok (.iload 6, 2) := by decide +kernel
theorem dX12_put_77 : decode cX12_put 77 = .ok (.ifCond .eq 7, 3) := by decide +kernel
theorem dX12_put_80 : decode cX12_put 80 = .ok (.iconst 0, 1) := by decide +kernel
theorem dX12_put_81 : decode cX12_put 81 = .ok (.goto 14, 3) := by decide +kernel
theorem dX12_put_84 : decode cX12_put 84 = .ok (.aload_n 0, 1) := by decide +kernel
theorem dX12_put_85 : decode cX12_put 85 = .ok (.iload_n 1, 1) := by decide +kernel
theorem dX12_put_86 : decode cX12_put 86 = .ok (.iconst 2, 1) := by decide +kernel
theorem dX12_put_87 : decode cX12_put 87 = .ok (.invokevirtual 235, 3) := by decide +kernel
theorem dX12_put_90 : decode cX12_put 90 = .ok (.iload 4, 2) := by decide +kernel
theorem dX12_put_92 : decode cX12_put 92 = .ok (.invokestatic 238, 3) := by decide +kernel
theorem dX12_put_95 : decode cX12_put 95 = .ok (.istore 7, 2) := by decide +kernel
theorem dX12_put_97 : decode cX12_put 97 = .ok (.aload_n 0, 1) := by decide +kernel
theorem dX12_put_98 : decode cX12_put 98 = .ok (.iload 6, 2) := by decide +kernel
theorem dX12_put_100 : decode cX12_put 100 = .ok (.ifCond .ne 34, 3) := by decide +kernel
theorem dX12_put_103 : decode cX12_put 103 = .ok (.iload_n 3, 1) := by decide +kernel
theorem dX12_put_104 : decode cX12_put 104 = .ok (.iload 7, 2) := by decide +kernel
theorem dX12_put_106 : decode cX12_put 106 = .ok (.iadd, 1) := by decide +kernel
theorem dX12_put_107 : decode cX12_put 107 = .ok (.aload_n 0, 1) := by decide +kernel
theorem dX12_put_108 : decode cX12_put 108 = .ok (.iload_n 2, 1) := by decide +kernel
theorem dX12_put_109 : decode cX12_put 109 = .ok (.invokevirtual 229, 3) := by decide +kernel
theorem dX12_put_112 : decode cX12_put 112 = .ok (.if_icmp .gt 22, 3) := by decide +kernel
theorem dX12_put_115 : decode cX12_put 115 = .ok (.aload_n 0, 1) := by decide +kernel
theorem dX12_put_116 : decode cX12_put 116 = .ok (.getfield 13, 3) := by decide +kernel
theorem dX12_put_119 : decode cX12_put 119 = .ok (.bipush 6, 2) := by decide +kernel
theorem dX12_put_121 : decode cX12_put 121 = .ok (.iaload, 1) := by decide +kernel
theorem dX12_put_122 : decode cX12_put 122 = .ok (.iload 7, 2) := by decide +kernel
theorem dX12_put_124 : decode cX12_put 124 = .ok (.iload 5, 2) := by decide +kernel
theorem dX12_put_126 : decode cX12_put 126 = .ok (.imul, 1) := by decide +kernel
theorem dX12_put_127 : decode cX12_put 127 = .ok (.iadd, 1) := by decide +kernel
theorem dX12_put_128 : decode cX12_put 128 = .ok (.ldc_w 263, 3) := by decide +kernel
theorem dX12_put_131 : decode cX12_put 131 = .ok (.if_icmp .le 7, 3) := by decide +kernel
theorem dX12_put_134 : decode cX12_put 134 = .ok (.iconst 1, 1) := by decide +kernel
theorem dX12_put_135 : decode cX12_put 135 = .ok (.goto 4, 3) := by decide +kernel
theorem dX12_put_138 : decode cX12_put 138 = .ok (.iconst 0, 1) := by decide +kernel
theorem dX12_put_139 : decode cX12_put 139 = .ok (.iconst 3, 1) := by decide +kernel
theorem dX12_put_140 : decode cX12_put 140 = .ok (.invokevirtual 195, 3) := by decide +kernel
theorem dX12_put_143 : decode cX12_put 143 = .ok (.ifCond .eq 5, 3) := by decide +kernel
theorem dX12_put_146 : decode cX12_put 146 = .ok (.iconst 0, 1) := by decide +kernel
theorem dX12_put_147 : decode cX12_put 147 = .ok (.ireturn, 1) := by decide +kernel
theorem dX12_put_148 : decode cX12_put 148 = .ok (.aload_n 0, 1) := by decide +kernel
theorem dX12_put_149 : decode cX12_put 149 = .ok (.getfield 13, 3) := by decide +kernel
theorem dX12_put_152 : decode cX12_put 152 = .ok (.bipush 7, 2) := by decide +kernel
theorem dX12_put_154 : decode cX12_put 154 = .ok (.dup2, 1) := by decide +kernel
theorem dX12_put_155 : decode cX12_put 155 = .ok (.iaload, 1) := by decide +kernel
theorem dX12_put_156 : decode cX12_put 156 = .ok (.iconst 1, 1) := by decide +kernel
theorem dX12_put_157 : decode cX12_put 157 = .ok (.iadd, 1) := by decide +kernel
theorem dX12_put_158 : decode cX12_put 158 = .ok (.iastore, 1) := by decide +kernel
theorem dX12_put_159 : decode cX12_put 159 = .ok (.aload_n 0, 1) := by decide +kernel
theorem dX12_put_160 : decode cX12_put 160 = .ok (.iload_n 1, 1) := by decide +kernel
theorem dX12_put_161 : decode cX12_put 161 = .ok (.iconst 3, 1) := by decide +kernel
theorem dX12_put_162 : decode cX12_put 162 = .ok (.aload_n 0, 1) := by decide +kernel
theorem dX12_put_163 : decode cX12_put 163 = .ok (.getfield 13, 3) := by decide +kernel
theorem dX12_put_166 : decode cX12_put 166 = .ok (.bipush 7, 2) := by decide +kernel
theorem dX12_put_168 : decode cX12_put 168 = .ok (.iaload, 1) := by decide +kernel
theorem dX12_put_169 : decode cX12_put 169 = .ok (.invokevirtual 244, 3) := by decide +kernel
theorem dX12_put_172 : decode cX12_put 172 = .ok (.aload_n 0, 1) := by decide +kernel
theorem dX12_put_173 : decode cX12_put 173 = .ok (.iload_n 1, 1) := by decide +kernel
theorem dX12_put_174 : decode cX12_put 174 = .ok (.iconst 4, 1) := by decide +kernel
theorem dX12_put_175 : decode cX12_put 175 = .ok (.iload_n 2, 1) := by decide +kernel
theorem dX12_put_176 : decode cX12_put 176 = .ok (.invokevirtual 244, 3) := by decide +kernel
theorem dX12_put_179 : decode cX12_put 179 = .ok (.aload_n 0, 1) := by decide +kernel
theorem dX12_put_180 : decode cX12_put 180 = .ok (.iload_n 1, 1) := by decide +kernel
theorem dX12_put_181 : decode cX12_put 181 = .ok (.iconst 5, 1) := by decide +kernel
theorem dX12_put_182 : decode cX12_put 182 = .ok (.iload_n 3, 1) := by decide +kernel
theorem dX12_put_183 : decode cX12_put 183 = .ok (.invokevirtual 244, 3) := by decide +kernel
theorem dX12_put_186 : decode cX12_put 186 = .ok (.aload_n 0, 1) := by decide +kernel
theorem dX12_put_187 : decode cX12_put 187 = .ok (.iload_n 1, 1) := by decide +kernel
theorem dX12_put_188 : decode cX12_put 188 = .ok (.bipush 6, 2) := by decide +kernel
theorem dX12_put_190 : decode cX12_put 190 = .ok (.iload 4, 2) := by decide +kernel
theorem dX12_put_192 : decode cX12_put 192 = .ok (.invokevirtual 244, 3) := by decide +kernel
theorem dX12_put_195 : decode cX12_put 195 = .ok (.aload_n 0, 1) := by decide +kernel
theorem dX12_put_196 : decode cX12_put 196 = .ok (.iload_n 1, 1) := by decide +kernel
theorem dX12_put_197 : decode cX12_put 197 = .ok (.bipush 7, 2) := by decide +kernel
theorem dX12_put_199 : decode cX12_put 199 = .ok (.iload 5, 2) := by decide +kernel
theorem dX12_put_201 : decode cX12_put 201 = .ok (.invokevirtual 244, 3) := by decide +kernel
theorem dX12_put_204 : decode cX12_put 204 = .ok (.aload_n 0, 1) := by decide +kernel
theorem dX12_put_205 : decode cX12_put 205 = .ok (.iload_n 1, 1) := by decide +kernel
theorem dX12_put_206 : decode cX12_put 206 = .ok (.iload 5, 2) := by decide +kernel
theorem dX12_put_208 : decode cX12_put 208 = .ok (.invokevirtual 264, 3) := by decide +kernel
theorem dX12_put_211 : decode cX12_put 211 = .ok (.iload 7, 2) := by decide +kernel
theorem dX12_put_213 : decode cX12_put 213 = .ok (.ireturn, 1) := by decide +kernel
theorem dX12_later_0 : decode cX12_later 0 = .ok (.aload_n 0, 1) := by decide +kernel
theorem dX12_later_1 : decode cX12_later 1 = .ok (.iconst 0, 1) := by decide +kernel
theorem dX12_later_2 : decode cX12_later 2 = .ok (.putfield 3, 3) := by decide +kernel
theorem dX12_later_5 : decode cX12_later 5 = .ok (.aload_n 0, 1) := by decide +kernel
theorem dX12_later_6 : decode cX12_later 6 = .ok (.iload_n 1, 1) := by decide +kernel
theorem dX12_later_7 : decode cX12_later 7 = .ok (.ifCond .lt 18, 3) := by decide +kernel
theorem dX12_later_10 : decode cX12_later 10 = .ok (.iload_n 1, 1) := by decide +kernel
theorem dX12_later_11 : decode cX12_later 11 = .ok (.ldc_w 263, 3) := by decide +kernel
theorem dX12_later_14 : decode cX12_later 14 = .ok (.aload_n 0, 1) := by decide +kernel
theorem dX12_later_15 : decode cX12_later 15 = .ok (.getfield 13, 3) := by decide +kernel
theorem dX12_later_18 : decode cX12_later 18 = .ok (.bipush 6, 2) := by decide +kernel
theorem dX12_later_20 : decode cX12_later 20 = .ok (.iaload, 1) := by decide +kernel
theorem dX12_later_21 : decode cX12_later 21 = .ok (.isub, 1) := by decide +kernel
theorem dX12_later_22 : decode cX12_later 22 = .ok (.if_icmp .le 7, 3) := by decide +kernel
theorem dX12_later_25 : decode cX12_later 25 = .ok (.iconst 1, 1) := by decide +kernel
theorem dX12_later_26 : decode cX12_later 26 = .ok (.goto 4, 3) := by decide +kernel
theorem dX12_later_29 : decode cX12_later 29 = .ok (.iconst 0, 1) := by decide +kernel
theorem dX12_later_30 : decode cX12_later 30 = .ok (.iconst 1, 1) := by decide +kernel
theorem dX12_later_31 : decode cX12_later 31 = .ok (.invokevirtual 195, 3) := by decide +kernel
theorem dX12_later_34 : decode cX12_later 34 = .ok (.ifCond .eq 5, 3) := by decide +kernel
theorem dX12_later_37 : decode cX12_later 37 = .ok (.iconst 0, 1) := by decide +kernel
theorem dX12_later_38 : decode cX12_later 38 = .ok (.ireturn, 1) := by decide +kernel
theorem dX12_later_39 : decode cX12_later 39 = .ok (.aload_n 0, 1) := by decide +kernel
theorem dX12_later_40 : decode cX12_later 40 = .ok (.getfield 13, 3) := by decide +kernel
theorem dX12_later_43 : decode cX12_later 43 = .ok (.bipush 6, 2) := by decide +kernel
theorem dX12_later_45 : decode cX12_later 45 = .ok (.dup2, 1) := by decide +kernel
theorem dX12_later_46 : decode cX12_later 46 = .ok (.iaload, 1) := by decide +kernel
theorem dX12_later_47 : decode cX12_later 47 = .ok (.iload_n 1, 1) := by decide +kernel
theorem dX12_later_48 : decode cX12_later 48 = .ok (.iadd, 1) := by decide +kernel
theorem dX12_later_49 : decode cX12_later 49 = .ok (.iastore, 1) := by decide +kernel
theorem dX12_later_50 : decode cX12_later 50 = .ok (.aload_n 0, 1) := by decide +kernel
theorem dX12_later_51 : decode cX12_later 51 = .ok (.getfield 13, 3) := by decide +kernel
theorem dX12_later_54 : decode cX12_later 54 = .ok (.bipush 6, 2) := by decide +kernel
theorem dX12_later_56 : decode cX12_later 56 = .ok (.iaload, 1) := by decide +kernel
theorem dX12_later_57 : decode cX12_later 57 = .ok (.ireturn, 1) := by decide +kernel
theorem dX12_go_0 : decode cX12_go 0 = .ok (.aload_n 0, 1) := by decide +kernel
theorem dX12_go_1 : decode cX12_go 1 = .ok (.iconst 0, 1) := by decide +kernel
theorem dX12_go_2 : decode cX12_go 2 = .ok (.putfield 3, 3) := by decide +kernel
theorem dX12_go_5 : decode cX12_go 5 = .ok (.aload_n 0, 1) := by decide +kernel
theorem dX12_go_6 : decode cX12_go 6 = .ok (.aload_n 0, 1) := by decide +kernel
theorem dX12_go_7 : decode cX12_go 7 = .ok (.iload_n 1, 1) := by decide +kernel
theorem dX12_go_8 : decode cX12_go 8 = .ok (.invokevirtual 241, 3) := by decide +kernel
theorem dX12_go_11 : decode cX12_go 11 = .ok (.iconst 1, 1) := by decide +kernel
theorem dX12_go_12 : decode cX12_go 12 = .ok (.invokevirtual 195, 3) := by decide +kernel
theorem dX12_go_15 : decode cX12_go 15 = .ok (.ifCond .ne 65, 3) := by decide +kernel
theorem dX12_go_18 : decode cX12_go 18 = .ok (.aload_n 0, 1) := by decide +kernel
theorem dX12_go_19 : decode cX12_go 19 = .ok (.aload_n 0, 1) := by decide +kernel
theorem dX12_go_20 : decode cX12_go 20 = .ok (.iload_n 1, 1) := by decide +kernel
theorem dX12_go_21 : decode cX12_go 21 = .ok (.invokevirtual 257, 3) := by decide +kernel
theorem dX12_go_24 : decode cX12_go 24 = .ok (.ifCond .ne 7, 3) := by decide +kernel
theorem dX12_go_27 : decode cX12_go 27 = .ok (.iconst 1, 1) := by decide +kernel
theorem dX12_go_28 : decode cX12_go 28 = .ok (.goto 4, 3) := by decide +kernel
theorem dX12_go_31 : decode cX12_go 31 = .ok (.iconst 0, 1) := by decide +kernel
theorem dX12_go_32 : decode cX12_go 32 = .ok (.iconst 2, 1) := by decide +kernel
theorem dX12_go_33 : decode cX12_go 33 = .ok (.invokevirtual 195, 3) := by decide +kernel
theorem dX12_go_36 : decode cX12_go 36 = .ok (.ifCond .ne 44, 3) := by decide +kernel
theorem dX12_go_39 : decode cX12_go 39 = .ok (.aload_n 0, 1) := by decide +kernel
theorem dX12_go_40 : decode cX12_go 40 = .ok (.iload_n 2, 1) := by decide +kernel
theorem dX12_go_41 : decode cX12_go 41 = .ok (.invokestatic 260, 3) := by decide +kernel
theorem dX12_go_44 : decode cX12_go 44 = .ok (.ifCond .ne 24, 3) := by decide +kernel
theorem dX12_go_47 : decode cX12_go 47 = .ok (.aload_n 0, 1) := by decide +kernel
theorem dX12_go_48 : decode cX12_go 48 = .ok (.getfield 13, 3) := by decide +kernel
theorem dX12_go_51 : decode cX12_go 51 = .ok (.bipush 6, 2) := by decide +kernel
theorem dX12_go_53 : decode cX12_go 53 = .ok (.iaload, 1) := by decide +kernel
theorem dX12_go_54 : decode cX12_go 54 = .ok (.aload_n 0, 1) := by decide +kernel
theorem dX12_go_55 : decode cX12_go 55 = .ok (.iload_n 1, 1) := by decide +kernel
theorem dX12_go_56 : decode cX12_go 56 = .ok (.invokevirtual 254, 3) := by decide +kernel
theorem dX12_go_59 : decode cX12_go 59 = .ok (.iload_n 2, 1) := by decide +kernel
theorem dX12_go_60 : decode cX12_go 60 = .ok (.imul, 1) := by decide +kernel
theorem dX12_go_61 : decode cX12_go 61 = .ok (.iadd, 1) := by decide +kernel
theorem dX12_go_62 : decode cX12_go 62 = .ok (.ldc_w 263, 3) := by decide +kernel
theorem dX12_go_65 : decode cX12_go 65 = .ok (.if_icmp .le 7, 3) := by decide +kernel
theorem dX12_go_68 : decode cX12_go 68 = .ok (.iconst 1, 1) := by decide +kernel
theorem dX12_go_69 : decode cX12_go 69 = .ok (.goto 4, 3) := by decide +kernel
theorem dX12_go_72 : decode cX12_go 72 = .ok (.iconst 0, 1) := by decide +kernel
theorem dX12_go_73 : decode cX12_go 73 = .ok (.iconst 3, 1) := by decide +kernel
theorem dX12_go_74 : decode cX12_go 74 = .ok (.invokevirtual 195, 3) := by decide +kernel
theorem dX12_go_77 : decode cX12_go 77 = .ok (.ifCond .eq 5, 3) := by decide +kernel
theorem dX12_go_80 : decode cX12_go 80 = .ok (.iconst 0, 1) := by decide +kernel
theorem dX12_go_81 : decode cX12_go 81 = .ok (.ireturn, 1) := by decide +kernel
theorem dX12_go_82 : decode cX12_go 82 = .ok (.aload_n 0, 1) := by decide +kernel
theorem dX12_go_83 : decode cX12_go 83 = .ok (.iload_n 1, 1) := by decide +kernel
theorem dX12_go_84 : decode cX12_go 84 = .ok (.iload_n 2, 1) := by decide +kernel
theorem dX12_go_85 : decode cX12_go 85 = .ok (.invokevirtual 264, 3) := by decide +kernel
theorem dX12_go_88 : decode cX12_go 88 = .ok (.aload_n 0, 1) := by decide +kernel
theorem dX12_go_89 : decode cX12_go 89 = .ok (.iload_n 1, 1) := by decide +kernel
theorem dX12_go_90 : decode cX12_go 90 = .ok (.bipush 8, 2) := by decide +kernel
theorem dX12_go_92 : decode cX12_go 92 = .ok (.aload_n 0, 1) := by decide +kernel
theorem dX12_go_93 : decode cX12_go 93 = .ok (.iload_n 1, 1) := by decide +kernel
theorem dX12_go_94 : decode cX12_go 94 = .ok (.bipush 8, 2) := by decide +kernel
theorem dX12_go_96 : decode cX12_go 96 = .ok (.invokevirtual 235, 3) := by decide +kernel
theorem dX12_go_99 : decode cX12_go 99 = .ok (.iconst 1, 1) := by decide +kernel
theorem dX12_go_100 : decode cX12_go 100 = .ok (.iadd, 1) := by decide +kernel
theorem dX12_go_101 : decode cX12_go 101 = .ok (.invokevirtual 244, 3) := by decide +kernel
theorem dX12_go_104 : decode cX12_go 104 = .ok (.aload_n 0, 1) := by decide +kernel
theorem dX12_go_105 : decode cX12_go 105 = .ok (.iload_n 1, 1) := by decide +kernel
theorem dX12_go_106 : decode cX12_go 106 = .ok (.bipush 8, 2) := by decide +kernel
theorem dX12_go_108 : decode cX12_go 108 = .ok (.invokevirtual 235, 3) := by decide +kernel
theorem dX12_go_111 : decode cX12_go 111 = .ok (.ireturn, 1) := by decide +kernel
theorem dX12_placeAt_0 : decode cX12_placeAt 0 = .ok (.iload_n 3, 1) := by decide +kernel
theorem dX12_placeAt_1 : decode cX12_placeAt 1 = .ok (.aload_n 0, 1) := by decide +kernel
theorem dX12_placeAt_2 : decode cX12_placeAt 2 = .ok (.iload_n 1, 1) := by decide +kernel
theorem dX12_placeAt_3 : decode cX12_placeAt 3 = .ok (.iconst 5, 1) := by decide +kernel
theorem dX12_placeAt_4 : decode cX12_placeAt 4 = .ok (.invokevirtual 235, 3) := by decide +kernel
theorem dX12_placeAt_7 : decode cX12_placeAt 7 = .ok (.isub, 1) := by decide +kernel
theorem dX12_placeAt_8 : decode cX12_placeAt 8 = .ok (.istore 4, 2) := by decide +kernel
theorem dX12_placeAt_10 : decode cX12_placeAt 10 = .ok (.aload_n 0, 1) := by decide +kernel
theorem dX12_placeAt_11 : decode cX12_placeAt 11 = .ok (.iload_n 1, 1) := by decide +kernel
theorem dX12_placeAt_12 : decode cX12_placeAt 12 = .ok (.invokevirtual 257, 3) := by decide +kernel
theorem dX12_placeAt_15 : decode cX12_placeAt 15 = .ok (.ifCond .eq 34, 3) := by decide +kernel
theorem dX12_placeAt_18 : decode cX12_placeAt 18 = .ok (.aload_n 0, 1) := by decide +kernel
theorem dX12_placeAt_19 : decode cX12_placeAt 19 = .ok (.iload_n 1, 1) := by decide +kernel
theorem dX12_placeAt_20 : decode cX12_placeAt 20 = .ok (.iconst 4, 1) := by decide +kernel
theorem dX12_placeAt_21 : decode cX12_placeAt 21 = .ok (.invokevirtual 235, 3) := by decide +kernel
theorem dX12_placeAt_24 : decode cX12_placeAt 24 = .ok (.iload_n 2, 1) := by decide +kernel
theorem dX12_placeAt_25 : decode cX12_placeAt 25 = .ok (.if_icmp .ne 24, 3) := by decide +kernel
theorem dX12_placeAt_28 : decode cX12_placeAt 28 = .ok (.iload 4, 2) := by decide +kernel
theorem dX12_placeAt_30 : decode cX12_placeAt 30 = .ok (.iconst 0, 1) := by decide +kernel
theorem dX12_placeAt_31 : decode cX12_placeAt 31 = .ok (.aload_n 0, 1) := by decide +kernel
theorem dX12_placeAt_32 : decode cX12_placeAt 32 = .ok (.iload_n 1, 1) := by decide +kernel
theorem dX12_placeAt_33 : decode cX12_placeAt 33 = .ok (.invokevirtual 254, 3) := by decide +kernel
theorem dX12_placeAt_36 : decode cX12_placeAt 36 = .ok (.iconst 1, 1) := by decide +kernel
theorem dX12_placeAt_37 : decode cX12_placeAt 37 = .ok (.isub, 1) := by decide +kernel
theorem dX12_placeAt_38 : decode cX12_placeAt 38 = .ok (.invokestatic 55, 3) := by decide +kernel
theorem dX12_placeAt_41 : decode cX12_placeAt 41 = .ok (.ifCond .eq 8, 3) := by decide +kernel
theorem dX12_placeAt_44 : decode cX12_placeAt 44 = .ok (.iload 4, 2) := by decide +kernel
theorem dX12_placeAt_46 : decode cX12_placeAt 46 = .ok (.goto 4, 3) := by decide +kernel
theorem dX12_placeAt_49 : decode cX12_placeAt 49 = .ok (.iconst (-1), 1) := by decide +kernel
theorem dX12_placeAt_50 : decode cX12_placeAt 50 = .ok (.ireturn, 1) := by decide +kernel
theorem dX12_oldAt_0 : decode cX12_oldAt 0 = .ok (.iconst 0, 1) := by decide +kernel
theorem dX12_oldAt_1 : decode cX12_oldAt 1 = .ok (.istore 5, 2) := by decide +kernel
theorem dX12_oldAt_3 : decode cX12_oldAt 3 = .ok (.iconst 0, 1) := by decide +kernel
theorem dX12_oldAt_4 : decode cX12_oldAt 4 = .ok (.istore 6, 2) := by decide +kernel
theorem dX12_oldAt_6 : decode cX12_oldAt 6 = .ok (.iload 6, 2) := by decide +kernel
theorem dX12_oldAt_8 : decode cX12_oldAt 8 = .ok (.aload_n 0, 1) := by decide +kernel
theorem dX12_oldAt_9 : decode cX12_oldAt 9 = .ok (.getfield 13, 3) := by decide +kernel
theorem dX12_oldAt_12 : decode cX12_oldAt 12 = .ok (.iconst 1, 1) := by decide +kernel
theorem dX12_oldAt_13 : decode cX12_oldAt 13 = .ok (.iaload, 1) := by decide +kernel
theorem dX12_oldAt_14 : decode cX12_oldAt 14 = .ok (.if_icmp .ge 48, 3) := by decide +kernel
theorem dX12_oldAt_17 : decode cX12_oldAt 17 = .ok (.iload 5, 2) := by decide +kernel
theorem dX12_oldAt_19 : decode cX12_oldAt 19 = .ok (.iload 6, 2) := by decide +kernel
theorem dX12_oldAt_21 : decode cX12_oldAt 21 = .ok (.iload_n 1, 1) := by decide +kernel
theorem dX12_oldAt_22 : decode cX12_oldAt 22 = .ok (.if_icmp .eq 30, 3) := by decide +kernel
theorem dX12_oldAt_25 : decode cX12_oldAt 25 = .ok (.aload_n 0, 1) := by decide +kernel
theorem dX12_oldAt_26 : decode cX12_oldAt 26 = .ok (.iload 6, 2) := by decide +kernel
theorem dX12_oldAt_28 : decode cX12_oldAt 28 = .ok (.iconst 3, 1) := by decide +kernel
theorem dX12_oldAt_29 : decode cX12_oldAt 29 = .ok (.invokevirtual 235, 3) := by decide +kernel
theorem dX12_oldAt_32 : decode cX12_oldAt 32 = .ok (.iload 4, 2) := by decide +kernel
theorem dX12_oldAt_34 : decode cX12_oldAt 34 = .ok (.if_icmp .ge 18, 3) := by decide +kernel
theorem dX12_oldAt_37 : decode cX12_oldAt 37 = .ok (.aload_n 0, 1) := by decide +kernel
theorem dX12_oldAt_38 : decode cX12_oldAt 38 = .ok (.iload 6, 2) := by decide +kernel
theorem dX12_oldAt_40 : decode cX12_oldAt 40 = .ok (.iload_n 2, 1) := by decide +kernel
theorem dX12_oldAt_41 : decode cX12_oldAt 41 = .ok (.iload_n 3, 1) := by decide +kernel
theorem dX12_oldAt_42 : decode cX12_oldAt 42 = .ok (.invokevirtual 267, 3) := by decide +kernel
theorem dX12_oldAt_45 : decode cX12_oldAt 45 = .ok (.ifCond .lt 7, 3) := by decide +kernel
theorem dX12_oldAt_48 : decode cX12_oldAt 48 = .ok (.iconst 1, 1) := by decide +kernel
theorem dX12_oldAt_49 : decode cX12_oldAt 49 = .ok (.goto 4, 3) := by decide +kernel
theorem dX12_oldAt_52 : decode cX12_oldAt 52 = .ok (.iconst 0, 1) := by decide +kernel
theorem dX12_oldAt_53 : decode cX12_oldAt 53 = .ok (.iadd, 1) := by decide +kernel
theorem dX12_oldAt_54 : decode cX12_oldAt 54 = .ok (.istore 5, 2) := by decide +kernel
theorem dX12_oldAt_56 : decode cX12_oldAt 56 = .ok (.iinc 6 1, 3) := by decide +kernel
theorem dX12_oldAt_59 : decode cX12_oldAt 59 = .ok (.goto (-53), 3) := by decide +kernel
theorem dX12_oldAt_62 : decode cX12_oldAt 62 = .ok (.iload 5, 2) := by decide +kernel
theorem dX12_oldAt_64 : decode cX12_oldAt 64 = .ok (.ireturn, 1) := by decide +kernel
theorem dX12_likeAt_0 : decode cX12_likeAt 0 = .ok (.iconst 0, 1) := by decide +kernel
theorem dX12_likeAt_1 : decode cX12_likeAt 1 = .ok (.istore 5, 2) := by decide +kernel
theorem dX12_likeAt_3 : decode cX12_likeAt 3 = .ok (.iconst 0, 1) := by decide +kernel
theorem dX12_likeAt_4 : decode cX12_likeAt 4 = .ok (.istore 6, 2) := by decide +kernel
theorem dX12_likeAt_6 : decode cX12_likeAt 6 = .ok (.iload 6, 2) := by decide +kernel
theorem dX12_likeAt_8 : decode cX12_likeAt 8 = .ok (.iload_n 3, 1) := by decide +kernel
theorem dX12_likeAt_9 : decode cX12_likeAt 9 = .ok (.if_icmp .ge 47, 3) := by decide +kernel
theorem dX12_likeAt_12 : decode cX12_likeAt 12 = .ok (.iload 5, 2) := by decide +kernel
theorem dX12_likeAt_14 : decode cX12_likeAt 14 = .ok (.iload 6, 2) := by decide +kernel
theorem dX12_likeAt_16 : decode cX12_likeAt 16 = .ok (.iload 4, 2) := by decide +kernel
theorem dX12_likeAt_18 : decode cX12_likeAt 18 = .ok (.if_icmp .eq 28, 3) := by decide +kernel
theorem dX12_likeAt_21 : decode cX12_likeAt 21 = .ok (.aload_n 0, 1) := by decide +kernel
theorem dX12_likeAt_22 : decode cX12_likeAt 22 = .ok (.iload_n 1, 1) := by decide +kernel
theorem dX12_likeAt_23 : decode cX12_likeAt 23 = .ok (.iload_n 2, 1) := by decide +kernel
theorem dX12_likeAt_24 : decode cX12_likeAt 24 = .ok (.iload 6, 2) := by decide +kernel
theorem dX12_likeAt_26 : decode cX12_likeAt 26 = .ok (.iadd, 1) := by decide +kernel
theorem dX12_likeAt_27 : decode cX12_likeAt 27 = .ok (.invokevirtual 271, 3) := by decide +kernel
theorem dX12_likeAt_30 : decode cX12_likeAt 30 = .ok (.aload_n 0, 1) := by decide +kernel
theorem dX12_likeAt_31 : decode cX12_likeAt 31 = .ok (.iload_n 1, 1) := by decide +kernel
theorem dX12_likeAt_32 : decode cX12_likeAt 32 = .ok (.iload_n 2, 1) := by decide +kernel
theorem dX12_likeAt_33 : decode cX12_likeAt 33 = .ok (.iload 4, 2) := by decide +kernel
theorem dX12_likeAt_35 : decode cX12_likeAt 35 = .ok (.iadd, 1) := by decide +kernel
theorem dX12_likeAt_36 : decode cX12_likeAt 36 = .ok (.invokevirtual 271, 3) := by decide +kernel
theorem dX12_likeAt_39 : decode cX12_likeAt 39 = .ok (.if_icmp .ne 7, 3) := by decide +kernel
theorem dX12_likeAt_42 : decode cX12_likeAt 42 = .ok (.iconst 1, 1) := by decide +kernel
theorem dX12_likeAt_43 : decode cX12_likeAt 43 = .ok (.goto 4, 3) := by decide +kernel
theorem dX12_likeAt_46 : decode cX12_likeAt 46 = .ok (.iconst 0, 1) := by decide +kernel
theorem dX12_likeAt_47 : decode cX12_likeAt 47 = .ok (.iadd, 1) := by decide +kernel
theorem dX12_likeAt_48 : decode cX12_likeAt 48 = .ok (.istore 5, 2) := by decide +kernel
theorem dX12_likeAt_50 : decode cX12_likeAt 50 = .ok (.iinc 6 1, 3) := by decide +kernel
theorem dX12_likeAt_53 : decode cX12_likeAt 53 = .ok (.goto (-47), 3) := by decide +kernel
theorem dX12_likeAt_56 : decode cX12_likeAt 56 = .ok (.iload 5, 2) := by decide +kernel
theorem dX12_likeAt_58 : decode cX12_likeAt 58 = .ok (.ireturn, 1) := by decide +kernel
theorem dX12_supposes_0 : decode cX12_supposes 0 = .ok (.iload_n 2, 1) := by decide +kernel
theorem dX12_supposes_1 : decode cX12_supposes 1 = .ok (.iload 5, 2) := by decide +kernel
theorem dX12_supposes_3 : decode cX12_supposes 3 = .ok (.idiv, 1) := by decide +kernel
theorem dX12_supposes_4 : decode cX12_supposes 4 = .ok (.istore 10, 2) := by decide +kernel
theorem dX12_supposes_6 : decode cX12_supposes 6 = .ok (.aload_n 0, 1) := by decide +kernel
theorem dX12_supposes_7 : decode cX12_supposes 7 = .ok (.iload_n 1, 1) := by decide +kernel
theorem dX12_supposes_8 : decode cX12_supposes 8 = .ok (.iconst 2, 1) := by decide +kernel
theorem dX12_supposes_9 : decode cX12_supposes 9 = .ok (.invokevirtual 235, 3) := by decide +kernel
theorem dX12_supposes_12 : decode cX12_supposes 12 = .ok (.iload 5, 2) := by decide +kernel
theorem dX12_supposes_14 : decode cX12_supposes 14 = .ok (.invokestatic 238, 3) := by decide +kernel
theorem dX12_supposes_17 : decode cX12_supposes 17 = .ok (.istore 11, 2) := by decide +kernel
theorem dX12_supposes_19 : decode cX12_supposes 19 = .ok (.aload_n 0, 1) := by decide +kernel
theorem dX12_supposes_20 : decode cX12_supposes 20 = .ok (.getfield 30, 3) := by decide +kernel
theorem dX12_supposes_23 : decode cX12_supposes 23 = .ok (.iconst 0, 1) := by decide +kernel
theorem dX12_supposes_24 : decode cX12_supposes 24 = .ok (.iload 6, 2) := by decide +kernel
theorem dX12_supposes_26 : decode cX12_supposes 26 = .ok (.iastore, 1) := by decide +kernel
theorem dX12_supposes_27 : decode cX12_supposes 27 = .ok (.aload_n 0, 1) := by decide +kernel
theorem dX12_supposes_28 : decode cX12_supposes 28 = .ok (.getfield 30, 3) := by decide +kernel
theorem dX12_supposes_31 : decode cX12_supposes 31 = .ok (.bipush 7, 2) := by decide +kernel
theorem dX12_supposes_33 : decode cX12_supposes 33 = .ok (.iload_n 2, 1) := by decide +kernel
theorem dX12_supposes_34 : decode cX12_supposes 34 = .ok (.iload 5, 2) := by decide +kernel
theorem dX12_supposes_36 : decode cX12_supposes 36 = .ok (.irem, 1) := by decide +kernel
theorem dX12_supposes_37 : decode cX12_supposes 37 = .ok (.iastore, 1) := by decide +kernel
theorem dX12_supposes_38 : decode cX12_supposes 38 = .ok (.aload_n 0, 1) := by decide +kernel
theorem dX12_supposes_39 : decode cX12_supposes 39 = .ok (.getfield 30, 3) := by decide +kernel
theorem dX12_supposes_42 : decode cX12_supposes 42 = .ok (.iconst 1, 1) := by decide +kernel
theorem dX12_supposes_43 : decode cX12_supposes 43 = .ok (.aload_n 0, 1) := by decide +kernel
theorem dX12_supposes_44 : decode cX12_supposes 44 = .ok (.aload_n 0, 1) := by decide +kernel
theorem dX12_supposes_45 : decode cX12_supposes 45 = .ok (.iload_n 1, 1) := by decide +kernel
theorem dX12_supposes_46 : decode cX12_supposes 46 = .ok (.iload_n 2, 1) := by decide +kernel
theorem dX12_supposes_47 : decode cX12_supposes 47 = .ok (.invokevirtual 251, 3) := by decide +kernel
theorem dX12_supposes_50 : decode cX12_supposes 50 = .ok (.iload_n 2, 1) := by decide +kernel
theorem dX12_supposes_51 : decode cX12_supposes 51 = .ok (.iload 5, 2) := by decide +kernel
theorem dX12_supposes_53 : decode cX12_supposes 53 = .ok (.irem, 1) := by decide +kernel
theorem dX12_supposes_54 : decode cX12_supposes 54 = .ok (.invokevirtual 223, 3) := by decide +kernel
theorem dX12_supposes_57 : decode cX12_supposes 57 = .ok (.iastore, 1) := by decide +kernel
theorem dX12_supposes_58 : decode cX12_supposes 58 = .ok (.aload_n 0, 1) := by decide +kernel
theorem dX12_supposes_59 : decode cX12_supposes 59 = .ok (.getfield 30, 3) := by decide +kernel
theorem dX12_supposes_62 : decode cX12_supposes 62 = .ok (.iconst 2, 1) := by decide +kernel
theorem dX12_supposes_63 : decode cX12_supposes 63 = .ok (.aload_n 0, 1) := by decide +kernel
theorem dX12_supposes_64 : decode cX12_supposes 64 = .ok (.iload_n 1, 1) := by decide +kernel
theorem dX12_supposes_65 : decode cX12_supposes 65 = .ok (.iload_n 3, 1) := by decide +kernel
theorem dX12_supposes_66 : decode cX12_supposes 66 = .ok (.iload 4, 2) := by decide +kernel
theorem dX12_supposes_68 : decode cX12_supposes 68 = .ok (.iload 10, 2) := by decide +kernel
theorem dX12_supposes_70 : decode cX12_supposes 70 = .ok (.iadd, 1) := by decide +kernel
theorem dX12_supposes_71 : decode cX12_supposes 71 = .ok (.iload 9, 2) := by decide +kernel
theorem dX12_supposes_73 : decode cX12_supposes 73 = .ok (.invokevirtual 274, 3) := by decide +kernel
theorem dX12_supposes_76 : decode cX12_supposes 76 = .ok (.iastore, 1) := by decide +kernel
theorem dX12_supposes_77 : decode cX12_supposes 77 = .ok (.aload_n 0, 1) := by decide +kernel
theorem dX12_supposes_78 : decode cX12_supposes 78 = .ok (.getfield 30, 3) := by decide +kernel
theorem dX12_supposes_81 : decode cX12_supposes 81 = .ok (.iconst 3, 1) := by decide +kernel
theorem dX12_supposes_82 : decode cX12_supposes 82 = .ok (.aload_n 0, 1) := by decide +kernel
theorem dX12_supposes_83 : decode cX12_supposes 83 = .ok (.iload_n 3, 1) := by decide +kernel
theorem dX12_supposes_84 : decode cX12_supposes 84 = .ok (.iload 4, 2) := by decide +kernel
theorem dX12_supposes_86 : decode cX12_supposes 86 = .ok (.iload 11, 2) := by decide +kernel
theorem dX12_supposes_88 : decode cX12_supposes 88 = .ok (.iload 10, 2) := by decide +kernel
theorem dX12_supposes_90 : decode cX12_supposes 90 = .ok (.invokevirtual 278, 3) := by decide +kernel
theorem dX12_supposes_93 : decode cX12_supposes 93 = .ok (.iastore, 1) := by decide +kernel
theorem dX12_supposes_94 : decode cX12_supposes 94 = .ok (.aload_n 0, 1) := by decide +kernel
theorem dX12_supposes_95 : decode cX12_supposes 95 = .ok (.getfield 30, 3) := by decide +kernel
theorem dX12_supposes_98 : decode cX12_supposes 98 = .ok (.iconst 4, 1) := by decide +kernel
theorem dX12_supposes_99 : decode cX12_supposes 99 = .ok (.iload 7, 2) := by decide +kernel
theorem dX12_supposes_101 : decode cX12_supposes 101 = .ok (.iastore, 1) := by decide +kernel
theorem dX12_supposes_102 : decode cX12_supposes 102 = .ok (.aload_n 0, 1) := by decide +kernel
theorem dX12_supposes_103 : decode cX12_supposes 103 = .ok (.getfield 30, 3) := by decide +kernel
theorem dX12_supposes_106 : decode cX12_supposes 106 = .ok (.iconst 5, 1) := by decide +kernel
theorem dX12_supposes_107 : decode cX12_supposes 107 = .ok (.iload 8, 2) := by decide +kernel
theorem dX12_supposes_109 : decode cX12_supposes 109 = .ok (.iastore, 1) := by decide +kernel
theorem dX12_supposes_110 : decode cX12_supposes 110 = .ok (.aload_n 0, 1) := by decide +kernel
theorem dX12_supposes_111 : decode cX12_supposes 111 = .ok (.getfield 30, 3) := by decide +kernel
theorem dX12_supposes_114 : decode cX12_supposes 114 = .ok (.bipush 6, 2) := by decide +kernel
theorem dX12_supposes_116 : decode cX12_supposes 116 = .ok (.iload 5, 2) := by decide +kernel
theorem dX12_supposes_118 : decode cX12_supposes 118 = .ok (.iastore, 1) := by decide +kernel
theorem dX12_supposes_119 : decode cX12_supposes 119 = .ok (.aload_n 0, 1) := by decide +kernel
theorem dX12_supposes_120 : decode cX12_supposes 120 = .ok (.getfield 30, 3) := by decide +kernel
theorem dX12_supposes_123 : decode cX12_supposes 123 = .ok (.bipush 8, 2) := by decide +kernel
theorem dX12_supposes_125 : decode cX12_supposes 125 = .ok (.iload 10, 2) := by decide +kernel
theorem dX12_supposes_127 : decode cX12_supposes 127 = .ok (.ifCond .ne 7, 3) := by decide +kernel
theorem dX12_supposes_130 : decode cX12_supposes 130 = .ok (.iconst 1, 1) := by decide +kernel
theorem dX12_supposes_131 : decode cX12_supposes 131 = .ok (.goto 4, 3) := by decide +kernel
theorem dX12_supposes_134 : decode cX12_supposes 134 = .ok (.iconst 0, 1) := by decide +kernel
theorem dX12_supposes_135 : decode cX12_supposes 135 = .ok (.iastore, 1) := by decide +kernel
theorem dX12_supposes_136 : decode cX12_supposes 136 = .ok (.aload_n 0, 1) := by decide +kernel
theorem dX12_supposes_137 : decode cX12_supposes 137 = .ok (.getfield 30, 3) := by decide +kernel
theorem dX12_supposes_140 : decode cX12_supposes 140 = .ok (.bipush 9, 2) := by decide +kernel
theorem dX12_supposes_142 : decode cX12_supposes 142 = .ok (.iload 10, 2) := by decide +kernel
theorem dX12_supposes_144 : decode cX12_supposes 144 = .ok (.iload 11, 2) := by decide +kernel
theorem dX12_supposes_146 : decode cX12_supposes 146 = .ok (.iconst 1, 1) := by decide +kernel
theorem dX12_supposes_147 : decode cX12_supposes 147 = .ok (.isub, 1) := by decide +kernel
theorem dX12_supposes_148 : decode cX12_supposes 148 = .ok (.if_icmp .ne 7, 3) := by decide +kernel
theorem dX12_supposes_151 : decode cX12_supposes 151 = .ok (.iconst 1, 1) := by decide +kernel
theorem dX12_supposes_152 : decode cX12_supposes 152 = .ok (.goto 4, 3) := by decide +kernel
theorem dX12_supposes_155 : decode cX12_supposes 155 = .ok (.iconst 0, 1) := by decide +kernel
theorem dX12_supposes_156 : decode cX12_supposes 156 = .ok (.iastore, 1) := by decide +kernel
theorem dX12_supposes_157 : decode cX12_supposes 157 = .ok (.return_, 1) := by decide +kernel
theorem dX12_ageOf_0 : decode cX12_ageOf 0 = .ok (.iload_n 3, 1) := by decide +kernel
theorem dX12_ageOf_1 : decode cX12_ageOf 1 = .ok (.aload_n 0, 1) := by decide +kernel
theorem dX12_ageOf_2 : decode cX12_ageOf 2 = .ok (.iload_n 1, 1) := by decide +kernel
theorem dX12_ageOf_3 : decode cX12_ageOf 3 = .ok (.bipush 9, 2) := by decide +kernel
theorem dX12_ageOf_5 : decode cX12_ageOf 5 = .ok (.iload_n 2, 1) := by decide +kernel
theorem dX12_ageOf_6 : decode cX12_ageOf 6 = .ok (.aload_n 0, 1) := by decide +kernel
theorem dX12_ageOf_7 : decode cX12_ageOf 7 = .ok (.iload_n 1, 1) := by decide +kernel
theorem dX12_ageOf_8 : decode cX12_ageOf 8 = .ok (.bipush 6, 2) := by decide +kernel
theorem dX12_ageOf_10 : decode cX12_ageOf 10 = .ok (.invokevirtual 235, 3) := by decide +kernel
theorem dX12_ageOf_13 : decode cX12_ageOf 13 = .ok (.idiv, 1) := by decide +kernel
theorem dX12_ageOf_14 : decode cX12_ageOf 14 = .ok (.iadd, 1) := by decide +kernel
theorem dX12_ageOf_15 : decode cX12_ageOf 15 = .ok (.invokevirtual 235, 3) := by decide +kernel
theorem dX12_ageOf_18 : decode cX12_ageOf 18 = .ok (.isub, 1) := by decide +kernel
theorem dX12_ageOf_19 : decode cX12_ageOf 19 = .ok (.bipush 10, 2) := by decide +kernel
theorem dX12_ageOf_21 : decode cX12_ageOf 21 = .ok (.idiv, 1) := by decide +kernel
theorem dX12_ageOf_22 : decode cX12_ageOf 22 = .ok (.ireturn, 1) := by decide +kernel
theorem dX12_asks_0 : decode cX12_asks 0 = .ok (.aload_n 0, 1) := by decide +kernel
theorem dX12_asks_1 : decode cX12_asks 1 = .ok (.iload_n 1, 1) := by decide +kernel
theorem dX12_asks_2 : decode cX12_asks 2 = .ok (.iload_n 2, 1) := by decide +kernel
theorem dX12_asks_3 : decode cX12_asks 3 = .ok (.aload_n 0, 1) := by decide +kernel
theorem dX12_asks_4 : decode cX12_asks 4 = .ok (.iload_n 1, 1) := by decide +kernel
theorem dX12_asks_5 : decode cX12_asks 5 = .ok (.iconst 4, 1) := by decide +kernel
theorem dX12_asks_6 : decode cX12_asks 6 = .ok (.invokevirtual 235, 3) := by decide +kernel
theorem dX12_asks_9 : decode cX12_asks 9 = .ok (.aload_n 0, 1) := by decide +kernel
theorem dX12_asks_10 : decode cX12_asks 10 = .ok (.iload_n 1, 1) := by decide +kernel
theorem dX12_asks_11 : decode cX12_asks 11 = .ok (.iconst 5, 1) := by decide +kernel
theorem dX12_asks_12 : decode cX12_asks 12 = .ok (.invokevirtual 235, 3) := by decide +kernel
theorem dX12_asks_15 : decode cX12_asks 15 = .ok (.aload_n 0, 1) := by decide +kernel
theorem dX12_asks_16 : decode cX12_asks 16 = .ok (.iload_n 1, 1) := by decide +kernel
theorem dX12_asks_17 : decode cX12_asks 17 = .ok (.bipush 6, 2) := by decide +kernel
theorem dX12_asks_19 : decode cX12_asks 19 = .ok (.invokevirtual 235, 3) := by decide +kernel
theorem dX12_asks_22 : decode cX12_asks 22 = .ok (.aload_n 0, 1) := by decide +kernel
theorem dX12_asks_23 : decode cX12_asks 23 = .ok (.iload_n 1, 1) := by decide +kernel
theorem dX12_asks_24 : decode cX12_asks 24 = .ok (.bipush 7, 2) := by decide +kernel
theorem dX12_asks_26 : decode cX12_asks 26 = .ok (.invokevirtual 235, 3) := by decide +kernel
theorem dX12_asks_29 : decode cX12_asks 29 = .ok (.iload_n 3, 1) := by decide +kernel
theorem dX12_asks_30 : decode cX12_asks 30 = .ok (.iload 4, 2) := by decide +kernel
theorem dX12_asks_32 : decode cX12_asks 32 = .ok (.aload_n 0, 1) := by decide +kernel
theorem dX12_asks_33 : decode cX12_asks 33 = .ok (.iload_n 1, 1) := by decide +kernel
theorem dX12_asks_34 : decode cX12_asks 34 = .ok (.iconst 3, 1) := by decide +kernel
theorem dX12_asks_35 : decode cX12_asks 35 = .ok (.invokevirtual 235, 3) := by decide +kernel
theorem dX12_asks_38 : decode cX12_asks 38 = .ok (.invokevirtual 281, 3) := by decide +kernel
theorem dX12_asks_41 : decode cX12_asks 41 = .ok (.return_, 1) := by decide +kernel
theorem dX12_heldOf_0 : decode cX12_heldOf 0 = .ok (.aload_n 0, 1) := by decide +kernel
theorem dX12_heldOf_1 : decode cX12_heldOf 1 = .ok (.iload_n 2, 1) := by decide +kernel
theorem dX12_heldOf_2 : decode cX12_heldOf 2 = .ok (.iload_n 3, 1) := by decide +kernel
theorem dX12_heldOf_3 : decode cX12_heldOf 3 = .ok (.aload_n 0, 1) := by decide +kernel
theorem dX12_heldOf_4 : decode cX12_heldOf 4 = .ok (.iload_n 2, 1) := by decide +kernel
theorem dX12_heldOf_5 : decode cX12_heldOf 5 = .ok (.iload_n 3, 1) := by decide +kernel
theorem dX12_heldOf_6 : decode cX12_heldOf 6 = .ok (.aload_n 0, 1) := by decide +kernel
theorem dX12_heldOf_7 : decode cX12_heldOf 7 = .ok (.getfield 13, 3) := by decide +kernel
theorem dX12_heldOf_10 : decode cX12_heldOf 10 = .ok (.bipush 6, 2) := by decide +kernel
theorem dX12_heldOf_12 : decode cX12_heldOf 12 = .ok (.iaload, 1) := by decide +kernel
theorem dX12_heldOf_13 : decode cX12_heldOf 13 = .ok (.invokevirtual 285, 3) := by decide +kernel
theorem dX12_heldOf_16 : decode cX12_heldOf 16 = .ok (.aload_n 0, 1) := by decide +kernel
theorem dX12_heldOf_17 : decode cX12_heldOf 17 = .ok (.iload_n 2, 1) := by decide +kernel
theorem dX12_heldOf_18 : decode cX12_heldOf 18 = .ok (.bipush 8, 2) := by decide +kernel
theorem dX12_heldOf_20 : decode cX12_heldOf 20 = .ok (.invokevirtual 235, 3) := by decide +kernel
theorem dX12_heldOf_23 : decode cX12_heldOf 23 = .ok (.invokevirtual 288, 3) := by decide +kernel
theorem dX12_heldOf_26 : decode cX12_heldOf 26 = .ok (.aload_n 0, 1) := by decide +kernel
theorem dX12_heldOf_27 : decode cX12_heldOf 27 = .ok (.iload_n 1, 1) := by decide +kernel
theorem dX12_heldOf_28 : decode cX12_heldOf 28 = .ok (.invokevirtual 292, 3) := by decide +kernel
theorem dX12_heldOf_31 : decode cX12_heldOf 31 = .ok (.ireturn, 1) := by decide +kernel
theorem dX12_awaitedIn_0 : decode cX12_awaitedIn 0 = .ok (.iconst 0, 1) := by decide +kernel
theorem dX12_awaitedIn_1 : decode cX12_awaitedIn 1 = .ok (.istore 4, 2) := by decide +kernel
theorem dX12_awaitedIn_3 : decode cX12_awaitedIn 3 = .ok (.iconst 0, 1) := by decide +kernel
theorem dX12_awaitedIn_4 : decode cX12_awaitedIn 4 = .ok (.istore 5, 2) := by decide +kernel
theorem dX12_awaitedIn_6 : decode cX12_awaitedIn 6 = .ok (.iload 5, 2) := by decide +kernel
theorem dX12_awaitedIn_8 : decode cX12_awaitedIn 8 = .ok (.aload_n 0, 1) := by decide +kernel
theorem dX12_awaitedIn_9 : decode cX12_awaitedIn 9 = .ok (.iload_n 2, 1) := by decide +kernel
theorem dX12_awaitedIn_10 : decode cX12_awaitedIn 10 = .ok (.iconst 2, 1) := by decide +kernel
theorem dX12_awaitedIn_11 : decode cX12_awaitedIn 11 = .ok (.invokevirtual 235, 3) := by decide +kernel
theorem dX12_awaitedIn_14 : decode cX12_awaitedIn 14 = .ok (.if_icmp .ge 49, 3) := by decide +kernel
theorem dX12_awaitedIn_17 : decode cX12_awaitedIn 17 = .ok (.aload_n 0, 1) := by decide +kernel
theorem dX12_awaitedIn_18 : decode cX12_awaitedIn 18 = .ok (.iload_n 2, 1) := by decide +kernel
theorem dX12_awaitedIn_19 : decode cX12_awaitedIn 19 = .ok (.iload 5, 2) := by decide +kernel
theorem dX12_awaitedIn_21 : decode cX12_awaitedIn 21 = .ok (.aload_n 0, 1) := by decide +kernel
theorem dX12_awaitedIn_22 : decode cX12_awaitedIn 22 = .ok (.iload_n 2, 1) := by decide +kernel
theorem dX12_awaitedIn_23 : decode cX12_awaitedIn 23 = .ok (.iload 5, 2) := by decide +kernel
theorem dX12_awaitedIn_25 : decode cX12_awaitedIn 25 = .ok (.aload_n 0, 1) := by decide +kernel
theorem dX12_awaitedIn_26 : decode cX12_awaitedIn 26 = .ok (.getfield 13, 3) := by decide +kernel
theorem dX12_awaitedIn_29 : decode cX12_awaitedIn 29 = .ok (.bipush 6, 2) := by decide +kernel
theorem dX12_awaitedIn_31 : decode cX12_awaitedIn 31 = .ok (.iaload, 1) := by decide +kernel
theorem dX12_awaitedIn_32 : decode cX12_awaitedIn 32 = .ok (.iload_n 3, 1) := by decide +kernel
theorem dX12_awaitedIn_33 : decode cX12_awaitedIn 33 = .ok (.iadd, 1) := by decide +kernel
theorem dX12_awaitedIn_34 : decode cX12_awaitedIn 34 = .ok (.invokevirtual 285, 3) := by decide +kernel
theorem dX12_awaitedIn_37 : decode cX12_awaitedIn 37 = .ok (.aload_n 0, 1) := by decide +kernel
theorem dX12_awaitedIn_38 : decode cX12_awaitedIn 38 = .ok (.iload_n 2, 1) := by decide +kernel
theorem dX12_awaitedIn_39 : decode cX12_awaitedIn 39 = .ok (.bipush 8, 2) := by decide +kernel
theorem dX12_awaitedIn_41 : decode cX12_awaitedIn 41 = .ok (.invokevirtual 235, 3) := by decide +kernel
theorem dX12_awaitedIn_44 : decode cX12_awaitedIn 44 = .ok (.invokevirtual 288, 3) := by decide +kernel
theorem dX12_awaitedIn_47 : decode cX12_awaitedIn 47 = .ok (.iload 4, 2) := by decide +kernel
theorem dX12_awaitedIn_49 : decode cX12_awaitedIn 49 = .ok (.aload_n 0, 1) := by decide +kernel
theorem dX12_awaitedIn_50 : decode cX12_awaitedIn 50 = .ok (.iload_n 1, 1) := by decide +kernel
theorem dX12_awaitedIn_51 : decode cX12_awaitedIn 51 = .ok (.invokevirtual 292, 3) := by decide +kernel
theorem dX12_awaitedIn_54 : decode cX12_awaitedIn 54 = .ok (.iadd, 1) := by decide +kernel
theorem dX12_awaitedIn_55 : decode cX12_awaitedIn 55 = .ok (.istore 4, 2) := by decide +kernel
theorem dX12_awaitedIn_57 : decode cX12_awaitedIn 57 = .ok (.iinc 5 1, 3) := by decide +kernel
theorem dX12_awaitedIn_60 : decode cX12_awaitedIn 60 = .ok (.goto (-54), 3) := by decide +kernel
theorem dX12_awaitedIn_63 : decode cX12_awaitedIn 63 = .ok (.iload 4, 2) := by decide +kernel
theorem dX12_awaitedIn_65 : decode cX12_awaitedIn 65 = .ok (.ireturn, 1) := by decide +kernel
theorem dX12_about_0 : decode cX12_about 0 = .ok (.aload_n 0, 1) := by decide +kernel
theorem dX12_about_1 : decode cX12_about 1 = .ok (.iconst 0, 1) := by decide +kernel
theorem dX12_about_2 : decode cX12_about 2 = .ok (.putfield 3, 3) := by decide +kernel
theorem dX12_about_5 : decode cX12_about 5 = .ok (.aload_n 0, 1) := by decide +kernel
theorem dX12_about_6 : decode cX12_about 6 = .ok (.aload_n 0, 1) := by decide +kernel
theorem dX12_about_7 : decode cX12_about 7 = .ok (.iload_n 1, 1) := by decide +kernel
theorem dX12_about_8 : decode cX12_about 8 = .ok (.iload_n 2, 1) := by decide +kernel
theorem dX12_about_9 : decode cX12_about 9 = .ok (.invokevirtual 248, 3) := by decide +kernel
theorem dX12_about_12 : decode cX12_about 12 = .ok (.iconst 1, 1) := by decide +kernel
theorem dX12_about_13 : decode cX12_about 13 = .ok (.invokevirtual 195, 3) := by decide +kernel
theorem dX12_about_16 : decode cX12_about 16 = .ok (.ifCond .ne 47, 3) := by decide +kernel
theorem dX12_about_19 : decode cX12_about 19 = .ok (.aload_n 0, 1) := by decide +kernel
theorem dX12_about_20 : decode cX12_about 20 = .ok (.aload_n 0, 1) := by decide +kernel
theorem dX12_about_21 : decode cX12_about 21 = .ok (.iload_n 1, 1) := by decide +kernel
theorem dX12_about_22 : decode cX12_about 22 = .ok (.invokevirtual 257, 3) := by decide +kernel
theorem dX12_about_25 : decode cX12_about 25 = .ok (.ifCond .ne 7, 3) := by decide +kernel
theorem dX12_about_28 : decode cX12_about 28 = .ok (.iconst 1, 1) := by decide +kernel
theorem dX12_about_29 : decode cX12_about 29 = .ok (.goto 4, 3) := by decide +kernel
theorem dX12_about_32 : decode cX12_about 32 = .ok (.iconst 0, 1) := by decide +kernel
theorem dX12_about_33 : decode cX12_about 33 = .ok (.iconst 2, 1) := by decide +kernel
theorem dX12_about_34 : decode cX12_about 34 = .ok (.invokevirtual 195, 3) := by decide +kernel
theorem dX12_about_37 : decode cX12_about 37 = .ok (.ifCond .ne 26, 3) := by decide +kernel
theorem dX12_about_40 : decode cX12_about 40 = .ok (.aload_n 0, 1) := by decide +kernel
theorem dX12_about_41 : decode cX12_about 41 = .ok (.iload_n 3, 1) := by decide +kernel
theorem dX12_about_42 : decode cX12_about 42 = .ok (.iconst 0, 1) := by decide +kernel
theorem dX12_about_43 : decode cX12_about 43 = .ok (.bipush 7, 2) := by decide +kernel
theorem dX12_about_45 : decode cX12_about 45 = .ok (.invokestatic 55, 3) := by decide +kernel
theorem dX12_about_48 : decode cX12_about 48 = .ok (.ifCond .ne 7, 3) := by decide +kernel
theorem dX12_about_51 : decode cX12_about 51 = .ok (.iconst 1, 1) := by decide +kernel
theorem dX12_about_52 : decode cX12_about 52 = .ok (.goto 4, 3) := by decide +kernel
theorem dX12_about_55 : decode cX12_about 55 = .ok (.iconst 0, 1) := by decide +kernel
theorem dX12_about_56 : decode cX12_about 56 = .ok (.iconst 3, 1) := by decide +kernel
theorem dX12_about_57 : decode cX12_about 57 = .ok (.invokevirtual 195, 3) := by decide +kernel
theorem dX12_about_60 : decode cX12_about 60 = .ok (.ifCond .eq 5, 3) := by decide +kernel
theorem dX12_about_63 : decode cX12_about 63 = .ok (.iconst 0, 1) := by decide +kernel
theorem dX12_about_64 : decode cX12_about 64 = .ok (.ireturn, 1) := by decide +kernel
theorem dX12_about_65 : decode cX12_about 65 = .ok (.iload_n 2, 1) := by decide +kernel
theorem dX12_about_66 : decode cX12_about 66 = .ok (.aload_n 0, 1) := by decide +kernel
theorem dX12_about_67 : decode cX12_about 67 = .ok (.iload_n 1, 1) := by decide +kernel
theorem dX12_about_68 : decode cX12_about 68 = .ok (.bipush 6, 2) := by decide +kernel
theorem dX12_about_70 : decode cX12_about 70 = .ok (.invokevirtual 235, 3) := by decide +kernel
theorem dX12_about_73 : decode cX12_about 73 = .ok (.idiv, 1) := by decide +kernel
theorem dX12_about_74 : decode cX12_about 74 = .ok (.istore 4, 2) := by decide +kernel
theorem dX12_about_76 : decode cX12_about 76 = .ok (.aload_n 0, 1) := by decide +kernel
theorem dX12_about_77 : decode cX12_about 77 = .ok (.iload_n 1, 1) := by decide +kernel
theorem dX12_about_78 : decode cX12_about 78 = .ok (.iload_n 2, 1) := by decide +kernel
theorem dX12_about_79 : decode cX12_about 79 = .ok (.aload_n 0, 1) := by decide +kernel
theorem dX12_about_80 : decode cX12_about 80 = .ok (.iload_n 1, 1) := by decide +kernel
theorem dX12_about_81 : decode cX12_about 81 = .ok (.iload_n 2, 1) := by decide +kernel
theorem dX12_about_82 : decode cX12_about 82 = .ok (.aload_n 0, 1) := by decide +kernel
theorem dX12_about_83 : decode cX12_about 83 = .ok (.getfield 13, 3) := by decide +kernel
theorem dX12_about_86 : decode cX12_about 86 = .ok (.bipush 6, 2) := by decide +kernel
theorem dX12_about_88 : decode cX12_about 88 = .ok (.iaload, 1) := by decide +kernel
theorem dX12_about_89 : decode cX12_about 89 = .ok (.invokevirtual 285, 3) := by decide +kernel
theorem dX12_about_92 : decode cX12_about 92 = .ok (.iconst 0, 1) := by decide +kernel
theorem dX12_about_93 : decode cX12_about 93 = .ok (.invokevirtual 288, 3) := by decide +kernel
theorem dX12_about_96 : decode cX12_about 96 = .ok (.iload_n 3, 1) := by decide +kernel
theorem dX12_about_97 : decode cX12_about 97 = .ok (.tableswitch 92 0 6 #[43, 46, 56, 64, 71, 78, 85], 43) := by decide +kernel
theorem dX12_about_140 : decode cX12_about 140 = .ok (.iload 4, 2) := by decide +kernel
theorem dX12_about_142 : decode cX12_about 142 = .ok (.ireturn, 1) := by decide +kernel
theorem dX12_about_143 : decode cX12_about 143 = .ok (.aload_n 0, 1) := by decide +kernel
theorem dX12_about_144 : decode cX12_about 144 = .ok (.iload_n 1, 1) := by decide +kernel
theorem dX12_about_145 : decode cX12_about 145 = .ok (.iconst 5, 1) := by decide +kernel
theorem dX12_about_146 : decode cX12_about 146 = .ok (.invokevirtual 235, 3) := by decide +kernel
theorem dX12_about_149 : decode cX12_about 149 = .ok (.iload 4, 2) := by decide +kernel
theorem dX12_about_151 : decode cX12_about 151 = .ok (.iadd, 1) := by decide +kernel
theorem dX12_about_152 : decode cX12_about 152 = .ok (.ireturn, 1) := by decide +kernel
theorem dX12_about_153 : decode cX12_about 153 = .ok (.aload_n 0, 1) := by decide +kernel
theorem dX12_about_154 : decode cX12_about 154 = .ok (.getfield 30, 3) := by decide +kernel
theorem dX12_about_157 : decode cX12_about 157 = .ok (.bipush 7, 2) := by decide +kernel
theorem dX12_about_159 : decode cX12_about 159 = .ok (.iaload, 1) := by decide +kernel
theorem dX12_about_160 : decode cX12_about 160 = .ok (.ireturn, 1) := by decide +kernel
theorem dX12_about_161 : decode cX12_about 161 = .ok (.aload_n 0, 1) := by decide +kernel
theorem dX12_about_162 : decode cX12_about 162 = .ok (.getfield 30, 3) := by decide +kernel
theorem dX12_about_165 : decode cX12_about 165 = .ok (.iconst 4, 1) := by decide +kernel
theorem dX12_about_166 : decode cX12_about 166 = .ok (.iaload, 1) := by decide +kernel
theorem dX12_about_167 : decode cX12_about 167 = .ok (.ireturn, 1) := by decide +kernel
theorem dX12_about_168 : decode cX12_about 168 = .ok (.aload_n 0, 1) := by decide +kernel
theorem dX12_about_169 : decode cX12_about 169 = .ok (.getfield 30, 3) := by decide +kernel
theorem dX12_about_172 : decode cX12_about 172 = .ok (.iconst 2, 1) := by decide +kernel
theorem dX12_about_173 : decode cX12_about 173 = .ok (.iaload, 1) := by decide +kernel
theorem dX12_about_174 : decode cX12_about 174 = .ok (.ireturn, 1) := by decide +kernel
theorem dX12_about_175 : decode cX12_about 175 = .ok (.aload_n 0, 1) := by decide +kernel
theorem dX12_about_176 : decode cX12_about 176 = .ok (.getfield 30, 3) := by decide +kernel
theorem dX12_about_179 : decode cX12_about 179 = .ok (.iconst 3, 1) := by decide +kernel
theorem dX12_about_180 : decode cX12_about 180 = .ok (.iaload, 1) := by decide +kernel
theorem dX12_about_181 : decode cX12_about 181 = .ok (.ireturn, 1) := by decide +kernel
theorem dX12_about_182 : decode cX12_about 182 = .ok (.aload_n 0, 1) := by decide +kernel
theorem dX12_about_183 : decode cX12_about 183 = .ok (.getfield 30, 3) := by decide +kernel
theorem dX12_about_186 : decode cX12_about 186 = .ok (.iconst 1, 1) := by decide +kernel
theorem dX12_about_187 : decode cX12_about 187 = .ok (.iaload, 1) := by decide +kernel
theorem dX12_about_188 : decode cX12_about 188 = .ok (.ireturn, 1) := by decide +kernel
theorem dX12_about_189 : decode cX12_about 189 = .ok (.aload_n 0, 1) := by decide +kernel
theorem dX12_about_190 : decode cX12_about 190 = .ok (.iload_n 1, 1) := by decide +kernel
theorem dX12_about_191 : decode cX12_about 191 = .ok (.bipush 29, 2) := by decide +kernel
theorem dX12_about_193 : decode cX12_about 193 = .ok (.iload_n 2, 1) := by decide +kernel
theorem dX12_about_194 : decode cX12_about 194 = .ok (.iadd, 1) := by decide +kernel
theorem dX12_about_195 : decode cX12_about 195 = .ok (.invokevirtual 235, 3) := by decide +kernel
theorem dX12_about_198 : decode cX12_about 198 = .ok (.ireturn, 1) := by decide +kernel
theorem dX12_noLaw_0 : decode cX12_noLaw 0 = .ok (.aload_n 0, 1) := by decide +kernel
theorem dX12_noLaw_1 : decode cX12_noLaw 1 = .ok (.iload_n 1, 1) := by decide +kernel
theorem dX12_noLaw_2 : decode cX12_noLaw 2 = .ok (.iconst 2, 1) := by decide +kernel
theorem dX12_noLaw_3 : decode cX12_noLaw 3 = .ok (.invokevirtual 226, 3) := by decide +kernel
theorem dX12_noLaw_6 : decode cX12_noLaw 6 = .ok (.ireturn, 1) := by decide +kernel
theorem dX12_holds_0 : decode cX12_holds 0 = .ok (.aload_n 0, 1) := by decide +kernel
theorem dX12_holds_1 : decode cX12_holds 1 = .ok (.iconst 0, 1) := by decide +kernel
theorem dX12_holds_2 : decode cX12_holds 2 = .ok (.putfield 3, 3) := by decide +kernel
theorem dX12_holds_5 : decode cX12_holds 5 = .ok (.aload_n 0, 1) := by decide +kernel
theorem dX12_holds_6 : decode cX12_holds 6 = .ok (.aload_n 0, 1) := by decide +kernel
theorem dX12_holds_7 : decode cX12_holds 7 = .ok (.iload_n 1, 1) := by decide +kernel
theorem dX12_holds_8 : decode cX12_holds 8 = .ok (.invokevirtual 295, 3) := by decide +kernel
theorem dX12_holds_11 : decode cX12_holds 11 = .ok (.ifCond .ne 12, 3) := by decide +kernel
theorem dX12_holds_14 : decode cX12_holds 14 = .ok (.aload_n 0, 1) := by decide +kernel
theorem dX12_holds_15 : decode cX12_holds 15 = .ok (.iload_n 2, 1) := by decide +kernel
theorem dX12_holds_16 : decode cX12_holds 16 = .ok (.iload_n 3, 1) := by decide +kernel
theorem dX12_holds_17 : decode cX12_holds 17 = .ok (.invokevirtual 248, 3) := by decide +kernel
theorem dX12_holds_20 : decode cX12_holds 20 = .ok (.ifCond .eq 7, 3) := by decide +kernel
theorem dX12_holds_23 : decode cX12_holds 23 = .ok (.iconst 1, 1) := by decide +kernel
theorem dX12_holds_24 : decode cX12_holds 24 = .ok (.goto 4, 3) := by decide +kernel
theorem dX12_holds_27 : decode cX12_holds 27 = .ok (.iconst 0, 1) := by decide +kernel
theorem dX12_holds_28 : decode cX12_holds 28 = .ok (.iconst 1, 1) := by decide +kernel
theorem dX12_holds_29 : decode cX12_holds 29 = .ok (.invokevirtual 195, 3) := by decide +kernel
theorem dX12_holds_32 : decode cX12_holds 32 = .ok (.ifCond .ne 24, 3) := by decide +kernel
theorem dX12_holds_35 : decode cX12_holds 35 = .ok (.aload_n 0, 1) := by decide +kernel
theorem dX12_holds_36 : decode cX12_holds 36 = .ok (.aload_n 0, 1) := by decide +kernel
theorem dX12_holds_37 : decode cX12_holds 37 = .ok (.iload_n 2, 1) := by decide +kernel
theorem dX12_holds_38 : decode cX12_holds 38 = .ok (.invokevirtual 257, 3) := by decide +kernel
theorem dX12_holds_41 : decode cX12_holds 41 = .ok (.ifCond .ne 7, 3) := by decide +kernel
theorem dX12_holds_44 : decode cX12_holds 44 = .ok (.iconst 1, 1) := by decide +kernel
theorem dX12_holds_45 : decode cX12_holds 45 = .ok (.goto 4, 3) := by decide +kernel
theorem dX12_holds_48 : decode cX12_holds 48 = .ok (.iconst 0, 1) := by decide +kernel
theorem dX12_holds_49 : decode cX12_holds 49 = .ok (.iconst 2, 1) := by decide +kernel
theorem dX12_holds_50 : decode cX12_holds 50 = .ok (.invokevirtual 195, 3) := by decide +kernel
theorem dX12_holds_53 : decode cX12_holds 53 = .ok (.ifCond .eq 7, 3) := by decide +kernel
theorem dX12_holds_56 : decode cX12_holds 56 = .ok (.iconst 0, 1) := by decide +kernel
theorem dX12_holds_57 : decode cX12_holds 57 = .ok (.goto 10, 3) := by decide +kernel
theorem dX12_holds_60 : decode cX12_holds 60 = .ok (.aload_n 0, 1) := by decide +kernel
theorem dX12_holds_61 : decode cX12_holds 61 = .ok (.iload_n 1, 1) := by decide +kernel
theorem dX12_holds_62 : decode cX12_holds 62 = .ok (.iload_n 2, 1) := by decide +kernel
theorem dX12_holds_63 : decode cX12_holds 63 = .ok (.iload_n 3, 1) := by decide +kernel
theorem dX12_holds_64 : decode cX12_holds 64 = .ok (.invokevirtual 298, 3) := by decide +kernel
theorem dX12_holds_67 : decode cX12_holds 67 = .ok (.ireturn, 1) := by decide +kernel
theorem dX12_awaited_0 : decode cX12_awaited 0 = .ok (.aload_n 0, 1) := by decide +kernel
theorem dX12_awaited_1 : decode cX12_awaited 1 = .ok (.iconst 0, 1) := by decide +kernel
theorem dX12_awaited_2 : decode cX12_awaited 2 = .ok (.putfield 3, 3) := by decide +kernel
theorem dX12_awaited_5 : decode cX12_awaited 5 = .ok (.aload_n 0, 1) := by decide +kernel
theorem dX12_awaited_6 : decode cX12_awaited 6 = .ok (.aload_n 0, 1) := by decide +kernel
theorem dX12_awaited_7 : decode cX12_awaited 7 = .ok (.iload_n 1, 1) := by decide +kernel
theorem dX12_awaited_8 : decode cX12_awaited 8 = .ok (.invokevirtual 295, 3) := by decide +kernel
theorem dX12_awaited_11 : decode cX12_awaited 11 = .ok (.ifCond .ne 11, 3) := by decide +kernel
theorem dX12_awaited_14 : decode cX12_awaited 14 = .ok (.aload_n 0, 1) := by decide +kernel
theorem dX12_awaited_15 : decode cX12_awaited 15 = .ok (.iload_n 2, 1) := by decide +kernel
theorem dX12_awaited_16 : decode cX12_awaited 16 = .ok (.invokevirtual 241, 3) := by decide +kernel
theorem dX12_awaited_19 : decode cX12_awaited 19 = .ok (.ifCond .eq 7, 3) := by decide +kernel
theorem dX12_awaited_22 : decode cX12_awaited 22 = .ok (.iconst 1, 1) := by decide +kernel
theorem dX12_awaited_23 : decode cX12_awaited 23 = .ok (.goto 4, 3) := by decide +kernel
theorem dX12_awaited_26 : decode cX12_awaited 26 = .ok (.iconst 0, 1) := by decide +kernel
theorem dX12_awaited_27 : decode cX12_awaited 27 = .ok (.iconst 1, 1) := by decide +kernel
theorem dX12_awaited_28 : decode cX12_awaited 28 = .ok (.invokevirtual 195, 3) := by decide +kernel
theorem dX12_awaited_31 : decode cX12_awaited 31 = .ok (.ifCond .ne 24, 3) := by decide +kernel
theorem dX12_awaited_34 : decode cX12_awaited 34 = .ok (.aload_n 0, 1) := by decide +kernel
theorem dX12_awaited_35 : decode cX12_awaited 35 = .ok (.aload_n 0, 1) := by decide +kernel
theorem dX12_awaited_36 : decode cX12_awaited 36 = .ok (.iload_n 2, 1) := by decide +kernel
theorem dX12_awaited_37 : decode cX12_awaited 37 = .ok (.invokevirtual 257, 3) := by decide +kernel
theorem dX12_awaited_40 : decode cX12_awaited 40 = .ok (.ifCond .ne 7, 3) := by decide +kernel
theorem dX12_awaited_43 : decode cX12_awaited 43 = .ok (.iconst 1, 1) := by decide +kernel
theorem dX12_awaited_44 : decode cX12_awaited 44 = .ok (.goto 4, 3) := by decide +kernel
theorem dX12_awaited_47 : decode cX12_awaited 47 = .ok (.iconst 0, 1) := by decide +kernel
theorem dX12_awaited_48 : decode cX12_awaited 48 = .ok (.iconst 2, 1) := by decide +kernel
theorem dX12_awaited_49 : decode cX12_awaited 49 = .ok (.invokevirtual 195, 3) := by decide +kernel
theorem dX12_awaited_52 : decode cX12_awaited 52 = .ok (.ifCond .eq 7, 3) := by decide +kernel
theorem dX12_awaited_55 : decode cX12_awaited 55 = .ok (.iconst 0, 1) := by decide +kernel
theorem dX12_awaited_56 : decode cX12_awaited 56 = .ok (.goto 10, 3) := by decide +kernel
theorem dX12_awaited_59 : decode cX12_awaited 59 = .ok (.aload_n 0, 1) := by decide +kernel
theorem dX12_awaited_60 : decode cX12_awaited 60 = .ok (.iload_n 1, 1) := by decide +kernel
theorem dX12_awaited_61 : decode cX12_awaited 61 = .ok (.iload_n 2, 1) := by decide +kernel
theorem dX12_awaited_62 : decode cX12_awaited 62 = .ok (.iconst 0, 1) := by decide +kernel
theorem dX12_awaited_63 : decode cX12_awaited 63 = .ok (.invokevirtual 301, 3) := by decide +kernel
theorem dX12_awaited_66 : decode cX12_awaited 66 = .ok (.ireturn, 1) := by decide +kernel
theorem dX12_cardAt_0 : decode cX12_cardAt 0 = .ok (.iload_n 2, 1) := by decide +kernel
theorem dX12_cardAt_1 : decode cX12_cardAt 1 = .ok (.aload_n 0, 1) := by decide +kernel
theorem dX12_cardAt_2 : decode cX12_cardAt 2 = .ok (.iload_n 1, 1) := by decide +kernel
theorem dX12_cardAt_3 : decode cX12_cardAt 3 = .ok (.bipush 6, 2) := by decide +kernel
theorem dX12_cardAt_5 : decode cX12_cardAt 5 = .ok (.invokevirtual 235, 3) := by decide +kernel
theorem dX12_cardAt_8 : decode cX12_cardAt 8 = .ok (.imul, 1) := by decide +kernel
theorem dX12_cardAt_9 : decode cX12_cardAt 9 = .ok (.iload_n 3, 1) := by decide +kernel
theorem dX12_cardAt_10 : decode cX12_cardAt 10 = .ok (.iadd, 1) := by decide +kernel
theorem dX12_cardAt_11 : decode cX12_cardAt 11 = .ok (.istore 4, 2) := by decide +kernel
theorem dX12_cardAt_13 : decode cX12_cardAt 13 = .ok (.iload_n 2, 1) := by decide +kernel
theorem dX12_cardAt_14 : decode cX12_cardAt 14 = .ok (.ifCond .lt 35, 3) := by decide +kernel
theorem dX12_cardAt_17 : decode cX12_cardAt 17 = .ok (.iload_n 3, 1) := by decide +kernel
theorem dX12_cardAt_18 : decode cX12_cardAt 18 = .ok (.aload_n 0, 1) := by decide +kernel
theorem dX12_cardAt_19 : decode cX12_cardAt 19 = .ok (.iload_n 1, 1) := by decide +kernel
theorem dX12_cardAt_20 : decode cX12_cardAt 20 = .ok (.bipush 6, 2) := by decide +kernel
theorem dX12_cardAt_22 : decode cX12_cardAt 22 = .ok (.invokevirtual 235, 3) := by decide +kernel
theorem dX12_cardAt_25 : decode cX12_cardAt 25 = .ok (.if_icmp .ge 24, 3) := by decide +kernel
theorem dX12_cardAt_28 : decode cX12_cardAt 28 = .ok (.iload 4, 2) := by decide +kernel
theorem dX12_cardAt_30 : decode cX12_cardAt 30 = .ok (.aload_n 0, 1) := by decide +kernel
theorem dX12_cardAt_31 : decode cX12_cardAt 31 = .ok (.iload_n 1, 1) := by decide +kernel
theorem dX12_cardAt_32 : decode cX12_cardAt 32 = .ok (.iconst 2, 1) := by decide +kernel
theorem dX12_cardAt_33 : decode cX12_cardAt 33 = .ok (.invokevirtual 235, 3) := by decide +kernel
theorem dX12_cardAt_36 : decode cX12_cardAt 36 = .ok (.if_icmp .ge 13, 3) := by decide +kernel
theorem dX12_cardAt_39 : decode cX12_cardAt 39 = .ok (.aload_n 0, 1) := by decide +kernel
theorem dX12_cardAt_40 : decode cX12_cardAt 40 = .ok (.iload_n 1, 1) := by decide +kernel
theorem dX12_cardAt_41 : decode cX12_cardAt 41 = .ok (.iload 4, 2) := by decide +kernel
theorem dX12_cardAt_43 : decode cX12_cardAt 43 = .ok (.invokevirtual 251, 3) := by decide +kernel
theorem dX12_cardAt_46 : decode cX12_cardAt 46 = .ok (.goto 4, 3) := by decide +kernel
theorem dX12_cardAt_49 : decode cX12_cardAt 49 = .ok (.iconst (-1), 1) := by decide +kernel
theorem dX12_cardAt_50 : decode cX12_cardAt 50 = .ok (.ireturn, 1) := by decide +kernel
theorem dX12_ghostOf_0 : decode cX12_ghostOf 0 = .ok (.aload_n 0, 1) := by decide +kernel
theorem dX12_ghostOf_1 : decode cX12_ghostOf 1 = .ok (.iload_n 1, 1) := by decide +kernel
theorem dX12_ghostOf_2 : decode cX12_ghostOf 2 = .ok (.iconst 5, 1) := by decide +kernel
theorem dX12_ghostOf_3 : decode cX12_ghostOf 3 = .ok (.invokevirtual 235, 3) := by decide +kernel
theorem dX12_ghostOf_6 : decode cX12_ghostOf 6 = .ok (.iload_n 2, 1) := by decide +kernel
theorem dX12_ghostOf_7 : decode cX12_ghostOf 7 = .ok (.iadd, 1) := by decide +kernel
theorem dX12_ghostOf_8 : decode cX12_ghostOf 8 = .ok (.istore 4, 2) := by decide +kernel
theorem dX12_ghostOf_10 : decode cX12_ghostOf 10 = .ok (.iconst (-1), 1) := by decide +kernel
theorem dX12_ghostOf_11 : decode cX12_ghostOf 11 = .ok (.istore 5, 2) := by decide +kernel
theorem dX12_ghostOf_13 : decode cX12_ghostOf 13 = .ok (.iconst 0, 1) := by decide +kernel
theorem dX12_ghostOf_14 : decode cX12_ghostOf 14 = .ok (.istore 6, 2) := by decide +kernel
theorem dX12_ghostOf_16 : decode cX12_ghostOf 16 = .ok (.iconst 0, 1) := by decide +kernel
theorem dX12_ghostOf_17 : decode cX12_ghostOf 17 = .ok (.istore 7, 2) := by decide +kernel
theorem dX12_ghostOf_19 : decode cX12_ghostOf 19 = .ok (.iload 7, 2) := by decide +kernel
theorem dX12_ghostOf_21 : decode cX12_ghostOf 21 = .ok (.aload_n 0, 1) := by decide +kernel
theorem dX12_ghostOf_22 : decode cX12_ghostOf 22 = .ok (.getfield 13, 3) := by decide +kernel
theorem dX12_ghostOf_25 : decode cX12_ghostOf 25 = .ok (.iconst 1, 1) := by decide +kernel
theorem dX12_ghostOf_26 : decode cX12_ghostOf 26 = .ok (.iaload, 1) := by decide +kernel
theorem dX12_ghostOf_27 : decode cX12_ghostOf 27 = .ok (.if_icmp .ge 93, 3) := by decide +kernel
theorem dX12_ghostOf_30 : decode cX12_ghostOf 30 = .ok (.aload_n 0, 1) := by decide +kernel
theorem dX12_ghostOf_31 : decode cX12_ghostOf 31 = .ok (.iload 7, 2) := by decide +kernel
theorem dX12_ghostOf_33 : decode cX12_ghostOf 33 = .ok (.aload_n 0, 1) := by decide +kernel
theorem dX12_ghostOf_34 : decode cX12_ghostOf 34 = .ok (.iload_n 1, 1) := by decide +kernel
theorem dX12_ghostOf_35 : decode cX12_ghostOf 35 = .ok (.iconst 4, 1) := by decide +kernel
theorem dX12_ghostOf_36 : decode cX12_ghostOf 36 = .ok (.invokevirtual 235, 3) := by decide +kernel
theorem dX12_ghostOf_39 : decode cX12_ghostOf 39 = .ok (.iload 4, 2) := by decide +kernel
theorem dX12_ghostOf_41 : decode cX12_ghostOf 41 = .ok (.invokevirtual 267, 3) := by decide +kernel
theorem dX12_ghostOf_44 : decode cX12_ghostOf 44 = .ok (.istore 8, 2) := by decide +kernel
theorem dX12_ghostOf_46 : decode cX12_ghostOf 46 = .ok (.iload 8, 2) := by decide +kernel
theorem dX12_ghostOf_48 : decode cX12_ghostOf 48 = .ok (.ifCond .lt 66, 3) := by decide +kernel
theorem dX12_ghostOf_51 : decode cX12_ghostOf 51 = .ok (.aload_n 0, 1) := by decide +kernel
theorem dX12_ghostOf_52 : decode cX12_ghostOf 52 = .ok (.iload 7, 2) := by decide +kernel
theorem dX12_ghostOf_54 : decode cX12_ghostOf 54 = .ok (.iconst 3, 1) := by decide +kernel
theorem dX12_ghostOf_55 : decode cX12_ghostOf 55 = .ok (.invokevirtual 235, 3) := by decide +kernel
theorem dX12_ghostOf_58 : decode cX12_ghostOf 58 = .ok (.aload_n 0, 1) := by decide +kernel
theorem dX12_ghostOf_59 : decode cX12_ghostOf 59 = .ok (.iload_n 1, 1) := by decide +kernel
theorem dX12_ghostOf_60 : decode cX12_ghostOf 60 = .ok (.iconst 3, 1) := by decide +kernel
theorem dX12_ghostOf_61 : decode cX12_ghostOf 61 = .ok (.invokevirtual 235, 3) := by decide +kernel
theorem dX12_ghostOf_64 : decode cX12_ghostOf 64 = .ok (.if_icmp .ge 50, 3) := by decide +kernel
theorem dX12_ghostOf_67 : decode cX12_ghostOf 67 = .ok (.aload_n 0, 1) := by decide +kernel
theorem dX12_ghostOf_68 : decode cX12_ghostOf 68 = .ok (.iload 7, 2) := by decide +kernel
theorem dX12_ghostOf_70 : decode cX12_ghostOf 70 = .ok (.iconst 3, 1) := by decide +kernel
theorem dX12_ghostOf_71 : decode cX12_ghostOf 71 = .ok (.invokevirtual 235, 3) := by decide +kernel
theorem dX12_ghostOf_74 : decode cX12_ghostOf 74 = .ok (.iload 6, 2) := by decide +kernel
theorem dX12_ghostOf_76 : decode cX12_ghostOf 76 = .ok (.if_icmp .lt 38, 3) := by decide +kernel
theorem dX12_ghostOf_79 : decode cX12_ghostOf 79 = .ok (.aload_n 0, 1) := by decide +kernel
theorem dX12_ghostOf_80 : decode cX12_ghostOf 80 = .ok (.iload 7, 2) := by decide +kernel
theorem dX12_ghostOf_82 : decode cX12_ghostOf 82 = .ok (.iload 8, 2) := by decide +kernel
theorem dX12_ghostOf_84 : decode cX12_ghostOf 84 = .ok (.iload_n 3, 1) := by decide +kernel
theorem dX12_ghostOf_85 : decode cX12_ghostOf 85 = .ok (.invokevirtual 304, 3) := by decide +kernel
theorem dX12_ghostOf_88 : decode cX12_ghostOf 88 = .ok (.ifCond .ge 6, 3) := by decide +kernel
theorem dX12_ghostOf_91 : decode cX12_ghostOf 91 = .ok (.goto 23, 3) := by decide +kernel
theorem dX12_ghostOf_94 : decode cX12_ghostOf 94 = .ok (.aload_n 0, 1) := by decide +kernel
theorem dX12_ghostOf_95 : decode cX12_ghostOf 95 = .ok (.iload 7, 2) := by decide +kernel
theorem dX12_ghostOf_97 : decode cX12_ghostOf 97 = .ok (.iconst 3, 1) := by decide +kernel
theorem dX12_ghostOf_98 : decode cX12_ghostOf 98 = .ok (.invokevirtual 235, 3) := by decide +kernel
theorem dX12_ghostOf_101 : decode cX12_ghostOf 101 = .ok (.istore 6, 2) := by decide +kernel
theorem dX12_ghostOf_103 : decode cX12_ghostOf 103 = .ok (.aload_n 0, 1) := by decide +kernel
theorem dX12_ghostOf_104 : decode cX12_ghostOf 104 = .ok (.iload 7, 2) := by decide +kernel
theorem dX12_ghostOf_106 : decode cX12_ghostOf 106 = .ok (.iload 8, 2) := by decide +kernel
theorem dX12_ghostOf_108 : decode cX12_ghostOf 108 = .ok (.iload_n 3, 1) := by decide +kernel
theorem dX12_ghostOf_109 : decode cX12_ghostOf 109 = .ok (.invokevirtual 304, 3) := by decide +kernel
theorem dX12_ghostOf_112 : decode cX12_ghostOf 112 = .ok (.istore 5, 2) := by decide +kernel
theorem dX12_ghostOf_114 : decode cX12_ghostOf 114 = .ok (.iinc 7 1, 3) := by decide +kernel
theorem dX12_ghostOf_117 : decode cX12_ghostOf 117 = .ok (.goto (-98), 3) := by decide +kernel
theorem dX12_ghostOf_120 : decode cX12_ghostOf 120 = .ok (.iload 5, 2) := by decide +kernel
theorem dX12_ghostOf_122 : decode cX12_ghostOf 122 = .ok (.ireturn, 1) := by decide +kernel
theorem dX12_alikeOf_0 : decode cX12_alikeOf 0 = .ok (.aload_n 0, 1) := by decide +kernel
theorem dX12_alikeOf_1 : decode cX12_alikeOf 1 = .ok (.iload_n 1, 1) := by decide +kernel
theorem dX12_alikeOf_2 : decode cX12_alikeOf 2 = .ok (.iconst 4, 1) := by decide +kernel
theorem dX12_alikeOf_3 : decode cX12_alikeOf 3 = .ok (.invokevirtual 235, 3) := by decide +kernel
theorem dX12_alikeOf_6 : decode cX12_alikeOf 6 = .ok (.istore 4, 2) := by decide +kernel
theorem dX12_alikeOf_8 : decode cX12_alikeOf 8 = .ok (.aload_n 0, 1) := by decide +kernel
theorem dX12_alikeOf_9 : decode cX12_alikeOf 9 = .ok (.iload_n 1, 1) := by decide +kernel
theorem dX12_alikeOf_10 : decode cX12_alikeOf 10 = .ok (.iconst 5, 1) := by decide +kernel
theorem dX12_alikeOf_11 : decode cX12_alikeOf 11 = .ok (.invokevirtual 235, 3) := by decide +kernel
theorem dX12_alikeOf_14 : decode cX12_alikeOf 14 = .ok (.istore 5, 2) := by decide +kernel
theorem dX12_alikeOf_16 : decode cX12_alikeOf 16 = .ok (.iconst 0, 1) := by decide +kernel
theorem dX12_alikeOf_17 : decode cX12_alikeOf 17 = .ok (.istore 6, 2) := by decide +kernel
theorem dX12_alikeOf_19 : decode cX12_alikeOf 19 = .ok (.iload 6, 2) := by decide +kernel
theorem dX12_alikeOf_21 : decode cX12_alikeOf 21 = .ok (.aload_n 0, 1) := by decide +kernel
theorem dX12_alikeOf_22 : decode cX12_alikeOf 22 = .ok (.iload_n 1, 1) := by decide +kernel
theorem dX12_alikeOf_23 : decode cX12_alikeOf 23 = .ok (.invokevirtual 254, 3) := by decide +kernel
theorem dX12_alikeOf_26 : decode cX12_alikeOf 26 = .ok (.if_icmp .ge 59, 3) := by decide +kernel
theorem dX12_alikeOf_29 : decode cX12_alikeOf 29 = .ok (.iload 6, 2) := by decide +kernel
theorem dX12_alikeOf_31 : decode cX12_alikeOf 31 = .ok (.iload_n 2, 1) := by decide +kernel
theorem dX12_alikeOf_32 : decode cX12_alikeOf 32 = .ok (.if_icmp .eq 47, 3) := by decide +kernel
theorem dX12_alikeOf_35 : decode cX12_alikeOf 35 = .ok (.aload_n 0, 1) := by decide +kernel
theorem dX12_alikeOf_36 : decode cX12_alikeOf 36 = .ok (.iload 4, 2) := by decide +kernel
theorem dX12_alikeOf_38 : decode cX12_alikeOf 38 = .ok (.iload 5, 2) := by decide +kernel
theorem dX12_alikeOf_40 : decode cX12_alikeOf 40 = .ok (.iload 6, 2) := by decide +kernel
theorem dX12_alikeOf_42 : decode cX12_alikeOf 42 = .ok (.iadd, 1) := by decide +kernel
theorem dX12_alikeOf_43 : decode cX12_alikeOf 43 = .ok (.invokevirtual 271, 3) := by decide +kernel
theorem dX12_alikeOf_46 : decode cX12_alikeOf 46 = .ok (.aload_n 0, 1) := by decide +kernel
theorem dX12_alikeOf_47 : decode cX12_alikeOf 47 = .ok (.iload 4, 2) := by decide +kernel
theorem dX12_alikeOf_49 : decode cX12_alikeOf 49 = .ok (.iload 5, 2) := by decide +kernel
theorem dX12_alikeOf_51 : decode cX12_alikeOf 51 = .ok (.iload_n 2, 1) := by decide +kernel
theorem dX12_alikeOf_52 : decode cX12_alikeOf 52 = .ok (.iadd, 1) := by decide +kernel
theorem dX12_alikeOf_53 : decode cX12_alikeOf 53 = .ok (.invokevirtual 271, 3) := by decide +kernel
theorem dX12_alikeOf_56 : decode cX12_alikeOf 56 = .ok (.if_icmp .ne 23, 3) := by decide +kernel
theorem dX12_alikeOf_59 : decode cX12_alikeOf 59 = .ok (.aload_n 0, 1) := by decide +kernel
theorem dX12_alikeOf_60 : decode cX12_alikeOf 60 = .ok (.iload_n 1, 1) := by decide +kernel
theorem dX12_alikeOf_61 : decode cX12_alikeOf 61 = .ok (.iload 6, 2) := by decide +kernel
theorem dX12_alikeOf_63 : decode cX12_alikeOf 63 = .ok (.iload_n 3, 1) := by decide +kernel
theorem dX12_alikeOf_64 : decode cX12_alikeOf 64 = .ok (.invokevirtual 304, 3) := by decide +kernel
theorem dX12_alikeOf_67 : decode cX12_alikeOf 67 = .ok (.ifCond .lt 12, 3) := by decide +kernel
theorem dX12_alikeOf_70 : decode cX12_alikeOf 70 = .ok (.aload_n 0, 1) := by decide +kernel
theorem dX12_alikeOf_71 : decode cX12_alikeOf 71 = .ok (.iload_n 1, 1) := by decide +kernel
theorem dX12_alikeOf_72 : decode cX12_alikeOf 72 = .ok (.iload 6, 2) := by decide +kernel
theorem dX12_alikeOf_74 : decode cX12_alikeOf 74 = .ok (.iload_n 3, 1) := by decide +kernel
theorem dX12_alikeOf_75 : decode cX12_alikeOf 75 = .ok (.invokevirtual 304, 3) := by decide +kernel
theorem dX12_alikeOf_78 : decode cX12_alikeOf 78 = .ok (.ireturn, 1) := by decide +kernel
theorem dX12_alikeOf_79 : decode cX12_alikeOf 79 = .ok (.iinc 6 1, 3) := by decide +kernel
theorem dX12_alikeOf_82 : decode cX12_alikeOf 82 = .ok (.goto (-63), 3) := by decide +kernel
theorem dX12_alikeOf_85 : decode cX12_alikeOf 85 = .ok (.iconst (-1), 1) := by decide +kernel
theorem dX12_alikeOf_86 : decode cX12_alikeOf 86 = .ok (.ireturn, 1) := by decide +kernel
theorem dX12_slip_0 : decode cX12_slip 0 = .ok (.aload_n 0, 1) := by decide +kernel
theorem dX12_slip_1 : decode cX12_slip 1 = .ok (.iload_n 1, 1) := by decide +kernel
theorem dX12_slip_2 : decode cX12_slip 2 = .ok (.bipush 6, 2) := by decide +kernel
theorem dX12_slip_4 : decode cX12_slip 4 = .ok (.invokevirtual 235, 3) := by decide +kernel
theorem dX12_slip_7 : decode cX12_slip 7 = .ok (.istore 4, 2) := by decide +kernel
theorem dX12_slip_9 : decode cX12_slip 9 = .ok (.iload_n 2, 1) := by decide +kernel
theorem dX12_slip_10 : decode cX12_slip 10 = .ok (.iload 4, 2) := by decide +kernel
theorem dX12_slip_12 : decode cX12_slip 12 = .ok (.idiv, 1) := by decide +kernel
theorem dX12_slip_13 : decode cX12_slip 13 = .ok (.istore 5, 2) := by decide +kernel
theorem dX12_slip_15 : decode cX12_slip 15 = .ok (.iload_n 2, 1) := by decide +kernel
theorem dX12_slip_16 : decode cX12_slip 16 = .ok (.iload 4, 2) := by decide +kernel
theorem dX12_slip_18 : decode cX12_slip 18 = .ok (.irem, 1) := by decide +kernel
theorem dX12_slip_19 : decode cX12_slip 19 = .ok (.istore 6, 2) := by decide +kernel
theorem dX12_slip_21 : decode cX12_slip 21 = .ok (.iload_n 3, 1) := by decide +kernel
theorem dX12_slip_22 : decode cX12_slip 22 = .ok (.iconst 2, 1) := by decide +kernel
theorem dX12_slip_23 : decode cX12_slip 23 = .ok (.if_icmp .ne 13, 3) := by decide +kernel
theorem dX12_slip_26 : decode cX12_slip 26 = .ok (.aload_n 0, 1) := by decide +kernel
theorem dX12_slip_27 : decode cX12_slip 27 = .ok (.iload_n 1, 1) := by decide +kernel
theorem dX12_slip_28 : decode cX12_slip 28 = .ok (.iload 5, 2) := by decide +kernel
theorem dX12_slip_30 : decode cX12_slip 30 = .ok (.iload 6, 2) := by decide +kernel
theorem dX12_slip_32 : decode cX12_slip 32 = .ok (.invokevirtual 307, 3) := by decide +kernel
theorem dX12_slip_35 : decode cX12_slip 35 = .ok (.ireturn, 1) := by decide +kernel
theorem dX12_slip_36 : decode cX12_slip 36 = .ok (.iload_n 3, 1) := by decide +kernel
theorem dX12_slip_37 : decode cX12_slip 37 = .ok (.iconst 3, 1) := by decide +kernel
theorem dX12_slip_38 : decode cX12_slip 38 = .ok (.if_icmp .ne 13, 3) := by decide +kernel
theorem dX12_slip_41 : decode cX12_slip 41 = .ok (.aload_n 0, 1) := by decide +kernel
theorem dX12_slip_42 : decode cX12_slip 42 = .ok (.iload_n 1, 1) := by decide +kernel
theorem dX12_slip_43 : decode cX12_slip 43 = .ok (.iload 5, 2) := by decide +kernel
theorem dX12_slip_45 : decode cX12_slip 45 = .ok (.iload 6, 2) := by decide +kernel
theorem dX12_slip_47 : decode cX12_slip 47 = .ok (.invokevirtual 310, 3) := by decide +kernel
theorem dX12_slip_50 : decode cX12_slip 50 = .ok (.ireturn, 1) := by decide +kernel
theorem dX12_slip_51 : decode cX12_slip 51 = .ok (.iload_n 3, 1) := by decide +kernel
theorem dX12_slip_52 : decode cX12_slip 52 = .ok (.iconst 4, 1) := by decide +kernel
theorem dX12_slip_53 : decode cX12_slip 53 = .ok (.if_icmp .ne 48, 3) := by decide +kernel
theorem dX12_slip_56 : decode cX12_slip 56 = .ok (.aload_n 0, 1) := by decide +kernel
theorem dX12_slip_57 : decode cX12_slip 57 = .ok (.iload_n 1, 1) := by decide +kernel
theorem dX12_slip_58 : decode cX12_slip 58 = .ok (.iload 5, 2) := by decide +kernel
theorem dX12_slip_60 : decode cX12_slip 60 = .ok (.iload 6, 2) := by decide +kernel
theorem dX12_slip_62 : decode cX12_slip 62 = .ok (.iconst 1, 1) := by decide +kernel
theorem dX12_slip_63 : decode cX12_slip 63 = .ok (.iadd, 1) := by decide +kernel
theorem dX12_slip_64 : decode cX12_slip 64 = .ok (.invokevirtual 304, 3) := by decide +kernel
theorem dX12_slip_67 : decode cX12_slip 67 = .ok (.ifCond .lt 10, 3) := by decide +kernel
theorem dX12_slip_70 : decode cX12_slip 70 = .ok (.iload 6, 2) := by decide +kernel
theorem dX12_slip_72 : decode cX12_slip 72 = .ok (.iconst 1, 1) := by decide +kernel
theorem dX12_slip_73 : decode cX12_slip 73 = .ok (.iadd, 1) := by decide +kernel
theorem dX12_slip_74 : decode cX12_slip 74 = .ok (.goto 4, 3) := by decide +kernel
theorem dX12_slip_77 : decode cX12_slip 77 = .ok (.iconst 0, 1) := by decide +kernel
theorem dX12_slip_78 : decode cX12_slip 78 = .ok (.istore 7, 2) := by decide +kernel
theorem dX12_slip_80 : decode cX12_slip 80 = .ok (.iload 7, 2) := by decide +kernel
theorem dX12_slip_82 : decode cX12_slip 82 = .ok (.iload 6, 2) := by decide +kernel
theorem dX12_slip_84 : decode cX12_slip 84 = .ok (.if_icmp .ne 7, 3) := by decide +kernel
theorem dX12_slip_87 : decode cX12_slip 87 = .ok (.iconst (-1), 1) := by decide +kernel
theorem dX12_slip_88 : decode cX12_slip 88 = .ok (.goto 12, 3) := by decide +kernel
theorem dX12_slip_91 : decode cX12_slip 91 = .ok (.aload_n 0, 1) := by decide +kernel
theorem dX12_slip_92 : decode cX12_slip 92 = .ok (.iload_n 1, 1) := by decide +kernel
theorem dX12_slip_93 : decode cX12_slip 93 = .ok (.iload 5, 2) := by decide +kernel
theorem dX12_slip_95 : decode cX12_slip 95 = .ok (.iload 7, 2) := by decide +kernel
theorem dX12_slip_97 : decode cX12_slip 97 = .ok (.invokevirtual 304, 3) := by decide +kernel
theorem dX12_slip_100 : decode cX12_slip 100 = .ok (.ireturn, 1) := by decide +kernel
theorem dX12_slip_101 : decode cX12_slip 101 = .ok (.aload_n 0, 1) := by decide +kernel
theorem dX12_slip_102 : decode cX12_slip 102 = .ok (.iload_n 1, 1) := by decide +kernel
theorem dX12_slip_103 : decode cX12_slip 103 = .ok (.iload 5, 2) := by decide +kernel
theorem dX12_slip_105 : decode cX12_slip 105 = .ok (.iconst 1, 1) := by decide +kernel
theorem dX12_slip_106 : decode cX12_slip 106 = .ok (.iadd, 1) := by decide +kernel
theorem dX12_slip_107 : decode cX12_slip 107 = .ok (.iload 6, 2) := by decide +kernel
theorem dX12_slip_109 : decode cX12_slip 109 = .ok (.invokevirtual 304, 3) := by decide +kernel
theorem dX12_slip_112 : decode cX12_slip 112 = .ok (.ifCond .lt 17, 3) := by decide +kernel
theorem dX12_slip_115 : decode cX12_slip 115 = .ok (.aload_n 0, 1) := by decide +kernel
theorem dX12_slip_116 : decode cX12_slip 116 = .ok (.iload_n 1, 1) := by decide +kernel
theorem dX12_slip_117 : decode cX12_slip 117 = .ok (.iload 5, 2) := by decide +kernel
theorem dX12_slip_119 : decode cX12_slip 119 = .ok (.iconst 1, 1) := by decide +kernel
theorem dX12_slip_120 : decode cX12_slip 120 = .ok (.iadd, 1) := by decide +kernel
theorem dX12_slip_121 : decode cX12_slip 121 = .ok (.iload 6, 2) := by decide +kernel
theorem dX12_slip_123 : decode cX12_slip 123 = .ok (.invokevirtual 304, 3) := by decide +kernel
theorem dX12_slip_126 : decode cX12_slip 126 = .ok (.goto 14, 3) := by decide +kernel
theorem dX12_slip_129 : decode cX12_slip 129 = .ok (.aload_n 0, 1) := by decide +kernel
theorem dX12_slip_130 : decode cX12_slip 130 = .ok (.iload_n 1, 1) := by decide +kernel
theorem dX12_slip_131 : decode cX12_slip 131 = .ok (.iload 5, 2) := by decide +kernel
theorem dX12_slip_133 : decode cX12_slip 133 = .ok (.iconst 1, 1) := by decide +kernel
theorem dX12_slip_134 : decode cX12_slip 134 = .ok (.isub, 1) := by decide +kernel
theorem dX12_slip_135 : decode cX12_slip 135 = .ok (.iload 6, 2) := by decide +kernel
theorem dX12_slip_137 : decode cX12_slip 137 = .ok (.invokevirtual 304, 3) := by decide +kernel
theorem dX12_slip_140 : decode cX12_slip 140 = .ok (.ireturn, 1) := by decide +kernel
theorem dX12_kindOf_0 : decode cX12_kindOf 0 = .ok (.aload_n 0, 1) := by decide +kernel
theorem dX12_kindOf_1 : decode cX12_kindOf 1 = .ok (.iload_n 1, 1) := by decide +kernel
theorem dX12_kindOf_2 : decode cX12_kindOf 2 = .ok (.bipush 29, 2) := by decide +kernel
theorem dX12_kindOf_4 : decode cX12_kindOf 4 = .ok (.iload_n 2, 1) := by decide +kernel
theorem dX12_kindOf_5 : decode cX12_kindOf 5 = .ok (.iadd, 1) := by decide +kernel
theorem dX12_kindOf_6 : decode cX12_kindOf 6 = .ok (.invokevirtual 235, 3) := by decide +kernel
theorem dX12_kindOf_9 : decode cX12_kindOf 9 = .ok (.istore_n 3, 1) := by decide +kernel
theorem dX12_kindOf_10 : decode cX12_kindOf 10 = .ok (.iload_n 3, 1) := by decide +kernel
theorem dX12_kindOf_11 : decode cX12_kindOf 11 = .ok (.aload_n 0, 1) := by decide +kernel
theorem dX12_kindOf_12 : decode cX12_kindOf 12 = .ok (.iload_n 1, 1) := by decide +kernel
theorem dX12_kindOf_13 : decode cX12_kindOf 13 = .ok (.iload_n 2, 1) := by decide +kernel
theorem dX12_kindOf_14 : decode cX12_kindOf 14 = .ok (.invokevirtual 251, 3) := by decide +kernel
theorem dX12_kindOf_17 : decode cX12_kindOf 17 = .ok (.if_icmp .ne 5, 3) := by decide +kernel
theorem dX12_kindOf_20 : decode cX12_kindOf 20 = .ok (.iconst 0, 1) := by decide +kernel
theorem dX12_kindOf_21 : decode cX12_kindOf 21 = .ok (.ireturn, 1) := by decide +kernel
theorem dX12_kindOf_22 : decode cX12_kindOf 22 = .ok (.iload_n 3, 1) := by decide +kernel
theorem dX12_kindOf_23 : decode cX12_kindOf 23 = .ok (.ifCond .ge 5, 3) := by decide +kernel
theorem dX12_kindOf_26 : decode cX12_kindOf 26 = .ok (.iconst 1, 1) := by decide +kernel
theorem dX12_kindOf_27 : decode cX12_kindOf 27 = .ok (.ireturn, 1) := by decide +kernel
theorem dX12_kindOf_28 : decode cX12_kindOf 28 = .ok (.iconst 2, 1) := by decide +kernel
theorem dX12_kindOf_29 : decode cX12_kindOf 29 = .ok (.istore 4, 2) := by decide +kernel
theorem dX12_kindOf_31 : decode cX12_kindOf 31 = .ok (.iload 4, 2) := by decide +kernel
theorem dX12_kindOf_33 : decode cX12_kindOf 33 = .ok (.bipush 6, 2) := by decide +kernel
theorem dX12_kindOf_35 : decode cX12_kindOf 35 = .ok (.if_icmp .ge 24, 3) := by decide +kernel
theorem dX12_kindOf_38 : decode cX12_kindOf 38 = .ok (.aload_n 0, 1) := by decide +kernel
theorem dX12_kindOf_39 : decode cX12_kindOf 39 = .ok (.iload_n 1, 1) := by decide +kernel
theorem dX12_kindOf_40 : decode cX12_kindOf 40 = .ok (.iload_n 2, 1) := by decide +kernel
theorem dX12_kindOf_41 : decode cX12_kindOf 41 = .ok (.iload 4, 2) := by decide +kernel
theorem dX12_kindOf_43 : decode cX12_kindOf 43 = .ok (.invokevirtual 313, 3) := by decide +kernel
theorem dX12_kindOf_46 : decode cX12_kindOf 46 = .ok (.iload_n 3, 1) := by decide +kernel
theorem dX12_kindOf_47 : decode cX12_kindOf 47 = .ok (.if_icmp .ne 6, 3) := by decide +kernel
theorem dX12_kindOf_50 : decode cX12_kindOf 50 = .ok (.iload 4, 2) := by decide +kernel
theorem dX12_kindOf_52 : decode cX12_kindOf 52 = .ok (.ireturn, 1) := by decide +kernel
theorem dX12_kindOf_53 : decode cX12_kindOf 53 = .ok (.iinc 4 1, 3) := by decide +kernel
theorem dX12_kindOf_56 : decode cX12_kindOf 56 = .ok (.goto (-25), 3) := by decide +kernel
theorem dX12_kindOf_59 : decode cX12_kindOf 59 = .ok (.bipush 6, 2) := by decide +kernel
theorem dX12_kindOf_61 : decode cX12_kindOf 61 = .ok (.ireturn, 1) := by decide +kernel
theorem dX12_say_0 : decode cX12_say 0 = .ok (.aload_n 0, 1) := by decide +kernel
theorem dX12_say_1 : decode cX12_say 1 = .ok (.iconst 0, 1) := by decide +kernel
theorem dX12_say_2 : decode cX12_say 2 = .ok (.putfield 3, 3) := by decide +kernel
theorem dX12_say_5 : decode cX12_say 5 = .ok (.aload_n 0, 1) := by decide +kernel
theorem dX12_say_6 : decode cX12_say 6 = .ok (.aload_n 0, 1) := by decide +kernel
theorem dX12_say_7 : decode cX12_say 7 = .ok (.iload_n 1, 1) := by decide +kernel
theorem dX12_say_8 : decode cX12_say 8 = .ok (.iload_n 2, 1) := by decide +kernel
theorem dX12_say_9 : decode cX12_say 9 = .ok (.invokevirtual 248, 3) := by decide +kernel
theorem dX12_say_12 : decode cX12_say 12 = .ok (.ifCond .ne 15, 3) := by decide +kernel
theorem dX12_say_15 : decode cX12_say 15 = .ok (.iload_n 3, 1) := by decide +kernel
theorem dX12_say_16 : decode cX12_say 16 = .ok (.iconst (-1), 1) := by decide +kernel
theorem dX12_say_17 : decode cX12_say 17 = .ok (.if_icmp .eq 14, 3) := by decide +kernel
theorem dX12_say_20 : decode cX12_say 20 = .ok (.iload_n 3, 1) := by decide +kernel
theorem dX12_say_21 : decode cX12_say 21 = .ok (.invokestatic 217, 3) := by decide +kernel
theorem dX12_say_24 : decode cX12_say 24 = .ok (.ifCond .eq 7, 3) := by decide +kernel
theorem dX12_say_27 : decode cX12_say 27 = .ok (.iconst 1, 1) := by decide +kernel
theorem dX12_say_28 : decode cX12_say 28 = .ok (.goto 4, 3) := by decide +kernel
theorem dX12_say_31 : decode cX12_say 31 = .ok (.iconst 0, 1) := by decide +kernel
theorem dX12_say_32 : decode cX12_say 32 = .ok (.iconst 1, 1) := by decide +kernel
theorem dX12_say_33 : decode cX12_say 33 = .ok (.invokevirtual 195, 3) := by decide +kernel
theorem dX12_say_36 : decode cX12_say 36 = .ok (.ifCond .ne 24, 3) := by decide +kernel
theorem dX12_say_39 : decode cX12_say 39 = .ok (.aload_n 0, 1) := by decide +kernel
theorem dX12_say_40 : decode cX12_say 40 = .ok (.aload_n 0, 1) := by decide +kernel
theorem dX12_say_41 : decode cX12_say 41 = .ok (.iload_n 1, 1) := by decide +kernel
theorem dX12_say_42 : decode cX12_say 42 = .ok (.invokevirtual 257, 3) := by decide +kernel
theorem dX12_say_45 : decode cX12_say 45 = .ok (.ifCond .ne 7, 3) := by decide +kernel
theorem dX12_say_48 : decode cX12_say 48 = .ok (.iconst 1, 1) := by decide +kernel
theorem dX12_say_49 : decode cX12_say 49 = .ok (.goto 4, 3) := by decide +kernel
theorem dX12_say_52 : decode cX12_say 52 = .ok (.iconst 0, 1) := by decide +kernel
theorem dX12_say_53 : decode cX12_say 53 = .ok (.iconst 2, 1) := by decide +kernel
theorem dX12_say_54 : decode cX12_say 54 = .ok (.invokevirtual 195, 3) := by decide +kernel
theorem dX12_say_57 : decode cX12_say 57 = .ok (.ifCond .eq 5, 3) := by decide +kernel
theorem dX12_say_60 : decode cX12_say 60 = .ok (.iconst 0, 1) := by decide +kernel
theorem dX12_say_61 : decode cX12_say 61 = .ok (.ireturn, 1) := by decide +kernel
theorem dX12_say_62 : decode cX12_say 62 = .ok (.aload_n 0, 1) := by decide +kernel
theorem dX12_say_63 : decode cX12_say 63 = .ok (.iload_n 1, 1) := by decide +kernel
theorem dX12_say_64 : decode cX12_say 64 = .ok (.bipush 29, 2) := by decide +kernel
theorem dX12_say_66 : decode cX12_say 66 = .ok (.iload_n 2, 1) := by decide +kernel
theorem dX12_say_67 : decode cX12_say 67 = .ok (.iadd, 1) := by decide +kernel
theorem dX12_say_68 : decode cX12_say 68 = .ok (.iload_n 3, 1) := by decide +kernel
theorem dX12_say_69 : decode cX12_say 69 = .ok (.invokevirtual 244, 3) := by decide +kernel
theorem dX12_say_72 : decode cX12_say 72 = .ok (.aload_n 0, 1) := by decide +kernel
theorem dX12_say_73 : decode cX12_say 73 = .ok (.iload_n 1, 1) := by decide +kernel
theorem dX12_say_74 : decode cX12_say 74 = .ok (.iload_n 2, 1) := by decide +kernel
theorem dX12_say_75 : decode cX12_say 75 = .ok (.invokevirtual 316, 3) := by decide +kernel
theorem dX12_say_78 : decode cX12_say 78 = .ok (.ireturn, 1) := by decide +kernel
theorem dX12_kind_0 : decode cX12_kind 0 = .ok (.aload_n 0, 1) := by decide +kernel
theorem dX12_kind_1 : decode cX12_kind 1 = .ok (.iconst 0, 1) := by decide +kernel
theorem dX12_kind_2 : decode cX12_kind 2 = .ok (.putfield 3, 3) := by decide +kernel
theorem dX12_kind_5 : decode cX12_kind 5 = .ok (.aload_n 0, 1) := by decide +kernel
theorem dX12_kind_6 : decode cX12_kind 6 = .ok (.aload_n 0, 1) := by decide +kernel
theorem dX12_kind_7 : decode cX12_kind 7 = .ok (.iload_n 1, 1) := by decide +kernel
theorem dX12_kind_8 : decode cX12_kind 8 = .ok (.iload_n 2, 1) := by decide +kernel
theorem dX12_kind_9 : decode cX12_kind 9 = .ok (.invokevirtual 248, 3) := by decide +kernel
theorem dX12_kind_12 : decode cX12_kind 12 = .ok (.iconst 1, 1) := by decide +kernel
theorem dX12_kind_13 : decode cX12_kind 13 = .ok (.invokevirtual 195, 3) := by decide +kernel
theorem dX12_kind_16 : decode cX12_kind 16 = .ok (.ifCond .ne 24, 3) := by decide +kernel
theorem dX12_kind_19 : decode cX12_kind 19 = .ok (.aload_n 0, 1) := by decide +kernel
theorem dX12_kind_20 : decode cX12_kind 20 = .ok (.aload_n 0, 1) := by decide +kernel
theorem dX12_kind_21 : decode cX12_kind 21 = .ok (.iload_n 1, 1) := by decide +kernel
theorem dX12_kind_22 : decode cX12_kind 22 = .ok (.invokevirtual 257, 3) := by decide +kernel
theorem dX12_kind_25 : decode cX12_kind 25 = .ok (.ifCond .ne 7, 3) := by decide +kernel
theorem dX12_kind_28 : decode cX12_kind 28 = .ok (.iconst 1, 1) := by decide +kernel
theorem dX12_kind_29 : decode cX12_kind 29 = .ok (.goto 4, 3) := by decide +kernel
theorem dX12_kind_32 : decode cX12_kind 32 = .ok (.iconst 0, 1) := by decide +kernel
theorem dX12_kind_33 : decode cX12_kind 33 = .ok (.iconst 2, 1) := by decide +kernel
theorem dX12_kind_34 : decode cX12_kind 34 = .ok (.invokevirtual 195, 3) := by decide +kernel
theorem dX12_kind_37 : decode cX12_kind 37 = .ok (.ifCond .eq 7, 3) := by decide +kernel
theorem dX12_kind_40 : decode cX12_kind 40 = .ok (.iconst 0, 1) := by decide +kernel
theorem dX12_kind_41 : decode cX12_kind 41 = .ok (.goto 9, 3) := by decide +kernel
theorem dX12_kind_44 : decode cX12_kind 44 = .ok (.aload_n 0, 1) := by decide +kernel
theorem dX12_kind_45 : decode cX12_kind 45 = .ok (.iload_n 1, 1) := by decide +kernel
theorem dX12_kind_46 : decode cX12_kind 46 = .ok (.iload_n 2, 1) := by decide +kernel
theorem dX12_kind_47 : decode cX12_kind 47 = .ok (.invokevirtual 316, 3) := by decide +kernel
theorem dX12_kind_50 : decode cX12_kind 50 = .ok (.ireturn, 1) := by decide +kernel
theorem dX12_kindsOf_0 : decode cX12_kindsOf 0 = .ok (.iconst 0, 1) := by decide +kernel
theorem dX12_kindsOf_1 : decode cX12_kindsOf 1 = .ok (.istore_n 3, 1) := by decide +kernel
theorem dX12_kindsOf_2 : decode cX12_kindsOf 2 = .ok (.iconst 0, 1) := by decide +kernel
theorem dX12_kindsOf_3 : decode cX12_kindsOf 3 = .ok (.istore 4, 2) := by decide +kernel
theorem dX12_kindsOf_5 : decode cX12_kindsOf 5 = .ok (.iload 4, 2) := by decide +kernel
theorem dX12_kindsOf_7 : decode cX12_kindsOf 7 = .ok (.aload_n 0, 1) := by decide +kernel
theorem dX12_kindsOf_8 : decode cX12_kindsOf 8 = .ok (.iload_n 1, 1) := by decide +kernel
theorem dX12_kindsOf_9 : decode cX12_kindsOf 9 = .ok (.iconst 2, 1) := by decide +kernel
theorem dX12_kindsOf_10 : decode cX12_kindsOf 10 = .ok (.invokevirtual 235, 3) := by decide +kernel
theorem dX12_kindsOf_13 : decode cX12_kindsOf 13 = .ok (.if_icmp .ge 28, 3) := by decide +kernel
theorem dX12_kindsOf_16 : decode cX12_kindsOf 16 = .ok (.iload_n 3, 1) := by decide +kernel
theorem dX12_kindsOf_17 : decode cX12_kindsOf 17 = .ok (.aload_n 0, 1) := by decide +kernel
theorem dX12_kindsOf_18 : decode cX12_kindsOf 18 = .ok (.iload_n 1, 1) := by decide +kernel
theorem dX12_kindsOf_19 : decode cX12_kindsOf 19 = .ok (.iload 4, 2) := by decide +kernel
theorem dX12_kindsOf_21 : decode cX12_kindsOf 21 = .ok (.invokevirtual 316, 3) := by decide +kernel
theorem dX12_kindsOf_24 : decode cX12_kindsOf 24 = .ok (.iload_n 2, 1) := by decide +kernel
theorem dX12_kindsOf_25 : decode cX12_kindsOf 25 = .ok (.if_icmp .ne 7, 3) := by decide +kernel
theorem dX12_kindsOf_28 : decode cX12_kindsOf 28 = .ok (.iconst 1, 1) := by decide +kernel
theorem dX12_kindsOf_29 : decode cX12_kindsOf 29 = .ok (.goto 4, 3) := by decide +kernel
theorem dX12_kindsOf_32 : decode cX12_kindsOf 32 = .ok (.iconst 0, 1) := by decide +kernel
theorem dX12_kindsOf_33 : decode cX12_kindsOf 33 = .ok (.iadd, 1) := by decide +kernel
theorem dX12_kindsOf_34 : decode cX12_kindsOf 34 = .ok (.istore_n 3, 1) := by decide +kernel
theorem dX12_kindsOf_35 : decode cX12_kindsOf 35 = .ok (.iinc 4 1, 3) := by decide +kernel
theorem dX12_kindsOf_38 : decode cX12_kindsOf 38 = .ok (.goto (-33), 3) := by decide +kernel
theorem dX12_kindsOf_41 : decode cX12_kindsOf 41 = .ok (.iload_n 3, 1) := by decide +kernel
theorem dX12_kindsOf_42 : decode cX12_kindsOf 42 = .ok (.ireturn, 1) := by decide +kernel
theorem dX12_weight_0 : decode cX12_weight 0 = .ok (.iload_n 0, 1) := by decide +kernel
theorem dX12_weight_1 : decode cX12_weight 1 = .ok (.iconst 2, 1) := by decide +kernel
theorem dX12_weight_2 : decode cX12_weight 2 = .ok (.if_icmp .eq 8, 3) := by decide +kernel
theorem dX12_weight_5 : decode cX12_weight 5 = .ok (.iload_n 0, 1) := by decide +kernel
theorem dX12_weight_6 : decode cX12_weight 6 = .ok (.iconst 1, 1) := by decide +kernel
theorem dX12_weight_7 : decode cX12_weight 7 = .ok (.if_icmp .ne 7, 3) := by decide +kernel
theorem dX12_weight_10 : decode cX12_weight 10 = .ok (.iconst 3, 1) := by decide +kernel
theorem dX12_weight_11 : decode cX12_weight 11 = .ok (.goto 13, 3) := by decide +kernel
theorem dX12_weight_14 : decode cX12_weight 14 = .ok (.iload_n 0, 1) := by decide +kernel
theorem dX12_weight_15 : decode cX12_weight 15 = .ok (.iconst 5, 1) := by decide +kernel
theorem dX12_weight_16 : decode cX12_weight 16 = .ok (.if_icmp .ne 7, 3) := by decide +kernel
theorem dX12_weight_19 : decode cX12_weight 19 = .ok (.iconst 1, 1) := by decide +kernel
theorem dX12_weight_20 : decode cX12_weight 20 = .ok (.goto 4, 3) := by decide +kernel
theorem dX12_weight_23 : decode cX12_weight 23 = .ok (.iconst 2, 1) := by decide +kernel
theorem dX12_weight_24 : decode cX12_weight 24 = .ok (.ireturn, 1) := by decide +kernel
theorem dX12_weightOf_0 : decode cX12_weightOf 0 = .ok (.iload_n 3, 1) := by decide +kernel
theorem dX12_weightOf_1 : decode cX12_weightOf 1 = .ok (.iconst 1, 1) := by decide +kernel
theorem dX12_weightOf_2 : decode cX12_weightOf 2 = .ok (.if_icmp .eq 17, 3) := by decide +kernel
theorem dX12_weightOf_5 : decode cX12_weightOf 5 = .ok (.aload_n 0, 1) := by decide +kernel
theorem dX12_weightOf_6 : decode cX12_weightOf 6 = .ok (.iload_n 1, 1) := by decide +kernel
theorem dX12_weightOf_7 : decode cX12_weightOf 7 = .ok (.iload_n 2, 1) := by decide +kernel
theorem dX12_weightOf_8 : decode cX12_weightOf 8 = .ok (.iload_n 3, 1) := by decide +kernel
theorem dX12_weightOf_9 : decode cX12_weightOf 9 = .ok (.invokevirtual 313, 3) := by decide +kernel
theorem dX12_weightOf_12 : decode cX12_weightOf 12 = .ok (.ifCond .ge 7, 3) := by decide +kernel
theorem dX12_weightOf_15 : decode cX12_weightOf 15 = .ok (.iconst 0, 1) := by decide +kernel
theorem dX12_weightOf_16 : decode cX12_weightOf 16 = .ok (.goto 7, 3) := by decide +kernel
theorem dX12_weightOf_19 : decode cX12_weightOf 19 = .ok (.iload_n 3, 1) := by decide +kernel
theorem dX12_weightOf_20 : decode cX12_weightOf 20 = .ok (.invokestatic 319, 3) := by decide +kernel
theorem dX12_weightOf_23 : decode cX12_weightOf 23 = .ok (.ireturn, 1) := by decide +kernel
theorem dX12_allWeights_0 : decode cX12_allWeights 0 = .ok (.iconst 1, 1) := by decide +kernel
theorem dX12_allWeights_1 : decode cX12_allWeights 1 = .ok (.invokestatic 319, 3) := by decide +kernel
theorem dX12_allWeights_4 : decode cX12_allWeights 4 = .ok (.istore_n 3, 1) := by decide +kernel
theorem dX12_allWeights_5 : decode cX12_allWeights 5 = .ok (.iconst 2, 1) := by decide +kernel
theorem dX12_allWeights_6 : decode cX12_allWeights 6 = .ok (.istore 4, 2) := by decide +kernel
theorem dX12_allWeights_8 : decode cX12_allWeights 8 = .ok (.iload 4, 2) := by decide +kernel
theorem dX12_allWeights_10 : decode cX12_allWeights 10 = .ok (.bipush 6, 2) := by decide +kernel
theorem dX12_allWeights_12 : decode cX12_allWeights 12 = .ok (.if_icmp .ge 20, 3) := by decide +kernel
theorem dX12_allWeights_15 : decode cX12_allWeights 15 = .ok (.iload_n 3, 1) := by decide +kernel
theorem dX12_allWeights_16 : decode cX12_allWeights 16 = .ok (.aload_n 0, 1) := by decide +kernel
theorem dX12_allWeights_17 : decode cX12_allWeights 17 = .ok (.iload_n 1, 1) := by decide +kernel
theorem dX12_allWeights_18 : decode cX12_allWeights 18 = .ok (.iload_n 2, 1) := by decide +kernel
theorem dX12_allWeights_19 : decode cX12_allWeights 19 = .ok (.iload 4, 2) := by decide +kernel
theorem dX12_allWeights_21 : decode cX12_allWeights 21 = .ok (.invokevirtual 322, 3) := by decide +kernel
theorem dX12_allWeights_24 : decode cX12_allWeights 24 = .ok (.iadd, 1) := by decide +kernel
theorem dX12_allWeights_25 : decode cX12_allWeights 25 = .ok (.istore_n 3, 1) := by decide +kernel
theorem dX12_allWeights_26 : decode cX12_allWeights 26 = .ok (.iinc 4 1, 3) := by decide +kernel
theorem dX12_allWeights_29 : decode cX12_allWeights 29 = .ok (.goto (-21), 3) := by decide +kernel
theorem dX12_allWeights_32 : decode cX12_allWeights 32 = .ok (.iload_n 3, 1) := by decide +kernel
theorem dX12_allWeights_33 : decode cX12_allWeights 33 = .ok (.ireturn, 1) := by decide +kernel
theorem dX12_draw_0 : decode cX12_draw 0 = .ok (.aload_n 0, 1) := by decide +kernel
theorem dX12_draw_1 : decode cX12_draw 1 = .ok (.ldc_w 325, 3) := by decide +kernel
theorem dX12_draw_4 : decode cX12_draw 4 = .ok (.aload_n 0, 1) := by decide +kernel
theorem dX12_draw_5 : decode cX12_draw 5 = .ok (.getfield 326, 3) := by decide +kernel
theorem dX12_draw_8 : decode cX12_draw 8 = .ok (.imul, 1) := by decide +kernel
theorem dX12_draw_9 : decode cX12_draw 9 = .ok (.sipush 12345, 3) := by decide +kernel
theorem dX12_draw_12 : decode cX12_draw 12 = .ok (.iadd, 1) := by decide +kernel
theorem dX12_draw_13 : decode cX12_draw 13 = .ok (.putfield 326, 3) := by decide +kernel
theorem dX12_draw_16 : decode cX12_draw 16 = .ok (.aload_n 0, 1) := by decide +kernel
theorem dX12_draw_17 : decode cX12_draw 17 = .ok (.getfield 326, 3) := by decide +kernel
theorem dX12_draw_20 : decode cX12_draw 20 = .ok (.bipush 16, 2) := by decide +kernel
theorem dX12_draw_22 : decode cX12_draw 22 = .ok (.ishr, 1) := by decide +kernel
theorem dX12_draw_23 : decode cX12_draw 23 = .ok (.sipush 32767, 3) := by decide +kernel
theorem dX12_draw_26 : decode cX12_draw 26 = .ok (.iand, 1) := by decide +kernel
theorem dX12_draw_27 : decode cX12_draw 27 = .ok (.ireturn, 1) := by decide +kernel
theorem dX12_run_0 : decode cX12_run 0 = .ok (.aload_n 0, 1) := by decide +kernel
theorem dX12_run_1 : decode cX12_run 1 = .ok (.iconst 0, 1) := by decide +kernel
theorem dX12_run_2 : decode cX12_run 2 = .ok (.putfield 3, 3) := by decide +kernel
theorem dX12_run_5 : decode cX12_run 5 = .ok (.aload_n 0, 1) := by decide +kernel
theorem dX12_run_6 : decode cX12_run 6 = .ok (.aload_n 0, 1) := by decide +kernel
theorem dX12_run_7 : decode cX12_run 7 = .ok (.iload_n 1, 1) := by decide +kernel
theorem dX12_run_8 : decode cX12_run 8 = .ok (.invokevirtual 295, 3) := by decide +kernel
theorem dX12_run_11 : decode cX12_run 11 = .ok (.ifCond .ne 11, 3) := by decide +kernel
theorem dX12_run_14 : decode cX12_run 14 = .ok (.aload_n 0, 1) := by decide +kernel
theorem dX12_run_15 : decode cX12_run 15 = .ok (.iload_n 2, 1) := by decide +kernel
theorem dX12_run_16 : decode cX12_run 16 = .ok (.invokevirtual 241, 3) := by decide +kernel
theorem dX12_run_19 : decode cX12_run 19 = .ok (.ifCond .eq 7, 3) := by decide +kernel
theorem dX12_run_22 : decode cX12_run 22 = .ok (.iconst 1, 1) := by decide +kernel
theorem dX12_run_23 : decode cX12_run 23 = .ok (.goto 4, 3) := by decide +kernel
theorem dX12_run_26 : decode cX12_run 26 = .ok (.iconst 0, 1) := by decide +kernel
theorem dX12_run_27 : decode cX12_run 27 = .ok (.iconst 1, 1) := by decide +kernel
theorem dX12_run_28 : decode cX12_run 28 = .ok (.invokevirtual 195, 3) := by decide +kernel
theorem dX12_run_31 : decode cX12_run 31 = .ok (.ifCond .ne 24, 3) := by decide +kernel
theorem dX12_run_34 : decode cX12_run 34 = .ok (.aload_n 0, 1) := by decide +kernel
theorem dX12_run_35 : decode cX12_run 35 = .ok (.aload_n 0, 1) := by decide +kernel
theorem dX12_run_36 : decode cX12_run 36 = .ok (.iload_n 2, 1) := by decide +kernel
theorem dX12_run_37 : decode cX12_run 37 = .ok (.invokevirtual 257, 3) := by decide +kernel
theorem dX12_run_40 : decode cX12_run 40 = .ok (.ifCond .ne 7, 3) := by decide +kernel
theorem dX12_run_43 : decode cX12_run 43 = .ok (.iconst 1, 1) := by decide +kernel
theorem dX12_run_44 : decode cX12_run 44 = .ok (.goto 4, 3) := by decide +kernel
theorem dX12_run_47 : decode cX12_run 47 = .ok (.iconst 0, 1) := by decide +kernel
theorem dX12_run_48 : decode cX12_run 48 = .ok (.iconst 2, 1) := by decide +kernel
theorem dX12_run_49 : decode cX12_run 49 = .ok (.invokevirtual 195, 3) := by decide +kernel
theorem dX12_run_52 : decode cX12_run 52 = .ok (.ifCond .eq 5, 3) := by decide +kernel
theorem dX12_run_55 : decode cX12_run 55 = .ok (.iconst 0, 1) := by decide +kernel
theorem dX12_run_56 : decode cX12_run 56 = .ok (.ireturn, 1) := by decide +kernel
theorem dX12_run_57 : decode cX12_run 57 = .ok (.aload_n 0, 1) := by decide +kernel
theorem dX12_run_58 : decode cX12_run 58 = .ok (.iload_n 3, 1) := by decide +kernel
theorem dX12_run_59 : decode cX12_run 59 = .ok (.putfield 326, 3) := by decide +kernel
theorem dX12_run_62 : decode cX12_run 62 = .ok (.iconst 0, 1) := by decide +kernel
theorem dX12_run_63 : decode cX12_run 63 = .ok (.istore 4, 2) := by decide +kernel
theorem dX12_run_65 : decode cX12_run 65 = .ok (.iload 4, 2) := by decide +kernel
theorem dX12_run_67 : decode cX12_run 67 = .ok (.aload_n 0, 1) := by decide +kernel
theorem dX12_run_68 : decode cX12_run 68 = .ok (.iload_n 2, 1) := by decide +kernel
theorem dX12_run_69 : decode cX12_run 69 = .ok (.iconst 2, 1) := by decide +kernel
theorem dX12_run_70 : decode cX12_run 70 = .ok (.invokevirtual 235, 3) := by decide +kernel
theorem dX12_run_73 : decode cX12_run 73 = .ok (.if_icmp .ge 148, 3) := by decide +kernel
theorem dX12_run_76 : decode cX12_run 76 = .ok (.aload_n 0, 1) := by decide +kernel
theorem dX12_run_77 : decode cX12_run 77 = .ok (.invokevirtual 329, 3) := by decide +kernel
theorem dX12_run_80 : decode cX12_run 80 = .ok (.bipush 100, 2) := by decide +kernel
theorem dX12_run_82 : decode cX12_run 82 = .ok (.irem, 1) := by decide +kernel
theorem dX12_run_83 : decode cX12_run 83 = .ok (.aload_n 0, 1) := by decide +kernel
theorem dX12_run_84 : decode cX12_run 84 = .ok (.iload_n 1, 1) := by decide +kernel
theorem dX12_run_85 : decode cX12_run 85 = .ok (.iload_n 2, 1) := by decide +kernel
theorem dX12_run_86 : decode cX12_run 86 = .ok (.iload 4, 2) := by decide +kernel
theorem dX12_run_88 : decode cX12_run 88 = .ok (.invokevirtual 298, 3) := by decide +kernel
theorem dX12_run_91 : decode cX12_run 91 = .ok (.if_icmp .ge 23, 3) := by decide +kernel
theorem dX12_run_94 : decode cX12_run 94 = .ok (.aload_n 0, 1) := by decide +kernel
theorem dX12_run_95 : decode cX12_run 95 = .ok (.iload_n 2, 1) := by decide +kernel
theorem dX12_run_96 : decode cX12_run 96 = .ok (.bipush 29, 2) := by decide +kernel
theorem dX12_run_98 : decode cX12_run 98 = .ok (.iload 4, 2) := by decide +kernel
theorem dX12_run_100 : decode cX12_run 100 = .ok (.iadd, 1) := by decide +kernel
theorem dX12_run_101 : decode cX12_run 101 = .ok (.aload_n 0, 1) := by decide +kernel
theorem dX12_run_102 : decode cX12_run 102 = .ok (.iload_n 2, 1) := by decide +kernel
theorem dX12_run_103 : decode cX12_run 103 = .ok (.iload 4, 2) := by decide +kernel
theorem dX12_run_105 : decode cX12_run 105 = .ok (.invokevirtual 251, 3) := by decide +kernel
theorem dX12_run_108 : decode cX12_run 108 = .ok (.invokevirtual 244, 3) := by decide +kernel
theorem dX12_run_111 : decode cX12_run 111 = .ok (.goto 104, 3) := by decide +kernel
theorem dX12_run_114 : decode cX12_run 114 = .ok (.aload_n 0, 1) := by decide +kernel
theorem dX12_run_115 : decode cX12_run 115 = .ok (.invokevirtual 329, 3) := by decide +kernel
theorem dX12_run_118 : decode cX12_run 118 = .ok (.aload_n 0, 1) := by decide +kernel
theorem dX12_run_119 : decode cX12_run 119 = .ok (.iload_n 2, 1) := by decide +kernel
theorem dX12_run_120 : decode cX12_run 120 = .ok (.iload 4, 2) := by decide +kernel
theorem dX12_run_122 : decode cX12_run 122 = .ok (.invokevirtual 332, 3) := by decide +kernel
theorem dX12_run_125 : decode cX12_run 125 = .ok (.irem, 1) := by decide +kernel
theorem dX12_run_126 : decode cX12_run 126 = .ok (.istore 5, 2) := by decide +kernel
theorem dX12_run_128 : decode cX12_run 128 = .ok (.iconst (-1), 1) := by decide +kernel
theorem dX12_run_129 : decode cX12_run 129 = .ok (.istore 6, 2) := by decide +kernel
theorem dX12_run_131 : decode cX12_run 131 = .ok (.iconst 0, 1) := by decide +kernel
theorem dX12_run_132 : decode cX12_run 132 = .ok (.istore 7, 2) := by decide +kernel
theorem dX12_run_134 : decode cX12_run 134 = .ok (.iconst 2, 1) := by decide +kernel
theorem dX12_run_135 : decode cX12_run 135 = .ok (.istore 8, 2) := by decide +kernel
theorem dX12_run_137 : decode cX12_run 137 = .ok (.iload 8, 2) := by decide +kernel
theorem dX12_run_139 : decode cX12_run 139 = .ok (.bipush 6, 2) := by decide +kernel
theorem dX12_run_141 : decode cX12_run 141 = .ok (.if_icmp .ge 62, 3) := by decide +kernel
theorem dX12_run_144 : decode cX12_run 144 = .ok (.iload 7, 2) := by decide +kernel
theorem dX12_run_146 : decode cX12_run 146 = .ok (.ifCond .ne 57, 3) := by decide +kernel
theorem dX12_run_149 : decode cX12_run 149 = .ok (.aload_n 0, 1) := by decide +kernel
theorem dX12_run_150 : decode cX12_run 150 = .ok (.iload_n 2, 1) := by decide +kernel
theorem dX12_run_151 : decode cX12_run 151 = .ok (.iload 4, 2) := by decide +kernel
theorem dX12_run_153 : decode cX12_run 153 = .ok (.iload 8, 2) := by decide +kernel
theorem dX12_run_155 : decode cX12_run 155 = .ok (.invokevirtual 322, 3) := by decide +kernel
theorem dX12_run_158 : decode cX12_run 158 = .ok (.istore 9, 2) := by decide +kernel
theorem dX12_run_160 : decode cX12_run 160 = .ok (.iload 5, 2) := by decide +kernel
theorem dX12_run_162 : decode cX12_run 162 = .ok (.iload 9, 2) := by decide +kernel
theorem dX12_run_164 : decode cX12_run 164 = .ok (.if_icmp .ge 7, 3) := by decide +kernel
theorem dX12_run_167 : decode cX12_run 167 = .ok (.iconst 1, 1) := by decide +kernel
theorem dX12_run_168 : decode cX12_run 168 = .ok (.goto 4, 3) := by decide +kernel
theorem dX12_run_171 : decode cX12_run 171 = .ok (.iconst 0, 1) := by decide +kernel
theorem dX12_run_172 : decode cX12_run 172 = .ok (.istore 7, 2) := by decide +kernel
theorem dX12_run_174 : decode cX12_run 174 = .ok (.iload 7, 2) := by decide +kernel
theorem dX12_run_176 : decode cX12_run 176 = .ok (.ifCond .eq 14, 3) := by decide +kernel
theorem dX12_run_179 : decode cX12_run 179 = .ok (.aload_n 0, 1) := by decide +kernel
theorem dX12_run_180 : decode cX12_run 180 = .ok (.iload_n 2, 1) := by decide +kernel
theorem dX12_run_181 : decode cX12_run 181 = .ok (.iload 4, 2) := by decide +kernel
theorem dX12_run_183 : decode cX12_run 183 = .ok (.iload 8, 2) := by decide +kernel
theorem dX12_run_185 : decode cX12_run 185 = .ok (.invokevirtual 313, 3) := by decide +kernel
theorem dX12_run_188 : decode cX12_run 188 = .ok (.istore 6, 2) := by decide +kernel
theorem dX12_run_190 : decode cX12_run 190 = .ok (.iload 5, 2) := by decide +kernel
theorem dX12_run_192 : decode cX12_run 192 = .ok (.iload 9, 2) := by decide +kernel
theorem dX12_run_194 : decode cX12_run 194 = .ok (.isub, 1) := by decide +kernel
theorem dX12_run_195 : decode cX12_run 195 = .ok (.istore 5, 2) := by decide +kernel
theorem dX12_run_197 : decode cX12_run 197 = .ok (.iinc 8 1, 3) := by decide +kernel
theorem dX12_run_200 : decode cX12_run 200 = .ok (.goto (-63), 3) := by decide +kernel
theorem dX12_run_203 : decode cX12_run 203 = .ok (.aload_n 0, 1) := by decide +kernel
theorem dX12_run_204 : decode cX12_run 204 = .ok (.iload_n 2, 1) := by decide +kernel
theorem dX12_run_205 : decode cX12_run 205 = .ok (.bipush 29, 2) := by decide +kernel
theorem dX12_run_207 : decode cX12_run 207 = .ok (.iload 4, 2) := by decide +kernel
theorem dX12_run_209 : decode cX12_run 209 = .ok (.iadd, 1) := by decide +kernel
theorem dX12_run_210 : decode cX12_run 210 = .ok (.iload 6, 2) := by decide +kernel
theorem dX12_run_212 : decode cX12_run 212 = .ok (.invokevirtual 244, 3) := by decide +kernel
theorem dX12_run_215 : decode cX12_run 215 = .ok (.iinc 4 1, 3) := by decide +kernel
theorem dX12_run_218 : decode cX12_run 218 = .ok (.goto (-153), 3) := by decide +kernel
theorem dX12_run_221 : decode cX12_run 221 = .ok (.aload_n 0, 1) := by decide +kernel
theorem dX12_run_222 : decode cX12_run 222 = .ok (.iload_n 2, 1) := by decide +kernel
theorem dX12_run_223 : decode cX12_run 223 = .ok (.iconst 0, 1) := by decide +kernel
theorem dX12_run_224 : decode cX12_run 224 = .ok (.invokevirtual 335, 3) := by decide +kernel
theorem dX12_run_227 : decode cX12_run 227 = .ok (.ireturn, 1) := by decide +kernel
theorem dX12_common_0 : decode cX12_common 0 = .ok (.iload_n 0, 1) := by decide +kernel
theorem dX12_common_1 : decode cX12_common 1 = .ok (.invokestatic 338, 3) := by decide +kernel
theorem dX12_common_4 : decode cX12_common 4 = .ok (.istore_n 2, 1) := by decide +kernel
theorem dX12_common_5 : decode cX12_common 5 = .ok (.iload_n 1, 1) := by decide +kernel
theorem dX12_common_6 : decode cX12_common 6 = .ok (.invokestatic 338, 3) := by decide +kernel
theorem dX12_common_9 : decode cX12_common 9 = .ok (.istore_n 3, 1) := by decide +kernel
theorem dX12_common_10 : decode cX12_common 10 = .ok (.iload_n 3, 1) := by decide +kernel
theorem dX12_common_11 : decode cX12_common 11 = .ok (.ifCond .le 16, 3) := by decide +kernel
theorem dX12_common_14 : decode cX12_common 14 = .ok (.iload_n 2, 1) := by decide +kernel
theorem dX12_common_15 : decode cX12_common 15 = .ok (.iload_n 3, 1) := by decide +kernel
theorem dX12_common_16 : decode cX12_common 16 = .ok (.irem, 1) := by decide +kernel
theorem dX12_common_17 : decode cX12_common 17 = .ok (.istore 4, 2) := by decide +kernel
theorem dX12_common_19 : decode cX12_common 19 = .ok (.iload_n 3, 1) := by decide +kernel
theorem dX12_common_20 : decode cX12_common 20 = .ok (.istore_n 2, 1) := by decide +kernel
theorem dX12_common_21 : decode cX12_common 21 = .ok (.iload 4, 2) := by decide +kernel
theorem dX12_common_23 : decode cX12_common 23 = .ok (.istore_n 3, 1) := by decide +kernel
theorem dX12_common_24 : decode cX12_common 24 = .ok (.goto (-14), 3) := by decide +kernel
theorem dX12_common_27 : decode cX12_common 27 = .ok (.iload_n 2, 1) := by decide +kernel
theorem dX12_common_28 : decode cX12_common 28 = .ok (.ireturn, 1) := by decide +kernel
theorem dX12_odds_0 : decode cX12_odds 0 = .ok (.aload_n 0, 1) := by decide +kernel
theorem dX12_odds_1 : decode cX12_odds 1 = .ok (.iconst 0, 1) := by decide +kernel
theorem dX12_odds_2 : decode cX12_odds 2 = .ok (.putfield 3, 3) := by decide +kernel
theorem dX12_odds_5 : decode cX12_odds 5 = .ok (.aload_n 0, 1) := by decide +kernel
theorem dX12_odds_6 : decode cX12_odds 6 = .ok (.aload_n 0, 1) := by decide +kernel
theorem dX12_odds_7 : decode cX12_odds 7 = .ok (.iload_n 1, 1) := by decide +kernel
theorem dX12_odds_8 : decode cX12_odds 8 = .ok (.invokevirtual 295, 3) := by decide +kernel
theorem dX12_odds_11 : decode cX12_odds 11 = .ok (.ifCond .ne 12, 3) := by decide +kernel
theorem dX12_odds_14 : decode cX12_odds 14 = .ok (.aload_n 0, 1) := by decide +kernel
theorem dX12_odds_15 : decode cX12_odds 15 = .ok (.iload_n 2, 1) := by decide +kernel
theorem dX12_odds_16 : decode cX12_odds 16 = .ok (.iload_n 3, 1) := by decide +kernel
theorem dX12_odds_17 : decode cX12_odds 17 = .ok (.invokevirtual 248, 3) := by decide +kernel
theorem dX12_odds_20 : decode cX12_odds 20 = .ok (.ifCond .eq 7, 3) := by decide +kernel
theorem dX12_odds_23 : decode cX12_odds 23 = .ok (.iconst 1, 1) := by decide +kernel
theorem dX12_odds_24 : decode cX12_odds 24 = .ok (.goto 4, 3) := by decide +kernel
theorem dX12_odds_27 : decode cX12_odds 27 = .ok (.iconst 0, 1) := by decide +kernel
theorem dX12_odds_28 : decode cX12_odds 28 = .ok (.iconst 1, 1) := by decide +kernel
theorem dX12_odds_29 : decode cX12_odds 29 = .ok (.invokevirtual 195, 3) := by decide +kernel
theorem dX12_odds_32 : decode cX12_odds 32 = .ok (.ifCond .ne 47, 3) := by decide +kernel
theorem dX12_odds_35 : decode cX12_odds 35 = .ok (.aload_n 0, 1) := by decide +kernel
theorem dX12_odds_36 : decode cX12_odds 36 = .ok (.aload_n 0, 1) := by decide +kernel
theorem dX12_odds_37 : decode cX12_odds 37 = .ok (.iload_n 2, 1) := by decide +kernel
theorem dX12_odds_38 : decode cX12_odds 38 = .ok (.invokevirtual 257, 3) := by decide +kernel
theorem dX12_odds_41 : decode cX12_odds 41 = .ok (.ifCond .ne 7, 3) := by decide +kernel
theorem dX12_odds_44 : decode cX12_odds 44 = .ok (.iconst 1, 1) := by decide +kernel
theorem dX12_odds_45 : decode cX12_odds 45 = .ok (.goto 4, 3) := by decide +kernel
theorem dX12_odds_48 : decode cX12_odds 48 = .ok (.iconst 0, 1) := by decide +kernel
theorem dX12_odds_49 : decode cX12_odds 49 = .ok (.iconst 2, 1) := by decide +kernel
theorem dX12_odds_50 : decode cX12_odds 50 = .ok (.invokevirtual 195, 3) := by decide +kernel
theorem dX12_odds_53 : decode cX12_odds 53 = .ok (.ifCond .ne 26, 3) := by decide +kernel
theorem dX12_odds_56 : decode cX12_odds 56 = .ok (.aload_n 0, 1) := by decide +kernel
theorem dX12_odds_57 : decode cX12_odds 57 = .ok (.iload 4, 2) := by decide +kernel
theorem dX12_odds_59 : decode cX12_odds 59 = .ok (.iconst 0, 1) := by decide +kernel
theorem dX12_odds_60 : decode cX12_odds 60 = .ok (.iconst 5, 1) := by decide +kernel
theorem dX12_odds_61 : decode cX12_odds 61 = .ok (.invokestatic 55, 3) := by decide +kernel
theorem dX12_odds_64 : decode cX12_odds 64 = .ok (.ifCond .ne 7, 3) := by decide +kernel
theorem dX12_odds_67 : decode cX12_odds 67 = .ok (.iconst 1, 1) := by decide +kernel
theorem dX12_odds_68 : decode cX12_odds 68 = .ok (.goto 4, 3) := by decide +kernel
theorem dX12_odds_71 : decode cX12_odds 71 = .ok (.iconst 0, 1) := by decide +kernel
theorem dX12_odds_72 : decode cX12_odds 72 = .ok (.iconst 3, 1) := by decide +kernel
theorem dX12_odds_73 : decode cX12_odds 73 = .ok (.invokevirtual 195, 3) := by decide +kernel
theorem dX12_odds_76 : decode cX12_odds 76 = .ok (.ifCond .eq 5, 3) := by decide +kernel
theorem dX12_odds_79 : decode cX12_odds 79 = .ok (.iconst 0, 1) := by decide +kernel
theorem dX12_odds_80 : decode cX12_odds 80 = .ok (.ireturn, 1) := by decide +kernel
theorem dX12_odds_81 : decode cX12_odds 81 = .ok (.aload_n 0, 1) := by decide +kernel
theorem dX12_odds_82 : decode cX12_odds 82 = .ok (.iload_n 1, 1) := by decide +kernel
theorem dX12_odds_83 : decode cX12_odds 83 = .ok (.iload_n 2, 1) := by decide +kernel
theorem dX12_odds_84 : decode cX12_odds 84 = .ok (.iload_n 3, 1) := by decide +kernel
theorem dX12_odds_85 : decode cX12_odds 85 = .ok (.invokevirtual 298, 3) := by decide +kernel
theorem dX12_odds_88 : decode cX12_odds 88 = .ok (.istore 6, 2) := by decide +kernel
theorem dX12_odds_90 : decode cX12_odds 90 = .ok (.aload_n 0, 1) := by decide +kernel
theorem dX12_odds_91 : decode cX12_odds 91 = .ok (.iload_n 2, 1) := by decide +kernel
theorem dX12_odds_92 : decode cX12_odds 92 = .ok (.iload_n 3, 1) := by decide +kernel
theorem dX12_odds_93 : decode cX12_odds 93 = .ok (.invokevirtual 332, 3) := by decide +kernel
theorem dX12_odds_96 : decode cX12_odds 96 = .ok (.istore 7, 2) := by decide +kernel
theorem dX12_odds_98 : decode cX12_odds 98 = .ok (.iload 4, 2) := by decide +kernel
theorem dX12_odds_100 : decode cX12_odds 100 = .ok (.ifCond .ne 11, 3) := by decide +kernel
theorem dX12_odds_103 : decode cX12_odds 103 = .ok (.iload 6, 2) := by decide +kernel
theorem dX12_odds_105 : decode cX12_odds 105 = .ok (.iload 7, 2) := by decide +kernel
theorem dX12_odds_107 : decode cX12_odds 107 = .ok (.imul, 1) := by decide +kernel
theorem dX12_odds_108 : decode cX12_odds 108 = .ok (.goto 17, 3) := by decide +kernel
theorem dX12_odds_111 : decode cX12_odds 111 = .ok (.bipush 100, 2) := by decide +kernel
theorem dX12_odds_113 : decode cX12_odds 113 = .ok (.iload 6, 2) := by decide +kernel
theorem dX12_odds_115 : decode cX12_odds 115 = .ok (.isub, 1) := by decide +kernel
theorem dX12_odds_116 : decode cX12_odds 116 = .ok (.aload_n 0, 1) := by decide +kernel
theorem dX12_odds_117 : decode cX12_odds 117 = .ok (.iload_n 2, 1) := by decide +kernel
theorem dX12_odds_118 : decode cX12_odds 118 = .ok (.iload_n 3, 1) := by decide +kernel
theorem dX12_odds_119 : decode cX12_odds 119 = .ok (.iload 4, 2) := by decide +kernel
theorem dX12_odds_121 : decode cX12_odds 121 = .ok (.invokevirtual 322, 3) := by decide +kernel
theorem dX12_odds_124 : decode cX12_odds 124 = .ok (.imul, 1) := by decide +kernel
theorem dX12_odds_125 : decode cX12_odds 125 = .ok (.istore 8, 2) := by decide +kernel
theorem dX12_odds_127 : decode cX12_odds 127 = .ok (.iload 8, 2) := by decide +kernel
theorem dX12_odds_129 : decode cX12_odds 129 = .ok (.bipush 100, 2) := by decide +kernel
theorem dX12_odds_131 : decode cX12_odds 131 = .ok (.iload 7, 2) := by decide +kernel
theorem dX12_odds_133 : decode cX12_odds 133 = .ok (.imul, 1) := by decide +kernel
theorem dX12_odds_134 : decode cX12_odds 134 = .ok (.invokestatic 341, 3) := by decide +kernel
theorem dX12_odds_137 : decode cX12_odds 137 = .ok (.istore 9, 2) := by decide +kernel
theorem dX12_odds_139 : decode cX12_odds 139 = .ok (.iload 5, 2) := by decide +kernel
theorem dX12_odds_141 : decode cX12_odds 141 = .ok (.ifCond .eq 14, 3) := by decide +kernel
theorem dX12_odds_144 : decode cX12_odds 144 = .ok (.bipush 100, 2) := by decide +kernel
theorem dX12_odds_146 : decode cX12_odds 146 = .ok (.iload 7, 2) := by decide +kernel
theorem dX12_odds_148 : decode cX12_odds 148 = .ok (.imul, 1) := by decide +kernel
theorem dX12_odds_149 : decode cX12_odds 149 = .ok (.iload 9, 2) := by decide +kernel
theorem dX12_odds_151 : decode cX12_odds 151 = .ok (.idiv, 1) := by decide +kernel
theorem dX12_odds_152 : decode cX12_odds 152 = .ok (.goto 8, 3) := by decide +kernel
theorem dX12_odds_155 : decode cX12_odds 155 = .ok (.iload 8, 2) := by decide +kernel
theorem dX12_odds_157 : decode cX12_odds 157 = .ok (.iload 9, 2) := by decide +kernel
theorem dX12_odds_159 : decode cX12_odds 159 = .ok (.idiv, 1) := by decide +kernel
theorem dX12_odds_160 : decode cX12_odds 160 = .ok (.ireturn, 1) := by decide +kernel
theorem dX12_kinds_0 : decode cX12_kinds 0 = .ok (.aload_n 0, 1) := by decide +kernel
theorem dX12_kinds_1 : decode cX12_kinds 1 = .ok (.iconst 0, 1) := by decide +kernel
theorem dX12_kinds_2 : decode cX12_kinds 2 = .ok (.putfield 3, 3) := by decide +kernel
theorem dX12_kinds_5 : decode cX12_kinds 5 = .ok (.aload_n 0, 1) := by decide +kernel
theorem dX12_kinds_6 : decode cX12_kinds 6 = .ok (.aload_n 0, 1) := by decide +kernel
theorem dX12_kinds_7 : decode cX12_kinds 7 = .ok (.iload_n 1, 1) := by decide +kernel
theorem dX12_kinds_8 : decode cX12_kinds 8 = .ok (.invokevirtual 241, 3) := by decide +kernel
theorem dX12_kinds_11 : decode cX12_kinds 11 = .ok (.iconst 1, 1) := by decide +kernel
theorem dX12_kinds_12 : decode cX12_kinds 12 = .ok (.invokevirtual 195, 3) := by decide +kernel
theorem dX12_kinds_15 : decode cX12_kinds 15 = .ok (.ifCond .ne 47, 3) := by decide +kernel
theorem dX12_kinds_18 : decode cX12_kinds 18 = .ok (.aload_n 0, 1) := by decide +kernel
theorem dX12_kinds_19 : decode cX12_kinds 19 = .ok (.aload_n 0, 1) := by decide +kernel
theorem dX12_kinds_20 : decode cX12_kinds 20 = .ok (.iload_n 1, 1) := by decide +kernel
theorem dX12_kinds_21 : decode cX12_kinds 21 = .ok (.invokevirtual 257, 3) := by decide +kernel
theorem dX12_kinds_24 : decode cX12_kinds 24 = .ok (.ifCond .ne 7, 3) := by decide +kernel
theorem dX12_kinds_27 : decode cX12_kinds 27 = .ok (.iconst 1, 1) := by decide +kernel
theorem dX12_kinds_28 : decode cX12_kinds 28 = .ok (.goto 4, 3) := by decide +kernel
theorem dX12_kinds_31 : decode cX12_kinds 31 = .ok (.iconst 0, 1) := by decide +kernel
theorem dX12_kinds_32 : decode cX12_kinds 32 = .ok (.iconst 2, 1) := by decide +kernel
theorem dX12_kinds_33 : decode cX12_kinds 33 = .ok (.invokevirtual 195, 3) := by decide +kernel
theorem dX12_kinds_36 : decode cX12_kinds 36 = .ok (.ifCond .ne 26, 3) := by decide +kernel
theorem dX12_kinds_39 : decode cX12_kinds 39 = .ok (.aload_n 0, 1) := by decide +kernel
theorem dX12_kinds_40 : decode cX12_kinds 40 = .ok (.iload_n 2, 1) := by decide +kernel
theorem dX12_kinds_41 : decode cX12_kinds 41 = .ok (.iconst 0, 1) := by decide +kernel
theorem dX12_kinds_42 : decode cX12_kinds 42 = .ok (.bipush 6, 2) := by decide +kernel
theorem dX12_kinds_44 : decode cX12_kinds 44 = .ok (.invokestatic 55, 3) := by decide +kernel
theorem dX12_kinds_47 : decode cX12_kinds 47 = .ok (.ifCond .ne 7, 3) := by decide +kernel
theorem dX12_kinds_50 : decode cX12_kinds 50 = .ok (.iconst 1, 1) := by decide +kernel
theorem dX12_kinds_51 : decode cX12_kinds 51 = .ok (.goto 4, 3) := by decide +kernel
theorem dX12_kinds_54 : decode cX12_kinds 54 = .ok (.iconst 0, 1) := by decide +kernel
theorem dX12_kinds_55 : decode cX12_kinds 55 = .ok (.iconst 3, 1) := by decide +kernel
theorem dX12_kinds_56 : decode cX12_kinds 56 = .ok (.invokevirtual 195, 3) := by decide +kernel
theorem dX12_kinds_59 : decode cX12_kinds 59 = .ok (.ifCond .eq 7, 3) := by decide +kernel
theorem dX12_kinds_62 : decode cX12_kinds 62 = .ok (.iconst 0, 1) := by decide +kernel
theorem dX12_kinds_63 : decode cX12_kinds 63 = .ok (.goto 9, 3) := by decide +kernel
theorem dX12_kinds_66 : decode cX12_kinds 66 = .ok (.aload_n 0, 1) := by decide +kernel
theorem dX12_kinds_67 : decode cX12_kinds 67 = .ok (.iload_n 1, 1) := by decide +kernel
theorem dX12_kinds_68 : decode cX12_kinds 68 = .ok (.iload_n 2, 1) := by decide +kernel
theorem dX12_kinds_69 : decode cX12_kinds 69 = .ok (.invokevirtual 335, 3) := by decide +kernel
theorem dX12_kinds_72 : decode cX12_kinds 72 = .ok (.ireturn, 1) := by decide +kernel
theorem dX12_noRule_0 : decode cX12_noRule 0 = .ok (.aload_n 0, 1) := by decide +kernel
theorem dX12_noRule_1 : decode cX12_noRule 1 = .ok (.iload_n 1, 1) := by decide +kernel
theorem dX12_noRule_2 : decode cX12_noRule 2 = .ok (.iconst 3, 1) := by decide +kernel
theorem dX12_noRule_3 : decode cX12_noRule 3 = .ok (.invokevirtual 226, 3) := by decide +kernel
theorem dX12_noRule_6 : decode cX12_noRule 6 = .ok (.ireturn, 1) := by decide +kernel
theorem dX12_scored_0 : decode cX12_scored 0 = .ok (.aload_n 0, 1) := by decide +kernel
theorem dX12_scored_1 : decode cX12_scored 1 = .ok (.getfield 30, 3) := by decide +kernel
theorem dX12_scored_4 : decode cX12_scored 4 = .ok (.iconst 0, 1) := by decide +kernel
theorem dX12_scored_5 : decode cX12_scored 5 = .ok (.iload_n 3, 1) := by decide +kernel
theorem dX12_scored_6 : decode cX12_scored 6 = .ok (.iastore, 1) := by decide +kernel
theorem dX12_scored_7 : decode cX12_scored 7 = .ok (.aload_n 0, 1) := by decide +kernel
theorem dX12_scored_8 : decode cX12_scored 8 = .ok (.getfield 30, 3) := by decide +kernel
theorem dX12_scored_11 : decode cX12_scored 11 = .ok (.iconst 1, 1) := by decide +kernel
theorem dX12_scored_12 : decode cX12_scored 12 = .ok (.iload_n 2, 1) := by decide +kernel
theorem dX12_scored_13 : decode cX12_scored 13 = .ok (.iload_n 3, 1) := by decide +kernel
theorem dX12_scored_14 : decode cX12_scored 14 = .ok (.isub, 1) := by decide +kernel
theorem dX12_scored_15 : decode cX12_scored 15 = .ok (.iload 4, 2) := by decide +kernel
theorem dX12_scored_17 : decode cX12_scored 17 = .ok (.isub, 1) := by decide +kernel
theorem dX12_scored_18 : decode cX12_scored 18 = .ok (.iastore, 1) := by decide +kernel
theorem dX12_scored_19 : decode cX12_scored 19 = .ok (.aload_n 0, 1) := by decide +kernel
theorem dX12_scored_20 : decode cX12_scored 20 = .ok (.getfield 30, 3) := by decide +kernel
theorem dX12_scored_23 : decode cX12_scored 23 = .ok (.iconst 2, 1) := by decide +kernel
theorem dX12_scored_24 : decode cX12_scored 24 = .ok (.iload 4, 2) := by decide +kernel
theorem dX12_scored_26 : decode cX12_scored 26 = .ok (.iastore, 1) := by decide +kernel
theorem dX12_scored_27 : decode cX12_scored 27 = .ok (.aload_n 0, 1) := by decide +kernel
theorem dX12_scored_28 : decode cX12_scored 28 = .ok (.getfield 30, 3) := by decide +kernel
theorem dX12_scored_31 : decode cX12_scored 31 = .ok (.iconst 3, 1) := by decide +kernel
theorem dX12_scored_32 : decode cX12_scored 32 = .ok (.iload_n 2, 1) := by decide +kernel
theorem dX12_scored_33 : decode cX12_scored 33 = .ok (.iastore, 1) := by decide +kernel
theorem dX12_scored_34 : decode cX12_scored 34 = .ok (.aload_n 0, 1) := by decide +kernel
theorem dX12_scored_35 : decode cX12_scored 35 = .ok (.getfield 30, 3) := by decide +kernel
theorem dX12_scored_38 : decode cX12_scored 38 = .ok (.bipush 8, 2) := by decide +kernel
theorem dX12_scored_40 : decode cX12_scored 40 = .ok (.iload_n 3, 1) := by decide +kernel
theorem dX12_scored_41 : decode cX12_scored 41 = .ok (.iload_n 2, 1) := by decide +kernel
theorem dX12_scored_42 : decode cX12_scored 42 = .ok (.if_icmp .ne 7, 3) := by decide +kernel
theorem dX12_scored_45 : decode cX12_scored 45 = .ok (.iconst 1, 1) := by decide +kernel
theorem dX12_scored_46 : decode cX12_scored 46 = .ok (.goto 4, 3) := by decide +kernel
theorem dX12_scored_49 : decode cX12_scored 49 = .ok (.iconst 0, 1) := by decide +kernel
theorem dX12_scored_50 : decode cX12_scored 50 = .ok (.iastore, 1) := by decide +kernel
theorem dX12_scored_51 : decode cX12_scored 51 = .ok (.aload_n 0, 1) := by decide +kernel
theorem dX12_scored_52 : decode cX12_scored 52 = .ok (.iconst 3, 1) := by decide +kernel
theorem dX12_scored_53 : decode cX12_scored 53 = .ok (.iload_n 1, 1) := by decide +kernel
theorem dX12_scored_54 : decode cX12_scored 54 = .ok (.iadd, 1) := by decide +kernel
theorem dX12_scored_55 : decode cX12_scored 55 = .ok (.invokevirtual 206, 3) := by decide +kernel
theorem dX12_scored_58 : decode cX12_scored 58 = .ok (.ireturn, 1) := by decide +kernel
theorem dX12_score_0 : decode cX12_score 0 = .ok (.aload_n 0, 1) := by decide +kernel
theorem dX12_score_1 : decode cX12_score 1 = .ok (.iconst 0, 1) := by decide +kernel
theorem dX12_score_2 : decode cX12_score 2 = .ok (.putfield 3, 3) := by decide +kernel
theorem dX12_score_5 : decode cX12_score 5 = .ok (.aload_n 0, 1) := by decide +kernel
theorem dX12_score_6 : decode cX12_score 6 = .ok (.aload_n 0, 1) := by decide +kernel
theorem dX12_score_7 : decode cX12_score 7 = .ok (.iload_n 1, 1) := by decide +kernel
theorem dX12_score_8 : decode cX12_score 8 = .ok (.invokevirtual 344, 3) := by decide +kernel
theorem dX12_score_11 : decode cX12_score 11 = .ok (.ifCond .ne 11, 3) := by decide +kernel
theorem dX12_score_14 : decode cX12_score 14 = .ok (.aload_n 0, 1) := by decide +kernel
theorem dX12_score_15 : decode cX12_score 15 = .ok (.iload_n 2, 1) := by decide +kernel
theorem dX12_score_16 : decode cX12_score 16 = .ok (.invokevirtual 241, 3) := by decide +kernel
theorem dX12_score_19 : decode cX12_score 19 = .ok (.ifCond .eq 7, 3) := by decide +kernel
theorem dX12_score_22 : decode cX12_score 22 = .ok (.iconst 1, 1) := by decide +kernel
theorem dX12_score_23 : decode cX12_score 23 = .ok (.goto 4, 3) := by decide +kernel
theorem dX12_score_26 : decode cX12_score 26 = .ok (.iconst 0, 1) := by decide +kernel
theorem dX12_score_27 : decode cX12_score 27 = .ok (.iconst 1, 1) := by decide +kernel
theorem dX12_score_28 : decode cX12_score 28 = .ok (.invokevirtual 195, 3) := by decide +kernel
theorem dX12_score_31 : decode cX12_score 31 = .ok (.ifCond .ne 24, 3) := by decide +kernel
theorem dX12_score_34 : decode cX12_score 34 = .ok (.aload_n 0, 1) := by decide +kernel
theorem dX12_score_35 : decode cX12_score 35 = .ok (.aload_n 0, 1) := by decide +kernel
theorem dX12_score_36 : decode cX12_score 36 = .ok (.iload_n 2, 1) := by decide +kernel
theorem dX12_score_37 : decode cX12_score 37 = .ok (.invokevirtual 257, 3) := by decide +kernel
theorem dX12_score_40 : decode cX12_score 40 = .ok (.ifCond .ne 7, 3) := by decide +kernel
theorem dX12_score_43 : decode cX12_score 43 = .ok (.iconst 1, 1) := by decide +kernel
theorem dX12_score_44 : decode cX12_score 44 = .ok (.goto 4, 3) := by decide +kernel
theorem dX12_score_47 : decode cX12_score 47 = .ok (.iconst 0, 1) := by decide +kernel
theorem dX12_score_48 : decode cX12_score 48 = .ok (.iconst 2, 1) := by decide +kernel
theorem dX12_score_49 : decode cX12_score 49 = .ok (.invokevirtual 195, 3) := by decide +kernel
theorem dX12_score_52 : decode cX12_score 52 = .ok (.ifCond .eq 5, 3) := by decide +kernel
theorem dX12_score_55 : decode cX12_score 55 = .ok (.iconst 0, 1) := by decide +kernel
theorem dX12_score_56 : decode cX12_score 56 = .ok (.ireturn, 1) := by decide +kernel
theorem dX12_score_57 : decode cX12_score 57 = .ok (.aload_n 0, 1) := by decide +kernel
theorem dX12_score_58 : decode cX12_score 58 = .ok (.iload_n 1, 1) := by decide +kernel
theorem dX12_score_59 : decode cX12_score 59 = .ok (.aload_n 0, 1) := by decide +kernel
theorem dX12_score_60 : decode cX12_score 60 = .ok (.iload_n 2, 1) := by decide +kernel
theorem dX12_score_61 : decode cX12_score 61 = .ok (.iconst 2, 1) := by decide +kernel
theorem dX12_score_62 : decode cX12_score 62 = .ok (.invokevirtual 235, 3) := by decide +kernel
theorem dX12_score_65 : decode cX12_score 65 = .ok (.aload_n 0, 1) := by decide +kernel
theorem dX12_score_66 : decode cX12_score 66 = .ok (.iload_n 2, 1) := by decide +kernel
theorem dX12_score_67 : decode cX12_score 67 = .ok (.iconst 0, 1) := by decide +kernel
theorem dX12_score_68 : decode cX12_score 68 = .ok (.invokevirtual 335, 3) := by decide +kernel
theorem dX12_score_71 : decode cX12_score 71 = .ok (.aload_n 0, 1) := by decide +kernel
theorem dX12_score_72 : decode cX12_score 72 = .ok (.iload_n 2, 1) := by decide +kernel
theorem dX12_score_73 : decode cX12_score 73 = .ok (.iconst 1, 1) := by decide +kernel
theorem dX12_score_74 : decode cX12_score 74 = .ok (.invokevirtual 335, 3) := by decide +kernel
theorem dX12_score_77 : decode cX12_score 77 = .ok (.invokevirtual 347, 3) := by decide +kernel
theorem dX12_score_80 : decode cX12_score 80 = .ok (.ireturn, 1) := by decide +kernel
theorem dX12_fits_0 : decode cX12_fits 0 = .ok (.aload_n 0, 1) := by decide +kernel
theorem dX12_fits_1 : decode cX12_fits 1 = .ok (.iconst 0, 1) := by decide +kernel
theorem dX12_fits_2 : decode cX12_fits 2 = .ok (.putfield 3, 3) := by decide +kernel
theorem dX12_fits_5 : decode cX12_fits 5 = .ok (.aload_n 0, 1) := by decide +kernel
theorem dX12_fits_6 : decode cX12_fits 6 = .ok (.aload_n 0, 1) := by decide +kernel
theorem dX12_fits_7 : decode cX12_fits 7 = .ok (.iload_n 1, 1) := by decide +kernel
theorem dX12_fits_8 : decode cX12_fits 8 = .ok (.invokevirtual 241, 3) := by decide +kernel
theorem dX12_fits_11 : decode cX12_fits 11 = .ok (.iconst 1, 1) := by decide +kernel
theorem dX12_fits_12 : decode cX12_fits 12 = .ok (.invokevirtual 195, 3) := by decide +kernel
theorem dX12_fits_15 : decode cX12_fits 15 = .ok (.ifCond .ne 48, 3) := by decide +kernel
theorem dX12_fits_18 : decode cX12_fits 18 = .ok (.aload_n 0, 1) := by decide +kernel
theorem dX12_fits_19 : decode cX12_fits 19 = .ok (.aload_n 0, 1) := by decide +kernel
theorem dX12_fits_20 : decode cX12_fits 20 = .ok (.iload_n 1, 1) := by decide +kernel
theorem dX12_fits_21 : decode cX12_fits 21 = .ok (.invokevirtual 257, 3) := by decide +kernel
theorem dX12_fits_24 : decode cX12_fits 24 = .ok (.ifCond .ne 7, 3) := by decide +kernel
theorem dX12_fits_27 : decode cX12_fits 27 = .ok (.iconst 1, 1) := by decide +kernel
theorem dX12_fits_28 : decode cX12_fits 28 = .ok (.goto 4, 3) := by decide +kernel
theorem dX12_fits_31 : decode cX12_fits 31 = .ok (.iconst 0, 1) := by decide +kernel
theorem dX12_fits_32 : decode cX12_fits 32 = .ok (.iconst 2, 1) := by decide +kernel
theorem dX12_fits_33 : decode cX12_fits 33 = .ok (.invokevirtual 195, 3) := by decide +kernel
theorem dX12_fits_36 : decode cX12_fits 36 = .ok (.ifCond .ne 27, 3) := by decide +kernel
theorem dX12_fits_39 : decode cX12_fits 39 = .ok (.aload_n 0, 1) := by decide +kernel
theorem dX12_fits_40 : decode cX12_fits 40 = .ok (.iload_n 2, 1) := by decide +kernel
theorem dX12_fits_41 : decode cX12_fits 41 = .ok (.iconst 0, 1) := by decide +kernel
theorem dX12_fits_42 : decode cX12_fits 42 = .ok (.sipush 5200, 3) := by decide +kernel
theorem dX12_fits_45 : decode cX12_fits 45 = .ok (.invokestatic 55, 3) := by decide +kernel
theorem dX12_fits_48 : decode cX12_fits 48 = .ok (.ifCond .ne 7, 3) := by decide +kernel
theorem dX12_fits_51 : decode cX12_fits 51 = .ok (.iconst 1, 1) := by decide +kernel
theorem dX12_fits_52 : decode cX12_fits 52 = .ok (.goto 4, 3) := by decide +kernel
theorem dX12_fits_55 : decode cX12_fits 55 = .ok (.iconst 0, 1) := by decide +kernel
theorem dX12_fits_56 : decode cX12_fits 56 = .ok (.iconst 3, 1) := by decide +kernel
theorem dX12_fits_57 : decode cX12_fits 57 = .ok (.invokevirtual 195, 3) := by decide +kernel
theorem dX12_fits_60 : decode cX12_fits 60 = .ok (.ifCond .eq 5, 3) := by decide +kernel
theorem dX12_fits_63 : decode cX12_fits 63 = .ok (.iconst 0, 1) := by decide +kernel
theorem dX12_fits_64 : decode cX12_fits 64 = .ok (.ireturn, 1) := by decide +kernel
theorem dX12_fits_65 : decode cX12_fits 65 = .ok (.iconst 0, 1) := by decide +kernel
theorem dX12_fits_66 : decode cX12_fits 66 = .ok (.istore_n 3, 1) := by decide +kernel
theorem dX12_fits_67 : decode cX12_fits 67 = .ok (.iconst 0, 1) := by decide +kernel
theorem dX12_fits_68 : decode cX12_fits 68 = .ok (.istore 4, 2) := by decide +kernel
theorem dX12_fits_70 : decode cX12_fits 70 = .ok (.iload 4, 2) := by decide +kernel
theorem dX12_fits_72 : decode cX12_fits 72 = .ok (.aload_n 0, 1) := by decide +kernel
theorem dX12_fits_73 : decode cX12_fits 73 = .ok (.getfield 13, 3) := by decide +kernel
theorem dX12_fits_76 : decode cX12_fits 76 = .ok (.iconst 2, 1) := by decide +kernel
theorem dX12_fits_77 : decode cX12_fits 77 = .ok (.iaload, 1) := by decide +kernel
theorem dX12_fits_78 : decode cX12_fits 78 = .ok (.if_icmp .ge 45, 3) := by decide +kernel
theorem dX12_fits_81 : decode cX12_fits 81 = .ok (.iload_n 3, 1) := by decide +kernel
theorem dX12_fits_82 : decode cX12_fits 82 = .ok (.aload_n 0, 1) := by decide +kernel
theorem dX12_fits_83 : decode cX12_fits 83 = .ok (.iload 4, 2) := by decide +kernel
theorem dX12_fits_85 : decode cX12_fits 85 = .ok (.iload_n 1, 1) := by decide +kernel
theorem dX12_fits_86 : decode cX12_fits 86 = .ok (.iconst 0, 1) := by decide +kernel
theorem dX12_fits_87 : decode cX12_fits 87 = .ok (.invokevirtual 301, 3) := by decide +kernel
theorem dX12_fits_90 : decode cX12_fits 90 = .ok (.bipush 100, 2) := by decide +kernel
theorem dX12_fits_92 : decode cX12_fits 92 = .ok (.aload_n 0, 1) := by decide +kernel
theorem dX12_fits_93 : decode cX12_fits 93 = .ok (.iload_n 1, 1) := by decide +kernel
theorem dX12_fits_94 : decode cX12_fits 94 = .ok (.iconst 0, 1) := by decide +kernel
theorem dX12_fits_95 : decode cX12_fits 95 = .ok (.invokevirtual 335, 3) := by decide +kernel
theorem dX12_fits_98 : decode cX12_fits 98 = .ok (.imul, 1) := by decide +kernel
theorem dX12_fits_99 : decode cX12_fits 99 = .ok (.isub, 1) := by decide +kernel
theorem dX12_fits_100 : decode cX12_fits 100 = .ok (.invokestatic 338, 3) := by decide +kernel
theorem dX12_fits_103 : decode cX12_fits 103 = .ok (.iload_n 2, 1) := by decide +kernel
theorem dX12_fits_104 : decode cX12_fits 104 = .ok (.if_icmp .gt 10, 3) := by decide +kernel
theorem dX12_fits_107 : decode cX12_fits 107 = .ok (.iconst 1, 1) := by decide +kernel
theorem dX12_fits_108 : decode cX12_fits 108 = .ok (.iload 4, 2) := by decide +kernel
theorem dX12_fits_110 : decode cX12_fits 110 = .ok (.ishl, 1) := by decide +kernel
theorem dX12_fits_111 : decode cX12_fits 111 = .ok (.goto 4, 3) := by decide +kernel
theorem dX12_fits_114 : decode cX12_fits 114 = .ok (.iconst 0, 1) := by decide +kernel
theorem dX12_fits_115 : decode cX12_fits 115 = .ok (.ior, 1) := by decide +kernel
theorem dX12_fits_116 : decode cX12_fits 116 = .ok (.istore_n 3, 1) := by decide +kernel
theorem dX12_fits_117 : decode cX12_fits 117 = .ok (.iinc 4 1, 3) := by decide +kernel
theorem dX12_fits_120 : decode cX12_fits 120 = .ok (.goto (-50), 3) := by decide +kernel
theorem dX12_fits_123 : decode cX12_fits 123 = .ok (.iload_n 3, 1) := by decide +kernel
theorem dX12_fits_124 : decode cX12_fits 124 = .ok (.ireturn, 1) := by decide +kernel
theorem dX12_isSaid_0 : decode cX12_isSaid 0 = .ok (.iconst 0, 1) := by decide +kernel
theorem dX12_isSaid_1 : decode cX12_isSaid 1 = .ok (.istore_n 3, 1) := by decide +kernel
theorem dX12_isSaid_2 : decode cX12_isSaid 2 = .ok (.iconst 0, 1) := by decide +kernel
theorem dX12_isSaid_3 : decode cX12_isSaid 3 = .ok (.istore 4, 2) := by decide +kernel
theorem dX12_isSaid_5 : decode cX12_isSaid 5 = .ok (.iload 4, 2) := by decide +kernel
theorem dX12_isSaid_7 : decode cX12_isSaid 7 = .ok (.aload_n 0, 1) := by decide +kernel
theorem dX12_isSaid_8 : decode cX12_isSaid 8 = .ok (.iload_n 1, 1) := by decide +kernel
theorem dX12_isSaid_9 : decode cX12_isSaid 9 = .ok (.iconst 2, 1) := by decide +kernel
theorem dX12_isSaid_10 : decode cX12_isSaid 10 = .ok (.invokevirtual 235, 3) := by decide +kernel
theorem dX12_isSaid_13 : decode cX12_isSaid 13 = .ok (.if_icmp .ge 33, 3) := by decide +kernel
theorem dX12_isSaid_16 : decode cX12_isSaid 16 = .ok (.iload_n 3, 1) := by decide +kernel
theorem dX12_isSaid_17 : decode cX12_isSaid 17 = .ok (.ifCond .ne 17, 3) := by decide +kernel
theorem dX12_isSaid_20 : decode cX12_isSaid 20 = .ok (.aload_n 0, 1) := by decide +kernel
theorem dX12_isSaid_21 : decode cX12_isSaid 21 = .ok (.iload_n 1, 1) := by decide +kernel
theorem dX12_isSaid_22 : decode cX12_isSaid 22 = .ok (.bipush 29, 2) := by decide +kernel
theorem dX12_isSaid_24 : decode cX12_isSaid 24 = .ok (.iload 4, 2) := by decide +kernel
theorem dX12_isSaid_26 : decode cX12_isSaid 26 = .ok (.iadd, 1) := by decide +kernel
theorem dX12_isSaid_27 : decode cX12_isSaid 27 = .ok (.invokevirtual 235, 3) := by decide +kernel
theorem dX12_isSaid_30 : decode cX12_isSaid 30 = .ok (.iload_n 2, 1) := by decide +kernel
theorem dX12_isSaid_31 : decode cX12_isSaid 31 = .ok (.if_icmp .ne 7, 3) := by decide +kernel
theorem dX12_isSaid_34 : decode cX12_isSaid 34 = .ok (.iconst 1, 1) := by decide +kernel
theorem dX12_isSaid_35 : decode cX12_isSaid 35 = .ok (.goto 4, 3) := by decide +kernel
theorem dX12_isSaid_38 : decode cX12_isSaid 38 = .ok (.iconst 0, 1) := by decide +kernel
theorem dX12_isSaid_39 : decode cX12_isSaid 39 = .ok (.istore_n 3, 1) := by decide +kernel
theorem dX12_isSaid_40 : decode cX12_isSaid 40 = .ok (.iinc 4 1, 3) := by decide +kernel
theorem dX12_isSaid_43 : decode cX12_isSaid 43 = .ok (.goto (-38), 3) := by decide +kernel
theorem dX12_isSaid_46 : decode cX12_isSaid 46 = .ok (.iload_n 3, 1) := by decide +kernel
theorem dX12_isSaid_47 : decode cX12_isSaid 47 = .ok (.ireturn, 1) := by decide +kernel
theorem dX12_lackOf_0 : decode cX12_lackOf 0 = .ok (.iload_n 2, 1) := by decide +kernel
theorem dX12_lackOf_1 : decode cX12_lackOf 1 = .ok (.istore_n 3, 1) := by decide +kernel
theorem dX12_lackOf_2 : decode cX12_lackOf 2 = .ok (.iconst 0, 1) := by decide +kernel
theorem dX12_lackOf_3 : decode cX12_lackOf 3 = .ok (.istore 4, 2) := by decide +kernel
theorem dX12_lackOf_5 : decode cX12_lackOf 5 = .ok (.iload 4, 2) := by decide +kernel
theorem dX12_lackOf_7 : decode cX12_lackOf 7 = .ok (.aload_n 0, 1) := by decide +kernel
theorem dX12_lackOf_8 : decode cX12_lackOf 8 = .ok (.iload_n 1, 1) := by decide +kernel
theorem dX12_lackOf_9 : decode cX12_lackOf 9 = .ok (.iconst 2, 1) := by decide +kernel
theorem dX12_lackOf_10 : decode cX12_lackOf 10 = .ok (.invokevirtual 235, 3) := by decide +kernel
theorem dX12_lackOf_13 : decode cX12_lackOf 13 = .ok (.if_icmp .ge 42, 3) := by decide +kernel
theorem dX12_lackOf_16 : decode cX12_lackOf 16 = .ok (.aload_n 0, 1) := by decide +kernel
theorem dX12_lackOf_17 : decode cX12_lackOf 17 = .ok (.iload_n 1, 1) := by decide +kernel
theorem dX12_lackOf_18 : decode cX12_lackOf 18 = .ok (.aload_n 0, 1) := by decide +kernel
theorem dX12_lackOf_19 : decode cX12_lackOf 19 = .ok (.iload_n 1, 1) := by decide +kernel
theorem dX12_lackOf_20 : decode cX12_lackOf 20 = .ok (.iload 4, 2) := by decide +kernel
theorem dX12_lackOf_22 : decode cX12_lackOf 22 = .ok (.invokevirtual 251, 3) := by decide +kernel
theorem dX12_lackOf_25 : decode cX12_lackOf 25 = .ok (.invokevirtual 350, 3) := by decide +kernel
theorem dX12_lackOf_28 : decode cX12_lackOf 28 = .ok (.ifCond .eq 6, 3) := by decide +kernel
theorem dX12_lackOf_31 : decode cX12_lackOf 31 = .ok (.goto 18, 3) := by decide +kernel
theorem dX12_lackOf_34 : decode cX12_lackOf 34 = .ok (.iload_n 3, 1) := by decide +kernel
theorem dX12_lackOf_35 : decode cX12_lackOf 35 = .ok (.ifCond .ne 11, 3) := by decide +kernel
theorem dX12_lackOf_38 : decode cX12_lackOf 38 = .ok (.aload_n 0, 1) := by decide +kernel
theorem dX12_lackOf_39 : decode cX12_lackOf 39 = .ok (.iload_n 1, 1) := by decide +kernel
theorem dX12_lackOf_40 : decode cX12_lackOf 40 = .ok (.iload 4, 2) := by decide +kernel
theorem dX12_lackOf_42 : decode cX12_lackOf 42 = .ok (.invokevirtual 251, 3) := by decide +kernel
theorem dX12_lackOf_45 : decode cX12_lackOf 45 = .ok (.ireturn, 1) := by decide +kernel
theorem dX12_lackOf_46 : decode cX12_lackOf 46 = .ok (.iinc 3 (-1), 3) := by decide +kernel
theorem dX12_lackOf_49 : decode cX12_lackOf 49 = .ok (.iinc 4 1, 3) := by decide +kernel
theorem dX12_lackOf_52 : decode cX12_lackOf 52 = .ok (.goto (-47), 3) := by decide +kernel
theorem dX12_lackOf_55 : decode cX12_lackOf 55 = .ok (.iconst (-1), 1) := by decide +kernel
theorem dX12_lackOf_56 : decode cX12_lackOf 56 = .ok (.ireturn, 1) := by decide +kernel
theorem dX12_lackMany_0 : decode cX12_lackMany 0 = .ok (.iconst 0, 1) := by decide +kernel
theorem dX12_lackMany_1 : decode cX12_lackMany 1 = .ok (.istore_n 2, 1) := by decide +kernel
theorem dX12_lackMany_2 : decode cX12_lackMany 2 = .ok (.iconst 0, 1) := by decide +kernel
theorem dX12_lackMany_3 : decode cX12_lackMany 3 = .ok (.istore_n 3, 1) := by decide +kernel
theorem dX12_lackMany_4 : decode cX12_lackMany 4 = .ok (.iload_n 3, 1) := by decide +kernel
theorem dX12_lackMany_5 : decode cX12_lackMany 5 = .ok (.aload_n 0, 1) := by decide +kernel
theorem dX12_lackMany_6 : decode cX12_lackMany 6 = .ok (.iload_n 1, 1) := by decide +kernel
