theorem dX12_lackMany_7 : decode cX12_lackMany 7 = .ok (.iconst 2, 1) := by decide +kernel
theorem dX12_lackMany_8 : decode cX12_lackMany 8 = .ok (.invokevirtual 235, 3) := by decide +kernel
theorem dX12_lackMany_11 : decode cX12_lackMany 11 = .ok (.if_icmp .ge 31, 3) := by decide +kernel
theorem dX12_lackMany_14 : decode cX12_lackMany 14 = .ok (.iload_n 2, 1) := by decide +kernel
theorem dX12_lackMany_15 : decode cX12_lackMany 15 = .ok (.aload_n 0, 1) := by decide +kernel
theorem dX12_lackMany_16 : decode cX12_lackMany 16 = .ok (.iload_n 1, 1) := by decide +kernel
theorem dX12_lackMany_17 : decode cX12_lackMany 17 = .ok (.aload_n 0, 1) := by decide +kernel
theorem dX12_lackMany_18 : decode cX12_lackMany 18 = .ok (.iload_n 1, 1) := by decide +kernel
theorem dX12_lackMany_19 : decode cX12_lackMany 19 = .ok (.iload_n 3, 1) := by decide +kernel
theorem dX12_lackMany_20 : decode cX12_lackMany 20 = .ok (.invokevirtual 251, 3) := by decide +kernel
theorem dX12_lackMany_23 : decode cX12_lackMany 23 = .ok (.invokevirtual 350, 3) := by decide +kernel
theorem dX12_lackMany_26 : decode cX12_lackMany 26 = .ok (.ifCond .eq 7, 3) := by decide +kernel
theorem dX12_lackMany_29 : decode cX12_lackMany 29 = .ok (.iconst 0, 1) := by decide +kernel
theorem dX12_lackMany_30 : decode cX12_lackMany 30 = .ok (.goto 4, 3) := by decide +kernel
theorem dX12_lackMany_33 : decode cX12_lackMany 33 = .ok (.iconst 1, 1) := by decide +kernel
theorem dX12_lackMany_34 : decode cX12_lackMany 34 = .ok (.iadd, 1) := by decide +kernel
theorem dX12_lackMany_35 : decode cX12_lackMany 35 = .ok (.istore_n 2, 1) := by decide +kernel
theorem dX12_lackMany_36 : decode cX12_lackMany 36 = .ok (.iinc 3 1, 3) := by decide +kernel
theorem dX12_lackMany_39 : decode cX12_lackMany 39 = .ok (.goto (-35), 3) := by decide +kernel
theorem dX12_lackMany_42 : decode cX12_lackMany 42 = .ok (.iload_n 2, 1) := by decide +kernel
theorem dX12_lackMany_43 : decode cX12_lackMany 43 = .ok (.ireturn, 1) := by decide +kernel
theorem dX12_lacks_0 : decode cX12_lacks 0 = .ok (.aload_n 0, 1) := by decide +kernel
theorem dX12_lacks_1 : decode cX12_lacks 1 = .ok (.iconst 0, 1) := by decide +kernel
theorem dX12_lacks_2 : decode cX12_lacks 2 = .ok (.putfield 3, 3) := by decide +kernel
theorem dX12_lacks_5 : decode cX12_lacks 5 = .ok (.aload_n 0, 1) := by decide +kernel
theorem dX12_lacks_6 : decode cX12_lacks 6 = .ok (.aload_n 0, 1) := by decide +kernel
theorem dX12_lacks_7 : decode cX12_lacks 7 = .ok (.iload_n 1, 1) := by decide +kernel
theorem dX12_lacks_8 : decode cX12_lacks 8 = .ok (.invokevirtual 241, 3) := by decide +kernel
theorem dX12_lacks_11 : decode cX12_lacks 11 = .ok (.iconst 1, 1) := by decide +kernel
theorem dX12_lacks_12 : decode cX12_lacks 12 = .ok (.invokevirtual 195, 3) := by decide +kernel
theorem dX12_lacks_15 : decode cX12_lacks 15 = .ok (.ifCond .ne 42, 3) := by decide +kernel
theorem dX12_lacks_18 : decode cX12_lacks 18 = .ok (.aload_n 0, 1) := by decide +kernel
theorem dX12_lacks_19 : decode cX12_lacks 19 = .ok (.aload_n 0, 1) := by decide +kernel
theorem dX12_lacks_20 : decode cX12_lacks 20 = .ok (.iload_n 1, 1) := by decide +kernel
theorem dX12_lacks_21 : decode cX12_lacks 21 = .ok (.invokevirtual 257, 3) := by decide +kernel
theorem dX12_lacks_24 : decode cX12_lacks 24 = .ok (.ifCond .ne 7, 3) := by decide +kernel
theorem dX12_lacks_27 : decode cX12_lacks 27 = .ok (.iconst 1, 1) := by decide +kernel
theorem dX12_lacks_28 : decode cX12_lacks 28 = .ok (.goto 4, 3) := by decide +kernel
theorem dX12_lacks_31 : decode cX12_lacks 31 = .ok (.iconst 0, 1) := by decide +kernel
theorem dX12_lacks_32 : decode cX12_lacks 32 = .ok (.iconst 2, 1) := by decide +kernel
theorem dX12_lacks_33 : decode cX12_lacks 33 = .ok (.invokevirtual 195, 3) := by decide +kernel
theorem dX12_lacks_36 : decode cX12_lacks 36 = .ok (.ifCond .ne 21, 3) := by decide +kernel
theorem dX12_lacks_39 : decode cX12_lacks 39 = .ok (.aload_n 0, 1) := by decide +kernel
theorem dX12_lacks_40 : decode cX12_lacks 40 = .ok (.iload_n 2, 1) := by decide +kernel
theorem dX12_lacks_41 : decode cX12_lacks 41 = .ok (.iconst (-1), 1) := by decide +kernel
theorem dX12_lacks_42 : decode cX12_lacks 42 = .ok (.if_icmp .ge 7, 3) := by decide +kernel
theorem dX12_lacks_45 : decode cX12_lacks 45 = .ok (.iconst 1, 1) := by decide +kernel
theorem dX12_lacks_46 : decode cX12_lacks 46 = .ok (.goto 4, 3) := by decide +kernel
theorem dX12_lacks_49 : decode cX12_lacks 49 = .ok (.iconst 0, 1) := by decide +kernel
theorem dX12_lacks_50 : decode cX12_lacks 50 = .ok (.iconst 3, 1) := by decide +kernel
theorem dX12_lacks_51 : decode cX12_lacks 51 = .ok (.invokevirtual 195, 3) := by decide +kernel
theorem dX12_lacks_54 : decode cX12_lacks 54 = .ok (.ifCond .eq 5, 3) := by decide +kernel
theorem dX12_lacks_57 : decode cX12_lacks 57 = .ok (.iconst 0, 1) := by decide +kernel
theorem dX12_lacks_58 : decode cX12_lacks 58 = .ok (.ireturn, 1) := by decide +kernel
theorem dX12_lacks_59 : decode cX12_lacks 59 = .ok (.iload_n 2, 1) := by decide +kernel
theorem dX12_lacks_60 : decode cX12_lacks 60 = .ok (.ifCond .ge 11, 3) := by decide +kernel
theorem dX12_lacks_63 : decode cX12_lacks 63 = .ok (.aload_n 0, 1) := by decide +kernel
theorem dX12_lacks_64 : decode cX12_lacks 64 = .ok (.iload_n 1, 1) := by decide +kernel
theorem dX12_lacks_65 : decode cX12_lacks 65 = .ok (.invokevirtual 353, 3) := by decide +kernel
theorem dX12_lacks_68 : decode cX12_lacks 68 = .ok (.goto 9, 3) := by decide +kernel
theorem dX12_lacks_71 : decode cX12_lacks 71 = .ok (.aload_n 0, 1) := by decide +kernel
theorem dX12_lacks_72 : decode cX12_lacks 72 = .ok (.iload_n 1, 1) := by decide +kernel
theorem dX12_lacks_73 : decode cX12_lacks 73 = .ok (.iload_n 2, 1) := by decide +kernel
theorem dX12_lacks_74 : decode cX12_lacks 74 = .ok (.invokevirtual 356, 3) := by decide +kernel
theorem dX12_lacks_77 : decode cX12_lacks 77 = .ok (.ireturn, 1) := by decide +kernel
theorem dX12_guesses_0 : decode cX12_guesses 0 = .ok (.aload_n 0, 1) := by decide +kernel
theorem dX12_guesses_1 : decode cX12_guesses 1 = .ok (.iload_n 2, 1) := by decide +kernel
theorem dX12_guesses_2 : decode cX12_guesses 2 = .ok (.iconst 0, 1) := by decide +kernel
theorem dX12_guesses_3 : decode cX12_guesses 3 = .ok (.invokevirtual 335, 3) := by decide +kernel
theorem dX12_guesses_6 : decode cX12_guesses 6 = .ok (.istore 5, 2) := by decide +kernel
theorem dX12_guesses_8 : decode cX12_guesses 8 = .ok (.aload_n 0, 1) := by decide +kernel
theorem dX12_guesses_9 : decode cX12_guesses 9 = .ok (.iload_n 2, 1) := by decide +kernel
theorem dX12_guesses_10 : decode cX12_guesses 10 = .ok (.iconst 1, 1) := by decide +kernel
theorem dX12_guesses_11 : decode cX12_guesses 11 = .ok (.invokevirtual 335, 3) := by decide +kernel
theorem dX12_guesses_14 : decode cX12_guesses 14 = .ok (.istore 6, 2) := by decide +kernel
theorem dX12_guesses_16 : decode cX12_guesses 16 = .ok (.iconst 1, 1) := by decide +kernel
theorem dX12_guesses_17 : decode cX12_guesses 17 = .ok (.istore 7, 2) := by decide +kernel
theorem dX12_guesses_19 : decode cX12_guesses 19 = .ok (.iconst 0, 1) := by decide +kernel
theorem dX12_guesses_20 : decode cX12_guesses 20 = .ok (.istore 8, 2) := by decide +kernel
theorem dX12_guesses_22 : decode cX12_guesses 22 = .ok (.iload 8, 2) := by decide +kernel
theorem dX12_guesses_24 : decode cX12_guesses 24 = .ok (.iload_n 3, 1) := by decide +kernel
theorem dX12_guesses_25 : decode cX12_guesses 25 = .ok (.if_icmp .ge 16, 3) := by decide +kernel
theorem dX12_guesses_28 : decode cX12_guesses 28 = .ok (.iload 7, 2) := by decide +kernel
theorem dX12_guesses_30 : decode cX12_guesses 30 = .ok (.iload 4, 2) := by decide +kernel
theorem dX12_guesses_32 : decode cX12_guesses 32 = .ok (.imul, 1) := by decide +kernel
theorem dX12_guesses_33 : decode cX12_guesses 33 = .ok (.istore 7, 2) := by decide +kernel
theorem dX12_guesses_35 : decode cX12_guesses 35 = .ok (.iinc 8 1, 3) := by decide +kernel
theorem dX12_guesses_38 : decode cX12_guesses 38 = .ok (.goto (-16), 3) := by decide +kernel
theorem dX12_guesses_41 : decode cX12_guesses 41 = .ok (.aload_n 0, 1) := by decide +kernel
theorem dX12_guesses_42 : decode cX12_guesses 42 = .ok (.iconst 0, 1) := by decide +kernel
theorem dX12_guesses_43 : decode cX12_guesses 43 = .ok (.putfield 359, 3) := by decide +kernel
theorem dX12_guesses_46 : decode cX12_guesses 46 = .ok (.aload_n 0, 1) := by decide +kernel
theorem dX12_guesses_47 : decode cX12_guesses 47 = .ok (.iconst 0, 1) := by decide +kernel
theorem dX12_guesses_48 : decode cX12_guesses 48 = .ok (.putfield 362, 3) := by decide +kernel
theorem dX12_guesses_51 : decode cX12_guesses 51 = .ok (.iconst 0, 1) := by decide +kernel
theorem dX12_guesses_52 : decode cX12_guesses 52 = .ok (.istore 8, 2) := by decide +kernel
theorem dX12_guesses_54 : decode cX12_guesses 54 = .ok (.iload 8, 2) := by decide +kernel
theorem dX12_guesses_56 : decode cX12_guesses 56 = .ok (.iload 7, 2) := by decide +kernel
theorem dX12_guesses_58 : decode cX12_guesses 58 = .ok (.if_icmp .ge 181, 3) := by decide +kernel
theorem dX12_guesses_61 : decode cX12_guesses 61 = .ok (.iconst 0, 1) := by decide +kernel
theorem dX12_guesses_62 : decode cX12_guesses 62 = .ok (.istore 9, 2) := by decide +kernel
theorem dX12_guesses_64 : decode cX12_guesses 64 = .ok (.iconst 0, 1) := by decide +kernel
theorem dX12_guesses_65 : decode cX12_guesses 65 = .ok (.istore 10, 2) := by decide +kernel
theorem dX12_guesses_67 : decode cX12_guesses 67 = .ok (.iconst 1, 1) := by decide +kernel
theorem dX12_guesses_68 : decode cX12_guesses 68 = .ok (.istore 11, 2) := by decide +kernel
theorem dX12_guesses_70 : decode cX12_guesses 70 = .ok (.iload 8, 2) := by decide +kernel
theorem dX12_guesses_72 : decode cX12_guesses 72 = .ok (.istore 12, 2) := by decide +kernel
theorem dX12_guesses_74 : decode cX12_guesses 74 = .ok (.iconst 0, 1) := by decide +kernel
theorem dX12_guesses_75 : decode cX12_guesses 75 = .ok (.istore 13, 2) := by decide +kernel
theorem dX12_guesses_77 : decode cX12_guesses 77 = .ok (.iload 13, 2) := by decide +kernel
theorem dX12_guesses_79 : decode cX12_guesses 79 = .ok (.iload_n 3, 1) := by decide +kernel
theorem dX12_guesses_80 : decode cX12_guesses 80 = .ok (.if_icmp .ge 106, 3) := by decide +kernel
theorem dX12_guesses_83 : decode cX12_guesses 83 = .ok (.aload_n 0, 1) := by decide +kernel
theorem dX12_guesses_84 : decode cX12_guesses 84 = .ok (.getfield 42, 3) := by decide +kernel
theorem dX12_guesses_87 : decode cX12_guesses 87 = .ok (.iload 13, 2) := by decide +kernel
theorem dX12_guesses_89 : decode cX12_guesses 89 = .ok (.iload 12, 2) := by decide +kernel
theorem dX12_guesses_91 : decode cX12_guesses 91 = .ok (.iload 4, 2) := by decide +kernel
theorem dX12_guesses_93 : decode cX12_guesses 93 = .ok (.irem, 1) := by decide +kernel
theorem dX12_guesses_94 : decode cX12_guesses 94 = .ok (.iastore, 1) := by decide +kernel
theorem dX12_guesses_95 : decode cX12_guesses 95 = .ok (.iload 12, 2) := by decide +kernel
theorem dX12_guesses_97 : decode cX12_guesses 97 = .ok (.iload 4, 2) := by decide +kernel
theorem dX12_guesses_99 : decode cX12_guesses 99 = .ok (.idiv, 1) := by decide +kernel
theorem dX12_guesses_100 : decode cX12_guesses 100 = .ok (.istore 12, 2) := by decide +kernel
theorem dX12_guesses_102 : decode cX12_guesses 102 = .ok (.iload 11, 2) := by decide +kernel
theorem dX12_guesses_104 : decode cX12_guesses 104 = .ok (.ifCond .eq 22, 3) := by decide +kernel
theorem dX12_guesses_107 : decode cX12_guesses 107 = .ok (.iload 9, 2) := by decide +kernel
theorem dX12_guesses_109 : decode cX12_guesses 109 = .ok (.aload_n 0, 1) := by decide +kernel
theorem dX12_guesses_110 : decode cX12_guesses 110 = .ok (.getfield 42, 3) := by decide +kernel
theorem dX12_guesses_113 : decode cX12_guesses 113 = .ok (.iload 13, 2) := by decide +kernel
theorem dX12_guesses_115 : decode cX12_guesses 115 = .ok (.iaload, 1) := by decide +kernel
theorem dX12_guesses_116 : decode cX12_guesses 116 = .ok (.ishr, 1) := by decide +kernel
theorem dX12_guesses_117 : decode cX12_guesses 117 = .ok (.iconst 1, 1) := by decide +kernel
theorem dX12_guesses_118 : decode cX12_guesses 118 = .ok (.iand, 1) := by decide +kernel
theorem dX12_guesses_119 : decode cX12_guesses 119 = .ok (.ifCond .ne 7, 3) := by decide +kernel
theorem dX12_guesses_122 : decode cX12_guesses 122 = .ok (.iconst 1, 1) := by decide +kernel
theorem dX12_guesses_123 : decode cX12_guesses 123 = .ok (.goto 4, 3) := by decide +kernel
theorem dX12_guesses_126 : decode cX12_guesses 126 = .ok (.iconst 0, 1) := by decide +kernel
theorem dX12_guesses_127 : decode cX12_guesses 127 = .ok (.istore 11, 2) := by decide +kernel
theorem dX12_guesses_129 : decode cX12_guesses 129 = .ok (.iload 9, 2) := by decide +kernel
theorem dX12_guesses_131 : decode cX12_guesses 131 = .ok (.iconst 1, 1) := by decide +kernel
theorem dX12_guesses_132 : decode cX12_guesses 132 = .ok (.aload_n 0, 1) := by decide +kernel
theorem dX12_guesses_133 : decode cX12_guesses 133 = .ok (.getfield 42, 3) := by decide +kernel
theorem dX12_guesses_136 : decode cX12_guesses 136 = .ok (.iload 13, 2) := by decide +kernel
theorem dX12_guesses_138 : decode cX12_guesses 138 = .ok (.iaload, 1) := by decide +kernel
theorem dX12_guesses_139 : decode cX12_guesses 139 = .ok (.ishl, 1) := by decide +kernel
theorem dX12_guesses_140 : decode cX12_guesses 140 = .ok (.ior, 1) := by decide +kernel
theorem dX12_guesses_141 : decode cX12_guesses 141 = .ok (.istore 9, 2) := by decide +kernel
theorem dX12_guesses_143 : decode cX12_guesses 143 = .ok (.iload 10, 2) := by decide +kernel
theorem dX12_guesses_145 : decode cX12_guesses 145 = .ok (.aload_n 0, 1) := by decide +kernel
theorem dX12_guesses_146 : decode cX12_guesses 146 = .ok (.getfield 39, 3) := by decide +kernel
theorem dX12_guesses_149 : decode cX12_guesses 149 = .ok (.aload_n 0, 1) := by decide +kernel
theorem dX12_guesses_150 : decode cX12_guesses 150 = .ok (.getfield 42, 3) := by decide +kernel
theorem dX12_guesses_153 : decode cX12_guesses 153 = .ok (.iload 13, 2) := by decide +kernel
theorem dX12_guesses_155 : decode cX12_guesses 155 = .ok (.iaload, 1) := by decide +kernel
theorem dX12_guesses_156 : decode cX12_guesses 156 = .ok (.iaload, 1) := by decide +kernel
theorem dX12_guesses_157 : decode cX12_guesses 157 = .ok (.aload_n 0, 1) := by decide +kernel
theorem dX12_guesses_158 : decode cX12_guesses 158 = .ok (.iload_n 2, 1) := by decide +kernel
theorem dX12_guesses_159 : decode cX12_guesses 159 = .ok (.aload_n 0, 1) := by decide +kernel
theorem dX12_guesses_160 : decode cX12_guesses 160 = .ok (.getfield 36, 3) := by decide +kernel
theorem dX12_guesses_163 : decode cX12_guesses 163 = .ok (.iload 13, 2) := by decide +kernel
theorem dX12_guesses_165 : decode cX12_guesses 165 = .ok (.iaload, 1) := by decide +kernel
theorem dX12_guesses_166 : decode cX12_guesses 166 = .ok (.invokevirtual 251, 3) := by decide +kernel
theorem dX12_guesses_169 : decode cX12_guesses 169 = .ok (.if_icmp .ne 7, 3) := by decide +kernel
theorem dX12_guesses_172 : decode cX12_guesses 172 = .ok (.iconst 1, 1) := by decide +kernel
theorem dX12_guesses_173 : decode cX12_guesses 173 = .ok (.goto 4, 3) := by decide +kernel
theorem dX12_guesses_176 : decode cX12_guesses 176 = .ok (.iconst 0, 1) := by decide +kernel
theorem dX12_guesses_177 : decode cX12_guesses 177 = .ok (.iadd, 1) := by decide +kernel
theorem dX12_guesses_178 : decode cX12_guesses 178 = .ok (.istore 10, 2) := by decide +kernel
theorem dX12_guesses_180 : decode cX12_guesses 180 = .ok (.iinc 13 1, 3) := by decide +kernel
theorem dX12_guesses_183 : decode cX12_guesses 183 = .ok (.goto (-106), 3) := by decide +kernel
theorem dX12_guesses_186 : decode cX12_guesses 186 = .ok (.iload 11, 2) := by decide +kernel
theorem dX12_guesses_188 : decode cX12_guesses 188 = .ok (.ifCond .ne 6, 3) := by decide +kernel
theorem dX12_guesses_191 : decode cX12_guesses 191 = .ok (.goto 42, 3) := by decide +kernel
theorem dX12_guesses_194 : decode cX12_guesses 194 = .ok (.aload_n 0, 1) := by decide +kernel
theorem dX12_guesses_195 : decode cX12_guesses 195 = .ok (.dup, 1) := by decide +kernel
theorem dX12_guesses_196 : decode cX12_guesses 196 = .ok (.getfield 362, 3) := by decide +kernel
theorem dX12_guesses_199 : decode cX12_guesses 199 = .ok (.iconst 1, 1) := by decide +kernel
theorem dX12_guesses_200 : decode cX12_guesses 200 = .ok (.iadd, 1) := by decide +kernel
theorem dX12_guesses_201 : decode cX12_guesses 201 = .ok (.putfield 362, 3) := by decide +kernel
theorem dX12_guesses_204 : decode cX12_guesses 204 = .ok (.aload_n 0, 1) := by decide +kernel
theorem dX12_guesses_205 : decode cX12_guesses 205 = .ok (.dup, 1) := by decide +kernel
theorem dX12_guesses_206 : decode cX12_guesses 206 = .ok (.getfield 359, 3) := by decide +kernel
theorem dX12_guesses_209 : decode cX12_guesses 209 = .ok (.aload_n 0, 1) := by decide +kernel
theorem dX12_guesses_210 : decode cX12_guesses 210 = .ok (.iload_n 1, 1) := by decide +kernel
theorem dX12_guesses_211 : decode cX12_guesses 211 = .ok (.aload_n 0, 1) := by decide +kernel
theorem dX12_guesses_212 : decode cX12_guesses 212 = .ok (.iload_n 2, 1) := by decide +kernel
theorem dX12_guesses_213 : decode cX12_guesses 213 = .ok (.iconst 2, 1) := by decide +kernel
theorem dX12_guesses_214 : decode cX12_guesses 214 = .ok (.invokevirtual 235, 3) := by decide +kernel
theorem dX12_guesses_217 : decode cX12_guesses 217 = .ok (.iload 5, 2) := by decide +kernel
theorem dX12_guesses_219 : decode cX12_guesses 219 = .ok (.iload 10, 2) := by decide +kernel
theorem dX12_guesses_221 : decode cX12_guesses 221 = .ok (.iadd, 1) := by decide +kernel
theorem dX12_guesses_222 : decode cX12_guesses 222 = .ok (.iload 6, 2) := by decide +kernel
theorem dX12_guesses_224 : decode cX12_guesses 224 = .ok (.iload_n 3, 1) := by decide +kernel
theorem dX12_guesses_225 : decode cX12_guesses 225 = .ok (.isub, 1) := by decide +kernel
theorem dX12_guesses_226 : decode cX12_guesses 226 = .ok (.invokevirtual 347, 3) := by decide +kernel
theorem dX12_guesses_229 : decode cX12_guesses 229 = .ok (.iadd, 1) := by decide +kernel
theorem dX12_guesses_230 : decode cX12_guesses 230 = .ok (.putfield 359, 3) := by decide +kernel
theorem dX12_guesses_233 : decode cX12_guesses 233 = .ok (.iinc 8 1, 3) := by decide +kernel
theorem dX12_guesses_236 : decode cX12_guesses 236 = .ok (.goto (-182), 3) := by decide +kernel
theorem dX12_guesses_239 : decode cX12_guesses 239 = .ok (.return_, 1) := by decide +kernel
theorem dX12_guess_0 : decode cX12_guess 0 = .ok (.aload_n 0, 1) := by decide +kernel
theorem dX12_guess_1 : decode cX12_guess 1 = .ok (.iconst 0, 1) := by decide +kernel
theorem dX12_guess_2 : decode cX12_guess 2 = .ok (.putfield 3, 3) := by decide +kernel
theorem dX12_guess_5 : decode cX12_guess 5 = .ok (.aload_n 0, 1) := by decide +kernel
theorem dX12_guess_6 : decode cX12_guess 6 = .ok (.aload_n 0, 1) := by decide +kernel
theorem dX12_guess_7 : decode cX12_guess 7 = .ok (.iload_n 1, 1) := by decide +kernel
theorem dX12_guess_8 : decode cX12_guess 8 = .ok (.invokevirtual 344, 3) := by decide +kernel
theorem dX12_guess_11 : decode cX12_guess 11 = .ok (.ifCond .ne 11, 3) := by decide +kernel
theorem dX12_guess_14 : decode cX12_guess 14 = .ok (.aload_n 0, 1) := by decide +kernel
theorem dX12_guess_15 : decode cX12_guess 15 = .ok (.iload_n 2, 1) := by decide +kernel
theorem dX12_guess_16 : decode cX12_guess 16 = .ok (.invokevirtual 241, 3) := by decide +kernel
theorem dX12_guess_19 : decode cX12_guess 19 = .ok (.ifCond .eq 7, 3) := by decide +kernel
theorem dX12_guess_22 : decode cX12_guess 22 = .ok (.iconst 1, 1) := by decide +kernel
theorem dX12_guess_23 : decode cX12_guess 23 = .ok (.goto 4, 3) := by decide +kernel
theorem dX12_guess_26 : decode cX12_guess 26 = .ok (.iconst 0, 1) := by decide +kernel
theorem dX12_guess_27 : decode cX12_guess 27 = .ok (.iconst 1, 1) := by decide +kernel
theorem dX12_guess_28 : decode cX12_guess 28 = .ok (.invokevirtual 195, 3) := by decide +kernel
theorem dX12_guess_31 : decode cX12_guess 31 = .ok (.ifCond .ne 46, 3) := by decide +kernel
theorem dX12_guess_34 : decode cX12_guess 34 = .ok (.aload_n 0, 1) := by decide +kernel
theorem dX12_guess_35 : decode cX12_guess 35 = .ok (.aload_n 0, 1) := by decide +kernel
theorem dX12_guess_36 : decode cX12_guess 36 = .ok (.iload_n 2, 1) := by decide +kernel
theorem dX12_guess_37 : decode cX12_guess 37 = .ok (.invokevirtual 257, 3) := by decide +kernel
theorem dX12_guess_40 : decode cX12_guess 40 = .ok (.ifCond .ne 7, 3) := by decide +kernel
theorem dX12_guess_43 : decode cX12_guess 43 = .ok (.iconst 1, 1) := by decide +kernel
theorem dX12_guess_44 : decode cX12_guess 44 = .ok (.goto 4, 3) := by decide +kernel
theorem dX12_guess_47 : decode cX12_guess 47 = .ok (.iconst 0, 1) := by decide +kernel
theorem dX12_guess_48 : decode cX12_guess 48 = .ok (.iconst 2, 1) := by decide +kernel
theorem dX12_guess_49 : decode cX12_guess 49 = .ok (.invokevirtual 195, 3) := by decide +kernel
theorem dX12_guess_52 : decode cX12_guess 52 = .ok (.ifCond .ne 25, 3) := by decide +kernel
theorem dX12_guess_55 : decode cX12_guess 55 = .ok (.aload_n 0, 1) := by decide +kernel
theorem dX12_guess_56 : decode cX12_guess 56 = .ok (.iload_n 3, 1) := by decide +kernel
theorem dX12_guess_57 : decode cX12_guess 57 = .ok (.iconst 0, 1) := by decide +kernel
theorem dX12_guess_58 : decode cX12_guess 58 = .ok (.iconst 2, 1) := by decide +kernel
theorem dX12_guess_59 : decode cX12_guess 59 = .ok (.invokestatic 55, 3) := by decide +kernel
theorem dX12_guess_62 : decode cX12_guess 62 = .ok (.ifCond .ne 7, 3) := by decide +kernel
theorem dX12_guess_65 : decode cX12_guess 65 = .ok (.iconst 1, 1) := by decide +kernel
theorem dX12_guess_66 : decode cX12_guess 66 = .ok (.goto 4, 3) := by decide +kernel
theorem dX12_guess_69 : decode cX12_guess 69 = .ok (.iconst 0, 1) := by decide +kernel
theorem dX12_guess_70 : decode cX12_guess 70 = .ok (.iconst 3, 1) := by decide +kernel
theorem dX12_guess_71 : decode cX12_guess 71 = .ok (.invokevirtual 195, 3) := by decide +kernel
theorem dX12_guess_74 : decode cX12_guess 74 = .ok (.ifCond .eq 5, 3) := by decide +kernel
theorem dX12_guess_77 : decode cX12_guess 77 = .ok (.iconst 0, 1) := by decide +kernel
theorem dX12_guess_78 : decode cX12_guess 78 = .ok (.ireturn, 1) := by decide +kernel
theorem dX12_guess_79 : decode cX12_guess 79 = .ok (.bipush 6, 2) := by decide +kernel
theorem dX12_guess_81 : decode cX12_guess 81 = .ok (.aload_n 0, 1) := by decide +kernel
theorem dX12_guess_82 : decode cX12_guess 82 = .ok (.iload_n 2, 1) := by decide +kernel
theorem dX12_guess_83 : decode cX12_guess 83 = .ok (.invokevirtual 353, 3) := by decide +kernel
theorem dX12_guess_86 : decode cX12_guess 86 = .ok (.invokestatic 209, 3) := by decide +kernel
theorem dX12_guess_89 : decode cX12_guess 89 = .ok (.istore 4, 2) := by decide +kernel
theorem dX12_guess_91 : decode cX12_guess 91 = .ok (.iconst 0, 1) := by decide +kernel
theorem dX12_guess_92 : decode cX12_guess 92 = .ok (.istore 5, 2) := by decide +kernel
theorem dX12_guess_94 : decode cX12_guess 94 = .ok (.iload 5, 2) := by decide +kernel
theorem dX12_guess_96 : decode cX12_guess 96 = .ok (.iload 4, 2) := by decide +kernel
theorem dX12_guess_98 : decode cX12_guess 98 = .ok (.if_icmp .ge 23, 3) := by decide +kernel
theorem dX12_guess_101 : decode cX12_guess 101 = .ok (.aload_n 0, 1) := by decide +kernel
theorem dX12_guess_102 : decode cX12_guess 102 = .ok (.getfield 39, 3) := by decide +kernel
theorem dX12_guess_105 : decode cX12_guess 105 = .ok (.iload 5, 2) := by decide +kernel
theorem dX12_guess_107 : decode cX12_guess 107 = .ok (.aload_n 0, 1) := by decide +kernel
theorem dX12_guess_108 : decode cX12_guess 108 = .ok (.iload_n 2, 1) := by decide +kernel
theorem dX12_guess_109 : decode cX12_guess 109 = .ok (.iload 5, 2) := by decide +kernel
theorem dX12_guess_111 : decode cX12_guess 111 = .ok (.invokevirtual 356, 3) := by decide +kernel
theorem dX12_guess_114 : decode cX12_guess 114 = .ok (.iastore, 1) := by decide +kernel
theorem dX12_guess_115 : decode cX12_guess 115 = .ok (.iinc 5 1, 3) := by decide +kernel
theorem dX12_guess_118 : decode cX12_guess 118 = .ok (.goto (-24), 3) := by decide +kernel
theorem dX12_guess_121 : decode cX12_guess 121 = .ok (.iconst 0, 1) := by decide +kernel
theorem dX12_guess_122 : decode cX12_guess 122 = .ok (.istore 5, 2) := by decide +kernel
theorem dX12_guess_124 : decode cX12_guess 124 = .ok (.iconst 0, 1) := by decide +kernel
theorem dX12_guess_125 : decode cX12_guess 125 = .ok (.istore 6, 2) := by decide +kernel
theorem dX12_guess_127 : decode cX12_guess 127 = .ok (.iload 6, 2) := by decide +kernel
theorem dX12_guess_129 : decode cX12_guess 129 = .ok (.aload_n 0, 1) := by decide +kernel
theorem dX12_guess_130 : decode cX12_guess 130 = .ok (.iload_n 2, 1) := by decide +kernel
theorem dX12_guess_131 : decode cX12_guess 131 = .ok (.iconst 2, 1) := by decide +kernel
theorem dX12_guess_132 : decode cX12_guess 132 = .ok (.invokevirtual 235, 3) := by decide +kernel
theorem dX12_guess_135 : decode cX12_guess 135 = .ok (.if_icmp .ge 43, 3) := by decide +kernel
theorem dX12_guess_138 : decode cX12_guess 138 = .ok (.iload 5, 2) := by decide +kernel
theorem dX12_guess_140 : decode cX12_guess 140 = .ok (.iconst 5, 1) := by decide +kernel
theorem dX12_guess_141 : decode cX12_guess 141 = .ok (.if_icmp .ge 37, 3) := by decide +kernel
theorem dX12_guess_144 : decode cX12_guess 144 = .ok (.aload_n 0, 1) := by decide +kernel
theorem dX12_guess_145 : decode cX12_guess 145 = .ok (.iload_n 2, 1) := by decide +kernel
theorem dX12_guess_146 : decode cX12_guess 146 = .ok (.bipush 29, 2) := by decide +kernel
theorem dX12_guess_148 : decode cX12_guess 148 = .ok (.iload 6, 2) := by decide +kernel
theorem dX12_guess_150 : decode cX12_guess 150 = .ok (.iadd, 1) := by decide +kernel
theorem dX12_guess_151 : decode cX12_guess 151 = .ok (.invokevirtual 235, 3) := by decide +kernel
theorem dX12_guess_154 : decode cX12_guess 154 = .ok (.ifCond .lt 6, 3) := by decide +kernel
theorem dX12_guess_157 : decode cX12_guess 157 = .ok (.goto 15, 3) := by decide +kernel
theorem dX12_guess_160 : decode cX12_guess 160 = .ok (.aload_n 0, 1) := by decide +kernel
theorem dX12_guess_161 : decode cX12_guess 161 = .ok (.getfield 36, 3) := by decide +kernel
theorem dX12_guess_164 : decode cX12_guess 164 = .ok (.iload 5, 2) := by decide +kernel
theorem dX12_guess_166 : decode cX12_guess 166 = .ok (.iload 6, 2) := by decide +kernel
theorem dX12_guess_168 : decode cX12_guess 168 = .ok (.iastore, 1) := by decide +kernel
theorem dX12_guess_169 : decode cX12_guess 169 = .ok (.iinc 5 1, 3) := by decide +kernel
theorem dX12_guess_172 : decode cX12_guess 172 = .ok (.iinc 6 1, 3) := by decide +kernel
theorem dX12_guess_175 : decode cX12_guess 175 = .ok (.goto (-48), 3) := by decide +kernel
theorem dX12_guess_178 : decode cX12_guess 178 = .ok (.iconst (-1), 1) := by decide +kernel
theorem dX12_guess_179 : decode cX12_guess 179 = .ok (.istore 6, 2) := by decide +kernel
theorem dX12_guess_181 : decode cX12_guess 181 = .ok (.iconst 0, 1) := by decide +kernel
theorem dX12_guess_182 : decode cX12_guess 182 = .ok (.istore 7, 2) := by decide +kernel
theorem dX12_guess_184 : decode cX12_guess 184 = .ok (.iconst 1, 1) := by decide +kernel
theorem dX12_guess_185 : decode cX12_guess 185 = .ok (.istore 8, 2) := by decide +kernel
theorem dX12_guess_187 : decode cX12_guess 187 = .ok (.iconst 0, 1) := by decide +kernel
theorem dX12_guess_188 : decode cX12_guess 188 = .ok (.istore 9, 2) := by decide +kernel
theorem dX12_guess_190 : decode cX12_guess 190 = .ok (.iload 9, 2) := by decide +kernel
theorem dX12_guess_192 : decode cX12_guess 192 = .ok (.iload 5, 2) := by decide +kernel
theorem dX12_guess_194 : decode cX12_guess 194 = .ok (.iload 4, 2) := by decide +kernel
theorem dX12_guess_196 : decode cX12_guess 196 = .ok (.invokestatic 209, 3) := by decide +kernel
theorem dX12_guess_199 : decode cX12_guess 199 = .ok (.if_icmp .gt 65, 3) := by decide +kernel
theorem dX12_guess_202 : decode cX12_guess 202 = .ok (.aload_n 0, 1) := by decide +kernel
theorem dX12_guess_203 : decode cX12_guess 203 = .ok (.iload_n 1, 1) := by decide +kernel
theorem dX12_guess_204 : decode cX12_guess 204 = .ok (.iload_n 2, 1) := by decide +kernel
theorem dX12_guess_205 : decode cX12_guess 205 = .ok (.iload 9, 2) := by decide +kernel
theorem dX12_guess_207 : decode cX12_guess 207 = .ok (.iload 4, 2) := by decide +kernel
theorem dX12_guess_209 : decode cX12_guess 209 = .ok (.invokevirtual 365, 3) := by decide +kernel
theorem dX12_guess_212 : decode cX12_guess 212 = .ok (.iload 6, 2) := by decide +kernel
theorem dX12_guess_214 : decode cX12_guess 214 = .ok (.ifCond .lt 28, 3) := by decide +kernel
theorem dX12_guess_217 : decode cX12_guess 217 = .ok (.aload_n 0, 1) := by decide +kernel
theorem dX12_guess_218 : decode cX12_guess 218 = .ok (.getfield 359, 3) := by decide +kernel
theorem dX12_guess_221 : decode cX12_guess 221 = .ok (.i2l, 1) := by decide +kernel
theorem dX12_guess_222 : decode cX12_guess 222 = .ok (.iload 8, 2) := by decide +kernel
theorem dX12_guess_224 : decode cX12_guess 224 = .ok (.i2l, 1) := by decide +kernel
theorem dX12_guess_225 : decode cX12_guess 225 = .ok (.lmul, 1) := by decide +kernel
theorem dX12_guess_226 : decode cX12_guess 226 = .ok (.iload 7, 2) := by decide +kernel
theorem dX12_guess_228 : decode cX12_guess 228 = .ok (.i2l, 1) := by decide +kernel
theorem dX12_guess_229 : decode cX12_guess 229 = .ok (.aload_n 0, 1) := by decide +kernel
theorem dX12_guess_230 : decode cX12_guess 230 = .ok (.getfield 362, 3) := by decide +kernel
theorem dX12_guess_233 : decode cX12_guess 233 = .ok (.i2l, 1) := by decide +kernel
theorem dX12_guess_234 : decode cX12_guess 234 = .ok (.lmul, 1) := by decide +kernel
theorem dX12_guess_235 : decode cX12_guess 235 = .ok (.lcmp, 1) := by decide +kernel
theorem dX12_guess_236 : decode cX12_guess 236 = .ok (.ifCond .gt 6, 3) := by decide +kernel
theorem dX12_guess_239 : decode cX12_guess 239 = .ok (.goto 19, 3) := by decide +kernel
theorem dX12_guess_242 : decode cX12_guess 242 = .ok (.iload 9, 2) := by decide +kernel
theorem dX12_guess_244 : decode cX12_guess 244 = .ok (.istore 6, 2) := by decide +kernel
theorem dX12_guess_246 : decode cX12_guess 246 = .ok (.aload_n 0, 1) := by decide +kernel
theorem dX12_guess_247 : decode cX12_guess 247 = .ok (.getfield 359, 3) := by decide +kernel
theorem dX12_guess_250 : decode cX12_guess 250 = .ok (.istore 7, 2) := by decide +kernel
theorem dX12_guess_252 : decode cX12_guess 252 = .ok (.aload_n 0, 1) := by decide +kernel
theorem dX12_guess_253 : decode cX12_guess 253 = .ok (.getfield 362, 3) := by decide +kernel
theorem dX12_guess_256 : decode cX12_guess 256 = .ok (.istore 8, 2) := by decide +kernel
theorem dX12_guess_258 : decode cX12_guess 258 = .ok (.iinc 9 1, 3) := by decide +kernel
theorem dX12_guess_261 : decode cX12_guess 261 = .ok (.goto (-71), 3) := by decide +kernel
theorem dX12_guess_264 : decode cX12_guess 264 = .ok (.iload 7, 2) := by decide +kernel
theorem dX12_guess_266 : decode cX12_guess 266 = .ok (.iload 8, 2) := by decide +kernel
theorem dX12_guess_268 : decode cX12_guess 268 = .ok (.invokestatic 341, 3) := by decide +kernel
theorem dX12_guess_271 : decode cX12_guess 271 = .ok (.istore 9, 2) := by decide +kernel
theorem dX12_guess_273 : decode cX12_guess 273 = .ok (.iload_n 3, 1) := by decide +kernel
theorem dX12_guess_274 : decode cX12_guess 274 = .ok (.ifCond .ne 8, 3) := by decide +kernel
theorem dX12_guess_277 : decode cX12_guess 277 = .ok (.iload 6, 2) := by decide +kernel
theorem dX12_guess_279 : decode cX12_guess 279 = .ok (.goto 21, 3) := by decide +kernel
theorem dX12_guess_282 : decode cX12_guess 282 = .ok (.iload_n 3, 1) := by decide +kernel
theorem dX12_guess_283 : decode cX12_guess 283 = .ok (.iconst 1, 1) := by decide +kernel
theorem dX12_guess_284 : decode cX12_guess 284 = .ok (.if_icmp .ne 11, 3) := by decide +kernel
theorem dX12_guess_287 : decode cX12_guess 287 = .ok (.iload 7, 2) := by decide +kernel
theorem dX12_guess_289 : decode cX12_guess 289 = .ok (.iload 9, 2) := by decide +kernel
theorem dX12_guess_291 : decode cX12_guess 291 = .ok (.idiv, 1) := by decide +kernel
theorem dX12_guess_292 : decode cX12_guess 292 = .ok (.goto 8, 3) := by decide +kernel
theorem dX12_guess_295 : decode cX12_guess 295 = .ok (.iload 8, 2) := by decide +kernel
theorem dX12_guess_297 : decode cX12_guess 297 = .ok (.iload 9, 2) := by decide +kernel
theorem dX12_guess_299 : decode cX12_guess 299 = .ok (.idiv, 1) := by decide +kernel
theorem dX12_guess_300 : decode cX12_guess 300 = .ok (.ireturn, 1) := by decide +kernel
theorem dX12_moment_0 : decode cX12_moment 0 = .ok (.aload_n 0, 1) := by decide +kernel
theorem dX12_moment_1 : decode cX12_moment 1 = .ok (.iconst 0, 1) := by decide +kernel
theorem dX12_moment_2 : decode cX12_moment 2 = .ok (.putfield 3, 3) := by decide +kernel
theorem dX12_moment_5 : decode cX12_moment 5 = .ok (.aload_n 0, 1) := by decide +kernel
theorem dX12_moment_6 : decode cX12_moment 6 = .ok (.getfield 13, 3) := by decide +kernel
theorem dX12_moment_9 : decode cX12_moment 9 = .ok (.iconst 4, 1) := by decide +kernel
theorem dX12_moment_10 : decode cX12_moment 10 = .ok (.iaload, 1) := by decide +kernel
theorem dX12_moment_11 : decode cX12_moment 11 = .ok (.istore_n 2, 1) := by decide +kernel
theorem dX12_moment_12 : decode cX12_moment 12 = .ok (.aload_n 0, 1) := by decide +kernel
theorem dX12_moment_13 : decode cX12_moment 13 = .ok (.iload_n 1, 1) := by decide +kernel
theorem dX12_moment_14 : decode cX12_moment 14 = .ok (.iload_n 2, 1) := by decide +kernel
theorem dX12_moment_15 : decode cX12_moment 15 = .ok (.ifCond .ne 7, 3) := by decide +kernel
theorem dX12_moment_18 : decode cX12_moment 18 = .ok (.iconst 0, 1) := by decide +kernel
theorem dX12_moment_19 : decode cX12_moment 19 = .ok (.goto 15, 3) := by decide +kernel
theorem dX12_moment_22 : decode cX12_moment 22 = .ok (.aload_n 0, 1) := by decide +kernel
theorem dX12_moment_23 : decode cX12_moment 23 = .ok (.getfield 13, 3) := by decide +kernel
theorem dX12_moment_26 : decode cX12_moment 26 = .ok (.sipush 938, 3) := by decide +kernel
theorem dX12_moment_29 : decode cX12_moment 29 = .ok (.iload_n 2, 1) := by decide +kernel
theorem dX12_moment_30 : decode cX12_moment 30 = .ok (.iadd, 1) := by decide +kernel
theorem dX12_moment_31 : decode cX12_moment 31 = .ok (.iconst 1, 1) := by decide +kernel
theorem dX12_moment_32 : decode cX12_moment 32 = .ok (.isub, 1) := by decide +kernel
theorem dX12_moment_33 : decode cX12_moment 33 = .ok (.iaload, 1) := by decide +kernel
theorem dX12_moment_34 : decode cX12_moment 34 = .ok (.if_icmp .le 10, 3) := by decide +kernel
theorem dX12_moment_37 : decode cX12_moment 37 = .ok (.iload_n 1, 1) := by decide +kernel
theorem dX12_moment_38 : decode cX12_moment 38 = .ok (.ldc_w 368, 3) := by decide +kernel
theorem dX12_moment_41 : decode cX12_moment 41 = .ok (.if_icmp .le 7, 3) := by decide +kernel
theorem dX12_moment_44 : decode cX12_moment 44 = .ok (.iconst 1, 1) := by decide +kernel
theorem dX12_moment_45 : decode cX12_moment 45 = .ok (.goto 4, 3) := by decide +kernel
theorem dX12_moment_48 : decode cX12_moment 48 = .ok (.iconst 0, 1) := by decide +kernel
theorem dX12_moment_49 : decode cX12_moment 49 = .ok (.iconst 1, 1) := by decide +kernel
theorem dX12_moment_50 : decode cX12_moment 50 = .ok (.invokevirtual 195, 3) := by decide +kernel
theorem dX12_moment_53 : decode cX12_moment 53 = .ok (.ifCond .ne 22, 3) := by decide +kernel
theorem dX12_moment_56 : decode cX12_moment 56 = .ok (.aload_n 0, 1) := by decide +kernel
theorem dX12_moment_57 : decode cX12_moment 57 = .ok (.iload_n 2, 1) := by decide +kernel
theorem dX12_moment_58 : decode cX12_moment 58 = .ok (.bipush 6, 2) := by decide +kernel
theorem dX12_moment_60 : decode cX12_moment 60 = .ok (.if_icmp .ne 7, 3) := by decide +kernel
theorem dX12_moment_63 : decode cX12_moment 63 = .ok (.iconst 1, 1) := by decide +kernel
theorem dX12_moment_64 : decode cX12_moment 64 = .ok (.goto 4, 3) := by decide +kernel
theorem dX12_moment_67 : decode cX12_moment 67 = .ok (.iconst 0, 1) := by decide +kernel
theorem dX12_moment_68 : decode cX12_moment 68 = .ok (.iconst 2, 1) := by decide +kernel
theorem dX12_moment_69 : decode cX12_moment 69 = .ok (.invokevirtual 195, 3) := by decide +kernel
theorem dX12_moment_72 : decode cX12_moment 72 = .ok (.ifCond .eq 5, 3) := by decide +kernel
theorem dX12_moment_75 : decode cX12_moment 75 = .ok (.iconst 0, 1) := by decide +kernel
theorem dX12_moment_76 : decode cX12_moment 76 = .ok (.ireturn, 1) := by decide +kernel
theorem dX12_moment_77 : decode cX12_moment 77 = .ok (.aload_n 0, 1) := by decide +kernel
theorem dX12_moment_78 : decode cX12_moment 78 = .ok (.getfield 13, 3) := by decide +kernel
theorem dX12_moment_81 : decode cX12_moment 81 = .ok (.sipush 938, 3) := by decide +kernel
theorem dX12_moment_84 : decode cX12_moment 84 = .ok (.iload_n 2, 1) := by decide +kernel
theorem dX12_moment_85 : decode cX12_moment 85 = .ok (.iadd, 1) := by decide +kernel
theorem dX12_moment_86 : decode cX12_moment 86 = .ok (.iload_n 1, 1) := by decide +kernel
theorem dX12_moment_87 : decode cX12_moment 87 = .ok (.iastore, 1) := by decide +kernel
theorem dX12_moment_88 : decode cX12_moment 88 = .ok (.aload_n 0, 1) := by decide +kernel
theorem dX12_moment_89 : decode cX12_moment 89 = .ok (.getfield 13, 3) := by decide +kernel
theorem dX12_moment_92 : decode cX12_moment 92 = .ok (.iconst 4, 1) := by decide +kernel
theorem dX12_moment_93 : decode cX12_moment 93 = .ok (.dup2, 1) := by decide +kernel
theorem dX12_moment_94 : decode cX12_moment 94 = .ok (.iaload, 1) := by decide +kernel
theorem dX12_moment_95 : decode cX12_moment 95 = .ok (.iconst 1, 1) := by decide +kernel
theorem dX12_moment_96 : decode cX12_moment 96 = .ok (.iadd, 1) := by decide +kernel
theorem dX12_moment_97 : decode cX12_moment 97 = .ok (.iastore, 1) := by decide +kernel
theorem dX12_moment_98 : decode cX12_moment 98 = .ok (.iload_n 2, 1) := by decide +kernel
theorem dX12_moment_99 : decode cX12_moment 99 = .ok (.iconst 1, 1) := by decide +kernel
theorem dX12_moment_100 : decode cX12_moment 100 = .ok (.iadd, 1) := by decide +kernel
theorem dX12_moment_101 : decode cX12_moment 101 = .ok (.ireturn, 1) := by decide +kernel
theorem dX12_moments_0 : decode cX12_moments 0 = .ok (.aload_n 0, 1) := by decide +kernel
theorem dX12_moments_1 : decode cX12_moments 1 = .ok (.iconst 0, 1) := by decide +kernel
theorem dX12_moments_2 : decode cX12_moments 2 = .ok (.putfield 3, 3) := by decide +kernel
theorem dX12_moments_5 : decode cX12_moments 5 = .ok (.aload_n 0, 1) := by decide +kernel
theorem dX12_moments_6 : decode cX12_moments 6 = .ok (.getfield 13, 3) := by decide +kernel
theorem dX12_moments_9 : decode cX12_moments 9 = .ok (.iconst 4, 1) := by decide +kernel
theorem dX12_moments_10 : decode cX12_moments 10 = .ok (.iaload, 1) := by decide +kernel
theorem dX12_moments_11 : decode cX12_moments 11 = .ok (.istore_n 1, 1) := by decide +kernel
theorem dX12_moments_12 : decode cX12_moments 12 = .ok (.aload_n 0, 1) := by decide +kernel
theorem dX12_moments_13 : decode cX12_moments 13 = .ok (.getfield 13, 3) := by decide +kernel
theorem dX12_moments_16 : decode cX12_moments 16 = .ok (.iconst 4, 1) := by decide +kernel
theorem dX12_moments_17 : decode cX12_moments 17 = .ok (.iconst 0, 1) := by decide +kernel
theorem dX12_moments_18 : decode cX12_moments 18 = .ok (.iastore, 1) := by decide +kernel
theorem dX12_moments_19 : decode cX12_moments 19 = .ok (.iload_n 1, 1) := by decide +kernel
theorem dX12_moments_20 : decode cX12_moments 20 = .ok (.ireturn, 1) := by decide +kernel
theorem dX12_awaitedBy_0 : decode cX12_awaitedBy 0 = .ok (.iconst 0, 1) := by decide +kernel
theorem dX12_awaitedBy_1 : decode cX12_awaitedBy 1 = .ok (.istore 5, 2) := by decide +kernel
theorem dX12_awaitedBy_3 : decode cX12_awaitedBy 3 = .ok (.iload_n 3, 1) := by decide +kernel
theorem dX12_awaitedBy_4 : decode cX12_awaitedBy 4 = .ok (.ifCond .ne 7, 3) := by decide +kernel
theorem dX12_awaitedBy_7 : decode cX12_awaitedBy 7 = .ok (.iconst 0, 1) := by decide +kernel
theorem dX12_awaitedBy_8 : decode cX12_awaitedBy 8 = .ok (.goto 16, 3) := by decide +kernel
theorem dX12_awaitedBy_11 : decode cX12_awaitedBy 11 = .ok (.aload_n 0, 1) := by decide +kernel
theorem dX12_awaitedBy_12 : decode cX12_awaitedBy 12 = .ok (.getfield 13, 3) := by decide +kernel
theorem dX12_awaitedBy_15 : decode cX12_awaitedBy 15 = .ok (.sipush 969, 3) := by decide +kernel
theorem dX12_awaitedBy_18 : decode cX12_awaitedBy 18 = .ok (.iload_n 3, 1) := by decide +kernel
theorem dX12_awaitedBy_19 : decode cX12_awaitedBy 19 = .ok (.invokestatic 369, 3) := by decide +kernel
theorem dX12_awaitedBy_22 : decode cX12_awaitedBy 22 = .ok (.isub, 1) := by decide +kernel
theorem dX12_awaitedBy_23 : decode cX12_awaitedBy 23 = .ok (.iaload, 1) := by decide +kernel
theorem dX12_awaitedBy_24 : decode cX12_awaitedBy 24 = .ok (.istore 6, 2) := by decide +kernel
theorem dX12_awaitedBy_26 : decode cX12_awaitedBy 26 = .ok (.iconst 0, 1) := by decide +kernel
theorem dX12_awaitedBy_27 : decode cX12_awaitedBy 27 = .ok (.istore 7, 2) := by decide +kernel
theorem dX12_awaitedBy_29 : decode cX12_awaitedBy 29 = .ok (.iload 7, 2) := by decide +kernel
theorem dX12_awaitedBy_31 : decode cX12_awaitedBy 31 = .ok (.aload_n 0, 1) := by decide +kernel
theorem dX12_awaitedBy_32 : decode cX12_awaitedBy 32 = .ok (.iload_n 2, 1) := by decide +kernel
theorem dX12_awaitedBy_33 : decode cX12_awaitedBy 33 = .ok (.iconst 2, 1) := by decide +kernel
theorem dX12_awaitedBy_34 : decode cX12_awaitedBy 34 = .ok (.invokevirtual 235, 3) := by decide +kernel
theorem dX12_awaitedBy_37 : decode cX12_awaitedBy 37 = .ok (.if_icmp .ge 70, 3) := by decide +kernel
theorem dX12_awaitedBy_40 : decode cX12_awaitedBy 40 = .ok (.aload_n 0, 1) := by decide +kernel
theorem dX12_awaitedBy_41 : decode cX12_awaitedBy 41 = .ok (.iload_n 2, 1) := by decide +kernel
theorem dX12_awaitedBy_42 : decode cX12_awaitedBy 42 = .ok (.iload 7, 2) := by decide +kernel
theorem dX12_awaitedBy_44 : decode cX12_awaitedBy 44 = .ok (.iload_n 3, 1) := by decide +kernel
theorem dX12_awaitedBy_45 : decode cX12_awaitedBy 45 = .ok (.ifCond .ne 23, 3) := by decide +kernel
theorem dX12_awaitedBy_48 : decode cX12_awaitedBy 48 = .ok (.aload_n 0, 1) := by decide +kernel
theorem dX12_awaitedBy_49 : decode cX12_awaitedBy 49 = .ok (.iload_n 2, 1) := by decide +kernel
theorem dX12_awaitedBy_50 : decode cX12_awaitedBy 50 = .ok (.iload 7, 2) := by decide +kernel
theorem dX12_awaitedBy_52 : decode cX12_awaitedBy 52 = .ok (.aload_n 0, 1) := by decide +kernel
theorem dX12_awaitedBy_53 : decode cX12_awaitedBy 53 = .ok (.getfield 13, 3) := by decide +kernel
theorem dX12_awaitedBy_56 : decode cX12_awaitedBy 56 = .ok (.bipush 6, 2) := by decide +kernel
theorem dX12_awaitedBy_58 : decode cX12_awaitedBy 58 = .ok (.iaload, 1) := by decide +kernel
theorem dX12_awaitedBy_59 : decode cX12_awaitedBy 59 = .ok (.iload 4, 2) := by decide +kernel
theorem dX12_awaitedBy_61 : decode cX12_awaitedBy 61 = .ok (.iadd, 1) := by decide +kernel
theorem dX12_awaitedBy_62 : decode cX12_awaitedBy 62 = .ok (.invokevirtual 285, 3) := by decide +kernel
theorem dX12_awaitedBy_65 : decode cX12_awaitedBy 65 = .ok (.goto 11, 3) := by decide +kernel
theorem dX12_awaitedBy_68 : decode cX12_awaitedBy 68 = .ok (.iload 4, 2) := by decide +kernel
theorem dX12_awaitedBy_70 : decode cX12_awaitedBy 70 = .ok (.iload 6, 2) := by decide +kernel
theorem dX12_awaitedBy_72 : decode cX12_awaitedBy 72 = .ok (.isub, 1) := by decide +kernel
theorem dX12_awaitedBy_73 : decode cX12_awaitedBy 73 = .ok (.bipush 10, 2) := by decide +kernel
theorem dX12_awaitedBy_75 : decode cX12_awaitedBy 75 = .ok (.idiv, 1) := by decide +kernel
theorem dX12_awaitedBy_76 : decode cX12_awaitedBy 76 = .ok (.aload_n 0, 1) := by decide +kernel
theorem dX12_awaitedBy_77 : decode cX12_awaitedBy 77 = .ok (.iload_n 2, 1) := by decide +kernel
theorem dX12_awaitedBy_78 : decode cX12_awaitedBy 78 = .ok (.bipush 8, 2) := by decide +kernel
theorem dX12_awaitedBy_80 : decode cX12_awaitedBy 80 = .ok (.invokevirtual 235, 3) := by decide +kernel
theorem dX12_awaitedBy_83 : decode cX12_awaitedBy 83 = .ok (.iload_n 3, 1) := by decide +kernel
theorem dX12_awaitedBy_84 : decode cX12_awaitedBy 84 = .ok (.invokestatic 374, 3) := by decide +kernel
theorem dX12_awaitedBy_87 : decode cX12_awaitedBy 87 = .ok (.iadd, 1) := by decide +kernel
theorem dX12_awaitedBy_88 : decode cX12_awaitedBy 88 = .ok (.invokevirtual 288, 3) := by decide +kernel
theorem dX12_awaitedBy_91 : decode cX12_awaitedBy 91 = .ok (.iload 5, 2) := by decide +kernel
theorem dX12_awaitedBy_93 : decode cX12_awaitedBy 93 = .ok (.aload_n 0, 1) := by decide +kernel
theorem dX12_awaitedBy_94 : decode cX12_awaitedBy 94 = .ok (.iload_n 1, 1) := by decide +kernel
theorem dX12_awaitedBy_95 : decode cX12_awaitedBy 95 = .ok (.invokevirtual 292, 3) := by decide +kernel
theorem dX12_awaitedBy_98 : decode cX12_awaitedBy 98 = .ok (.iadd, 1) := by decide +kernel
theorem dX12_awaitedBy_99 : decode cX12_awaitedBy 99 = .ok (.istore 5, 2) := by decide +kernel
theorem dX12_awaitedBy_101 : decode cX12_awaitedBy 101 = .ok (.iinc 7 1, 3) := by decide +kernel
theorem dX12_awaitedBy_104 : decode cX12_awaitedBy 104 = .ok (.goto (-75), 3) := by decide +kernel
theorem dX12_awaitedBy_107 : decode cX12_awaitedBy 107 = .ok (.iload 5, 2) := by decide +kernel
theorem dX12_awaitedBy_109 : decode cX12_awaitedBy 109 = .ok (.ireturn, 1) := by decide +kernel
theorem dX12_again_0 : decode cX12_again 0 = .ok (.aload_n 0, 1) := by decide +kernel
theorem dX12_again_1 : decode cX12_again 1 = .ok (.iconst 0, 1) := by decide +kernel
theorem dX12_again_2 : decode cX12_again 2 = .ok (.putfield 3, 3) := by decide +kernel
theorem dX12_again_5 : decode cX12_again 5 = .ok (.aload_n 0, 1) := by decide +kernel
theorem dX12_again_6 : decode cX12_again 6 = .ok (.aload_n 0, 1) := by decide +kernel
theorem dX12_again_7 : decode cX12_again 7 = .ok (.iload_n 1, 1) := by decide +kernel
theorem dX12_again_8 : decode cX12_again 8 = .ok (.invokevirtual 295, 3) := by decide +kernel
theorem dX12_again_11 : decode cX12_again 11 = .ok (.ifCond .ne 11, 3) := by decide +kernel
theorem dX12_again_14 : decode cX12_again 14 = .ok (.aload_n 0, 1) := by decide +kernel
theorem dX12_again_15 : decode cX12_again 15 = .ok (.iload_n 2, 1) := by decide +kernel
theorem dX12_again_16 : decode cX12_again 16 = .ok (.invokevirtual 241, 3) := by decide +kernel
theorem dX12_again_19 : decode cX12_again 19 = .ok (.ifCond .eq 7, 3) := by decide +kernel
theorem dX12_again_22 : decode cX12_again 22 = .ok (.iconst 1, 1) := by decide +kernel
theorem dX12_again_23 : decode cX12_again 23 = .ok (.goto 4, 3) := by decide +kernel
theorem dX12_again_26 : decode cX12_again 26 = .ok (.iconst 0, 1) := by decide +kernel
theorem dX12_again_27 : decode cX12_again 27 = .ok (.iconst 1, 1) := by decide +kernel
theorem dX12_again_28 : decode cX12_again 28 = .ok (.invokevirtual 195, 3) := by decide +kernel
theorem dX12_again_31 : decode cX12_again 31 = .ok (.ifCond .ne 24, 3) := by decide +kernel
theorem dX12_again_34 : decode cX12_again 34 = .ok (.aload_n 0, 1) := by decide +kernel
theorem dX12_again_35 : decode cX12_again 35 = .ok (.aload_n 0, 1) := by decide +kernel
theorem dX12_again_36 : decode cX12_again 36 = .ok (.iload_n 2, 1) := by decide +kernel
theorem dX12_again_37 : decode cX12_again 37 = .ok (.invokevirtual 257, 3) := by decide +kernel
theorem dX12_again_40 : decode cX12_again 40 = .ok (.ifCond .ne 7, 3) := by decide +kernel
theorem dX12_again_43 : decode cX12_again 43 = .ok (.iconst 1, 1) := by decide +kernel
theorem dX12_again_44 : decode cX12_again 44 = .ok (.goto 4, 3) := by decide +kernel
theorem dX12_again_47 : decode cX12_again 47 = .ok (.iconst 0, 1) := by decide +kernel
theorem dX12_again_48 : decode cX12_again 48 = .ok (.iconst 2, 1) := by decide +kernel
theorem dX12_again_49 : decode cX12_again 49 = .ok (.invokevirtual 195, 3) := by decide +kernel
theorem dX12_again_52 : decode cX12_again 52 = .ok (.ifCond .eq 5, 3) := by decide +kernel
theorem dX12_again_55 : decode cX12_again 55 = .ok (.iconst 0, 1) := by decide +kernel
theorem dX12_again_56 : decode cX12_again 56 = .ok (.ireturn, 1) := by decide +kernel
theorem dX12_again_57 : decode cX12_again 57 = .ok (.aload_n 0, 1) := by decide +kernel
theorem dX12_again_58 : decode cX12_again 58 = .ok (.getfield 13, 3) := by decide +kernel
theorem dX12_again_61 : decode cX12_again 61 = .ok (.iconst 4, 1) := by decide +kernel
theorem dX12_again_62 : decode cX12_again 62 = .ok (.iaload, 1) := by decide +kernel
theorem dX12_again_63 : decode cX12_again 63 = .ok (.istore 6, 2) := by decide +kernel
theorem dX12_again_65 : decode cX12_again 65 = .ok (.aload_n 0, 1) := by decide +kernel
theorem dX12_again_66 : decode cX12_again 66 = .ok (.iload_n 3, 1) := by decide +kernel
theorem dX12_again_67 : decode cX12_again 67 = .ok (.ifCond .lt 38, 3) := by decide +kernel
theorem dX12_again_70 : decode cX12_again 70 = .ok (.iload 4, 2) := by decide +kernel
theorem dX12_again_72 : decode cX12_again 72 = .ok (.iload 6, 2) := by decide +kernel
theorem dX12_again_74 : decode cX12_again 74 = .ok (.ifCond .ne 7, 3) := by decide +kernel
theorem dX12_again_77 : decode cX12_again 77 = .ok (.iconst 0, 1) := by decide +kernel
theorem dX12_again_78 : decode cX12_again 78 = .ok (.goto 16, 3) := by decide +kernel
theorem dX12_again_81 : decode cX12_again 81 = .ok (.aload_n 0, 1) := by decide +kernel
theorem dX12_again_82 : decode cX12_again 82 = .ok (.getfield 13, 3) := by decide +kernel
theorem dX12_again_85 : decode cX12_again 85 = .ok (.sipush 938, 3) := by decide +kernel
theorem dX12_again_88 : decode cX12_again 88 = .ok (.iload 6, 2) := by decide +kernel
theorem dX12_again_90 : decode cX12_again 90 = .ok (.iadd, 1) := by decide +kernel
theorem dX12_again_91 : decode cX12_again 91 = .ok (.iconst 1, 1) := by decide +kernel
theorem dX12_again_92 : decode cX12_again 92 = .ok (.isub, 1) := by decide +kernel
theorem dX12_again_93 : decode cX12_again 93 = .ok (.iaload, 1) := by decide +kernel
theorem dX12_again_94 : decode cX12_again 94 = .ok (.if_icmp .lt 11, 3) := by decide +kernel
theorem dX12_again_97 : decode cX12_again 97 = .ok (.iload 4, 2) := by decide +kernel
theorem dX12_again_99 : decode cX12_again 99 = .ok (.ldc_w 368, 3) := by decide +kernel
theorem dX12_again_102 : decode cX12_again 102 = .ok (.if_icmp .le 7, 3) := by decide +kernel
theorem dX12_again_105 : decode cX12_again 105 = .ok (.iconst 1, 1) := by decide +kernel
theorem dX12_again_106 : decode cX12_again 106 = .ok (.goto 4, 3) := by decide +kernel
theorem dX12_again_109 : decode cX12_again 109 = .ok (.iconst 0, 1) := by decide +kernel
theorem dX12_again_110 : decode cX12_again 110 = .ok (.iconst 3, 1) := by decide +kernel
theorem dX12_again_111 : decode cX12_again 111 = .ok (.invokevirtual 195, 3) := by decide +kernel
theorem dX12_again_114 : decode cX12_again 114 = .ok (.ifCond .eq 5, 3) := by decide +kernel
theorem dX12_again_117 : decode cX12_again 117 = .ok (.iconst 0, 1) := by decide +kernel
theorem dX12_again_118 : decode cX12_again 118 = .ok (.ireturn, 1) := by decide +kernel
theorem dX12_again_119 : decode cX12_again 119 = .ok (.iconst 0, 1) := by decide +kernel
theorem dX12_again_120 : decode cX12_again 120 = .ok (.istore 7, 2) := by decide +kernel
theorem dX12_again_122 : decode cX12_again 122 = .ok (.aload_n 0, 1) := by decide +kernel
theorem dX12_again_123 : decode cX12_again 123 = .ok (.iload_n 1, 1) := by decide +kernel
theorem dX12_again_124 : decode cX12_again 124 = .ok (.iload_n 2, 1) := by decide +kernel
theorem dX12_again_125 : decode cX12_again 125 = .ok (.iconst 0, 1) := by decide +kernel
theorem dX12_again_126 : decode cX12_again 126 = .ok (.iload 4, 2) := by decide +kernel
theorem dX12_again_128 : decode cX12_again 128 = .ok (.invokevirtual 377, 3) := by decide +kernel
theorem dX12_again_131 : decode cX12_again 131 = .ok (.istore 8, 2) := by decide +kernel
theorem dX12_again_133 : decode cX12_again 133 = .ok (.iload 8, 2) := by decide +kernel
theorem dX12_again_135 : decode cX12_again 135 = .ok (.istore 9, 2) := by decide +kernel
theorem dX12_again_137 : decode cX12_again 137 = .ok (.iconst 1, 1) := by decide +kernel
theorem dX12_again_138 : decode cX12_again 138 = .ok (.istore 10, 2) := by decide +kernel
theorem dX12_again_140 : decode cX12_again 140 = .ok (.iload 10, 2) := by decide +kernel
theorem dX12_again_142 : decode cX12_again 142 = .ok (.iconst 1, 1) := by decide +kernel
theorem dX12_again_143 : decode cX12_again 143 = .ok (.iload 6, 2) := by decide +kernel
theorem dX12_again_145 : decode cX12_again 145 = .ok (.ishl, 1) := by decide +kernel
theorem dX12_again_146 : decode cX12_again 146 = .ok (.if_icmp .ge 71, 3) := by decide +kernel
theorem dX12_again_149 : decode cX12_again 149 = .ok (.iload 10, 2) := by decide +kernel
theorem dX12_again_151 : decode cX12_again 151 = .ok (.invokestatic 374, 3) := by decide +kernel
theorem dX12_again_154 : decode cX12_again 154 = .ok (.iload_n 3, 1) := by decide +kernel
theorem dX12_again_155 : decode cX12_again 155 = .ok (.if_icmp .le 6, 3) := by decide +kernel
theorem dX12_again_158 : decode cX12_again 158 = .ok (.goto 53, 3) := by decide +kernel
theorem dX12_again_161 : decode cX12_again 161 = .ok (.aload_n 0, 1) := by decide +kernel
theorem dX12_again_162 : decode cX12_again 162 = .ok (.iload_n 1, 1) := by decide +kernel
theorem dX12_again_163 : decode cX12_again 163 = .ok (.iload_n 2, 1) := by decide +kernel
theorem dX12_again_164 : decode cX12_again 164 = .ok (.iload 10, 2) := by decide +kernel
theorem dX12_again_166 : decode cX12_again 166 = .ok (.iload 4, 2) := by decide +kernel
theorem dX12_again_168 : decode cX12_again 168 = .ok (.invokevirtual 377, 3) := by decide +kernel
theorem dX12_again_171 : decode cX12_again 171 = .ok (.istore 11, 2) := by decide +kernel
theorem dX12_again_173 : decode cX12_again 173 = .ok (.iload 11, 2) := by decide +kernel
theorem dX12_again_175 : decode cX12_again 175 = .ok (.iload 8, 2) := by decide +kernel
theorem dX12_again_177 : decode cX12_again 177 = .ok (.if_icmp .lt 34, 3) := by decide +kernel
theorem dX12_again_180 : decode cX12_again 180 = .ok (.iload 11, 2) := by decide +kernel
theorem dX12_again_182 : decode cX12_again 182 = .ok (.iload 8, 2) := by decide +kernel
theorem dX12_again_184 : decode cX12_again 184 = .ok (.if_icmp .ne 19, 3) := by decide +kernel
theorem dX12_again_187 : decode cX12_again 187 = .ok (.iload 10, 2) := by decide +kernel
theorem dX12_again_189 : decode cX12_again 189 = .ok (.invokestatic 374, 3) := by decide +kernel
theorem dX12_again_192 : decode cX12_again 192 = .ok (.iload 7, 2) := by decide +kernel
theorem dX12_again_194 : decode cX12_again 194 = .ok (.invokestatic 374, 3) := by decide +kernel
theorem dX12_again_197 : decode cX12_again 197 = .ok (.if_icmp .lt 6, 3) := by decide +kernel
theorem dX12_again_200 : decode cX12_again 200 = .ok (.goto 11, 3) := by decide +kernel
theorem dX12_again_203 : decode cX12_again 203 = .ok (.iload 10, 2) := by decide +kernel
theorem dX12_again_205 : decode cX12_again 205 = .ok (.istore 7, 2) := by decide +kernel
theorem dX12_again_207 : decode cX12_again 207 = .ok (.iload 11, 2) := by decide +kernel
theorem dX12_again_209 : decode cX12_again 209 = .ok (.istore 8, 2) := by decide +kernel
theorem dX12_again_211 : decode cX12_again 211 = .ok (.iinc 10 1, 3) := by decide +kernel
theorem dX12_again_214 : decode cX12_again 214 = .ok (.goto (-74), 3) := by decide +kernel
theorem dX12_again_217 : decode cX12_again 217 = .ok (.iload 5, 2) := by decide +kernel
theorem dX12_again_219 : decode cX12_again 219 = .ok (.ifCond .eq 11, 3) := by decide +kernel
theorem dX12_again_222 : decode cX12_again 222 = .ok (.iload 8, 2) := by decide +kernel
theorem dX12_again_224 : decode cX12_again 224 = .ok (.iload 9, 2) := by decide +kernel
theorem dX12_again_226 : decode cX12_again 226 = .ok (.isub, 1) := by decide +kernel
theorem dX12_again_227 : decode cX12_again 227 = .ok (.goto 5, 3) := by decide +kernel
theorem dX12_again_230 : decode cX12_again 230 = .ok (.iload 7, 2) := by decide +kernel
theorem dX12_again_232 : decode cX12_again 232 = .ok (.ireturn, 1) := by decide +kernel
theorem dX12_houses_0 : decode cX12_houses 0 = .ok (.aload_n 0, 1) := by decide +kernel
theorem dX12_houses_1 : decode cX12_houses 1 = .ok (.iconst 0, 1) := by decide +kernel
theorem dX12_houses_2 : decode cX12_houses 2 = .ok (.putfield 3, 3) := by decide +kernel
theorem dX12_houses_5 : decode cX12_houses 5 = .ok (.aload_n 0, 1) := by decide +kernel
theorem dX12_houses_6 : decode cX12_houses 6 = .ok (.aload_n 0, 1) := by decide +kernel
theorem dX12_houses_7 : decode cX12_houses 7 = .ok (.iload_n 1, 1) := by decide +kernel
theorem dX12_houses_8 : decode cX12_houses 8 = .ok (.invokevirtual 295, 3) := by decide +kernel
theorem dX12_houses_11 : decode cX12_houses 11 = .ok (.iconst 1, 1) := by decide +kernel
theorem dX12_houses_12 : decode cX12_houses 12 = .ok (.invokevirtual 195, 3) := by decide +kernel
theorem dX12_houses_15 : decode cX12_houses 15 = .ok (.ifCond .ne 44, 3) := by decide +kernel
theorem dX12_houses_18 : decode cX12_houses 18 = .ok (.aload_n 0, 1) := by decide +kernel
theorem dX12_houses_19 : decode cX12_houses 19 = .ok (.iload_n 2, 1) := by decide +kernel
theorem dX12_houses_20 : decode cX12_houses 20 = .ok (.iconst 1, 1) := by decide +kernel
theorem dX12_houses_21 : decode cX12_houses 21 = .ok (.bipush 60, 2) := by decide +kernel
theorem dX12_houses_23 : decode cX12_houses 23 = .ok (.invokestatic 55, 3) := by decide +kernel
theorem dX12_houses_26 : decode cX12_houses 26 = .ok (.ifCond .eq 21, 3) := by decide +kernel
theorem dX12_houses_29 : decode cX12_houses 29 = .ok (.iload_n 3, 1) := by decide +kernel
theorem dX12_houses_30 : decode cX12_houses 30 = .ok (.invokestatic 260, 3) := by decide +kernel
theorem dX12_houses_33 : decode cX12_houses 33 = .ok (.ifCond .ne 14, 3) := by decide +kernel
theorem dX12_houses_36 : decode cX12_houses 36 = .ok (.iload 4, 2) := by decide +kernel
theorem dX12_houses_38 : decode cX12_houses 38 = .ok (.iconst 0, 1) := by decide +kernel
theorem dX12_houses_39 : decode cX12_houses 39 = .ok (.bipush 100, 2) := by decide +kernel
theorem dX12_houses_41 : decode cX12_houses 41 = .ok (.invokestatic 55, 3) := by decide +kernel
theorem dX12_houses_44 : decode cX12_houses 44 = .ok (.ifCond .ne 7, 3) := by decide +kernel
theorem dX12_houses_47 : decode cX12_houses 47 = .ok (.iconst 1, 1) := by decide +kernel
theorem dX12_houses_48 : decode cX12_houses 48 = .ok (.goto 4, 3) := by decide +kernel
theorem dX12_houses_51 : decode cX12_houses 51 = .ok (.iconst 0, 1) := by decide +kernel
theorem dX12_houses_52 : decode cX12_houses 52 = .ok (.iconst 2, 1) := by decide +kernel
theorem dX12_houses_53 : decode cX12_houses 53 = .ok (.invokevirtual 195, 3) := by decide +kernel
theorem dX12_houses_56 : decode cX12_houses 56 = .ok (.ifCond .eq 5, 3) := by decide +kernel
theorem dX12_houses_59 : decode cX12_houses 59 = .ok (.iconst 0, 1) := by decide +kernel
theorem dX12_houses_60 : decode cX12_houses 60 = .ok (.ireturn, 1) := by decide +kernel
theorem dX12_houses_61 : decode cX12_houses 61 = .ok (.iconst 1, 1) := by decide +kernel
theorem dX12_houses_62 : decode cX12_houses 62 = .ok (.istore 5, 2) := by decide +kernel
theorem dX12_houses_64 : decode cX12_houses 64 = .ok (.iload 5, 2) := by decide +kernel
theorem dX12_houses_66 : decode cX12_houses 66 = .ok (.bipush 20, 2) := by decide +kernel
theorem dX12_houses_68 : decode cX12_houses 68 = .ok (.if_icmp .gt 73, 3) := by decide +kernel
theorem dX12_houses_71 : decode cX12_houses 71 = .ok (.iconst 0, 1) := by decide +kernel
theorem dX12_houses_72 : decode cX12_houses 72 = .ok (.istore 6, 2) := by decide +kernel
theorem dX12_houses_74 : decode cX12_houses 74 = .ok (.iload 6, 2) := by decide +kernel
theorem dX12_houses_76 : decode cX12_houses 76 = .ok (.bipush 10, 2) := by decide +kernel
theorem dX12_houses_78 : decode cX12_houses 78 = .ok (.if_icmp .ge 17, 3) := by decide +kernel
theorem dX12_houses_81 : decode cX12_houses 81 = .ok (.aload_n 0, 1) := by decide +kernel
theorem dX12_houses_82 : decode cX12_houses 82 = .ok (.getfield 30, 3) := by decide +kernel
theorem dX12_houses_85 : decode cX12_houses 85 = .ok (.iload 6, 2) := by decide +kernel
theorem dX12_houses_87 : decode cX12_houses 87 = .ok (.iconst 0, 1) := by decide +kernel
theorem dX12_houses_88 : decode cX12_houses 88 = .ok (.iastore, 1) := by decide +kernel
theorem dX12_houses_89 : decode cX12_houses 89 = .ok (.iinc 6 1, 3) := by decide +kernel
theorem dX12_houses_92 : decode cX12_houses 92 = .ok (.goto (-18), 3) := by decide +kernel
theorem dX12_houses_95 : decode cX12_houses 95 = .ok (.aload_n 0, 1) := by decide +kernel
theorem dX12_houses_96 : decode cX12_houses 96 = .ok (.getfield 30, 3) := by decide +kernel
theorem dX12_houses_99 : decode cX12_houses 99 = .ok (.iconst 0, 1) := by decide +kernel
theorem dX12_houses_100 : decode cX12_houses 100 = .ok (.iload_n 3, 1) := by decide +kernel
theorem dX12_houses_101 : decode cX12_houses 101 = .ok (.iastore, 1) := by decide +kernel
theorem dX12_houses_102 : decode cX12_houses 102 = .ok (.aload_n 0, 1) := by decide +kernel
theorem dX12_houses_103 : decode cX12_houses 103 = .ok (.getfield 30, 3) := by decide +kernel
theorem dX12_houses_106 : decode cX12_houses 106 = .ok (.bipush 6, 2) := by decide +kernel
theorem dX12_houses_108 : decode cX12_houses 108 = .ok (.iconst 3, 1) := by decide +kernel
theorem dX12_houses_109 : decode cX12_houses 109 = .ok (.iastore, 1) := by decide +kernel
theorem dX12_houses_110 : decode cX12_houses 110 = .ok (.aload_n 0, 1) := by decide +kernel
theorem dX12_houses_111 : decode cX12_houses 111 = .ok (.getfield 30, 3) := by decide +kernel
theorem dX12_houses_114 : decode cX12_houses 114 = .ok (.iconst 2, 1) := by decide +kernel
theorem dX12_houses_115 : decode cX12_houses 115 = .ok (.iload_n 2, 1) := by decide +kernel
theorem dX12_houses_116 : decode cX12_houses 116 = .ok (.iconst 1, 1) := by decide +kernel
theorem dX12_houses_117 : decode cX12_houses 117 = .ok (.isub, 1) := by decide +kernel
theorem dX12_houses_118 : decode cX12_houses 118 = .ok (.iload 5, 2) := by decide +kernel
theorem dX12_houses_120 : decode cX12_houses 120 = .ok (.idiv, 1) := by decide +kernel
theorem dX12_houses_121 : decode cX12_houses 121 = .ok (.iastore, 1) := by decide +kernel
theorem dX12_houses_122 : decode cX12_houses 122 = .ok (.aload_n 0, 1) := by decide +kernel
theorem dX12_houses_123 : decode cX12_houses 123 = .ok (.iload_n 1, 1) := by decide +kernel
theorem dX12_houses_124 : decode cX12_houses 124 = .ok (.invokevirtual 292, 3) := by decide +kernel
theorem dX12_houses_127 : decode cX12_houses 127 = .ok (.iload 4, 2) := by decide +kernel
theorem dX12_houses_129 : decode cX12_houses 129 = .ok (.if_icmp .lt 6, 3) := by decide +kernel
theorem dX12_houses_132 : decode cX12_houses 132 = .ok (.iload 5, 2) := by decide +kernel
theorem dX12_houses_134 : decode cX12_houses 134 = .ok (.ireturn, 1) := by decide +kernel
theorem dX12_houses_135 : decode cX12_houses 135 = .ok (.iinc 5 1, 3) := by decide +kernel
theorem dX12_houses_138 : decode cX12_houses 138 = .ok (.goto (-74), 3) := by decide +kernel
theorem dX12_houses_141 : decode cX12_houses 141 = .ok (.iconst (-1), 1) := by decide +kernel
theorem dX12_houses_142 : decode cX12_houses 142 = .ok (.ireturn, 1) := by decide +kernel
theorem dX12_unlike_0 : decode cX12_unlike 0 = .ok (.aload_n 0, 1) := by decide +kernel
theorem dX12_unlike_1 : decode cX12_unlike 1 = .ok (.iconst 0, 1) := by decide +kernel
theorem dX12_unlike_2 : decode cX12_unlike 2 = .ok (.putfield 3, 3) := by decide +kernel
theorem dX12_unlike_5 : decode cX12_unlike 5 = .ok (.iconst 0, 1) := by decide +kernel
theorem dX12_unlike_6 : decode cX12_unlike 6 = .ok (.istore_n 3, 1) := by decide +kernel
theorem dX12_unlike_7 : decode cX12_unlike 7 = .ok (.iconst 0, 1) := by decide +kernel
theorem dX12_unlike_8 : decode cX12_unlike 8 = .ok (.istore 4, 2) := by decide +kernel
theorem dX12_unlike_10 : decode cX12_unlike 10 = .ok (.iconst 0, 1) := by decide +kernel
theorem dX12_unlike_11 : decode cX12_unlike 11 = .ok (.istore 5, 2) := by decide +kernel
theorem dX12_unlike_13 : decode cX12_unlike 13 = .ok (.iload 5, 2) := by decide +kernel
theorem dX12_unlike_15 : decode cX12_unlike 15 = .ok (.bipush 10, 2) := by decide +kernel
theorem dX12_unlike_17 : decode cX12_unlike 17 = .ok (.if_icmp .ge 112, 3) := by decide +kernel
theorem dX12_unlike_20 : decode cX12_unlike 20 = .ok (.iconst 0, 1) := by decide +kernel
theorem dX12_unlike_21 : decode cX12_unlike 21 = .ok (.istore 6, 2) := by decide +kernel
theorem dX12_unlike_23 : decode cX12_unlike 23 = .ok (.iconst 0, 1) := by decide +kernel
theorem dX12_unlike_24 : decode cX12_unlike 24 = .ok (.istore 7, 2) := by decide +kernel
theorem dX12_unlike_26 : decode cX12_unlike 26 = .ok (.iload 7, 2) := by decide +kernel
theorem dX12_unlike_28 : decode cX12_unlike 28 = .ok (.aload_n 0, 1) := by decide +kernel
theorem dX12_unlike_29 : decode cX12_unlike 29 = .ok (.getfield 13, 3) := by decide +kernel
theorem dX12_unlike_32 : decode cX12_unlike 32 = .ok (.iconst 0, 1) := by decide +kernel
theorem dX12_unlike_33 : decode cX12_unlike 33 = .ok (.iaload, 1) := by decide +kernel
theorem dX12_unlike_34 : decode cX12_unlike 34 = .ok (.if_icmp .ge 62, 3) := by decide +kernel
theorem dX12_unlike_37 : decode cX12_unlike 37 = .ok (.iconst 0, 1) := by decide +kernel
theorem dX12_unlike_38 : decode cX12_unlike 38 = .ok (.istore 8, 2) := by decide +kernel
theorem dX12_unlike_40 : decode cX12_unlike 40 = .ok (.iload 8, 2) := by decide +kernel
theorem dX12_unlike_42 : decode cX12_unlike 42 = .ok (.aload_n 0, 1) := by decide +kernel
theorem dX12_unlike_43 : decode cX12_unlike 43 = .ok (.iload 7, 2) := by decide +kernel
theorem dX12_unlike_45 : decode cX12_unlike 45 = .ok (.invokevirtual 229, 3) := by decide +kernel
theorem dX12_unlike_48 : decode cX12_unlike 48 = .ok (.if_icmp .ge 42, 3) := by decide +kernel
theorem dX12_unlike_51 : decode cX12_unlike 51 = .ok (.iload_n 1, 1) := by decide +kernel
theorem dX12_unlike_52 : decode cX12_unlike 52 = .ok (.iload 7, 2) := by decide +kernel
theorem dX12_unlike_54 : decode cX12_unlike 54 = .ok (.ishr, 1) := by decide +kernel
theorem dX12_unlike_55 : decode cX12_unlike 55 = .ok (.iconst 1, 1) := by decide +kernel
theorem dX12_unlike_56 : decode cX12_unlike 56 = .ok (.iand, 1) := by decide +kernel
theorem dX12_unlike_57 : decode cX12_unlike 57 = .ok (.iconst 1, 1) := by decide +kernel
theorem dX12_unlike_58 : decode cX12_unlike 58 = .ok (.if_icmp .ne 32, 3) := by decide +kernel
theorem dX12_unlike_61 : decode cX12_unlike 61 = .ok (.iload 6, 2) := by decide +kernel
theorem dX12_unlike_63 : decode cX12_unlike 63 = .ok (.aload_n 0, 1) := by decide +kernel
theorem dX12_unlike_64 : decode cX12_unlike 64 = .ok (.iload 7, 2) := by decide +kernel
theorem dX12_unlike_66 : decode cX12_unlike 66 = .ok (.iload 8, 2) := by decide +kernel
theorem dX12_unlike_68 : decode cX12_unlike 68 = .ok (.invokevirtual 271, 3) := by decide +kernel
theorem dX12_unlike_71 : decode cX12_unlike 71 = .ok (.iload 5, 2) := by decide +kernel
theorem dX12_unlike_73 : decode cX12_unlike 73 = .ok (.if_icmp .ne 7, 3) := by decide +kernel
theorem dX12_unlike_76 : decode cX12_unlike 76 = .ok (.iconst 1, 1) := by decide +kernel
theorem dX12_unlike_77 : decode cX12_unlike 77 = .ok (.goto 4, 3) := by decide +kernel
theorem dX12_unlike_80 : decode cX12_unlike 80 = .ok (.iconst 0, 1) := by decide +kernel
theorem dX12_unlike_81 : decode cX12_unlike 81 = .ok (.iadd, 1) := by decide +kernel
theorem dX12_unlike_82 : decode cX12_unlike 82 = .ok (.istore 6, 2) := by decide +kernel
theorem dX12_unlike_84 : decode cX12_unlike 84 = .ok (.iinc 8 1, 3) := by decide +kernel
theorem dX12_unlike_87 : decode cX12_unlike 87 = .ok (.goto (-47), 3) := by decide +kernel
theorem dX12_unlike_90 : decode cX12_unlike 90 = .ok (.iinc 7 1, 3) := by decide +kernel
theorem dX12_unlike_93 : decode cX12_unlike 93 = .ok (.goto (-67), 3) := by decide +kernel
theorem dX12_unlike_96 : decode cX12_unlike 96 = .ok (.iload_n 3, 1) := by decide +kernel
theorem dX12_unlike_97 : decode cX12_unlike 97 = .ok (.iload 6, 2) := by decide +kernel
theorem dX12_unlike_99 : decode cX12_unlike 99 = .ok (.ifCond .le 7, 3) := by decide +kernel
theorem dX12_unlike_102 : decode cX12_unlike 102 = .ok (.iconst 1, 1) := by decide +kernel
theorem dX12_unlike_103 : decode cX12_unlike 103 = .ok (.goto 4, 3) := by decide +kernel
theorem dX12_unlike_106 : decode cX12_unlike 106 = .ok (.iconst 0, 1) := by decide +kernel
theorem dX12_unlike_107 : decode cX12_unlike 107 = .ok (.iadd, 1) := by decide +kernel
theorem dX12_unlike_108 : decode cX12_unlike 108 = .ok (.istore_n 3, 1) := by decide +kernel
theorem dX12_unlike_109 : decode cX12_unlike 109 = .ok (.iload 4, 2) := by decide +kernel
theorem dX12_unlike_111 : decode cX12_unlike 111 = .ok (.iload 6, 2) := by decide +kernel
theorem dX12_unlike_113 : decode cX12_unlike 113 = .ok (.iload 6, 2) := by decide +kernel
theorem dX12_unlike_115 : decode cX12_unlike 115 = .ok (.iconst 1, 1) := by decide +kernel
theorem dX12_unlike_116 : decode cX12_unlike 116 = .ok (.isub, 1) := by decide +kernel
theorem dX12_unlike_117 : decode cX12_unlike 117 = .ok (.imul, 1) := by decide +kernel
theorem dX12_unlike_118 : decode cX12_unlike 118 = .ok (.iconst 2, 1) := by decide +kernel
theorem dX12_unlike_119 : decode cX12_unlike 119 = .ok (.idiv, 1) := by decide +kernel
theorem dX12_unlike_120 : decode cX12_unlike 120 = .ok (.iadd, 1) := by decide +kernel
theorem dX12_unlike_121 : decode cX12_unlike 121 = .ok (.istore 4, 2) := by decide +kernel
theorem dX12_unlike_123 : decode cX12_unlike 123 = .ok (.iinc 5 1, 3) := by decide +kernel
theorem dX12_unlike_126 : decode cX12_unlike 126 = .ok (.goto (-113), 3) := by decide +kernel
theorem dX12_unlike_129 : decode cX12_unlike 129 = .ok (.iload_n 2, 1) := by decide +kernel
theorem dX12_unlike_130 : decode cX12_unlike 130 = .ok (.ifCond .eq 8, 3) := by decide +kernel
theorem dX12_unlike_133 : decode cX12_unlike 133 = .ok (.iload 4, 2) := by decide +kernel
theorem dX12_unlike_135 : decode cX12_unlike 135 = .ok (.goto 4, 3) := by decide +kernel
theorem dX12_unlike_138 : decode cX12_unlike 138 = .ok (.iload_n 3, 1) := by decide +kernel
theorem dX12_unlike_139 : decode cX12_unlike 139 = .ok (.ireturn, 1) := by decide +kernel
theorem dX12_awaitedAt_0 : decode cX12_awaitedAt 0 = .ok (.aload_n 0, 1) := by decide +kernel
theorem dX12_awaitedAt_1 : decode cX12_awaitedAt 1 = .ok (.iload_n 2, 1) := by decide +kernel
theorem dX12_awaitedAt_2 : decode cX12_awaitedAt 2 = .ok (.iconst 2, 1) := by decide +kernel
theorem dX12_awaitedAt_3 : decode cX12_awaitedAt 3 = .ok (.invokevirtual 235, 3) := by decide +kernel
theorem dX12_awaitedAt_6 : decode cX12_awaitedAt 6 = .ok (.iload 4, 2) := by decide +kernel
theorem dX12_awaitedAt_8 : decode cX12_awaitedAt 8 = .ok (.invokestatic 238, 3) := by decide +kernel
theorem dX12_awaitedAt_11 : decode cX12_awaitedAt 11 = .ok (.aload_n 0, 1) := by decide +kernel
theorem dX12_awaitedAt_12 : decode cX12_awaitedAt 12 = .ok (.iload_n 3, 1) := by decide +kernel
theorem dX12_awaitedAt_13 : decode cX12_awaitedAt 13 = .ok (.invokevirtual 229, 3) := by decide +kernel
theorem dX12_awaitedAt_16 : decode cX12_awaitedAt 16 = .ok (.if_icmp .le 5, 3) := by decide +kernel
theorem dX12_awaitedAt_19 : decode cX12_awaitedAt 19 = .ok (.iconst (-1), 1) := by decide +kernel
theorem dX12_awaitedAt_20 : decode cX12_awaitedAt 20 = .ok (.ireturn, 1) := by decide +kernel
theorem dX12_awaitedAt_21 : decode cX12_awaitedAt 21 = .ok (.iconst 0, 1) := by decide +kernel
theorem dX12_awaitedAt_22 : decode cX12_awaitedAt 22 = .ok (.istore 6, 2) := by decide +kernel
theorem dX12_awaitedAt_24 : decode cX12_awaitedAt 24 = .ok (.iconst 0, 1) := by decide +kernel
theorem dX12_awaitedAt_25 : decode cX12_awaitedAt 25 = .ok (.istore 7, 2) := by decide +kernel
theorem dX12_awaitedAt_27 : decode cX12_awaitedAt 27 = .ok (.iload 7, 2) := by decide +kernel
theorem dX12_awaitedAt_29 : decode cX12_awaitedAt 29 = .ok (.aload_n 0, 1) := by decide +kernel
theorem dX12_awaitedAt_30 : decode cX12_awaitedAt 30 = .ok (.iload_n 2, 1) := by decide +kernel
theorem dX12_awaitedAt_31 : decode cX12_awaitedAt 31 = .ok (.iconst 2, 1) := by decide +kernel
theorem dX12_awaitedAt_32 : decode cX12_awaitedAt 32 = .ok (.invokevirtual 235, 3) := by decide +kernel
theorem dX12_awaitedAt_35 : decode cX12_awaitedAt 35 = .ok (.if_icmp .ge 37, 3) := by decide +kernel
theorem dX12_awaitedAt_38 : decode cX12_awaitedAt 38 = .ok (.aload_n 0, 1) := by decide +kernel
theorem dX12_awaitedAt_39 : decode cX12_awaitedAt 39 = .ok (.iload_n 2, 1) := by decide +kernel
theorem dX12_awaitedAt_40 : decode cX12_awaitedAt 40 = .ok (.iload 7, 2) := by decide +kernel
theorem dX12_awaitedAt_42 : decode cX12_awaitedAt 42 = .ok (.iload_n 3, 1) := by decide +kernel
theorem dX12_awaitedAt_43 : decode cX12_awaitedAt 43 = .ok (.iconst 0, 1) := by decide +kernel
theorem dX12_awaitedAt_44 : decode cX12_awaitedAt 44 = .ok (.iload 4, 2) := by decide +kernel
theorem dX12_awaitedAt_46 : decode cX12_awaitedAt 46 = .ok (.iload 5, 2) := by decide +kernel
theorem dX12_awaitedAt_48 : decode cX12_awaitedAt 48 = .ok (.iconst 0, 1) := by decide +kernel
theorem dX12_awaitedAt_49 : decode cX12_awaitedAt 49 = .ok (.iconst 0, 1) := by decide +kernel
theorem dX12_awaitedAt_50 : decode cX12_awaitedAt 50 = .ok (.sipush 1000, 3) := by decide +kernel
theorem dX12_awaitedAt_53 : decode cX12_awaitedAt 53 = .ok (.invokevirtual 281, 3) := by decide +kernel
theorem dX12_awaitedAt_56 : decode cX12_awaitedAt 56 = .ok (.iload 6, 2) := by decide +kernel
theorem dX12_awaitedAt_58 : decode cX12_awaitedAt 58 = .ok (.aload_n 0, 1) := by decide +kernel
theorem dX12_awaitedAt_59 : decode cX12_awaitedAt 59 = .ok (.iload_n 1, 1) := by decide +kernel
theorem dX12_awaitedAt_60 : decode cX12_awaitedAt 60 = .ok (.invokevirtual 292, 3) := by decide +kernel
theorem dX12_awaitedAt_63 : decode cX12_awaitedAt 63 = .ok (.iadd, 1) := by decide +kernel
theorem dX12_awaitedAt_64 : decode cX12_awaitedAt 64 = .ok (.istore 6, 2) := by decide +kernel
theorem dX12_awaitedAt_66 : decode cX12_awaitedAt 66 = .ok (.iinc 7 1, 3) := by decide +kernel
theorem dX12_awaitedAt_69 : decode cX12_awaitedAt 69 = .ok (.goto (-42), 3) := by decide +kernel
theorem dX12_awaitedAt_72 : decode cX12_awaitedAt 72 = .ok (.iload 6, 2) := by decide +kernel
theorem dX12_awaitedAt_74 : decode cX12_awaitedAt 74 = .ok (.ireturn, 1) := by decide +kernel
theorem dX12_per_0 : decode cX12_per 0 = .ok (.aload_n 0, 1) := by decide +kernel
theorem dX12_per_1 : decode cX12_per 1 = .ok (.iconst 0, 1) := by decide +kernel
theorem dX12_per_2 : decode cX12_per 2 = .ok (.putfield 3, 3) := by decide +kernel
theorem dX12_per_5 : decode cX12_per 5 = .ok (.aload_n 0, 1) := by decide +kernel
theorem dX12_per_6 : decode cX12_per 6 = .ok (.aload_n 0, 1) := by decide +kernel
theorem dX12_per_7 : decode cX12_per 7 = .ok (.iload_n 1, 1) := by decide +kernel
theorem dX12_per_8 : decode cX12_per 8 = .ok (.invokevirtual 295, 3) := by decide +kernel
theorem dX12_per_11 : decode cX12_per 11 = .ok (.ifCond .ne 20, 3) := by decide +kernel
theorem dX12_per_14 : decode cX12_per 14 = .ok (.aload_n 0, 1) := by decide +kernel
theorem dX12_per_15 : decode cX12_per 15 = .ok (.iload_n 2, 1) := by decide +kernel
theorem dX12_per_16 : decode cX12_per 16 = .ok (.invokevirtual 241, 3) := by decide +kernel
theorem dX12_per_19 : decode cX12_per 19 = .ok (.ifCond .ne 12, 3) := by decide +kernel
theorem dX12_per_22 : decode cX12_per 22 = .ok (.aload_n 0, 1) := by decide +kernel
theorem dX12_per_23 : decode cX12_per 23 = .ok (.iload_n 3, 1) := by decide +kernel
theorem dX12_per_24 : decode cX12_per 24 = .ok (.iconst 0, 1) := by decide +kernel
theorem dX12_per_25 : decode cX12_per 25 = .ok (.invokevirtual 226, 3) := by decide +kernel
theorem dX12_per_28 : decode cX12_per 28 = .ok (.ifCond .eq 7, 3) := by decide +kernel
theorem dX12_per_31 : decode cX12_per 31 = .ok (.iconst 1, 1) := by decide +kernel
theorem dX12_per_32 : decode cX12_per 32 = .ok (.goto 4, 3) := by decide +kernel
theorem dX12_per_35 : decode cX12_per 35 = .ok (.iconst 0, 1) := by decide +kernel
theorem dX12_per_36 : decode cX12_per 36 = .ok (.iconst 1, 1) := by decide +kernel
theorem dX12_per_37 : decode cX12_per 37 = .ok (.invokevirtual 195, 3) := by decide +kernel
theorem dX12_per_40 : decode cX12_per 40 = .ok (.ifCond .ne 28, 3) := by decide +kernel
theorem dX12_per_43 : decode cX12_per 43 = .ok (.aload_n 0, 1) := by decide +kernel
theorem dX12_per_44 : decode cX12_per 44 = .ok (.iload 4, 2) := by decide +kernel
theorem dX12_per_46 : decode cX12_per 46 = .ok (.iconst 1, 1) := by decide +kernel
theorem dX12_per_47 : decode cX12_per 47 = .ok (.sipush 9999, 3) := by decide +kernel
theorem dX12_per_50 : decode cX12_per 50 = .ok (.invokestatic 55, 3) := by decide +kernel
theorem dX12_per_53 : decode cX12_per 53 = .ok (.ifCond .ne 7, 3) := by decide +kernel
theorem dX12_per_56 : decode cX12_per 56 = .ok (.iconst 1, 1) := by decide +kernel
theorem dX12_per_57 : decode cX12_per 57 = .ok (.goto 4, 3) := by decide +kernel
theorem dX12_per_60 : decode cX12_per 60 = .ok (.iconst 0, 1) := by decide +kernel
theorem dX12_per_61 : decode cX12_per 61 = .ok (.iconst 2, 1) := by decide +kernel
theorem dX12_per_62 : decode cX12_per 62 = .ok (.invokevirtual 195, 3) := by decide +kernel
theorem dX12_per_65 : decode cX12_per 65 = .ok (.ifCond .eq 5, 3) := by decide +kernel
theorem dX12_per_68 : decode cX12_per 68 = .ok (.iconst 0, 1) := by decide +kernel
theorem dX12_per_69 : decode cX12_per 69 = .ok (.ireturn, 1) := by decide +kernel
theorem dX12_per_70 : decode cX12_per 70 = .ok (.iconst (-1), 1) := by decide +kernel
theorem dX12_per_71 : decode cX12_per 71 = .ok (.istore 6, 2) := by decide +kernel
theorem dX12_per_73 : decode cX12_per 73 = .ok (.iconst (-1), 1) := by decide +kernel
theorem dX12_per_74 : decode cX12_per 74 = .ok (.istore 7, 2) := by decide +kernel
theorem dX12_per_76 : decode cX12_per 76 = .ok (.iconst 1, 1) := by decide +kernel
theorem dX12_per_77 : decode cX12_per 77 = .ok (.istore 8, 2) := by decide +kernel
theorem dX12_per_79 : decode cX12_per 79 = .ok (.iload 8, 2) := by decide +kernel
theorem dX12_per_81 : decode cX12_per 81 = .ok (.iconst 3, 1) := by decide +kernel
theorem dX12_per_82 : decode cX12_per 82 = .ok (.if_icmp .gt 71, 3) := by decide +kernel
theorem dX12_per_85 : decode cX12_per 85 = .ok (.bipush 60, 2) := by decide +kernel
theorem dX12_per_87 : decode cX12_per 87 = .ok (.iload 4, 2) := by decide +kernel
theorem dX12_per_89 : decode cX12_per 89 = .ok (.aload_n 0, 1) := by decide +kernel
theorem dX12_per_90 : decode cX12_per 90 = .ok (.iload_n 2, 1) := by decide +kernel
theorem dX12_per_91 : decode cX12_per 91 = .ok (.iconst 2, 1) := by decide +kernel
theorem dX12_per_92 : decode cX12_per 92 = .ok (.invokevirtual 235, 3) := by decide +kernel
theorem dX12_per_95 : decode cX12_per 95 = .ok (.iload 8, 2) := by decide +kernel
theorem dX12_per_97 : decode cX12_per 97 = .ok (.invokestatic 238, 3) := by decide +kernel
theorem dX12_per_100 : decode cX12_per 100 = .ok (.idiv, 1) := by decide +kernel
theorem dX12_per_101 : decode cX12_per 101 = .ok (.invokestatic 209, 3) := by decide +kernel
theorem dX12_per_104 : decode cX12_per 104 = .ok (.istore 9, 2) := by decide +kernel
theorem dX12_per_106 : decode cX12_per 106 = .ok (.iload 9, 2) := by decide +kernel
theorem dX12_per_108 : decode cX12_per 108 = .ok (.iconst 1, 1) := by decide +kernel
theorem dX12_per_109 : decode cX12_per 109 = .ok (.if_icmp .ge 7, 3) := by decide +kernel
theorem dX12_per_112 : decode cX12_per 112 = .ok (.iconst (-1), 1) := by decide +kernel
theorem dX12_per_113 : decode cX12_per 113 = .ok (.goto 14, 3) := by decide +kernel
theorem dX12_per_116 : decode cX12_per 116 = .ok (.aload_n 0, 1) := by decide +kernel
theorem dX12_per_117 : decode cX12_per 117 = .ok (.iload_n 1, 1) := by decide +kernel
theorem dX12_per_118 : decode cX12_per 118 = .ok (.iload_n 2, 1) := by decide +kernel
theorem dX12_per_119 : decode cX12_per 119 = .ok (.iload_n 3, 1) := by decide +kernel
theorem dX12_per_120 : decode cX12_per 120 = .ok (.iload 8, 2) := by decide +kernel
theorem dX12_per_122 : decode cX12_per 122 = .ok (.iload 9, 2) := by decide +kernel
theorem dX12_per_124 : decode cX12_per 124 = .ok (.invokevirtual 380, 3) := by decide +kernel
theorem dX12_per_127 : decode cX12_per 127 = .ok (.istore 10, 2) := by decide +kernel
theorem dX12_per_129 : decode cX12_per 129 = .ok (.iload 10, 2) := by decide +kernel
theorem dX12_per_131 : decode cX12_per 131 = .ok (.iload 7, 2) := by decide +kernel
theorem dX12_per_133 : decode cX12_per 133 = .ok (.if_icmp .gt 6, 3) := by decide +kernel
theorem dX12_per_136 : decode cX12_per 136 = .ok (.goto 11, 3) := by decide +kernel
theorem dX12_per_139 : decode cX12_per 139 = .ok (.iload 8, 2) := by decide +kernel
theorem dX12_per_141 : decode cX12_per 141 = .ok (.istore 6, 2) := by decide +kernel
theorem dX12_per_143 : decode cX12_per 143 = .ok (.iload 10, 2) := by decide +kernel
theorem dX12_per_145 : decode cX12_per 145 = .ok (.istore 7, 2) := by decide +kernel
theorem dX12_per_147 : decode cX12_per 147 = .ok (.iinc 8 1, 3) := by decide +kernel
theorem dX12_per_150 : decode cX12_per 150 = .ok (.goto (-71), 3) := by decide +kernel
theorem dX12_per_153 : decode cX12_per 153 = .ok (.iload 5, 2) := by decide +kernel
theorem dX12_per_155 : decode cX12_per 155 = .ok (.ifCond .eq 8, 3) := by decide +kernel
theorem dX12_per_158 : decode cX12_per 158 = .ok (.iload 7, 2) := by decide +kernel
theorem dX12_per_160 : decode cX12_per 160 = .ok (.goto 5, 3) := by decide +kernel
theorem dX12_per_163 : decode cX12_per 163 = .ok (.iload 6, 2) := by decide +kernel
theorem dX12_per_165 : decode cX12_per 165 = .ok (.ireturn, 1) := by decide +kernel
theorem dX12_plan_0 : decode cX12_plan 0 = .ok (.aload_n 0, 1) := by decide +kernel
theorem dX12_plan_1 : decode cX12_plan 1 = .ok (.iconst 0, 1) := by decide +kernel
theorem dX12_plan_2 : decode cX12_plan 2 = .ok (.putfield 3, 3) := by decide +kernel
theorem dX12_plan_5 : decode cX12_plan 5 = .ok (.aload_n 0, 1) := by decide +kernel
theorem dX12_plan_6 : decode cX12_plan 6 = .ok (.aload_n 0, 1) := by decide +kernel
theorem dX12_plan_7 : decode cX12_plan 7 = .ok (.iload_n 1, 1) := by decide +kernel
theorem dX12_plan_8 : decode cX12_plan 8 = .ok (.invokevirtual 295, 3) := by decide +kernel
theorem dX12_plan_11 : decode cX12_plan 11 = .ok (.ifCond .ne 18, 3) := by decide +kernel
theorem dX12_plan_14 : decode cX12_plan 14 = .ok (.iload 5, 2) := by decide +kernel
theorem dX12_plan_16 : decode cX12_plan 16 = .ok (.iconst (-1), 1) := by decide +kernel
theorem dX12_plan_17 : decode cX12_plan 17 = .ok (.if_icmp .eq 16, 3) := by decide +kernel
theorem dX12_plan_20 : decode cX12_plan 20 = .ok (.aload_n 0, 1) := by decide +kernel
theorem dX12_plan_21 : decode cX12_plan 21 = .ok (.iload 5, 2) := by decide +kernel
theorem dX12_plan_23 : decode cX12_plan 23 = .ok (.invokevirtual 241, 3) := by decide +kernel
theorem dX12_plan_26 : decode cX12_plan 26 = .ok (.ifCond .eq 7, 3) := by decide +kernel
theorem dX12_plan_29 : decode cX12_plan 29 = .ok (.iconst 1, 1) := by decide +kernel
theorem dX12_plan_30 : decode cX12_plan 30 = .ok (.goto 4, 3) := by decide +kernel
theorem dX12_plan_33 : decode cX12_plan 33 = .ok (.iconst 0, 1) := by decide +kernel
theorem dX12_plan_34 : decode cX12_plan 34 = .ok (.iconst 1, 1) := by decide +kernel
theorem dX12_plan_35 : decode cX12_plan 35 = .ok (.invokevirtual 195, 3) := by decide +kernel
theorem dX12_plan_38 : decode cX12_plan 38 = .ok (.ifCond .eq 5, 3) := by decide +kernel
theorem dX12_plan_41 : decode cX12_plan 41 = .ok (.iconst 0, 1) := by decide +kernel
theorem dX12_plan_42 : decode cX12_plan 42 = .ok (.ireturn, 1) := by decide +kernel
theorem dX12_plan_43 : decode cX12_plan 43 = .ok (.iload_n 2, 1) := by decide +kernel
theorem dX12_plan_44 : decode cX12_plan 44 = .ok (.iconst 0, 1) := by decide +kernel
theorem dX12_plan_45 : decode cX12_plan 45 = .ok (.iconst 1, 1) := by decide +kernel
theorem dX12_plan_46 : decode cX12_plan 46 = .ok (.aload_n 0, 1) := by decide +kernel
theorem dX12_plan_47 : decode cX12_plan 47 = .ok (.getfield 13, 3) := by decide +kernel
theorem dX12_plan_50 : decode cX12_plan 50 = .ok (.iconst 1, 1) := by decide +kernel
theorem dX12_plan_51 : decode cX12_plan 51 = .ok (.iaload, 1) := by decide +kernel
theorem dX12_plan_52 : decode cX12_plan 52 = .ok (.ishl, 1) := by decide +kernel
theorem dX12_plan_53 : decode cX12_plan 53 = .ok (.iconst 1, 1) := by decide +kernel
theorem dX12_plan_54 : decode cX12_plan 54 = .ok (.isub, 1) := by decide +kernel
theorem dX12_plan_55 : decode cX12_plan 55 = .ok (.invokestatic 55, 3) := by decide +kernel
theorem dX12_plan_58 : decode cX12_plan 58 = .ok (.ifCond .eq 28, 3) := by decide +kernel
theorem dX12_plan_61 : decode cX12_plan 61 = .ok (.iload_n 2, 1) := by decide +kernel
theorem dX12_plan_62 : decode cX12_plan 62 = .ok (.invokestatic 374, 3) := by decide +kernel
theorem dX12_plan_65 : decode cX12_plan 65 = .ok (.iconst 5, 1) := by decide +kernel
theorem dX12_plan_66 : decode cX12_plan 66 = .ok (.if_icmp .gt 20, 3) := by decide +kernel
theorem dX12_plan_69 : decode cX12_plan 69 = .ok (.iload_n 3, 1) := by decide +kernel
theorem dX12_plan_70 : decode cX12_plan 70 = .ok (.iconst 1, 1) := by decide +kernel
theorem dX12_plan_71 : decode cX12_plan 71 = .ok (.iconst 3, 1) := by decide +kernel
theorem dX12_plan_72 : decode cX12_plan 72 = .ok (.invokestatic 55, 3) := by decide +kernel
theorem dX12_plan_75 : decode cX12_plan 75 = .ok (.ifCond .eq 11, 3) := by decide +kernel
theorem dX12_plan_78 : decode cX12_plan 78 = .ok (.iload 4, 2) := by decide +kernel
theorem dX12_plan_80 : decode cX12_plan 80 = .ok (.invokestatic 260, 3) := by decide +kernel
theorem dX12_plan_83 : decode cX12_plan 83 = .ok (.ifCond .eq 7, 3) := by decide +kernel
theorem dX12_plan_86 : decode cX12_plan 86 = .ok (.iconst 1, 1) := by decide +kernel
theorem dX12_plan_87 : decode cX12_plan 87 = .ok (.goto 4, 3) := by decide +kernel
theorem dX12_plan_90 : decode cX12_plan 90 = .ok (.iconst 0, 1) := by decide +kernel
theorem dX12_plan_91 : decode cX12_plan 91 = .ok (.istore 6, 2) := by decide +kernel
theorem dX12_plan_93 : decode cX12_plan 93 = .ok (.iconst 0, 1) := by decide +kernel
theorem dX12_plan_94 : decode cX12_plan 94 = .ok (.istore 7, 2) := by decide +kernel
theorem dX12_plan_96 : decode cX12_plan 96 = .ok (.iconst 0, 1) := by decide +kernel
theorem dX12_plan_97 : decode cX12_plan 97 = .ok (.istore 8, 2) := by decide +kernel
theorem dX12_plan_99 : decode cX12_plan 99 = .ok (.iload 8, 2) := by decide +kernel
theorem dX12_plan_101 : decode cX12_plan 101 = .ok (.aload_n 0, 1) := by decide +kernel
theorem dX12_plan_102 : decode cX12_plan 102 = .ok (.getfield 13, 3) := by decide +kernel
theorem dX12_plan_105 : decode cX12_plan 105 = .ok (.iconst 1, 1) := by decide +kernel
theorem dX12_plan_106 : decode cX12_plan 106 = .ok (.iaload, 1) := by decide +kernel
theorem dX12_plan_107 : decode cX12_plan 107 = .ok (.if_icmp .ge 91, 3) := by decide +kernel
theorem dX12_plan_110 : decode cX12_plan 110 = .ok (.iload 6, 2) := by decide +kernel
theorem dX12_plan_112 : decode cX12_plan 112 = .ok (.ifCond .ne 86, 3) := by decide +kernel
theorem dX12_plan_115 : decode cX12_plan 115 = .ok (.iload_n 2, 1) := by decide +kernel
theorem dX12_plan_116 : decode cX12_plan 116 = .ok (.iload 8, 2) := by decide +kernel
theorem dX12_plan_118 : decode cX12_plan 118 = .ok (.ishr, 1) := by decide +kernel
theorem dX12_plan_119 : decode cX12_plan 119 = .ok (.iconst 1, 1) := by decide +kernel
theorem dX12_plan_120 : decode cX12_plan 120 = .ok (.iand, 1) := by decide +kernel
theorem dX12_plan_121 : decode cX12_plan 121 = .ok (.ifCond .ne 6, 3) := by decide +kernel
theorem dX12_plan_124 : decode cX12_plan 124 = .ok (.goto 68, 3) := by decide +kernel
theorem dX12_plan_127 : decode cX12_plan 127 = .ok (.aload_n 0, 1) := by decide +kernel
theorem dX12_plan_128 : decode cX12_plan 128 = .ok (.iload 8, 2) := by decide +kernel
theorem dX12_plan_130 : decode cX12_plan 130 = .ok (.invokevirtual 257, 3) := by decide +kernel
theorem dX12_plan_133 : decode cX12_plan 133 = .ok (.istore 6, 2) := by decide +kernel
theorem dX12_plan_135 : decode cX12_plan 135 = .ok (.iconst 0, 1) := by decide +kernel
theorem dX12_plan_136 : decode cX12_plan 136 = .ok (.istore 9, 2) := by decide +kernel
theorem dX12_plan_138 : decode cX12_plan 138 = .ok (.iload 9, 2) := by decide +kernel
theorem dX12_plan_140 : decode cX12_plan 140 = .ok (.aload_n 0, 1) := by decide +kernel
theorem dX12_plan_141 : decode cX12_plan 141 = .ok (.getfield 13, 3) := by decide +kernel
theorem dX12_plan_144 : decode cX12_plan 144 = .ok (.iconst 0, 1) := by decide +kernel
theorem dX12_plan_145 : decode cX12_plan 145 = .ok (.iaload, 1) := by decide +kernel
theorem dX12_plan_146 : decode cX12_plan 146 = .ok (.if_icmp .ge 34, 3) := by decide +kernel
theorem dX12_plan_149 : decode cX12_plan 149 = .ok (.aload_n 0, 1) := by decide +kernel
theorem dX12_plan_150 : decode cX12_plan 150 = .ok (.getfield 48, 3) := by decide +kernel
theorem dX12_plan_153 : decode cX12_plan 153 = .ok (.bipush 6, 2) := by decide +kernel
theorem dX12_plan_155 : decode cX12_plan 155 = .ok (.iload 7, 2) := by decide +kernel
theorem dX12_plan_157 : decode cX12_plan 157 = .ok (.imul, 1) := by decide +kernel
theorem dX12_plan_158 : decode cX12_plan 158 = .ok (.iload 9, 2) := by decide +kernel
theorem dX12_plan_160 : decode cX12_plan 160 = .ok (.iadd, 1) := by decide +kernel
theorem dX12_plan_161 : decode cX12_plan 161 = .ok (.aload_n 0, 1) := by decide +kernel
theorem dX12_plan_162 : decode cX12_plan 162 = .ok (.iload_n 1, 1) := by decide +kernel
theorem dX12_plan_163 : decode cX12_plan 163 = .ok (.iload 8, 2) := by decide +kernel
theorem dX12_plan_165 : decode cX12_plan 165 = .ok (.iload 9, 2) := by decide +kernel
theorem dX12_plan_167 : decode cX12_plan 167 = .ok (.iload_n 3, 1) := by decide +kernel
theorem dX12_plan_168 : decode cX12_plan 168 = .ok (.iload 4, 2) := by decide +kernel
theorem dX12_plan_170 : decode cX12_plan 170 = .ok (.invokevirtual 380, 3) := by decide +kernel
theorem dX12_plan_173 : decode cX12_plan 173 = .ok (.iastore, 1) := by decide +kernel
theorem dX12_plan_174 : decode cX12_plan 174 = .ok (.iinc 9 1, 3) := by decide +kernel
theorem dX12_plan_177 : decode cX12_plan 177 = .ok (.goto (-39), 3) := by decide +kernel
theorem dX12_plan_180 : decode cX12_plan 180 = .ok (.aload_n 0, 1) := by decide +kernel
theorem dX12_plan_181 : decode cX12_plan 181 = .ok (.getfield 45, 3) := by decide +kernel
theorem dX12_plan_184 : decode cX12_plan 184 = .ok (.iload 7, 2) := by decide +kernel
theorem dX12_plan_186 : decode cX12_plan 186 = .ok (.iload 8, 2) := by decide +kernel
theorem dX12_plan_188 : decode cX12_plan 188 = .ok (.iastore, 1) := by decide +kernel
theorem dX12_plan_189 : decode cX12_plan 189 = .ok (.iinc 7 1, 3) := by decide +kernel
theorem dX12_plan_192 : decode cX12_plan 192 = .ok (.iinc 8 1, 3) := by decide +kernel
theorem dX12_plan_195 : decode cX12_plan 195 = .ok (.goto (-96), 3) := by decide +kernel
theorem dX12_plan_198 : decode cX12_plan 198 = .ok (.aload_n 0, 1) := by decide +kernel
theorem dX12_plan_199 : decode cX12_plan 199 = .ok (.iload 6, 2) := by decide +kernel
theorem dX12_plan_201 : decode cX12_plan 201 = .ok (.iconst 2, 1) := by decide +kernel
theorem dX12_plan_202 : decode cX12_plan 202 = .ok (.invokevirtual 195, 3) := by decide +kernel
theorem dX12_plan_205 : decode cX12_plan 205 = .ok (.ifCond .eq 5, 3) := by decide +kernel
theorem dX12_plan_208 : decode cX12_plan 208 = .ok (.iconst 0, 1) := by decide +kernel
theorem dX12_plan_209 : decode cX12_plan 209 = .ok (.ireturn, 1) := by decide +kernel
theorem dX12_plan_210 : decode cX12_plan 210 = .ok (.iconst 1, 1) := by decide +kernel
theorem dX12_plan_211 : decode cX12_plan 211 = .ok (.istore 8, 2) := by decide +kernel
theorem dX12_plan_213 : decode cX12_plan 213 = .ok (.iconst 0, 1) := by decide +kernel
theorem dX12_plan_214 : decode cX12_plan 214 = .ok (.istore 9, 2) := by decide +kernel
theorem dX12_plan_216 : decode cX12_plan 216 = .ok (.iload 9, 2) := by decide +kernel
theorem dX12_plan_218 : decode cX12_plan 218 = .ok (.iload 7, 2) := by decide +kernel
theorem dX12_plan_220 : decode cX12_plan 220 = .ok (.if_icmp .ge 20, 3) := by decide +kernel
theorem dX12_plan_223 : decode cX12_plan 223 = .ok (.iload 8, 2) := by decide +kernel
theorem dX12_plan_225 : decode cX12_plan 225 = .ok (.aload_n 0, 1) := by decide +kernel
theorem dX12_plan_226 : decode cX12_plan 226 = .ok (.getfield 13, 3) := by decide +kernel
theorem dX12_plan_229 : decode cX12_plan 229 = .ok (.iconst 0, 1) := by decide +kernel
theorem dX12_plan_230 : decode cX12_plan 230 = .ok (.iaload, 1) := by decide +kernel
theorem dX12_plan_231 : decode cX12_plan 231 = .ok (.imul, 1) := by decide +kernel
theorem dX12_plan_232 : decode cX12_plan 232 = .ok (.istore 8, 2) := by decide +kernel
theorem dX12_plan_234 : decode cX12_plan 234 = .ok (.iinc 9 1, 3) := by decide +kernel
theorem dX12_plan_237 : decode cX12_plan 237 = .ok (.goto (-21), 3) := by decide +kernel
theorem dX12_plan_240 : decode cX12_plan 240 = .ok (.iconst (-1), 1) := by decide +kernel
theorem dX12_plan_241 : decode cX12_plan 241 = .ok (.istore 9, 2) := by decide +kernel
theorem dX12_plan_243 : decode cX12_plan 243 = .ok (.iconst (-1), 1) := by decide +kernel
theorem dX12_plan_244 : decode cX12_plan 244 = .ok (.istore 10, 2) := by decide +kernel
theorem dX12_plan_246 : decode cX12_plan 246 = .ok (.iconst 0, 1) := by decide +kernel
theorem dX12_plan_247 : decode cX12_plan 247 = .ok (.istore 11, 2) := by decide +kernel
theorem dX12_plan_249 : decode cX12_plan 249 = .ok (.iload 11, 2) := by decide +kernel
theorem dX12_plan_251 : decode cX12_plan 251 = .ok (.iload 8, 2) := by decide +kernel
theorem dX12_plan_253 : decode cX12_plan 253 = .ok (.if_icmp .ge 149, 3) := by decide +kernel
theorem dX12_plan_256 : decode cX12_plan 256 = .ok (.iconst 0, 1) := by decide +kernel
theorem dX12_plan_257 : decode cX12_plan 257 = .ok (.istore 12, 2) := by decide +kernel
theorem dX12_plan_259 : decode cX12_plan 259 = .ok (.iconst 0, 1) := by decide +kernel
theorem dX12_plan_260 : decode cX12_plan 260 = .ok (.istore 13, 2) := by decide +kernel
theorem dX12_plan_262 : decode cX12_plan 262 = .ok (.iload 11, 2) := by decide +kernel
theorem dX12_plan_264 : decode cX12_plan 264 = .ok (.istore 14, 2) := by decide +kernel
theorem dX12_plan_266 : decode cX12_plan 266 = .ok (.iconst 1, 1) := by decide +kernel
theorem dX12_plan_267 : decode cX12_plan 267 = .ok (.istore 15, 2) := by decide +kernel
theorem dX12_plan_269 : decode cX12_plan 269 = .ok (.iload 7, 2) := by decide +kernel
theorem dX12_plan_271 : decode cX12_plan 271 = .ok (.iconst 1, 1) := by decide +kernel
theorem dX12_plan_272 : decode cX12_plan 272 = .ok (.isub, 1) := by decide +kernel
theorem dX12_plan_273 : decode cX12_plan 273 = .ok (.istore 16, 2) := by decide +kernel
theorem dX12_plan_275 : decode cX12_plan 275 = .ok (.iload 16, 2) := by decide +kernel
theorem dX12_plan_277 : decode cX12_plan 277 = .ok (.ifCond .lt 96, 3) := by decide +kernel
theorem dX12_plan_280 : decode cX12_plan 280 = .ok (.iload 14, 2) := by decide +kernel
theorem dX12_plan_282 : decode cX12_plan 282 = .ok (.aload_n 0, 1) := by decide +kernel
theorem dX12_plan_283 : decode cX12_plan 283 = .ok (.getfield 13, 3) := by decide +kernel
theorem dX12_plan_286 : decode cX12_plan 286 = .ok (.iconst 0, 1) := by decide +kernel
theorem dX12_plan_287 : decode cX12_plan 287 = .ok (.iaload, 1) := by decide +kernel
theorem dX12_plan_288 : decode cX12_plan 288 = .ok (.irem, 1) := by decide +kernel
theorem dX12_plan_289 : decode cX12_plan 289 = .ok (.istore 17, 2) := by decide +kernel
theorem dX12_plan_291 : decode cX12_plan 291 = .ok (.iload 14, 2) := by decide +kernel
theorem dX12_plan_293 : decode cX12_plan 293 = .ok (.aload_n 0, 1) := by decide +kernel
theorem dX12_plan_294 : decode cX12_plan 294 = .ok (.getfield 13, 3) := by decide +kernel
theorem dX12_plan_297 : decode cX12_plan 297 = .ok (.iconst 0, 1) := by decide +kernel
theorem dX12_plan_298 : decode cX12_plan 298 = .ok (.iaload, 1) := by decide +kernel
theorem dX12_plan_299 : decode cX12_plan 299 = .ok (.idiv, 1) := by decide +kernel
theorem dX12_plan_300 : decode cX12_plan 300 = .ok (.istore 14, 2) := by decide +kernel
theorem dX12_plan_302 : decode cX12_plan 302 = .ok (.iload 15, 2) := by decide +kernel
theorem dX12_plan_304 : decode cX12_plan 304 = .ok (.ifCond .eq 33, 3) := by decide +kernel
theorem dX12_plan_307 : decode cX12_plan 307 = .ok (.iload 12, 2) := by decide +kernel
theorem dX12_plan_309 : decode cX12_plan 309 = .ok (.iload 17, 2) := by decide +kernel
theorem dX12_plan_311 : decode cX12_plan 311 = .ok (.ishr, 1) := by decide +kernel
theorem dX12_plan_312 : decode cX12_plan 312 = .ok (.iconst 1, 1) := by decide +kernel
theorem dX12_plan_313 : decode cX12_plan 313 = .ok (.iand, 1) := by decide +kernel
theorem dX12_plan_314 : decode cX12_plan 314 = .ok (.ifCond .ne 23, 3) := by decide +kernel
theorem dX12_plan_317 : decode cX12_plan 317 = .ok (.aload_n 0, 1) := by decide +kernel
theorem dX12_plan_318 : decode cX12_plan 318 = .ok (.getfield 48, 3) := by decide +kernel
theorem dX12_plan_321 : decode cX12_plan 321 = .ok (.bipush 6, 2) := by decide +kernel
theorem dX12_plan_323 : decode cX12_plan 323 = .ok (.iload 16, 2) := by decide +kernel
theorem dX12_plan_325 : decode cX12_plan 325 = .ok (.imul, 1) := by decide +kernel
theorem dX12_plan_326 : decode cX12_plan 326 = .ok (.iload 17, 2) := by decide +kernel
theorem dX12_plan_328 : decode cX12_plan 328 = .ok (.iadd, 1) := by decide +kernel
theorem dX12_plan_329 : decode cX12_plan 329 = .ok (.iaload, 1) := by decide +kernel
theorem dX12_plan_330 : decode cX12_plan 330 = .ok (.ifCond .lt 7, 3) := by decide +kernel
theorem dX12_plan_333 : decode cX12_plan 333 = .ok (.iconst 1, 1) := by decide +kernel
theorem dX12_plan_334 : decode cX12_plan 334 = .ok (.goto 4, 3) := by decide +kernel
theorem dX12_plan_337 : decode cX12_plan 337 = .ok (.iconst 0, 1) := by decide +kernel
theorem dX12_plan_338 : decode cX12_plan 338 = .ok (.istore 15, 2) := by decide +kernel
theorem dX12_plan_340 : decode cX12_plan 340 = .ok (.iload 12, 2) := by decide +kernel
theorem dX12_plan_342 : decode cX12_plan 342 = .ok (.iconst 1, 1) := by decide +kernel
theorem dX12_plan_343 : decode cX12_plan 343 = .ok (.iload 17, 2) := by decide +kernel
theorem dX12_plan_345 : decode cX12_plan 345 = .ok (.ishl, 1) := by decide +kernel
theorem dX12_plan_346 : decode cX12_plan 346 = .ok (.ior, 1) := by decide +kernel
theorem dX12_plan_347 : decode cX12_plan 347 = .ok (.istore 12, 2) := by decide +kernel
theorem dX12_plan_349 : decode cX12_plan 349 = .ok (.iload 13, 2) := by decide +kernel
theorem dX12_plan_351 : decode cX12_plan 351 = .ok (.aload_n 0, 1) := by decide +kernel
theorem dX12_plan_352 : decode cX12_plan 352 = .ok (.getfield 48, 3) := by decide +kernel
theorem dX12_plan_355 : decode cX12_plan 355 = .ok (.bipush 6, 2) := by decide +kernel
theorem dX12_plan_357 : decode cX12_plan 357 = .ok (.iload 16, 2) := by decide +kernel
theorem dX12_plan_359 : decode cX12_plan 359 = .ok (.imul, 1) := by decide +kernel
theorem dX12_plan_360 : decode cX12_plan 360 = .ok (.iload 17, 2) := by decide +kernel
theorem dX12_plan_362 : decode cX12_plan 362 = .ok (.iadd, 1) := by decide +kernel
theorem dX12_plan_363 : decode cX12_plan 363 = .ok (.iaload, 1) := by decide +kernel
theorem dX12_plan_364 : decode cX12_plan 364 = .ok (.iadd, 1) := by decide +kernel
theorem dX12_plan_365 : decode cX12_plan 365 = .ok (.istore 13, 2) := by decide +kernel
theorem dX12_plan_367 : decode cX12_plan 367 = .ok (.iinc 16 (-1), 3) := by decide +kernel
theorem dX12_plan_370 : decode cX12_plan 370 = .ok (.goto (-95), 3) := by decide +kernel
theorem dX12_plan_373 : decode cX12_plan 373 = .ok (.iload 15, 2) := by decide +kernel
theorem dX12_plan_375 : decode cX12_plan 375 = .ok (.ifCond .eq 21, 3) := by decide +kernel
theorem dX12_plan_378 : decode cX12_plan 378 = .ok (.iload 13, 2) := by decide +kernel
theorem dX12_plan_380 : decode cX12_plan 380 = .ok (.iload 10, 2) := by decide +kernel
theorem dX12_plan_382 : decode cX12_plan 382 = .ok (.if_icmp .gt 6, 3) := by decide +kernel
theorem dX12_plan_385 : decode cX12_plan 385 = .ok (.goto 11, 3) := by decide +kernel
theorem dX12_plan_388 : decode cX12_plan 388 = .ok (.iload 11, 2) := by decide +kernel
theorem dX12_plan_390 : decode cX12_plan 390 = .ok (.istore 9, 2) := by decide +kernel
theorem dX12_plan_392 : decode cX12_plan 392 = .ok (.iload 13, 2) := by decide +kernel
theorem dX12_plan_394 : decode cX12_plan 394 = .ok (.istore 10, 2) := by decide +kernel
theorem dX12_plan_396 : decode cX12_plan 396 = .ok (.iinc 11 1, 3) := by decide +kernel
theorem dX12_plan_399 : decode cX12_plan 399 = .ok (.goto (-150), 3) := by decide +kernel
theorem dX12_plan_402 : decode cX12_plan 402 = .ok (.iload 9, 2) := by decide +kernel
theorem dX12_plan_404 : decode cX12_plan 404 = .ok (.ifCond .lt 9, 3) := by decide +kernel
theorem dX12_plan_407 : decode cX12_plan 407 = .ok (.iload 5, 2) := by decide +kernel
theorem dX12_plan_409 : decode cX12_plan 409 = .ok (.iconst (-1), 1) := by decide +kernel
theorem dX12_plan_410 : decode cX12_plan 410 = .ok (.if_icmp .ne 15, 3) := by decide +kernel
theorem dX12_plan_413 : decode cX12_plan 413 = .ok (.iload 9, 2) := by decide +kernel
theorem dX12_plan_415 : decode cX12_plan 415 = .ok (.ifCond .ge 7, 3) := by decide +kernel
theorem dX12_plan_418 : decode cX12_plan 418 = .ok (.iconst (-1), 1) := by decide +kernel
theorem dX12_plan_419 : decode cX12_plan 419 = .ok (.goto 5, 3) := by decide +kernel
theorem dX12_plan_422 : decode cX12_plan 422 = .ok (.iload 10, 2) := by decide +kernel
theorem dX12_plan_424 : decode cX12_plan 424 = .ok (.ireturn, 1) := by decide +kernel
theorem dX12_plan_425 : decode cX12_plan 425 = .ok (.iload 9, 2) := by decide +kernel
theorem dX12_plan_427 : decode cX12_plan 427 = .ok (.istore 11, 2) := by decide +kernel
theorem dX12_plan_429 : decode cX12_plan 429 = .ok (.iload 7, 2) := by decide +kernel
theorem dX12_plan_431 : decode cX12_plan 431 = .ok (.iconst 1, 1) := by decide +kernel
theorem dX12_plan_432 : decode cX12_plan 432 = .ok (.isub, 1) := by decide +kernel
theorem dX12_plan_433 : decode cX12_plan 433 = .ok (.istore 12, 2) := by decide +kernel
theorem dX12_plan_435 : decode cX12_plan 435 = .ok (.iload 12, 2) := by decide +kernel
theorem dX12_plan_437 : decode cX12_plan 437 = .ok (.ifCond .lt 42, 3) := by decide +kernel
theorem dX12_plan_440 : decode cX12_plan 440 = .ok (.aload_n 0, 1) := by decide +kernel
theorem dX12_plan_441 : decode cX12_plan 441 = .ok (.getfield 45, 3) := by decide +kernel
theorem dX12_plan_444 : decode cX12_plan 444 = .ok (.iload 12, 2) := by decide +kernel
theorem dX12_plan_446 : decode cX12_plan 446 = .ok (.iaload, 1) := by decide +kernel
theorem dX12_plan_447 : decode cX12_plan 447 = .ok (.iload 5, 2) := by decide +kernel
theorem dX12_plan_449 : decode cX12_plan 449 = .ok (.if_icmp .ne 13, 3) := by decide +kernel
theorem dX12_plan_452 : decode cX12_plan 452 = .ok (.iload 11, 2) := by decide +kernel
theorem dX12_plan_454 : decode cX12_plan 454 = .ok (.aload_n 0, 1) := by decide +kernel
theorem dX12_plan_455 : decode cX12_plan 455 = .ok (.getfield 13, 3) := by decide +kernel
theorem dX12_plan_458 : decode cX12_plan 458 = .ok (.iconst 0, 1) := by decide +kernel
theorem dX12_plan_459 : decode cX12_plan 459 = .ok (.iaload, 1) := by decide +kernel
theorem dX12_plan_460 : decode cX12_plan 460 = .ok (.irem, 1) := by decide +kernel
theorem dX12_plan_461 : decode cX12_plan 461 = .ok (.ireturn, 1) := by decide +kernel
theorem dX12_plan_462 : decode cX12_plan 462 = .ok (.iload 11, 2) := by decide +kernel
theorem dX12_plan_464 : decode cX12_plan 464 = .ok (.aload_n 0, 1) := by decide +kernel
theorem dX12_plan_465 : decode cX12_plan 465 = .ok (.getfield 13, 3) := by decide +kernel
theorem dX12_plan_468 : decode cX12_plan 468 = .ok (.iconst 0, 1) := by decide +kernel
theorem dX12_plan_469 : decode cX12_plan 469 = .ok (.iaload, 1) := by decide +kernel
theorem dX12_plan_470 : decode cX12_plan 470 = .ok (.idiv, 1) := by decide +kernel
theorem dX12_plan_471 : decode cX12_plan 471 = .ok (.istore 11, 2) := by decide +kernel
theorem dX12_plan_473 : decode cX12_plan 473 = .ok (.iinc 12 (-1), 3) := by decide +kernel
theorem dX12_plan_476 : decode cX12_plan 476 = .ok (.goto (-41), 3) := by decide +kernel
theorem dX12_plan_479 : decode cX12_plan 479 = .ok (.iconst (-1), 1) := by decide +kernel
theorem dX12_plan_480 : decode cX12_plan 480 = .ok (.ireturn, 1) := by decide +kernel
theorem dX12_last_0 : decode cX12_last 0 = .ok (.aload_n 0, 1) := by decide +kernel
theorem dX12_last_1 : decode cX12_last 1 = .ok (.iconst 0, 1) := by decide +kernel
theorem dX12_last_2 : decode cX12_last 2 = .ok (.putfield 3, 3) := by decide +kernel
theorem dX12_last_5 : decode cX12_last 5 = .ok (.aload_n 0, 1) := by decide +kernel
theorem dX12_last_6 : decode cX12_last 6 = .ok (.aload_n 0, 1) := by decide +kernel
theorem dX12_last_7 : decode cX12_last 7 = .ok (.iload_n 1, 1) := by decide +kernel
theorem dX12_last_8 : decode cX12_last 8 = .ok (.invokevirtual 295, 3) := by decide +kernel
theorem dX12_last_11 : decode cX12_last 11 = .ok (.iconst 1, 1) := by decide +kernel
theorem dX12_last_12 : decode cX12_last 12 = .ok (.invokevirtual 195, 3) := by decide +kernel
theorem dX12_last_15 : decode cX12_last 15 = .ok (.ifCond .ne 27, 3) := by decide +kernel
theorem dX12_last_18 : decode cX12_last 18 = .ok (.aload_n 0, 1) := by decide +kernel
theorem dX12_last_19 : decode cX12_last 19 = .ok (.iload_n 3, 1) := by decide +kernel
theorem dX12_last_20 : decode cX12_last 20 = .ok (.iconst 0, 1) := by decide +kernel
theorem dX12_last_21 : decode cX12_last 21 = .ok (.sipush 9999, 3) := by decide +kernel
theorem dX12_last_24 : decode cX12_last 24 = .ok (.invokestatic 55, 3) := by decide +kernel
theorem dX12_last_27 : decode cX12_last 27 = .ok (.ifCond .ne 7, 3) := by decide +kernel
theorem dX12_last_30 : decode cX12_last 30 = .ok (.iconst 1, 1) := by decide +kernel
theorem dX12_last_31 : decode cX12_last 31 = .ok (.goto 4, 3) := by decide +kernel
theorem dX12_last_34 : decode cX12_last 34 = .ok (.iconst 0, 1) := by decide +kernel
theorem dX12_last_35 : decode cX12_last 35 = .ok (.iconst 2, 1) := by decide +kernel
theorem dX12_last_36 : decode cX12_last 36 = .ok (.invokevirtual 195, 3) := by decide +kernel
theorem dX12_last_39 : decode cX12_last 39 = .ok (.ifCond .eq 5, 3) := by decide +kernel
theorem dX12_last_42 : decode cX12_last 42 = .ok (.iconst 0, 1) := by decide +kernel
theorem dX12_last_43 : decode cX12_last 43 = .ok (.ireturn, 1) := by decide +kernel
theorem dX12_last_44 : decode cX12_last 44 = .ok (.iconst (-1), 1) := by decide +kernel
theorem dX12_last_45 : decode cX12_last 45 = .ok (.istore 4, 2) := by decide +kernel
theorem dX12_last_47 : decode cX12_last 47 = .ok (.iconst 0, 1) := by decide +kernel
theorem dX12_last_48 : decode cX12_last 48 = .ok (.istore 5, 2) := by decide +kernel
theorem dX12_last_50 : decode cX12_last 50 = .ok (.iconst 0, 1) := by decide +kernel
theorem dX12_last_51 : decode cX12_last 51 = .ok (.istore 6, 2) := by decide +kernel
theorem dX12_last_53 : decode cX12_last 53 = .ok (.iload 6, 2) := by decide +kernel
theorem dX12_last_55 : decode cX12_last 55 = .ok (.aload_n 0, 1) := by decide +kernel
theorem dX12_last_56 : decode cX12_last 56 = .ok (.getfield 13, 3) := by decide +kernel
theorem dX12_last_59 : decode cX12_last 59 = .ok (.iconst 1, 1) := by decide +kernel
theorem dX12_last_60 : decode cX12_last 60 = .ok (.iaload, 1) := by decide +kernel
theorem dX12_last_61 : decode cX12_last 61 = .ok (.if_icmp .ge 72, 3) := by decide +kernel
theorem dX12_last_64 : decode cX12_last 64 = .ok (.iload_n 2, 1) := by decide +kernel
theorem dX12_last_65 : decode cX12_last 65 = .ok (.iload 6, 2) := by decide +kernel
theorem dX12_last_67 : decode cX12_last 67 = .ok (.ishr, 1) := by decide +kernel
theorem dX12_last_68 : decode cX12_last 68 = .ok (.iconst 1, 1) := by decide +kernel
theorem dX12_last_69 : decode cX12_last 69 = .ok (.iand, 1) := by decide +kernel
theorem dX12_last_70 : decode cX12_last 70 = .ok (.ifCond .eq 57, 3) := by decide +kernel
theorem dX12_last_73 : decode cX12_last 73 = .ok (.aload_n 0, 1) := by decide +kernel
theorem dX12_last_74 : decode cX12_last 74 = .ok (.iload 6, 2) := by decide +kernel
theorem dX12_last_76 : decode cX12_last 76 = .ok (.invokevirtual 257, 3) := by decide +kernel
theorem dX12_last_79 : decode cX12_last 79 = .ok (.ifCond .ne 6, 3) := by decide +kernel
theorem dX12_last_82 : decode cX12_last 82 = .ok (.goto 45, 3) := by decide +kernel
theorem dX12_last_85 : decode cX12_last 85 = .ok (.aload_n 0, 1) := by decide +kernel
theorem dX12_last_86 : decode cX12_last 86 = .ok (.iload_n 1, 1) := by decide +kernel
theorem dX12_last_87 : decode cX12_last 87 = .ok (.iload 6, 2) := by decide +kernel
theorem dX12_last_89 : decode cX12_last 89 = .ok (.iconst 0, 1) := by decide +kernel
theorem dX12_last_90 : decode cX12_last 90 = .ok (.invokevirtual 301, 3) := by decide +kernel
theorem dX12_last_93 : decode cX12_last 93 = .ok (.aload_n 0, 1) := by decide +kernel
theorem dX12_last_94 : decode cX12_last 94 = .ok (.iload_n 1, 1) := by decide +kernel
theorem dX12_last_95 : decode cX12_last 95 = .ok (.iload 6, 2) := by decide +kernel
theorem dX12_last_97 : decode cX12_last 97 = .ok (.iload_n 3, 1) := by decide +kernel
theorem dX12_last_98 : decode cX12_last 98 = .ok (.invokevirtual 301, 3) := by decide +kernel
theorem dX12_last_101 : decode cX12_last 101 = .ok (.isub, 1) := by decide +kernel
theorem dX12_last_102 : decode cX12_last 102 = .ok (.istore 7, 2) := by decide +kernel
theorem dX12_last_104 : decode cX12_last 104 = .ok (.iload 4, 2) := by decide +kernel
theorem dX12_last_106 : decode cX12_last 106 = .ok (.ifCond .lt 13, 3) := by decide +kernel
theorem dX12_last_109 : decode cX12_last 109 = .ok (.iload 7, 2) := by decide +kernel
theorem dX12_last_111 : decode cX12_last 111 = .ok (.iload 5, 2) := by decide +kernel
theorem dX12_last_113 : decode cX12_last 113 = .ok (.if_icmp .lt 6, 3) := by decide +kernel
theorem dX12_last_116 : decode cX12_last 116 = .ok (.goto 11, 3) := by decide +kernel
theorem dX12_last_119 : decode cX12_last 119 = .ok (.iload 6, 2) := by decide +kernel
theorem dX12_last_121 : decode cX12_last 121 = .ok (.istore 4, 2) := by decide +kernel
theorem dX12_last_123 : decode cX12_last 123 = .ok (.iload 7, 2) := by decide +kernel
theorem dX12_last_125 : decode cX12_last 125 = .ok (.istore 5, 2) := by decide +kernel
theorem dX12_last_127 : decode cX12_last 127 = .ok (.iinc 6 1, 3) := by decide +kernel
theorem dX12_last_130 : decode cX12_last 130 = .ok (.goto (-77), 3) := by decide +kernel
theorem dX12_last_133 : decode cX12_last 133 = .ok (.iload 4, 2) := by decide +kernel
theorem dX12_last_135 : decode cX12_last 135 = .ok (.ireturn, 1) := by decide +kernel
theorem dX12_chance_0 : decode cX12_chance 0 = .ok (.aload_n 0, 1) := by decide +kernel
theorem dX12_chance_1 : decode cX12_chance 1 = .ok (.iconst 0, 1) := by decide +kernel
theorem dX12_chance_2 : decode cX12_chance 2 = .ok (.putfield 3, 3) := by decide +kernel
theorem dX12_chance_5 : decode cX12_chance 5 = .ok (.aload_n 0, 1) := by decide +kernel
theorem dX12_chance_6 : decode cX12_chance 6 = .ok (.iload_n 1, 1) := by decide +kernel
theorem dX12_chance_7 : decode cX12_chance 7 = .ok (.iconst 1, 1) := by decide +kernel
theorem dX12_chance_8 : decode cX12_chance 8 = .ok (.bipush 6, 2) := by decide +kernel
theorem dX12_chance_10 : decode cX12_chance 10 = .ok (.invokestatic 55, 3) := by decide +kernel
theorem dX12_chance_13 : decode cX12_chance 13 = .ok (.ifCond .eq 13, 3) := by decide +kernel
theorem dX12_chance_16 : decode cX12_chance 16 = .ok (.iload_n 2, 1) := by decide +kernel
theorem dX12_chance_17 : decode cX12_chance 17 = .ok (.iconst 0, 1) := by decide +kernel
theorem dX12_chance_18 : decode cX12_chance 18 = .ok (.bipush 100, 2) := by decide +kernel
theorem dX12_chance_20 : decode cX12_chance 20 = .ok (.invokestatic 55, 3) := by decide +kernel
theorem dX12_chance_23 : decode cX12_chance 23 = .ok (.ifCond .ne 7, 3) := by decide +kernel
theorem dX12_chance_26 : decode cX12_chance 26 = .ok (.iconst 1, 1) := by decide +kernel
theorem dX12_chance_27 : decode cX12_chance 27 = .ok (.goto 4, 3) := by decide +kernel
theorem dX12_chance_30 : decode cX12_chance 30 = .ok (.iconst 0, 1) := by decide +kernel
theorem dX12_chance_31 : decode cX12_chance 31 = .ok (.iconst 1, 1) := by decide +kernel
theorem dX12_chance_32 : decode cX12_chance 32 = .ok (.invokevirtual 195, 3) := by decide +kernel
theorem dX12_chance_35 : decode cX12_chance 35 = .ok (.ifCond .eq 4, 3) := by decide +kernel
theorem dX12_chance_38 : decode cX12_chance 38 = .ok (.return_, 1) := by decide +kernel
theorem dX12_chance_39 : decode cX12_chance 39 = .ok (.aload_n 0, 1) := by decide +kernel
theorem dX12_chance_40 : decode cX12_chance 40 = .ok (.getfield 13, 3) := by decide +kernel
theorem dX12_chance_43 : decode cX12_chance 43 = .ok (.sipush 964, 3) := by decide +kernel
theorem dX12_chance_46 : decode cX12_chance 46 = .ok (.iload_n 1, 1) := by decide +kernel
theorem dX12_chance_47 : decode cX12_chance 47 = .ok (.iadd, 1) := by decide +kernel
theorem dX12_chance_48 : decode cX12_chance 48 = .ok (.iconst 1, 1) := by decide +kernel
theorem dX12_chance_49 : decode cX12_chance 49 = .ok (.isub, 1) := by decide +kernel
theorem dX12_chance_50 : decode cX12_chance 50 = .ok (.iload_n 2, 1) := by decide +kernel
theorem dX12_chance_51 : decode cX12_chance 51 = .ok (.iastore, 1) := by decide +kernel
theorem dX12_chance_52 : decode cX12_chance 52 = .ok (.return_, 1) := by decide +kernel
theorem dX12_oddsOf_0 : decode cX12_oddsOf 0 = .ok (.aload_n 0, 1) := by decide +kernel
theorem dX12_oddsOf_1 : decode cX12_oddsOf 1 = .ok (.getfield 13, 3) := by decide +kernel
theorem dX12_oddsOf_4 : decode cX12_oddsOf 4 = .ok (.sipush 964, 3) := by decide +kernel
theorem dX12_oddsOf_7 : decode cX12_oddsOf 7 = .ok (.iload_n 1, 1) := by decide +kernel
theorem dX12_oddsOf_8 : decode cX12_oddsOf 8 = .ok (.iadd, 1) := by decide +kernel
theorem dX12_oddsOf_9 : decode cX12_oddsOf 9 = .ok (.iconst 1, 1) := by decide +kernel
theorem dX12_oddsOf_10 : decode cX12_oddsOf 10 = .ok (.isub, 1) := by decide +kernel
theorem dX12_oddsOf_11 : decode cX12_oddsOf 11 = .ok (.iaload, 1) := by decide +kernel
theorem dX12_oddsOf_12 : decode cX12_oddsOf 12 = .ok (.i2l, 1) := by decide +kernel
theorem dX12_oddsOf_13 : decode cX12_oddsOf 13 = .ok (.lstore_n 3, 1) := by decide +kernel
theorem dX12_oddsOf_14 : decode cX12_oddsOf 14 = .ok (.lconst 0, 1) := by decide +kernel
theorem dX12_oddsOf_15 : decode cX12_oddsOf 15 = .ok (.lstore 5, 2) := by decide +kernel
theorem dX12_oddsOf_17 : decode cX12_oddsOf 17 = .ok (.iconst 0, 1) := by decide +kernel
theorem dX12_oddsOf_18 : decode cX12_oddsOf 18 = .ok (.istore 7, 2) := by decide +kernel
theorem dX12_oddsOf_20 : decode cX12_oddsOf 20 = .ok (.iload 7, 2) := by decide +kernel
theorem dX12_oddsOf_22 : decode cX12_oddsOf 22 = .ok (.iconst 1, 1) := by decide +kernel
theorem dX12_oddsOf_23 : decode cX12_oddsOf 23 = .ok (.iload_n 1, 1) := by decide +kernel
theorem dX12_oddsOf_24 : decode cX12_oddsOf 24 = .ok (.ishl, 1) := by decide +kernel
theorem dX12_oddsOf_25 : decode cX12_oddsOf 25 = .ok (.if_icmp .ge 71, 3) := by decide +kernel
theorem dX12_oddsOf_28 : decode cX12_oddsOf 28 = .ok (.iload 7, 2) := by decide +kernel
theorem dX12_oddsOf_30 : decode cX12_oddsOf 30 = .ok (.invokestatic 374, 3) := by decide +kernel
theorem dX12_oddsOf_33 : decode cX12_oddsOf 33 = .ok (.iload_n 2, 1) := by decide +kernel
theorem dX12_oddsOf_34 : decode cX12_oddsOf 34 = .ok (.if_icmp .ge 6, 3) := by decide +kernel
theorem dX12_oddsOf_37 : decode cX12_oddsOf 37 = .ok (.goto 53, 3) := by decide +kernel
theorem dX12_oddsOf_40 : decode cX12_oddsOf 40 = .ok (.lconst 1, 1) := by decide +kernel
theorem dX12_oddsOf_41 : decode cX12_oddsOf 41 = .ok (.lstore 8, 2) := by decide +kernel
theorem dX12_oddsOf_43 : decode cX12_oddsOf 43 = .ok (.iconst 0, 1) := by decide +kernel
theorem dX12_oddsOf_44 : decode cX12_oddsOf 44 = .ok (.istore 10, 2) := by decide +kernel
theorem dX12_oddsOf_46 : decode cX12_oddsOf 46 = .ok (.iload 10, 2) := by decide +kernel
theorem dX12_oddsOf_48 : decode cX12_oddsOf 48 = .ok (.iload_n 1, 1) := by decide +kernel
theorem dX12_oddsOf_49 : decode cX12_oddsOf 49 = .ok (.if_icmp .ge 34, 3) := by decide +kernel
theorem dX12_oddsOf_52 : decode cX12_oddsOf 52 = .ok (.lload 8, 2) := by decide +kernel
theorem dX12_oddsOf_54 : decode cX12_oddsOf 54 = .ok (.iload 7, 2) := by decide +kernel
theorem dX12_oddsOf_56 : decode cX12_oddsOf 56 = .ok (.iload 10, 2) := by decide +kernel
theorem dX12_oddsOf_58 : decode cX12_oddsOf 58 = .ok (.ishr, 1) := by decide +kernel
theorem dX12_oddsOf_59 : decode cX12_oddsOf 59 = .ok (.iconst 1, 1) := by decide +kernel
theorem dX12_oddsOf_60 : decode cX12_oddsOf 60 = .ok (.iand, 1) := by decide +kernel
theorem dX12_oddsOf_61 : decode cX12_oddsOf 61 = .ok (.iconst 1, 1) := by decide +kernel
theorem dX12_oddsOf_62 : decode cX12_oddsOf 62 = .ok (.if_icmp .ne 7, 3) := by decide +kernel
theorem dX12_oddsOf_65 : decode cX12_oddsOf 65 = .ok (.lload_n 3, 1) := by decide +kernel
theorem dX12_oddsOf_66 : decode cX12_oddsOf 66 = .ok (.goto 8, 3) := by decide +kernel
theorem dX12_oddsOf_69 : decode cX12_oddsOf 69 = .ok (.ldc2_w 384, 3) := by decide +kernel
theorem dX12_oddsOf_72 : decode cX12_oddsOf 72 = .ok (.lload_n 3, 1) := by decide +kernel
theorem dX12_oddsOf_73 : decode cX12_oddsOf 73 = .ok (.lsub, 1) := by decide +kernel
theorem dX12_oddsOf_74 : decode cX12_oddsOf 74 = .ok (.lmul, 1) := by decide +kernel
theorem dX12_oddsOf_75 : decode cX12_oddsOf 75 = .ok (.lstore 8, 2) := by decide +kernel
theorem dX12_oddsOf_77 : decode cX12_oddsOf 77 = .ok (.iinc 10 1, 3) := by decide +kernel
theorem dX12_oddsOf_80 : decode cX12_oddsOf 80 = .ok (.goto (-34), 3) := by decide +kernel
theorem dX12_oddsOf_83 : decode cX12_oddsOf 83 = .ok (.lload 5, 2) := by decide +kernel
theorem dX12_oddsOf_85 : decode cX12_oddsOf 85 = .ok (.lload 8, 2) := by decide +kernel
theorem dX12_oddsOf_87 : decode cX12_oddsOf 87 = .ok (.ladd, 1) := by decide +kernel
theorem dX12_oddsOf_88 : decode cX12_oddsOf 88 = .ok (.lstore 5, 2) := by decide +kernel
theorem dX12_oddsOf_90 : decode cX12_oddsOf 90 = .ok (.iinc 7 1, 3) := by decide +kernel
theorem dX12_oddsOf_93 : decode cX12_oddsOf 93 = .ok (.goto (-73), 3) := by decide +kernel
theorem dX12_oddsOf_96 : decode cX12_oddsOf 96 = .ok (.iload_n 1, 1) := by decide +kernel
theorem dX12_oddsOf_97 : decode cX12_oddsOf 97 = .ok (.istore 7, 2) := by decide +kernel
theorem dX12_oddsOf_99 : decode cX12_oddsOf 99 = .ok (.iload 7, 2) := by decide +kernel
theorem dX12_oddsOf_101 : decode cX12_oddsOf 101 = .ok (.bipush 6, 2) := by decide +kernel
theorem dX12_oddsOf_103 : decode cX12_oddsOf 103 = .ok (.if_icmp .ge 17, 3) := by decide +kernel
theorem dX12_oddsOf_106 : decode cX12_oddsOf 106 = .ok (.lload 5, 2) := by decide +kernel
theorem dX12_oddsOf_108 : decode cX12_oddsOf 108 = .ok (.ldc2_w 384, 3) := by decide +kernel
theorem dX12_oddsOf_111 : decode cX12_oddsOf 111 = .ok (.lmul, 1) := by decide +kernel
theorem dX12_oddsOf_112 : decode cX12_oddsOf 112 = .ok (.lstore 5, 2) := by decide +kernel
theorem dX12_oddsOf_114 : decode cX12_oddsOf 114 = .ok (.iinc 7 1, 3) := by decide +kernel
theorem dX12_oddsOf_117 : decode cX12_oddsOf 117 = .ok (.goto (-18), 3) := by decide +kernel
theorem dX12_oddsOf_120 : decode cX12_oddsOf 120 = .ok (.lload 5, 2) := by decide +kernel
theorem dX12_oddsOf_122 : decode cX12_oddsOf 122 = .ok (.lreturn, 1) := by decide +kernel
theorem dX12_risk_0 : decode cX12_risk 0 = .ok (.aload_n 0, 1) := by decide +kernel
theorem dX12_risk_1 : decode cX12_risk 1 = .ok (.iconst 0, 1) := by decide +kernel
theorem dX12_risk_2 : decode cX12_risk 2 = .ok (.putfield 3, 3) := by decide +kernel
theorem dX12_risk_5 : decode cX12_risk 5 = .ok (.aload_n 0, 1) := by decide +kernel
theorem dX12_risk_6 : decode cX12_risk 6 = .ok (.iload_n 1, 1) := by decide +kernel
theorem dX12_risk_7 : decode cX12_risk 7 = .ok (.iconst 0, 1) := by decide +kernel
theorem dX12_risk_8 : decode cX12_risk 8 = .ok (.bipush 6, 2) := by decide +kernel
theorem dX12_risk_10 : decode cX12_risk 10 = .ok (.invokestatic 55, 3) := by decide +kernel
theorem dX12_risk_13 : decode cX12_risk 13 = .ok (.ifCond .ne 7, 3) := by decide +kernel
theorem dX12_risk_16 : decode cX12_risk 16 = .ok (.iconst 1, 1) := by decide +kernel
theorem dX12_risk_17 : decode cX12_risk 17 = .ok (.goto 4, 3) := by decide +kernel
theorem dX12_risk_20 : decode cX12_risk 20 = .ok (.iconst 0, 1) := by decide +kernel
theorem dX12_risk_21 : decode cX12_risk 21 = .ok (.iconst 1, 1) := by decide +kernel
theorem dX12_risk_22 : decode cX12_risk 22 = .ok (.invokevirtual 195, 3) := by decide +kernel
theorem dX12_risk_25 : decode cX12_risk 25 = .ok (.ifCond .eq 5, 3) := by decide +kernel
theorem dX12_risk_28 : decode cX12_risk 28 = .ok (.lconst 0, 1) := by decide +kernel
theorem dX12_risk_29 : decode cX12_risk 29 = .ok (.lreturn, 1) := by decide +kernel
theorem dX12_risk_30 : decode cX12_risk 30 = .ok (.iconst 1, 1) := by decide +kernel
theorem dX12_risk_31 : decode cX12_risk 31 = .ok (.istore_n 3, 1) := by decide +kernel
theorem dX12_risk_32 : decode cX12_risk 32 = .ok (.iconst 2, 1) := by decide +kernel
theorem dX12_risk_33 : decode cX12_risk 33 = .ok (.istore 4, 2) := by decide +kernel
theorem dX12_risk_35 : decode cX12_risk 35 = .ok (.iload 4, 2) := by decide +kernel
theorem dX12_risk_37 : decode cX12_risk 37 = .ok (.bipush 6, 2) := by decide +kernel
theorem dX12_risk_39 : decode cX12_risk 39 = .ok (.if_icmp .gt 29, 3) := by decide +kernel
theorem dX12_risk_42 : decode cX12_risk 42 = .ok (.aload_n 0, 1) := by decide +kernel
theorem dX12_risk_43 : decode cX12_risk 43 = .ok (.iload 4, 2) := by decide +kernel
theorem dX12_risk_45 : decode cX12_risk 45 = .ok (.iload_n 1, 1) := by decide +kernel
theorem dX12_risk_46 : decode cX12_risk 46 = .ok (.invokevirtual 386, 3) := by decide +kernel
theorem dX12_risk_49 : decode cX12_risk 49 = .ok (.aload_n 0, 1) := by decide +kernel
theorem dX12_risk_50 : decode cX12_risk 50 = .ok (.iload_n 3, 1) := by decide +kernel
theorem dX12_risk_51 : decode cX12_risk 51 = .ok (.iload_n 1, 1) := by decide +kernel
theorem dX12_risk_52 : decode cX12_risk 52 = .ok (.invokevirtual 386, 3) := by decide +kernel
theorem dX12_risk_55 : decode cX12_risk 55 = .ok (.lcmp, 1) := by decide +kernel
theorem dX12_risk_56 : decode cX12_risk 56 = .ok (.ifCond .le 6, 3) := by decide +kernel
theorem dX12_risk_59 : decode cX12_risk 59 = .ok (.iload 4, 2) := by decide +kernel
theorem dX12_risk_61 : decode cX12_risk 61 = .ok (.istore_n 3, 1) := by decide +kernel
theorem dX12_risk_62 : decode cX12_risk 62 = .ok (.iinc 4 1, 3) := by decide +kernel
theorem dX12_risk_65 : decode cX12_risk 65 = .ok (.goto (-30), 3) := by decide +kernel
theorem dX12_risk_68 : decode cX12_risk 68 = .ok (.iload_n 2, 1) := by decide +kernel
theorem dX12_risk_69 : decode cX12_risk 69 = .ok (.ifCond .eq 12, 3) := by decide +kernel
theorem dX12_risk_72 : decode cX12_risk 72 = .ok (.aload_n 0, 1) := by decide +kernel
theorem dX12_risk_73 : decode cX12_risk 73 = .ok (.iload_n 3, 1) := by decide +kernel
theorem dX12_risk_74 : decode cX12_risk 74 = .ok (.iload_n 1, 1) := by decide +kernel
theorem dX12_risk_75 : decode cX12_risk 75 = .ok (.invokevirtual 386, 3) := by decide +kernel
theorem dX12_risk_78 : decode cX12_risk 78 = .ok (.goto 5, 3) := by decide +kernel
theorem dX12_risk_81 : decode cX12_risk 81 = .ok (.iload_n 3, 1) := by decide +kernel
theorem dX12_risk_82 : decode cX12_risk 82 = .ok (.i2l, 1) := by decide +kernel
theorem dX12_risk_83 : decode cX12_risk 83 = .ok (.lreturn, 1) := by decide +kernel
theorem dX12_week_0 : decode cX12_week 0 = .ok (.aload_n 0, 1) := by decide +kernel
theorem dX12_week_1 : decode cX12_week 1 = .ok (.iconst 0, 1) := by decide +kernel
theorem dX12_week_2 : decode cX12_week 2 = .ok (.putfield 3, 3) := by decide +kernel
theorem dX12_week_5 : decode cX12_week 5 = .ok (.aload_n 0, 1) := by decide +kernel
theorem dX12_week_6 : decode cX12_week 6 = .ok (.iload_n 1, 1) := by decide +kernel
theorem dX12_week_7 : decode cX12_week 7 = .ok (.iconst 0, 1) := by decide +kernel
theorem dX12_week_8 : decode cX12_week 8 = .ok (.sipush 9999, 3) := by decide +kernel
theorem dX12_week_11 : decode cX12_week 11 = .ok (.invokestatic 55, 3) := by decide +kernel
theorem dX12_week_14 : decode cX12_week 14 = .ok (.ifCond .ne 7, 3) := by decide +kernel
theorem dX12_week_17 : decode cX12_week 17 = .ok (.iconst 1, 1) := by decide +kernel
theorem dX12_week_18 : decode cX12_week 18 = .ok (.goto 4, 3) := by decide +kernel
theorem dX12_week_21 : decode cX12_week 21 = .ok (.iconst 0, 1) := by decide +kernel
theorem dX12_week_22 : decode cX12_week 22 = .ok (.iconst 1, 1) := by decide +kernel
theorem dX12_week_23 : decode cX12_week 23 = .ok (.invokevirtual 195, 3) := by decide +kernel
theorem dX12_week_26 : decode cX12_week 26 = .ok (.ifCond .ne 27, 3) := by decide +kernel
theorem dX12_week_29 : decode cX12_week 29 = .ok (.aload_n 0, 1) := by decide +kernel
theorem dX12_week_30 : decode cX12_week 30 = .ok (.aload_n 0, 1) := by decide +kernel
theorem dX12_week_31 : decode cX12_week 31 = .ok (.getfield 13, 3) := by decide +kernel
theorem dX12_week_34 : decode cX12_week 34 = .ok (.iconst 5, 1) := by decide +kernel
theorem dX12_week_35 : decode cX12_week 35 = .ok (.iaload, 1) := by decide +kernel
theorem dX12_week_36 : decode cX12_week 36 = .ok (.bipush 20, 2) := by decide +kernel
theorem dX12_week_38 : decode cX12_week 38 = .ok (.if_icmp .ne 7, 3) := by decide +kernel
theorem dX12_week_41 : decode cX12_week 41 = .ok (.iconst 1, 1) := by decide +kernel
theorem dX12_week_42 : decode cX12_week 42 = .ok (.goto 4, 3) := by decide +kernel
theorem dX12_week_45 : decode cX12_week 45 = .ok (.iconst 0, 1) := by decide +kernel
theorem dX12_week_46 : decode cX12_week 46 = .ok (.iconst 2, 1) := by decide +kernel
theorem dX12_week_47 : decode cX12_week 47 = .ok (.invokevirtual 195, 3) := by decide +kernel
theorem dX12_week_50 : decode cX12_week 50 = .ok (.ifCond .eq 5, 3) := by decide +kernel
theorem dX12_week_53 : decode cX12_week 53 = .ok (.iconst 0, 1) := by decide +kernel
theorem dX12_week_54 : decode cX12_week 54 = .ok (.ireturn, 1) := by decide +kernel
theorem dX12_week_55 : decode cX12_week 55 = .ok (.aload_n 0, 1) := by decide +kernel
theorem dX12_week_56 : decode cX12_week 56 = .ok (.getfield 13, 3) := by decide +kernel
theorem dX12_week_59 : decode cX12_week 59 = .ok (.sipush 944, 3) := by decide +kernel
theorem dX12_week_62 : decode cX12_week 62 = .ok (.aload_n 0, 1) := by decide +kernel
theorem dX12_week_63 : decode cX12_week 63 = .ok (.getfield 13, 3) := by decide +kernel
theorem dX12_week_66 : decode cX12_week 66 = .ok (.iconst 5, 1) := by decide +kernel
theorem dX12_week_67 : decode cX12_week 67 = .ok (.iaload, 1) := by decide +kernel
theorem dX12_week_68 : decode cX12_week 68 = .ok (.iadd, 1) := by decide +kernel
theorem dX12_week_69 : decode cX12_week 69 = .ok (.iload_n 1, 1) := by decide +kernel
theorem dX12_week_70 : decode cX12_week 70 = .ok (.iastore, 1) := by decide +kernel
theorem dX12_week_71 : decode cX12_week 71 = .ok (.aload_n 0, 1) := by decide +kernel
theorem dX12_week_72 : decode cX12_week 72 = .ok (.getfield 13, 3) := by decide +kernel
theorem dX12_week_75 : decode cX12_week 75 = .ok (.iconst 5, 1) := by decide +kernel
theorem dX12_week_76 : decode cX12_week 76 = .ok (.dup2, 1) := by decide +kernel
theorem dX12_week_77 : decode cX12_week 77 = .ok (.iaload, 1) := by decide +kernel
theorem dX12_week_78 : decode cX12_week 78 = .ok (.iconst 1, 1) := by decide +kernel
theorem dX12_week_79 : decode cX12_week 79 = .ok (.iadd, 1) := by decide +kernel
theorem dX12_week_80 : decode cX12_week 80 = .ok (.iastore, 1) := by decide +kernel
theorem dX12_week_81 : decode cX12_week 81 = .ok (.aload_n 0, 1) := by decide +kernel
theorem dX12_week_82 : decode cX12_week 82 = .ok (.getfield 13, 3) := by decide +kernel
theorem dX12_week_85 : decode cX12_week 85 = .ok (.iconst 5, 1) := by decide +kernel
theorem dX12_week_86 : decode cX12_week 86 = .ok (.iaload, 1) := by decide +kernel
theorem dX12_week_87 : decode cX12_week 87 = .ok (.ireturn, 1) := by decide +kernel
theorem dX12_betters_0 : decode cX12_betters 0 = .ok (.iload_n 0, 1) := by decide +kernel
theorem dX12_betters_1 : decode cX12_betters 1 = .ok (.iload_n 2, 1) := by decide +kernel
theorem dX12_betters_2 : decode cX12_betters 2 = .ok (.iload_n 1, 1) := by decide +kernel
theorem dX12_betters_3 : decode cX12_betters 3 = .ok (.iload_n 0, 1) := by decide +kernel
theorem dX12_betters_4 : decode cX12_betters 4 = .ok (.isub, 1) := by decide +kernel
theorem dX12_betters_5 : decode cX12_betters 5 = .ok (.imul, 1) := by decide +kernel
theorem dX12_betters_6 : decode cX12_betters 6 = .ok (.bipush 100, 2) := by decide +kernel
theorem dX12_betters_8 : decode cX12_betters 8 = .ok (.invokestatic 390, 3) := by decide +kernel
theorem dX12_betters_11 : decode cX12_betters 11 = .ok (.iadd, 1) := by decide +kernel
theorem dX12_betters_12 : decode cX12_betters 12 = .ok (.ireturn, 1) := by decide +kernel
theorem dX12_rates_0 : decode cX12_rates 0 = .ok (.aload_n 0, 1) := by decide +kernel
theorem dX12_rates_1 : decode cX12_rates 1 = .ok (.iconst 0, 1) := by decide +kernel
theorem dX12_rates_2 : decode cX12_rates 2 = .ok (.putfield 3, 3) := by decide +kernel
theorem dX12_rates_5 : decode cX12_rates 5 = .ok (.aload_n 0, 1) := by decide +kernel
theorem dX12_rates_6 : decode cX12_rates 6 = .ok (.iload_n 1, 1) := by decide +kernel
theorem dX12_rates_7 : decode cX12_rates 7 = .ok (.iconst 0, 1) := by decide +kernel
theorem dX12_rates_8 : decode cX12_rates 8 = .ok (.sipush 9999, 3) := by decide +kernel
theorem dX12_rates_11 : decode cX12_rates 11 = .ok (.invokestatic 55, 3) := by decide +kernel
theorem dX12_rates_14 : decode cX12_rates 14 = .ok (.ifCond .ne 7, 3) := by decide +kernel
theorem dX12_rates_17 : decode cX12_rates 17 = .ok (.iconst 1, 1) := by decide +kernel
theorem dX12_rates_18 : decode cX12_rates 18 = .ok (.goto 4, 3) := by decide +kernel
theorem dX12_rates_21 : decode cX12_rates 21 = .ok (.iconst 0, 1) := by decide +kernel
theorem dX12_rates_22 : decode cX12_rates 22 = .ok (.iconst 1, 1) := by decide +kernel
theorem dX12_rates_23 : decode cX12_rates 23 = .ok (.invokevirtual 195, 3) := by decide +kernel
theorem dX12_rates_26 : decode cX12_rates 26 = .ok (.ifCond .ne 25, 3) := by decide +kernel
theorem dX12_rates_29 : decode cX12_rates 29 = .ok (.aload_n 0, 1) := by decide +kernel
theorem dX12_rates_30 : decode cX12_rates 30 = .ok (.iload_n 2, 1) := by decide +kernel
theorem dX12_rates_31 : decode cX12_rates 31 = .ok (.iconst 0, 1) := by decide +kernel
theorem dX12_rates_32 : decode cX12_rates 32 = .ok (.iconst 4, 1) := by decide +kernel
theorem dX12_rates_33 : decode cX12_rates 33 = .ok (.invokestatic 55, 3) := by decide +kernel
theorem dX12_rates_36 : decode cX12_rates 36 = .ok (.ifCond .ne 7, 3) := by decide +kernel
theorem dX12_rates_39 : decode cX12_rates 39 = .ok (.iconst 1, 1) := by decide +kernel
theorem dX12_rates_40 : decode cX12_rates 40 = .ok (.goto 4, 3) := by decide +kernel
theorem dX12_rates_43 : decode cX12_rates 43 = .ok (.iconst 0, 1) := by decide +kernel
theorem dX12_rates_44 : decode cX12_rates 44 = .ok (.iconst 2, 1) := by decide +kernel
theorem dX12_rates_45 : decode cX12_rates 45 = .ok (.invokevirtual 195, 3) := by decide +kernel
theorem dX12_rates_48 : decode cX12_rates 48 = .ok (.ifCond .eq 5, 3) := by decide +kernel
theorem dX12_rates_51 : decode cX12_rates 51 = .ok (.iconst 0, 1) := by decide +kernel
theorem dX12_rates_52 : decode cX12_rates 52 = .ok (.ireturn, 1) := by decide +kernel
theorem dX12_rates_53 : decode cX12_rates 53 = .ok (.aload_n 0, 1) := by decide +kernel
theorem dX12_rates_54 : decode cX12_rates 54 = .ok (.getfield 13, 3) := by decide +kernel
theorem dX12_rates_57 : decode cX12_rates 57 = .ok (.iconst 5, 1) := by decide +kernel
theorem dX12_rates_58 : decode cX12_rates 58 = .ok (.iaload, 1) := by decide +kernel
theorem dX12_rates_59 : decode cX12_rates 59 = .ok (.istore_n 3, 1) := by decide +kernel
theorem dX12_rates_60 : decode cX12_rates 60 = .ok (.iconst 0, 1) := by decide +kernel
theorem dX12_rates_61 : decode cX12_rates 61 = .ok (.istore 4, 2) := by decide +kernel
theorem dX12_rates_63 : decode cX12_rates 63 = .ok (.iconst (-1), 1) := by decide +kernel
theorem dX12_rates_64 : decode cX12_rates 64 = .ok (.istore 5, 2) := by decide +kernel
theorem dX12_rates_66 : decode cX12_rates 66 = .ok (.iconst (-1), 1) := by decide +kernel
theorem dX12_rates_67 : decode cX12_rates 67 = .ok (.istore 6, 2) := by decide +kernel
theorem dX12_rates_69 : decode cX12_rates 69 = .ok (.iconst (-1), 1) := by decide +kernel
theorem dX12_rates_70 : decode cX12_rates 70 = .ok (.istore 7, 2) := by decide +kernel
theorem dX12_rates_72 : decode cX12_rates 72 = .ok (.iconst (-1), 1) := by decide +kernel
theorem dX12_rates_73 : decode cX12_rates 73 = .ok (.istore 8, 2) := by decide +kernel
theorem dX12_rates_75 : decode cX12_rates 75 = .ok (.iconst 0, 1) := by decide +kernel
theorem dX12_rates_76 : decode cX12_rates 76 = .ok (.istore 9, 2) := by decide +kernel
theorem dX12_rates_78 : decode cX12_rates 78 = .ok (.iload 9, 2) := by decide +kernel
theorem dX12_rates_80 : decode cX12_rates 80 = .ok (.bipush 100, 2) := by decide +kernel
theorem dX12_rates_82 : decode cX12_rates 82 = .ok (.if_icmp .gt 168, 3) := by decide +kernel
theorem dX12_rates_85 : decode cX12_rates 85 = .ok (.iconst 1, 1) := by decide +kernel
theorem dX12_rates_86 : decode cX12_rates 86 = .ok (.istore 10, 2) := by decide +kernel
theorem dX12_rates_88 : decode cX12_rates 88 = .ok (.iconst 1, 1) := by decide +kernel
theorem dX12_rates_89 : decode cX12_rates 89 = .ok (.istore 11, 2) := by decide +kernel
theorem dX12_rates_91 : decode cX12_rates 91 = .ok (.iload 11, 2) := by decide +kernel
theorem dX12_rates_93 : decode cX12_rates 93 = .ok (.iload_n 3, 1) := by decide +kernel
theorem dX12_rates_94 : decode cX12_rates 94 = .ok (.if_icmp .ge 59, 3) := by decide +kernel
theorem dX12_rates_97 : decode cX12_rates 97 = .ok (.iload 10, 2) := by decide +kernel
theorem dX12_rates_99 : decode cX12_rates 99 = .ok (.ifCond .eq 45, 3) := by decide +kernel
theorem dX12_rates_102 : decode cX12_rates 102 = .ok (.aload_n 0, 1) := by decide +kernel
theorem dX12_rates_103 : decode cX12_rates 103 = .ok (.getfield 13, 3) := by decide +kernel
theorem dX12_rates_106 : decode cX12_rates 106 = .ok (.sipush 944, 3) := by decide +kernel
theorem dX12_rates_109 : decode cX12_rates 109 = .ok (.iload 11, 2) := by decide +kernel
theorem dX12_rates_111 : decode cX12_rates 111 = .ok (.iadd, 1) := by decide +kernel
theorem dX12_rates_112 : decode cX12_rates 112 = .ok (.iconst 1, 1) := by decide +kernel
theorem dX12_rates_113 : decode cX12_rates 113 = .ok (.isub, 1) := by decide +kernel
theorem dX12_rates_114 : decode cX12_rates 114 = .ok (.iaload, 1) := by decide +kernel
theorem dX12_rates_115 : decode cX12_rates 115 = .ok (.iload_n 1, 1) := by decide +kernel
theorem dX12_rates_116 : decode cX12_rates 116 = .ok (.iload 9, 2) := by decide +kernel
theorem dX12_rates_118 : decode cX12_rates 118 = .ok (.invokestatic 393, 3) := by decide +kernel
theorem dX12_rates_121 : decode cX12_rates 121 = .ok (.aload_n 0, 1) := by decide +kernel
theorem dX12_rates_122 : decode cX12_rates 122 = .ok (.getfield 13, 3) := by decide +kernel
theorem dX12_rates_125 : decode cX12_rates 125 = .ok (.sipush 944, 3) := by decide +kernel
theorem dX12_rates_128 : decode cX12_rates 128 = .ok (.iload 11, 2) := by decide +kernel
theorem dX12_rates_130 : decode cX12_rates 130 = .ok (.iadd, 1) := by decide +kernel
theorem dX12_rates_131 : decode cX12_rates 131 = .ok (.iaload, 1) := by decide +kernel
theorem dX12_rates_132 : decode cX12_rates 132 = .ok (.isub, 1) := by decide +kernel
theorem dX12_rates_133 : decode cX12_rates 133 = .ok (.invokestatic 338, 3) := by decide +kernel
theorem dX12_rates_136 : decode cX12_rates 136 = .ok (.iconst 1, 1) := by decide +kernel
theorem dX12_rates_137 : decode cX12_rates 137 = .ok (.if_icmp .gt 7, 3) := by decide +kernel
theorem dX12_rates_140 : decode cX12_rates 140 = .ok (.iconst 1, 1) := by decide +kernel
theorem dX12_rates_141 : decode cX12_rates 141 = .ok (.goto 4, 3) := by decide +kernel
theorem dX12_rates_144 : decode cX12_rates 144 = .ok (.iconst 0, 1) := by decide +kernel
theorem dX12_rates_145 : decode cX12_rates 145 = .ok (.istore 10, 2) := by decide +kernel
theorem dX12_rates_147 : decode cX12_rates 147 = .ok (.iinc 11 1, 3) := by decide +kernel
theorem dX12_rates_150 : decode cX12_rates 150 = .ok (.goto (-59), 3) := by decide +kernel
theorem dX12_rates_153 : decode cX12_rates 153 = .ok (.iload 10, 2) := by decide +kernel
theorem dX12_rates_155 : decode cX12_rates 155 = .ok (.ifCond .ne 6, 3) := by decide +kernel
theorem dX12_rates_158 : decode cX12_rates 158 = .ok (.goto 86, 3) := by decide +kernel
theorem dX12_rates_161 : decode cX12_rates 161 = .ok (.iload 4, 2) := by decide +kernel
theorem dX12_rates_163 : decode cX12_rates 163 = .ok (.ifCond .ne 8, 3) := by decide +kernel
theorem dX12_rates_166 : decode cX12_rates 166 = .ok (.iload 9, 2) := by decide +kernel
theorem dX12_rates_168 : decode cX12_rates 168 = .ok (.goto 5, 3) := by decide +kernel
theorem dX12_rates_171 : decode cX12_rates 171 = .ok (.iload 5, 2) := by decide +kernel
theorem dX12_rates_173 : decode cX12_rates 173 = .ok (.istore 5, 2) := by decide +kernel
theorem dX12_rates_175 : decode cX12_rates 175 = .ok (.iload 9, 2) := by decide +kernel
theorem dX12_rates_177 : decode cX12_rates 177 = .ok (.istore 6, 2) := by decide +kernel
theorem dX12_rates_179 : decode cX12_rates 179 = .ok (.iload_n 3, 1) := by decide +kernel
theorem dX12_rates_180 : decode cX12_rates 180 = .ok (.ifCond .le 61, 3) := by decide +kernel
theorem dX12_rates_183 : decode cX12_rates 183 = .ok (.aload_n 0, 1) := by decide +kernel
theorem dX12_rates_184 : decode cX12_rates 184 = .ok (.getfield 13, 3) := by decide +kernel
theorem dX12_rates_187 : decode cX12_rates 187 = .ok (.sipush 944, 3) := by decide +kernel
theorem dX12_rates_190 : decode cX12_rates 190 = .ok (.iload_n 3, 1) := by decide +kernel
theorem dX12_rates_191 : decode cX12_rates 191 = .ok (.iadd, 1) := by decide +kernel
theorem dX12_rates_192 : decode cX12_rates 192 = .ok (.iconst 1, 1) := by decide +kernel
theorem dX12_rates_193 : decode cX12_rates 193 = .ok (.isub, 1) := by decide +kernel
theorem dX12_rates_194 : decode cX12_rates 194 = .ok (.iaload, 1) := by decide +kernel
theorem dX12_rates_195 : decode cX12_rates 195 = .ok (.iload_n 1, 1) := by decide +kernel
theorem dX12_rates_196 : decode cX12_rates 196 = .ok (.iload 9, 2) := by decide +kernel
theorem dX12_rates_198 : decode cX12_rates 198 = .ok (.invokestatic 393, 3) := by decide +kernel
theorem dX12_rates_201 : decode cX12_rates 201 = .ok (.istore 11, 2) := by decide +kernel
theorem dX12_rates_203 : decode cX12_rates 203 = .ok (.iload 4, 2) := by decide +kernel
theorem dX12_rates_205 : decode cX12_rates 205 = .ok (.ifCond .ne 8, 3) := by decide +kernel
theorem dX12_rates_208 : decode cX12_rates 208 = .ok (.iload 11, 2) := by decide +kernel
theorem dX12_rates_210 : decode cX12_rates 210 = .ok (.goto 10, 3) := by decide +kernel
theorem dX12_rates_213 : decode cX12_rates 213 = .ok (.iload 7, 2) := by decide +kernel
theorem dX12_rates_215 : decode cX12_rates 215 = .ok (.iload 11, 2) := by decide +kernel
theorem dX12_rates_217 : decode cX12_rates 217 = .ok (.invokestatic 209, 3) := by decide +kernel
theorem dX12_rates_220 : decode cX12_rates 220 = .ok (.istore 7, 2) := by decide +kernel
theorem dX12_rates_222 : decode cX12_rates 222 = .ok (.iload 4, 2) := by decide +kernel
theorem dX12_rates_224 : decode cX12_rates 224 = .ok (.ifCond .ne 8, 3) := by decide +kernel
theorem dX12_rates_227 : decode cX12_rates 227 = .ok (.iload 11, 2) := by decide +kernel
theorem dX12_rates_229 : decode cX12_rates 229 = .ok (.goto 10, 3) := by decide +kernel
theorem dX12_rates_232 : decode cX12_rates 232 = .ok (.iload 8, 2) := by decide +kernel
theorem dX12_rates_234 : decode cX12_rates 234 = .ok (.iload 11, 2) := by decide +kernel
theorem dX12_rates_236 : decode cX12_rates 236 = .ok (.invokestatic 214, 3) := by decide +kernel
theorem dX12_rates_239 : decode cX12_rates 239 = .ok (.istore 8, 2) := by decide +kernel
theorem dX12_rates_241 : decode cX12_rates 241 = .ok (.iinc 4 1, 3) := by decide +kernel
theorem dX12_rates_244 : decode cX12_rates 244 = .ok (.iinc 9 1, 3) := by decide +kernel
theorem dX12_rates_247 : decode cX12_rates 247 = .ok (.goto (-169), 3) := by decide +kernel
theorem dX12_rates_250 : decode cX12_rates 250 = .ok (.iload_n 2, 1) := by decide +kernel
theorem dX12_rates_251 : decode cX12_rates 251 = .ok (.ifCond .ne 8, 3) := by decide +kernel
theorem dX12_rates_254 : decode cX12_rates 254 = .ok (.iload 4, 2) := by decide +kernel
theorem dX12_rates_256 : decode cX12_rates 256 = .ok (.goto 35, 3) := by decide +kernel
theorem dX12_rates_259 : decode cX12_rates 259 = .ok (.iload_n 2, 1) := by decide +kernel
theorem dX12_rates_260 : decode cX12_rates 260 = .ok (.iconst 1, 1) := by decide +kernel
theorem dX12_rates_261 : decode cX12_rates 261 = .ok (.if_icmp .ne 8, 3) := by decide +kernel
theorem dX12_rates_264 : decode cX12_rates 264 = .ok (.iload 5, 2) := by decide +kernel
theorem dX12_rates_266 : decode cX12_rates 266 = .ok (.goto 25, 3) := by decide +kernel
theorem dX12_rates_269 : decode cX12_rates 269 = .ok (.iload_n 2, 1) := by decide +kernel
theorem dX12_rates_270 : decode cX12_rates 270 = .ok (.iconst 2, 1) := by decide +kernel
theorem dX12_rates_271 : decode cX12_rates 271 = .ok (.if_icmp .ne 8, 3) := by decide +kernel
theorem dX12_rates_274 : decode cX12_rates 274 = .ok (.iload 6, 2) := by decide +kernel
theorem dX12_rates_276 : decode cX12_rates 276 = .ok (.goto 15, 3) := by decide +kernel
theorem dX12_rates_279 : decode cX12_rates 279 = .ok (.iload_n 2, 1) := by decide +kernel
theorem dX12_rates_280 : decode cX12_rates 280 = .ok (.iconst 3, 1) := by decide +kernel
theorem dX12_rates_281 : decode cX12_rates 281 = .ok (.if_icmp .ne 8, 3) := by decide +kernel
theorem dX12_rates_284 : decode cX12_rates 284 = .ok (.iload 7, 2) := by decide +kernel
theorem dX12_rates_286 : decode cX12_rates 286 = .ok (.goto 5, 3) := by decide +kernel
theorem dX12_rates_289 : decode cX12_rates 289 = .ok (.iload 8, 2) := by decide +kernel
theorem dX12_rates_291 : decode cX12_rates 291 = .ok (.ireturn, 1) := by decide +kernel
theorem dX12_dullest_0 : decode cX12_dullest 0 = .ok (.aload_n 0, 1) := by decide +kernel
theorem dX12_dullest_1 : decode cX12_dullest 1 = .ok (.iconst 0, 1) := by decide +kernel
theorem dX12_dullest_2 : decode cX12_dullest 2 = .ok (.putfield 3, 3) := by decide +kernel
theorem dX12_dullest_5 : decode cX12_dullest 5 = .ok (.iconst (-1), 1) := by decide +kernel
theorem dX12_dullest_6 : decode cX12_dullest 6 = .ok (.istore_n 1, 1) := by decide +kernel
theorem dX12_dullest_7 : decode cX12_dullest 7 = .ok (.iconst 0, 1) := by decide +kernel
theorem dX12_dullest_8 : decode cX12_dullest 8 = .ok (.istore_n 2, 1) := by decide +kernel
theorem dX12_dullest_9 : decode cX12_dullest 9 = .ok (.iconst 1, 1) := by decide +kernel
theorem dX12_dullest_10 : decode cX12_dullest 10 = .ok (.istore_n 3, 1) := by decide +kernel
theorem dX12_dullest_11 : decode cX12_dullest 11 = .ok (.iconst 0, 1) := by decide +kernel
theorem dX12_dullest_12 : decode cX12_dullest 12 = .ok (.istore 4, 2) := by decide +kernel
theorem dX12_dullest_14 : decode cX12_dullest 14 = .ok (.iload 4, 2) := by decide +kernel
theorem dX12_dullest_16 : decode cX12_dullest 16 = .ok (.bipush 52, 2) := by decide +kernel
theorem dX12_dullest_18 : decode cX12_dullest 18 = .ok (.if_icmp .ge 128, 3) := by decide +kernel
theorem dX12_dullest_21 : decode cX12_dullest 21 = .ok (.iconst 0, 1) := by decide +kernel
theorem dX12_dullest_22 : decode cX12_dullest 22 = .ok (.istore 5, 2) := by decide +kernel
theorem dX12_dullest_24 : decode cX12_dullest 24 = .ok (.iconst 0, 1) := by decide +kernel
theorem dX12_dullest_25 : decode cX12_dullest 25 = .ok (.istore 6, 2) := by decide +kernel
theorem dX12_dullest_27 : decode cX12_dullest 27 = .ok (.iconst 0, 1) := by decide +kernel
theorem dX12_dullest_28 : decode cX12_dullest 28 = .ok (.istore 7, 2) := by decide +kernel
theorem dX12_dullest_30 : decode cX12_dullest 30 = .ok (.iload 7, 2) := by decide +kernel
theorem dX12_dullest_32 : decode cX12_dullest 32 = .ok (.aload_n 0, 1) := by decide +kernel
theorem dX12_dullest_33 : decode cX12_dullest 33 = .ok (.getfield 13, 3) := by decide +kernel
theorem dX12_dullest_36 : decode cX12_dullest 36 = .ok (.iconst 1, 1) := by decide +kernel
theorem dX12_dullest_37 : decode cX12_dullest 37 = .ok (.iaload, 1) := by decide +kernel
theorem dX12_dullest_38 : decode cX12_dullest 38 = .ok (.if_icmp .ge 79, 3) := by decide +kernel
theorem dX12_dullest_41 : decode cX12_dullest 41 = .ok (.iconst 0, 1) := by decide +kernel
theorem dX12_dullest_42 : decode cX12_dullest 42 = .ok (.istore 8, 2) := by decide +kernel
theorem dX12_dullest_44 : decode cX12_dullest 44 = .ok (.iload 8, 2) := by decide +kernel
theorem dX12_dullest_46 : decode cX12_dullest 46 = .ok (.aload_n 0, 1) := by decide +kernel
theorem dX12_dullest_47 : decode cX12_dullest 47 = .ok (.iload 7, 2) := by decide +kernel
theorem dX12_dullest_49 : decode cX12_dullest 49 = .ok (.iconst 2, 1) := by decide +kernel
theorem dX12_dullest_50 : decode cX12_dullest 50 = .ok (.invokevirtual 235, 3) := by decide +kernel
theorem dX12_dullest_53 : decode cX12_dullest 53 = .ok (.if_icmp .ge 58, 3) := by decide +kernel
theorem dX12_dullest_56 : decode cX12_dullest 56 = .ok (.aload_n 0, 1) := by decide +kernel
theorem dX12_dullest_57 : decode cX12_dullest 57 = .ok (.iload 7, 2) := by decide +kernel
theorem dX12_dullest_59 : decode cX12_dullest 59 = .ok (.invokevirtual 257, 3) := by decide +kernel
theorem dX12_dullest_62 : decode cX12_dullest 62 = .ok (.ifCond .eq 49, 3) := by decide +kernel
theorem dX12_dullest_65 : decode cX12_dullest 65 = .ok (.aload_n 0, 1) := by decide +kernel
theorem dX12_dullest_66 : decode cX12_dullest 66 = .ok (.iload 7, 2) := by decide +kernel
theorem dX12_dullest_68 : decode cX12_dullest 68 = .ok (.iload 8, 2) := by decide +kernel
theorem dX12_dullest_70 : decode cX12_dullest 70 = .ok (.invokevirtual 251, 3) := by decide +kernel
theorem dX12_dullest_73 : decode cX12_dullest 73 = .ok (.iload 4, 2) := by decide +kernel
theorem dX12_dullest_75 : decode cX12_dullest 75 = .ok (.if_icmp .eq 6, 3) := by decide +kernel
theorem dX12_dullest_78 : decode cX12_dullest 78 = .ok (.goto 27, 3) := by decide +kernel
theorem dX12_dullest_81 : decode cX12_dullest 81 = .ok (.iinc 5 1, 3) := by decide +kernel
theorem dX12_dullest_84 : decode cX12_dullest 84 = .ok (.iload 6, 2) := by decide +kernel
theorem dX12_dullest_86 : decode cX12_dullest 86 = .ok (.aload_n 0, 1) := by decide +kernel
theorem dX12_dullest_87 : decode cX12_dullest 87 = .ok (.iload 7, 2) := by decide +kernel
theorem dX12_dullest_89 : decode cX12_dullest 89 = .ok (.iload 8, 2) := by decide +kernel
theorem dX12_dullest_91 : decode cX12_dullest 91 = .ok (.invokevirtual 316, 3) := by decide +kernel
theorem dX12_dullest_94 : decode cX12_dullest 94 = .ok (.ifCond .ne 7, 3) := by decide +kernel
theorem dX12_dullest_97 : decode cX12_dullest 97 = .ok (.iconst 0, 1) := by decide +kernel
theorem dX12_dullest_98 : decode cX12_dullest 98 = .ok (.goto 4, 3) := by decide +kernel
theorem dX12_dullest_101 : decode cX12_dullest 101 = .ok (.iconst 1, 1) := by decide +kernel
theorem dX12_dullest_102 : decode cX12_dullest 102 = .ok (.iadd, 1) := by decide +kernel
theorem dX12_dullest_103 : decode cX12_dullest 103 = .ok (.istore 6, 2) := by decide +kernel
theorem dX12_dullest_105 : decode cX12_dullest 105 = .ok (.iinc 8 1, 3) := by decide +kernel
theorem dX12_dullest_108 : decode cX12_dullest 108 = .ok (.goto (-64), 3) := by decide +kernel
theorem dX12_dullest_111 : decode cX12_dullest 111 = .ok (.iinc 7 1, 3) := by decide +kernel
theorem dX12_dullest_114 : decode cX12_dullest 114 = .ok (.goto (-84), 3) := by decide +kernel
theorem dX12_dullest_117 : decode cX12_dullest 117 = .ok (.iload 6, 2) := by decide +kernel
theorem dX12_dullest_119 : decode cX12_dullest 119 = .ok (.iload_n 3, 1) := by decide +kernel
theorem dX12_dullest_120 : decode cX12_dullest 120 = .ok (.imul, 1) := by decide +kernel
theorem dX12_dullest_121 : decode cX12_dullest 121 = .ok (.iload_n 2, 1) := by decide +kernel
theorem dX12_dullest_122 : decode cX12_dullest 122 = .ok (.iload 5, 2) := by decide +kernel
theorem dX12_dullest_124 : decode cX12_dullest 124 = .ok (.imul, 1) := by decide +kernel
theorem dX12_dullest_125 : decode cX12_dullest 125 = .ok (.if_icmp .gt 6, 3) := by decide +kernel
theorem dX12_dullest_128 : decode cX12_dullest 128 = .ok (.goto 12, 3) := by decide +kernel
theorem dX12_dullest_131 : decode cX12_dullest 131 = .ok (.iload 4, 2) := by decide +kernel
theorem dX12_dullest_133 : decode cX12_dullest 133 = .ok (.istore_n 1, 1) := by decide +kernel
theorem dX12_dullest_134 : decode cX12_dullest 134 = .ok (.iload 6, 2) := by decide +kernel
theorem dX12_dullest_136 : decode cX12_dullest 136 = .ok (.istore_n 2, 1) := by decide +kernel
theorem dX12_dullest_137 : decode cX12_dullest 137 = .ok (.iload 5, 2) := by decide +kernel
theorem dX12_dullest_139 : decode cX12_dullest 139 = .ok (.istore_n 3, 1) := by decide +kernel
theorem dX12_dullest_140 : decode cX12_dullest 140 = .ok (.iinc 4 1, 3) := by decide +kernel
theorem dX12_dullest_143 : decode cX12_dullest 143 = .ok (.goto (-129), 3) := by decide +kernel
theorem dX12_dullest_146 : decode cX12_dullest 146 = .ok (.iload_n 1, 1) := by decide +kernel
theorem dX12_dullest_147 : decode cX12_dullest 147 = .ok (.ireturn, 1) := by decide +kernel
theorem dX12_exchanges_0 : decode cX12_exchanges 0 = .ok (.iconst 0, 1) := by decide +kernel
theorem dX12_exchanges_1 : decode cX12_exchanges 1 = .ok (.istore_n 3, 1) := by decide +kernel
theorem dX12_exchanges_2 : decode cX12_exchanges 2 = .ok (.iload_n 3, 1) := by decide +kernel
theorem dX12_exchanges_3 : decode cX12_exchanges 3 = .ok (.iconst 3, 1) := by decide +kernel
theorem dX12_exchanges_4 : decode cX12_exchanges 4 = .ok (.if_icmp .ge 51, 3) := by decide +kernel
theorem dX12_exchanges_7 : decode cX12_exchanges 7 = .ok (.aload_n 0, 1) := by decide +kernel
theorem dX12_exchanges_8 : decode cX12_exchanges 8 = .ok (.iload_n 1, 1) := by decide +kernel
theorem dX12_exchanges_9 : decode cX12_exchanges 9 = .ok (.iload_n 3, 1) := by decide +kernel
theorem dX12_exchanges_10 : decode cX12_exchanges 10 = .ok (.invokevirtual 223, 3) := by decide +kernel
theorem dX12_exchanges_13 : decode cX12_exchanges 13 = .ok (.istore 4, 2) := by decide +kernel
theorem dX12_exchanges_15 : decode cX12_exchanges 15 = .ok (.aload_n 0, 1) := by decide +kernel
theorem dX12_exchanges_16 : decode cX12_exchanges 16 = .ok (.getfield 13, 3) := by decide +kernel
theorem dX12_exchanges_19 : decode cX12_exchanges 19 = .ok (.bipush 8, 2) := by decide +kernel
theorem dX12_exchanges_21 : decode cX12_exchanges 21 = .ok (.iconst 3, 1) := by decide +kernel
theorem dX12_exchanges_22 : decode cX12_exchanges 22 = .ok (.iload_n 1, 1) := by decide +kernel
theorem dX12_exchanges_23 : decode cX12_exchanges 23 = .ok (.imul, 1) := by decide +kernel
theorem dX12_exchanges_24 : decode cX12_exchanges 24 = .ok (.iadd, 1) := by decide +kernel
theorem dX12_exchanges_25 : decode cX12_exchanges 25 = .ok (.iload_n 3, 1) := by decide +kernel
theorem dX12_exchanges_26 : decode cX12_exchanges 26 = .ok (.iadd, 1) := by decide +kernel
theorem dX12_exchanges_27 : decode cX12_exchanges 27 = .ok (.aload_n 0, 1) := by decide +kernel
theorem dX12_exchanges_28 : decode cX12_exchanges 28 = .ok (.iload_n 2, 1) := by decide +kernel
theorem dX12_exchanges_29 : decode cX12_exchanges 29 = .ok (.iload_n 3, 1) := by decide +kernel
theorem dX12_exchanges_30 : decode cX12_exchanges 30 = .ok (.invokevirtual 223, 3) := by decide +kernel
theorem dX12_exchanges_33 : decode cX12_exchanges 33 = .ok (.iastore, 1) := by decide +kernel
theorem dX12_exchanges_34 : decode cX12_exchanges 34 = .ok (.aload_n 0, 1) := by decide +kernel
theorem dX12_exchanges_35 : decode cX12_exchanges 35 = .ok (.getfield 13, 3) := by decide +kernel
theorem dX12_exchanges_38 : decode cX12_exchanges 38 = .ok (.bipush 8, 2) := by decide +kernel
theorem dX12_exchanges_40 : decode cX12_exchanges 40 = .ok (.iconst 3, 1) := by decide +kernel
theorem dX12_exchanges_41 : decode cX12_exchanges 41 = .ok (.iload_n 2, 1) := by decide +kernel
theorem dX12_exchanges_42 : decode cX12_exchanges 42 = .ok (.imul, 1) := by decide +kernel
theorem dX12_exchanges_43 : decode cX12_exchanges 43 = .ok (.iadd, 1) := by decide +kernel
theorem dX12_exchanges_44 : decode cX12_exchanges 44 = .ok (.iload_n 3, 1) := by decide +kernel
theorem dX12_exchanges_45 : decode cX12_exchanges 45 = .ok (.iadd, 1) := by decide +kernel
theorem dX12_exchanges_46 : decode cX12_exchanges 46 = .ok (.iload 4, 2) := by decide +kernel
theorem dX12_exchanges_48 : decode cX12_exchanges 48 = .ok (.iastore, 1) := by decide +kernel
theorem dX12_exchanges_49 : decode cX12_exchanges 49 = .ok (.iinc 3 1, 3) := by decide +kernel
theorem dX12_exchanges_52 : decode cX12_exchanges 52 = .ok (.goto (-50), 3) := by decide +kernel
theorem dX12_exchanges_55 : decode cX12_exchanges 55 = .ok (.return_, 1) := by decide +kernel
theorem dX12_heldBy_0 : decode cX12_heldBy 0 = .ok (.iconst 0, 1) := by decide +kernel
theorem dX12_heldBy_1 : decode cX12_heldBy 1 = .ok (.istore 4, 2) := by decide +kernel
theorem dX12_heldBy_3 : decode cX12_heldBy 3 = .ok (.iconst 0, 1) := by decide +kernel
theorem dX12_heldBy_4 : decode cX12_heldBy 4 = .ok (.istore 5, 2) := by decide +kernel
theorem dX12_heldBy_6 : decode cX12_heldBy 6 = .ok (.iload 5, 2) := by decide +kernel
theorem dX12_heldBy_8 : decode cX12_heldBy 8 = .ok (.aload_n 0, 1) := by decide +kernel
theorem dX12_heldBy_9 : decode cX12_heldBy 9 = .ok (.getfield 13, 3) := by decide +kernel
theorem dX12_heldBy_12 : decode cX12_heldBy 12 = .ok (.iconst 1, 1) := by decide +kernel
theorem dX12_heldBy_13 : decode cX12_heldBy 13 = .ok (.iaload, 1) := by decide +kernel
theorem dX12_heldBy_14 : decode cX12_heldBy 14 = .ok (.if_icmp .ge 77, 3) := by decide +kernel
theorem dX12_heldBy_17 : decode cX12_heldBy 17 = .ok (.iconst 0, 1) := by decide +kernel
theorem dX12_heldBy_18 : decode cX12_heldBy 18 = .ok (.istore 6, 2) := by decide +kernel
theorem dX12_heldBy_20 : decode cX12_heldBy 20 = .ok (.iload 6, 2) := by decide +kernel
theorem dX12_heldBy_22 : decode cX12_heldBy 22 = .ok (.aload_n 0, 1) := by decide +kernel
theorem dX12_heldBy_23 : decode cX12_heldBy 23 = .ok (.iload 5, 2) := by decide +kernel
theorem dX12_heldBy_25 : decode cX12_heldBy 25 = .ok (.iconst 2, 1) := by decide +kernel
theorem dX12_heldBy_26 : decode cX12_heldBy 26 = .ok (.invokevirtual 235, 3) := by decide +kernel
theorem dX12_heldBy_29 : decode cX12_heldBy 29 = .ok (.if_icmp .ge 56, 3) := by decide +kernel
theorem dX12_heldBy_32 : decode cX12_heldBy 32 = .ok (.aload_n 0, 1) := by decide +kernel
theorem dX12_heldBy_33 : decode cX12_heldBy 33 = .ok (.iload 5, 2) := by decide +kernel
theorem dX12_heldBy_35 : decode cX12_heldBy 35 = .ok (.invokevirtual 257, 3) := by decide +kernel
theorem dX12_heldBy_38 : decode cX12_heldBy 38 = .ok (.ifCond .eq 47, 3) := by decide +kernel
theorem dX12_heldBy_41 : decode cX12_heldBy 41 = .ok (.aload_n 0, 1) := by decide +kernel
theorem dX12_heldBy_42 : decode cX12_heldBy 42 = .ok (.iload 5, 2) := by decide +kernel
theorem dX12_heldBy_44 : decode cX12_heldBy 44 = .ok (.iload 6, 2) := by decide +kernel
theorem dX12_heldBy_46 : decode cX12_heldBy 46 = .ok (.invokevirtual 251, 3) := by decide +kernel
theorem dX12_heldBy_49 : decode cX12_heldBy 49 = .ok (.iload_n 2, 1) := by decide +kernel
theorem dX12_heldBy_50 : decode cX12_heldBy 50 = .ok (.if_icmp .eq 15, 3) := by decide +kernel
theorem dX12_heldBy_53 : decode cX12_heldBy 53 = .ok (.aload_n 0, 1) := by decide +kernel
theorem dX12_heldBy_54 : decode cX12_heldBy 54 = .ok (.iload 5, 2) := by decide +kernel
theorem dX12_heldBy_56 : decode cX12_heldBy 56 = .ok (.iload 6, 2) := by decide +kernel
theorem dX12_heldBy_58 : decode cX12_heldBy 58 = .ok (.invokevirtual 251, 3) := by decide +kernel
theorem dX12_heldBy_61 : decode cX12_heldBy 61 = .ok (.iload_n 3, 1) := by decide +kernel
theorem dX12_heldBy_62 : decode cX12_heldBy 62 = .ok (.if_icmp .ne 17, 3) := by decide +kernel
theorem dX12_heldBy_65 : decode cX12_heldBy 65 = .ok (.iload 4, 2) := by decide +kernel
theorem dX12_heldBy_67 : decode cX12_heldBy 67 = .ok (.aload_n 0, 1) := by decide +kernel
theorem dX12_heldBy_68 : decode cX12_heldBy 68 = .ok (.iload_n 1, 1) := by decide +kernel
theorem dX12_heldBy_69 : decode cX12_heldBy 69 = .ok (.iload 5, 2) := by decide +kernel
theorem dX12_heldBy_71 : decode cX12_heldBy 71 = .ok (.iload 6, 2) := by decide +kernel
theorem dX12_heldBy_73 : decode cX12_heldBy 73 = .ok (.invokevirtual 298, 3) := by decide +kernel
theorem dX12_heldBy_76 : decode cX12_heldBy 76 = .ok (.iadd, 1) := by decide +kernel
theorem dX12_heldBy_77 : decode cX12_heldBy 77 = .ok (.istore 4, 2) := by decide +kernel
theorem dX12_heldBy_79 : decode cX12_heldBy 79 = .ok (.iinc 6 1, 3) := by decide +kernel
theorem dX12_heldBy_82 : decode cX12_heldBy 82 = .ok (.goto (-62), 3) := by decide +kernel
theorem dX12_heldBy_85 : decode cX12_heldBy 85 = .ok (.iinc 5 1, 3) := by decide +kernel
theorem dX12_heldBy_88 : decode cX12_heldBy 88 = .ok (.goto (-82), 3) := by decide +kernel
theorem dX12_heldBy_91 : decode cX12_heldBy 91 = .ok (.iload 4, 2) := by decide +kernel
theorem dX12_heldBy_93 : decode cX12_heldBy 93 = .ok (.ireturn, 1) := by decide +kernel
theorem dX12_change_0 : decode cX12_change 0 = .ok (.aload_n 0, 1) := by decide +kernel
theorem dX12_change_1 : decode cX12_change 1 = .ok (.iconst 0, 1) := by decide +kernel
theorem dX12_change_2 : decode cX12_change 2 = .ok (.putfield 3, 3) := by decide +kernel
theorem dX12_change_5 : decode cX12_change 5 = .ok (.aload_n 0, 1) := by decide +kernel
theorem dX12_change_6 : decode cX12_change 6 = .ok (.aload_n 0, 1) := by decide +kernel
theorem dX12_change_7 : decode cX12_change 7 = .ok (.iload_n 1, 1) := by decide +kernel
theorem dX12_change_8 : decode cX12_change 8 = .ok (.invokevirtual 295, 3) := by decide +kernel
theorem dX12_change_11 : decode cX12_change 11 = .ok (.iconst 1, 1) := by decide +kernel
theorem dX12_change_12 : decode cX12_change 12 = .ok (.invokevirtual 195, 3) := by decide +kernel
theorem dX12_change_15 : decode cX12_change 15 = .ok (.ifCond .eq 5, 3) := by decide +kernel
theorem dX12_change_18 : decode cX12_change 18 = .ok (.iconst 0, 1) := by decide +kernel
theorem dX12_change_19 : decode cX12_change 19 = .ok (.ireturn, 1) := by decide +kernel
theorem dX12_change_20 : decode cX12_change 20 = .ok (.iconst (-1), 1) := by decide +kernel
theorem dX12_change_21 : decode cX12_change 21 = .ok (.istore_n 2, 1) := by decide +kernel
theorem dX12_change_22 : decode cX12_change 22 = .ok (.iconst 0, 1) := by decide +kernel
theorem dX12_change_23 : decode cX12_change 23 = .ok (.istore_n 3, 1) := by decide +kernel
theorem dX12_change_24 : decode cX12_change 24 = .ok (.iconst 0, 1) := by decide +kernel
theorem dX12_change_25 : decode cX12_change 25 = .ok (.istore 4, 2) := by decide +kernel
theorem dX12_change_27 : decode cX12_change 27 = .ok (.iload 4, 2) := by decide +kernel
theorem dX12_change_29 : decode cX12_change 29 = .ok (.bipush 52, 2) := by decide +kernel
theorem dX12_change_31 : decode cX12_change 31 = .ok (.if_icmp .ge 93, 3) := by decide +kernel
theorem dX12_change_34 : decode cX12_change 34 = .ok (.iload 4, 2) := by decide +kernel
theorem dX12_change_36 : decode cX12_change 36 = .ok (.iconst 1, 1) := by decide +kernel
theorem dX12_change_37 : decode cX12_change 37 = .ok (.iadd, 1) := by decide +kernel
theorem dX12_change_38 : decode cX12_change 38 = .ok (.istore 5, 2) := by decide +kernel
theorem dX12_change_40 : decode cX12_change 40 = .ok (.iload 5, 2) := by decide +kernel
theorem dX12_change_42 : decode cX12_change 42 = .ok (.bipush 52, 2) := by decide +kernel
theorem dX12_change_44 : decode cX12_change 44 = .ok (.if_icmp .ge 74, 3) := by decide +kernel
theorem dX12_change_47 : decode cX12_change 47 = .ok (.aload_n 0, 1) := by decide +kernel
theorem dX12_change_48 : decode cX12_change 48 = .ok (.iload_n 1, 1) := by decide +kernel
theorem dX12_change_49 : decode cX12_change 49 = .ok (.iload 4, 2) := by decide +kernel
theorem dX12_change_51 : decode cX12_change 51 = .ok (.iload 5, 2) := by decide +kernel
theorem dX12_change_53 : decode cX12_change 53 = .ok (.invokevirtual 396, 3) := by decide +kernel
theorem dX12_change_56 : decode cX12_change 56 = .ok (.istore 6, 2) := by decide +kernel
theorem dX12_change_58 : decode cX12_change 58 = .ok (.aload_n 0, 1) := by decide +kernel
theorem dX12_change_59 : decode cX12_change 59 = .ok (.iload 4, 2) := by decide +kernel
theorem dX12_change_61 : decode cX12_change 61 = .ok (.iload 5, 2) := by decide +kernel
theorem dX12_change_63 : decode cX12_change 63 = .ok (.invokevirtual 399, 3) := by decide +kernel
theorem dX12_change_66 : decode cX12_change 66 = .ok (.aload_n 0, 1) := by decide +kernel
theorem dX12_change_67 : decode cX12_change 67 = .ok (.iload_n 1, 1) := by decide +kernel
theorem dX12_change_68 : decode cX12_change 68 = .ok (.iload 4, 2) := by decide +kernel
theorem dX12_change_70 : decode cX12_change 70 = .ok (.iload 5, 2) := by decide +kernel
theorem dX12_change_72 : decode cX12_change 72 = .ok (.invokevirtual 396, 3) := by decide +kernel
theorem dX12_change_75 : decode cX12_change 75 = .ok (.istore 7, 2) := by decide +kernel
theorem dX12_change_77 : decode cX12_change 77 = .ok (.aload_n 0, 1) := by decide +kernel
theorem dX12_change_78 : decode cX12_change 78 = .ok (.iload 4, 2) := by decide +kernel
theorem dX12_change_80 : decode cX12_change 80 = .ok (.iload 5, 2) := by decide +kernel
theorem dX12_change_82 : decode cX12_change 82 = .ok (.invokevirtual 399, 3) := by decide +kernel
theorem dX12_change_85 : decode cX12_change 85 = .ok (.iload 7, 2) := by decide +kernel
theorem dX12_change_87 : decode cX12_change 87 = .ok (.iload 6, 2) := by decide +kernel
theorem dX12_change_89 : decode cX12_change 89 = .ok (.isub, 1) := by decide +kernel
theorem dX12_change_90 : decode cX12_change 90 = .ok (.iload_n 3, 1) := by decide +kernel
theorem dX12_change_91 : decode cX12_change 91 = .ok (.if_icmp .gt 6, 3) := by decide +kernel
theorem dX12_change_94 : decode cX12_change 94 = .ok (.goto 18, 3) := by decide +kernel
theorem dX12_change_97 : decode cX12_change 97 = .ok (.bipush 52, 2) := by decide +kernel
theorem dX12_change_99 : decode cX12_change 99 = .ok (.iload 4, 2) := by decide +kernel
theorem dX12_change_101 : decode cX12_change 101 = .ok (.imul, 1) := by decide +kernel
theorem dX12_change_102 : decode cX12_change 102 = .ok (.iload 5, 2) := by decide +kernel
theorem dX12_change_104 : decode cX12_change 104 = .ok (.iadd, 1) := by decide +kernel
theorem dX12_change_105 : decode cX12_change 105 = .ok (.istore_n 2, 1) := by decide +kernel
theorem dX12_change_106 : decode cX12_change 106 = .ok (.iload 7, 2) := by decide +kernel
theorem dX12_change_108 : decode cX12_change 108 = .ok (.iload 6, 2) := by decide +kernel
theorem dX12_change_110 : decode cX12_change 110 = .ok (.isub, 1) := by decide +kernel
theorem dX12_change_111 : decode cX12_change 111 = .ok (.istore_n 3, 1) := by decide +kernel
theorem dX12_change_112 : decode cX12_change 112 = .ok (.iinc 5 1, 3) := by decide +kernel
theorem dX12_change_115 : decode cX12_change 115 = .ok (.goto (-75), 3) := by decide +kernel
theorem dX12_change_118 : decode cX12_change 118 = .ok (.iinc 4 1, 3) := by decide +kernel
theorem dX12_change_121 : decode cX12_change 121 = .ok (.goto (-94), 3) := by decide +kernel
theorem dX12_change_124 : decode cX12_change 124 = .ok (.iload_n 2, 1) := by decide +kernel
theorem dX12_change_125 : decode cX12_change 125 = .ok (.ireturn, 1) := by decide +kernel
theorem dX12_count_0 : decode cX12_count 0 = .ok (.aload_n 0, 1) := by decide +kernel
theorem dX12_count_1 : decode cX12_count 1 = .ok (.iconst 0, 1) := by decide +kernel
theorem dX12_count_2 : decode cX12_count 2 = .ok (.putfield 3, 3) := by decide +kernel
theorem dX12_count_5 : decode cX12_count 5 = .ok (.iconst 0, 1) := by decide +kernel
theorem dX12_count_6 : decode cX12_count 6 = .ok (.istore_n 2, 1) := by decide +kernel
theorem dX12_count_7 : decode cX12_count 7 = .ok (.iload_n 1, 1) := by decide +kernel
theorem dX12_count_8 : decode cX12_count 8 = .ok (.tableswitch 211 0 9 #[56, 63, 91, 98, 134, 142, 149, 156, 163, 170], 56) := by decide +kernel
theorem dX12_count_64 : decode cX12_count 64 = .ok (.aload_n 0, 1) := by decide +kernel
theorem dX12_count_65 : decode cX12_count 65 = .ok (.getfield 13, 3) := by decide +kernel
theorem dX12_count_68 : decode cX12_count 68 = .ok (.iconst 0, 1) := by decide +kernel
theorem dX12_count_69 : decode cX12_count 69 = .ok (.iaload, 1) := by decide +kernel
theorem dX12_count_70 : decode cX12_count 70 = .ok (.ireturn, 1) := by decide +kernel
theorem dX12_count_71 : decode cX12_count 71 = .ok (.iconst 0, 1) := by decide +kernel
theorem dX12_count_72 : decode cX12_count 72 = .ok (.istore_n 3, 1) := by decide +kernel
theorem dX12_count_73 : decode cX12_count 73 = .ok (.iload_n 3, 1) := by decide +kernel
theorem dX12_count_74 : decode cX12_count 74 = .ok (.aload_n 0, 1) := by decide +kernel
theorem dX12_count_75 : decode cX12_count 75 = .ok (.getfield 13, 3) := by decide +kernel
theorem dX12_count_78 : decode cX12_count 78 = .ok (.iconst 0, 1) := by decide +kernel
theorem dX12_count_79 : decode cX12_count 79 = .ok (.iaload, 1) := by decide +kernel
theorem dX12_count_80 : decode cX12_count 80 = .ok (.if_icmp .ge 17, 3) := by decide +kernel
theorem dX12_count_83 : decode cX12_count 83 = .ok (.iload_n 2, 1) := by decide +kernel
theorem dX12_count_84 : decode cX12_count 84 = .ok (.aload_n 0, 1) := by decide +kernel
theorem dX12_count_85 : decode cX12_count 85 = .ok (.iload_n 3, 1) := by decide +kernel
theorem dX12_count_86 : decode cX12_count 86 = .ok (.invokevirtual 229, 3) := by decide +kernel
theorem dX12_count_89 : decode cX12_count 89 = .ok (.iadd, 1) := by decide +kernel
theorem dX12_count_90 : decode cX12_count 90 = .ok (.istore_n 2, 1) := by decide +kernel
theorem dX12_count_91 : decode cX12_count 91 = .ok (.iinc 3 1, 3) := by decide +kernel
theorem dX12_count_94 : decode cX12_count 94 = .ok (.goto (-21), 3) := by decide +kernel
theorem dX12_count_97 : decode cX12_count 97 = .ok (.iload_n 2, 1) := by decide +kernel
theorem dX12_count_98 : decode cX12_count 98 = .ok (.ireturn, 1) := by decide +kernel
theorem dX12_count_99 : decode cX12_count 99 = .ok (.aload_n 0, 1) := by decide +kernel
theorem dX12_count_100 : decode cX12_count 100 = .ok (.getfield 13, 3) := by decide +kernel
theorem dX12_count_103 : decode cX12_count 103 = .ok (.iconst 1, 1) := by decide +kernel
theorem dX12_count_104 : decode cX12_count 104 = .ok (.iaload, 1) := by decide +kernel
theorem dX12_count_105 : decode cX12_count 105 = .ok (.ireturn, 1) := by decide +kernel
theorem dX12_count_106 : decode cX12_count 106 = .ok (.iconst 0, 1) := by decide +kernel
theorem dX12_count_107 : decode cX12_count 107 = .ok (.istore_n 3, 1) := by decide +kernel
theorem dX12_count_108 : decode cX12_count 108 = .ok (.iload_n 3, 1) := by decide +kernel
theorem dX12_count_109 : decode cX12_count 109 = .ok (.aload_n 0, 1) := by decide +kernel
theorem dX12_count_110 : decode cX12_count 110 = .ok (.getfield 13, 3) := by decide +kernel
theorem dX12_count_113 : decode cX12_count 113 = .ok (.iconst 1, 1) := by decide +kernel
theorem dX12_count_114 : decode cX12_count 114 = .ok (.iaload, 1) := by decide +kernel
theorem dX12_count_115 : decode cX12_count 115 = .ok (.if_icmp .ge 25, 3) := by decide +kernel
theorem dX12_count_118 : decode cX12_count 118 = .ok (.iload_n 2, 1) := by decide +kernel
theorem dX12_count_119 : decode cX12_count 119 = .ok (.aload_n 0, 1) := by decide +kernel
theorem dX12_count_120 : decode cX12_count 120 = .ok (.iload_n 3, 1) := by decide +kernel
theorem dX12_count_121 : decode cX12_count 121 = .ok (.invokevirtual 257, 3) := by decide +kernel
theorem dX12_count_124 : decode cX12_count 124 = .ok (.ifCond .eq 7, 3) := by decide +kernel
theorem dX12_count_127 : decode cX12_count 127 = .ok (.iconst 1, 1) := by decide +kernel
theorem dX12_count_128 : decode cX12_count 128 = .ok (.goto 4, 3) := by decide +kernel
theorem dX12_count_131 : decode cX12_count 131 = .ok (.iconst 0, 1) := by decide +kernel
theorem dX12_count_132 : decode cX12_count 132 = .ok (.iadd, 1) := by decide +kernel
theorem dX12_count_133 : decode cX12_count 133 = .ok (.istore_n 2, 1) := by decide +kernel
theorem dX12_count_134 : decode cX12_count 134 = .ok (.iinc 3 1, 3) := by decide +kernel
theorem dX12_count_137 : decode cX12_count 137 = .ok (.goto (-29), 3) := by decide +kernel
theorem dX12_count_140 : decode cX12_count 140 = .ok (.iload_n 2, 1) := by decide +kernel
theorem dX12_count_141 : decode cX12_count 141 = .ok (.ireturn, 1) := by decide +kernel
theorem dX12_count_142 : decode cX12_count 142 = .ok (.aload_n 0, 1) := by decide +kernel
theorem dX12_count_143 : decode cX12_count 143 = .ok (.getfield 13, 3) := by decide +kernel
theorem dX12_count_146 : decode cX12_count 146 = .ok (.bipush 6, 2) := by decide +kernel
theorem dX12_count_148 : decode cX12_count 148 = .ok (.iaload, 1) := by decide +kernel
theorem dX12_count_149 : decode cX12_count 149 = .ok (.ireturn, 1) := by decide +kernel
theorem dX12_count_150 : decode cX12_count 150 = .ok (.aload_n 0, 1) := by decide +kernel
theorem dX12_count_151 : decode cX12_count 151 = .ok (.getfield 13, 3) := by decide +kernel
theorem dX12_count_154 : decode cX12_count 154 = .ok (.iconst 2, 1) := by decide +kernel
theorem dX12_count_155 : decode cX12_count 155 = .ok (.iaload, 1) := by decide +kernel
theorem dX12_count_156 : decode cX12_count 156 = .ok (.ireturn, 1) := by decide +kernel
theorem dX12_count_157 : decode cX12_count 157 = .ok (.aload_n 0, 1) := by decide +kernel
theorem dX12_count_158 : decode cX12_count 158 = .ok (.getfield 13, 3) := by decide +kernel
theorem dX12_count_161 : decode cX12_count 161 = .ok (.iconst 3, 1) := by decide +kernel
theorem dX12_count_162 : decode cX12_count 162 = .ok (.iaload, 1) := by decide +kernel
theorem dX12_count_163 : decode cX12_count 163 = .ok (.ireturn, 1) := by decide +kernel
theorem dX12_count_164 : decode cX12_count 164 = .ok (.aload_n 0, 1) := by decide +kernel
theorem dX12_count_165 : decode cX12_count 165 = .ok (.getfield 13, 3) := by decide +kernel
theorem dX12_count_168 : decode cX12_count 168 = .ok (.iconst 5, 1) := by decide +kernel
theorem dX12_count_169 : decode cX12_count 169 = .ok (.iaload, 1) := by decide +kernel
theorem dX12_count_170 : decode cX12_count 170 = .ok (.ireturn, 1) := by decide +kernel
theorem dX12_count_171 : decode cX12_count 171 = .ok (.aload_n 0, 1) := by decide +kernel
theorem dX12_count_172 : decode cX12_count 172 = .ok (.getfield 13, 3) := by decide +kernel
theorem dX12_count_175 : decode cX12_count 175 = .ok (.iconst 4, 1) := by decide +kernel
theorem dX12_count_176 : decode cX12_count 176 = .ok (.iaload, 1) := by decide +kernel
theorem dX12_count_177 : decode cX12_count 177 = .ok (.ireturn, 1) := by decide +kernel
theorem dX12_count_178 : decode cX12_count 178 = .ok (.iconst 0, 1) := by decide +kernel
theorem dX12_count_179 : decode cX12_count 179 = .ok (.istore_n 3, 1) := by decide +kernel
theorem dX12_count_180 : decode cX12_count 180 = .ok (.iload_n 3, 1) := by decide +kernel
theorem dX12_count_181 : decode cX12_count 181 = .ok (.aload_n 0, 1) := by decide +kernel
theorem dX12_count_182 : decode cX12_count 182 = .ok (.getfield 13, 3) := by decide +kernel
theorem dX12_count_185 : decode cX12_count 185 = .ok (.iconst 1, 1) := by decide +kernel
theorem dX12_count_186 : decode cX12_count 186 = .ok (.iaload, 1) := by decide +kernel
theorem dX12_count_187 : decode cX12_count 187 = .ok (.if_icmp .ge 30, 3) := by decide +kernel
theorem dX12_count_190 : decode cX12_count 190 = .ok (.iload_n 2, 1) := by decide +kernel
theorem dX12_count_191 : decode cX12_count 191 = .ok (.aload_n 0, 1) := by decide +kernel
theorem dX12_count_192 : decode cX12_count 192 = .ok (.iload_n 3, 1) := by decide +kernel
theorem dX12_count_193 : decode cX12_count 193 = .ok (.invokevirtual 257, 3) := by decide +kernel
theorem dX12_count_196 : decode cX12_count 196 = .ok (.ifCond .eq 12, 3) := by decide +kernel
theorem dX12_count_199 : decode cX12_count 199 = .ok (.aload_n 0, 1) := by decide +kernel
theorem dX12_count_200 : decode cX12_count 200 = .ok (.iload_n 3, 1) := by decide +kernel
theorem dX12_count_201 : decode cX12_count 201 = .ok (.iconst 0, 1) := by decide +kernel
theorem dX12_count_202 : decode cX12_count 202 = .ok (.invokevirtual 335, 3) := by decide +kernel
theorem dX12_count_205 : decode cX12_count 205 = .ok (.goto 4, 3) := by decide +kernel
theorem dX12_count_208 : decode cX12_count 208 = .ok (.iconst 0, 1) := by decide +kernel
theorem dX12_count_209 : decode cX12_count 209 = .ok (.iadd, 1) := by decide +kernel
theorem dX12_count_210 : decode cX12_count 210 = .ok (.istore_n 2, 1) := by decide +kernel
theorem dX12_count_211 : decode cX12_count 211 = .ok (.iinc 3 1, 3) := by decide +kernel
theorem dX12_count_214 : decode cX12_count 214 = .ok (.goto (-34), 3) := by decide +kernel
theorem dX12_count_217 : decode cX12_count 217 = .ok (.iload_n 2, 1) := by decide +kernel
theorem dX12_count_218 : decode cX12_count 218 = .ok (.ireturn, 1) := by decide +kernel
theorem dX12_count_219 : decode cX12_count 219 = .ok (.iconst (-1), 1) := by decide +kernel
theorem dX12_count_220 : decode cX12_count 220 = .ok (.ireturn, 1) := by decide +kernel
theorem dJ6_numberOfLeadingZeros_0f7a4_0 : decode cJ6_numberOfLeadingZeros_0f7a4 0 = .ok (.iload_n 0, 1) := by decide +kernel
theorem dJ6_numberOfLeadingZeros_0f7a4_1 : decode cJ6_numberOfLeadingZeros_0f7a4 1 = .ok (.ifCond .gt 14, 3) := by decide +kernel
theorem dJ6_numberOfLeadingZeros_0f7a4_4 : decode cJ6_numberOfLeadingZeros_0f7a4 4 = .ok (.iload_n 0, 1) := by decide +kernel
theorem dJ6_numberOfLeadingZeros_0f7a4_5 : decode cJ6_numberOfLeadingZeros_0f7a4 5 = .ok (.ifCond .ne 8, 3) := by decide +kernel
theorem dJ6_numberOfLeadingZeros_0f7a4_8 : decode cJ6_numberOfLeadingZeros_0f7a4 8 = .ok (.bipush 32, 2) := by decide +kernel
theorem dJ6_numberOfLeadingZeros_0f7a4_10 : decode cJ6_numberOfLeadingZeros_0f7a4 10 = .ok (.goto 4, 3) := by decide +kernel
theorem dJ6_numberOfLeadingZeros_0f7a4_13 : decode cJ6_numberOfLeadingZeros_0f7a4 13 = .ok (.iconst 0, 1) := by decide +kernel
theorem dJ6_numberOfLeadingZeros_0f7a4_14 : decode cJ6_numberOfLeadingZeros_0f7a4 14 = .ok (.ireturn, 1) := by decide +kernel
theorem dJ6_numberOfLeadingZeros_0f7a4_15 : decode cJ6_numberOfLeadingZeros_0f7a4 15 = .ok (.bipush 31, 2) := by decide +kernel
theorem dJ6_numberOfLeadingZeros_0f7a4_17 : decode cJ6_numberOfLeadingZeros_0f7a4 17 = .ok (.istore_n 1, 1) := by decide +kernel
theorem dJ6_numberOfLeadingZeros_0f7a4_18 : decode cJ6_numberOfLeadingZeros_0f7a4 18 = .ok (.iload_n 0, 1) := by decide +kernel
theorem dJ6_numberOfLeadingZeros_0f7a4_19 : decode cJ6_numberOfLeadingZeros_0f7a4 19 = .ok (.ldc_w 264, 3) := by decide +kernel
theorem dJ6_numberOfLeadingZeros_0f7a4_22 : decode cJ6_numberOfLeadingZeros_0f7a4 22 = .ok (.if_icmp .lt 11, 3) := by decide +kernel
theorem dJ6_numberOfLeadingZeros_0f7a4_25 : decode cJ6_numberOfLeadingZeros_0f7a4 25 = .ok (.iinc 1 (-16), 3) := by decide +kernel
theorem dJ6_numberOfLeadingZeros_0f7a4_28 : decode cJ6_numberOfLeadingZeros_0f7a4 28 = .ok (.iload_n 0, 1) := by decide +kernel
theorem dJ6_numberOfLeadingZeros_0f7a4_29 : decode cJ6_numberOfLeadingZeros_0f7a4 29 = .ok (.bipush 16, 2) := by decide +kernel
theorem dJ6_numberOfLeadingZeros_0f7a4_31 : decode cJ6_numberOfLeadingZeros_0f7a4 31 = .ok (.iushr, 1) := by decide +kernel
theorem dJ6_numberOfLeadingZeros_0f7a4_32 : decode cJ6_numberOfLeadingZeros_0f7a4 32 = .ok (.istore_n 0, 1) := by decide +kernel
theorem dJ6_numberOfLeadingZeros_0f7a4_33 : decode cJ6_numberOfLeadingZeros_0f7a4 33 = .ok (.iload_n 0, 1) := by decide +kernel
theorem dJ6_numberOfLeadingZeros_0f7a4_34 : decode cJ6_numberOfLeadingZeros_0f7a4 34 = .ok (.sipush 256, 3) := by decide +kernel
theorem dJ6_numberOfLeadingZeros_0f7a4_37 : decode cJ6_numberOfLeadingZeros_0f7a4 37 = .ok (.if_icmp .lt 11, 3) := by decide +kernel
theorem dJ6_numberOfLeadingZeros_0f7a4_40 : decode cJ6_numberOfLeadingZeros_0f7a4 40 = .ok (.iinc 1 (-8), 3) := by decide +kernel
theorem dJ6_numberOfLeadingZeros_0f7a4_43 : decode cJ6_numberOfLeadingZeros_0f7a4 43 = .ok (.iload_n 0, 1) := by decide +kernel
theorem dJ6_numberOfLeadingZeros_0f7a4_44 : decode cJ6_numberOfLeadingZeros_0f7a4 44 = .ok (.bipush 8, 2) := by decide +kernel
theorem dJ6_numberOfLeadingZeros_0f7a4_46 : decode cJ6_numberOfLeadingZeros_0f7a4 46 = .ok (.iushr, 1) := by decide +kernel
theorem dJ6_numberOfLeadingZeros_0f7a4_47 : decode cJ6_numberOfLeadingZeros_0f7a4 47 = .ok (.istore_n 0, 1) := by decide +kernel
theorem dJ6_numberOfLeadingZeros_0f7a4_48 : decode cJ6_numberOfLeadingZeros_0f7a4 48 = .ok (.iload_n 0, 1) := by decide +kernel
theorem dJ6_numberOfLeadingZeros_0f7a4_49 : decode cJ6_numberOfLeadingZeros_0f7a4 49 = .ok (.bipush 16, 2) := by decide +kernel
theorem dJ6_numberOfLeadingZeros_0f7a4_51 : decode cJ6_numberOfLeadingZeros_0f7a4 51 = .ok (.if_icmp .lt 10, 3) := by decide +kernel
theorem dJ6_numberOfLeadingZeros_0f7a4_54 : decode cJ6_numberOfLeadingZeros_0f7a4 54 = .ok (.iinc 1 (-4), 3) := by decide +kernel
theorem dJ6_numberOfLeadingZeros_0f7a4_57 : decode cJ6_numberOfLeadingZeros_0f7a4 57 = .ok (.iload_n 0, 1) := by decide +kernel
theorem dJ6_numberOfLeadingZeros_0f7a4_58 : decode cJ6_numberOfLeadingZeros_0f7a4 58 = .ok (.iconst 4, 1) := by decide +kernel
theorem dJ6_numberOfLeadingZeros_0f7a4_59 : decode cJ6_numberOfLeadingZeros_0f7a4 59 = .ok (.iushr, 1) := by decide +kernel
theorem dJ6_numberOfLeadingZeros_0f7a4_60 : decode cJ6_numberOfLeadingZeros_0f7a4 60 = .ok (.istore_n 0, 1) := by decide +kernel
theorem dJ6_numberOfLeadingZeros_0f7a4_61 : decode cJ6_numberOfLeadingZeros_0f7a4 61 = .ok (.iload_n 0, 1) := by decide +kernel
theorem dJ6_numberOfLeadingZeros_0f7a4_62 : decode cJ6_numberOfLeadingZeros_0f7a4 62 = .ok (.iconst 4, 1) := by decide +kernel
theorem dJ6_numberOfLeadingZeros_0f7a4_63 : decode cJ6_numberOfLeadingZeros_0f7a4 63 = .ok (.if_icmp .lt 10, 3) := by decide +kernel
theorem dJ6_numberOfLeadingZeros_0f7a4_66 : decode cJ6_numberOfLeadingZeros_0f7a4 66 = .ok (.iinc 1 (-2), 3) := by decide +kernel
theorem dJ6_numberOfLeadingZeros_0f7a4_69 : decode cJ6_numberOfLeadingZeros_0f7a4 69 = .ok (.iload_n 0, 1) := by decide +kernel
theorem dJ6_numberOfLeadingZeros_0f7a4_70 : decode cJ6_numberOfLeadingZeros_0f7a4 70 = .ok (.iconst 2, 1) := by decide +kernel
theorem dJ6_numberOfLeadingZeros_0f7a4_71 : decode cJ6_numberOfLeadingZeros_0f7a4 71 = .ok (.iushr, 1) := by decide +kernel
theorem dJ6_numberOfLeadingZeros_0f7a4_72 : decode cJ6_numberOfLeadingZeros_0f7a4 72 = .ok (.istore_n 0, 1) := by decide +kernel
theorem dJ6_numberOfLeadingZeros_0f7a4_73 : decode cJ6_numberOfLeadingZeros_0f7a4 73 = .ok (.iload_n 1, 1) := by decide +kernel
theorem dJ6_numberOfLeadingZeros_0f7a4_74 : decode cJ6_numberOfLeadingZeros_0f7a4 74 = .ok (.iload_n 0, 1) := by decide +kernel
theorem dJ6_numberOfLeadingZeros_0f7a4_75 : decode cJ6_numberOfLeadingZeros_0f7a4 75 = .ok (.iconst 1, 1) := by decide +kernel
theorem dJ6_numberOfLeadingZeros_0f7a4_76 : decode cJ6_numberOfLeadingZeros_0f7a4 76 = .ok (.iushr, 1) := by decide +kernel
theorem dJ6_numberOfLeadingZeros_0f7a4_77 : decode cJ6_numberOfLeadingZeros_0f7a4 77 = .ok (.isub, 1) := by decide +kernel
theorem dJ6_numberOfLeadingZeros_0f7a4_78 : decode cJ6_numberOfLeadingZeros_0f7a4 78 = .ok (.ireturn, 1) := by decide +kernel
theorem dJ6_bitCount_0f7a4_0 : decode cJ6_bitCount_0f7a4 0 = .ok (.iload_n 0, 1) := by decide +kernel
theorem dJ6_bitCount_0f7a4_1 : decode cJ6_bitCount_0f7a4 1 = .ok (.iload_n 0, 1) := by decide +kernel
theorem dJ6_bitCount_0f7a4_2 : decode cJ6_bitCount_0f7a4 2 = .ok (.iconst 1, 1) := by decide +kernel
theorem dJ6_bitCount_0f7a4_3 : decode cJ6_bitCount_0f7a4 3 = .ok (.iushr, 1) := by decide +kernel
theorem dJ6_bitCount_0f7a4_4 : decode cJ6_bitCount_0f7a4 4 = .ok (.ldc_w 265, 3) := by decide +kernel
theorem dJ6_bitCount_0f7a4_7 : decode cJ6_bitCount_0f7a4 7 = .ok (.iand, 1) := by decide +kernel
theorem dJ6_bitCount_0f7a4_8 : decode cJ6_bitCount_0f7a4 8 = .ok (.isub, 1) := by decide +kernel
theorem dJ6_bitCount_0f7a4_9 : decode cJ6_bitCount_0f7a4 9 = .ok (.istore_n 0, 1) := by decide +kernel
theorem dJ6_bitCount_0f7a4_10 : decode cJ6_bitCount_0f7a4 10 = .ok (.iload_n 0, 1) := by decide +kernel
theorem dJ6_bitCount_0f7a4_11 : decode cJ6_bitCount_0f7a4 11 = .ok (.ldc_w 266, 3) := by decide +kernel
theorem dJ6_bitCount_0f7a4_14 : decode cJ6_bitCount_0f7a4 14 = .ok (.iand, 1) := by decide +kernel
theorem dJ6_bitCount_0f7a4_15 : decode cJ6_bitCount_0f7a4 15 = .ok (.iload_n 0, 1) := by decide +kernel
theorem dJ6_bitCount_0f7a4_16 : decode cJ6_bitCount_0f7a4 16 = .ok (.iconst 2, 1) := by decide +kernel
theorem dJ6_bitCount_0f7a4_17 : decode cJ6_bitCount_0f7a4 17 = .ok (.iushr, 1) := by decide +kernel
theorem dJ6_bitCount_0f7a4_18 : decode cJ6_bitCount_0f7a4 18 = .ok (.ldc_w 266, 3) := by decide +kernel
theorem dJ6_bitCount_0f7a4_21 : decode cJ6_bitCount_0f7a4 21 = .ok (.iand, 1) := by decide +kernel
theorem dJ6_bitCount_0f7a4_22 : decode cJ6_bitCount_0f7a4 22 = .ok (.iadd, 1) := by decide +kernel
theorem dJ6_bitCount_0f7a4_23 : decode cJ6_bitCount_0f7a4 23 = .ok (.istore_n 0, 1) := by decide +kernel
theorem dJ6_bitCount_0f7a4_24 : decode cJ6_bitCount_0f7a4 24 = .ok (.iload_n 0, 1) := by decide +kernel
theorem dJ6_bitCount_0f7a4_25 : decode cJ6_bitCount_0f7a4 25 = .ok (.iload_n 0, 1) := by decide +kernel
theorem dJ6_bitCount_0f7a4_26 : decode cJ6_bitCount_0f7a4 26 = .ok (.iconst 4, 1) := by decide +kernel
theorem dJ6_bitCount_0f7a4_27 : decode cJ6_bitCount_0f7a4 27 = .ok (.iushr, 1) := by decide +kernel
theorem dJ6_bitCount_0f7a4_28 : decode cJ6_bitCount_0f7a4 28 = .ok (.iadd, 1) := by decide +kernel
theorem dJ6_bitCount_0f7a4_29 : decode cJ6_bitCount_0f7a4 29 = .ok (.ldc_w 267, 3) := by decide +kernel
theorem dJ6_bitCount_0f7a4_32 : decode cJ6_bitCount_0f7a4 32 = .ok (.iand, 1) := by decide +kernel
theorem dJ6_bitCount_0f7a4_33 : decode cJ6_bitCount_0f7a4 33 = .ok (.istore_n 0, 1) := by decide +kernel
theorem dJ6_bitCount_0f7a4_34 : decode cJ6_bitCount_0f7a4 34 = .ok (.iload_n 0, 1) := by decide +kernel
theorem dJ6_bitCount_0f7a4_35 : decode cJ6_bitCount_0f7a4 35 = .ok (.iload_n 0, 1) := by decide +kernel
theorem dJ6_bitCount_0f7a4_36 : decode cJ6_bitCount_0f7a4 36 = .ok (.bipush 8, 2) := by decide +kernel
theorem dJ6_bitCount_0f7a4_38 : decode cJ6_bitCount_0f7a4 38 = .ok (.iushr, 1) := by decide +kernel
theorem dJ6_bitCount_0f7a4_39 : decode cJ6_bitCount_0f7a4 39 = .ok (.iadd, 1) := by decide +kernel
theorem dJ6_bitCount_0f7a4_40 : decode cJ6_bitCount_0f7a4 40 = .ok (.istore_n 0, 1) := by decide +kernel
theorem dJ6_bitCount_0f7a4_41 : decode cJ6_bitCount_0f7a4 41 = .ok (.iload_n 0, 1) := by decide +kernel
theorem dJ6_bitCount_0f7a4_42 : decode cJ6_bitCount_0f7a4 42 = .ok (.iload_n 0, 1) := by decide +kernel
theorem dJ6_bitCount_0f7a4_43 : decode cJ6_bitCount_0f7a4 43 = .ok (.bipush 16, 2) := by decide +kernel
theorem dJ6_bitCount_0f7a4_45 : decode cJ6_bitCount_0f7a4 45 = .ok (.iushr, 1) := by decide +kernel
theorem dJ6_bitCount_0f7a4_46 : decode cJ6_bitCount_0f7a4 46 = .ok (.iadd, 1) := by decide +kernel
theorem dJ6_bitCount_0f7a4_47 : decode cJ6_bitCount_0f7a4 47 = .ok (.istore_n 0, 1) := by decide +kernel
theorem dJ6_bitCount_0f7a4_48 : decode cJ6_bitCount_0f7a4 48 = .ok (.iload_n 0, 1) := by decide +kernel
theorem dJ6_bitCount_0f7a4_49 : decode cJ6_bitCount_0f7a4 49 = .ok (.bipush 63, 2) := by decide +kernel
theorem dJ6_bitCount_0f7a4_51 : decode cJ6_bitCount_0f7a4 51 = .ok (.iand, 1) := by decide +kernel
theorem dJ6_bitCount_0f7a4_52 : decode cJ6_bitCount_0f7a4 52 = .ok (.ireturn, 1) := by decide +kernel
theorem dJ9_floorDiv_7cf53_0 : decode cJ9_floorDiv_7cf53 0 = .ok (.iload_n 0, 1) := by decide +kernel
theorem dJ9_floorDiv_7cf53_1 : decode cJ9_floorDiv_7cf53 1 = .ok (.iload_n 1, 1) := by decide +kernel
theorem dJ9_floorDiv_7cf53_2 : decode cJ9_floorDiv_7cf53 2 = .ok (.idiv, 1) := by decide +kernel
theorem dJ9_floorDiv_7cf53_3 : decode cJ9_floorDiv_7cf53 3 = .ok (.istore_n 2, 1) := by decide +kernel
theorem dJ9_floorDiv_7cf53_4 : decode cJ9_floorDiv_7cf53 4 = .ok (.iload_n 0, 1) := by decide +kernel
theorem dJ9_floorDiv_7cf53_5 : decode cJ9_floorDiv_7cf53 5 = .ok (.iload_n 1, 1) := by decide +kernel
theorem dJ9_floorDiv_7cf53_6 : decode cJ9_floorDiv_7cf53 6 = .ok (.ixor, 1) := by decide +kernel
theorem dJ9_floorDiv_7cf53_7 : decode cJ9_floorDiv_7cf53 7 = .ok (.ifCond .ge 14, 3) := by decide +kernel
theorem dJ9_floorDiv_7cf53_10 : decode cJ9_floorDiv_7cf53 10 = .ok (.iload_n 2, 1) := by decide +kernel
theorem dJ9_floorDiv_7cf53_11 : decode cJ9_floorDiv_7cf53 11 = .ok (.iload_n 1, 1) := by decide +kernel
theorem dJ9_floorDiv_7cf53_12 : decode cJ9_floorDiv_7cf53 12 = .ok (.imul, 1) := by decide +kernel
theorem dJ9_floorDiv_7cf53_13 : decode cJ9_floorDiv_7cf53 13 = .ok (.iload_n 0, 1) := by decide +kernel
theorem dJ9_floorDiv_7cf53_14 : decode cJ9_floorDiv_7cf53 14 = .ok (.if_icmp .eq 7, 3) := by decide +kernel
theorem dJ9_floorDiv_7cf53_17 : decode cJ9_floorDiv_7cf53 17 = .ok (.iload_n 2, 1) := by decide +kernel
theorem dJ9_floorDiv_7cf53_18 : decode cJ9_floorDiv_7cf53 18 = .ok (.iconst 1, 1) := by decide +kernel
theorem dJ9_floorDiv_7cf53_19 : decode cJ9_floorDiv_7cf53 19 = .ok (.isub, 1) := by decide +kernel
theorem dJ9_floorDiv_7cf53_20 : decode cJ9_floorDiv_7cf53 20 = .ok (.ireturn, 1) := by decide +kernel
theorem dJ9_floorDiv_7cf53_21 : decode cJ9_floorDiv_7cf53 21 = .ok (.iload_n 2, 1) := by decide +kernel
theorem dJ9_floorDiv_7cf53_22 : decode cJ9_floorDiv_7cf53 22 = .ok (.ireturn, 1) := by decide +kernel
theorem dJ9_abs_0f7a4_0 : decode cJ9_abs_0f7a4 0 = .ok (.iload_n 0, 1) := by decide +kernel
theorem dJ9_abs_0f7a4_1 : decode cJ9_abs_0f7a4 1 = .ok (.ifCond .ge 8, 3) := by decide +kernel
theorem dJ9_abs_0f7a4_4 : decode cJ9_abs_0f7a4 4 = .ok (.iload_n 0, 1) := by decide +kernel
theorem dJ9_abs_0f7a4_5 : decode cJ9_abs_0f7a4 5 = .ok (.ineg, 1) := by decide +kernel
theorem dJ9_abs_0f7a4_6 : decode cJ9_abs_0f7a4 6 = .ok (.goto 4, 3) := by decide +kernel
theorem dJ9_abs_0f7a4_9 : decode cJ9_abs_0f7a4 9 = .ok (.iload_n 0, 1) := by decide +kernel
theorem dJ9_abs_0f7a4_10 : decode cJ9_abs_0f7a4 10 = .ok (.ireturn, 1) := by decide +kernel
theorem dJ9_max_7cf53_0 : decode cJ9_max_7cf53 0 = .ok (.iload_n 0, 1) := by decide +kernel
theorem dJ9_max_7cf53_1 : decode cJ9_max_7cf53 1 = .ok (.iload_n 1, 1) := by decide +kernel
theorem dJ9_max_7cf53_2 : decode cJ9_max_7cf53 2 = .ok (.if_icmp .lt 7, 3) := by decide +kernel
theorem dJ9_max_7cf53_5 : decode cJ9_max_7cf53 5 = .ok (.iload_n 0, 1) := by decide +kernel
theorem dJ9_max_7cf53_6 : decode cJ9_max_7cf53 6 = .ok (.goto 4, 3) := by decide +kernel
theorem dJ9_max_7cf53_9 : decode cJ9_max_7cf53 9 = .ok (.iload_n 1, 1) := by decide +kernel
theorem dJ9_max_7cf53_10 : decode cJ9_max_7cf53 10 = .ok (.ireturn, 1) := by decide +kernel
theorem dJ9_min_7cf53_0 : decode cJ9_min_7cf53 0 = .ok (.iload_n 0, 1) := by decide +kernel
theorem dJ9_min_7cf53_1 : decode cJ9_min_7cf53 1 = .ok (.iload_n 1, 1) := by decide +kernel
theorem dJ9_min_7cf53_2 : decode cJ9_min_7cf53 2 = .ok (.if_icmp .gt 7, 3) := by decide +kernel
theorem dJ9_min_7cf53_5 : decode cJ9_min_7cf53 5 = .ok (.iload_n 0, 1) := by decide +kernel
theorem dJ9_min_7cf53_6 : decode cJ9_min_7cf53 6 = .ok (.goto 4, 3) := by decide +kernel
theorem dJ9_min_7cf53_9 : decode cJ9_min_7cf53 9 = .ok (.iload_n 1, 1) := by decide +kernel
theorem dJ9_min_7cf53_10 : decode cJ9_min_7cf53 10 = .ok (.ireturn, 1) := by decide +kernel
theorem dJ0_length_8abf5_0 : decode cJ0_length_8abf5 0 = .ok (.aload_n 0, 1) := by decide +kernel
theorem dJ0_length_8abf5_1 : decode cJ0_length_8abf5 1 = .ok (.getfield 9, 3) := by decide +kernel
theorem dJ0_length_8abf5_4 : decode cJ0_length_8abf5 4 = .ok (.arraylength, 1) := by decide +kernel
theorem dJ0_length_8abf5_5 : decode cJ0_length_8abf5 5 = .ok (.aload_n 0, 1) := by decide +kernel
theorem dJ0_length_8abf5_6 : decode cJ0_length_8abf5 6 = .ok (.invokevirtual 335, 3) := by decide +kernel
theorem dJ0_length_8abf5_9 : decode cJ0_length_8abf5 9 = .ok (.ishr, 1) := by decide +kernel
theorem dJ0_length_8abf5_10 : decode cJ0_length_8abf5 10 = .ok (.ireturn, 1) := by decide +kernel
theorem dJ0_charAt_5068e_0 : decode cJ0_charAt_5068e 0 = .ok (.aload_n 0, 1) := by decide +kernel
theorem dJ0_charAt_5068e_1 : decode cJ0_charAt_5068e 1 = .ok (.invokevirtual 492, 3) := by decide +kernel
theorem dJ0_charAt_5068e_4 : decode cJ0_charAt_5068e 4 = .ok (.ifCond .eq 12, 3) := by decide +kernel
theorem dJ0_charAt_5068e_7 : decode cJ0_charAt_5068e 7 = .ok (.aload_n 0, 1) := by decide +kernel
theorem dJ0_charAt_5068e_8 : decode cJ0_charAt_5068e 8 = .ok (.getfield 9, 3) := by decide +kernel
theorem dJ0_charAt_5068e_11 : decode cJ0_charAt_5068e 11 = .ok (.iload_n 1, 1) := by decide +kernel
theorem dJ0_charAt_5068e_12 : decode cJ0_charAt_5068e 12 = .ok (.invokestatic 495, 3) := by decide +kernel
theorem dJ0_charAt_5068e_15 : decode cJ0_charAt_5068e 15 = .ok (.ireturn, 1) := by decide +kernel
theorem dJ0_charAt_5068e_16 : decode cJ0_charAt_5068e 16 = .ok (.aload_n 0, 1) := by decide +kernel
theorem dJ0_charAt_5068e_17 : decode cJ0_charAt_5068e 17 = .ok (.getfield 9, 3) := by decide +kernel
theorem dJ0_charAt_5068e_20 : decode cJ0_charAt_5068e 20 = .ok (.iload_n 1, 1) := by decide +kernel
theorem dJ0_charAt_5068e_21 : decode cJ0_charAt_5068e 21 = .ok (.invokestatic 498, 3) := by decide +kernel
theorem dJ0_charAt_5068e_24 : decode cJ0_charAt_5068e 24 = .ok (.ireturn, 1) := by decide +kernel
theorem dJ0_coder_7d493_0 : decode cJ0_coder_7d493 0 = .ok (.getstatic 38, 3) := by decide +kernel
theorem dJ0_coder_7d493_3 : decode cJ0_coder_7d493 3 = .ok (.ifCond .eq 10, 3) := by decide +kernel
theorem dJ0_coder_7d493_6 : decode cJ0_coder_7d493 6 = .ok (.aload_n 0, 1) := by decide +kernel
theorem dJ0_coder_7d493_7 : decode cJ0_coder_7d493 7 = .ok (.getfield 15, 3) := by decide +kernel
theorem dJ0_coder_7d493_10 : decode cJ0_coder_7d493 10 = .ok (.goto 4, 3) := by decide +kernel
theorem dJ0_coder_7d493_13 : decode cJ0_coder_7d493 13 = .ok (.iconst 1, 1) := by decide +kernel
theorem dJ0_coder_7d493_14 : decode cJ0_coder_7d493 14 = .ok (.ireturn, 1) := by decide +kernel
theorem dJ0_isLatin1_aae02_0 : decode cJ0_isLatin1_aae02 0 = .ok (.getstatic 38, 3) := by decide +kernel
theorem dJ0_isLatin1_aae02_3 : decode cJ0_isLatin1_aae02 3 = .ok (.ifCond .eq 14, 3) := by decide +kernel
theorem dJ0_isLatin1_aae02_6 : decode cJ0_isLatin1_aae02 6 = .ok (.aload_n 0, 1) := by decide +kernel
theorem dJ0_isLatin1_aae02_7 : decode cJ0_isLatin1_aae02 7 = .ok (.getfield 15, 3) := by decide +kernel
theorem dJ0_isLatin1_aae02_10 : decode cJ0_isLatin1_aae02 10 = .ok (.ifCond .ne 7, 3) := by decide +kernel
theorem dJ0_isLatin1_aae02_13 : decode cJ0_isLatin1_aae02 13 = .ok (.iconst 1, 1) := by decide +kernel
theorem dJ0_isLatin1_aae02_14 : decode cJ0_isLatin1_aae02 14 = .ok (.goto 4, 3) := by decide +kernel
theorem dJ0_isLatin1_aae02_17 : decode cJ0_isLatin1_aae02 17 = .ok (.iconst 0, 1) := by decide +kernel
theorem dJ0_isLatin1_aae02_18 : decode cJ0_isLatin1_aae02 18 = .ok (.ireturn, 1) := by decide +kernel
theorem dJ0_checkIndex_df160_0 : decode cJ0_checkIndex_df160 0 = .ok (.iload_n 0, 1) := by decide +kernel
theorem dJ0_checkIndex_df160_1 : decode cJ0_checkIndex_df160 1 = .ok (.iload_n 1, 1) := by decide +kernel
theorem dJ0_checkIndex_df160_2 : decode cJ0_checkIndex_df160 2 = .ok (.getstatic 1053, 3) := by decide +kernel
theorem dJ0_checkIndex_df160_5 : decode cJ0_checkIndex_df160 5 = .ok (.invokestatic 1059, 3) := by decide +kernel
theorem dJ0_checkIndex_df160_8 : decode cJ0_checkIndex_df160 8 = .ok (.pop, 1) := by decide +kernel
theorem dJ0_checkIndex_df160_9 : decode cJ0_checkIndex_df160 9 = .ok (.return_, 1) := by decide +kernel
theorem dJ1_charAt_3b067_0 : decode cJ1_charAt_3b067 0 = .ok (.iload_n 1, 1) := by decide +kernel
theorem dJ1_charAt_3b067_1 : decode cJ1_charAt_3b067 1 = .ok (.aload_n 0, 1) := by decide +kernel
theorem dJ1_charAt_3b067_2 : decode cJ1_charAt_3b067 2 = .ok (.arraylength, 1) := by decide +kernel
theorem dJ1_charAt_3b067_3 : decode cJ1_charAt_3b067 3 = .ok (.invokestatic 9, 3) := by decide +kernel
theorem dJ1_charAt_3b067_6 : decode cJ1_charAt_3b067 6 = .ok (.aload_n 0, 1) := by decide +kernel
theorem dJ1_charAt_3b067_7 : decode cJ1_charAt_3b067 7 = .ok (.iload_n 1, 1) := by decide +kernel
theorem dJ1_charAt_3b067_8 : decode cJ1_charAt_3b067 8 = .ok (.baload, 1) := by decide +kernel
theorem dJ1_charAt_3b067_9 : decode cJ1_charAt_3b067 9 = .ok (.sipush 255, 3) := by decide +kernel
theorem dJ1_charAt_3b067_12 : decode cJ1_charAt_3b067 12 = .ok (.iand, 1) := by decide +kernel
theorem dJ1_charAt_3b067_13 : decode cJ1_charAt_3b067 13 = .ok (.i2c, 1) := by decide +kernel
theorem dJ1_charAt_3b067_14 : decode cJ1_charAt_3b067 14 = .ok (.ireturn, 1) := by decide +kernel
theorem dJ2_getChar_3b067_0 : decode cJ2_getChar_3b067 0 = .ok (.getstatic 44, 3) := by decide +kernel
theorem dJ2_getChar_3b067_3 : decode cJ2_getChar_3b067 3 = .ok (.ifCond .ne 25, 3) := by decide +kernel
theorem dJ2_getChar_3b067_6 : decode cJ2_getChar_3b067 6 = .ok (.iload_n 1, 1) := by decide +kernel
theorem dJ2_getChar_3b067_7 : decode cJ2_getChar_3b067 7 = .ok (.ifCond .lt 11, 3) := by decide +kernel
theorem dJ2_getChar_3b067_10 : decode cJ2_getChar_3b067 10 = .ok (.iload_n 1, 1) := by decide +kernel
theorem dJ2_getChar_3b067_11 : decode cJ2_getChar_3b067 11 = .ok (.aload_n 0, 1) := by decide +kernel
theorem dJ2_getChar_3b067_12 : decode cJ2_getChar_3b067 12 = .ok (.invokestatic 48, 3) := by decide +kernel
theorem dJ2_getChar_3b067_15 : decode cJ2_getChar_3b067 15 = .ok (.if_icmp .lt 13, 3) := by decide +kernel
theorem dJ2_getChar_3b067_18 : decode cJ2_getChar_3b067 18 = .ok (.new 52, 3) := by decide +kernel
theorem dJ2_getChar_3b067_21 : decode cJ2_getChar_3b067 21 = .ok (.dup, 1) := by decide +kernel
theorem dJ2_getChar_3b067_22 : decode cJ2_getChar_3b067 22 = .ok (.ldc 54, 2) := by decide +kernel
theorem dJ2_getChar_3b067_24 : decode cJ2_getChar_3b067 24 = .ok (.invokespecial 56, 3) := by decide +kernel
theorem dJ2_getChar_3b067_27 : decode cJ2_getChar_3b067 27 = .ok (.athrow, 1) := by decide +kernel
theorem dJ2_getChar_3b067_28 : decode cJ2_getChar_3b067 28 = .ok (.iload_n 1, 1) := by decide +kernel
theorem dJ2_getChar_3b067_29 : decode cJ2_getChar_3b067 29 = .ok (.iconst 1, 1) := by decide +kernel
theorem dJ2_getChar_3b067_30 : decode cJ2_getChar_3b067 30 = .ok (.ishl, 1) := by decide +kernel
theorem dJ2_getChar_3b067_31 : decode cJ2_getChar_3b067 31 = .ok (.istore_n 1, 1) := by decide +kernel
theorem dJ2_getChar_3b067_32 : decode cJ2_getChar_3b067 32 = .ok (.aload_n 0, 1) := by decide +kernel
theorem dJ2_getChar_3b067_33 : decode cJ2_getChar_3b067 33 = .ok (.iload_n 1, 1) := by decide +kernel
theorem dJ2_getChar_3b067_34 : decode cJ2_getChar_3b067 34 = .ok (.iinc 1 1, 3) := by decide +kernel
theorem dJ2_getChar_3b067_37 : decode cJ2_getChar_3b067 37 = .ok (.baload, 1) := by decide +kernel
theorem dJ2_getChar_3b067_38 : decode cJ2_getChar_3b067 38 = .ok (.sipush 255, 3) := by decide +kernel
theorem dJ2_getChar_3b067_41 : decode cJ2_getChar_3b067 41 = .ok (.iand, 1) := by decide +kernel
theorem dJ2_getChar_3b067_42 : decode cJ2_getChar_3b067 42 = .ok (.getstatic 59, 3) := by decide +kernel
theorem dJ2_getChar_3b067_45 : decode cJ2_getChar_3b067 45 = .ok (.ishl, 1) := by decide +kernel
theorem dJ2_getChar_3b067_46 : decode cJ2_getChar_3b067 46 = .ok (.aload_n 0, 1) := by decide +kernel
theorem dJ2_getChar_3b067_47 : decode cJ2_getChar_3b067 47 = .ok (.iload_n 1, 1) := by decide +kernel
theorem dJ2_getChar_3b067_48 : decode cJ2_getChar_3b067 48 = .ok (.baload, 1) := by decide +kernel
theorem dJ2_getChar_3b067_49 : decode cJ2_getChar_3b067 49 = .ok (.sipush 255, 3) := by decide +kernel
theorem dJ2_getChar_3b067_52 : decode cJ2_getChar_3b067 52 = .ok (.iand, 1) := by decide +kernel
theorem dJ2_getChar_3b067_53 : decode cJ2_getChar_3b067 53 = .ok (.getstatic 63, 3) := by decide +kernel
theorem dJ2_getChar_3b067_56 : decode cJ2_getChar_3b067 56 = .ok (.ishl, 1) := by decide +kernel
theorem dJ2_getChar_3b067_57 : decode cJ2_getChar_3b067 57 = .ok (.ior, 1) := by decide +kernel
theorem dJ2_getChar_3b067_58 : decode cJ2_getChar_3b067 58 = .ok (.i2c, 1) := by decide +kernel
theorem dJ2_getChar_3b067_59 : decode cJ2_getChar_3b067 59 = .ok (.ireturn, 1) := by decide +kernel
theorem dJ2_length_9d52b_0 : decode cJ2_length_9d52b 0 = .ok (.aload_n 0, 1) := by decide +kernel
theorem dJ2_length_9d52b_1 : decode cJ2_length_9d52b 1 = .ok (.arraylength, 1) := by decide +kernel
theorem dJ2_length_9d52b_2 : decode cJ2_length_9d52b 2 = .ok (.iconst 1, 1) := by decide +kernel
theorem dJ2_length_9d52b_3 : decode cJ2_length_9d52b 3 = .ok (.ishr, 1) := by decide +kernel
theorem dJ2_length_9d52b_4 : decode cJ2_length_9d52b 4 = .ok (.ireturn, 1) := by decide +kernel
theorem dJ2_charAt_3b067_0 : decode cJ2_charAt_3b067 0 = .ok (.iload_n 1, 1) := by decide +kernel
theorem dJ2_charAt_3b067_1 : decode cJ2_charAt_3b067 1 = .ok (.aload_n 0, 1) := by decide +kernel
theorem dJ2_charAt_3b067_2 : decode cJ2_charAt_3b067 2 = .ok (.invokestatic 67, 3) := by decide +kernel
theorem dJ2_charAt_3b067_5 : decode cJ2_charAt_3b067 5 = .ok (.aload_n 0, 1) := by decide +kernel
theorem dJ2_charAt_3b067_6 : decode cJ2_charAt_3b067 6 = .ok (.iload_n 1, 1) := by decide +kernel
theorem dJ2_charAt_3b067_7 : decode cJ2_charAt_3b067 7 = .ok (.invokestatic 71, 3) := by decide +kernel
theorem dJ2_charAt_3b067_10 : decode cJ2_charAt_3b067 10 = .ok (.ireturn, 1) := by decide +kernel
theorem dJ2_checkIndex_2214a_0 : decode cJ2_checkIndex_2214a 0 = .ok (.iload_n 0, 1) := by decide +kernel
theorem dJ2_checkIndex_2214a_1 : decode cJ2_checkIndex_2214a 1 = .ok (.aload_n 1, 1) := by decide +kernel
theorem dJ2_checkIndex_2214a_2 : decode cJ2_checkIndex_2214a 2 = .ok (.invokestatic 48, 3) := by decide +kernel
theorem dJ2_checkIndex_2214a_5 : decode cJ2_checkIndex_2214a 5 = .ok (.invokestatic 414, 3) := by decide +kernel
theorem dJ2_checkIndex_2214a_8 : decode cJ2_checkIndex_2214a 8 = .ok (.return_, 1) := by decide +kernel
theorem dJ7_fill_53178_0 : decode cJ7_fill_53178 0 = .ok (.iconst 0, 1) := by decide +kernel
theorem dJ7_fill_53178_1 : decode cJ7_fill_53178 1 = .ok (.istore_n 2, 1) := by decide +kernel
theorem dJ7_fill_53178_2 : decode cJ7_fill_53178 2 = .ok (.aload_n 0, 1) := by decide +kernel
theorem dJ7_fill_53178_3 : decode cJ7_fill_53178 3 = .ok (.arraylength, 1) := by decide +kernel
theorem dJ7_fill_53178_4 : decode cJ7_fill_53178 4 = .ok (.istore_n 3, 1) := by decide +kernel
theorem dJ7_fill_53178_5 : decode cJ7_fill_53178 5 = .ok (.iload_n 2, 1) := by decide +kernel
theorem dJ7_fill_53178_6 : decode cJ7_fill_53178 6 = .ok (.iload_n 3, 1) := by decide +kernel
theorem dJ7_fill_53178_7 : decode cJ7_fill_53178 7 = .ok (.if_icmp .ge 13, 3) := by decide +kernel
theorem dJ7_fill_53178_10 : decode cJ7_fill_53178 10 = .ok (.aload_n 0, 1) := by decide +kernel
theorem dJ7_fill_53178_11 : decode cJ7_fill_53178 11 = .ok (.iload_n 2, 1) := by decide +kernel
theorem dJ7_fill_53178_12 : decode cJ7_fill_53178 12 = .ok (.iload_n 1, 1) := by decide +kernel
theorem dJ7_fill_53178_13 : decode cJ7_fill_53178 13 = .ok (.iastore, 1) := by decide +kernel
theorem dJ7_fill_53178_14 : decode cJ7_fill_53178 14 = .ok (.iinc 2 1, 3) := by decide +kernel
theorem dJ7_fill_53178_17 : decode cJ7_fill_53178 17 = .ok (.goto (-12), 3) := by decide +kernel
theorem dJ7_fill_53178_20 : decode cJ7_fill_53178 20 = .ok (.return_, 1) := by decide +kernel
theorem dJ7_copyOf_59c91_0 : decode cJ7_copyOf_59c91 0 = .ok (.iload_n 1, 1) := by decide +kernel
theorem dJ7_copyOf_59c91_1 : decode cJ7_copyOf_59c91 1 = .ok (.aload_n 0, 1) := by decide +kernel
theorem dJ7_copyOf_59c91_2 : decode cJ7_copyOf_59c91 2 = .ok (.arraylength, 1) := by decide +kernel
theorem dJ7_copyOf_59c91_3 : decode cJ7_copyOf_59c91 3 = .ok (.if_icmp .ne 11, 3) := by decide +kernel
theorem dJ7_copyOf_59c91_6 : decode cJ7_copyOf_59c91 6 = .ok (.aload_n 0, 1) := by decide +kernel
theorem dJ7_copyOf_59c91_7 : decode cJ7_copyOf_59c91 7 = .ok (.invokevirtual 316, 3) := by decide +kernel
theorem dJ7_copyOf_59c91_10 : decode cJ7_copyOf_59c91 10 = .ok (.checkcast 317, 3) := by decide +kernel
theorem dJ7_copyOf_59c91_13 : decode cJ7_copyOf_59c91 13 = .ok (.areturn, 1) := by decide +kernel
theorem dJ7_copyOf_59c91_14 : decode cJ7_copyOf_59c91 14 = .ok (.iload_n 1, 1) := by decide +kernel
theorem dJ7_copyOf_59c91_15 : decode cJ7_copyOf_59c91 15 = .ok (.newarray .int, 2) := by decide +kernel
theorem dJ7_copyOf_59c91_17 : decode cJ7_copyOf_59c91 17 = .ok (.astore_n 2, 1) := by decide +kernel
theorem dJ7_copyOf_59c91_18 : decode cJ7_copyOf_59c91 18 = .ok (.aload_n 0, 1) := by decide +kernel
theorem dJ7_copyOf_59c91_19 : decode cJ7_copyOf_59c91 19 = .ok (.iconst 0, 1) := by decide +kernel
theorem dJ7_copyOf_59c91_20 : decode cJ7_copyOf_59c91 20 = .ok (.aload_n 2, 1) := by decide +kernel
theorem dJ7_copyOf_59c91_21 : decode cJ7_copyOf_59c91 21 = .ok (.iconst 0, 1) := by decide +kernel
theorem dJ7_copyOf_59c91_22 : decode cJ7_copyOf_59c91 22 = .ok (.aload_n 0, 1) := by decide +kernel
theorem dJ7_copyOf_59c91_23 : decode cJ7_copyOf_59c91 23 = .ok (.arraylength, 1) := by decide +kernel
theorem dJ7_copyOf_59c91_24 : decode cJ7_copyOf_59c91 24 = .ok (.iload_n 1, 1) := by decide +kernel
theorem dJ7_copyOf_59c91_25 : decode cJ7_copyOf_59c91 25 = .ok (.invokestatic 304, 3) := by decide +kernel
theorem dJ7_copyOf_59c91_28 : decode cJ7_copyOf_59c91 28 = .ok (.invokestatic 150, 3) := by decide +kernel
theorem dJ7_copyOf_59c91_31 : decode cJ7_copyOf_59c91 31 = .ok (.aload_n 2, 1) := by decide +kernel
theorem dJ7_copyOf_59c91_32 : decode cJ7_copyOf_59c91 32 = .ok (.areturn, 1) := by decide +kernel
theorem dJ3_checkIndex_8e157_0 : decode cJ3_checkIndex_8e157 0 = .ok (.iload_n 0, 1) := by decide +kernel
theorem dJ3_checkIndex_8e157_1 : decode cJ3_checkIndex_8e157 1 = .ok (.ifCond .lt 8, 3) := by decide +kernel
theorem dJ3_checkIndex_8e157_4 : decode cJ3_checkIndex_8e157 4 = .ok (.iload_n 0, 1) := by decide +kernel
theorem dJ3_checkIndex_8e157_5 : decode cJ3_checkIndex_8e157 5 = .ok (.iload_n 1, 1) := by decide +kernel
theorem dJ3_checkIndex_8e157_6 : decode cJ3_checkIndex_8e157 6 = .ok (.if_icmp .lt 10, 3) := by decide +kernel
theorem dJ3_checkIndex_8e157_9 : decode cJ3_checkIndex_8e157 9 = .ok (.aload_n 2, 1) := by decide +kernel
theorem dJ3_checkIndex_8e157_10 : decode cJ3_checkIndex_8e157 10 = .ok (.iload_n 0, 1) := by decide +kernel
theorem dJ3_checkIndex_8e157_11 : decode cJ3_checkIndex_8e157 11 = .ok (.iload_n 1, 1) := by decide +kernel
theorem dJ3_checkIndex_8e157_12 : decode cJ3_checkIndex_8e157 12 = .ok (.invokestatic 95, 3) := by decide +kernel
theorem dJ3_checkIndex_8e157_15 : decode cJ3_checkIndex_8e157 15 = .ok (.athrow, 1) := by decide +kernel
theorem dJ3_checkIndex_8e157_16 : decode cJ3_checkIndex_8e157 16 = .ok (.iload_n 0, 1) := by decide +kernel
theorem dJ3_checkIndex_8e157_17 : decode cJ3_checkIndex_8e157 17 = .ok (.ireturn, 1) := by decide +kernel
theorem dL_law_0 : decode cL_law 0 = .ok (.aload_n 1, 1) := by decide +kernel
theorem dL_law_1 : decode cL_law 1 = .ok (.iconst 0, 1) := by decide +kernel
theorem dL_law_2 : decode cL_law 2 = .ok (.aload_n 0, 1) := by decide +kernel
theorem dL_law_3 : decode cL_law 3 = .ok (.invokevirtual 7, 3) := by decide +kernel
theorem dL_law_6 : decode cL_law 6 = .ok (.i2l, 1) := by decide +kernel
theorem dL_law_7 : decode cL_law 7 = .ok (.lastore, 1) := by decide +kernel
theorem dL_law_8 : decode cL_law 8 = .ok (.goto 9, 3) := by decide +kernel
theorem dL_law_11 : decode cL_law 11 = .ok (.astore_n 2, 1) := by decide +kernel
theorem dL_law_12 : decode cL_law 12 = .ok (.iconst 1, 1) := by decide +kernel
theorem dL_law_13 : decode cL_law 13 = .ok (.ireturn, 1) := by decide +kernel
theorem dL_law_14 : decode cL_law 14 = .ok (.astore_n 2, 1) := by decide +kernel
theorem dL_law_15 : decode cL_law 15 = .ok (.iconst 2, 1) := by decide +kernel
theorem dL_law_16 : decode cL_law 16 = .ok (.ireturn, 1) := by decide +kernel
theorem dL_law_17 : decode cL_law 17 = .ok (.iconst 0, 1) := by decide +kernel
theorem dL_law_18 : decode cL_law 18 = .ok (.ireturn, 1) := by decide +kernel
theorem dL_rule_0 : decode cL_rule 0 = .ok (.aload_n 1, 1) := by decide +kernel
theorem dL_rule_1 : decode cL_rule 1 = .ok (.iconst 0, 1) := by decide +kernel
theorem dL_rule_2 : decode cL_rule 2 = .ok (.aload_n 0, 1) := by decide +kernel
theorem dL_rule_3 : decode cL_rule 3 = .ok (.invokevirtual 17, 3) := by decide +kernel
theorem dL_rule_6 : decode cL_rule 6 = .ok (.i2l, 1) := by decide +kernel
theorem dL_rule_7 : decode cL_rule 7 = .ok (.lastore, 1) := by decide +kernel
theorem dL_rule_8 : decode cL_rule 8 = .ok (.goto 9, 3) := by decide +kernel
theorem dL_rule_11 : decode cL_rule 11 = .ok (.astore_n 2, 1) := by decide +kernel
theorem dL_rule_12 : decode cL_rule 12 = .ok (.iconst 1, 1) := by decide +kernel
theorem dL_rule_13 : decode cL_rule 13 = .ok (.ireturn, 1) := by decide +kernel
theorem dL_rule_14 : decode cL_rule 14 = .ok (.astore_n 2, 1) := by decide +kernel
theorem dL_rule_15 : decode cL_rule 15 = .ok (.iconst 2, 1) := by decide +kernel
theorem dL_rule_16 : decode cL_rule 16 = .ok (.ireturn, 1) := by decide +kernel
theorem dL_rule_17 : decode cL_rule 17 = .ok (.iconst 0, 1) := by decide +kernel
theorem dL_rule_18 : decode cL_rule 18 = .ok (.ireturn, 1) := by decide +kernel
theorem dL_dull_0 : decode cL_dull 0 = .ok (.aload 4, 2) := by decide +kernel
theorem dL_dull_2 : decode cL_dull 2 = .ok (.iconst 0, 1) := by decide +kernel
theorem dL_dull_3 : decode cL_dull 3 = .ok (.aload_n 0, 1) := by decide +kernel
theorem dL_dull_4 : decode cL_dull 4 = .ok (.iload_n 1, 1) := by decide +kernel
theorem dL_dull_5 : decode cL_dull 5 = .ok (.iload_n 2, 1) := by decide +kernel
theorem dL_dull_6 : decode cL_dull 6 = .ok (.iload_n 3, 1) := by decide +kernel
theorem dL_dull_7 : decode cL_dull 7 = .ok (.invokevirtual 20, 3) := by decide +kernel
theorem dL_dull_10 : decode cL_dull 10 = .ok (.i2l, 1) := by decide +kernel
theorem dL_dull_11 : decode cL_dull 11 = .ok (.lastore, 1) := by decide +kernel
theorem dL_dull_12 : decode cL_dull 12 = .ok (.goto 11, 3) := by decide +kernel
theorem dL_dull_15 : decode cL_dull 15 = .ok (.astore 5, 2) := by decide +kernel
theorem dL_dull_17 : decode cL_dull 17 = .ok (.iconst 1, 1) := by decide +kernel
theorem dL_dull_18 : decode cL_dull 18 = .ok (.ireturn, 1) := by decide +kernel
theorem dL_dull_19 : decode cL_dull 19 = .ok (.astore 5, 2) := by decide +kernel
theorem dL_dull_21 : decode cL_dull 21 = .ok (.iconst 2, 1) := by decide +kernel
theorem dL_dull_22 : decode cL_dull 22 = .ok (.ireturn, 1) := by decide +kernel
theorem dL_dull_23 : decode cL_dull 23 = .ok (.iconst 0, 1) := by decide +kernel
theorem dL_dull_24 : decode cL_dull 24 = .ok (.ireturn, 1) := by decide +kernel
theorem dL_house_0 : decode cL_house 0 = .ok (.aload_n 2, 1) := by decide +kernel
theorem dL_house_1 : decode cL_house 1 = .ok (.iconst 0, 1) := by decide +kernel
theorem dL_house_2 : decode cL_house 2 = .ok (.aload_n 0, 1) := by decide +kernel
theorem dL_house_3 : decode cL_house 3 = .ok (.iload_n 1, 1) := by decide +kernel
theorem dL_house_4 : decode cL_house 4 = .ok (.invokevirtual 26, 3) := by decide +kernel
theorem dL_house_7 : decode cL_house 7 = .ok (.i2l, 1) := by decide +kernel
theorem dL_house_8 : decode cL_house 8 = .ok (.lastore, 1) := by decide +kernel
theorem dL_house_9 : decode cL_house 9 = .ok (.goto 9, 3) := by decide +kernel
theorem dL_house_12 : decode cL_house 12 = .ok (.astore_n 3, 1) := by decide +kernel
theorem dL_house_13 : decode cL_house 13 = .ok (.iconst 1, 1) := by decide +kernel
theorem dL_house_14 : decode cL_house 14 = .ok (.ireturn, 1) := by decide +kernel
theorem dL_house_15 : decode cL_house 15 = .ok (.astore_n 3, 1) := by decide +kernel
theorem dL_house_16 : decode cL_house 16 = .ok (.iconst 2, 1) := by decide +kernel
theorem dL_house_17 : decode cL_house 17 = .ok (.ireturn, 1) := by decide +kernel
theorem dL_house_18 : decode cL_house 18 = .ok (.iconst 0, 1) := by decide +kernel
theorem dL_house_19 : decode cL_house 19 = .ok (.ireturn, 1) := by decide +kernel
theorem dL_look_0 : decode cL_look 0 = .ok (.aload_n 0, 1) := by decide +kernel
theorem dL_look_1 : decode cL_look 1 = .ok (.iload_n 1, 1) := by decide +kernel
theorem dL_look_2 : decode cL_look 2 = .ok (.iload_n 2, 1) := by decide +kernel
theorem dL_look_3 : decode cL_look 3 = .ok (.iload_n 3, 1) := by decide +kernel
theorem dL_look_4 : decode cL_look 4 = .ok (.invokevirtual 30, 3) := by decide +kernel
theorem dL_look_7 : decode cL_look 7 = .ok (.goto 11, 3) := by decide +kernel
theorem dL_look_10 : decode cL_look 10 = .ok (.astore 4, 2) := by decide +kernel
theorem dL_look_12 : decode cL_look 12 = .ok (.iconst 1, 1) := by decide +kernel
theorem dL_look_13 : decode cL_look 13 = .ok (.ireturn, 1) := by decide +kernel
theorem dL_look_14 : decode cL_look 14 = .ok (.astore 4, 2) := by decide +kernel
theorem dL_look_16 : decode cL_look 16 = .ok (.iconst 2, 1) := by decide +kernel
theorem dL_look_17 : decode cL_look 17 = .ok (.ireturn, 1) := by decide +kernel
theorem dL_look_18 : decode cL_look 18 = .ok (.iconst 0, 1) := by decide +kernel
theorem dL_look_19 : decode cL_look 19 = .ok (.ireturn, 1) := by decide +kernel
theorem dL_pack_0 : decode cL_pack 0 = .ok (.aload 4, 2) := by decide +kernel
theorem dL_pack_2 : decode cL_pack 2 = .ok (.iconst 0, 1) := by decide +kernel
theorem dL_pack_3 : decode cL_pack 3 = .ok (.aload_n 0, 1) := by decide +kernel
theorem dL_pack_4 : decode cL_pack 4 = .ok (.iload_n 1, 1) := by decide +kernel
theorem dL_pack_5 : decode cL_pack 5 = .ok (.iload_n 2, 1) := by decide +kernel
theorem dL_pack_6 : decode cL_pack 6 = .ok (.iload_n 3, 1) := by decide +kernel
theorem dL_pack_7 : decode cL_pack 7 = .ok (.invokevirtual 34, 3) := by decide +kernel
theorem dL_pack_10 : decode cL_pack 10 = .ok (.i2l, 1) := by decide +kernel
theorem dL_pack_11 : decode cL_pack 11 = .ok (.lastore, 1) := by decide +kernel
theorem dL_pack_12 : decode cL_pack 12 = .ok (.goto 11, 3) := by decide +kernel
theorem dL_pack_15 : decode cL_pack 15 = .ok (.astore 5, 2) := by decide +kernel
theorem dL_pack_17 : decode cL_pack 17 = .ok (.iconst 1, 1) := by decide +kernel
theorem dL_pack_18 : decode cL_pack 18 = .ok (.ireturn, 1) := by decide +kernel
theorem dL_pack_19 : decode cL_pack 19 = .ok (.astore 5, 2) := by decide +kernel
theorem dL_pack_21 : decode cL_pack 21 = .ok (.iconst 2, 1) := by decide +kernel
theorem dL_pack_22 : decode cL_pack 22 = .ok (.ireturn, 1) := by decide +kernel
theorem dL_pack_23 : decode cL_pack 23 = .ok (.iconst 0, 1) := by decide +kernel
theorem dL_pack_24 : decode cL_pack 24 = .ok (.ireturn, 1) := by decide +kernel
theorem dL_card_0 : decode cL_card 0 = .ok (.aload_n 3, 1) := by decide +kernel
theorem dL_card_1 : decode cL_card 1 = .ok (.iconst 0, 1) := by decide +kernel
theorem dL_card_2 : decode cL_card 2 = .ok (.aload_n 0, 1) := by decide +kernel
theorem dL_card_3 : decode cL_card 3 = .ok (.iload_n 1, 1) := by decide +kernel
theorem dL_card_4 : decode cL_card 4 = .ok (.iload_n 2, 1) := by decide +kernel
theorem dL_card_5 : decode cL_card 5 = .ok (.invokevirtual 37, 3) := by decide +kernel
theorem dL_card_8 : decode cL_card 8 = .ok (.i2l, 1) := by decide +kernel
theorem dL_card_9 : decode cL_card 9 = .ok (.lastore, 1) := by decide +kernel
theorem dL_card_10 : decode cL_card 10 = .ok (.goto 7, 3) := by decide +kernel
theorem dL_card_13 : decode cL_card 13 = .ok (.astore 4, 2) := by decide +kernel
theorem dL_card_15 : decode cL_card 15 = .ok (.iconst 1, 1) := by decide +kernel
theorem dL_card_16 : decode cL_card 16 = .ok (.ireturn, 1) := by decide +kernel
theorem dL_card_17 : decode cL_card 17 = .ok (.iconst 0, 1) := by decide +kernel
theorem dL_card_18 : decode cL_card 18 = .ok (.ireturn, 1) := by decide +kernel
theorem dL_put_0 : decode cL_put 0 = .ok (.aload 6, 2) := by decide +kernel
theorem dL_put_2 : decode cL_put 2 = .ok (.iconst 0, 1) := by decide +kernel
theorem dL_put_3 : decode cL_put 3 = .ok (.aload_n 0, 1) := by decide +kernel
theorem dL_put_4 : decode cL_put 4 = .ok (.iload_n 1, 1) := by decide +kernel
theorem dL_put_5 : decode cL_put 5 = .ok (.iload_n 2, 1) := by decide +kernel
theorem dL_put_6 : decode cL_put 6 = .ok (.iload_n 3, 1) := by decide +kernel
theorem dL_put_7 : decode cL_put 7 = .ok (.iload 4, 2) := by decide +kernel
theorem dL_put_9 : decode cL_put 9 = .ok (.iload 5, 2) := by decide +kernel
theorem dL_put_11 : decode cL_put 11 = .ok (.invokevirtual 41, 3) := by decide +kernel
theorem dL_put_14 : decode cL_put 14 = .ok (.i2l, 1) := by decide +kernel
theorem dL_put_15 : decode cL_put 15 = .ok (.lastore, 1) := by decide +kernel
theorem dL_put_16 : decode cL_put 16 = .ok (.goto 15, 3) := by decide +kernel
theorem dL_put_19 : decode cL_put 19 = .ok (.astore 7, 2) := by decide +kernel
theorem dL_put_21 : decode cL_put 21 = .ok (.iconst 1, 1) := by decide +kernel
theorem dL_put_22 : decode cL_put 22 = .ok (.ireturn, 1) := by decide +kernel
theorem dL_put_23 : decode cL_put 23 = .ok (.astore 7, 2) := by decide +kernel
theorem dL_put_25 : decode cL_put 25 = .ok (.iconst 2, 1) := by decide +kernel
theorem dL_put_26 : decode cL_put 26 = .ok (.ireturn, 1) := by decide +kernel
theorem dL_put_27 : decode cL_put 27 = .ok (.astore 7, 2) := by decide +kernel
theorem dL_put_29 : decode cL_put 29 = .ok (.iconst 3, 1) := by decide +kernel
theorem dL_put_30 : decode cL_put 30 = .ok (.ireturn, 1) := by decide +kernel
theorem dL_put_31 : decode cL_put 31 = .ok (.iconst 0, 1) := by decide +kernel
theorem dL_put_32 : decode cL_put 32 = .ok (.ireturn, 1) := by decide +kernel
theorem dL_later_0 : decode cL_later 0 = .ok (.aload_n 2, 1) := by decide +kernel
theorem dL_later_1 : decode cL_later 1 = .ok (.iconst 0, 1) := by decide +kernel
theorem dL_later_2 : decode cL_later 2 = .ok (.aload_n 0, 1) := by decide +kernel
theorem dL_later_3 : decode cL_later 3 = .ok (.iload_n 1, 1) := by decide +kernel
theorem dL_later_4 : decode cL_later 4 = .ok (.invokevirtual 47, 3) := by decide +kernel
theorem dL_later_7 : decode cL_later 7 = .ok (.i2l, 1) := by decide +kernel
theorem dL_later_8 : decode cL_later 8 = .ok (.lastore, 1) := by decide +kernel
theorem dL_later_9 : decode cL_later 9 = .ok (.goto 6, 3) := by decide +kernel
theorem dL_later_12 : decode cL_later 12 = .ok (.astore_n 3, 1) := by decide +kernel
theorem dL_later_13 : decode cL_later 13 = .ok (.iconst 1, 1) := by decide +kernel
theorem dL_later_14 : decode cL_later 14 = .ok (.ireturn, 1) := by decide +kernel
theorem dL_later_15 : decode cL_later 15 = .ok (.iconst 0, 1) := by decide +kernel
theorem dL_later_16 : decode cL_later 16 = .ok (.ireturn, 1) := by decide +kernel
theorem dL_go_0 : decode cL_go 0 = .ok (.aload_n 3, 1) := by decide +kernel
theorem dL_go_1 : decode cL_go 1 = .ok (.iconst 0, 1) := by decide +kernel
theorem dL_go_2 : decode cL_go 2 = .ok (.aload_n 0, 1) := by decide +kernel
theorem dL_go_3 : decode cL_go 3 = .ok (.iload_n 1, 1) := by decide +kernel
theorem dL_go_4 : decode cL_go 4 = .ok (.iload_n 2, 1) := by decide +kernel
theorem dL_go_5 : decode cL_go 5 = .ok (.invokevirtual 50, 3) := by decide +kernel
theorem dL_go_8 : decode cL_go 8 = .ok (.i2l, 1) := by decide +kernel
theorem dL_go_9 : decode cL_go 9 = .ok (.lastore, 1) := by decide +kernel
theorem dL_go_10 : decode cL_go 10 = .ok (.goto 15, 3) := by decide +kernel
theorem dL_go_13 : decode cL_go 13 = .ok (.astore 4, 2) := by decide +kernel
theorem dL_go_15 : decode cL_go 15 = .ok (.iconst 1, 1) := by decide +kernel
theorem dL_go_16 : decode cL_go 16 = .ok (.ireturn, 1) := by decide +kernel
theorem dL_go_17 : decode cL_go 17 = .ok (.astore 4, 2) := by decide +kernel
theorem dL_go_19 : decode cL_go 19 = .ok (.iconst 2, 1) := by decide +kernel
theorem dL_go_20 : decode cL_go 20 = .ok (.ireturn, 1) := by decide +kernel
theorem dL_go_21 : decode cL_go 21 = .ok (.astore 4, 2) := by decide +kernel
theorem dL_go_23 : decode cL_go 23 = .ok (.iconst 3, 1) := by decide +kernel
theorem dL_go_24 : decode cL_go 24 = .ok (.ireturn, 1) := by decide +kernel
theorem dL_go_25 : decode cL_go 25 = .ok (.iconst 0, 1) := by decide +kernel
theorem dL_go_26 : decode cL_go 26 = .ok (.ireturn, 1) := by decide +kernel
theorem dL_about_0 : decode cL_about 0 = .ok (.aload 4, 2) := by decide +kernel
theorem dL_about_2 : decode cL_about 2 = .ok (.iconst 0, 1) := by decide +kernel
theorem dL_about_3 : decode cL_about 3 = .ok (.aload_n 0, 1) := by decide +kernel
theorem dL_about_4 : decode cL_about 4 = .ok (.iload_n 1, 1) := by decide +kernel
theorem dL_about_5 : decode cL_about 5 = .ok (.iload_n 2, 1) := by decide +kernel
theorem dL_about_6 : decode cL_about 6 = .ok (.iload_n 3, 1) := by decide +kernel
theorem dL_about_7 : decode cL_about 7 = .ok (.invokevirtual 53, 3) := by decide +kernel
theorem dL_about_10 : decode cL_about 10 = .ok (.i2l, 1) := by decide +kernel
theorem dL_about_11 : decode cL_about 11 = .ok (.lastore, 1) := by decide +kernel
theorem dL_about_12 : decode cL_about 12 = .ok (.goto 15, 3) := by decide +kernel
theorem dL_about_15 : decode cL_about 15 = .ok (.astore 5, 2) := by decide +kernel
theorem dL_about_17 : decode cL_about 17 = .ok (.iconst 1, 1) := by decide +kernel
theorem dL_about_18 : decode cL_about 18 = .ok (.ireturn, 1) := by decide +kernel
theorem dL_about_19 : decode cL_about 19 = .ok (.astore 5, 2) := by decide +kernel
theorem dL_about_21 : decode cL_about 21 = .ok (.iconst 2, 1) := by decide +kernel
theorem dL_about_22 : decode cL_about 22 = .ok (.ireturn, 1) := by decide +kernel
theorem dL_about_23 : decode cL_about 23 = .ok (.astore 5, 2) := by decide +kernel
theorem dL_about_25 : decode cL_about 25 = .ok (.iconst 3, 1) := by decide +kernel
theorem dL_about_26 : decode cL_about 26 = .ok (.ireturn, 1) := by decide +kernel
theorem dL_about_27 : decode cL_about 27 = .ok (.iconst 0, 1) := by decide +kernel
theorem dL_about_28 : decode cL_about 28 = .ok (.ireturn, 1) := by decide +kernel
theorem dL_holds_0 : decode cL_holds 0 = .ok (.aload 4, 2) := by decide +kernel
theorem dL_holds_2 : decode cL_holds 2 = .ok (.iconst 0, 1) := by decide +kernel
theorem dL_holds_3 : decode cL_holds 3 = .ok (.aload_n 0, 1) := by decide +kernel
theorem dL_holds_4 : decode cL_holds 4 = .ok (.iload_n 1, 1) := by decide +kernel
theorem dL_holds_5 : decode cL_holds 5 = .ok (.iload_n 2, 1) := by decide +kernel
theorem dL_holds_6 : decode cL_holds 6 = .ok (.iload_n 3, 1) := by decide +kernel
theorem dL_holds_7 : decode cL_holds 7 = .ok (.invokevirtual 58, 3) := by decide +kernel
theorem dL_holds_10 : decode cL_holds 10 = .ok (.i2l, 1) := by decide +kernel
theorem dL_holds_11 : decode cL_holds 11 = .ok (.lastore, 1) := by decide +kernel
theorem dL_holds_12 : decode cL_holds 12 = .ok (.goto 11, 3) := by decide +kernel
theorem dL_holds_15 : decode cL_holds 15 = .ok (.astore 5, 2) := by decide +kernel
theorem dL_holds_17 : decode cL_holds 17 = .ok (.iconst 1, 1) := by decide +kernel
theorem dL_holds_18 : decode cL_holds 18 = .ok (.ireturn, 1) := by decide +kernel
theorem dL_holds_19 : decode cL_holds 19 = .ok (.astore 5, 2) := by decide +kernel
theorem dL_holds_21 : decode cL_holds 21 = .ok (.iconst 2, 1) := by decide +kernel
theorem dL_holds_22 : decode cL_holds 22 = .ok (.ireturn, 1) := by decide +kernel
theorem dL_holds_23 : decode cL_holds 23 = .ok (.iconst 0, 1) := by decide +kernel
theorem dL_holds_24 : decode cL_holds 24 = .ok (.ireturn, 1) := by decide +kernel
theorem dL_awaited_0 : decode cL_awaited 0 = .ok (.aload_n 3, 1) := by decide +kernel
theorem dL_awaited_1 : decode cL_awaited 1 = .ok (.iconst 0, 1) := by decide +kernel
theorem dL_awaited_2 : decode cL_awaited 2 = .ok (.aload_n 0, 1) := by decide +kernel
theorem dL_awaited_3 : decode cL_awaited 3 = .ok (.iload_n 1, 1) := by decide +kernel
theorem dL_awaited_4 : decode cL_awaited 4 = .ok (.iload_n 2, 1) := by decide +kernel
theorem dL_awaited_5 : decode cL_awaited 5 = .ok (.invokevirtual 61, 3) := by decide +kernel
theorem dL_awaited_8 : decode cL_awaited 8 = .ok (.i2l, 1) := by decide +kernel
theorem dL_awaited_9 : decode cL_awaited 9 = .ok (.lastore, 1) := by decide +kernel
theorem dL_awaited_10 : decode cL_awaited 10 = .ok (.goto 11, 3) := by decide +kernel
theorem dL_awaited_13 : decode cL_awaited 13 = .ok (.astore 4, 2) := by decide +kernel
theorem dL_awaited_15 : decode cL_awaited 15 = .ok (.iconst 1, 1) := by decide +kernel
theorem dL_awaited_16 : decode cL_awaited 16 = .ok (.ireturn, 1) := by decide +kernel
theorem dL_awaited_17 : decode cL_awaited 17 = .ok (.astore 4, 2) := by decide +kernel
theorem dL_awaited_19 : decode cL_awaited 19 = .ok (.iconst 2, 1) := by decide +kernel
theorem dL_awaited_20 : decode cL_awaited 20 = .ok (.ireturn, 1) := by decide +kernel
theorem dL_awaited_21 : decode cL_awaited 21 = .ok (.iconst 0, 1) := by decide +kernel
theorem dL_awaited_22 : decode cL_awaited 22 = .ok (.ireturn, 1) := by decide +kernel
theorem dL_say_0 : decode cL_say 0 = .ok (.aload 4, 2) := by decide +kernel
theorem dL_say_2 : decode cL_say 2 = .ok (.iconst 0, 1) := by decide +kernel
theorem dL_say_3 : decode cL_say 3 = .ok (.aload_n 0, 1) := by decide +kernel
theorem dL_say_4 : decode cL_say 4 = .ok (.iload_n 1, 1) := by decide +kernel
theorem dL_say_5 : decode cL_say 5 = .ok (.iload_n 2, 1) := by decide +kernel
theorem dL_say_6 : decode cL_say 6 = .ok (.iload_n 3, 1) := by decide +kernel
theorem dL_say_7 : decode cL_say 7 = .ok (.invokevirtual 64, 3) := by decide +kernel
theorem dL_say_10 : decode cL_say 10 = .ok (.i2l, 1) := by decide +kernel
theorem dL_say_11 : decode cL_say 11 = .ok (.lastore, 1) := by decide +kernel
theorem dL_say_12 : decode cL_say 12 = .ok (.goto 11, 3) := by decide +kernel
theorem dL_say_15 : decode cL_say 15 = .ok (.astore 5, 2) := by decide +kernel
theorem dL_say_17 : decode cL_say 17 = .ok (.iconst 1, 1) := by decide +kernel
theorem dL_say_18 : decode cL_say 18 = .ok (.ireturn, 1) := by decide +kernel
theorem dL_say_19 : decode cL_say 19 = .ok (.astore 5, 2) := by decide +kernel
theorem dL_say_21 : decode cL_say 21 = .ok (.iconst 2, 1) := by decide +kernel
theorem dL_say_22 : decode cL_say 22 = .ok (.ireturn, 1) := by decide +kernel
theorem dL_say_23 : decode cL_say 23 = .ok (.iconst 0, 1) := by decide +kernel
theorem dL_say_24 : decode cL_say 24 = .ok (.ireturn, 1) := by decide +kernel
theorem dL_kind_0 : decode cL_kind 0 = .ok (.aload_n 3, 1) := by decide +kernel
theorem dL_kind_1 : decode cL_kind 1 = .ok (.iconst 0, 1) := by decide +kernel
theorem dL_kind_2 : decode cL_kind 2 = .ok (.aload_n 0, 1) := by decide +kernel
theorem dL_kind_3 : decode cL_kind 3 = .ok (.iload_n 1, 1) := by decide +kernel
theorem dL_kind_4 : decode cL_kind 4 = .ok (.iload_n 2, 1) := by decide +kernel
theorem dL_kind_5 : decode cL_kind 5 = .ok (.invokevirtual 67, 3) := by decide +kernel
theorem dL_kind_8 : decode cL_kind 8 = .ok (.i2l, 1) := by decide +kernel
theorem dL_kind_9 : decode cL_kind 9 = .ok (.lastore, 1) := by decide +kernel
theorem dL_kind_10 : decode cL_kind 10 = .ok (.goto 11, 3) := by decide +kernel
theorem dL_kind_13 : decode cL_kind 13 = .ok (.astore 4, 2) := by decide +kernel
theorem dL_kind_15 : decode cL_kind 15 = .ok (.iconst 1, 1) := by decide +kernel
theorem dL_kind_16 : decode cL_kind 16 = .ok (.ireturn, 1) := by decide +kernel
theorem dL_kind_17 : decode cL_kind 17 = .ok (.astore 4, 2) := by decide +kernel
theorem dL_kind_19 : decode cL_kind 19 = .ok (.iconst 2, 1) := by decide +kernel
theorem dL_kind_20 : decode cL_kind 20 = .ok (.ireturn, 1) := by decide +kernel
theorem dL_kind_21 : decode cL_kind 21 = .ok (.iconst 0, 1) := by decide +kernel
theorem dL_kind_22 : decode cL_kind 22 = .ok (.ireturn, 1) := by decide +kernel
theorem dL_run_0 : decode cL_run 0 = .ok (.aload 4, 2) := by decide +kernel
theorem dL_run_2 : decode cL_run 2 = .ok (.iconst 0, 1) := by decide +kernel
theorem dL_run_3 : decode cL_run 3 = .ok (.aload_n 0, 1) := by decide +kernel
theorem dL_run_4 : decode cL_run 4 = .ok (.iload_n 1, 1) := by decide +kernel
theorem dL_run_5 : decode cL_run 5 = .ok (.iload_n 2, 1) := by decide +kernel
theorem dL_run_6 : decode cL_run 6 = .ok (.iload_n 3, 1) := by decide +kernel
theorem dL_run_7 : decode cL_run 7 = .ok (.invokevirtual 70, 3) := by decide +kernel
theorem dL_run_10 : decode cL_run 10 = .ok (.i2l, 1) := by decide +kernel
theorem dL_run_11 : decode cL_run 11 = .ok (.lastore, 1) := by decide +kernel
theorem dL_run_12 : decode cL_run 12 = .ok (.goto 11, 3) := by decide +kernel
theorem dL_run_15 : decode cL_run 15 = .ok (.astore 5, 2) := by decide +kernel
theorem dL_run_17 : decode cL_run 17 = .ok (.iconst 1, 1) := by decide +kernel
theorem dL_run_18 : decode cL_run 18 = .ok (.ireturn, 1) := by decide +kernel
theorem dL_run_19 : decode cL_run 19 = .ok (.astore 5, 2) := by decide +kernel
theorem dL_run_21 : decode cL_run 21 = .ok (.iconst 2, 1) := by decide +kernel
theorem dL_run_22 : decode cL_run 22 = .ok (.ireturn, 1) := by decide +kernel
theorem dL_run_23 : decode cL_run 23 = .ok (.iconst 0, 1) := by decide +kernel
theorem dL_run_24 : decode cL_run 24 = .ok (.ireturn, 1) := by decide +kernel
theorem dL_odds_0 : decode cL_odds 0 = .ok (.aload 6, 2) := by decide +kernel
theorem dL_odds_2 : decode cL_odds 2 = .ok (.iconst 0, 1) := by decide +kernel
theorem dL_odds_3 : decode cL_odds 3 = .ok (.aload_n 0, 1) := by decide +kernel
theorem dL_odds_4 : decode cL_odds 4 = .ok (.iload_n 1, 1) := by decide +kernel
theorem dL_odds_5 : decode cL_odds 5 = .ok (.iload_n 2, 1) := by decide +kernel
theorem dL_odds_6 : decode cL_odds 6 = .ok (.iload_n 3, 1) := by decide +kernel
theorem dL_odds_7 : decode cL_odds 7 = .ok (.iload 4, 2) := by decide +kernel
theorem dL_odds_9 : decode cL_odds 9 = .ok (.iload 5, 2) := by decide +kernel
theorem dL_odds_11 : decode cL_odds 11 = .ok (.invokevirtual 73, 3) := by decide +kernel
theorem dL_odds_14 : decode cL_odds 14 = .ok (.i2l, 1) := by decide +kernel
theorem dL_odds_15 : decode cL_odds 15 = .ok (.lastore, 1) := by decide +kernel
theorem dL_odds_16 : decode cL_odds 16 = .ok (.goto 15, 3) := by decide +kernel
theorem dL_odds_19 : decode cL_odds 19 = .ok (.astore 7, 2) := by decide +kernel
theorem dL_odds_21 : decode cL_odds 21 = .ok (.iconst 1, 1) := by decide +kernel
theorem dL_odds_22 : decode cL_odds 22 = .ok (.ireturn, 1) := by decide +kernel
theorem dL_odds_23 : decode cL_odds 23 = .ok (.astore 7, 2) := by decide +kernel
theorem dL_odds_25 : decode cL_odds 25 = .ok (.iconst 2, 1) := by decide +kernel
theorem dL_odds_26 : decode cL_odds 26 = .ok (.ireturn, 1) := by decide +kernel
theorem dL_odds_27 : decode cL_odds 27 = .ok (.astore 7, 2) := by decide +kernel
theorem dL_odds_29 : decode cL_odds 29 = .ok (.iconst 3, 1) := by decide +kernel
theorem dL_odds_30 : decode cL_odds 30 = .ok (.ireturn, 1) := by decide +kernel
theorem dL_odds_31 : decode cL_odds 31 = .ok (.iconst 0, 1) := by decide +kernel
theorem dL_odds_32 : decode cL_odds 32 = .ok (.ireturn, 1) := by decide +kernel
theorem dL_kinds_0 : decode cL_kinds 0 = .ok (.aload_n 3, 1) := by decide +kernel
theorem dL_kinds_1 : decode cL_kinds 1 = .ok (.iconst 0, 1) := by decide +kernel
theorem dL_kinds_2 : decode cL_kinds 2 = .ok (.aload_n 0, 1) := by decide +kernel
theorem dL_kinds_3 : decode cL_kinds 3 = .ok (.iload_n 1, 1) := by decide +kernel
theorem dL_kinds_4 : decode cL_kinds 4 = .ok (.iload_n 2, 1) := by decide +kernel
theorem dL_kinds_5 : decode cL_kinds 5 = .ok (.invokevirtual 77, 3) := by decide +kernel
theorem dL_kinds_8 : decode cL_kinds 8 = .ok (.i2l, 1) := by decide +kernel
theorem dL_kinds_9 : decode cL_kinds 9 = .ok (.lastore, 1) := by decide +kernel
theorem dL_kinds_10 : decode cL_kinds 10 = .ok (.goto 15, 3) := by decide +kernel
theorem dL_kinds_13 : decode cL_kinds 13 = .ok (.astore 4, 2) := by decide +kernel
theorem dL_kinds_15 : decode cL_kinds 15 = .ok (.iconst 1, 1) := by decide +kernel
theorem dL_kinds_16 : decode cL_kinds 16 = .ok (.ireturn, 1) := by decide +kernel
theorem dL_kinds_17 : decode cL_kinds 17 = .ok (.astore 4, 2) := by decide +kernel
theorem dL_kinds_19 : decode cL_kinds 19 = .ok (.iconst 2, 1) := by decide +kernel
theorem dL_kinds_20 : decode cL_kinds 20 = .ok (.ireturn, 1) := by decide +kernel
theorem dL_kinds_21 : decode cL_kinds 21 = .ok (.astore 4, 2) := by decide +kernel
theorem dL_kinds_23 : decode cL_kinds 23 = .ok (.iconst 3, 1) := by decide +kernel
theorem dL_kinds_24 : decode cL_kinds 24 = .ok (.ireturn, 1) := by decide +kernel
theorem dL_kinds_25 : decode cL_kinds 25 = .ok (.iconst 0, 1) := by decide +kernel
theorem dL_kinds_26 : decode cL_kinds 26 = .ok (.ireturn, 1) := by decide +kernel
theorem dL_score_0 : decode cL_score 0 = .ok (.aload_n 3, 1) := by decide +kernel
theorem dL_score_1 : decode cL_score 1 = .ok (.iconst 0, 1) := by decide +kernel
theorem dL_score_2 : decode cL_score 2 = .ok (.aload_n 0, 1) := by decide +kernel
theorem dL_score_3 : decode cL_score 3 = .ok (.iload_n 1, 1) := by decide +kernel
theorem dL_score_4 : decode cL_score 4 = .ok (.iload_n 2, 1) := by decide +kernel
theorem dL_score_5 : decode cL_score 5 = .ok (.invokevirtual 80, 3) := by decide +kernel
theorem dL_score_8 : decode cL_score 8 = .ok (.i2l, 1) := by decide +kernel
theorem dL_score_9 : decode cL_score 9 = .ok (.lastore, 1) := by decide +kernel
theorem dL_score_10 : decode cL_score 10 = .ok (.goto 11, 3) := by decide +kernel
theorem dL_score_13 : decode cL_score 13 = .ok (.astore 4, 2) := by decide +kernel
theorem dL_score_15 : decode cL_score 15 = .ok (.iconst 1, 1) := by decide +kernel
theorem dL_score_16 : decode cL_score 16 = .ok (.ireturn, 1) := by decide +kernel
theorem dL_score_17 : decode cL_score 17 = .ok (.astore 4, 2) := by decide +kernel
theorem dL_score_19 : decode cL_score 19 = .ok (.iconst 2, 1) := by decide +kernel
theorem dL_score_20 : decode cL_score 20 = .ok (.ireturn, 1) := by decide +kernel
theorem dL_score_21 : decode cL_score 21 = .ok (.iconst 0, 1) := by decide +kernel
theorem dL_score_22 : decode cL_score 22 = .ok (.ireturn, 1) := by decide +kernel
theorem dL_fits_0 : decode cL_fits 0 = .ok (.aload_n 3, 1) := by decide +kernel
theorem dL_fits_1 : decode cL_fits 1 = .ok (.iconst 0, 1) := by decide +kernel
theorem dL_fits_2 : decode cL_fits 2 = .ok (.aload_n 0, 1) := by decide +kernel
theorem dL_fits_3 : decode cL_fits 3 = .ok (.iload_n 1, 1) := by decide +kernel
theorem dL_fits_4 : decode cL_fits 4 = .ok (.iload_n 2, 1) := by decide +kernel
theorem dL_fits_5 : decode cL_fits 5 = .ok (.invokevirtual 83, 3) := by decide +kernel
theorem dL_fits_8 : decode cL_fits 8 = .ok (.i2l, 1) := by decide +kernel
theorem dL_fits_9 : decode cL_fits 9 = .ok (.lastore, 1) := by decide +kernel
theorem dL_fits_10 : decode cL_fits 10 = .ok (.goto 15, 3) := by decide +kernel
theorem dL_fits_13 : decode cL_fits 13 = .ok (.astore 4, 2) := by decide +kernel
theorem dL_fits_15 : decode cL_fits 15 = .ok (.iconst 1, 1) := by decide +kernel
theorem dL_fits_16 : decode cL_fits 16 = .ok (.ireturn, 1) := by decide +kernel
theorem dL_fits_17 : decode cL_fits 17 = .ok (.astore 4, 2) := by decide +kernel
theorem dL_fits_19 : decode cL_fits 19 = .ok (.iconst 2, 1) := by decide +kernel
theorem dL_fits_20 : decode cL_fits 20 = .ok (.ireturn, 1) := by decide +kernel
theorem dL_fits_21 : decode cL_fits 21 = .ok (.astore 4, 2) := by decide +kernel
theorem dL_fits_23 : decode cL_fits 23 = .ok (.iconst 3, 1) := by decide +kernel
theorem dL_fits_24 : decode cL_fits 24 = .ok (.ireturn, 1) := by decide +kernel
theorem dL_fits_25 : decode cL_fits 25 = .ok (.iconst 0, 1) := by decide +kernel
theorem dL_fits_26 : decode cL_fits 26 = .ok (.ireturn, 1) := by decide +kernel
theorem dL_lacks_0 : decode cL_lacks 0 = .ok (.aload_n 3, 1) := by decide +kernel
theorem dL_lacks_1 : decode cL_lacks 1 = .ok (.iconst 0, 1) := by decide +kernel
theorem dL_lacks_2 : decode cL_lacks 2 = .ok (.aload_n 0, 1) := by decide +kernel
theorem dL_lacks_3 : decode cL_lacks 3 = .ok (.iload_n 1, 1) := by decide +kernel
theorem dL_lacks_4 : decode cL_lacks 4 = .ok (.iload_n 2, 1) := by decide +kernel
theorem dL_lacks_5 : decode cL_lacks 5 = .ok (.invokevirtual 86, 3) := by decide +kernel
theorem dL_lacks_8 : decode cL_lacks 8 = .ok (.i2l, 1) := by decide +kernel
theorem dL_lacks_9 : decode cL_lacks 9 = .ok (.lastore, 1) := by decide +kernel
theorem dL_lacks_10 : decode cL_lacks 10 = .ok (.goto 15, 3) := by decide +kernel
theorem dL_lacks_13 : decode cL_lacks 13 = .ok (.astore 4, 2) := by decide +kernel
theorem dL_lacks_15 : decode cL_lacks 15 = .ok (.iconst 1, 1) := by decide +kernel
theorem dL_lacks_16 : decode cL_lacks 16 = .ok (.ireturn, 1) := by decide +kernel
theorem dL_lacks_17 : decode cL_lacks 17 = .ok (.astore 4, 2) := by decide +kernel
theorem dL_lacks_19 : decode cL_lacks 19 = .ok (.iconst 2, 1) := by decide +kernel
theorem dL_lacks_20 : decode cL_lacks 20 = .ok (.ireturn, 1) := by decide +kernel
theorem dL_lacks_21 : decode cL_lacks 21 = .ok (.astore 4, 2) := by decide +kernel
theorem dL_lacks_23 : decode cL_lacks 23 = .ok (.iconst 3, 1) := by decide +kernel
theorem dL_lacks_24 : decode cL_lacks 24 = .ok (.ireturn, 1) := by decide +kernel
theorem dL_lacks_25 : decode cL_lacks 25 = .ok (.iconst 0, 1) := by decide +kernel
theorem dL_lacks_26 : decode cL_lacks 26 = .ok (.ireturn, 1) := by decide +kernel
theorem dL_guess_0 : decode cL_guess 0 = .ok (.aload 4, 2) := by decide +kernel
theorem dL_guess_2 : decode cL_guess 2 = .ok (.iconst 0, 1) := by decide +kernel
theorem dL_guess_3 : decode cL_guess 3 = .ok (.aload_n 0, 1) := by decide +kernel
theorem dL_guess_4 : decode cL_guess 4 = .ok (.iload_n 1, 1) := by decide +kernel
theorem dL_guess_5 : decode cL_guess 5 = .ok (.iload_n 2, 1) := by decide +kernel
theorem dL_guess_6 : decode cL_guess 6 = .ok (.iload_n 3, 1) := by decide +kernel
theorem dL_guess_7 : decode cL_guess 7 = .ok (.invokevirtual 89, 3) := by decide +kernel
theorem dL_guess_10 : decode cL_guess 10 = .ok (.i2l, 1) := by decide +kernel
theorem dL_guess_11 : decode cL_guess 11 = .ok (.lastore, 1) := by decide +kernel
theorem dL_guess_12 : decode cL_guess 12 = .ok (.goto 15, 3) := by decide +kernel
theorem dL_guess_15 : decode cL_guess 15 = .ok (.astore 5, 2) := by decide +kernel
theorem dL_guess_17 : decode cL_guess 17 = .ok (.iconst 1, 1) := by decide +kernel
theorem dL_guess_18 : decode cL_guess 18 = .ok (.ireturn, 1) := by decide +kernel
theorem dL_guess_19 : decode cL_guess 19 = .ok (.astore 5, 2) := by decide +kernel
theorem dL_guess_21 : decode cL_guess 21 = .ok (.iconst 2, 1) := by decide +kernel
theorem dL_guess_22 : decode cL_guess 22 = .ok (.ireturn, 1) := by decide +kernel
theorem dL_guess_23 : decode cL_guess 23 = .ok (.astore 5, 2) := by decide +kernel
theorem dL_guess_25 : decode cL_guess 25 = .ok (.iconst 3, 1) := by decide +kernel
theorem dL_guess_26 : decode cL_guess 26 = .ok (.ireturn, 1) := by decide +kernel
theorem dL_guess_27 : decode cL_guess 27 = .ok (.iconst 0, 1) := by decide +kernel
theorem dL_guess_28 : decode cL_guess 28 = .ok (.ireturn, 1) := by decide +kernel
theorem dL_moment_0 : decode cL_moment 0 = .ok (.aload_n 2, 1) := by decide +kernel
theorem dL_moment_1 : decode cL_moment 1 = .ok (.iconst 0, 1) := by decide +kernel
theorem dL_moment_2 : decode cL_moment 2 = .ok (.aload_n 0, 1) := by decide +kernel
theorem dL_moment_3 : decode cL_moment 3 = .ok (.iload_n 1, 1) := by decide +kernel
theorem dL_moment_4 : decode cL_moment 4 = .ok (.invokevirtual 92, 3) := by decide +kernel
theorem dL_moment_7 : decode cL_moment 7 = .ok (.i2l, 1) := by decide +kernel
theorem dL_moment_8 : decode cL_moment 8 = .ok (.lastore, 1) := by decide +kernel
theorem dL_moment_9 : decode cL_moment 9 = .ok (.goto 9, 3) := by decide +kernel
theorem dL_moment_12 : decode cL_moment 12 = .ok (.astore_n 3, 1) := by decide +kernel
theorem dL_moment_13 : decode cL_moment 13 = .ok (.iconst 1, 1) := by decide +kernel
theorem dL_moment_14 : decode cL_moment 14 = .ok (.ireturn, 1) := by decide +kernel
theorem dL_moment_15 : decode cL_moment 15 = .ok (.astore_n 3, 1) := by decide +kernel
theorem dL_moment_16 : decode cL_moment 16 = .ok (.iconst 2, 1) := by decide +kernel
theorem dL_moment_17 : decode cL_moment 17 = .ok (.ireturn, 1) := by decide +kernel
theorem dL_moment_18 : decode cL_moment 18 = .ok (.iconst 0, 1) := by decide +kernel
theorem dL_moment_19 : decode cL_moment 19 = .ok (.ireturn, 1) := by decide +kernel
theorem dL_again_0 : decode cL_again 0 = .ok (.aload 6, 2) := by decide +kernel
theorem dL_again_2 : decode cL_again 2 = .ok (.iconst 0, 1) := by decide +kernel
theorem dL_again_3 : decode cL_again 3 = .ok (.aload_n 0, 1) := by decide +kernel
theorem dL_again_4 : decode cL_again 4 = .ok (.iload_n 1, 1) := by decide +kernel
theorem dL_again_5 : decode cL_again 5 = .ok (.iload_n 2, 1) := by decide +kernel
theorem dL_again_6 : decode cL_again 6 = .ok (.iload_n 3, 1) := by decide +kernel
theorem dL_again_7 : decode cL_again 7 = .ok (.iload 4, 2) := by decide +kernel
theorem dL_again_9 : decode cL_again 9 = .ok (.iload 5, 2) := by decide +kernel
theorem dL_again_11 : decode cL_again 11 = .ok (.invokevirtual 95, 3) := by decide +kernel
theorem dL_again_14 : decode cL_again 14 = .ok (.i2l, 1) := by decide +kernel
theorem dL_again_15 : decode cL_again 15 = .ok (.lastore, 1) := by decide +kernel
theorem dL_again_16 : decode cL_again 16 = .ok (.goto 15, 3) := by decide +kernel
theorem dL_again_19 : decode cL_again 19 = .ok (.astore 7, 2) := by decide +kernel
theorem dL_again_21 : decode cL_again 21 = .ok (.iconst 1, 1) := by decide +kernel
theorem dL_again_22 : decode cL_again 22 = .ok (.ireturn, 1) := by decide +kernel
theorem dL_again_23 : decode cL_again 23 = .ok (.astore 7, 2) := by decide +kernel
theorem dL_again_25 : decode cL_again 25 = .ok (.iconst 2, 1) := by decide +kernel
theorem dL_again_26 : decode cL_again 26 = .ok (.ireturn, 1) := by decide +kernel
theorem dL_again_27 : decode cL_again 27 = .ok (.astore 7, 2) := by decide +kernel
theorem dL_again_29 : decode cL_again 29 = .ok (.iconst 3, 1) := by decide +kernel
theorem dL_again_30 : decode cL_again 30 = .ok (.ireturn, 1) := by decide +kernel
theorem dL_again_31 : decode cL_again 31 = .ok (.iconst 0, 1) := by decide +kernel
theorem dL_again_32 : decode cL_again 32 = .ok (.ireturn, 1) := by decide +kernel
theorem dL_houses_0 : decode cL_houses 0 = .ok (.aload 5, 2) := by decide +kernel
theorem dL_houses_2 : decode cL_houses 2 = .ok (.iconst 0, 1) := by decide +kernel
theorem dL_houses_3 : decode cL_houses 3 = .ok (.aload_n 0, 1) := by decide +kernel
theorem dL_houses_4 : decode cL_houses 4 = .ok (.iload_n 1, 1) := by decide +kernel
theorem dL_houses_5 : decode cL_houses 5 = .ok (.iload_n 2, 1) := by decide +kernel
theorem dL_houses_6 : decode cL_houses 6 = .ok (.iload_n 3, 1) := by decide +kernel
theorem dL_houses_7 : decode cL_houses 7 = .ok (.iload 4, 2) := by decide +kernel
theorem dL_houses_9 : decode cL_houses 9 = .ok (.invokevirtual 98, 3) := by decide +kernel
theorem dL_houses_12 : decode cL_houses 12 = .ok (.i2l, 1) := by decide +kernel
theorem dL_houses_13 : decode cL_houses 13 = .ok (.lastore, 1) := by decide +kernel
theorem dL_houses_14 : decode cL_houses 14 = .ok (.goto 11, 3) := by decide +kernel
theorem dL_houses_17 : decode cL_houses 17 = .ok (.astore 6, 2) := by decide +kernel
theorem dL_houses_19 : decode cL_houses 19 = .ok (.iconst 1, 1) := by decide +kernel
theorem dL_houses_20 : decode cL_houses 20 = .ok (.ireturn, 1) := by decide +kernel
theorem dL_houses_21 : decode cL_houses 21 = .ok (.astore 6, 2) := by decide +kernel
theorem dL_houses_23 : decode cL_houses 23 = .ok (.iconst 2, 1) := by decide +kernel
theorem dL_houses_24 : decode cL_houses 24 = .ok (.ireturn, 1) := by decide +kernel
theorem dL_houses_25 : decode cL_houses 25 = .ok (.iconst 0, 1) := by decide +kernel
theorem dL_houses_26 : decode cL_houses 26 = .ok (.ireturn, 1) := by decide +kernel
theorem dL_per_0 : decode cL_per 0 = .ok (.aload 6, 2) := by decide +kernel
theorem dL_per_2 : decode cL_per 2 = .ok (.iconst 0, 1) := by decide +kernel
theorem dL_per_3 : decode cL_per 3 = .ok (.aload_n 0, 1) := by decide +kernel
theorem dL_per_4 : decode cL_per 4 = .ok (.iload_n 1, 1) := by decide +kernel
theorem dL_per_5 : decode cL_per 5 = .ok (.iload_n 2, 1) := by decide +kernel
theorem dL_per_6 : decode cL_per 6 = .ok (.iload_n 3, 1) := by decide +kernel
theorem dL_per_7 : decode cL_per 7 = .ok (.iload 4, 2) := by decide +kernel
theorem dL_per_9 : decode cL_per 9 = .ok (.iload 5, 2) := by decide +kernel
theorem dL_per_11 : decode cL_per 11 = .ok (.invokevirtual 102, 3) := by decide +kernel
theorem dL_per_14 : decode cL_per 14 = .ok (.i2l, 1) := by decide +kernel
theorem dL_per_15 : decode cL_per 15 = .ok (.lastore, 1) := by decide +kernel
theorem dL_per_16 : decode cL_per 16 = .ok (.goto 11, 3) := by decide +kernel
theorem dL_per_19 : decode cL_per 19 = .ok (.astore 7, 2) := by decide +kernel
theorem dL_per_21 : decode cL_per 21 = .ok (.iconst 1, 1) := by decide +kernel
theorem dL_per_22 : decode cL_per 22 = .ok (.ireturn, 1) := by decide +kernel
theorem dL_per_23 : decode cL_per 23 = .ok (.astore 7, 2) := by decide +kernel
theorem dL_per_25 : decode cL_per 25 = .ok (.iconst 2, 1) := by decide +kernel
theorem dL_per_26 : decode cL_per 26 = .ok (.ireturn, 1) := by decide +kernel
theorem dL_per_27 : decode cL_per 27 = .ok (.iconst 0, 1) := by decide +kernel
theorem dL_per_28 : decode cL_per 28 = .ok (.ireturn, 1) := by decide +kernel
theorem dL_plan_0 : decode cL_plan 0 = .ok (.aload 6, 2) := by decide +kernel
theorem dL_plan_2 : decode cL_plan 2 = .ok (.iconst 0, 1) := by decide +kernel
theorem dL_plan_3 : decode cL_plan 3 = .ok (.aload_n 0, 1) := by decide +kernel
theorem dL_plan_4 : decode cL_plan 4 = .ok (.iload_n 1, 1) := by decide +kernel
theorem dL_plan_5 : decode cL_plan 5 = .ok (.iload_n 2, 1) := by decide +kernel
theorem dL_plan_6 : decode cL_plan 6 = .ok (.iload_n 3, 1) := by decide +kernel
theorem dL_plan_7 : decode cL_plan 7 = .ok (.iload 4, 2) := by decide +kernel
theorem dL_plan_9 : decode cL_plan 9 = .ok (.iload 5, 2) := by decide +kernel
theorem dL_plan_11 : decode cL_plan 11 = .ok (.invokevirtual 105, 3) := by decide +kernel
theorem dL_plan_14 : decode cL_plan 14 = .ok (.i2l, 1) := by decide +kernel
theorem dL_plan_15 : decode cL_plan 15 = .ok (.lastore, 1) := by decide +kernel
theorem dL_plan_16 : decode cL_plan 16 = .ok (.goto 11, 3) := by decide +kernel
theorem dL_plan_19 : decode cL_plan 19 = .ok (.astore 7, 2) := by decide +kernel
theorem dL_plan_21 : decode cL_plan 21 = .ok (.iconst 1, 1) := by decide +kernel
theorem dL_plan_22 : decode cL_plan 22 = .ok (.ireturn, 1) := by decide +kernel
theorem dL_plan_23 : decode cL_plan 23 = .ok (.astore 7, 2) := by decide +kernel
theorem dL_plan_25 : decode cL_plan 25 = .ok (.iconst 2, 1) := by decide +kernel
theorem dL_plan_26 : decode cL_plan 26 = .ok (.ireturn, 1) := by decide +kernel
theorem dL_plan_27 : decode cL_plan 27 = .ok (.iconst 0, 1) := by decide +kernel
theorem dL_plan_28 : decode cL_plan 28 = .ok (.ireturn, 1) := by decide +kernel
theorem dL_last_0 : decode cL_last 0 = .ok (.aload 4, 2) := by decide +kernel
theorem dL_last_2 : decode cL_last 2 = .ok (.iconst 0, 1) := by decide +kernel
theorem dL_last_3 : decode cL_last 3 = .ok (.aload_n 0, 1) := by decide +kernel
theorem dL_last_4 : decode cL_last 4 = .ok (.iload_n 1, 1) := by decide +kernel
theorem dL_last_5 : decode cL_last 5 = .ok (.iload_n 2, 1) := by decide +kernel
theorem dL_last_6 : decode cL_last 6 = .ok (.iload_n 3, 1) := by decide +kernel
theorem dL_last_7 : decode cL_last 7 = .ok (.invokevirtual 108, 3) := by decide +kernel
theorem dL_last_10 : decode cL_last 10 = .ok (.i2l, 1) := by decide +kernel
theorem dL_last_11 : decode cL_last 11 = .ok (.lastore, 1) := by decide +kernel
theorem dL_last_12 : decode cL_last 12 = .ok (.goto 11, 3) := by decide +kernel
theorem dL_last_15 : decode cL_last 15 = .ok (.astore 5, 2) := by decide +kernel
theorem dL_last_17 : decode cL_last 17 = .ok (.iconst 1, 1) := by decide +kernel
theorem dL_last_18 : decode cL_last 18 = .ok (.ireturn, 1) := by decide +kernel
theorem dL_last_19 : decode cL_last 19 = .ok (.astore 5, 2) := by decide +kernel
theorem dL_last_21 : decode cL_last 21 = .ok (.iconst 2, 1) := by decide +kernel
theorem dL_last_22 : decode cL_last 22 = .ok (.ireturn, 1) := by decide +kernel
theorem dL_last_23 : decode cL_last 23 = .ok (.iconst 0, 1) := by decide +kernel
theorem dL_last_24 : decode cL_last 24 = .ok (.ireturn, 1) := by decide +kernel
theorem dL_chance_0 : decode cL_chance 0 = .ok (.aload_n 0, 1) := by decide +kernel
theorem dL_chance_1 : decode cL_chance 1 = .ok (.iload_n 1, 1) := by decide +kernel
theorem dL_chance_2 : decode cL_chance 2 = .ok (.iload_n 2, 1) := by decide +kernel
theorem dL_chance_3 : decode cL_chance 3 = .ok (.invokevirtual 111, 3) := by decide +kernel
theorem dL_chance_6 : decode cL_chance 6 = .ok (.goto 6, 3) := by decide +kernel
theorem dL_chance_9 : decode cL_chance 9 = .ok (.astore_n 3, 1) := by decide +kernel
theorem dL_chance_10 : decode cL_chance 10 = .ok (.iconst 1, 1) := by decide +kernel
theorem dL_chance_11 : decode cL_chance 11 = .ok (.ireturn, 1) := by decide +kernel
theorem dL_chance_12 : decode cL_chance 12 = .ok (.iconst 0, 1) := by decide +kernel
theorem dL_chance_13 : decode cL_chance 13 = .ok (.ireturn, 1) := by decide +kernel
theorem dL_risk_0 : decode cL_risk 0 = .ok (.aload_n 3, 1) := by decide +kernel
theorem dL_risk_1 : decode cL_risk 1 = .ok (.iconst 0, 1) := by decide +kernel
theorem dL_risk_2 : decode cL_risk 2 = .ok (.aload_n 0, 1) := by decide +kernel
theorem dL_risk_3 : decode cL_risk 3 = .ok (.iload_n 1, 1) := by decide +kernel
theorem dL_risk_4 : decode cL_risk 4 = .ok (.iload_n 2, 1) := by decide +kernel
theorem dL_risk_5 : decode cL_risk 5 = .ok (.invokevirtual 115, 3) := by decide +kernel
theorem dL_risk_8 : decode cL_risk 8 = .ok (.lastore, 1) := by decide +kernel
theorem dL_risk_9 : decode cL_risk 9 = .ok (.goto 7, 3) := by decide +kernel
theorem dL_risk_12 : decode cL_risk 12 = .ok (.astore 4, 2) := by decide +kernel
theorem dL_risk_14 : decode cL_risk 14 = .ok (.iconst 1, 1) := by decide +kernel
theorem dL_risk_15 : decode cL_risk 15 = .ok (.ireturn, 1) := by decide +kernel
theorem dL_risk_16 : decode cL_risk 16 = .ok (.iconst 0, 1) := by decide +kernel
theorem dL_risk_17 : decode cL_risk 17 = .ok (.ireturn, 1) := by decide +kernel
theorem dL_week_0 : decode cL_week 0 = .ok (.aload_n 2, 1) := by decide +kernel
theorem dL_week_1 : decode cL_week 1 = .ok (.iconst 0, 1) := by decide +kernel
theorem dL_week_2 : decode cL_week 2 = .ok (.aload_n 0, 1) := by decide +kernel
theorem dL_week_3 : decode cL_week 3 = .ok (.iload_n 1, 1) := by decide +kernel
theorem dL_week_4 : decode cL_week 4 = .ok (.invokevirtual 119, 3) := by decide +kernel
theorem dL_week_7 : decode cL_week 7 = .ok (.i2l, 1) := by decide +kernel
theorem dL_week_8 : decode cL_week 8 = .ok (.lastore, 1) := by decide +kernel
theorem dL_week_9 : decode cL_week 9 = .ok (.goto 9, 3) := by decide +kernel
theorem dL_week_12 : decode cL_week 12 = .ok (.astore_n 3, 1) := by decide +kernel
theorem dL_week_13 : decode cL_week 13 = .ok (.iconst 1, 1) := by decide +kernel
theorem dL_week_14 : decode cL_week 14 = .ok (.ireturn, 1) := by decide +kernel
theorem dL_week_15 : decode cL_week 15 = .ok (.astore_n 3, 1) := by decide +kernel
theorem dL_week_16 : decode cL_week 16 = .ok (.iconst 2, 1) := by decide +kernel
theorem dL_week_17 : decode cL_week 17 = .ok (.ireturn, 1) := by decide +kernel
theorem dL_week_18 : decode cL_week 18 = .ok (.iconst 0, 1) := by decide +kernel
theorem dL_week_19 : decode cL_week 19 = .ok (.ireturn, 1) := by decide +kernel
theorem dL_rates_0 : decode cL_rates 0 = .ok (.aload_n 3, 1) := by decide +kernel
theorem dL_rates_1 : decode cL_rates 1 = .ok (.iconst 0, 1) := by decide +kernel
theorem dL_rates_2 : decode cL_rates 2 = .ok (.aload_n 0, 1) := by decide +kernel
theorem dL_rates_3 : decode cL_rates 3 = .ok (.iload_n 1, 1) := by decide +kernel
theorem dL_rates_4 : decode cL_rates 4 = .ok (.iload_n 2, 1) := by decide +kernel
theorem dL_rates_5 : decode cL_rates 5 = .ok (.invokevirtual 122, 3) := by decide +kernel
theorem dL_rates_8 : decode cL_rates 8 = .ok (.i2l, 1) := by decide +kernel
theorem dL_rates_9 : decode cL_rates 9 = .ok (.lastore, 1) := by decide +kernel
theorem dL_rates_10 : decode cL_rates 10 = .ok (.goto 11, 3) := by decide +kernel
theorem dL_rates_13 : decode cL_rates 13 = .ok (.astore 4, 2) := by decide +kernel
theorem dL_rates_15 : decode cL_rates 15 = .ok (.iconst 1, 1) := by decide +kernel
theorem dL_rates_16 : decode cL_rates 16 = .ok (.ireturn, 1) := by decide +kernel
theorem dL_rates_17 : decode cL_rates 17 = .ok (.astore 4, 2) := by decide +kernel
theorem dL_rates_19 : decode cL_rates 19 = .ok (.iconst 2, 1) := by decide +kernel
theorem dL_rates_20 : decode cL_rates 20 = .ok (.ireturn, 1) := by decide +kernel
theorem dL_rates_21 : decode cL_rates 21 = .ok (.iconst 0, 1) := by decide +kernel
theorem dL_rates_22 : decode cL_rates 22 = .ok (.ireturn, 1) := by decide +kernel
theorem dL_change_0 : decode cL_change 0 = .ok (.aload_n 2, 1) := by decide +kernel
theorem dL_change_1 : decode cL_change 1 = .ok (.iconst 0, 1) := by decide +kernel
theorem dL_change_2 : decode cL_change 2 = .ok (.aload_n 0, 1) := by decide +kernel
theorem dL_change_3 : decode cL_change 3 = .ok (.iload_n 1, 1) := by decide +kernel
theorem dL_change_4 : decode cL_change 4 = .ok (.invokevirtual 125, 3) := by decide +kernel
theorem dL_change_7 : decode cL_change 7 = .ok (.i2l, 1) := by decide +kernel
theorem dL_change_8 : decode cL_change 8 = .ok (.lastore, 1) := by decide +kernel
theorem dL_change_9 : decode cL_change 9 = .ok (.goto 6, 3) := by decide +kernel
theorem dL_change_12 : decode cL_change 12 = .ok (.astore_n 3, 1) := by decide +kernel
theorem dL_change_13 : decode cL_change 13 = .ok (.iconst 1, 1) := by decide +kernel
theorem dL_change_14 : decode cL_change 14 = .ok (.ireturn, 1) := by decide +kernel
theorem dL_change_15 : decode cL_change 15 = .ok (.iconst 0, 1) := by decide +kernel
theorem dL_change_16 : decode cL_change 16 = .ok (.ireturn, 1) := by decide +kernel
