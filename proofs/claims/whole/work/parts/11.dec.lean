theorem dX10_layLoops_65 : decode cX10_layLoops 65 = .ok (.invokestatic 255, 3) := by decide +kernel
theorem dX10_layLoops_68 : decode cX10_layLoops 68 = .ok (.ifCond .ne 22, 3) := by decide +kernel
theorem dX10_layLoops_71 : decode cX10_layLoops 71 = .ok (.aload_n 0, 1) := by decide +kernel
theorem dX10_layLoops_72 : decode cX10_layLoops 72 = .ok (.iload 5, 2) := by decide +kernel
theorem dX10_layLoops_74 : decode cX10_layLoops 74 = .ok (.iload_n 2, 1) := by decide +kernel
theorem dX10_layLoops_75 : decode cX10_layLoops 75 = .ok (.invokevirtual 235, 3) := by decide +kernel
theorem dX10_layLoops_78 : decode cX10_layLoops 78 = .ok (.ifCond .eq 12, 3) := by decide +kernel
theorem dX10_layLoops_81 : decode cX10_layLoops 81 = .ok (.iload 4, 2) := by decide +kernel
theorem dX10_layLoops_83 : decode cX10_layLoops 83 = .ok (.iconst 1, 1) := by decide +kernel
theorem dX10_layLoops_84 : decode cX10_layLoops 84 = .ok (.iload 5, 2) := by decide +kernel
theorem dX10_layLoops_86 : decode cX10_layLoops 86 = .ok (.ishl, 1) := by decide +kernel
theorem dX10_layLoops_87 : decode cX10_layLoops 87 = .ok (.ior, 1) := by decide +kernel
theorem dX10_layLoops_88 : decode cX10_layLoops 88 = .ok (.istore 4, 2) := by decide +kernel
theorem dX10_layLoops_90 : decode cX10_layLoops 90 = .ok (.iinc 5 1, 3) := by decide +kernel
theorem dX10_layLoops_93 : decode cX10_layLoops 93 = .ok (.goto (-49), 3) := by decide +kernel
theorem dX10_layLoops_96 : decode cX10_layLoops 96 = .ok (.iload 4, 2) := by decide +kernel
theorem dX10_layLoops_98 : decode cX10_layLoops 98 = .ok (.ifCond .ne 6, 3) := by decide +kernel
theorem dX10_layLoops_101 : decode cX10_layLoops 101 = .ok (.goto 141, 3) := by decide +kernel
theorem dX10_layLoops_104 : decode cX10_layLoops 104 = .ok (.iload 4, 2) := by decide +kernel
theorem dX10_layLoops_106 : decode cX10_layLoops 106 = .ok (.iconst 1, 1) := by decide +kernel
theorem dX10_layLoops_107 : decode cX10_layLoops 107 = .ok (.iload_n 2, 1) := by decide +kernel
theorem dX10_layLoops_108 : decode cX10_layLoops 108 = .ok (.ishl, 1) := by decide +kernel
theorem dX10_layLoops_109 : decode cX10_layLoops 109 = .ok (.ior, 1) := by decide +kernel
theorem dX10_layLoops_110 : decode cX10_layLoops 110 = .ok (.istore 4, 2) := by decide +kernel
theorem dX10_layLoops_112 : decode cX10_layLoops 112 = .ok (.iconst 0, 1) := by decide +kernel
theorem dX10_layLoops_113 : decode cX10_layLoops 113 = .ok (.istore 5, 2) := by decide +kernel
theorem dX10_layLoops_115 : decode cX10_layLoops 115 = .ok (.iload 5, 2) := by decide +kernel
theorem dX10_layLoops_117 : decode cX10_layLoops 117 = .ok (.aload_n 0, 1) := by decide +kernel
theorem dX10_layLoops_118 : decode cX10_layLoops 118 = .ok (.getfield 17, 3) := by decide +kernel
theorem dX10_layLoops_121 : decode cX10_layLoops 121 = .ok (.if_icmp .ge 90, 3) := by decide +kernel
theorem dX10_layLoops_124 : decode cX10_layLoops 124 = .ok (.iconst 0, 1) := by decide +kernel
theorem dX10_layLoops_125 : decode cX10_layLoops 125 = .ok (.istore 6, 2) := by decide +kernel
theorem dX10_layLoops_127 : decode cX10_layLoops 127 = .ok (.iload 6, 2) := by decide +kernel
theorem dX10_layLoops_129 : decode cX10_layLoops 129 = .ok (.aload_n 0, 1) := by decide +kernel
theorem dX10_layLoops_130 : decode cX10_layLoops 130 = .ok (.getfield 17, 3) := by decide +kernel
theorem dX10_layLoops_133 : decode cX10_layLoops 133 = .ok (.if_icmp .ge 72, 3) := by decide +kernel
theorem dX10_layLoops_136 : decode cX10_layLoops 136 = .ok (.iconst 0, 1) := by decide +kernel
theorem dX10_layLoops_137 : decode cX10_layLoops 137 = .ok (.istore 7, 2) := by decide +kernel
theorem dX10_layLoops_139 : decode cX10_layLoops 139 = .ok (.iload 7, 2) := by decide +kernel
theorem dX10_layLoops_141 : decode cX10_layLoops 141 = .ok (.aload_n 0, 1) := by decide +kernel
theorem dX10_layLoops_142 : decode cX10_layLoops 142 = .ok (.getfield 17, 3) := by decide +kernel
theorem dX10_layLoops_145 : decode cX10_layLoops 145 = .ok (.if_icmp .ge 54, 3) := by decide +kernel
theorem dX10_layLoops_148 : decode cX10_layLoops 148 = .ok (.iload_n 1, 1) := by decide +kernel
theorem dX10_layLoops_149 : decode cX10_layLoops 149 = .ok (.iload 6, 2) := by decide +kernel
theorem dX10_layLoops_151 : decode cX10_layLoops 151 = .ok (.invokestatic 255, 3) := by decide +kernel
theorem dX10_layLoops_154 : decode cX10_layLoops 154 = .ok (.ifCond .eq 39, 3) := by decide +kernel
theorem dX10_layLoops_157 : decode cX10_layLoops 157 = .ok (.iload 7, 2) := by decide +kernel
theorem dX10_layLoops_159 : decode cX10_layLoops 159 = .ok (.iload_n 2, 1) := by decide +kernel
theorem dX10_layLoops_160 : decode cX10_layLoops 160 = .ok (.if_icmp .eq 33, 3) := by decide +kernel
theorem dX10_layLoops_163 : decode cX10_layLoops 163 = .ok (.iload 4, 2) := by decide +kernel
theorem dX10_layLoops_165 : decode cX10_layLoops 165 = .ok (.iload 7, 2) := by decide +kernel
theorem dX10_layLoops_167 : decode cX10_layLoops 167 = .ok (.invokestatic 255, 3) := by decide +kernel
theorem dX10_layLoops_170 : decode cX10_layLoops 170 = .ok (.ifCond .eq 23, 3) := by decide +kernel
theorem dX10_layLoops_173 : decode cX10_layLoops 173 = .ok (.aload_n 0, 1) := by decide +kernel
theorem dX10_layLoops_174 : decode cX10_layLoops 174 = .ok (.iload 6, 2) := by decide +kernel
theorem dX10_layLoops_176 : decode cX10_layLoops 176 = .ok (.iload 7, 2) := by decide +kernel
theorem dX10_layLoops_178 : decode cX10_layLoops 178 = .ok (.invokevirtual 235, 3) := by decide +kernel
theorem dX10_layLoops_181 : decode cX10_layLoops 181 = .ok (.ifCond .eq 12, 3) := by decide +kernel
theorem dX10_layLoops_184 : decode cX10_layLoops 184 = .ok (.iload 4, 2) := by decide +kernel
theorem dX10_layLoops_186 : decode cX10_layLoops 186 = .ok (.iconst 1, 1) := by decide +kernel
theorem dX10_layLoops_187 : decode cX10_layLoops 187 = .ok (.iload 6, 2) := by decide +kernel
theorem dX10_layLoops_189 : decode cX10_layLoops 189 = .ok (.ishl, 1) := by decide +kernel
theorem dX10_layLoops_190 : decode cX10_layLoops 190 = .ok (.ior, 1) := by decide +kernel
theorem dX10_layLoops_191 : decode cX10_layLoops 191 = .ok (.istore 4, 2) := by decide +kernel
theorem dX10_layLoops_193 : decode cX10_layLoops 193 = .ok (.iinc 7 1, 3) := by decide +kernel
theorem dX10_layLoops_196 : decode cX10_layLoops 196 = .ok (.goto (-57), 3) := by decide +kernel
theorem dX10_layLoops_199 : decode cX10_layLoops 199 = .ok (.iinc 6 1, 3) := by decide +kernel
theorem dX10_layLoops_202 : decode cX10_layLoops 202 = .ok (.goto (-75), 3) := by decide +kernel
theorem dX10_layLoops_205 : decode cX10_layLoops 205 = .ok (.iinc 5 1, 3) := by decide +kernel
theorem dX10_layLoops_208 : decode cX10_layLoops 208 = .ok (.goto (-93), 3) := by decide +kernel
theorem dX10_layLoops_211 : decode cX10_layLoops 211 = .ok (.aload_n 0, 1) := by decide +kernel
theorem dX10_layLoops_212 : decode cX10_layLoops 212 = .ok (.getfield 70, 3) := by decide +kernel
theorem dX10_layLoops_215 : decode cX10_layLoops 215 = .ok (.aload_n 0, 1) := by decide +kernel
theorem dX10_layLoops_216 : decode cX10_layLoops 216 = .ok (.getfield 67, 3) := by decide +kernel
theorem dX10_layLoops_219 : decode cX10_layLoops 219 = .ok (.iload_n 2, 1) := by decide +kernel
theorem dX10_layLoops_220 : decode cX10_layLoops 220 = .ok (.iastore, 1) := by decide +kernel
theorem dX10_layLoops_221 : decode cX10_layLoops 221 = .ok (.aload_n 0, 1) := by decide +kernel
theorem dX10_layLoops_222 : decode cX10_layLoops 222 = .ok (.getfield 73, 3) := by decide +kernel
theorem dX10_layLoops_225 : decode cX10_layLoops 225 = .ok (.aload_n 0, 1) := by decide +kernel
theorem dX10_layLoops_226 : decode cX10_layLoops 226 = .ok (.getfield 67, 3) := by decide +kernel
theorem dX10_layLoops_229 : decode cX10_layLoops 229 = .ok (.iload 4, 2) := by decide +kernel
theorem dX10_layLoops_231 : decode cX10_layLoops 231 = .ok (.iastore, 1) := by decide +kernel
theorem dX10_layLoops_232 : decode cX10_layLoops 232 = .ok (.aload_n 0, 1) := by decide +kernel
theorem dX10_layLoops_233 : decode cX10_layLoops 233 = .ok (.dup, 1) := by decide +kernel
theorem dX10_layLoops_234 : decode cX10_layLoops 234 = .ok (.getfield 67, 3) := by decide +kernel
theorem dX10_layLoops_237 : decode cX10_layLoops 237 = .ok (.iconst 1, 1) := by decide +kernel
theorem dX10_layLoops_238 : decode cX10_layLoops 238 = .ok (.iadd, 1) := by decide +kernel
theorem dX10_layLoops_239 : decode cX10_layLoops 239 = .ok (.putfield 67, 3) := by decide +kernel
theorem dX10_layLoops_242 : decode cX10_layLoops 242 = .ok (.iinc 2 1, 3) := by decide +kernel
theorem dX10_layLoops_245 : decode cX10_layLoops 245 = .ok (.goto (-232), 3) := by decide +kernel
theorem dX10_layLoops_248 : decode cX10_layLoops 248 = .ok (.return_, 1) := by decide +kernel
theorem dX10_isWithin_0 : decode cX10_isWithin 0 = .ok (.aload_n 0, 1) := by decide +kernel
theorem dX10_isWithin_1 : decode cX10_isWithin 1 = .ok (.getfield 73, 3) := by decide +kernel
theorem dX10_isWithin_4 : decode cX10_isWithin 4 = .ok (.iload_n 1, 1) := by decide +kernel
theorem dX10_isWithin_5 : decode cX10_isWithin 5 = .ok (.iaload, 1) := by decide +kernel
theorem dX10_isWithin_6 : decode cX10_isWithin 6 = .ok (.aload_n 0, 1) := by decide +kernel
theorem dX10_isWithin_7 : decode cX10_isWithin 7 = .ok (.getfield 73, 3) := by decide +kernel
theorem dX10_isWithin_10 : decode cX10_isWithin 10 = .ok (.iload_n 2, 1) := by decide +kernel
theorem dX10_isWithin_11 : decode cX10_isWithin 11 = .ok (.iaload, 1) := by decide +kernel
theorem dX10_isWithin_12 : decode cX10_isWithin 12 = .ok (.iconst (-1), 1) := by decide +kernel
theorem dX10_isWithin_13 : decode cX10_isWithin 13 = .ok (.ixor, 1) := by decide +kernel
theorem dX10_isWithin_14 : decode cX10_isWithin 14 = .ok (.iand, 1) := by decide +kernel
theorem dX10_isWithin_15 : decode cX10_isWithin 15 = .ok (.ifCond .ne 7, 3) := by decide +kernel
theorem dX10_isWithin_18 : decode cX10_isWithin 18 = .ok (.iconst 1, 1) := by decide +kernel
theorem dX10_isWithin_19 : decode cX10_isWithin 19 = .ok (.goto 4, 3) := by decide +kernel
theorem dX10_isWithin_22 : decode cX10_isWithin 22 = .ok (.iconst 0, 1) := by decide +kernel
theorem dX10_isWithin_23 : decode cX10_isWithin 23 = .ok (.ireturn, 1) := by decide +kernel
theorem dX10_loops_0 : decode cX10_loops 0 = .ok (.aload_n 0, 1) := by decide +kernel
theorem dX10_loops_1 : decode cX10_loops 1 = .ok (.invokevirtual 276, 3) := by decide +kernel
theorem dX10_loops_4 : decode cX10_loops 4 = .ok (.aload_n 0, 1) := by decide +kernel
theorem dX10_loops_5 : decode cX10_loops 5 = .ok (.getfield 67, 3) := by decide +kernel
theorem dX10_loops_8 : decode cX10_loops 8 = .ok (.ireturn, 1) := by decide +kernel
theorem dX10_loop_0 : decode cX10_loop 0 = .ok (.aload_n 0, 1) := by decide +kernel
theorem dX10_loop_1 : decode cX10_loop 1 = .ok (.iconst 0, 1) := by decide +kernel
theorem dX10_loop_2 : decode cX10_loop 2 = .ok (.putfield 1, 3) := by decide +kernel
theorem dX10_loop_5 : decode cX10_loop 5 = .ok (.aload_n 0, 1) := by decide +kernel
theorem dX10_loop_6 : decode cX10_loop 6 = .ok (.invokevirtual 276, 3) := by decide +kernel
theorem dX10_loop_9 : decode cX10_loop 9 = .ok (.iload_n 1, 1) := by decide +kernel
theorem dX10_loop_10 : decode cX10_loop 10 = .ok (.iconst 0, 1) := by decide +kernel
theorem dX10_loop_11 : decode cX10_loop 11 = .ok (.aload_n 0, 1) := by decide +kernel
theorem dX10_loop_12 : decode cX10_loop 12 = .ok (.getfield 67, 3) := by decide +kernel
theorem dX10_loop_15 : decode cX10_loop 15 = .ok (.iconst 1, 1) := by decide +kernel
theorem dX10_loop_16 : decode cX10_loop 16 = .ok (.isub, 1) := by decide +kernel
theorem dX10_loop_17 : decode cX10_loop 17 = .ok (.invokestatic 7, 3) := by decide +kernel
theorem dX10_loop_20 : decode cX10_loop 20 = .ok (.ifCond .ne 9, 3) := by decide +kernel
theorem dX10_loop_23 : decode cX10_loop 23 = .ok (.aload_n 0, 1) := by decide +kernel
theorem dX10_loop_24 : decode cX10_loop 24 = .ok (.iconst 1, 1) := by decide +kernel
theorem dX10_loop_25 : decode cX10_loop 25 = .ok (.invokevirtual 217, 3) := by decide +kernel
theorem dX10_loop_28 : decode cX10_loop 28 = .ok (.ireturn, 1) := by decide +kernel
theorem dX10_loop_29 : decode cX10_loop 29 = .ok (.iload_n 2, 1) := by decide +kernel
theorem dX10_loop_30 : decode cX10_loop 30 = .ok (.iconst 0, 1) := by decide +kernel
theorem dX10_loop_31 : decode cX10_loop 31 = .ok (.iconst 2, 1) := by decide +kernel
theorem dX10_loop_32 : decode cX10_loop 32 = .ok (.invokestatic 7, 3) := by decide +kernel
theorem dX10_loop_35 : decode cX10_loop 35 = .ok (.ifCond .ne 9, 3) := by decide +kernel
theorem dX10_loop_38 : decode cX10_loop 38 = .ok (.aload_n 0, 1) := by decide +kernel
theorem dX10_loop_39 : decode cX10_loop 39 = .ok (.iconst 2, 1) := by decide +kernel
theorem dX10_loop_40 : decode cX10_loop 40 = .ok (.invokevirtual 217, 3) := by decide +kernel
theorem dX10_loop_43 : decode cX10_loop 43 = .ok (.ireturn, 1) := by decide +kernel
theorem dX10_loop_44 : decode cX10_loop 44 = .ok (.iconst 0, 1) := by decide +kernel
theorem dX10_loop_45 : decode cX10_loop 45 = .ok (.istore_n 3, 1) := by decide +kernel
theorem dX10_loop_46 : decode cX10_loop 46 = .ok (.iconst 0, 1) := by decide +kernel
theorem dX10_loop_47 : decode cX10_loop 47 = .ok (.istore 4, 2) := by decide +kernel
theorem dX10_loop_49 : decode cX10_loop 49 = .ok (.iload 4, 2) := by decide +kernel
theorem dX10_loop_51 : decode cX10_loop 51 = .ok (.aload_n 0, 1) := by decide +kernel
theorem dX10_loop_52 : decode cX10_loop 52 = .ok (.getfield 67, 3) := by decide +kernel
theorem dX10_loop_55 : decode cX10_loop 55 = .ok (.if_icmp .ge 33, 3) := by decide +kernel
theorem dX10_loop_58 : decode cX10_loop 58 = .ok (.iload_n 3, 1) := by decide +kernel
theorem dX10_loop_59 : decode cX10_loop 59 = .ok (.iload 4, 2) := by decide +kernel
theorem dX10_loop_61 : decode cX10_loop 61 = .ok (.iload_n 1, 1) := by decide +kernel
theorem dX10_loop_62 : decode cX10_loop 62 = .ok (.if_icmp .eq 17, 3) := by decide +kernel
theorem dX10_loop_65 : decode cX10_loop 65 = .ok (.aload_n 0, 1) := by decide +kernel
theorem dX10_loop_66 : decode cX10_loop 66 = .ok (.iload_n 1, 1) := by decide +kernel
theorem dX10_loop_67 : decode cX10_loop 67 = .ok (.iload 4, 2) := by decide +kernel
theorem dX10_loop_69 : decode cX10_loop 69 = .ok (.invokevirtual 279, 3) := by decide +kernel
theorem dX10_loop_72 : decode cX10_loop 72 = .ok (.ifCond .eq 7, 3) := by decide +kernel
theorem dX10_loop_75 : decode cX10_loop 75 = .ok (.iconst 1, 1) := by decide +kernel
theorem dX10_loop_76 : decode cX10_loop 76 = .ok (.goto 4, 3) := by decide +kernel
theorem dX10_loop_79 : decode cX10_loop 79 = .ok (.iconst 0, 1) := by decide +kernel
theorem dX10_loop_80 : decode cX10_loop 80 = .ok (.iadd, 1) := by decide +kernel
theorem dX10_loop_81 : decode cX10_loop 81 = .ok (.istore_n 3, 1) := by decide +kernel
theorem dX10_loop_82 : decode cX10_loop 82 = .ok (.iinc 4 1, 3) := by decide +kernel
theorem dX10_loop_85 : decode cX10_loop 85 = .ok (.goto (-36), 3) := by decide +kernel
theorem dX10_loop_88 : decode cX10_loop 88 = .ok (.iload_n 2, 1) := by decide +kernel
theorem dX10_loop_89 : decode cX10_loop 89 = .ok (.ifCond .ne 12, 3) := by decide +kernel
theorem dX10_loop_92 : decode cX10_loop 92 = .ok (.aload_n 0, 1) := by decide +kernel
theorem dX10_loop_93 : decode cX10_loop 93 = .ok (.getfield 70, 3) := by decide +kernel
theorem dX10_loop_96 : decode cX10_loop 96 = .ok (.iload_n 1, 1) := by decide +kernel
theorem dX10_loop_97 : decode cX10_loop 97 = .ok (.iaload, 1) := by decide +kernel
theorem dX10_loop_98 : decode cX10_loop 98 = .ok (.goto 18, 3) := by decide +kernel
theorem dX10_loop_101 : decode cX10_loop 101 = .ok (.iload_n 2, 1) := by decide +kernel
theorem dX10_loop_102 : decode cX10_loop 102 = .ok (.iconst 1, 1) := by decide +kernel
theorem dX10_loop_103 : decode cX10_loop 103 = .ok (.if_icmp .ne 12, 3) := by decide +kernel
theorem dX10_loop_106 : decode cX10_loop 106 = .ok (.aload_n 0, 1) := by decide +kernel
theorem dX10_loop_107 : decode cX10_loop 107 = .ok (.getfield 73, 3) := by decide +kernel
theorem dX10_loop_110 : decode cX10_loop 110 = .ok (.iload_n 1, 1) := by decide +kernel
theorem dX10_loop_111 : decode cX10_loop 111 = .ok (.iaload, 1) := by decide +kernel
theorem dX10_loop_112 : decode cX10_loop 112 = .ok (.goto 4, 3) := by decide +kernel
theorem dX10_loop_115 : decode cX10_loop 115 = .ok (.iload_n 3, 1) := by decide +kernel
theorem dX10_loop_116 : decode cX10_loop 116 = .ok (.ireturn, 1) := by decide +kernel
theorem dX10_sumOfUses_0 : decode cX10_sumOfUses 0 = .ok (.iconst 0, 1) := by decide +kernel
theorem dX10_sumOfUses_1 : decode cX10_sumOfUses 1 = .ok (.istore_n 3, 1) := by decide +kernel
theorem dX10_sumOfUses_2 : decode cX10_sumOfUses 2 = .ok (.iconst 0, 1) := by decide +kernel
theorem dX10_sumOfUses_3 : decode cX10_sumOfUses 3 = .ok (.istore 4, 2) := by decide +kernel
theorem dX10_sumOfUses_5 : decode cX10_sumOfUses 5 = .ok (.iload 4, 2) := by decide +kernel
theorem dX10_sumOfUses_7 : decode cX10_sumOfUses 7 = .ok (.aload_n 0, 1) := by decide +kernel
theorem dX10_sumOfUses_8 : decode cX10_sumOfUses 8 = .ok (.getfield 17, 3) := by decide +kernel
theorem dX10_sumOfUses_11 : decode cX10_sumOfUses 11 = .ok (.if_icmp .ge 102, 3) := by decide +kernel
theorem dX10_sumOfUses_14 : decode cX10_sumOfUses 14 = .ok (.iload_n 2, 1) := by decide +kernel
theorem dX10_sumOfUses_15 : decode cX10_sumOfUses 15 = .ok (.iload 4, 2) := by decide +kernel
theorem dX10_sumOfUses_17 : decode cX10_sumOfUses 17 = .ok (.invokestatic 255, 3) := by decide +kernel
theorem dX10_sumOfUses_20 : decode cX10_sumOfUses 20 = .ok (.ifCond .ne 6, 3) := by decide +kernel
theorem dX10_sumOfUses_23 : decode cX10_sumOfUses 23 = .ok (.goto 84, 3) := by decide +kernel
theorem dX10_sumOfUses_26 : decode cX10_sumOfUses 26 = .ok (.iconst 0, 1) := by decide +kernel
theorem dX10_sumOfUses_27 : decode cX10_sumOfUses 27 = .ok (.istore 5, 2) := by decide +kernel
theorem dX10_sumOfUses_29 : decode cX10_sumOfUses 29 = .ok (.iload 5, 2) := by decide +kernel
theorem dX10_sumOfUses_31 : decode cX10_sumOfUses 31 = .ok (.aload_n 0, 1) := by decide +kernel
theorem dX10_sumOfUses_32 : decode cX10_sumOfUses 32 = .ok (.getfield 23, 3) := by decide +kernel
theorem dX10_sumOfUses_35 : decode cX10_sumOfUses 35 = .ok (.iload 4, 2) := by decide +kernel
theorem dX10_sumOfUses_37 : decode cX10_sumOfUses 37 = .ok (.iaload, 1) := by decide +kernel
theorem dX10_sumOfUses_38 : decode cX10_sumOfUses 38 = .ok (.if_icmp .ge 42, 3) := by decide +kernel
theorem dX10_sumOfUses_41 : decode cX10_sumOfUses 41 = .ok (.iload_n 3, 1) := by decide +kernel
theorem dX10_sumOfUses_42 : decode cX10_sumOfUses 42 = .ok (.aload_n 0, 1) := by decide +kernel
theorem dX10_sumOfUses_43 : decode cX10_sumOfUses 43 = .ok (.bipush 8, 2) := by decide +kernel
theorem dX10_sumOfUses_45 : decode cX10_sumOfUses 45 = .ok (.iload 4, 2) := by decide +kernel
theorem dX10_sumOfUses_47 : decode cX10_sumOfUses 47 = .ok (.imul, 1) := by decide +kernel
theorem dX10_sumOfUses_48 : decode cX10_sumOfUses 48 = .ok (.iload 5, 2) := by decide +kernel
theorem dX10_sumOfUses_50 : decode cX10_sumOfUses 50 = .ok (.iadd, 1) := by decide +kernel
theorem dX10_sumOfUses_51 : decode cX10_sumOfUses 51 = .ok (.invokevirtual 245, 3) := by decide +kernel
theorem dX10_sumOfUses_54 : decode cX10_sumOfUses 54 = .ok (.iload_n 1, 1) := by decide +kernel
theorem dX10_sumOfUses_55 : decode cX10_sumOfUses 55 = .ok (.invokestatic 255, 3) := by decide +kernel
theorem dX10_sumOfUses_58 : decode cX10_sumOfUses 58 = .ok (.ifCond .eq 13, 3) := by decide +kernel
theorem dX10_sumOfUses_61 : decode cX10_sumOfUses 61 = .ok (.aload_n 0, 1) := by decide +kernel
theorem dX10_sumOfUses_62 : decode cX10_sumOfUses 62 = .ok (.getfield 39, 3) := by decide +kernel
theorem dX10_sumOfUses_65 : decode cX10_sumOfUses 65 = .ok (.iload 4, 2) := by decide +kernel
theorem dX10_sumOfUses_67 : decode cX10_sumOfUses 67 = .ok (.iaload, 1) := by decide +kernel
theorem dX10_sumOfUses_68 : decode cX10_sumOfUses 68 = .ok (.goto 4, 3) := by decide +kernel
theorem dX10_sumOfUses_71 : decode cX10_sumOfUses 71 = .ok (.iconst 0, 1) := by decide +kernel
theorem dX10_sumOfUses_72 : decode cX10_sumOfUses 72 = .ok (.iadd, 1) := by decide +kernel
theorem dX10_sumOfUses_73 : decode cX10_sumOfUses 73 = .ok (.istore_n 3, 1) := by decide +kernel
theorem dX10_sumOfUses_74 : decode cX10_sumOfUses 74 = .ok (.iinc 5 1, 3) := by decide +kernel
theorem dX10_sumOfUses_77 : decode cX10_sumOfUses 77 = .ok (.goto (-48), 3) := by decide +kernel
theorem dX10_sumOfUses_80 : decode cX10_sumOfUses 80 = .ok (.iload_n 3, 1) := by decide +kernel
theorem dX10_sumOfUses_81 : decode cX10_sumOfUses 81 = .ok (.aload_n 0, 1) := by decide +kernel
theorem dX10_sumOfUses_82 : decode cX10_sumOfUses 82 = .ok (.iload 4, 2) := by decide +kernel
theorem dX10_sumOfUses_84 : decode cX10_sumOfUses 84 = .ok (.invokevirtual 242, 3) := by decide +kernel
theorem dX10_sumOfUses_87 : decode cX10_sumOfUses 87 = .ok (.iload_n 1, 1) := by decide +kernel
theorem dX10_sumOfUses_88 : decode cX10_sumOfUses 88 = .ok (.invokestatic 255, 3) := by decide +kernel
theorem dX10_sumOfUses_91 : decode cX10_sumOfUses 91 = .ok (.ifCond .eq 13, 3) := by decide +kernel
theorem dX10_sumOfUses_94 : decode cX10_sumOfUses 94 = .ok (.aload_n 0, 1) := by decide +kernel
theorem dX10_sumOfUses_95 : decode cX10_sumOfUses 95 = .ok (.getfield 39, 3) := by decide +kernel
theorem dX10_sumOfUses_98 : decode cX10_sumOfUses 98 = .ok (.iload 4, 2) := by decide +kernel
theorem dX10_sumOfUses_100 : decode cX10_sumOfUses 100 = .ok (.iaload, 1) := by decide +kernel
theorem dX10_sumOfUses_101 : decode cX10_sumOfUses 101 = .ok (.goto 4, 3) := by decide +kernel
theorem dX10_sumOfUses_104 : decode cX10_sumOfUses 104 = .ok (.iconst 0, 1) := by decide +kernel
theorem dX10_sumOfUses_105 : decode cX10_sumOfUses 105 = .ok (.iadd, 1) := by decide +kernel
theorem dX10_sumOfUses_106 : decode cX10_sumOfUses 106 = .ok (.istore_n 3, 1) := by decide +kernel
theorem dX10_sumOfUses_107 : decode cX10_sumOfUses 107 = .ok (.iinc 4 1, 3) := by decide +kernel
theorem dX10_sumOfUses_110 : decode cX10_sumOfUses 110 = .ok (.goto (-105), 3) := by decide +kernel
theorem dX10_sumOfUses_113 : decode cX10_sumOfUses 113 = .ok (.iload_n 3, 1) := by decide +kernel
theorem dX10_sumOfUses_114 : decode cX10_sumOfUses 114 = .ok (.ireturn, 1) := by decide +kernel
theorem dX10_sumOfTargets_0 : decode cX10_sumOfTargets 0 = .ok (.iconst 0, 1) := by decide +kernel
theorem dX10_sumOfTargets_1 : decode cX10_sumOfTargets 1 = .ok (.istore_n 3, 1) := by decide +kernel
theorem dX10_sumOfTargets_2 : decode cX10_sumOfTargets 2 = .ok (.iconst 0, 1) := by decide +kernel
theorem dX10_sumOfTargets_3 : decode cX10_sumOfTargets 3 = .ok (.istore 4, 2) := by decide +kernel
theorem dX10_sumOfTargets_5 : decode cX10_sumOfTargets 5 = .ok (.iload 4, 2) := by decide +kernel
theorem dX10_sumOfTargets_7 : decode cX10_sumOfTargets 7 = .ok (.aload_n 0, 1) := by decide +kernel
theorem dX10_sumOfTargets_8 : decode cX10_sumOfTargets 8 = .ok (.getfield 17, 3) := by decide +kernel
theorem dX10_sumOfTargets_11 : decode cX10_sumOfTargets 11 = .ok (.if_icmp .ge 70, 3) := by decide +kernel
theorem dX10_sumOfTargets_14 : decode cX10_sumOfTargets 14 = .ok (.iconst 0, 1) := by decide +kernel
theorem dX10_sumOfTargets_15 : decode cX10_sumOfTargets 15 = .ok (.istore 5, 2) := by decide +kernel
theorem dX10_sumOfTargets_17 : decode cX10_sumOfTargets 17 = .ok (.iload 5, 2) := by decide +kernel
theorem dX10_sumOfTargets_19 : decode cX10_sumOfTargets 19 = .ok (.aload_n 0, 1) := by decide +kernel
theorem dX10_sumOfTargets_20 : decode cX10_sumOfTargets 20 = .ok (.getfield 23, 3) := by decide +kernel
theorem dX10_sumOfTargets_23 : decode cX10_sumOfTargets 23 = .ok (.iload 4, 2) := by decide +kernel
theorem dX10_sumOfTargets_25 : decode cX10_sumOfTargets 25 = .ok (.iaload, 1) := by decide +kernel
theorem dX10_sumOfTargets_26 : decode cX10_sumOfTargets 26 = .ok (.if_icmp .ge 49, 3) := by decide +kernel
theorem dX10_sumOfTargets_29 : decode cX10_sumOfTargets 29 = .ok (.iload_n 2, 1) := by decide +kernel
theorem dX10_sumOfTargets_30 : decode cX10_sumOfTargets 30 = .ok (.iload 4, 2) := by decide +kernel
theorem dX10_sumOfTargets_32 : decode cX10_sumOfTargets 32 = .ok (.invokestatic 255, 3) := by decide +kernel
theorem dX10_sumOfTargets_35 : decode cX10_sumOfTargets 35 = .ok (.ifCond .eq 40, 3) := by decide +kernel
theorem dX10_sumOfTargets_38 : decode cX10_sumOfTargets 38 = .ok (.iload_n 3, 1) := by decide +kernel
theorem dX10_sumOfTargets_39 : decode cX10_sumOfTargets 39 = .ok (.aload_n 0, 1) := by decide +kernel
theorem dX10_sumOfTargets_40 : decode cX10_sumOfTargets 40 = .ok (.getfield 45, 3) := by decide +kernel
theorem dX10_sumOfTargets_43 : decode cX10_sumOfTargets 43 = .ok (.bipush 8, 2) := by decide +kernel
theorem dX10_sumOfTargets_45 : decode cX10_sumOfTargets 45 = .ok (.iload 4, 2) := by decide +kernel
theorem dX10_sumOfTargets_47 : decode cX10_sumOfTargets 47 = .ok (.imul, 1) := by decide +kernel
theorem dX10_sumOfTargets_48 : decode cX10_sumOfTargets 48 = .ok (.iload 5, 2) := by decide +kernel
theorem dX10_sumOfTargets_50 : decode cX10_sumOfTargets 50 = .ok (.iadd, 1) := by decide +kernel
theorem dX10_sumOfTargets_51 : decode cX10_sumOfTargets 51 = .ok (.iaload, 1) := by decide +kernel
theorem dX10_sumOfTargets_52 : decode cX10_sumOfTargets 52 = .ok (.iload_n 1, 1) := by decide +kernel
theorem dX10_sumOfTargets_53 : decode cX10_sumOfTargets 53 = .ok (.if_icmp .ne 13, 3) := by decide +kernel
theorem dX10_sumOfTargets_56 : decode cX10_sumOfTargets 56 = .ok (.aload_n 0, 1) := by decide +kernel
theorem dX10_sumOfTargets_57 : decode cX10_sumOfTargets 57 = .ok (.getfield 39, 3) := by decide +kernel
theorem dX10_sumOfTargets_60 : decode cX10_sumOfTargets 60 = .ok (.iload 4, 2) := by decide +kernel
theorem dX10_sumOfTargets_62 : decode cX10_sumOfTargets 62 = .ok (.iaload, 1) := by decide +kernel
theorem dX10_sumOfTargets_63 : decode cX10_sumOfTargets 63 = .ok (.goto 4, 3) := by decide +kernel
theorem dX10_sumOfTargets_66 : decode cX10_sumOfTargets 66 = .ok (.iconst 0, 1) := by decide +kernel
theorem dX10_sumOfTargets_67 : decode cX10_sumOfTargets 67 = .ok (.iadd, 1) := by decide +kernel
theorem dX10_sumOfTargets_68 : decode cX10_sumOfTargets 68 = .ok (.istore_n 3, 1) := by decide +kernel
theorem dX10_sumOfTargets_69 : decode cX10_sumOfTargets 69 = .ok (.iinc 5 1, 3) := by decide +kernel
theorem dX10_sumOfTargets_72 : decode cX10_sumOfTargets 72 = .ok (.goto (-55), 3) := by decide +kernel
theorem dX10_sumOfTargets_75 : decode cX10_sumOfTargets 75 = .ok (.iinc 4 1, 3) := by decide +kernel
theorem dX10_sumOfTargets_78 : decode cX10_sumOfTargets 78 = .ok (.goto (-73), 3) := by decide +kernel
theorem dX10_sumOfTargets_81 : decode cX10_sumOfTargets 81 = .ok (.iload_n 3, 1) := by decide +kernel
theorem dX10_sumOfTargets_82 : decode cX10_sumOfTargets 82 = .ok (.ireturn, 1) := by decide +kernel
theorem dX10_all_0 : decode cX10_all 0 = .ok (.iconst 1, 1) := by decide +kernel
theorem dX10_all_1 : decode cX10_all 1 = .ok (.aload_n 0, 1) := by decide +kernel
theorem dX10_all_2 : decode cX10_all 2 = .ok (.getfield 17, 3) := by decide +kernel
theorem dX10_all_5 : decode cX10_all 5 = .ok (.ishl, 1) := by decide +kernel
theorem dX10_all_6 : decode cX10_all 6 = .ok (.iconst 1, 1) := by decide +kernel
theorem dX10_all_7 : decode cX10_all 7 = .ok (.isub, 1) := by decide +kernel
theorem dX10_all_8 : decode cX10_all 8 = .ok (.ireturn, 1) := by decide +kernel
theorem dX10_memoryCost_0 : decode cX10_memoryCost 0 = .ok (.iconst 3, 1) := by decide +kernel
theorem dX10_memoryCost_1 : decode cX10_memoryCost 1 = .ok (.aload_n 0, 1) := by decide +kernel
theorem dX10_memoryCost_2 : decode cX10_memoryCost 2 = .ok (.iload_n 1, 1) := by decide +kernel
theorem dX10_memoryCost_3 : decode cX10_memoryCost 3 = .ok (.aload_n 0, 1) := by decide +kernel
theorem dX10_memoryCost_4 : decode cX10_memoryCost 4 = .ok (.invokevirtual 282, 3) := by decide +kernel
theorem dX10_memoryCost_7 : decode cX10_memoryCost 7 = .ok (.invokevirtual 286, 3) := by decide +kernel
theorem dX10_memoryCost_10 : decode cX10_memoryCost 10 = .ok (.aload_n 0, 1) := by decide +kernel
theorem dX10_memoryCost_11 : decode cX10_memoryCost 11 = .ok (.iload_n 1, 1) := by decide +kernel
theorem dX10_memoryCost_12 : decode cX10_memoryCost 12 = .ok (.aload_n 0, 1) := by decide +kernel
theorem dX10_memoryCost_13 : decode cX10_memoryCost 13 = .ok (.invokevirtual 282, 3) := by decide +kernel
theorem dX10_memoryCost_16 : decode cX10_memoryCost 16 = .ok (.invokevirtual 289, 3) := by decide +kernel
theorem dX10_memoryCost_19 : decode cX10_memoryCost 19 = .ok (.iadd, 1) := by decide +kernel
theorem dX10_memoryCost_20 : decode cX10_memoryCost 20 = .ok (.aload_n 0, 1) := by decide +kernel
theorem dX10_memoryCost_21 : decode cX10_memoryCost 21 = .ok (.getfield 61, 3) := by decide +kernel
theorem dX10_memoryCost_24 : decode cX10_memoryCost 24 = .ok (.iconst 0, 1) := by decide +kernel
theorem dX10_memoryCost_25 : decode cX10_memoryCost 25 = .ok (.iaload, 1) := by decide +kernel
theorem dX10_memoryCost_26 : decode cX10_memoryCost 26 = .ok (.iload_n 1, 1) := by decide +kernel
theorem dX10_memoryCost_27 : decode cX10_memoryCost 27 = .ok (.invokestatic 255, 3) := by decide +kernel
theorem dX10_memoryCost_30 : decode cX10_memoryCost 30 = .ok (.ifCond .eq 12, 3) := by decide +kernel
theorem dX10_memoryCost_33 : decode cX10_memoryCost 33 = .ok (.aload_n 0, 1) := by decide +kernel
theorem dX10_memoryCost_34 : decode cX10_memoryCost 34 = .ok (.getfield 39, 3) := by decide +kernel
theorem dX10_memoryCost_37 : decode cX10_memoryCost 37 = .ok (.iconst 0, 1) := by decide +kernel
theorem dX10_memoryCost_38 : decode cX10_memoryCost 38 = .ok (.iaload, 1) := by decide +kernel
theorem dX10_memoryCost_39 : decode cX10_memoryCost 39 = .ok (.goto 4, 3) := by decide +kernel
theorem dX10_memoryCost_42 : decode cX10_memoryCost 42 = .ok (.iconst 0, 1) := by decide +kernel
theorem dX10_memoryCost_43 : decode cX10_memoryCost 43 = .ok (.iadd, 1) := by decide +kernel
theorem dX10_memoryCost_44 : decode cX10_memoryCost 44 = .ok (.imul, 1) := by decide +kernel
theorem dX10_memoryCost_45 : decode cX10_memoryCost 45 = .ok (.ireturn, 1) := by decide +kernel
theorem dX10_constantRow_0 : decode cX10_constantRow 0 = .ok (.iconst (-1), 1) := by decide +kernel
theorem dX10_constantRow_1 : decode cX10_constantRow 1 = .ok (.istore_n 2, 1) := by decide +kernel
theorem dX10_constantRow_2 : decode cX10_constantRow 2 = .ok (.iconst 0, 1) := by decide +kernel
theorem dX10_constantRow_3 : decode cX10_constantRow 3 = .ok (.istore_n 3, 1) := by decide +kernel
theorem dX10_constantRow_4 : decode cX10_constantRow 4 = .ok (.iload_n 3, 1) := by decide +kernel
theorem dX10_constantRow_5 : decode cX10_constantRow 5 = .ok (.aload_n 0, 1) := by decide +kernel
theorem dX10_constantRow_6 : decode cX10_constantRow 6 = .ok (.getfield 17, 3) := by decide +kernel
theorem dX10_constantRow_9 : decode cX10_constantRow 9 = .ok (.if_icmp .ge 77, 3) := by decide +kernel
theorem dX10_constantRow_12 : decode cX10_constantRow 12 = .ok (.iconst 0, 1) := by decide +kernel
theorem dX10_constantRow_13 : decode cX10_constantRow 13 = .ok (.istore 4, 2) := by decide +kernel
theorem dX10_constantRow_15 : decode cX10_constantRow 15 = .ok (.iload 4, 2) := by decide +kernel
theorem dX10_constantRow_17 : decode cX10_constantRow 17 = .ok (.aload_n 0, 1) := by decide +kernel
theorem dX10_constantRow_18 : decode cX10_constantRow 18 = .ok (.getfield 23, 3) := by decide +kernel
theorem dX10_constantRow_21 : decode cX10_constantRow 21 = .ok (.iload_n 3, 1) := by decide +kernel
theorem dX10_constantRow_22 : decode cX10_constantRow 22 = .ok (.iaload, 1) := by decide +kernel
theorem dX10_constantRow_23 : decode cX10_constantRow 23 = .ok (.if_icmp .ge 57, 3) := by decide +kernel
theorem dX10_constantRow_26 : decode cX10_constantRow 26 = .ok (.aload_n 0, 1) := by decide +kernel
theorem dX10_constantRow_27 : decode cX10_constantRow 27 = .ok (.getfield 45, 3) := by decide +kernel
theorem dX10_constantRow_30 : decode cX10_constantRow 30 = .ok (.bipush 8, 2) := by decide +kernel
theorem dX10_constantRow_32 : decode cX10_constantRow 32 = .ok (.iload_n 3, 1) := by decide +kernel
theorem dX10_constantRow_33 : decode cX10_constantRow 33 = .ok (.imul, 1) := by decide +kernel
theorem dX10_constantRow_34 : decode cX10_constantRow 34 = .ok (.iload 4, 2) := by decide +kernel
theorem dX10_constantRow_36 : decode cX10_constantRow 36 = .ok (.iadd, 1) := by decide +kernel
theorem dX10_constantRow_37 : decode cX10_constantRow 37 = .ok (.iaload, 1) := by decide +kernel
theorem dX10_constantRow_38 : decode cX10_constantRow 38 = .ok (.iload_n 1, 1) := by decide +kernel
theorem dX10_constantRow_39 : decode cX10_constantRow 39 = .ok (.if_icmp .eq 6, 3) := by decide +kernel
theorem dX10_constantRow_42 : decode cX10_constantRow 42 = .ok (.goto 32, 3) := by decide +kernel
theorem dX10_constantRow_45 : decode cX10_constantRow 45 = .ok (.iload_n 2, 1) := by decide +kernel
theorem dX10_constantRow_46 : decode cX10_constantRow 46 = .ok (.ifCond .ge 18, 3) := by decide +kernel
theorem dX10_constantRow_49 : decode cX10_constantRow 49 = .ok (.aload_n 0, 1) := by decide +kernel
theorem dX10_constantRow_50 : decode cX10_constantRow 50 = .ok (.getfield 42, 3) := by decide +kernel
theorem dX10_constantRow_53 : decode cX10_constantRow 53 = .ok (.bipush 8, 2) := by decide +kernel
theorem dX10_constantRow_55 : decode cX10_constantRow 55 = .ok (.iload_n 3, 1) := by decide +kernel
theorem dX10_constantRow_56 : decode cX10_constantRow 56 = .ok (.imul, 1) := by decide +kernel
theorem dX10_constantRow_57 : decode cX10_constantRow 57 = .ok (.iload 4, 2) := by decide +kernel
theorem dX10_constantRow_59 : decode cX10_constantRow 59 = .ok (.iadd, 1) := by decide +kernel
theorem dX10_constantRow_60 : decode cX10_constantRow 60 = .ok (.iaload, 1) := by decide +kernel
theorem dX10_constantRow_61 : decode cX10_constantRow 61 = .ok (.ifCond .eq 5, 3) := by decide +kernel
theorem dX10_constantRow_64 : decode cX10_constantRow 64 = .ok (.iconst (-1), 1) := by decide +kernel
theorem dX10_constantRow_65 : decode cX10_constantRow 65 = .ok (.ireturn, 1) := by decide +kernel
theorem dX10_constantRow_66 : decode cX10_constantRow 66 = .ok (.bipush 8, 2) := by decide +kernel
theorem dX10_constantRow_68 : decode cX10_constantRow 68 = .ok (.iload_n 3, 1) := by decide +kernel
theorem dX10_constantRow_69 : decode cX10_constantRow 69 = .ok (.imul, 1) := by decide +kernel
theorem dX10_constantRow_70 : decode cX10_constantRow 70 = .ok (.iload 4, 2) := by decide +kernel
theorem dX10_constantRow_72 : decode cX10_constantRow 72 = .ok (.iadd, 1) := by decide +kernel
theorem dX10_constantRow_73 : decode cX10_constantRow 73 = .ok (.istore_n 2, 1) := by decide +kernel
theorem dX10_constantRow_74 : decode cX10_constantRow 74 = .ok (.iinc 4 1, 3) := by decide +kernel
theorem dX10_constantRow_77 : decode cX10_constantRow 77 = .ok (.goto (-62), 3) := by decide +kernel
theorem dX10_constantRow_80 : decode cX10_constantRow 80 = .ok (.iinc 3 1, 3) := by decide +kernel
theorem dX10_constantRow_83 : decode cX10_constantRow 83 = .ok (.goto (-79), 3) := by decide +kernel
theorem dX10_constantRow_86 : decode cX10_constantRow 86 = .ok (.aload_n 0, 1) := by decide +kernel
theorem dX10_constantRow_87 : decode cX10_constantRow 87 = .ok (.getfield 61, 3) := by decide +kernel
theorem dX10_constantRow_90 : decode cX10_constantRow 90 = .ok (.iconst 0, 1) := by decide +kernel
theorem dX10_constantRow_91 : decode cX10_constantRow 91 = .ok (.iaload, 1) := by decide +kernel
theorem dX10_constantRow_92 : decode cX10_constantRow 92 = .ok (.iload_n 1, 1) := by decide +kernel
theorem dX10_constantRow_93 : decode cX10_constantRow 93 = .ok (.invokestatic 255, 3) := by decide +kernel
theorem dX10_constantRow_96 : decode cX10_constantRow 96 = .ok (.ifCond .eq 7, 3) := by decide +kernel
theorem dX10_constantRow_99 : decode cX10_constantRow 99 = .ok (.iconst (-1), 1) := by decide +kernel
theorem dX10_constantRow_100 : decode cX10_constantRow 100 = .ok (.goto 4, 3) := by decide +kernel
theorem dX10_constantRow_103 : decode cX10_constantRow 103 = .ok (.iload_n 2, 1) := by decide +kernel
theorem dX10_constantRow_104 : decode cX10_constantRow 104 = .ok (.ireturn, 1) := by decide +kernel
theorem dX10_cost_0 : decode cX10_cost 0 = .ok (.aload_n 0, 1) := by decide +kernel
theorem dX10_cost_1 : decode cX10_cost 1 = .ok (.iconst 0, 1) := by decide +kernel
theorem dX10_cost_2 : decode cX10_cost 2 = .ok (.putfield 1, 3) := by decide +kernel
theorem dX10_cost_5 : decode cX10_cost 5 = .ok (.iload_n 1, 1) := by decide +kernel
theorem dX10_cost_6 : decode cX10_cost 6 = .ok (.invokestatic 225, 3) := by decide +kernel
theorem dX10_cost_9 : decode cX10_cost 9 = .ok (.ifCond .ne 9, 3) := by decide +kernel
theorem dX10_cost_12 : decode cX10_cost 12 = .ok (.aload_n 0, 1) := by decide +kernel
theorem dX10_cost_13 : decode cX10_cost 13 = .ok (.iconst 1, 1) := by decide +kernel
theorem dX10_cost_14 : decode cX10_cost 14 = .ok (.invokevirtual 217, 3) := by decide +kernel
theorem dX10_cost_17 : decode cX10_cost 17 = .ok (.ireturn, 1) := by decide +kernel
theorem dX10_cost_18 : decode cX10_cost 18 = .ok (.aload_n 0, 1) := by decide +kernel
theorem dX10_cost_19 : decode cX10_cost 19 = .ok (.invokevirtual 252, 3) := by decide +kernel
theorem dX10_cost_22 : decode cX10_cost 22 = .ok (.iload_n 2, 1) := by decide +kernel
theorem dX10_cost_23 : decode cX10_cost 23 = .ok (.ifCond .ne 9, 3) := by decide +kernel
theorem dX10_cost_26 : decode cX10_cost 26 = .ok (.aload_n 0, 1) := by decide +kernel
theorem dX10_cost_27 : decode cX10_cost 27 = .ok (.iload_n 1, 1) := by decide +kernel
theorem dX10_cost_28 : decode cX10_cost 28 = .ok (.invokevirtual 292, 3) := by decide +kernel
theorem dX10_cost_31 : decode cX10_cost 31 = .ok (.ireturn, 1) := by decide +kernel
theorem dX10_cost_32 : decode cX10_cost 32 = .ok (.aload_n 0, 1) := by decide +kernel
theorem dX10_cost_33 : decode cX10_cost 33 = .ok (.iload_n 1, 1) := by decide +kernel
theorem dX10_cost_34 : decode cX10_cost 34 = .ok (.invokevirtual 295, 3) := by decide +kernel
theorem dX10_cost_37 : decode cX10_cost 37 = .ok (.ifCond .ge 11, 3) := by decide +kernel
theorem dX10_cost_40 : decode cX10_cost 40 = .ok (.aload_n 0, 1) := by decide +kernel
theorem dX10_cost_41 : decode cX10_cost 41 = .ok (.iconst 2, 1) := by decide +kernel
theorem dX10_cost_42 : decode cX10_cost 42 = .ok (.invokevirtual 217, 3) := by decide +kernel
theorem dX10_cost_45 : decode cX10_cost 45 = .ok (.goto 12, 3) := by decide +kernel
theorem dX10_cost_48 : decode cX10_cost 48 = .ok (.aload_n 0, 1) := by decide +kernel
theorem dX10_cost_49 : decode cX10_cost 49 = .ok (.iload_n 1, 1) := by decide +kernel
theorem dX10_cost_50 : decode cX10_cost 50 = .ok (.aload_n 0, 1) := by decide +kernel
theorem dX10_cost_51 : decode cX10_cost 51 = .ok (.invokevirtual 282, 3) := by decide +kernel
theorem dX10_cost_54 : decode cX10_cost 54 = .ok (.invokevirtual 286, 3) := by decide +kernel
theorem dX10_cost_57 : decode cX10_cost 57 = .ok (.ireturn, 1) := by decide +kernel
theorem dX10_isUsed_0 : decode cX10_isUsed 0 = .ok (.aload_n 0, 1) := by decide +kernel
theorem dX10_isUsed_1 : decode cX10_isUsed 1 = .ok (.iload_n 1, 1) := by decide +kernel
theorem dX10_isUsed_2 : decode cX10_isUsed 2 = .ok (.aload_n 0, 1) := by decide +kernel
theorem dX10_isUsed_3 : decode cX10_isUsed 3 = .ok (.invokevirtual 282, 3) := by decide +kernel
theorem dX10_isUsed_6 : decode cX10_isUsed 6 = .ok (.invokevirtual 286, 3) := by decide +kernel
theorem dX10_isUsed_9 : decode cX10_isUsed 9 = .ok (.aload_n 0, 1) := by decide +kernel
theorem dX10_isUsed_10 : decode cX10_isUsed 10 = .ok (.iload_n 1, 1) := by decide +kernel
theorem dX10_isUsed_11 : decode cX10_isUsed 11 = .ok (.aload_n 0, 1) := by decide +kernel
theorem dX10_isUsed_12 : decode cX10_isUsed 12 = .ok (.invokevirtual 282, 3) := by decide +kernel
theorem dX10_isUsed_15 : decode cX10_isUsed 15 = .ok (.invokevirtual 289, 3) := by decide +kernel
theorem dX10_isUsed_18 : decode cX10_isUsed 18 = .ok (.iadd, 1) := by decide +kernel
theorem dX10_isUsed_19 : decode cX10_isUsed 19 = .ok (.ifCond .le 7, 3) := by decide +kernel
theorem dX10_isUsed_22 : decode cX10_isUsed 22 = .ok (.iconst 1, 1) := by decide +kernel
theorem dX10_isUsed_23 : decode cX10_isUsed 23 = .ok (.goto 4, 3) := by decide +kernel
theorem dX10_isUsed_26 : decode cX10_isUsed 26 = .ok (.iconst 0, 1) := by decide +kernel
theorem dX10_isUsed_27 : decode cX10_isUsed 27 = .ok (.ireturn, 1) := by decide +kernel
theorem dX10_lowest_0 : decode cX10_lowest 0 = .ok (.iconst 0, 1) := by decide +kernel
theorem dX10_lowest_1 : decode cX10_lowest 1 = .ok (.istore 4, 2) := by decide +kernel
theorem dX10_lowest_3 : decode cX10_lowest 3 = .ok (.iconst 0, 1) := by decide +kernel
theorem dX10_lowest_4 : decode cX10_lowest 4 = .ok (.istore 5, 2) := by decide +kernel
theorem dX10_lowest_6 : decode cX10_lowest 6 = .ok (.iload 5, 2) := by decide +kernel
theorem dX10_lowest_8 : decode cX10_lowest 8 = .ok (.iload_n 1, 1) := by decide +kernel
theorem dX10_lowest_9 : decode cX10_lowest 9 = .ok (.if_icmp .ge 45, 3) := by decide +kernel
theorem dX10_lowest_12 : decode cX10_lowest 12 = .ok (.aload_n 0, 1) := by decide +kernel
theorem dX10_lowest_13 : decode cX10_lowest 13 = .ok (.getfield 85, 3) := by decide +kernel
theorem dX10_lowest_16 : decode cX10_lowest 16 = .ok (.iload 5, 2) := by decide +kernel
theorem dX10_lowest_18 : decode cX10_lowest 18 = .ok (.iaload, 1) := by decide +kernel
theorem dX10_lowest_19 : decode cX10_lowest 19 = .ok (.iload_n 2, 1) := by decide +kernel
theorem dX10_lowest_20 : decode cX10_lowest 20 = .ok (.if_icmp .ne 28, 3) := by decide +kernel
theorem dX10_lowest_23 : decode cX10_lowest 23 = .ok (.aload_n 0, 1) := by decide +kernel
theorem dX10_lowest_24 : decode cX10_lowest 24 = .ok (.getfield 64, 3) := by decide +kernel
theorem dX10_lowest_27 : decode cX10_lowest 27 = .ok (.iload_n 1, 1) := by decide +kernel
theorem dX10_lowest_28 : decode cX10_lowest 28 = .ok (.iaload, 1) := by decide +kernel
theorem dX10_lowest_29 : decode cX10_lowest 29 = .ok (.iload 5, 2) := by decide +kernel
theorem dX10_lowest_31 : decode cX10_lowest 31 = .ok (.invokestatic 255, 3) := by decide +kernel
theorem dX10_lowest_34 : decode cX10_lowest 34 = .ok (.ifCond .eq 14, 3) := by decide +kernel
theorem dX10_lowest_37 : decode cX10_lowest 37 = .ok (.iload 4, 2) := by decide +kernel
theorem dX10_lowest_39 : decode cX10_lowest 39 = .ok (.iconst 1, 1) := by decide +kernel
theorem dX10_lowest_40 : decode cX10_lowest 40 = .ok (.aload_n 3, 1) := by decide +kernel
theorem dX10_lowest_41 : decode cX10_lowest 41 = .ok (.iload 5, 2) := by decide +kernel
theorem dX10_lowest_43 : decode cX10_lowest 43 = .ok (.iaload, 1) := by decide +kernel
theorem dX10_lowest_44 : decode cX10_lowest 44 = .ok (.ishl, 1) := by decide +kernel
theorem dX10_lowest_45 : decode cX10_lowest 45 = .ok (.ior, 1) := by decide +kernel
theorem dX10_lowest_46 : decode cX10_lowest 46 = .ok (.istore 4, 2) := by decide +kernel
theorem dX10_lowest_48 : decode cX10_lowest 48 = .ok (.iinc 5 1, 3) := by decide +kernel
theorem dX10_lowest_51 : decode cX10_lowest 51 = .ok (.goto (-45), 3) := by decide +kernel
theorem dX10_lowest_54 : decode cX10_lowest 54 = .ok (.iconst 0, 1) := by decide +kernel
theorem dX10_lowest_55 : decode cX10_lowest 55 = .ok (.istore 5, 2) := by decide +kernel
theorem dX10_lowest_57 : decode cX10_lowest 57 = .ok (.iload 4, 2) := by decide +kernel
theorem dX10_lowest_59 : decode cX10_lowest 59 = .ok (.iload 5, 2) := by decide +kernel
theorem dX10_lowest_61 : decode cX10_lowest 61 = .ok (.invokestatic 255, 3) := by decide +kernel
theorem dX10_lowest_64 : decode cX10_lowest 64 = .ok (.ifCond .eq 9, 3) := by decide +kernel
theorem dX10_lowest_67 : decode cX10_lowest 67 = .ok (.iinc 5 1, 3) := by decide +kernel
theorem dX10_lowest_70 : decode cX10_lowest 70 = .ok (.goto (-13), 3) := by decide +kernel
theorem dX10_lowest_73 : decode cX10_lowest 73 = .ok (.iload 5, 2) := by decide +kernel
theorem dX10_lowest_75 : decode cX10_lowest 75 = .ok (.ireturn, 1) := by decide +kernel
theorem dX10_colours_0 : decode cX10_colours 0 = .ok (.iconst 0, 1) := by decide +kernel
theorem dX10_colours_1 : decode cX10_colours 1 = .ok (.istore_n 1, 1) := by decide +kernel
theorem dX10_colours_2 : decode cX10_colours 2 = .ok (.iconst 0, 1) := by decide +kernel
theorem dX10_colours_3 : decode cX10_colours 3 = .ok (.istore_n 2, 1) := by decide +kernel
theorem dX10_colours_4 : decode cX10_colours 4 = .ok (.iload_n 2, 1) := by decide +kernel
theorem dX10_colours_5 : decode cX10_colours 5 = .ok (.bipush 12, 2) := by decide +kernel
theorem dX10_colours_7 : decode cX10_colours 7 = .ok (.if_icmp .ge 57, 3) := by decide +kernel
theorem dX10_colours_10 : decode cX10_colours 10 = .ok (.aload_n 0, 1) := by decide +kernel
theorem dX10_colours_11 : decode cX10_colours 11 = .ok (.getfield 88, 3) := by decide +kernel
theorem dX10_colours_14 : decode cX10_colours 14 = .ok (.iload_n 2, 1) := by decide +kernel
theorem dX10_colours_15 : decode cX10_colours 15 = .ok (.iconst (-1), 1) := by decide +kernel
theorem dX10_colours_16 : decode cX10_colours 16 = .ok (.iastore, 1) := by decide +kernel
theorem dX10_colours_17 : decode cX10_colours 17 = .ok (.aload_n 0, 1) := by decide +kernel
theorem dX10_colours_18 : decode cX10_colours 18 = .ok (.getfield 85, 3) := by decide +kernel
theorem dX10_colours_21 : decode cX10_colours 21 = .ok (.iload_n 2, 1) := by decide +kernel
theorem dX10_colours_22 : decode cX10_colours 22 = .ok (.iaload, 1) := by decide +kernel
theorem dX10_colours_23 : decode cX10_colours 23 = .ok (.ifCond .eq 6, 3) := by decide +kernel
theorem dX10_colours_26 : decode cX10_colours 26 = .ok (.goto 32, 3) := by decide +kernel
theorem dX10_colours_29 : decode cX10_colours 29 = .ok (.aload_n 0, 1) := by decide +kernel
theorem dX10_colours_30 : decode cX10_colours 30 = .ok (.getfield 88, 3) := by decide +kernel
theorem dX10_colours_33 : decode cX10_colours 33 = .ok (.iload_n 2, 1) := by decide +kernel
theorem dX10_colours_34 : decode cX10_colours 34 = .ok (.aload_n 0, 1) := by decide +kernel
theorem dX10_colours_35 : decode cX10_colours 35 = .ok (.iload_n 2, 1) := by decide +kernel
theorem dX10_colours_36 : decode cX10_colours 36 = .ok (.iconst 0, 1) := by decide +kernel
theorem dX10_colours_37 : decode cX10_colours 37 = .ok (.aload_n 0, 1) := by decide +kernel
theorem dX10_colours_38 : decode cX10_colours 38 = .ok (.getfield 88, 3) := by decide +kernel
theorem dX10_colours_41 : decode cX10_colours 41 = .ok (.invokevirtual 298, 3) := by decide +kernel
theorem dX10_colours_44 : decode cX10_colours 44 = .ok (.iastore, 1) := by decide +kernel
theorem dX10_colours_45 : decode cX10_colours 45 = .ok (.iload_n 1, 1) := by decide +kernel
theorem dX10_colours_46 : decode cX10_colours 46 = .ok (.aload_n 0, 1) := by decide +kernel
theorem dX10_colours_47 : decode cX10_colours 47 = .ok (.getfield 88, 3) := by decide +kernel
theorem dX10_colours_50 : decode cX10_colours 50 = .ok (.iload_n 2, 1) := by decide +kernel
theorem dX10_colours_51 : decode cX10_colours 51 = .ok (.iaload, 1) := by decide +kernel
theorem dX10_colours_52 : decode cX10_colours 52 = .ok (.iconst 1, 1) := by decide +kernel
theorem dX10_colours_53 : decode cX10_colours 53 = .ok (.iadd, 1) := by decide +kernel
theorem dX10_colours_54 : decode cX10_colours 54 = .ok (.invokestatic 268, 3) := by decide +kernel
theorem dX10_colours_57 : decode cX10_colours 57 = .ok (.istore_n 1, 1) := by decide +kernel
theorem dX10_colours_58 : decode cX10_colours 58 = .ok (.iinc 2 1, 3) := by decide +kernel
theorem dX10_colours_61 : decode cX10_colours 61 = .ok (.goto (-57), 3) := by decide +kernel
theorem dX10_colours_64 : decode cX10_colours 64 = .ok (.iload_n 1, 1) := by decide +kernel
theorem dX10_colours_65 : decode cX10_colours 65 = .ok (.ireturn, 1) := by decide +kernel
theorem dX10_begins_0 : decode cX10_begins 0 = .ok (.aload_n 0, 1) := by decide +kernel
theorem dX10_begins_1 : decode cX10_begins 1 = .ok (.invokevirtual 262, 3) := by decide +kernel
theorem dX10_begins_4 : decode cX10_begins 4 = .ok (.iconst 0, 1) := by decide +kernel
theorem dX10_begins_5 : decode cX10_begins 5 = .ok (.istore_n 1, 1) := by decide +kernel
theorem dX10_begins_6 : decode cX10_begins 6 = .ok (.iload_n 1, 1) := by decide +kernel
theorem dX10_begins_7 : decode cX10_begins 7 = .ok (.bipush 12, 2) := by decide +kernel
theorem dX10_begins_9 : decode cX10_begins 9 = .ok (.if_icmp .ge 35, 3) := by decide +kernel
theorem dX10_begins_12 : decode cX10_begins 12 = .ok (.aload_n 0, 1) := by decide +kernel
theorem dX10_begins_13 : decode cX10_begins 13 = .ok (.getfield 85, 3) := by decide +kernel
theorem dX10_begins_16 : decode cX10_begins 16 = .ok (.iload_n 1, 1) := by decide +kernel
theorem dX10_begins_17 : decode cX10_begins 17 = .ok (.aload_n 0, 1) := by decide +kernel
theorem dX10_begins_18 : decode cX10_begins 18 = .ok (.iload_n 1, 1) := by decide +kernel
theorem dX10_begins_19 : decode cX10_begins 19 = .ok (.invokevirtual 302, 3) := by decide +kernel
theorem dX10_begins_22 : decode cX10_begins 22 = .ok (.ifCond .eq 7, 3) := by decide +kernel
theorem dX10_begins_25 : decode cX10_begins 25 = .ok (.iconst 0, 1) := by decide +kernel
theorem dX10_begins_26 : decode cX10_begins 26 = .ok (.goto 4, 3) := by decide +kernel
theorem dX10_begins_29 : decode cX10_begins 29 = .ok (.iconst (-1), 1) := by decide +kernel
theorem dX10_begins_30 : decode cX10_begins 30 = .ok (.iastore, 1) := by decide +kernel
theorem dX10_begins_31 : decode cX10_begins 31 = .ok (.aload_n 0, 1) := by decide +kernel
theorem dX10_begins_32 : decode cX10_begins 32 = .ok (.getfield 91, 3) := by decide +kernel
theorem dX10_begins_35 : decode cX10_begins 35 = .ok (.iload_n 1, 1) := by decide +kernel
theorem dX10_begins_36 : decode cX10_begins 36 = .ok (.iconst (-1), 1) := by decide +kernel
theorem dX10_begins_37 : decode cX10_begins 37 = .ok (.iastore, 1) := by decide +kernel
theorem dX10_begins_38 : decode cX10_begins 38 = .ok (.iinc 1 1, 3) := by decide +kernel
theorem dX10_begins_41 : decode cX10_begins 41 = .ok (.goto (-35), 3) := by decide +kernel
theorem dX10_begins_44 : decode cX10_begins 44 = .ok (.return_, 1) := by decide +kernel
theorem dX10_costOut_0 : decode cX10_costOut 0 = .ok (.iload_n 2, 1) := by decide +kernel
theorem dX10_costOut_1 : decode cX10_costOut 1 = .ok (.ifCond .eq 23, 3) := by decide +kernel
theorem dX10_costOut_4 : decode cX10_costOut 4 = .ok (.aload_n 0, 1) := by decide +kernel
theorem dX10_costOut_5 : decode cX10_costOut 5 = .ok (.iload_n 1, 1) := by decide +kernel
theorem dX10_costOut_6 : decode cX10_costOut 6 = .ok (.invokevirtual 295, 3) := by decide +kernel
theorem dX10_costOut_9 : decode cX10_costOut 9 = .ok (.ifCond .lt 15, 3) := by decide +kernel
theorem dX10_costOut_12 : decode cX10_costOut 12 = .ok (.aload_n 0, 1) := by decide +kernel
theorem dX10_costOut_13 : decode cX10_costOut 13 = .ok (.iload_n 1, 1) := by decide +kernel
theorem dX10_costOut_14 : decode cX10_costOut 14 = .ok (.aload_n 0, 1) := by decide +kernel
theorem dX10_costOut_15 : decode cX10_costOut 15 = .ok (.invokevirtual 282, 3) := by decide +kernel
theorem dX10_costOut_18 : decode cX10_costOut 18 = .ok (.invokevirtual 286, 3) := by decide +kernel
theorem dX10_costOut_21 : decode cX10_costOut 21 = .ok (.goto 8, 3) := by decide +kernel
theorem dX10_costOut_24 : decode cX10_costOut 24 = .ok (.aload_n 0, 1) := by decide +kernel
theorem dX10_costOut_25 : decode cX10_costOut 25 = .ok (.iload_n 1, 1) := by decide +kernel
theorem dX10_costOut_26 : decode cX10_costOut 26 = .ok (.invokevirtual 292, 3) := by decide +kernel
theorem dX10_costOut_29 : decode cX10_costOut 29 = .ok (.ireturn, 1) := by decide +kernel
theorem dX10_putsOut_0 : decode cX10_putsOut 0 = .ok (.iconst 0, 1) := by decide +kernel
theorem dX10_putsOut_1 : decode cX10_putsOut 1 = .ok (.istore_n 2, 1) := by decide +kernel
theorem dX10_putsOut_2 : decode cX10_putsOut 2 = .ok (.aload_n 0, 1) := by decide +kernel
theorem dX10_putsOut_3 : decode cX10_putsOut 3 = .ok (.getfield 88, 3) := by decide +kernel
theorem dX10_putsOut_6 : decode cX10_putsOut 6 = .ok (.iload_n 2, 1) := by decide +kernel
theorem dX10_putsOut_7 : decode cX10_putsOut 7 = .ok (.iaload, 1) := by decide +kernel
theorem dX10_putsOut_8 : decode cX10_putsOut 8 = .ok (.aload_n 0, 1) := by decide +kernel
theorem dX10_putsOut_9 : decode cX10_putsOut 9 = .ok (.getfield 76, 3) := by decide +kernel
theorem dX10_putsOut_12 : decode cX10_putsOut 12 = .ok (.if_icmp .ge 9, 3) := by decide +kernel
theorem dX10_putsOut_15 : decode cX10_putsOut 15 = .ok (.iinc 2 1, 3) := by decide +kernel
theorem dX10_putsOut_18 : decode cX10_putsOut 18 = .ok (.goto (-16), 3) := by decide +kernel
theorem dX10_putsOut_21 : decode cX10_putsOut 21 = .ok (.iconst (-1), 1) := by decide +kernel
theorem dX10_putsOut_22 : decode cX10_putsOut 22 = .ok (.istore_n 3, 1) := by decide +kernel
theorem dX10_putsOut_23 : decode cX10_putsOut 23 = .ok (.iconst 0, 1) := by decide +kernel
theorem dX10_putsOut_24 : decode cX10_putsOut 24 = .ok (.istore 4, 2) := by decide +kernel
theorem dX10_putsOut_26 : decode cX10_putsOut 26 = .ok (.iload 4, 2) := by decide +kernel
theorem dX10_putsOut_28 : decode cX10_putsOut 28 = .ok (.bipush 12, 2) := by decide +kernel
theorem dX10_putsOut_30 : decode cX10_putsOut 30 = .ok (.if_icmp .ge 65, 3) := by decide +kernel
theorem dX10_putsOut_33 : decode cX10_putsOut 33 = .ok (.aload_n 0, 1) := by decide +kernel
theorem dX10_putsOut_34 : decode cX10_putsOut 34 = .ok (.getfield 85, 3) := by decide +kernel
theorem dX10_putsOut_37 : decode cX10_putsOut 37 = .ok (.iload 4, 2) := by decide +kernel
theorem dX10_putsOut_39 : decode cX10_putsOut 39 = .ok (.iaload, 1) := by decide +kernel
theorem dX10_putsOut_40 : decode cX10_putsOut 40 = .ok (.ifCond .ne 49, 3) := by decide +kernel
theorem dX10_putsOut_43 : decode cX10_putsOut 43 = .ok (.iload 4, 2) := by decide +kernel
theorem dX10_putsOut_45 : decode cX10_putsOut 45 = .ok (.iload_n 2, 1) := by decide +kernel
theorem dX10_putsOut_46 : decode cX10_putsOut 46 = .ok (.if_icmp .eq 20, 3) := by decide +kernel
theorem dX10_putsOut_49 : decode cX10_putsOut 49 = .ok (.aload_n 0, 1) := by decide +kernel
theorem dX10_putsOut_50 : decode cX10_putsOut 50 = .ok (.getfield 64, 3) := by decide +kernel
theorem dX10_putsOut_53 : decode cX10_putsOut 53 = .ok (.iload_n 2, 1) := by decide +kernel
theorem dX10_putsOut_54 : decode cX10_putsOut 54 = .ok (.iaload, 1) := by decide +kernel
theorem dX10_putsOut_55 : decode cX10_putsOut 55 = .ok (.iload 4, 2) := by decide +kernel
theorem dX10_putsOut_57 : decode cX10_putsOut 57 = .ok (.invokestatic 255, 3) := by decide +kernel
theorem dX10_putsOut_60 : decode cX10_putsOut 60 = .ok (.ifCond .ne 6, 3) := by decide +kernel
theorem dX10_putsOut_63 : decode cX10_putsOut 63 = .ok (.goto 26, 3) := by decide +kernel
theorem dX10_putsOut_66 : decode cX10_putsOut 66 = .ok (.iload_n 3, 1) := by decide +kernel
theorem dX10_putsOut_67 : decode cX10_putsOut 67 = .ok (.ifCond .lt 19, 3) := by decide +kernel
theorem dX10_putsOut_70 : decode cX10_putsOut 70 = .ok (.aload_n 0, 1) := by decide +kernel
theorem dX10_putsOut_71 : decode cX10_putsOut 71 = .ok (.iload 4, 2) := by decide +kernel
theorem dX10_putsOut_73 : decode cX10_putsOut 73 = .ok (.iload_n 1, 1) := by decide +kernel
theorem dX10_putsOut_74 : decode cX10_putsOut 74 = .ok (.invokevirtual 305, 3) := by decide +kernel
theorem dX10_putsOut_77 : decode cX10_putsOut 77 = .ok (.aload_n 0, 1) := by decide +kernel
theorem dX10_putsOut_78 : decode cX10_putsOut 78 = .ok (.iload_n 3, 1) := by decide +kernel
theorem dX10_putsOut_79 : decode cX10_putsOut 79 = .ok (.iload_n 1, 1) := by decide +kernel
theorem dX10_putsOut_80 : decode cX10_putsOut 80 = .ok (.invokevirtual 305, 3) := by decide +kernel
theorem dX10_putsOut_83 : decode cX10_putsOut 83 = .ok (.if_icmp .ge 6, 3) := by decide +kernel
theorem dX10_putsOut_86 : decode cX10_putsOut 86 = .ok (.iload 4, 2) := by decide +kernel
theorem dX10_putsOut_88 : decode cX10_putsOut 88 = .ok (.istore_n 3, 1) := by decide +kernel
theorem dX10_putsOut_89 : decode cX10_putsOut 89 = .ok (.iinc 4 1, 3) := by decide +kernel
theorem dX10_putsOut_92 : decode cX10_putsOut 92 = .ok (.goto (-66), 3) := by decide +kernel
theorem dX10_putsOut_95 : decode cX10_putsOut 95 = .ok (.aload_n 0, 1) := by decide +kernel
theorem dX10_putsOut_96 : decode cX10_putsOut 96 = .ok (.getfield 85, 3) := by decide +kernel
theorem dX10_putsOut_99 : decode cX10_putsOut 99 = .ok (.iload_n 3, 1) := by decide +kernel
theorem dX10_putsOut_100 : decode cX10_putsOut 100 = .ok (.iload_n 1, 1) := by decide +kernel
theorem dX10_putsOut_101 : decode cX10_putsOut 101 = .ok (.ifCond .eq 15, 3) := by decide +kernel
theorem dX10_putsOut_104 : decode cX10_putsOut 104 = .ok (.aload_n 0, 1) := by decide +kernel
theorem dX10_putsOut_105 : decode cX10_putsOut 105 = .ok (.iload_n 3, 1) := by decide +kernel
theorem dX10_putsOut_106 : decode cX10_putsOut 106 = .ok (.invokevirtual 295, 3) := by decide +kernel
theorem dX10_putsOut_109 : decode cX10_putsOut 109 = .ok (.ifCond .lt 7, 3) := by decide +kernel
theorem dX10_putsOut_112 : decode cX10_putsOut 112 = .ok (.iconst 2, 1) := by decide +kernel
theorem dX10_putsOut_113 : decode cX10_putsOut 113 = .ok (.goto 4, 3) := by decide +kernel
theorem dX10_putsOut_116 : decode cX10_putsOut 116 = .ok (.iconst 1, 1) := by decide +kernel
theorem dX10_putsOut_117 : decode cX10_putsOut 117 = .ok (.iastore, 1) := by decide +kernel
theorem dX10_putsOut_118 : decode cX10_putsOut 118 = .ok (.return_, 1) := by decide +kernel
theorem dX10_targetsIn_0 : decode cX10_targetsIn 0 = .ok (.iconst 0, 1) := by decide +kernel
theorem dX10_targetsIn_1 : decode cX10_targetsIn 1 = .ok (.istore_n 2, 1) := by decide +kernel
theorem dX10_targetsIn_2 : decode cX10_targetsIn 2 = .ok (.iconst 0, 1) := by decide +kernel
theorem dX10_targetsIn_3 : decode cX10_targetsIn 3 = .ok (.istore_n 3, 1) := by decide +kernel
theorem dX10_targetsIn_4 : decode cX10_targetsIn 4 = .ok (.iload_n 3, 1) := by decide +kernel
theorem dX10_targetsIn_5 : decode cX10_targetsIn 5 = .ok (.aload_n 0, 1) := by decide +kernel
theorem dX10_targetsIn_6 : decode cX10_targetsIn 6 = .ok (.getfield 17, 3) := by decide +kernel
theorem dX10_targetsIn_9 : decode cX10_targetsIn 9 = .ok (.if_icmp .ge 54, 3) := by decide +kernel
theorem dX10_targetsIn_12 : decode cX10_targetsIn 12 = .ok (.iconst 0, 1) := by decide +kernel
theorem dX10_targetsIn_13 : decode cX10_targetsIn 13 = .ok (.istore 4, 2) := by decide +kernel
theorem dX10_targetsIn_15 : decode cX10_targetsIn 15 = .ok (.iload 4, 2) := by decide +kernel
theorem dX10_targetsIn_17 : decode cX10_targetsIn 17 = .ok (.aload_n 0, 1) := by decide +kernel
theorem dX10_targetsIn_18 : decode cX10_targetsIn 18 = .ok (.getfield 23, 3) := by decide +kernel
theorem dX10_targetsIn_21 : decode cX10_targetsIn 21 = .ok (.iload_n 3, 1) := by decide +kernel
theorem dX10_targetsIn_22 : decode cX10_targetsIn 22 = .ok (.iaload, 1) := by decide +kernel
theorem dX10_targetsIn_23 : decode cX10_targetsIn 23 = .ok (.if_icmp .ge 34, 3) := by decide +kernel
theorem dX10_targetsIn_26 : decode cX10_targetsIn 26 = .ok (.iload_n 1, 1) := by decide +kernel
theorem dX10_targetsIn_27 : decode cX10_targetsIn 27 = .ok (.iload_n 3, 1) := by decide +kernel
theorem dX10_targetsIn_28 : decode cX10_targetsIn 28 = .ok (.invokestatic 255, 3) := by decide +kernel
theorem dX10_targetsIn_31 : decode cX10_targetsIn 31 = .ok (.ifCond .eq 26, 3) := by decide +kernel
theorem dX10_targetsIn_34 : decode cX10_targetsIn 34 = .ok (.iload_n 2, 1) := by decide +kernel
theorem dX10_targetsIn_35 : decode cX10_targetsIn 35 = .ok (.iconst 1, 1) := by decide +kernel
theorem dX10_targetsIn_36 : decode cX10_targetsIn 36 = .ok (.aload_n 0, 1) := by decide +kernel
theorem dX10_targetsIn_37 : decode cX10_targetsIn 37 = .ok (.getfield 45, 3) := by decide +kernel
theorem dX10_targetsIn_40 : decode cX10_targetsIn 40 = .ok (.bipush 8, 2) := by decide +kernel
theorem dX10_targetsIn_42 : decode cX10_targetsIn 42 = .ok (.iload_n 3, 1) := by decide +kernel
theorem dX10_targetsIn_43 : decode cX10_targetsIn 43 = .ok (.imul, 1) := by decide +kernel
theorem dX10_targetsIn_44 : decode cX10_targetsIn 44 = .ok (.iload 4, 2) := by decide +kernel
theorem dX10_targetsIn_46 : decode cX10_targetsIn 46 = .ok (.iadd, 1) := by decide +kernel
theorem dX10_targetsIn_47 : decode cX10_targetsIn 47 = .ok (.iaload, 1) := by decide +kernel
theorem dX10_targetsIn_48 : decode cX10_targetsIn 48 = .ok (.ishl, 1) := by decide +kernel
theorem dX10_targetsIn_49 : decode cX10_targetsIn 49 = .ok (.ior, 1) := by decide +kernel
theorem dX10_targetsIn_50 : decode cX10_targetsIn 50 = .ok (.istore_n 2, 1) := by decide +kernel
theorem dX10_targetsIn_51 : decode cX10_targetsIn 51 = .ok (.iinc 4 1, 3) := by decide +kernel
theorem dX10_targetsIn_54 : decode cX10_targetsIn 54 = .ok (.goto (-39), 3) := by decide +kernel
theorem dX10_targetsIn_57 : decode cX10_targetsIn 57 = .ok (.iinc 3 1, 3) := by decide +kernel
theorem dX10_targetsIn_60 : decode cX10_targetsIn 60 = .ok (.goto (-56), 3) := by decide +kernel
theorem dX10_targetsIn_63 : decode cX10_targetsIn 63 = .ok (.iload_n 2, 1) := by decide +kernel
theorem dX10_targetsIn_64 : decode cX10_targetsIn 64 = .ok (.ireturn, 1) := by decide +kernel
theorem dX10_presentIn_0 : decode cX10_presentIn 0 = .ok (.aload_n 0, 1) := by decide +kernel
theorem dX10_presentIn_1 : decode cX10_presentIn 1 = .ok (.iload_n 1, 1) := by decide +kernel
theorem dX10_presentIn_2 : decode cX10_presentIn 2 = .ok (.invokevirtual 309, 3) := by decide +kernel
theorem dX10_presentIn_5 : decode cX10_presentIn 5 = .ok (.istore_n 2, 1) := by decide +kernel
theorem dX10_presentIn_6 : decode cX10_presentIn 6 = .ok (.iconst 0, 1) := by decide +kernel
theorem dX10_presentIn_7 : decode cX10_presentIn 7 = .ok (.istore_n 3, 1) := by decide +kernel
theorem dX10_presentIn_8 : decode cX10_presentIn 8 = .ok (.iload_n 3, 1) := by decide +kernel
theorem dX10_presentIn_9 : decode cX10_presentIn 9 = .ok (.aload_n 0, 1) := by decide +kernel
theorem dX10_presentIn_10 : decode cX10_presentIn 10 = .ok (.getfield 17, 3) := by decide +kernel
theorem dX10_presentIn_13 : decode cX10_presentIn 13 = .ok (.if_icmp .ge 69, 3) := by decide +kernel
theorem dX10_presentIn_16 : decode cX10_presentIn 16 = .ok (.iload_n 1, 1) := by decide +kernel
theorem dX10_presentIn_17 : decode cX10_presentIn 17 = .ok (.iload_n 3, 1) := by decide +kernel
theorem dX10_presentIn_18 : decode cX10_presentIn 18 = .ok (.invokestatic 255, 3) := by decide +kernel
theorem dX10_presentIn_21 : decode cX10_presentIn 21 = .ok (.ifCond .ne 6, 3) := by decide +kernel
theorem dX10_presentIn_24 : decode cX10_presentIn 24 = .ok (.goto 52, 3) := by decide +kernel
theorem dX10_presentIn_27 : decode cX10_presentIn 27 = .ok (.iload_n 2, 1) := by decide +kernel
theorem dX10_presentIn_28 : decode cX10_presentIn 28 = .ok (.aload_n 0, 1) := by decide +kernel
theorem dX10_presentIn_29 : decode cX10_presentIn 29 = .ok (.getfield 61, 3) := by decide +kernel
theorem dX10_presentIn_32 : decode cX10_presentIn 32 = .ok (.iload_n 3, 1) := by decide +kernel
theorem dX10_presentIn_33 : decode cX10_presentIn 33 = .ok (.iaload, 1) := by decide +kernel
theorem dX10_presentIn_34 : decode cX10_presentIn 34 = .ok (.aload_n 0, 1) := by decide +kernel
theorem dX10_presentIn_35 : decode cX10_presentIn 35 = .ok (.iload_n 3, 1) := by decide +kernel
theorem dX10_presentIn_36 : decode cX10_presentIn 36 = .ok (.invokevirtual 242, 3) := by decide +kernel
theorem dX10_presentIn_39 : decode cX10_presentIn 39 = .ok (.ior, 1) := by decide +kernel
theorem dX10_presentIn_40 : decode cX10_presentIn 40 = .ok (.ior, 1) := by decide +kernel
theorem dX10_presentIn_41 : decode cX10_presentIn 41 = .ok (.istore_n 2, 1) := by decide +kernel
theorem dX10_presentIn_42 : decode cX10_presentIn 42 = .ok (.iconst 0, 1) := by decide +kernel
theorem dX10_presentIn_43 : decode cX10_presentIn 43 = .ok (.istore 4, 2) := by decide +kernel
theorem dX10_presentIn_45 : decode cX10_presentIn 45 = .ok (.iload 4, 2) := by decide +kernel
theorem dX10_presentIn_47 : decode cX10_presentIn 47 = .ok (.aload_n 0, 1) := by decide +kernel
theorem dX10_presentIn_48 : decode cX10_presentIn 48 = .ok (.getfield 23, 3) := by decide +kernel
theorem dX10_presentIn_51 : decode cX10_presentIn 51 = .ok (.iload_n 3, 1) := by decide +kernel
theorem dX10_presentIn_52 : decode cX10_presentIn 52 = .ok (.iaload, 1) := by decide +kernel
theorem dX10_presentIn_53 : decode cX10_presentIn 53 = .ok (.if_icmp .ge 23, 3) := by decide +kernel
theorem dX10_presentIn_56 : decode cX10_presentIn 56 = .ok (.iload_n 2, 1) := by decide +kernel
theorem dX10_presentIn_57 : decode cX10_presentIn 57 = .ok (.aload_n 0, 1) := by decide +kernel
theorem dX10_presentIn_58 : decode cX10_presentIn 58 = .ok (.bipush 8, 2) := by decide +kernel
theorem dX10_presentIn_60 : decode cX10_presentIn 60 = .ok (.iload_n 3, 1) := by decide +kernel
theorem dX10_presentIn_61 : decode cX10_presentIn 61 = .ok (.imul, 1) := by decide +kernel
theorem dX10_presentIn_62 : decode cX10_presentIn 62 = .ok (.iload 4, 2) := by decide +kernel
theorem dX10_presentIn_64 : decode cX10_presentIn 64 = .ok (.iadd, 1) := by decide +kernel
theorem dX10_presentIn_65 : decode cX10_presentIn 65 = .ok (.invokevirtual 245, 3) := by decide +kernel
theorem dX10_presentIn_68 : decode cX10_presentIn 68 = .ok (.ior, 1) := by decide +kernel
theorem dX10_presentIn_69 : decode cX10_presentIn 69 = .ok (.istore_n 2, 1) := by decide +kernel
theorem dX10_presentIn_70 : decode cX10_presentIn 70 = .ok (.iinc 4 1, 3) := by decide +kernel
theorem dX10_presentIn_73 : decode cX10_presentIn 73 = .ok (.goto (-28), 3) := by decide +kernel
theorem dX10_presentIn_76 : decode cX10_presentIn 76 = .ok (.iinc 3 1, 3) := by decide +kernel
theorem dX10_presentIn_79 : decode cX10_presentIn 79 = .ok (.goto (-71), 3) := by decide +kernel
theorem dX10_presentIn_82 : decode cX10_presentIn 82 = .ok (.iload_n 2, 1) := by decide +kernel
theorem dX10_presentIn_83 : decode cX10_presentIn 83 = .ok (.ireturn, 1) := by decide +kernel
theorem dX10_gain_0 : decode cX10_gain 0 = .ok (.aload_n 0, 1) := by decide +kernel
theorem dX10_gain_1 : decode cX10_gain 1 = .ok (.iload_n 1, 1) := by decide +kernel
theorem dX10_gain_2 : decode cX10_gain 2 = .ok (.aload_n 0, 1) := by decide +kernel
theorem dX10_gain_3 : decode cX10_gain 3 = .ok (.getfield 73, 3) := by decide +kernel
theorem dX10_gain_6 : decode cX10_gain 6 = .ok (.iload_n 2, 1) := by decide +kernel
theorem dX10_gain_7 : decode cX10_gain 7 = .ok (.iaload, 1) := by decide +kernel
theorem dX10_gain_8 : decode cX10_gain 8 = .ok (.invokevirtual 286, 3) := by decide +kernel
theorem dX10_gain_11 : decode cX10_gain 11 = .ok (.aload_n 0, 1) := by decide +kernel
theorem dX10_gain_12 : decode cX10_gain 12 = .ok (.iload_n 1, 1) := by decide +kernel
theorem dX10_gain_13 : decode cX10_gain 13 = .ok (.aload_n 0, 1) := by decide +kernel
theorem dX10_gain_14 : decode cX10_gain 14 = .ok (.getfield 73, 3) := by decide +kernel
theorem dX10_gain_17 : decode cX10_gain 17 = .ok (.iload_n 2, 1) := by decide +kernel
theorem dX10_gain_18 : decode cX10_gain 18 = .ok (.iaload, 1) := by decide +kernel
theorem dX10_gain_19 : decode cX10_gain 19 = .ok (.invokevirtual 289, 3) := by decide +kernel
theorem dX10_gain_22 : decode cX10_gain 22 = .ok (.iadd, 1) := by decide +kernel
theorem dX10_gain_23 : decode cX10_gain 23 = .ok (.istore_n 3, 1) := by decide +kernel
theorem dX10_gain_24 : decode cX10_gain 24 = .ok (.iconst 0, 1) := by decide +kernel
theorem dX10_gain_25 : decode cX10_gain 25 = .ok (.istore 4, 2) := by decide +kernel
theorem dX10_gain_27 : decode cX10_gain 27 = .ok (.iload 4, 2) := by decide +kernel
theorem dX10_gain_29 : decode cX10_gain 29 = .ok (.aload_n 0, 1) := by decide +kernel
theorem dX10_gain_30 : decode cX10_gain 30 = .ok (.getfield 17, 3) := by decide +kernel
theorem dX10_gain_33 : decode cX10_gain 33 = .ok (.if_icmp .ge 179, 3) := by decide +kernel
theorem dX10_gain_36 : decode cX10_gain 36 = .ok (.aload_n 0, 1) := by decide +kernel
theorem dX10_gain_37 : decode cX10_gain 37 = .ok (.getfield 73, 3) := by decide +kernel
theorem dX10_gain_40 : decode cX10_gain 40 = .ok (.iload_n 2, 1) := by decide +kernel
theorem dX10_gain_41 : decode cX10_gain 41 = .ok (.iaload, 1) := by decide +kernel
theorem dX10_gain_42 : decode cX10_gain 42 = .ok (.iload 4, 2) := by decide +kernel
theorem dX10_gain_44 : decode cX10_gain 44 = .ok (.invokestatic 255, 3) := by decide +kernel
theorem dX10_gain_47 : decode cX10_gain 47 = .ok (.ifCond .ne 53, 3) := by decide +kernel
theorem dX10_gain_50 : decode cX10_gain 50 = .ok (.iload_n 3, 1) := by decide +kernel
theorem dX10_gain_51 : decode cX10_gain 51 = .ok (.aload_n 0, 1) := by decide +kernel
theorem dX10_gain_52 : decode cX10_gain 52 = .ok (.iload 4, 2) := by decide +kernel
theorem dX10_gain_54 : decode cX10_gain 54 = .ok (.aload_n 0, 1) := by decide +kernel
theorem dX10_gain_55 : decode cX10_gain 55 = .ok (.getfield 70, 3) := by decide +kernel
theorem dX10_gain_58 : decode cX10_gain 58 = .ok (.iload_n 2, 1) := by decide +kernel
theorem dX10_gain_59 : decode cX10_gain 59 = .ok (.iaload, 1) := by decide +kernel
theorem dX10_gain_60 : decode cX10_gain 60 = .ok (.invokevirtual 235, 3) := by decide +kernel
theorem dX10_gain_63 : decode cX10_gain 63 = .ok (.ifCond .eq 31, 3) := by decide +kernel
theorem dX10_gain_66 : decode cX10_gain 66 = .ok (.aload_n 0, 1) := by decide +kernel
theorem dX10_gain_67 : decode cX10_gain 67 = .ok (.getfield 61, 3) := by decide +kernel
theorem dX10_gain_70 : decode cX10_gain 70 = .ok (.aload_n 0, 1) := by decide +kernel
theorem dX10_gain_71 : decode cX10_gain 71 = .ok (.getfield 70, 3) := by decide +kernel
theorem dX10_gain_74 : decode cX10_gain 74 = .ok (.iload_n 2, 1) := by decide +kernel
theorem dX10_gain_75 : decode cX10_gain 75 = .ok (.iaload, 1) := by decide +kernel
theorem dX10_gain_76 : decode cX10_gain 76 = .ok (.iaload, 1) := by decide +kernel
theorem dX10_gain_77 : decode cX10_gain 77 = .ok (.iload_n 1, 1) := by decide +kernel
theorem dX10_gain_78 : decode cX10_gain 78 = .ok (.invokestatic 255, 3) := by decide +kernel
theorem dX10_gain_81 : decode cX10_gain 81 = .ok (.ifCond .eq 13, 3) := by decide +kernel
theorem dX10_gain_84 : decode cX10_gain 84 = .ok (.aload_n 0, 1) := by decide +kernel
theorem dX10_gain_85 : decode cX10_gain 85 = .ok (.getfield 39, 3) := by decide +kernel
theorem dX10_gain_88 : decode cX10_gain 88 = .ok (.iload 4, 2) := by decide +kernel
theorem dX10_gain_90 : decode cX10_gain 90 = .ok (.iaload, 1) := by decide +kernel
theorem dX10_gain_91 : decode cX10_gain 91 = .ok (.goto 4, 3) := by decide +kernel
theorem dX10_gain_94 : decode cX10_gain 94 = .ok (.iconst 0, 1) := by decide +kernel
theorem dX10_gain_95 : decode cX10_gain 95 = .ok (.isub, 1) := by decide +kernel
theorem dX10_gain_96 : decode cX10_gain 96 = .ok (.istore_n 3, 1) := by decide +kernel
theorem dX10_gain_97 : decode cX10_gain 97 = .ok (.goto 109, 3) := by decide +kernel
theorem dX10_gain_100 : decode cX10_gain 100 = .ok (.iconst 0, 1) := by decide +kernel
theorem dX10_gain_101 : decode cX10_gain 101 = .ok (.istore 5, 2) := by decide +kernel
theorem dX10_gain_103 : decode cX10_gain 103 = .ok (.iconst 0, 1) := by decide +kernel
theorem dX10_gain_104 : decode cX10_gain 104 = .ok (.istore 6, 2) := by decide +kernel
theorem dX10_gain_106 : decode cX10_gain 106 = .ok (.iload 6, 2) := by decide +kernel
theorem dX10_gain_108 : decode cX10_gain 108 = .ok (.aload_n 0, 1) := by decide +kernel
theorem dX10_gain_109 : decode cX10_gain 109 = .ok (.getfield 17, 3) := by decide +kernel
theorem dX10_gain_112 : decode cX10_gain 112 = .ok (.if_icmp .ge 58, 3) := by decide +kernel
theorem dX10_gain_115 : decode cX10_gain 115 = .ok (.iload 5, 2) := by decide +kernel
theorem dX10_gain_117 : decode cX10_gain 117 = .ok (.aload_n 0, 1) := by decide +kernel
theorem dX10_gain_118 : decode cX10_gain 118 = .ok (.iload 4, 2) := by decide +kernel
theorem dX10_gain_120 : decode cX10_gain 120 = .ok (.iload 6, 2) := by decide +kernel
theorem dX10_gain_122 : decode cX10_gain 122 = .ok (.invokevirtual 235, 3) := by decide +kernel
theorem dX10_gain_125 : decode cX10_gain 125 = .ok (.ifCond .eq 35, 3) := by decide +kernel
theorem dX10_gain_128 : decode cX10_gain 128 = .ok (.aload_n 0, 1) := by decide +kernel
theorem dX10_gain_129 : decode cX10_gain 129 = .ok (.getfield 73, 3) := by decide +kernel
theorem dX10_gain_132 : decode cX10_gain 132 = .ok (.iload_n 2, 1) := by decide +kernel
theorem dX10_gain_133 : decode cX10_gain 133 = .ok (.iaload, 1) := by decide +kernel
theorem dX10_gain_134 : decode cX10_gain 134 = .ok (.iload 6, 2) := by decide +kernel
theorem dX10_gain_136 : decode cX10_gain 136 = .ok (.invokestatic 255, 3) := by decide +kernel
theorem dX10_gain_139 : decode cX10_gain 139 = .ok (.ifCond .ne 21, 3) := by decide +kernel
theorem dX10_gain_142 : decode cX10_gain 142 = .ok (.aload_n 0, 1) := by decide +kernel
theorem dX10_gain_143 : decode cX10_gain 143 = .ok (.getfield 61, 3) := by decide +kernel
theorem dX10_gain_146 : decode cX10_gain 146 = .ok (.iload 6, 2) := by decide +kernel
theorem dX10_gain_148 : decode cX10_gain 148 = .ok (.iaload, 1) := by decide +kernel
theorem dX10_gain_149 : decode cX10_gain 149 = .ok (.iload_n 1, 1) := by decide +kernel
theorem dX10_gain_150 : decode cX10_gain 150 = .ok (.invokestatic 255, 3) := by decide +kernel
theorem dX10_gain_153 : decode cX10_gain 153 = .ok (.ifCond .eq 7, 3) := by decide +kernel
theorem dX10_gain_156 : decode cX10_gain 156 = .ok (.iconst 1, 1) := by decide +kernel
theorem dX10_gain_157 : decode cX10_gain 157 = .ok (.goto 4, 3) := by decide +kernel
theorem dX10_gain_160 : decode cX10_gain 160 = .ok (.iconst 0, 1) := by decide +kernel
theorem dX10_gain_161 : decode cX10_gain 161 = .ok (.ior, 1) := by decide +kernel
theorem dX10_gain_162 : decode cX10_gain 162 = .ok (.istore 5, 2) := by decide +kernel
theorem dX10_gain_164 : decode cX10_gain 164 = .ok (.iinc 6 1, 3) := by decide +kernel
theorem dX10_gain_167 : decode cX10_gain 167 = .ok (.goto (-61), 3) := by decide +kernel
theorem dX10_gain_170 : decode cX10_gain 170 = .ok (.iload_n 3, 1) := by decide +kernel
theorem dX10_gain_171 : decode cX10_gain 171 = .ok (.iload 5, 2) := by decide +kernel
theorem dX10_gain_173 : decode cX10_gain 173 = .ok (.ifCond .eq 30, 3) := by decide +kernel
theorem dX10_gain_176 : decode cX10_gain 176 = .ok (.aload_n 0, 1) := by decide +kernel
theorem dX10_gain_177 : decode cX10_gain 177 = .ok (.aload_n 0, 1) := by decide +kernel
theorem dX10_gain_178 : decode cX10_gain 178 = .ok (.getfield 73, 3) := by decide +kernel
theorem dX10_gain_181 : decode cX10_gain 181 = .ok (.iload_n 2, 1) := by decide +kernel
theorem dX10_gain_182 : decode cX10_gain 182 = .ok (.iaload, 1) := by decide +kernel
theorem dX10_gain_183 : decode cX10_gain 183 = .ok (.invokevirtual 309, 3) := by decide +kernel
theorem dX10_gain_186 : decode cX10_gain 186 = .ok (.iload_n 1, 1) := by decide +kernel
theorem dX10_gain_187 : decode cX10_gain 187 = .ok (.invokestatic 255, 3) := by decide +kernel
theorem dX10_gain_190 : decode cX10_gain 190 = .ok (.ifCond .eq 13, 3) := by decide +kernel
theorem dX10_gain_193 : decode cX10_gain 193 = .ok (.aload_n 0, 1) := by decide +kernel
theorem dX10_gain_194 : decode cX10_gain 194 = .ok (.getfield 39, 3) := by decide +kernel
theorem dX10_gain_197 : decode cX10_gain 197 = .ok (.iload 4, 2) := by decide +kernel
theorem dX10_gain_199 : decode cX10_gain 199 = .ok (.iaload, 1) := by decide +kernel
theorem dX10_gain_200 : decode cX10_gain 200 = .ok (.goto 4, 3) := by decide +kernel
theorem dX10_gain_203 : decode cX10_gain 203 = .ok (.iconst 0, 1) := by decide +kernel
theorem dX10_gain_204 : decode cX10_gain 204 = .ok (.isub, 1) := by decide +kernel
theorem dX10_gain_205 : decode cX10_gain 205 = .ok (.istore_n 3, 1) := by decide +kernel
theorem dX10_gain_206 : decode cX10_gain 206 = .ok (.iinc 4 1, 3) := by decide +kernel
theorem dX10_gain_209 : decode cX10_gain 209 = .ok (.goto (-182), 3) := by decide +kernel
theorem dX10_gain_212 : decode cX10_gain 212 = .ok (.iconst 3, 1) := by decide +kernel
theorem dX10_gain_213 : decode cX10_gain 213 = .ok (.iload_n 3, 1) := by decide +kernel
theorem dX10_gain_214 : decode cX10_gain 214 = .ok (.imul, 1) := by decide +kernel
theorem dX10_gain_215 : decode cX10_gain 215 = .ok (.ireturn, 1) := by decide +kernel
theorem dX10_colourIn_0 : decode cX10_colourIn 0 = .ok (.iconst 0, 1) := by decide +kernel
theorem dX10_colourIn_1 : decode cX10_colourIn 1 = .ok (.istore_n 3, 1) := by decide +kernel
theorem dX10_colourIn_2 : decode cX10_colourIn 2 = .ok (.aload_n 0, 1) := by decide +kernel
theorem dX10_colourIn_3 : decode cX10_colourIn 3 = .ok (.aload_n 0, 1) := by decide +kernel
theorem dX10_colourIn_4 : decode cX10_colourIn 4 = .ok (.getfield 73, 3) := by decide +kernel
theorem dX10_colourIn_7 : decode cX10_colourIn 7 = .ok (.iload_n 2, 1) := by decide +kernel
theorem dX10_colourIn_8 : decode cX10_colourIn 8 = .ok (.iaload, 1) := by decide +kernel
theorem dX10_colourIn_9 : decode cX10_colourIn 9 = .ok (.invokevirtual 312, 3) := by decide +kernel
theorem dX10_colourIn_12 : decode cX10_colourIn 12 = .ok (.istore 4, 2) := by decide +kernel
theorem dX10_colourIn_14 : decode cX10_colourIn 14 = .ok (.iconst 0, 1) := by decide +kernel
theorem dX10_colourIn_15 : decode cX10_colourIn 15 = .ok (.istore 5, 2) := by decide +kernel
theorem dX10_colourIn_17 : decode cX10_colourIn 17 = .ok (.iload 5, 2) := by decide +kernel
theorem dX10_colourIn_19 : decode cX10_colourIn 19 = .ok (.bipush 12, 2) := by decide +kernel
theorem dX10_colourIn_21 : decode cX10_colourIn 21 = .ok (.if_icmp .ge 113, 3) := by decide +kernel
theorem dX10_colourIn_24 : decode cX10_colourIn 24 = .ok (.iload 4, 2) := by decide +kernel
theorem dX10_colourIn_26 : decode cX10_colourIn 26 = .ok (.iload 5, 2) := by decide +kernel
theorem dX10_colourIn_28 : decode cX10_colourIn 28 = .ok (.invokestatic 255, 3) := by decide +kernel
theorem dX10_colourIn_31 : decode cX10_colourIn 31 = .ok (.ifCond .ne 6, 3) := by decide +kernel
theorem dX10_colourIn_34 : decode cX10_colourIn 34 = .ok (.goto 94, 3) := by decide +kernel
theorem dX10_colourIn_37 : decode cX10_colourIn 37 = .ok (.aload_n 0, 1) := by decide +kernel
theorem dX10_colourIn_38 : decode cX10_colourIn 38 = .ok (.getfield 85, 3) := by decide +kernel
theorem dX10_colourIn_41 : decode cX10_colourIn 41 = .ok (.iload 5, 2) := by decide +kernel
theorem dX10_colourIn_43 : decode cX10_colourIn 43 = .ok (.iaload, 1) := by decide +kernel
theorem dX10_colourIn_44 : decode cX10_colourIn 44 = .ok (.ifCond .ne 15, 3) := by decide +kernel
theorem dX10_colourIn_47 : decode cX10_colourIn 47 = .ok (.iload_n 3, 1) := by decide +kernel
theorem dX10_colourIn_48 : decode cX10_colourIn 48 = .ok (.iconst 1, 1) := by decide +kernel
theorem dX10_colourIn_49 : decode cX10_colourIn 49 = .ok (.aload_n 0, 1) := by decide +kernel
theorem dX10_colourIn_50 : decode cX10_colourIn 50 = .ok (.getfield 88, 3) := by decide +kernel
theorem dX10_colourIn_53 : decode cX10_colourIn 53 = .ok (.iload 5, 2) := by decide +kernel
theorem dX10_colourIn_55 : decode cX10_colourIn 55 = .ok (.iaload, 1) := by decide +kernel
theorem dX10_colourIn_56 : decode cX10_colourIn 56 = .ok (.ishl, 1) := by decide +kernel
theorem dX10_colourIn_57 : decode cX10_colourIn 57 = .ok (.ior, 1) := by decide +kernel
theorem dX10_colourIn_58 : decode cX10_colourIn 58 = .ok (.istore_n 3, 1) := by decide +kernel
theorem dX10_colourIn_59 : decode cX10_colourIn 59 = .ok (.iconst 0, 1) := by decide +kernel
theorem dX10_colourIn_60 : decode cX10_colourIn 60 = .ok (.istore 6, 2) := by decide +kernel
theorem dX10_colourIn_62 : decode cX10_colourIn 62 = .ok (.iload 6, 2) := by decide +kernel
theorem dX10_colourIn_64 : decode cX10_colourIn 64 = .ok (.aload_n 0, 1) := by decide +kernel
theorem dX10_colourIn_65 : decode cX10_colourIn 65 = .ok (.getfield 67, 3) := by decide +kernel
theorem dX10_colourIn_68 : decode cX10_colourIn 68 = .ok (.if_icmp .ge 60, 3) := by decide +kernel
theorem dX10_colourIn_71 : decode cX10_colourIn 71 = .ok (.aload_n 0, 1) := by decide +kernel
theorem dX10_colourIn_72 : decode cX10_colourIn 72 = .ok (.getfield 94, 3) := by decide +kernel
theorem dX10_colourIn_75 : decode cX10_colourIn 75 = .ok (.bipush 8, 2) := by decide +kernel
theorem dX10_colourIn_77 : decode cX10_colourIn 77 = .ok (.iload 5, 2) := by decide +kernel
theorem dX10_colourIn_79 : decode cX10_colourIn 79 = .ok (.imul, 1) := by decide +kernel
theorem dX10_colourIn_80 : decode cX10_colourIn 80 = .ok (.iload 6, 2) := by decide +kernel
theorem dX10_colourIn_82 : decode cX10_colourIn 82 = .ok (.iadd, 1) := by decide +kernel
theorem dX10_colourIn_83 : decode cX10_colourIn 83 = .ok (.iaload, 1) := by decide +kernel
theorem dX10_colourIn_84 : decode cX10_colourIn 84 = .ok (.ifCond .lt 38, 3) := by decide +kernel
theorem dX10_colourIn_87 : decode cX10_colourIn 87 = .ok (.aload_n 0, 1) := by decide +kernel
theorem dX10_colourIn_88 : decode cX10_colourIn 88 = .ok (.getfield 73, 3) := by decide +kernel
theorem dX10_colourIn_91 : decode cX10_colourIn 91 = .ok (.iload 6, 2) := by decide +kernel
theorem dX10_colourIn_93 : decode cX10_colourIn 93 = .ok (.iaload, 1) := by decide +kernel
theorem dX10_colourIn_94 : decode cX10_colourIn 94 = .ok (.aload_n 0, 1) := by decide +kernel
theorem dX10_colourIn_95 : decode cX10_colourIn 95 = .ok (.getfield 73, 3) := by decide +kernel
theorem dX10_colourIn_98 : decode cX10_colourIn 98 = .ok (.iload_n 2, 1) := by decide +kernel
theorem dX10_colourIn_99 : decode cX10_colourIn 99 = .ok (.iaload, 1) := by decide +kernel
theorem dX10_colourIn_100 : decode cX10_colourIn 100 = .ok (.iand, 1) := by decide +kernel
theorem dX10_colourIn_101 : decode cX10_colourIn 101 = .ok (.ifCond .eq 21, 3) := by decide +kernel
theorem dX10_colourIn_104 : decode cX10_colourIn 104 = .ok (.iload_n 3, 1) := by decide +kernel
theorem dX10_colourIn_105 : decode cX10_colourIn 105 = .ok (.iconst 1, 1) := by decide +kernel
theorem dX10_colourIn_106 : decode cX10_colourIn 106 = .ok (.aload_n 0, 1) := by decide +kernel
theorem dX10_colourIn_107 : decode cX10_colourIn 107 = .ok (.getfield 94, 3) := by decide +kernel
theorem dX10_colourIn_110 : decode cX10_colourIn 110 = .ok (.bipush 8, 2) := by decide +kernel
theorem dX10_colourIn_112 : decode cX10_colourIn 112 = .ok (.iload 5, 2) := by decide +kernel
theorem dX10_colourIn_114 : decode cX10_colourIn 114 = .ok (.imul, 1) := by decide +kernel
theorem dX10_colourIn_115 : decode cX10_colourIn 115 = .ok (.iload 6, 2) := by decide +kernel
theorem dX10_colourIn_117 : decode cX10_colourIn 117 = .ok (.iadd, 1) := by decide +kernel
theorem dX10_colourIn_118 : decode cX10_colourIn 118 = .ok (.iaload, 1) := by decide +kernel
theorem dX10_colourIn_119 : decode cX10_colourIn 119 = .ok (.ishl, 1) := by decide +kernel
theorem dX10_colourIn_120 : decode cX10_colourIn 120 = .ok (.ior, 1) := by decide +kernel
theorem dX10_colourIn_121 : decode cX10_colourIn 121 = .ok (.istore_n 3, 1) := by decide +kernel
theorem dX10_colourIn_122 : decode cX10_colourIn 122 = .ok (.iinc 6 1, 3) := by decide +kernel
theorem dX10_colourIn_125 : decode cX10_colourIn 125 = .ok (.goto (-63), 3) := by decide +kernel
theorem dX10_colourIn_128 : decode cX10_colourIn 128 = .ok (.iinc 5 1, 3) := by decide +kernel
theorem dX10_colourIn_131 : decode cX10_colourIn 131 = .ok (.goto (-114), 3) := by decide +kernel
theorem dX10_colourIn_134 : decode cX10_colourIn 134 = .ok (.iconst 0, 1) := by decide +kernel
theorem dX10_colourIn_135 : decode cX10_colourIn 135 = .ok (.istore 5, 2) := by decide +kernel
theorem dX10_colourIn_137 : decode cX10_colourIn 137 = .ok (.iload_n 3, 1) := by decide +kernel
theorem dX10_colourIn_138 : decode cX10_colourIn 138 = .ok (.iload 5, 2) := by decide +kernel
theorem dX10_colourIn_140 : decode cX10_colourIn 140 = .ok (.invokestatic 255, 3) := by decide +kernel
theorem dX10_colourIn_143 : decode cX10_colourIn 143 = .ok (.ifCond .eq 9, 3) := by decide +kernel
theorem dX10_colourIn_146 : decode cX10_colourIn 146 = .ok (.iinc 5 1, 3) := by decide +kernel
theorem dX10_colourIn_149 : decode cX10_colourIn 149 = .ok (.goto (-12), 3) := by decide +kernel
theorem dX10_colourIn_152 : decode cX10_colourIn 152 = .ok (.iload 5, 2) := by decide +kernel
theorem dX10_colourIn_154 : decode cX10_colourIn 154 = .ok (.aload_n 0, 1) := by decide +kernel
theorem dX10_colourIn_155 : decode cX10_colourIn 155 = .ok (.getfield 76, 3) := by decide +kernel
theorem dX10_colourIn_158 : decode cX10_colourIn 158 = .ok (.if_icmp .ge 8, 3) := by decide +kernel
theorem dX10_colourIn_161 : decode cX10_colourIn 161 = .ok (.iload 5, 2) := by decide +kernel
theorem dX10_colourIn_163 : decode cX10_colourIn 163 = .ok (.goto 4, 3) := by decide +kernel
theorem dX10_colourIn_166 : decode cX10_colourIn 166 = .ok (.iconst (-1), 1) := by decide +kernel
theorem dX10_colourIn_167 : decode cX10_colourIn 167 = .ok (.ireturn, 1) := by decide +kernel
theorem dX10_promotes_0 : decode cX10_promotes 0 = .ok (.iconst 0, 1) := by decide +kernel
theorem dX10_promotes_1 : decode cX10_promotes 1 = .ok (.istore_n 2, 1) := by decide +kernel
theorem dX10_promotes_2 : decode cX10_promotes 2 = .ok (.iload_n 2, 1) := by decide +kernel
theorem dX10_promotes_3 : decode cX10_promotes 3 = .ok (.bipush 12, 2) := by decide +kernel
theorem dX10_promotes_5 : decode cX10_promotes 5 = .ok (.if_icmp .ge 146, 3) := by decide +kernel
theorem dX10_promotes_8 : decode cX10_promotes 8 = .ok (.aload_n 0, 1) := by decide +kernel
theorem dX10_promotes_9 : decode cX10_promotes 9 = .ok (.getfield 85, 3) := by decide +kernel
theorem dX10_promotes_12 : decode cX10_promotes 12 = .ok (.iload_n 2, 1) := by decide +kernel
theorem dX10_promotes_13 : decode cX10_promotes 13 = .ok (.iaload, 1) := by decide +kernel
theorem dX10_promotes_14 : decode cX10_promotes 14 = .ok (.iconst 1, 1) := by decide +kernel
theorem dX10_promotes_15 : decode cX10_promotes 15 = .ok (.if_icmp .ne 130, 3) := by decide +kernel
theorem dX10_promotes_18 : decode cX10_promotes 18 = .ok (.aload_n 0, 1) := by decide +kernel
theorem dX10_promotes_19 : decode cX10_promotes 19 = .ok (.iload_n 2, 1) := by decide +kernel
theorem dX10_promotes_20 : decode cX10_promotes 20 = .ok (.iload_n 1, 1) := by decide +kernel
theorem dX10_promotes_21 : decode cX10_promotes 21 = .ok (.invokevirtual 315, 3) := by decide +kernel
theorem dX10_promotes_24 : decode cX10_promotes 24 = .ok (.ifCond .gt 6, 3) := by decide +kernel
theorem dX10_promotes_27 : decode cX10_promotes 27 = .ok (.goto 118, 3) := by decide +kernel
theorem dX10_promotes_30 : decode cX10_promotes 30 = .ok (.iconst 0, 1) := by decide +kernel
theorem dX10_promotes_31 : decode cX10_promotes 31 = .ok (.istore_n 3, 1) := by decide +kernel
theorem dX10_promotes_32 : decode cX10_promotes 32 = .ok (.iconst 0, 1) := by decide +kernel
theorem dX10_promotes_33 : decode cX10_promotes 33 = .ok (.istore 4, 2) := by decide +kernel
theorem dX10_promotes_35 : decode cX10_promotes 35 = .ok (.iload 4, 2) := by decide +kernel
theorem dX10_promotes_37 : decode cX10_promotes 37 = .ok (.aload_n 0, 1) := by decide +kernel
theorem dX10_promotes_38 : decode cX10_promotes 38 = .ok (.getfield 67, 3) := by decide +kernel
theorem dX10_promotes_41 : decode cX10_promotes 41 = .ok (.if_icmp .ge 52, 3) := by decide +kernel
theorem dX10_promotes_44 : decode cX10_promotes 44 = .ok (.iload_n 3, 1) := by decide +kernel
theorem dX10_promotes_45 : decode cX10_promotes 45 = .ok (.aload_n 0, 1) := by decide +kernel
theorem dX10_promotes_46 : decode cX10_promotes 46 = .ok (.getfield 94, 3) := by decide +kernel
theorem dX10_promotes_49 : decode cX10_promotes 49 = .ok (.bipush 8, 2) := by decide +kernel
theorem dX10_promotes_51 : decode cX10_promotes 51 = .ok (.iload_n 2, 1) := by decide +kernel
theorem dX10_promotes_52 : decode cX10_promotes 52 = .ok (.imul, 1) := by decide +kernel
theorem dX10_promotes_53 : decode cX10_promotes 53 = .ok (.iload 4, 2) := by decide +kernel
theorem dX10_promotes_55 : decode cX10_promotes 55 = .ok (.iadd, 1) := by decide +kernel
theorem dX10_promotes_56 : decode cX10_promotes 56 = .ok (.iaload, 1) := by decide +kernel
theorem dX10_promotes_57 : decode cX10_promotes 57 = .ok (.ifCond .lt 27, 3) := by decide +kernel
theorem dX10_promotes_60 : decode cX10_promotes 60 = .ok (.aload_n 0, 1) := by decide +kernel
theorem dX10_promotes_61 : decode cX10_promotes 61 = .ok (.iload_n 1, 1) := by decide +kernel
theorem dX10_promotes_62 : decode cX10_promotes 62 = .ok (.iload 4, 2) := by decide +kernel
theorem dX10_promotes_64 : decode cX10_promotes 64 = .ok (.invokevirtual 279, 3) := by decide +kernel
theorem dX10_promotes_67 : decode cX10_promotes 67 = .ok (.ifCond .ne 13, 3) := by decide +kernel
theorem dX10_promotes_70 : decode cX10_promotes 70 = .ok (.aload_n 0, 1) := by decide +kernel
theorem dX10_promotes_71 : decode cX10_promotes 71 = .ok (.iload 4, 2) := by decide +kernel
theorem dX10_promotes_73 : decode cX10_promotes 73 = .ok (.iload_n 1, 1) := by decide +kernel
theorem dX10_promotes_74 : decode cX10_promotes 74 = .ok (.invokevirtual 279, 3) := by decide +kernel
theorem dX10_promotes_77 : decode cX10_promotes 77 = .ok (.ifCond .eq 7, 3) := by decide +kernel
theorem dX10_promotes_80 : decode cX10_promotes 80 = .ok (.iconst 1, 1) := by decide +kernel
theorem dX10_promotes_81 : decode cX10_promotes 81 = .ok (.goto 4, 3) := by decide +kernel
theorem dX10_promotes_84 : decode cX10_promotes 84 = .ok (.iconst 0, 1) := by decide +kernel
theorem dX10_promotes_85 : decode cX10_promotes 85 = .ok (.ior, 1) := by decide +kernel
theorem dX10_promotes_86 : decode cX10_promotes 86 = .ok (.istore_n 3, 1) := by decide +kernel
theorem dX10_promotes_87 : decode cX10_promotes 87 = .ok (.iinc 4 1, 3) := by decide +kernel
theorem dX10_promotes_90 : decode cX10_promotes 90 = .ok (.goto (-55), 3) := by decide +kernel
theorem dX10_promotes_93 : decode cX10_promotes 93 = .ok (.iload_n 3, 1) := by decide +kernel
theorem dX10_promotes_94 : decode cX10_promotes 94 = .ok (.ifCond .eq 7, 3) := by decide +kernel
theorem dX10_promotes_97 : decode cX10_promotes 97 = .ok (.iconst (-1), 1) := by decide +kernel
theorem dX10_promotes_98 : decode cX10_promotes 98 = .ok (.goto 9, 3) := by decide +kernel
theorem dX10_promotes_101 : decode cX10_promotes 101 = .ok (.aload_n 0, 1) := by decide +kernel
theorem dX10_promotes_102 : decode cX10_promotes 102 = .ok (.iload_n 2, 1) := by decide +kernel
theorem dX10_promotes_103 : decode cX10_promotes 103 = .ok (.iload_n 1, 1) := by decide +kernel
theorem dX10_promotes_104 : decode cX10_promotes 104 = .ok (.invokevirtual 318, 3) := by decide +kernel
theorem dX10_promotes_107 : decode cX10_promotes 107 = .ok (.istore 4, 2) := by decide +kernel
theorem dX10_promotes_109 : decode cX10_promotes 109 = .ok (.iload 4, 2) := by decide +kernel
theorem dX10_promotes_111 : decode cX10_promotes 111 = .ok (.ifCond .ge 6, 3) := by decide +kernel
theorem dX10_promotes_114 : decode cX10_promotes 114 = .ok (.goto 31, 3) := by decide +kernel
theorem dX10_promotes_117 : decode cX10_promotes 117 = .ok (.aload_n 0, 1) := by decide +kernel
theorem dX10_promotes_118 : decode cX10_promotes 118 = .ok (.getfield 94, 3) := by decide +kernel
theorem dX10_promotes_121 : decode cX10_promotes 121 = .ok (.bipush 8, 2) := by decide +kernel
theorem dX10_promotes_123 : decode cX10_promotes 123 = .ok (.iload_n 2, 1) := by decide +kernel
theorem dX10_promotes_124 : decode cX10_promotes 124 = .ok (.imul, 1) := by decide +kernel
theorem dX10_promotes_125 : decode cX10_promotes 125 = .ok (.iload_n 1, 1) := by decide +kernel
theorem dX10_promotes_126 : decode cX10_promotes 126 = .ok (.iadd, 1) := by decide +kernel
theorem dX10_promotes_127 : decode cX10_promotes 127 = .ok (.iload 4, 2) := by decide +kernel
theorem dX10_promotes_129 : decode cX10_promotes 129 = .ok (.iastore, 1) := by decide +kernel
theorem dX10_promotes_130 : decode cX10_promotes 130 = .ok (.aload_n 0, 1) := by decide +kernel
theorem dX10_promotes_131 : decode cX10_promotes 131 = .ok (.dup, 1) := by decide +kernel
theorem dX10_promotes_132 : decode cX10_promotes 132 = .ok (.getfield 82, 3) := by decide +kernel
theorem dX10_promotes_135 : decode cX10_promotes 135 = .ok (.aload_n 0, 1) := by decide +kernel
theorem dX10_promotes_136 : decode cX10_promotes 136 = .ok (.iload_n 2, 1) := by decide +kernel
theorem dX10_promotes_137 : decode cX10_promotes 137 = .ok (.iload_n 1, 1) := by decide +kernel
theorem dX10_promotes_138 : decode cX10_promotes 138 = .ok (.invokevirtual 315, 3) := by decide +kernel
theorem dX10_promotes_141 : decode cX10_promotes 141 = .ok (.iadd, 1) := by decide +kernel
theorem dX10_promotes_142 : decode cX10_promotes 142 = .ok (.putfield 82, 3) := by decide +kernel
theorem dX10_promotes_145 : decode cX10_promotes 145 = .ok (.iinc 2 1, 3) := by decide +kernel
theorem dX10_promotes_148 : decode cX10_promotes 148 = .ok (.goto (-146), 3) := by decide +kernel
theorem dX10_promotes_151 : decode cX10_promotes 151 = .ok (.return_, 1) := by decide +kernel
theorem dX10_promotesAll_0 : decode cX10_promotesAll 0 = .ok (.aload_n 0, 1) := by decide +kernel
theorem dX10_promotesAll_1 : decode cX10_promotesAll 1 = .ok (.invokevirtual 276, 3) := by decide +kernel
