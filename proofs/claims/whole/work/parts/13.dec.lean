theorem dX10_executes_86 : decode cX10_executes 86 = .ok (.iaload, 1) := by decide +kernel
theorem dX10_executes_87 : decode cX10_executes 87 = .ok (.iconst 1, 1) := by decide +kernel
theorem dX10_executes_88 : decode cX10_executes 88 = .ok (.iadd, 1) := by decide +kernel
theorem dX10_executes_89 : decode cX10_executes 89 = .ok (.iastore, 1) := by decide +kernel
theorem dX10_executes_90 : decode cX10_executes 90 = .ok (.aload_n 0, 1) := by decide +kernel
theorem dX10_executes_91 : decode cX10_executes 91 = .ok (.getfield 118, 3) := by decide +kernel
theorem dX10_executes_94 : decode cX10_executes 94 = .ok (.iconst 0, 1) := by decide +kernel
theorem dX10_executes_95 : decode cX10_executes 95 = .ok (.iaload, 1) := by decide +kernel
theorem dX10_executes_96 : decode cX10_executes 96 = .ok (.aload_n 0, 1) := by decide +kernel
theorem dX10_executes_97 : decode cX10_executes 97 = .ok (.getfield 23, 3) := by decide +kernel
theorem dX10_executes_100 : decode cX10_executes 100 = .ok (.aload_n 0, 1) := by decide +kernel
theorem dX10_executes_101 : decode cX10_executes 101 = .ok (.getfield 133, 3) := by decide +kernel
theorem dX10_executes_104 : decode cX10_executes 104 = .ok (.iaload, 1) := by decide +kernel
theorem dX10_executes_105 : decode cX10_executes 105 = .ok (.iadd, 1) := by decide +kernel
theorem dX10_executes_106 : decode cX10_executes 106 = .ok (.iconst 1, 1) := by decide +kernel
theorem dX10_executes_107 : decode cX10_executes 107 = .ok (.iadd, 1) := by decide +kernel
theorem dX10_executes_108 : decode cX10_executes 108 = .ok (.iload_n 1, 1) := by decide +kernel
theorem dX10_executes_109 : decode cX10_executes 109 = .ok (.if_icmp .le 5, 3) := by decide +kernel
theorem dX10_executes_112 : decode cX10_executes 112 = .ok (.iconst 0, 1) := by decide +kernel
theorem dX10_executes_113 : decode cX10_executes 113 = .ok (.ireturn, 1) := by decide +kernel
theorem dX10_executes_114 : decode cX10_executes 114 = .ok (.aload_n 0, 1) := by decide +kernel
theorem dX10_executes_115 : decode cX10_executes 115 = .ok (.getfield 118, 3) := by decide +kernel
theorem dX10_executes_118 : decode cX10_executes 118 = .ok (.iconst 0, 1) := by decide +kernel
theorem dX10_executes_119 : decode cX10_executes 119 = .ok (.dup2, 1) := by decide +kernel
theorem dX10_executes_120 : decode cX10_executes 120 = .ok (.iaload, 1) := by decide +kernel
theorem dX10_executes_121 : decode cX10_executes 121 = .ok (.aload_n 0, 1) := by decide +kernel
theorem dX10_executes_122 : decode cX10_executes 122 = .ok (.getfield 23, 3) := by decide +kernel
theorem dX10_executes_125 : decode cX10_executes 125 = .ok (.aload_n 0, 1) := by decide +kernel
theorem dX10_executes_126 : decode cX10_executes 126 = .ok (.getfield 133, 3) := by decide +kernel
theorem dX10_executes_129 : decode cX10_executes 129 = .ok (.iaload, 1) := by decide +kernel
theorem dX10_executes_130 : decode cX10_executes 130 = .ok (.iconst 1, 1) := by decide +kernel
theorem dX10_executes_131 : decode cX10_executes 131 = .ok (.iadd, 1) := by decide +kernel
theorem dX10_executes_132 : decode cX10_executes 132 = .ok (.iadd, 1) := by decide +kernel
theorem dX10_executes_133 : decode cX10_executes 133 = .ok (.iastore, 1) := by decide +kernel
theorem dX10_executes_134 : decode cX10_executes 134 = .ok (.iconst 0, 1) := by decide +kernel
theorem dX10_executes_135 : decode cX10_executes 135 = .ok (.istore_n 2, 1) := by decide +kernel
theorem dX10_executes_136 : decode cX10_executes 136 = .ok (.iload_n 2, 1) := by decide +kernel
theorem dX10_executes_137 : decode cX10_executes 137 = .ok (.aload_n 0, 1) := by decide +kernel
theorem dX10_executes_138 : decode cX10_executes 138 = .ok (.getfield 23, 3) := by decide +kernel
theorem dX10_executes_141 : decode cX10_executes 141 = .ok (.aload_n 0, 1) := by decide +kernel
theorem dX10_executes_142 : decode cX10_executes 142 = .ok (.getfield 133, 3) := by decide +kernel
theorem dX10_executes_145 : decode cX10_executes 145 = .ok (.iaload, 1) := by decide +kernel
theorem dX10_executes_146 : decode cX10_executes 146 = .ok (.if_icmp .ge 22, 3) := by decide +kernel
theorem dX10_executes_149 : decode cX10_executes 149 = .ok (.aload_n 0, 1) := by decide +kernel
theorem dX10_executes_150 : decode cX10_executes 150 = .ok (.bipush 8, 2) := by decide +kernel
theorem dX10_executes_152 : decode cX10_executes 152 = .ok (.aload_n 0, 1) := by decide +kernel
theorem dX10_executes_153 : decode cX10_executes 153 = .ok (.getfield 133, 3) := by decide +kernel
theorem dX10_executes_156 : decode cX10_executes 156 = .ok (.imul, 1) := by decide +kernel
theorem dX10_executes_157 : decode cX10_executes 157 = .ok (.iload_n 2, 1) := by decide +kernel
theorem dX10_executes_158 : decode cX10_executes 158 = .ok (.iadd, 1) := by decide +kernel
theorem dX10_executes_159 : decode cX10_executes 159 = .ok (.invokevirtual 368, 3) := by decide +kernel
theorem dX10_executes_162 : decode cX10_executes 162 = .ok (.iinc 2 1, 3) := by decide +kernel
theorem dX10_executes_165 : decode cX10_executes 165 = .ok (.goto (-29), 3) := by decide +kernel
theorem dX10_executes_168 : decode cX10_executes 168 = .ok (.aload_n 0, 1) := by decide +kernel
theorem dX10_executes_169 : decode cX10_executes 169 = .ok (.getfield 27, 3) := by decide +kernel
theorem dX10_executes_172 : decode cX10_executes 172 = .ok (.aload_n 0, 1) := by decide +kernel
theorem dX10_executes_173 : decode cX10_executes 173 = .ok (.getfield 133, 3) := by decide +kernel
theorem dX10_executes_176 : decode cX10_executes 176 = .ok (.iaload, 1) := by decide +kernel
theorem dX10_executes_177 : decode cX10_executes 177 = .ok (.ifCond .ne 7, 3) := by decide +kernel
theorem dX10_executes_180 : decode cX10_executes 180 = .ok (.iconst 0, 1) := by decide +kernel
theorem dX10_executes_181 : decode cX10_executes 181 = .ok (.goto 16, 3) := by decide +kernel
theorem dX10_executes_184 : decode cX10_executes 184 = .ok (.aload_n 0, 1) := by decide +kernel
theorem dX10_executes_185 : decode cX10_executes 185 = .ok (.aload_n 0, 1) := by decide +kernel
theorem dX10_executes_186 : decode cX10_executes 186 = .ok (.getfield 30, 3) := by decide +kernel
theorem dX10_executes_189 : decode cX10_executes 189 = .ok (.aload_n 0, 1) := by decide +kernel
theorem dX10_executes_190 : decode cX10_executes 190 = .ok (.getfield 133, 3) := by decide +kernel
theorem dX10_executes_193 : decode cX10_executes 193 = .ok (.iaload, 1) := by decide +kernel
theorem dX10_executes_194 : decode cX10_executes 194 = .ok (.invokevirtual 359, 3) := by decide +kernel
theorem dX10_executes_197 : decode cX10_executes 197 = .ok (.istore_n 2, 1) := by decide +kernel
theorem dX10_executes_198 : decode cX10_executes 198 = .ok (.aload_n 0, 1) := by decide +kernel
theorem dX10_executes_199 : decode cX10_executes 199 = .ok (.getfield 27, 3) := by decide +kernel
theorem dX10_executes_202 : decode cX10_executes 202 = .ok (.aload_n 0, 1) := by decide +kernel
theorem dX10_executes_203 : decode cX10_executes 203 = .ok (.getfield 133, 3) := by decide +kernel
theorem dX10_executes_206 : decode cX10_executes 206 = .ok (.iaload, 1) := by decide +kernel
theorem dX10_executes_207 : decode cX10_executes 207 = .ok (.iconst 2, 1) := by decide +kernel
theorem dX10_executes_208 : decode cX10_executes 208 = .ok (.if_icmp .ne 10, 3) := by decide +kernel
theorem dX10_executes_211 : decode cX10_executes 211 = .ok (.aload_n 0, 1) := by decide +kernel
theorem dX10_executes_212 : decode cX10_executes 212 = .ok (.iload_n 2, 1) := by decide +kernel
theorem dX10_executes_213 : decode cX10_executes 213 = .ok (.putfield 139, 3) := by decide +kernel
theorem dX10_executes_216 : decode cX10_executes 216 = .ok (.iconst 1, 1) := by decide +kernel
theorem dX10_executes_217 : decode cX10_executes 217 = .ok (.ireturn, 1) := by decide +kernel
theorem dX10_executes_218 : decode cX10_executes 218 = .ok (.aload_n 0, 1) := by decide +kernel
theorem dX10_executes_219 : decode cX10_executes 219 = .ok (.getfield 27, 3) := by decide +kernel
theorem dX10_executes_222 : decode cX10_executes 222 = .ok (.aload_n 0, 1) := by decide +kernel
theorem dX10_executes_223 : decode cX10_executes 223 = .ok (.getfield 133, 3) := by decide +kernel
theorem dX10_executes_226 : decode cX10_executes 226 = .ok (.iaload, 1) := by decide +kernel
theorem dX10_executes_227 : decode cX10_executes 227 = .ok (.ifCond .eq 7, 3) := by decide +kernel
theorem dX10_executes_230 : decode cX10_executes 230 = .ok (.iload_n 2, 1) := by decide +kernel
theorem dX10_executes_231 : decode cX10_executes 231 = .ok (.ifCond .eq 15, 3) := by decide +kernel
theorem dX10_executes_234 : decode cX10_executes 234 = .ok (.aload_n 0, 1) := by decide +kernel
theorem dX10_executes_235 : decode cX10_executes 235 = .ok (.getfield 33, 3) := by decide +kernel
theorem dX10_executes_238 : decode cX10_executes 238 = .ok (.aload_n 0, 1) := by decide +kernel
theorem dX10_executes_239 : decode cX10_executes 239 = .ok (.getfield 133, 3) := by decide +kernel
theorem dX10_executes_242 : decode cX10_executes 242 = .ok (.iaload, 1) := by decide +kernel
theorem dX10_executes_243 : decode cX10_executes 243 = .ok (.goto 12, 3) := by decide +kernel
theorem dX10_executes_246 : decode cX10_executes 246 = .ok (.aload_n 0, 1) := by decide +kernel
theorem dX10_executes_247 : decode cX10_executes 247 = .ok (.getfield 36, 3) := by decide +kernel
theorem dX10_executes_250 : decode cX10_executes 250 = .ok (.aload_n 0, 1) := by decide +kernel
theorem dX10_executes_251 : decode cX10_executes 251 = .ok (.getfield 133, 3) := by decide +kernel
theorem dX10_executes_254 : decode cX10_executes 254 = .ok (.iaload, 1) := by decide +kernel
theorem dX10_executes_255 : decode cX10_executes 255 = .ok (.istore_n 3, 1) := by decide +kernel
theorem dX10_executes_256 : decode cX10_executes 256 = .ok (.aload_n 0, 1) := by decide +kernel
theorem dX10_executes_257 : decode cX10_executes 257 = .ok (.getfield 136, 3) := by decide +kernel
theorem dX10_executes_260 : decode cX10_executes 260 = .ok (.ifCond .eq 12, 3) := by decide +kernel
theorem dX10_executes_263 : decode cX10_executes 263 = .ok (.aload_n 0, 1) := by decide +kernel
theorem dX10_executes_264 : decode cX10_executes 264 = .ok (.aload_n 0, 1) := by decide +kernel
theorem dX10_executes_265 : decode cX10_executes 265 = .ok (.getfield 133, 3) := by decide +kernel
theorem dX10_executes_268 : decode cX10_executes 268 = .ok (.iload_n 3, 1) := by decide +kernel
theorem dX10_executes_269 : decode cX10_executes 269 = .ok (.invokevirtual 362, 3) := by decide +kernel
theorem dX10_executes_272 : decode cX10_executes 272 = .ok (.aload_n 0, 1) := by decide +kernel
theorem dX10_executes_273 : decode cX10_executes 273 = .ok (.iload_n 3, 1) := by decide +kernel
theorem dX10_executes_274 : decode cX10_executes 274 = .ok (.putfield 133, 3) := by decide +kernel
theorem dX10_executes_277 : decode cX10_executes 277 = .ok (.goto (-219), 3) := by decide +kernel
theorem dX10_outcome_0 : decode cX10_outcome 0 = .ok (.aload_n 0, 1) := by decide +kernel
theorem dX10_outcome_1 : decode cX10_outcome 1 = .ok (.iload_n 1, 1) := by decide +kernel
theorem dX10_outcome_2 : decode cX10_outcome 2 = .ok (.invokevirtual 371, 3) := by decide +kernel
theorem dX10_outcome_5 : decode cX10_outcome 5 = .ok (.ifCond .ne 9, 3) := by decide +kernel
theorem dX10_outcome_8 : decode cX10_outcome 8 = .ok (.aload_n 0, 1) := by decide +kernel
theorem dX10_outcome_9 : decode cX10_outcome 9 = .ok (.iload_n 2, 1) := by decide +kernel
theorem dX10_outcome_10 : decode cX10_outcome 10 = .ok (.invokevirtual 217, 3) := by decide +kernel
theorem dX10_outcome_13 : decode cX10_outcome 13 = .ok (.ireturn, 1) := by decide +kernel
theorem dX10_outcome_14 : decode cX10_outcome 14 = .ok (.iconst 0, 1) := by decide +kernel
theorem dX10_outcome_15 : decode cX10_outcome 15 = .ok (.istore_n 3, 1) := by decide +kernel
theorem dX10_outcome_16 : decode cX10_outcome 16 = .ok (.iload_n 3, 1) := by decide +kernel
theorem dX10_outcome_17 : decode cX10_outcome 17 = .ok (.iconst 4, 1) := by decide +kernel
theorem dX10_outcome_18 : decode cX10_outcome 18 = .ok (.if_icmp .ge 21, 3) := by decide +kernel
theorem dX10_outcome_21 : decode cX10_outcome 21 = .ok (.aload_n 0, 1) := by decide +kernel
theorem dX10_outcome_22 : decode cX10_outcome 22 = .ok (.getfield 115, 3) := by decide +kernel
theorem dX10_outcome_25 : decode cX10_outcome 25 = .ok (.iload_n 3, 1) := by decide +kernel
theorem dX10_outcome_26 : decode cX10_outcome 26 = .ok (.aload_n 0, 1) := by decide +kernel
theorem dX10_outcome_27 : decode cX10_outcome 27 = .ok (.getfield 118, 3) := by decide +kernel
theorem dX10_outcome_30 : decode cX10_outcome 30 = .ok (.iload_n 3, 1) := by decide +kernel
theorem dX10_outcome_31 : decode cX10_outcome 31 = .ok (.iaload, 1) := by decide +kernel
theorem dX10_outcome_32 : decode cX10_outcome 32 = .ok (.iastore, 1) := by decide +kernel
theorem dX10_outcome_33 : decode cX10_outcome 33 = .ok (.iinc 3 1, 3) := by decide +kernel
theorem dX10_outcome_36 : decode cX10_outcome 36 = .ok (.goto (-20), 3) := by decide +kernel
theorem dX10_outcome_39 : decode cX10_outcome 39 = .ok (.iconst 0, 1) := by decide +kernel
theorem dX10_outcome_40 : decode cX10_outcome 40 = .ok (.istore_n 3, 1) := by decide +kernel
theorem dX10_outcome_41 : decode cX10_outcome 41 = .ok (.iload_n 3, 1) := by decide +kernel
theorem dX10_outcome_42 : decode cX10_outcome 42 = .ok (.bipush 8, 2) := by decide +kernel
theorem dX10_outcome_44 : decode cX10_outcome 44 = .ok (.if_icmp .ge 21, 3) := by decide +kernel
theorem dX10_outcome_47 : decode cX10_outcome 47 = .ok (.aload_n 0, 1) := by decide +kernel
theorem dX10_outcome_48 : decode cX10_outcome 48 = .ok (.getfield 121, 3) := by decide +kernel
theorem dX10_outcome_51 : decode cX10_outcome 51 = .ok (.iload_n 3, 1) := by decide +kernel
theorem dX10_outcome_52 : decode cX10_outcome 52 = .ok (.aload_n 0, 1) := by decide +kernel
theorem dX10_outcome_53 : decode cX10_outcome 53 = .ok (.getfield 124, 3) := by decide +kernel
theorem dX10_outcome_56 : decode cX10_outcome 56 = .ok (.iload_n 3, 1) := by decide +kernel
theorem dX10_outcome_57 : decode cX10_outcome 57 = .ok (.iaload, 1) := by decide +kernel
theorem dX10_outcome_58 : decode cX10_outcome 58 = .ok (.iastore, 1) := by decide +kernel
theorem dX10_outcome_59 : decode cX10_outcome 59 = .ok (.iinc 3 1, 3) := by decide +kernel
theorem dX10_outcome_62 : decode cX10_outcome 62 = .ok (.goto (-21), 3) := by decide +kernel
theorem dX10_outcome_65 : decode cX10_outcome 65 = .ok (.aload_n 0, 1) := by decide +kernel
theorem dX10_outcome_66 : decode cX10_outcome 66 = .ok (.getfield 139, 3) := by decide +kernel
theorem dX10_outcome_69 : decode cX10_outcome 69 = .ok (.ireturn, 1) := by decide +kernel
theorem dX10_run_0 : decode cX10_run 0 = .ok (.aload_n 0, 1) := by decide +kernel
theorem dX10_run_1 : decode cX10_run 1 = .ok (.iconst 0, 1) := by decide +kernel
theorem dX10_run_2 : decode cX10_run 2 = .ok (.putfield 1, 3) := by decide +kernel
theorem dX10_run_5 : decode cX10_run 5 = .ok (.iload_n 1, 1) := by decide +kernel
theorem dX10_run_6 : decode cX10_run 6 = .ok (.iconst 1, 1) := by decide +kernel
theorem dX10_run_7 : decode cX10_run 7 = .ok (.sipush 1000, 3) := by decide +kernel
theorem dX10_run_10 : decode cX10_run 10 = .ok (.invokestatic 7, 3) := by decide +kernel
theorem dX10_run_13 : decode cX10_run 13 = .ok (.ifCond .ne 9, 3) := by decide +kernel
theorem dX10_run_16 : decode cX10_run 16 = .ok (.aload_n 0, 1) := by decide +kernel
theorem dX10_run_17 : decode cX10_run 17 = .ok (.iconst 1, 1) := by decide +kernel
theorem dX10_run_18 : decode cX10_run 18 = .ok (.invokevirtual 217, 3) := by decide +kernel
theorem dX10_run_21 : decode cX10_run 21 = .ok (.ireturn, 1) := by decide +kernel
theorem dX10_run_22 : decode cX10_run 22 = .ok (.aload_n 0, 1) := by decide +kernel
theorem dX10_run_23 : decode cX10_run 23 = .ok (.iconst 0, 1) := by decide +kernel
theorem dX10_run_24 : decode cX10_run 24 = .ok (.putfield 136, 3) := by decide +kernel
theorem dX10_run_27 : decode cX10_run 27 = .ok (.aload_n 0, 1) := by decide +kernel
theorem dX10_run_28 : decode cX10_run 28 = .ok (.iload_n 1, 1) := by decide +kernel
theorem dX10_run_29 : decode cX10_run 29 = .ok (.iconst 2, 1) := by decide +kernel
theorem dX10_run_30 : decode cX10_run 30 = .ok (.invokevirtual 374, 3) := by decide +kernel
theorem dX10_run_33 : decode cX10_run 33 = .ok (.ireturn, 1) := by decide +kernel
theorem dX10_runPlanned_0 : decode cX10_runPlanned 0 = .ok (.aload_n 0, 1) := by decide +kernel
theorem dX10_runPlanned_1 : decode cX10_runPlanned 1 = .ok (.iconst 0, 1) := by decide +kernel
theorem dX10_runPlanned_2 : decode cX10_runPlanned 2 = .ok (.putfield 1, 3) := by decide +kernel
theorem dX10_runPlanned_5 : decode cX10_runPlanned 5 = .ok (.iload_n 1, 1) := by decide +kernel
theorem dX10_runPlanned_6 : decode cX10_runPlanned 6 = .ok (.iconst 1, 1) := by decide +kernel
theorem dX10_runPlanned_7 : decode cX10_runPlanned 7 = .ok (.sipush 1000, 3) := by decide +kernel
theorem dX10_runPlanned_10 : decode cX10_runPlanned 10 = .ok (.invokestatic 7, 3) := by decide +kernel
theorem dX10_runPlanned_13 : decode cX10_runPlanned 13 = .ok (.ifCond .ne 9, 3) := by decide +kernel
theorem dX10_runPlanned_16 : decode cX10_runPlanned 16 = .ok (.aload_n 0, 1) := by decide +kernel
theorem dX10_runPlanned_17 : decode cX10_runPlanned 17 = .ok (.iconst 1, 1) := by decide +kernel
theorem dX10_runPlanned_18 : decode cX10_runPlanned 18 = .ok (.invokevirtual 217, 3) := by decide +kernel
theorem dX10_runPlanned_21 : decode cX10_runPlanned 21 = .ok (.ireturn, 1) := by decide +kernel
theorem dX10_runPlanned_22 : decode cX10_runPlanned 22 = .ok (.aload_n 0, 1) := by decide +kernel
theorem dX10_runPlanned_23 : decode cX10_runPlanned 23 = .ok (.getfield 57, 3) := by decide +kernel
theorem dX10_runPlanned_26 : decode cX10_runPlanned 26 = .ok (.ifCond .ne 9, 3) := by decide +kernel
theorem dX10_runPlanned_29 : decode cX10_runPlanned 29 = .ok (.aload_n 0, 1) := by decide +kernel
theorem dX10_runPlanned_30 : decode cX10_runPlanned 30 = .ok (.iconst 2, 1) := by decide +kernel
theorem dX10_runPlanned_31 : decode cX10_runPlanned 31 = .ok (.invokevirtual 217, 3) := by decide +kernel
theorem dX10_runPlanned_34 : decode cX10_runPlanned 34 = .ok (.ireturn, 1) := by decide +kernel
theorem dX10_runPlanned_35 : decode cX10_runPlanned 35 = .ok (.aload_n 0, 1) := by decide +kernel
theorem dX10_runPlanned_36 : decode cX10_runPlanned 36 = .ok (.iconst 1, 1) := by decide +kernel
theorem dX10_runPlanned_37 : decode cX10_runPlanned 37 = .ok (.putfield 136, 3) := by decide +kernel
theorem dX10_runPlanned_40 : decode cX10_runPlanned 40 = .ok (.aload_n 0, 1) := by decide +kernel
theorem dX10_runPlanned_41 : decode cX10_runPlanned 41 = .ok (.iload_n 1, 1) := by decide +kernel
theorem dX10_runPlanned_42 : decode cX10_runPlanned 42 = .ok (.iconst 3, 1) := by decide +kernel
theorem dX10_runPlanned_43 : decode cX10_runPlanned 43 = .ok (.invokevirtual 374, 3) := by decide +kernel
theorem dX10_runPlanned_46 : decode cX10_runPlanned 46 = .ok (.ireturn, 1) := by decide +kernel
theorem dX10_executed_0 : decode cX10_executed 0 = .ok (.aload_n 0, 1) := by decide +kernel
theorem dX10_executed_1 : decode cX10_executed 1 = .ok (.iconst 0, 1) := by decide +kernel
theorem dX10_executed_2 : decode cX10_executed 2 = .ok (.putfield 1, 3) := by decide +kernel
theorem dX10_executed_5 : decode cX10_executed 5 = .ok (.iload_n 1, 1) := by decide +kernel
theorem dX10_executed_6 : decode cX10_executed 6 = .ok (.iconst 0, 1) := by decide +kernel
theorem dX10_executed_7 : decode cX10_executed 7 = .ok (.iconst 3, 1) := by decide +kernel
theorem dX10_executed_8 : decode cX10_executed 8 = .ok (.invokestatic 7, 3) := by decide +kernel
theorem dX10_executed_11 : decode cX10_executed 11 = .ok (.ifCond .eq 12, 3) := by decide +kernel
theorem dX10_executed_14 : decode cX10_executed 14 = .ok (.aload_n 0, 1) := by decide +kernel
theorem dX10_executed_15 : decode cX10_executed 15 = .ok (.getfield 115, 3) := by decide +kernel
theorem dX10_executed_18 : decode cX10_executed 18 = .ok (.iload_n 1, 1) := by decide +kernel
theorem dX10_executed_19 : decode cX10_executed 19 = .ok (.iaload, 1) := by decide +kernel
theorem dX10_executed_20 : decode cX10_executed 20 = .ok (.goto 8, 3) := by decide +kernel
theorem dX10_executed_23 : decode cX10_executed 23 = .ok (.aload_n 0, 1) := by decide +kernel
theorem dX10_executed_24 : decode cX10_executed 24 = .ok (.iconst 1, 1) := by decide +kernel
theorem dX10_executed_25 : decode cX10_executed 25 = .ok (.invokevirtual 217, 3) := by decide +kernel
theorem dX10_executed_28 : decode cX10_executed 28 = .ok (.ireturn, 1) := by decide +kernel
theorem dX10_visits_0 : decode cX10_visits 0 = .ok (.aload_n 0, 1) := by decide +kernel
theorem dX10_visits_1 : decode cX10_visits 1 = .ok (.iconst 0, 1) := by decide +kernel
theorem dX10_visits_2 : decode cX10_visits 2 = .ok (.putfield 1, 3) := by decide +kernel
theorem dX10_visits_5 : decode cX10_visits 5 = .ok (.aload_n 0, 1) := by decide +kernel
theorem dX10_visits_6 : decode cX10_visits 6 = .ok (.iload_n 1, 1) := by decide +kernel
theorem dX10_visits_7 : decode cX10_visits 7 = .ok (.invokevirtual 221, 3) := by decide +kernel
theorem dX10_visits_10 : decode cX10_visits 10 = .ok (.ifCond .eq 12, 3) := by decide +kernel
theorem dX10_visits_13 : decode cX10_visits 13 = .ok (.aload_n 0, 1) := by decide +kernel
theorem dX10_visits_14 : decode cX10_visits 14 = .ok (.getfield 121, 3) := by decide +kernel
theorem dX10_visits_17 : decode cX10_visits 17 = .ok (.iload_n 1, 1) := by decide +kernel
theorem dX10_visits_18 : decode cX10_visits 18 = .ok (.iaload, 1) := by decide +kernel
theorem dX10_visits_19 : decode cX10_visits 19 = .ok (.goto 8, 3) := by decide +kernel
theorem dX10_visits_22 : decode cX10_visits 22 = .ok (.aload_n 0, 1) := by decide +kernel
theorem dX10_visits_23 : decode cX10_visits 23 = .ok (.iconst 1, 1) := by decide +kernel
theorem dX10_visits_24 : decode cX10_visits 24 = .ok (.invokevirtual 217, 3) := by decide +kernel
theorem dX10_visits_27 : decode cX10_visits 27 = .ok (.ireturn, 1) := by decide +kernel
theorem dX10_profile_0 : decode cX10_profile 0 = .ok (.iconst 0, 1) := by decide +kernel
theorem dX10_profile_1 : decode cX10_profile 1 = .ok (.istore_n 1, 1) := by decide +kernel
theorem dX10_profile_2 : decode cX10_profile 2 = .ok (.iconst 0, 1) := by decide +kernel
theorem dX10_profile_3 : decode cX10_profile 3 = .ok (.istore_n 2, 1) := by decide +kernel
theorem dX10_profile_4 : decode cX10_profile 4 = .ok (.iload_n 2, 1) := by decide +kernel
theorem dX10_profile_5 : decode cX10_profile 5 = .ok (.aload_n 0, 1) := by decide +kernel
theorem dX10_profile_6 : decode cX10_profile 6 = .ok (.getfield 17, 3) := by decide +kernel
theorem dX10_profile_9 : decode cX10_profile 9 = .ok (.if_icmp .ge 45, 3) := by decide +kernel
theorem dX10_profile_12 : decode cX10_profile 12 = .ok (.iconst 1, 1) := by decide +kernel
theorem dX10_profile_13 : decode cX10_profile 13 = .ok (.aload_n 0, 1) := by decide +kernel
theorem dX10_profile_14 : decode cX10_profile 14 = .ok (.getfield 121, 3) := by decide +kernel
theorem dX10_profile_17 : decode cX10_profile 17 = .ok (.iload_n 2, 1) := by decide +kernel
theorem dX10_profile_18 : decode cX10_profile 18 = .ok (.iaload, 1) := by decide +kernel
theorem dX10_profile_19 : decode cX10_profile 19 = .ok (.invokestatic 268, 3) := by decide +kernel
theorem dX10_profile_22 : decode cX10_profile 22 = .ok (.istore_n 3, 1) := by decide +kernel
theorem dX10_profile_23 : decode cX10_profile 23 = .ok (.iload_n 1, 1) := by decide +kernel
theorem dX10_profile_24 : decode cX10_profile 24 = .ok (.iload_n 3, 1) := by decide +kernel
theorem dX10_profile_25 : decode cX10_profile 25 = .ok (.aload_n 0, 1) := by decide +kernel
theorem dX10_profile_26 : decode cX10_profile 26 = .ok (.getfield 39, 3) := by decide +kernel
theorem dX10_profile_29 : decode cX10_profile 29 = .ok (.iload_n 2, 1) := by decide +kernel
theorem dX10_profile_30 : decode cX10_profile 30 = .ok (.iaload, 1) := by decide +kernel
theorem dX10_profile_31 : decode cX10_profile 31 = .ok (.if_icmp .eq 7, 3) := by decide +kernel
theorem dX10_profile_34 : decode cX10_profile 34 = .ok (.iconst 1, 1) := by decide +kernel
theorem dX10_profile_35 : decode cX10_profile 35 = .ok (.goto 4, 3) := by decide +kernel
theorem dX10_profile_38 : decode cX10_profile 38 = .ok (.iconst 0, 1) := by decide +kernel
theorem dX10_profile_39 : decode cX10_profile 39 = .ok (.iadd, 1) := by decide +kernel
theorem dX10_profile_40 : decode cX10_profile 40 = .ok (.istore_n 1, 1) := by decide +kernel
theorem dX10_profile_41 : decode cX10_profile 41 = .ok (.aload_n 0, 1) := by decide +kernel
theorem dX10_profile_42 : decode cX10_profile 42 = .ok (.getfield 39, 3) := by decide +kernel
theorem dX10_profile_45 : decode cX10_profile 45 = .ok (.iload_n 2, 1) := by decide +kernel
theorem dX10_profile_46 : decode cX10_profile 46 = .ok (.iload_n 3, 1) := by decide +kernel
theorem dX10_profile_47 : decode cX10_profile 47 = .ok (.iastore, 1) := by decide +kernel
theorem dX10_profile_48 : decode cX10_profile 48 = .ok (.iinc 2 1, 3) := by decide +kernel
theorem dX10_profile_51 : decode cX10_profile 51 = .ok (.goto (-47), 3) := by decide +kernel
theorem dX10_profile_54 : decode cX10_profile 54 = .ok (.aload_n 0, 1) := by decide +kernel
theorem dX10_profile_55 : decode cX10_profile 55 = .ok (.iconst 0, 1) := by decide +kernel
theorem dX10_profile_56 : decode cX10_profile 56 = .ok (.putfield 57, 3) := by decide +kernel
theorem dX10_profile_59 : decode cX10_profile 59 = .ok (.iload_n 1, 1) := by decide +kernel
theorem dX10_profile_60 : decode cX10_profile 60 = .ok (.ireturn, 1) := by decide +kernel
theorem dX10_feed_0 : decode cX10_feed 0 = .ok (.aload_n 0, 1) := by decide +kernel
theorem dX10_feed_1 : decode cX10_feed 1 = .ok (.iconst 0, 1) := by decide +kernel
theorem dX10_feed_2 : decode cX10_feed 2 = .ok (.putfield 1, 3) := by decide +kernel
theorem dX10_feed_5 : decode cX10_feed 5 = .ok (.aload_n 0, 1) := by decide +kernel
theorem dX10_feed_6 : decode cX10_feed 6 = .ok (.getfield 145, 3) := by decide +kernel
theorem dX10_feed_9 : decode cX10_feed 9 = .ok (.bipush 80, 2) := by decide +kernel
theorem dX10_feed_11 : decode cX10_feed 11 = .ok (.if_icmp .ne 9, 3) := by decide +kernel
theorem dX10_feed_14 : decode cX10_feed 14 = .ok (.aload_n 0, 1) := by decide +kernel
theorem dX10_feed_15 : decode cX10_feed 15 = .ok (.iconst 1, 1) := by decide +kernel
theorem dX10_feed_16 : decode cX10_feed 16 = .ok (.invokevirtual 217, 3) := by decide +kernel
theorem dX10_feed_19 : decode cX10_feed 19 = .ok (.ireturn, 1) := by decide +kernel
theorem dX10_feed_20 : decode cX10_feed 20 = .ok (.aload_n 0, 1) := by decide +kernel
theorem dX10_feed_21 : decode cX10_feed 21 = .ok (.getfield 142, 3) := by decide +kernel
theorem dX10_feed_24 : decode cX10_feed 24 = .ok (.aload_n 0, 1) := by decide +kernel
theorem dX10_feed_25 : decode cX10_feed 25 = .ok (.getfield 145, 3) := by decide +kernel
theorem dX10_feed_28 : decode cX10_feed 28 = .ok (.iload_n 1, 1) := by decide +kernel
theorem dX10_feed_29 : decode cX10_feed 29 = .ok (.iastore, 1) := by decide +kernel
theorem dX10_feed_30 : decode cX10_feed 30 = .ok (.aload_n 0, 1) := by decide +kernel
theorem dX10_feed_31 : decode cX10_feed 31 = .ok (.dup, 1) := by decide +kernel
theorem dX10_feed_32 : decode cX10_feed 32 = .ok (.getfield 145, 3) := by decide +kernel
theorem dX10_feed_35 : decode cX10_feed 35 = .ok (.iconst 1, 1) := by decide +kernel
theorem dX10_feed_36 : decode cX10_feed 36 = .ok (.iadd, 1) := by decide +kernel
theorem dX10_feed_37 : decode cX10_feed 37 = .ok (.putfield 145, 3) := by decide +kernel
theorem dX10_feed_40 : decode cX10_feed 40 = .ok (.aload_n 0, 1) := by decide +kernel
theorem dX10_feed_41 : decode cX10_feed 41 = .ok (.getfield 145, 3) := by decide +kernel
theorem dX10_feed_44 : decode cX10_feed 44 = .ok (.ireturn, 1) := by decide +kernel
theorem dX10_sign_0 : decode cX10_sign 0 = .ok (.aload_n 0, 1) := by decide +kernel
theorem dX10_sign_1 : decode cX10_sign 1 = .ok (.getfield 151, 3) := by decide +kernel
theorem dX10_sign_4 : decode cX10_sign 4 = .ok (.ifCond .ne 26, 3) := by decide +kernel
theorem dX10_sign_7 : decode cX10_sign 7 = .ok (.aload_n 0, 1) := by decide +kernel
theorem dX10_sign_8 : decode cX10_sign 8 = .ok (.getfield 148, 3) := by decide +kernel
theorem dX10_sign_11 : decode cX10_sign 11 = .ok (.aload_n 0, 1) := by decide +kernel
theorem dX10_sign_12 : decode cX10_sign 12 = .ok (.getfield 145, 3) := by decide +kernel
theorem dX10_sign_15 : decode cX10_sign 15 = .ok (.if_icmp .ge 15, 3) := by decide +kernel
theorem dX10_sign_18 : decode cX10_sign 18 = .ok (.aload_n 0, 1) := by decide +kernel
theorem dX10_sign_19 : decode cX10_sign 19 = .ok (.getfield 142, 3) := by decide +kernel
theorem dX10_sign_22 : decode cX10_sign 22 = .ok (.aload_n 0, 1) := by decide +kernel
theorem dX10_sign_23 : decode cX10_sign 23 = .ok (.getfield 148, 3) := by decide +kernel
theorem dX10_sign_26 : decode cX10_sign 26 = .ok (.iaload, 1) := by decide +kernel
theorem dX10_sign_27 : decode cX10_sign 27 = .ok (.goto 4, 3) := by decide +kernel
theorem dX10_sign_30 : decode cX10_sign 30 = .ok (.iconst (-1), 1) := by decide +kernel
theorem dX10_sign_31 : decode cX10_sign 31 = .ok (.ireturn, 1) := by decide +kernel
theorem dX10_takes_0 : decode cX10_takes 0 = .ok (.aload_n 0, 1) := by decide +kernel
theorem dX10_takes_1 : decode cX10_takes 1 = .ok (.invokevirtual 377, 3) := by decide +kernel
theorem dX10_takes_4 : decode cX10_takes 4 = .ok (.istore_n 3, 1) := by decide +kernel
theorem dX10_takes_5 : decode cX10_takes 5 = .ok (.iload_n 3, 1) := by decide +kernel
theorem dX10_takes_6 : decode cX10_takes 6 = .ok (.iload_n 1, 1) := by decide +kernel
theorem dX10_takes_7 : decode cX10_takes 7 = .ok (.iload_n 2, 1) := by decide +kernel
theorem dX10_takes_8 : decode cX10_takes 8 = .ok (.invokestatic 7, 3) := by decide +kernel
theorem dX10_takes_11 : decode cX10_takes 11 = .ok (.ifCond .ne 10, 3) := by decide +kernel
theorem dX10_takes_14 : decode cX10_takes 14 = .ok (.aload_n 0, 1) := by decide +kernel
theorem dX10_takes_15 : decode cX10_takes 15 = .ok (.iconst 1, 1) := by decide +kernel
theorem dX10_takes_16 : decode cX10_takes 16 = .ok (.putfield 151, 3) := by decide +kernel
theorem dX10_takes_19 : decode cX10_takes 19 = .ok (.iconst 0, 1) := by decide +kernel
theorem dX10_takes_20 : decode cX10_takes 20 = .ok (.ireturn, 1) := by decide +kernel
theorem dX10_takes_21 : decode cX10_takes 21 = .ok (.aload_n 0, 1) := by decide +kernel
theorem dX10_takes_22 : decode cX10_takes 22 = .ok (.dup, 1) := by decide +kernel
theorem dX10_takes_23 : decode cX10_takes 23 = .ok (.getfield 148, 3) := by decide +kernel
theorem dX10_takes_26 : decode cX10_takes 26 = .ok (.iconst 1, 1) := by decide +kernel
theorem dX10_takes_27 : decode cX10_takes 27 = .ok (.iadd, 1) := by decide +kernel
theorem dX10_takes_28 : decode cX10_takes 28 = .ok (.putfield 148, 3) := by decide +kernel
theorem dX10_takes_31 : decode cX10_takes 31 = .ok (.iload_n 3, 1) := by decide +kernel
theorem dX10_takes_32 : decode cX10_takes 32 = .ok (.iload_n 1, 1) := by decide +kernel
theorem dX10_takes_33 : decode cX10_takes 33 = .ok (.isub, 1) := by decide +kernel
theorem dX10_takes_34 : decode cX10_takes 34 = .ok (.ireturn, 1) := by decide +kernel
theorem dX10_variable_0 : decode cX10_variable 0 = .ok (.aload_n 0, 1) := by decide +kernel
theorem dX10_variable_1 : decode cX10_variable 1 = .ok (.bipush 97, 2) := by decide +kernel
theorem dX10_variable_3 : decode cX10_variable 3 = .ok (.bipush 108, 2) := by decide +kernel
theorem dX10_variable_5 : decode cX10_variable 5 = .ok (.invokevirtual 380, 3) := by decide +kernel
theorem dX10_variable_8 : decode cX10_variable 8 = .ok (.ireturn, 1) := by decide +kernel
theorem dX10_blockDigit_0 : decode cX10_blockDigit 0 = .ok (.aload_n 0, 1) := by decide +kernel
theorem dX10_blockDigit_1 : decode cX10_blockDigit 1 = .ok (.bipush 48, 2) := by decide +kernel
theorem dX10_blockDigit_3 : decode cX10_blockDigit 3 = .ok (.bipush 48, 2) := by decide +kernel
theorem dX10_blockDigit_5 : decode cX10_blockDigit 5 = .ok (.aload_n 0, 1) := by decide +kernel
theorem dX10_blockDigit_6 : decode cX10_blockDigit 6 = .ok (.getfield 17, 3) := by decide +kernel
theorem dX10_blockDigit_9 : decode cX10_blockDigit 9 = .ok (.iadd, 1) := by decide +kernel
theorem dX10_blockDigit_10 : decode cX10_blockDigit 10 = .ok (.iconst 1, 1) := by decide +kernel
theorem dX10_blockDigit_11 : decode cX10_blockDigit 11 = .ok (.isub, 1) := by decide +kernel
theorem dX10_blockDigit_12 : decode cX10_blockDigit 12 = .ok (.invokevirtual 380, 3) := by decide +kernel
theorem dX10_blockDigit_15 : decode cX10_blockDigit 15 = .ok (.ireturn, 1) := by decide +kernel
theorem dX10_blank_0 : decode cX10_blank 0 = .ok (.aload_n 0, 1) := by decide +kernel
theorem dX10_blank_1 : decode cX10_blank 1 = .ok (.bipush 32, 2) := by decide +kernel
theorem dX10_blank_3 : decode cX10_blank 3 = .ok (.bipush 32, 2) := by decide +kernel
theorem dX10_blank_5 : decode cX10_blank 5 = .ok (.invokevirtual 380, 3) := by decide +kernel
theorem dX10_blank_8 : decode cX10_blank 8 = .ok (.ireturn, 1) := by decide +kernel
theorem dX10_readNumber_0 : decode cX10_readNumber 0 = .ok (.aload_n 0, 1) := by decide +kernel
theorem dX10_readNumber_1 : decode cX10_readNumber 1 = .ok (.bipush 48, 2) := by decide +kernel
theorem dX10_readNumber_3 : decode cX10_readNumber 3 = .ok (.bipush 57, 2) := by decide +kernel
theorem dX10_readNumber_5 : decode cX10_readNumber 5 = .ok (.invokevirtual 380, 3) := by decide +kernel
theorem dX10_readNumber_8 : decode cX10_readNumber 8 = .ok (.istore_n 2, 1) := by decide +kernel
theorem dX10_readNumber_9 : decode cX10_readNumber 9 = .ok (.iconst 1, 1) := by decide +kernel
theorem dX10_readNumber_10 : decode cX10_readNumber 10 = .ok (.istore_n 3, 1) := by decide +kernel
theorem dX10_readNumber_11 : decode cX10_readNumber 11 = .ok (.iload_n 3, 1) := by decide +kernel
theorem dX10_readNumber_12 : decode cX10_readNumber 12 = .ok (.iconst 3, 1) := by decide +kernel
theorem dX10_readNumber_13 : decode cX10_readNumber 13 = .ok (.if_icmp .ge 37, 3) := by decide +kernel
theorem dX10_readNumber_16 : decode cX10_readNumber 16 = .ok (.aload_n 0, 1) := by decide +kernel
theorem dX10_readNumber_17 : decode cX10_readNumber 17 = .ok (.invokevirtual 377, 3) := by decide +kernel
theorem dX10_readNumber_20 : decode cX10_readNumber 20 = .ok (.bipush 48, 2) := by decide +kernel
theorem dX10_readNumber_22 : decode cX10_readNumber 22 = .ok (.bipush 57, 2) := by decide +kernel
theorem dX10_readNumber_24 : decode cX10_readNumber 24 = .ok (.invokestatic 7, 3) := by decide +kernel
theorem dX10_readNumber_27 : decode cX10_readNumber 27 = .ok (.ifCond .eq 23, 3) := by decide +kernel
theorem dX10_readNumber_30 : decode cX10_readNumber 30 = .ok (.bipush 10, 2) := by decide +kernel
theorem dX10_readNumber_32 : decode cX10_readNumber 32 = .ok (.iload_n 2, 1) := by decide +kernel
theorem dX10_readNumber_33 : decode cX10_readNumber 33 = .ok (.imul, 1) := by decide +kernel
theorem dX10_readNumber_34 : decode cX10_readNumber 34 = .ok (.aload_n 0, 1) := by decide +kernel
theorem dX10_readNumber_35 : decode cX10_readNumber 35 = .ok (.bipush 48, 2) := by decide +kernel
theorem dX10_readNumber_37 : decode cX10_readNumber 37 = .ok (.bipush 57, 2) := by decide +kernel
theorem dX10_readNumber_39 : decode cX10_readNumber 39 = .ok (.invokevirtual 380, 3) := by decide +kernel
theorem dX10_readNumber_42 : decode cX10_readNumber 42 = .ok (.iadd, 1) := by decide +kernel
theorem dX10_readNumber_43 : decode cX10_readNumber 43 = .ok (.istore_n 2, 1) := by decide +kernel
theorem dX10_readNumber_44 : decode cX10_readNumber 44 = .ok (.iinc 3 1, 3) := by decide +kernel
theorem dX10_readNumber_47 : decode cX10_readNumber 47 = .ok (.goto (-36), 3) := by decide +kernel
theorem dX10_readNumber_50 : decode cX10_readNumber 50 = .ok (.aload_n 0, 1) := by decide +kernel
theorem dX10_readNumber_51 : decode cX10_readNumber 51 = .ok (.getfield 154, 3) := by decide +kernel
theorem dX10_readNumber_54 : decode cX10_readNumber 54 = .ok (.aload_n 0, 1) := by decide +kernel
theorem dX10_readNumber_55 : decode cX10_readNumber 55 = .ok (.getfield 166, 3) := by decide +kernel
theorem dX10_readNumber_58 : decode cX10_readNumber 58 = .ok (.iconst 0, 1) := by decide +kernel
theorem dX10_readNumber_59 : decode cX10_readNumber 59 = .ok (.iastore, 1) := by decide +kernel
theorem dX10_readNumber_60 : decode cX10_readNumber 60 = .ok (.aload_n 0, 1) := by decide +kernel
theorem dX10_readNumber_61 : decode cX10_readNumber 61 = .ok (.getfield 160, 3) := by decide +kernel
theorem dX10_readNumber_64 : decode cX10_readNumber 64 = .ok (.aload_n 0, 1) := by decide +kernel
theorem dX10_readNumber_65 : decode cX10_readNumber 65 = .ok (.getfield 166, 3) := by decide +kernel
theorem dX10_readNumber_68 : decode cX10_readNumber 68 = .ok (.iload_n 1, 1) := by decide +kernel
theorem dX10_readNumber_69 : decode cX10_readNumber 69 = .ok (.ifCond .eq 8, 3) := by decide +kernel
theorem dX10_readNumber_72 : decode cX10_readNumber 72 = .ok (.iload_n 2, 1) := by decide +kernel
theorem dX10_readNumber_73 : decode cX10_readNumber 73 = .ok (.ineg, 1) := by decide +kernel
theorem dX10_readNumber_74 : decode cX10_readNumber 74 = .ok (.goto 4, 3) := by decide +kernel
theorem dX10_readNumber_77 : decode cX10_readNumber 77 = .ok (.iload_n 2, 1) := by decide +kernel
theorem dX10_readNumber_78 : decode cX10_readNumber 78 = .ok (.iastore, 1) := by decide +kernel
theorem dX10_readNumber_79 : decode cX10_readNumber 79 = .ok (.return_, 1) := by decide +kernel
theorem dX10_readRow_0 : decode cX10_readRow 0 = .ok (.aload_n 0, 1) := by decide +kernel
theorem dX10_readRow_1 : decode cX10_readRow 1 = .ok (.bipush 61, 2) := by decide +kernel
theorem dX10_readRow_3 : decode cX10_readRow 3 = .ok (.bipush 61, 2) := by decide +kernel
theorem dX10_readRow_5 : decode cX10_readRow 5 = .ok (.invokevirtual 380, 3) := by decide +kernel
theorem dX10_readRow_8 : decode cX10_readRow 8 = .ok (.istore_n 2, 1) := by decide +kernel
theorem dX10_readRow_9 : decode cX10_readRow 9 = .ok (.aload_n 0, 1) := by decide +kernel
theorem dX10_readRow_10 : decode cX10_readRow 10 = .ok (.getfield 151, 3) := by decide +kernel
theorem dX10_readRow_13 : decode cX10_readRow 13 = .ok (.ifCond .eq 4, 3) := by decide +kernel
theorem dX10_readRow_16 : decode cX10_readRow 16 = .ok (.return_, 1) := by decide +kernel
theorem dX10_readRow_17 : decode cX10_readRow 17 = .ok (.aload_n 0, 1) := by decide +kernel
theorem dX10_readRow_18 : decode cX10_readRow 18 = .ok (.getfield 157, 3) := by decide +kernel
theorem dX10_readRow_21 : decode cX10_readRow 21 = .ok (.aload_n 0, 1) := by decide +kernel
theorem dX10_readRow_22 : decode cX10_readRow 22 = .ok (.getfield 166, 3) := by decide +kernel
theorem dX10_readRow_25 : decode cX10_readRow 25 = .ok (.iload_n 1, 1) := by decide +kernel
theorem dX10_readRow_26 : decode cX10_readRow 26 = .ok (.iastore, 1) := by decide +kernel
theorem dX10_readRow_27 : decode cX10_readRow 27 = .ok (.aload_n 0, 1) := by decide +kernel
theorem dX10_readRow_28 : decode cX10_readRow 28 = .ok (.invokevirtual 377, 3) := by decide +kernel
theorem dX10_readRow_31 : decode cX10_readRow 31 = .ok (.bipush 45, 2) := by decide +kernel
theorem dX10_readRow_33 : decode cX10_readRow 33 = .ok (.if_icmp .ne 21, 3) := by decide +kernel
theorem dX10_readRow_36 : decode cX10_readRow 36 = .ok (.aload_n 0, 1) := by decide +kernel
theorem dX10_readRow_37 : decode cX10_readRow 37 = .ok (.dup, 1) := by decide +kernel
theorem dX10_readRow_38 : decode cX10_readRow 38 = .ok (.getfield 148, 3) := by decide +kernel
theorem dX10_readRow_41 : decode cX10_readRow 41 = .ok (.iconst 1, 1) := by decide +kernel
theorem dX10_readRow_42 : decode cX10_readRow 42 = .ok (.iadd, 1) := by decide +kernel
theorem dX10_readRow_43 : decode cX10_readRow 43 = .ok (.putfield 148, 3) := by decide +kernel
theorem dX10_readRow_46 : decode cX10_readRow 46 = .ok (.aload_n 0, 1) := by decide +kernel
theorem dX10_readRow_47 : decode cX10_readRow 47 = .ok (.iconst 1, 1) := by decide +kernel
theorem dX10_readRow_48 : decode cX10_readRow 48 = .ok (.invokevirtual 383, 3) := by decide +kernel
theorem dX10_readRow_51 : decode cX10_readRow 51 = .ok (.goto 124, 3) := by decide +kernel
theorem dX10_readRow_54 : decode cX10_readRow 54 = .ok (.aload_n 0, 1) := by decide +kernel
theorem dX10_readRow_55 : decode cX10_readRow 55 = .ok (.invokevirtual 377, 3) := by decide +kernel
theorem dX10_readRow_58 : decode cX10_readRow 58 = .ok (.bipush 48, 2) := by decide +kernel
theorem dX10_readRow_60 : decode cX10_readRow 60 = .ok (.bipush 57, 2) := by decide +kernel
theorem dX10_readRow_62 : decode cX10_readRow 62 = .ok (.invokestatic 7, 3) := by decide +kernel
theorem dX10_readRow_65 : decode cX10_readRow 65 = .ok (.ifCond .eq 11, 3) := by decide +kernel
theorem dX10_readRow_68 : decode cX10_readRow 68 = .ok (.aload_n 0, 1) := by decide +kernel
theorem dX10_readRow_69 : decode cX10_readRow 69 = .ok (.iconst 0, 1) := by decide +kernel
theorem dX10_readRow_70 : decode cX10_readRow 70 = .ok (.invokevirtual 383, 3) := by decide +kernel
theorem dX10_readRow_73 : decode cX10_readRow 73 = .ok (.goto 102, 3) := by decide +kernel
theorem dX10_readRow_76 : decode cX10_readRow 76 = .ok (.aload_n 0, 1) := by decide +kernel
theorem dX10_readRow_77 : decode cX10_readRow 77 = .ok (.getfield 160, 3) := by decide +kernel
theorem dX10_readRow_80 : decode cX10_readRow 80 = .ok (.aload_n 0, 1) := by decide +kernel
theorem dX10_readRow_81 : decode cX10_readRow 81 = .ok (.getfield 166, 3) := by decide +kernel
theorem dX10_readRow_84 : decode cX10_readRow 84 = .ok (.aload_n 0, 1) := by decide +kernel
theorem dX10_readRow_85 : decode cX10_readRow 85 = .ok (.invokevirtual 386, 3) := by decide +kernel
theorem dX10_readRow_88 : decode cX10_readRow 88 = .ok (.iastore, 1) := by decide +kernel
theorem dX10_readRow_89 : decode cX10_readRow 89 = .ok (.aload_n 0, 1) := by decide +kernel
theorem dX10_readRow_90 : decode cX10_readRow 90 = .ok (.getfield 154, 3) := by decide +kernel
theorem dX10_readRow_93 : decode cX10_readRow 93 = .ok (.aload_n 0, 1) := by decide +kernel
theorem dX10_readRow_94 : decode cX10_readRow 94 = .ok (.getfield 166, 3) := by decide +kernel
theorem dX10_readRow_97 : decode cX10_readRow 97 = .ok (.iconst 1, 1) := by decide +kernel
theorem dX10_readRow_98 : decode cX10_readRow 98 = .ok (.iastore, 1) := by decide +kernel
theorem dX10_readRow_99 : decode cX10_readRow 99 = .ok (.aload_n 0, 1) := by decide +kernel
theorem dX10_readRow_100 : decode cX10_readRow 100 = .ok (.invokevirtual 377, 3) := by decide +kernel
theorem dX10_readRow_103 : decode cX10_readRow 103 = .ok (.istore_n 3, 1) := by decide +kernel
theorem dX10_readRow_104 : decode cX10_readRow 104 = .ok (.iload_n 3, 1) := by decide +kernel
theorem dX10_readRow_105 : decode cX10_readRow 105 = .ok (.bipush 43, 2) := by decide +kernel
theorem dX10_readRow_107 : decode cX10_readRow 107 = .ok (.if_icmp .eq 15, 3) := by decide +kernel
theorem dX10_readRow_110 : decode cX10_readRow 110 = .ok (.iload_n 3, 1) := by decide +kernel
theorem dX10_readRow_111 : decode cX10_readRow 111 = .ok (.bipush 45, 2) := by decide +kernel
theorem dX10_readRow_113 : decode cX10_readRow 113 = .ok (.if_icmp .eq 9, 3) := by decide +kernel
theorem dX10_readRow_116 : decode cX10_readRow 116 = .ok (.iload_n 3, 1) := by decide +kernel
theorem dX10_readRow_117 : decode cX10_readRow 117 = .ok (.bipush 42, 2) := by decide +kernel
theorem dX10_readRow_119 : decode cX10_readRow 119 = .ok (.if_icmp .ne 56, 3) := by decide +kernel
theorem dX10_readRow_122 : decode cX10_readRow 122 = .ok (.aload_n 0, 1) := by decide +kernel
theorem dX10_readRow_123 : decode cX10_readRow 123 = .ok (.dup, 1) := by decide +kernel
theorem dX10_readRow_124 : decode cX10_readRow 124 = .ok (.getfield 148, 3) := by decide +kernel
theorem dX10_readRow_127 : decode cX10_readRow 127 = .ok (.iconst 1, 1) := by decide +kernel
theorem dX10_readRow_128 : decode cX10_readRow 128 = .ok (.iadd, 1) := by decide +kernel
theorem dX10_readRow_129 : decode cX10_readRow 129 = .ok (.putfield 148, 3) := by decide +kernel
theorem dX10_readRow_132 : decode cX10_readRow 132 = .ok (.aload_n 0, 1) := by decide +kernel
theorem dX10_readRow_133 : decode cX10_readRow 133 = .ok (.getfield 154, 3) := by decide +kernel
theorem dX10_readRow_136 : decode cX10_readRow 136 = .ok (.aload_n 0, 1) := by decide +kernel
theorem dX10_readRow_137 : decode cX10_readRow 137 = .ok (.getfield 166, 3) := by decide +kernel
theorem dX10_readRow_140 : decode cX10_readRow 140 = .ok (.iload_n 3, 1) := by decide +kernel
theorem dX10_readRow_141 : decode cX10_readRow 141 = .ok (.bipush 43, 2) := by decide +kernel
theorem dX10_readRow_143 : decode cX10_readRow 143 = .ok (.if_icmp .ne 7, 3) := by decide +kernel
theorem dX10_readRow_146 : decode cX10_readRow 146 = .ok (.iconst 2, 1) := by decide +kernel
theorem dX10_readRow_147 : decode cX10_readRow 147 = .ok (.goto 14, 3) := by decide +kernel
theorem dX10_readRow_150 : decode cX10_readRow 150 = .ok (.iload_n 3, 1) := by decide +kernel
theorem dX10_readRow_151 : decode cX10_readRow 151 = .ok (.bipush 45, 2) := by decide +kernel
theorem dX10_readRow_153 : decode cX10_readRow 153 = .ok (.if_icmp .ne 7, 3) := by decide +kernel
theorem dX10_readRow_156 : decode cX10_readRow 156 = .ok (.iconst 3, 1) := by decide +kernel
theorem dX10_readRow_157 : decode cX10_readRow 157 = .ok (.goto 4, 3) := by decide +kernel
theorem dX10_readRow_160 : decode cX10_readRow 160 = .ok (.iconst 4, 1) := by decide +kernel
theorem dX10_readRow_161 : decode cX10_readRow 161 = .ok (.iastore, 1) := by decide +kernel
theorem dX10_readRow_162 : decode cX10_readRow 162 = .ok (.aload_n 0, 1) := by decide +kernel
theorem dX10_readRow_163 : decode cX10_readRow 163 = .ok (.getfield 163, 3) := by decide +kernel
theorem dX10_readRow_166 : decode cX10_readRow 166 = .ok (.aload_n 0, 1) := by decide +kernel
theorem dX10_readRow_167 : decode cX10_readRow 167 = .ok (.getfield 166, 3) := by decide +kernel
theorem dX10_readRow_170 : decode cX10_readRow 170 = .ok (.aload_n 0, 1) := by decide +kernel
theorem dX10_readRow_171 : decode cX10_readRow 171 = .ok (.invokevirtual 386, 3) := by decide +kernel
theorem dX10_readRow_174 : decode cX10_readRow 174 = .ok (.iastore, 1) := by decide +kernel
theorem dX10_readRow_175 : decode cX10_readRow 175 = .ok (.aload_n 0, 1) := by decide +kernel
theorem dX10_readRow_176 : decode cX10_readRow 176 = .ok (.bipush 59, 2) := by decide +kernel
theorem dX10_readRow_178 : decode cX10_readRow 178 = .ok (.bipush 59, 2) := by decide +kernel
theorem dX10_readRow_180 : decode cX10_readRow 180 = .ok (.invokevirtual 380, 3) := by decide +kernel
theorem dX10_readRow_183 : decode cX10_readRow 183 = .ok (.istore_n 3, 1) := by decide +kernel
theorem dX10_readRow_184 : decode cX10_readRow 184 = .ok (.aload_n 0, 1) := by decide +kernel
theorem dX10_readRow_185 : decode cX10_readRow 185 = .ok (.dup, 1) := by decide +kernel
theorem dX10_readRow_186 : decode cX10_readRow 186 = .ok (.getfield 166, 3) := by decide +kernel
theorem dX10_readRow_189 : decode cX10_readRow 189 = .ok (.iconst 1, 1) := by decide +kernel
theorem dX10_readRow_190 : decode cX10_readRow 190 = .ok (.iadd, 1) := by decide +kernel
theorem dX10_readRow_191 : decode cX10_readRow 191 = .ok (.putfield 166, 3) := by decide +kernel
theorem dX10_readRow_194 : decode cX10_readRow 194 = .ok (.return_, 1) := by decide +kernel
theorem dX10_isNext_0 : decode cX10_isNext 0 = .ok (.aload_n 0, 1) := by decide +kernel
theorem dX10_isNext_1 : decode cX10_isNext 1 = .ok (.getfield 151, 3) := by decide +kernel
theorem dX10_isNext_4 : decode cX10_isNext 4 = .ok (.ifCond .ne 35, 3) := by decide +kernel
theorem dX10_isNext_7 : decode cX10_isNext 7 = .ok (.aload_n 0, 1) := by decide +kernel
theorem dX10_isNext_8 : decode cX10_isNext 8 = .ok (.getfield 148, 3) := by decide +kernel
theorem dX10_isNext_11 : decode cX10_isNext 11 = .ok (.iconst 1, 1) := by decide +kernel
theorem dX10_isNext_12 : decode cX10_isNext 12 = .ok (.iadd, 1) := by decide +kernel
theorem dX10_isNext_13 : decode cX10_isNext 13 = .ok (.aload_n 0, 1) := by decide +kernel
theorem dX10_isNext_14 : decode cX10_isNext 14 = .ok (.getfield 145, 3) := by decide +kernel
theorem dX10_isNext_17 : decode cX10_isNext 17 = .ok (.if_icmp .ge 22, 3) := by decide +kernel
theorem dX10_isNext_20 : decode cX10_isNext 20 = .ok (.aload_n 0, 1) := by decide +kernel
theorem dX10_isNext_21 : decode cX10_isNext 21 = .ok (.getfield 142, 3) := by decide +kernel
theorem dX10_isNext_24 : decode cX10_isNext 24 = .ok (.aload_n 0, 1) := by decide +kernel
theorem dX10_isNext_25 : decode cX10_isNext 25 = .ok (.getfield 148, 3) := by decide +kernel
theorem dX10_isNext_28 : decode cX10_isNext 28 = .ok (.iconst 1, 1) := by decide +kernel
theorem dX10_isNext_29 : decode cX10_isNext 29 = .ok (.iadd, 1) := by decide +kernel
theorem dX10_isNext_30 : decode cX10_isNext 30 = .ok (.iaload, 1) := by decide +kernel
theorem dX10_isNext_31 : decode cX10_isNext 31 = .ok (.iload_n 1, 1) := by decide +kernel
theorem dX10_isNext_32 : decode cX10_isNext 32 = .ok (.if_icmp .ne 7, 3) := by decide +kernel
theorem dX10_isNext_35 : decode cX10_isNext 35 = .ok (.iconst 1, 1) := by decide +kernel
theorem dX10_isNext_36 : decode cX10_isNext 36 = .ok (.goto 4, 3) := by decide +kernel
theorem dX10_isNext_39 : decode cX10_isNext 39 = .ok (.iconst 0, 1) := by decide +kernel
theorem dX10_isNext_40 : decode cX10_isNext 40 = .ok (.ireturn, 1) := by decide +kernel
theorem dX10_readGo_0 : decode cX10_readGo 0 = .ok (.aload_n 0, 1) := by decide +kernel
theorem dX10_readGo_1 : decode cX10_readGo 1 = .ok (.dup, 1) := by decide +kernel
theorem dX10_readGo_2 : decode cX10_readGo 2 = .ok (.getfield 148, 3) := by decide +kernel
theorem dX10_readGo_5 : decode cX10_readGo 5 = .ok (.iconst 2, 1) := by decide +kernel
theorem dX10_readGo_6 : decode cX10_readGo 6 = .ok (.iadd, 1) := by decide +kernel
theorem dX10_readGo_7 : decode cX10_readGo 7 = .ok (.putfield 148, 3) := by decide +kernel
theorem dX10_readGo_10 : decode cX10_readGo 10 = .ok (.aload_n 0, 1) := by decide +kernel
theorem dX10_readGo_11 : decode cX10_readGo 11 = .ok (.invokevirtual 389, 3) := by decide +kernel
theorem dX10_readGo_14 : decode cX10_readGo 14 = .ok (.istore_n 1, 1) := by decide +kernel
theorem dX10_readGo_15 : decode cX10_readGo 15 = .ok (.aload_n 0, 1) := by decide +kernel
theorem dX10_readGo_16 : decode cX10_readGo 16 = .ok (.iconst 0, 1) := by decide +kernel
theorem dX10_readGo_17 : decode cX10_readGo 17 = .ok (.putfield 169, 3) := by decide +kernel
theorem dX10_readGo_20 : decode cX10_readGo 20 = .ok (.aload_n 0, 1) := by decide +kernel
theorem dX10_readGo_21 : decode cX10_readGo 21 = .ok (.aload_n 0, 1) := by decide +kernel
theorem dX10_readGo_22 : decode cX10_readGo 22 = .ok (.invokevirtual 392, 3) := by decide +kernel
theorem dX10_readGo_25 : decode cX10_readGo 25 = .ok (.putfield 175, 3) := by decide +kernel
theorem dX10_readGo_28 : decode cX10_readGo 28 = .ok (.return_, 1) := by decide +kernel
theorem dX10_readIf_0 : decode cX10_readIf 0 = .ok (.aload_n 0, 1) := by decide +kernel
theorem dX10_readIf_1 : decode cX10_readIf 1 = .ok (.dup, 1) := by decide +kernel
theorem dX10_readIf_2 : decode cX10_readIf 2 = .ok (.getfield 148, 3) := by decide +kernel
theorem dX10_readIf_5 : decode cX10_readIf 5 = .ok (.iconst 2, 1) := by decide +kernel
theorem dX10_readIf_6 : decode cX10_readIf 6 = .ok (.iadd, 1) := by decide +kernel
theorem dX10_readIf_7 : decode cX10_readIf 7 = .ok (.putfield 148, 3) := by decide +kernel
theorem dX10_readIf_10 : decode cX10_readIf 10 = .ok (.aload_n 0, 1) := by decide +kernel
theorem dX10_readIf_11 : decode cX10_readIf 11 = .ok (.invokevirtual 389, 3) := by decide +kernel
theorem dX10_readIf_14 : decode cX10_readIf 14 = .ok (.istore_n 1, 1) := by decide +kernel
theorem dX10_readIf_15 : decode cX10_readIf 15 = .ok (.aload_n 0, 1) := by decide +kernel
theorem dX10_readIf_16 : decode cX10_readIf 16 = .ok (.iconst 1, 1) := by decide +kernel
theorem dX10_readIf_17 : decode cX10_readIf 17 = .ok (.putfield 169, 3) := by decide +kernel
theorem dX10_readIf_20 : decode cX10_readIf 20 = .ok (.aload_n 0, 1) := by decide +kernel
theorem dX10_readIf_21 : decode cX10_readIf 21 = .ok (.aload_n 0, 1) := by decide +kernel
theorem dX10_readIf_22 : decode cX10_readIf 22 = .ok (.invokevirtual 386, 3) := by decide +kernel
theorem dX10_readIf_25 : decode cX10_readIf 25 = .ok (.putfield 172, 3) := by decide +kernel
theorem dX10_readIf_28 : decode cX10_readIf 28 = .ok (.aload_n 0, 1) := by decide +kernel
theorem dX10_readIf_29 : decode cX10_readIf 29 = .ok (.invokevirtual 389, 3) := by decide +kernel
theorem dX10_readIf_32 : decode cX10_readIf 32 = .ok (.istore_n 1, 1) := by decide +kernel
theorem dX10_readIf_33 : decode cX10_readIf 33 = .ok (.aload_n 0, 1) := by decide +kernel
theorem dX10_readIf_34 : decode cX10_readIf 34 = .ok (.aload_n 0, 1) := by decide +kernel
theorem dX10_readIf_35 : decode cX10_readIf 35 = .ok (.invokevirtual 392, 3) := by decide +kernel
theorem dX10_readIf_38 : decode cX10_readIf 38 = .ok (.putfield 175, 3) := by decide +kernel
theorem dX10_readIf_41 : decode cX10_readIf 41 = .ok (.aload_n 0, 1) := by decide +kernel
theorem dX10_readIf_42 : decode cX10_readIf 42 = .ok (.invokevirtual 389, 3) := by decide +kernel
theorem dX10_readIf_45 : decode cX10_readIf 45 = .ok (.istore_n 1, 1) := by decide +kernel
theorem dX10_readIf_46 : decode cX10_readIf 46 = .ok (.aload_n 0, 1) := by decide +kernel
theorem dX10_readIf_47 : decode cX10_readIf 47 = .ok (.aload_n 0, 1) := by decide +kernel
theorem dX10_readIf_48 : decode cX10_readIf 48 = .ok (.invokevirtual 392, 3) := by decide +kernel
theorem dX10_readIf_51 : decode cX10_readIf 51 = .ok (.putfield 178, 3) := by decide +kernel
theorem dX10_readIf_54 : decode cX10_readIf 54 = .ok (.return_, 1) := by decide +kernel
theorem dX10_readStop_0 : decode cX10_readStop 0 = .ok (.aload_n 0, 1) := by decide +kernel
theorem dX10_readStop_1 : decode cX10_readStop 1 = .ok (.bipush 115, 2) := by decide +kernel
theorem dX10_readStop_3 : decode cX10_readStop 3 = .ok (.bipush 115, 2) := by decide +kernel
theorem dX10_readStop_5 : decode cX10_readStop 5 = .ok (.invokevirtual 380, 3) := by decide +kernel
theorem dX10_readStop_8 : decode cX10_readStop 8 = .ok (.istore_n 1, 1) := by decide +kernel
theorem dX10_readStop_9 : decode cX10_readStop 9 = .ok (.aload_n 0, 1) := by decide +kernel
theorem dX10_readStop_10 : decode cX10_readStop 10 = .ok (.bipush 116, 2) := by decide +kernel
theorem dX10_readStop_12 : decode cX10_readStop 12 = .ok (.bipush 116, 2) := by decide +kernel
theorem dX10_readStop_14 : decode cX10_readStop 14 = .ok (.invokevirtual 380, 3) := by decide +kernel
theorem dX10_readStop_17 : decode cX10_readStop 17 = .ok (.istore_n 1, 1) := by decide +kernel
theorem dX10_readStop_18 : decode cX10_readStop 18 = .ok (.aload_n 0, 1) := by decide +kernel
theorem dX10_readStop_19 : decode cX10_readStop 19 = .ok (.bipush 111, 2) := by decide +kernel
theorem dX10_readStop_21 : decode cX10_readStop 21 = .ok (.bipush 111, 2) := by decide +kernel
theorem dX10_readStop_23 : decode cX10_readStop 23 = .ok (.invokevirtual 380, 3) := by decide +kernel
theorem dX10_readStop_26 : decode cX10_readStop 26 = .ok (.istore_n 1, 1) := by decide +kernel
theorem dX10_readStop_27 : decode cX10_readStop 27 = .ok (.aload_n 0, 1) := by decide +kernel
theorem dX10_readStop_28 : decode cX10_readStop 28 = .ok (.bipush 112, 2) := by decide +kernel
theorem dX10_readStop_30 : decode cX10_readStop 30 = .ok (.bipush 112, 2) := by decide +kernel
theorem dX10_readStop_32 : decode cX10_readStop 32 = .ok (.invokevirtual 380, 3) := by decide +kernel
theorem dX10_readStop_35 : decode cX10_readStop 35 = .ok (.istore_n 1, 1) := by decide +kernel
theorem dX10_readStop_36 : decode cX10_readStop 36 = .ok (.aload_n 0, 1) := by decide +kernel
theorem dX10_readStop_37 : decode cX10_readStop 37 = .ok (.invokevirtual 389, 3) := by decide +kernel
theorem dX10_readStop_40 : decode cX10_readStop 40 = .ok (.istore_n 1, 1) := by decide +kernel
theorem dX10_readStop_41 : decode cX10_readStop 41 = .ok (.aload_n 0, 1) := by decide +kernel
theorem dX10_readStop_42 : decode cX10_readStop 42 = .ok (.iconst 2, 1) := by decide +kernel
theorem dX10_readStop_43 : decode cX10_readStop 43 = .ok (.putfield 169, 3) := by decide +kernel
theorem dX10_readStop_46 : decode cX10_readStop 46 = .ok (.aload_n 0, 1) := by decide +kernel
theorem dX10_readStop_47 : decode cX10_readStop 47 = .ok (.aload_n 0, 1) := by decide +kernel
theorem dX10_readStop_48 : decode cX10_readStop 48 = .ok (.invokevirtual 386, 3) := by decide +kernel
theorem dX10_readStop_51 : decode cX10_readStop 51 = .ok (.putfield 172, 3) := by decide +kernel
theorem dX10_readStop_54 : decode cX10_readStop 54 = .ok (.return_, 1) := by decide +kernel
theorem dX10_readOne_0 : decode cX10_readOne 0 = .ok (.aload_n 0, 1) := by decide +kernel
theorem dX10_readOne_1 : decode cX10_readOne 1 = .ok (.invokevirtual 377, 3) := by decide +kernel
theorem dX10_readOne_4 : decode cX10_readOne 4 = .ok (.bipush 103, 2) := by decide +kernel
theorem dX10_readOne_6 : decode cX10_readOne 6 = .ok (.if_icmp .ne 18, 3) := by decide +kernel
theorem dX10_readOne_9 : decode cX10_readOne 9 = .ok (.aload_n 0, 1) := by decide +kernel
theorem dX10_readOne_10 : decode cX10_readOne 10 = .ok (.bipush 111, 2) := by decide +kernel
theorem dX10_readOne_12 : decode cX10_readOne 12 = .ok (.invokevirtual 395, 3) := by decide +kernel
theorem dX10_readOne_15 : decode cX10_readOne 15 = .ok (.ifCond .eq 9, 3) := by decide +kernel
theorem dX10_readOne_18 : decode cX10_readOne 18 = .ok (.aload_n 0, 1) := by decide +kernel
theorem dX10_readOne_19 : decode cX10_readOne 19 = .ok (.invokevirtual 398, 3) := by decide +kernel
theorem dX10_readOne_22 : decode cX10_readOne 22 = .ok (.iconst 1, 1) := by decide +kernel
theorem dX10_readOne_23 : decode cX10_readOne 23 = .ok (.ireturn, 1) := by decide +kernel
theorem dX10_readOne_24 : decode cX10_readOne 24 = .ok (.aload_n 0, 1) := by decide +kernel
theorem dX10_readOne_25 : decode cX10_readOne 25 = .ok (.invokevirtual 377, 3) := by decide +kernel
theorem dX10_readOne_28 : decode cX10_readOne 28 = .ok (.bipush 105, 2) := by decide +kernel
theorem dX10_readOne_30 : decode cX10_readOne 30 = .ok (.if_icmp .ne 18, 3) := by decide +kernel
theorem dX10_readOne_33 : decode cX10_readOne 33 = .ok (.aload_n 0, 1) := by decide +kernel
theorem dX10_readOne_34 : decode cX10_readOne 34 = .ok (.bipush 102, 2) := by decide +kernel
theorem dX10_readOne_36 : decode cX10_readOne 36 = .ok (.invokevirtual 395, 3) := by decide +kernel
theorem dX10_readOne_39 : decode cX10_readOne 39 = .ok (.ifCond .eq 9, 3) := by decide +kernel
theorem dX10_readOne_42 : decode cX10_readOne 42 = .ok (.aload_n 0, 1) := by decide +kernel
theorem dX10_readOne_43 : decode cX10_readOne 43 = .ok (.invokevirtual 401, 3) := by decide +kernel
theorem dX10_readOne_46 : decode cX10_readOne 46 = .ok (.iconst 1, 1) := by decide +kernel
theorem dX10_readOne_47 : decode cX10_readOne 47 = .ok (.ireturn, 1) := by decide +kernel
theorem dX10_readOne_48 : decode cX10_readOne 48 = .ok (.aload_n 0, 1) := by decide +kernel
theorem dX10_readOne_49 : decode cX10_readOne 49 = .ok (.invokevirtual 377, 3) := by decide +kernel
theorem dX10_readOne_52 : decode cX10_readOne 52 = .ok (.bipush 115, 2) := by decide +kernel
theorem dX10_readOne_54 : decode cX10_readOne 54 = .ok (.if_icmp .ne 9, 3) := by decide +kernel
theorem dX10_readOne_57 : decode cX10_readOne 57 = .ok (.aload_n 0, 1) := by decide +kernel
theorem dX10_readOne_58 : decode cX10_readOne 58 = .ok (.invokevirtual 404, 3) := by decide +kernel
theorem dX10_readOne_61 : decode cX10_readOne 61 = .ok (.iconst 1, 1) := by decide +kernel
theorem dX10_readOne_62 : decode cX10_readOne 62 = .ok (.ireturn, 1) := by decide +kernel
theorem dX10_readOne_63 : decode cX10_readOne 63 = .ok (.aload_n 0, 1) := by decide +kernel
theorem dX10_readOne_64 : decode cX10_readOne 64 = .ok (.getfield 166, 3) := by decide +kernel
theorem dX10_readOne_67 : decode cX10_readOne 67 = .ok (.bipush 8, 2) := by decide +kernel
theorem dX10_readOne_69 : decode cX10_readOne 69 = .ok (.if_icmp .ne 38, 3) := by decide +kernel
theorem dX10_readOne_72 : decode cX10_readOne 72 = .ok (.aload_n 0, 1) := by decide +kernel
theorem dX10_readOne_73 : decode cX10_readOne 73 = .ok (.invokevirtual 377, 3) := by decide +kernel
theorem dX10_readOne_76 : decode cX10_readOne 76 = .ok (.bipush 103, 2) := by decide +kernel
theorem dX10_readOne_78 : decode cX10_readOne 78 = .ok (.if_icmp .eq 12, 3) := by decide +kernel
theorem dX10_readOne_81 : decode cX10_readOne 81 = .ok (.aload_n 0, 1) := by decide +kernel
theorem dX10_readOne_82 : decode cX10_readOne 82 = .ok (.invokevirtual 377, 3) := by decide +kernel
theorem dX10_readOne_85 : decode cX10_readOne 85 = .ok (.bipush 105, 2) := by decide +kernel
theorem dX10_readOne_87 : decode cX10_readOne 87 = .ok (.if_icmp .ne 13, 3) := by decide +kernel
theorem dX10_readOne_90 : decode cX10_readOne 90 = .ok (.aload_n 0, 1) := by decide +kernel
theorem dX10_readOne_91 : decode cX10_readOne 91 = .ok (.dup, 1) := by decide +kernel
theorem dX10_readOne_92 : decode cX10_readOne 92 = .ok (.getfield 148, 3) := by decide +kernel
theorem dX10_readOne_95 : decode cX10_readOne 95 = .ok (.iconst 1, 1) := by decide +kernel
theorem dX10_readOne_96 : decode cX10_readOne 96 = .ok (.iadd, 1) := by decide +kernel
theorem dX10_readOne_97 : decode cX10_readOne 97 = .ok (.putfield 148, 3) := by decide +kernel
theorem dX10_readOne_100 : decode cX10_readOne 100 = .ok (.aload_n 0, 1) := by decide +kernel
theorem dX10_readOne_101 : decode cX10_readOne 101 = .ok (.iconst 1, 1) := by decide +kernel
theorem dX10_readOne_102 : decode cX10_readOne 102 = .ok (.putfield 151, 3) := by decide +kernel
theorem dX10_readOne_105 : decode cX10_readOne 105 = .ok (.iconst 1, 1) := by decide +kernel
theorem dX10_readOne_106 : decode cX10_readOne 106 = .ok (.ireturn, 1) := by decide +kernel
theorem dX10_readOne_107 : decode cX10_readOne 107 = .ok (.aload_n 0, 1) := by decide +kernel
theorem dX10_readOne_108 : decode cX10_readOne 108 = .ok (.aload_n 0, 1) := by decide +kernel
theorem dX10_readOne_109 : decode cX10_readOne 109 = .ok (.invokevirtual 386, 3) := by decide +kernel
theorem dX10_readOne_112 : decode cX10_readOne 112 = .ok (.invokevirtual 407, 3) := by decide +kernel
theorem dX10_readOne_115 : decode cX10_readOne 115 = .ok (.aload_n 0, 1) := by decide +kernel
theorem dX10_readOne_116 : decode cX10_readOne 116 = .ok (.getfield 151, 3) := by decide +kernel
theorem dX10_readOne_119 : decode cX10_readOne 119 = .ok (.ireturn, 1) := by decide +kernel
theorem dX10_read_0 : decode cX10_read 0 = .ok (.aload_n 0, 1) := by decide +kernel
theorem dX10_read_1 : decode cX10_read 1 = .ok (.iconst 0, 1) := by decide +kernel
theorem dX10_read_2 : decode cX10_read 2 = .ok (.putfield 1, 3) := by decide +kernel
theorem dX10_read_5 : decode cX10_read 5 = .ok (.aload_n 0, 1) := by decide +kernel
theorem dX10_read_6 : decode cX10_read 6 = .ok (.iload_n 1, 1) := by decide +kernel
theorem dX10_read_7 : decode cX10_read 7 = .ok (.invokevirtual 221, 3) := by decide +kernel
theorem dX10_read_10 : decode cX10_read 10 = .ok (.ifCond .ne 9, 3) := by decide +kernel
theorem dX10_read_13 : decode cX10_read 13 = .ok (.aload_n 0, 1) := by decide +kernel
theorem dX10_read_14 : decode cX10_read 14 = .ok (.iconst 1, 1) := by decide +kernel
theorem dX10_read_15 : decode cX10_read 15 = .ok (.invokevirtual 217, 3) := by decide +kernel
theorem dX10_read_18 : decode cX10_read 18 = .ok (.ireturn, 1) := by decide +kernel
theorem dX10_read_19 : decode cX10_read 19 = .ok (.aload_n 0, 1) := by decide +kernel
theorem dX10_read_20 : decode cX10_read 20 = .ok (.iconst 0, 1) := by decide +kernel
theorem dX10_read_21 : decode cX10_read 21 = .ok (.putfield 148, 3) := by decide +kernel
theorem dX10_read_24 : decode cX10_read 24 = .ok (.aload_n 0, 1) := by decide +kernel
theorem dX10_read_25 : decode cX10_read 25 = .ok (.iconst 0, 1) := by decide +kernel
theorem dX10_read_26 : decode cX10_read 26 = .ok (.putfield 151, 3) := by decide +kernel
theorem dX10_read_29 : decode cX10_read 29 = .ok (.aload_n 0, 1) := by decide +kernel
theorem dX10_read_30 : decode cX10_read 30 = .ok (.iconst 0, 1) := by decide +kernel
theorem dX10_read_31 : decode cX10_read 31 = .ok (.putfield 166, 3) := by decide +kernel
theorem dX10_read_34 : decode cX10_read 34 = .ok (.iconst 0, 1) := by decide +kernel
theorem dX10_read_35 : decode cX10_read 35 = .ok (.istore_n 2, 1) := by decide +kernel
theorem dX10_read_36 : decode cX10_read 36 = .ok (.iload_n 2, 1) := by decide +kernel
theorem dX10_read_37 : decode cX10_read 37 = .ok (.ifCond .ne 11, 3) := by decide +kernel
theorem dX10_read_40 : decode cX10_read 40 = .ok (.aload_n 0, 1) := by decide +kernel
theorem dX10_read_41 : decode cX10_read 41 = .ok (.invokevirtual 410, 3) := by decide +kernel
theorem dX10_read_44 : decode cX10_read 44 = .ok (.istore_n 2, 1) := by decide +kernel
theorem dX10_read_45 : decode cX10_read 45 = .ok (.goto (-9), 3) := by decide +kernel
theorem dX10_read_48 : decode cX10_read 48 = .ok (.aload_n 0, 1) := by decide +kernel
theorem dX10_read_49 : decode cX10_read 49 = .ok (.aload_n 0, 1) := by decide +kernel
theorem dX10_read_50 : decode cX10_read 50 = .ok (.getfield 151, 3) := by decide +kernel
theorem dX10_read_53 : decode cX10_read 53 = .ok (.ifCond .ne 14, 3) := by decide +kernel
theorem dX10_read_56 : decode cX10_read 56 = .ok (.aload_n 0, 1) := by decide +kernel
theorem dX10_read_57 : decode cX10_read 57 = .ok (.getfield 148, 3) := by decide +kernel
theorem dX10_read_60 : decode cX10_read 60 = .ok (.aload_n 0, 1) := by decide +kernel
theorem dX10_read_61 : decode cX10_read 61 = .ok (.getfield 145, 3) := by decide +kernel
theorem dX10_read_64 : decode cX10_read 64 = .ok (.if_icmp .ge 7, 3) := by decide +kernel
theorem dX10_read_67 : decode cX10_read 67 = .ok (.iconst 1, 1) := by decide +kernel
theorem dX10_read_68 : decode cX10_read 68 = .ok (.goto 4, 3) := by decide +kernel
theorem dX10_read_71 : decode cX10_read 71 = .ok (.iconst 0, 1) := by decide +kernel
theorem dX10_read_72 : decode cX10_read 72 = .ok (.putfield 151, 3) := by decide +kernel
theorem dX10_read_75 : decode cX10_read 75 = .ok (.aload_n 0, 1) := by decide +kernel
theorem dX10_read_76 : decode cX10_read 76 = .ok (.iconst 0, 1) := by decide +kernel
theorem dX10_read_77 : decode cX10_read 77 = .ok (.putfield 145, 3) := by decide +kernel
theorem dX10_read_80 : decode cX10_read 80 = .ok (.aload_n 0, 1) := by decide +kernel
theorem dX10_read_81 : decode cX10_read 81 = .ok (.getfield 151, 3) := by decide +kernel
theorem dX10_read_84 : decode cX10_read 84 = .ok (.ifCond .eq 11, 3) := by decide +kernel
theorem dX10_read_87 : decode cX10_read 87 = .ok (.bipush (-100), 2) := by decide +kernel
theorem dX10_read_89 : decode cX10_read 89 = .ok (.aload_n 0, 1) := by decide +kernel
theorem dX10_read_90 : decode cX10_read 90 = .ok (.getfield 148, 3) := by decide +kernel
theorem dX10_read_93 : decode cX10_read 93 = .ok (.isub, 1) := by decide +kernel
theorem dX10_read_94 : decode cX10_read 94 = .ok (.ireturn, 1) := by decide +kernel
theorem dX10_read_95 : decode cX10_read 95 = .ok (.aload_n 0, 1) := by decide +kernel
theorem dX10_read_96 : decode cX10_read 96 = .ok (.getfield 23, 3) := by decide +kernel
theorem dX10_read_99 : decode cX10_read 99 = .ok (.iload_n 1, 1) := by decide +kernel
theorem dX10_read_100 : decode cX10_read 100 = .ok (.iconst 0, 1) := by decide +kernel
theorem dX10_read_101 : decode cX10_read 101 = .ok (.iastore, 1) := by decide +kernel
theorem dX10_read_102 : decode cX10_read 102 = .ok (.iconst 0, 1) := by decide +kernel
theorem dX10_read_103 : decode cX10_read 103 = .ok (.istore_n 3, 1) := by decide +kernel
theorem dX10_read_104 : decode cX10_read 104 = .ok (.iload_n 3, 1) := by decide +kernel
theorem dX10_read_105 : decode cX10_read 105 = .ok (.aload_n 0, 1) := by decide +kernel
theorem dX10_read_106 : decode cX10_read 106 = .ok (.getfield 166, 3) := by decide +kernel
theorem dX10_read_109 : decode cX10_read 109 = .ok (.if_icmp .ge 38, 3) := by decide +kernel
theorem dX10_read_112 : decode cX10_read 112 = .ok (.aload_n 0, 1) := by decide +kernel
theorem dX10_read_113 : decode cX10_read 113 = .ok (.iload_n 1, 1) := by decide +kernel
theorem dX10_read_114 : decode cX10_read 114 = .ok (.aload_n 0, 1) := by decide +kernel
theorem dX10_read_115 : decode cX10_read 115 = .ok (.getfield 154, 3) := by decide +kernel
theorem dX10_read_118 : decode cX10_read 118 = .ok (.iload_n 3, 1) := by decide +kernel
theorem dX10_read_119 : decode cX10_read 119 = .ok (.iaload, 1) := by decide +kernel
theorem dX10_read_120 : decode cX10_read 120 = .ok (.aload_n 0, 1) := by decide +kernel
theorem dX10_read_121 : decode cX10_read 121 = .ok (.getfield 157, 3) := by decide +kernel
theorem dX10_read_124 : decode cX10_read 124 = .ok (.iload_n 3, 1) := by decide +kernel
theorem dX10_read_125 : decode cX10_read 125 = .ok (.iaload, 1) := by decide +kernel
theorem dX10_read_126 : decode cX10_read 126 = .ok (.aload_n 0, 1) := by decide +kernel
theorem dX10_read_127 : decode cX10_read 127 = .ok (.getfield 160, 3) := by decide +kernel
theorem dX10_read_130 : decode cX10_read 130 = .ok (.iload_n 3, 1) := by decide +kernel
theorem dX10_read_131 : decode cX10_read 131 = .ok (.iaload, 1) := by decide +kernel
theorem dX10_read_132 : decode cX10_read 132 = .ok (.aload_n 0, 1) := by decide +kernel
theorem dX10_read_133 : decode cX10_read 133 = .ok (.getfield 163, 3) := by decide +kernel
theorem dX10_read_136 : decode cX10_read 136 = .ok (.iload_n 3, 1) := by decide +kernel
theorem dX10_read_137 : decode cX10_read 137 = .ok (.iaload, 1) := by decide +kernel
theorem dX10_read_138 : decode cX10_read 138 = .ok (.invokevirtual 228, 3) := by decide +kernel
theorem dX10_read_141 : decode cX10_read 141 = .ok (.iinc 3 1, 3) := by decide +kernel
theorem dX10_read_144 : decode cX10_read 144 = .ok (.goto (-40), 3) := by decide +kernel
theorem dX10_read_147 : decode cX10_read 147 = .ok (.aload_n 0, 1) := by decide +kernel
theorem dX10_read_148 : decode cX10_read 148 = .ok (.iload_n 1, 1) := by decide +kernel
theorem dX10_read_149 : decode cX10_read 149 = .ok (.aload_n 0, 1) := by decide +kernel
theorem dX10_read_150 : decode cX10_read 150 = .ok (.getfield 169, 3) := by decide +kernel
theorem dX10_read_153 : decode cX10_read 153 = .ok (.aload_n 0, 1) := by decide +kernel
theorem dX10_read_154 : decode cX10_read 154 = .ok (.getfield 172, 3) := by decide +kernel
theorem dX10_read_157 : decode cX10_read 157 = .ok (.aload_n 0, 1) := by decide +kernel
theorem dX10_read_158 : decode cX10_read 158 = .ok (.getfield 175, 3) := by decide +kernel
theorem dX10_read_161 : decode cX10_read 161 = .ok (.aload_n 0, 1) := by decide +kernel
theorem dX10_read_162 : decode cX10_read 162 = .ok (.getfield 178, 3) := by decide +kernel
theorem dX10_read_165 : decode cX10_read 165 = .ok (.invokevirtual 232, 3) := by decide +kernel
theorem dX10_read_168 : decode cX10_read 168 = .ok (.aload_n 0, 1) := by decide +kernel
theorem dX10_read_169 : decode cX10_read 169 = .ok (.iconst 0, 1) := by decide +kernel
theorem dX10_read_170 : decode cX10_read 170 = .ok (.putfield 57, 3) := by decide +kernel
theorem dX10_read_173 : decode cX10_read 173 = .ok (.aload_n 0, 1) := by decide +kernel
theorem dX10_read_174 : decode cX10_read 174 = .ok (.getfield 166, 3) := by decide +kernel
theorem dX10_read_177 : decode cX10_read 177 = .ok (.ireturn, 1) := by decide +kernel
theorem dX10_copies_0 : decode cX10_copies 0 = .ok (.iconst 0, 1) := by decide +kernel
theorem dX10_copies_1 : decode cX10_copies 1 = .ok (.istore_n 2, 1) := by decide +kernel
theorem dX10_copies_2 : decode cX10_copies 2 = .ok (.iload_n 2, 1) := by decide +kernel
theorem dX10_copies_3 : decode cX10_copies 3 = .ok (.aload_n 0, 1) := by decide +kernel
theorem dX10_copies_4 : decode cX10_copies 4 = .ok (.arraylength, 1) := by decide +kernel
theorem dX10_copies_5 : decode cX10_copies 5 = .ok (.if_icmp .ge 15, 3) := by decide +kernel
theorem dX10_copies_8 : decode cX10_copies 8 = .ok (.aload_n 1, 1) := by decide +kernel
theorem dX10_copies_9 : decode cX10_copies 9 = .ok (.iload_n 2, 1) := by decide +kernel
theorem dX10_copies_10 : decode cX10_copies 10 = .ok (.aload_n 0, 1) := by decide +kernel
theorem dX10_copies_11 : decode cX10_copies 11 = .ok (.iload_n 2, 1) := by decide +kernel
theorem dX10_copies_12 : decode cX10_copies 12 = .ok (.iaload, 1) := by decide +kernel
theorem dX10_copies_13 : decode cX10_copies 13 = .ok (.iastore, 1) := by decide +kernel
theorem dX10_copies_14 : decode cX10_copies 14 = .ok (.iinc 2 1, 3) := by decide +kernel
theorem dX10_copies_17 : decode cX10_copies 17 = .ok (.goto (-15), 3) := by decide +kernel
theorem dX10_copies_20 : decode cX10_copies 20 = .ok (.return_, 1) := by decide +kernel
theorem dX10_saveSnapshot_0 : decode cX10_saveSnapshot 0 = .ok (.aload_n 0, 1) := by decide +kernel
theorem dX10_saveSnapshot_1 : decode cX10_saveSnapshot 1 = .ok (.aload_n 0, 1) := by decide +kernel
theorem dX10_saveSnapshot_2 : decode cX10_saveSnapshot 2 = .ok (.getfield 17, 3) := by decide +kernel
theorem dX10_saveSnapshot_5 : decode cX10_saveSnapshot 5 = .ok (.putfield 20, 3) := by decide +kernel
theorem dX10_saveSnapshot_8 : decode cX10_saveSnapshot 8 = .ok (.aload_n 0, 1) := by decide +kernel
theorem dX10_saveSnapshot_9 : decode cX10_saveSnapshot 9 = .ok (.getfield 23, 3) := by decide +kernel
theorem dX10_saveSnapshot_12 : decode cX10_saveSnapshot 12 = .ok (.aload_n 0, 1) := by decide +kernel
theorem dX10_saveSnapshot_13 : decode cX10_saveSnapshot 13 = .ok (.getfield 181, 3) := by decide +kernel
theorem dX10_saveSnapshot_16 : decode cX10_saveSnapshot 16 = .ok (.invokestatic 414, 3) := by decide +kernel
theorem dX10_saveSnapshot_19 : decode cX10_saveSnapshot 19 = .ok (.aload_n 0, 1) := by decide +kernel
theorem dX10_saveSnapshot_20 : decode cX10_saveSnapshot 20 = .ok (.getfield 27, 3) := by decide +kernel
theorem dX10_saveSnapshot_23 : decode cX10_saveSnapshot 23 = .ok (.aload_n 0, 1) := by decide +kernel
theorem dX10_saveSnapshot_24 : decode cX10_saveSnapshot 24 = .ok (.getfield 184, 3) := by decide +kernel
theorem dX10_saveSnapshot_27 : decode cX10_saveSnapshot 27 = .ok (.invokestatic 414, 3) := by decide +kernel
theorem dX10_saveSnapshot_30 : decode cX10_saveSnapshot 30 = .ok (.aload_n 0, 1) := by decide +kernel
theorem dX10_saveSnapshot_31 : decode cX10_saveSnapshot 31 = .ok (.getfield 30, 3) := by decide +kernel
theorem dX10_saveSnapshot_34 : decode cX10_saveSnapshot 34 = .ok (.aload_n 0, 1) := by decide +kernel
theorem dX10_saveSnapshot_35 : decode cX10_saveSnapshot 35 = .ok (.getfield 187, 3) := by decide +kernel
theorem dX10_saveSnapshot_38 : decode cX10_saveSnapshot 38 = .ok (.invokestatic 414, 3) := by decide +kernel
theorem dX10_saveSnapshot_41 : decode cX10_saveSnapshot 41 = .ok (.aload_n 0, 1) := by decide +kernel
theorem dX10_saveSnapshot_42 : decode cX10_saveSnapshot 42 = .ok (.getfield 33, 3) := by decide +kernel
theorem dX10_saveSnapshot_45 : decode cX10_saveSnapshot 45 = .ok (.aload_n 0, 1) := by decide +kernel
theorem dX10_saveSnapshot_46 : decode cX10_saveSnapshot 46 = .ok (.getfield 190, 3) := by decide +kernel
theorem dX10_saveSnapshot_49 : decode cX10_saveSnapshot 49 = .ok (.invokestatic 414, 3) := by decide +kernel
theorem dX10_saveSnapshot_52 : decode cX10_saveSnapshot 52 = .ok (.aload_n 0, 1) := by decide +kernel
theorem dX10_saveSnapshot_53 : decode cX10_saveSnapshot 53 = .ok (.getfield 36, 3) := by decide +kernel
theorem dX10_saveSnapshot_56 : decode cX10_saveSnapshot 56 = .ok (.aload_n 0, 1) := by decide +kernel
theorem dX10_saveSnapshot_57 : decode cX10_saveSnapshot 57 = .ok (.getfield 193, 3) := by decide +kernel
theorem dX10_saveSnapshot_60 : decode cX10_saveSnapshot 60 = .ok (.invokestatic 414, 3) := by decide +kernel
theorem dX10_saveSnapshot_63 : decode cX10_saveSnapshot 63 = .ok (.aload_n 0, 1) := by decide +kernel
theorem dX10_saveSnapshot_64 : decode cX10_saveSnapshot 64 = .ok (.getfield 39, 3) := by decide +kernel
theorem dX10_saveSnapshot_67 : decode cX10_saveSnapshot 67 = .ok (.aload_n 0, 1) := by decide +kernel
theorem dX10_saveSnapshot_68 : decode cX10_saveSnapshot 68 = .ok (.getfield 196, 3) := by decide +kernel
theorem dX10_saveSnapshot_71 : decode cX10_saveSnapshot 71 = .ok (.invokestatic 414, 3) := by decide +kernel
theorem dX10_saveSnapshot_74 : decode cX10_saveSnapshot 74 = .ok (.aload_n 0, 1) := by decide +kernel
theorem dX10_saveSnapshot_75 : decode cX10_saveSnapshot 75 = .ok (.getfield 42, 3) := by decide +kernel
theorem dX10_saveSnapshot_78 : decode cX10_saveSnapshot 78 = .ok (.aload_n 0, 1) := by decide +kernel
theorem dX10_saveSnapshot_79 : decode cX10_saveSnapshot 79 = .ok (.getfield 199, 3) := by decide +kernel
theorem dX10_saveSnapshot_82 : decode cX10_saveSnapshot 82 = .ok (.invokestatic 414, 3) := by decide +kernel
theorem dX10_saveSnapshot_85 : decode cX10_saveSnapshot 85 = .ok (.aload_n 0, 1) := by decide +kernel
theorem dX10_saveSnapshot_86 : decode cX10_saveSnapshot 86 = .ok (.getfield 45, 3) := by decide +kernel
theorem dX10_saveSnapshot_89 : decode cX10_saveSnapshot 89 = .ok (.aload_n 0, 1) := by decide +kernel
theorem dX10_saveSnapshot_90 : decode cX10_saveSnapshot 90 = .ok (.getfield 202, 3) := by decide +kernel
theorem dX10_saveSnapshot_93 : decode cX10_saveSnapshot 93 = .ok (.invokestatic 414, 3) := by decide +kernel
theorem dX10_saveSnapshot_96 : decode cX10_saveSnapshot 96 = .ok (.aload_n 0, 1) := by decide +kernel
theorem dX10_saveSnapshot_97 : decode cX10_saveSnapshot 97 = .ok (.getfield 48, 3) := by decide +kernel
theorem dX10_saveSnapshot_100 : decode cX10_saveSnapshot 100 = .ok (.aload_n 0, 1) := by decide +kernel
theorem dX10_saveSnapshot_101 : decode cX10_saveSnapshot 101 = .ok (.getfield 205, 3) := by decide +kernel
theorem dX10_saveSnapshot_104 : decode cX10_saveSnapshot 104 = .ok (.invokestatic 414, 3) := by decide +kernel
theorem dX10_saveSnapshot_107 : decode cX10_saveSnapshot 107 = .ok (.aload_n 0, 1) := by decide +kernel
theorem dX10_saveSnapshot_108 : decode cX10_saveSnapshot 108 = .ok (.getfield 51, 3) := by decide +kernel
theorem dX10_saveSnapshot_111 : decode cX10_saveSnapshot 111 = .ok (.aload_n 0, 1) := by decide +kernel
theorem dX10_saveSnapshot_112 : decode cX10_saveSnapshot 112 = .ok (.getfield 208, 3) := by decide +kernel
theorem dX10_saveSnapshot_115 : decode cX10_saveSnapshot 115 = .ok (.invokestatic 414, 3) := by decide +kernel
theorem dX10_saveSnapshot_118 : decode cX10_saveSnapshot 118 = .ok (.aload_n 0, 1) := by decide +kernel
theorem dX10_saveSnapshot_119 : decode cX10_saveSnapshot 119 = .ok (.getfield 54, 3) := by decide +kernel
theorem dX10_saveSnapshot_122 : decode cX10_saveSnapshot 122 = .ok (.aload_n 0, 1) := by decide +kernel
theorem dX10_saveSnapshot_123 : decode cX10_saveSnapshot 123 = .ok (.getfield 211, 3) := by decide +kernel
theorem dX10_saveSnapshot_126 : decode cX10_saveSnapshot 126 = .ok (.invokestatic 414, 3) := by decide +kernel
theorem dX10_saveSnapshot_129 : decode cX10_saveSnapshot 129 = .ok (.aload_n 0, 1) := by decide +kernel
theorem dX10_saveSnapshot_130 : decode cX10_saveSnapshot 130 = .ok (.getfield 17, 3) := by decide +kernel
theorem dX10_saveSnapshot_133 : decode cX10_saveSnapshot 133 = .ok (.ireturn, 1) := by decide +kernel
theorem dX10_restoreSnapshot_0 : decode cX10_restoreSnapshot 0 = .ok (.aload_n 0, 1) := by decide +kernel
theorem dX10_restoreSnapshot_1 : decode cX10_restoreSnapshot 1 = .ok (.iconst 0, 1) := by decide +kernel
theorem dX10_restoreSnapshot_2 : decode cX10_restoreSnapshot 2 = .ok (.putfield 1, 3) := by decide +kernel
theorem dX10_restoreSnapshot_5 : decode cX10_restoreSnapshot 5 = .ok (.aload_n 0, 1) := by decide +kernel
theorem dX10_restoreSnapshot_6 : decode cX10_restoreSnapshot 6 = .ok (.getfield 20, 3) := by decide +kernel
theorem dX10_restoreSnapshot_9 : decode cX10_restoreSnapshot 9 = .ok (.ifCond .ne 9, 3) := by decide +kernel
theorem dX10_restoreSnapshot_12 : decode cX10_restoreSnapshot 12 = .ok (.aload_n 0, 1) := by decide +kernel
theorem dX10_restoreSnapshot_13 : decode cX10_restoreSnapshot 13 = .ok (.iconst 1, 1) := by decide +kernel
theorem dX10_restoreSnapshot_14 : decode cX10_restoreSnapshot 14 = .ok (.invokevirtual 217, 3) := by decide +kernel
theorem dX10_restoreSnapshot_17 : decode cX10_restoreSnapshot 17 = .ok (.ireturn, 1) := by decide +kernel
theorem dX10_restoreSnapshot_18 : decode cX10_restoreSnapshot 18 = .ok (.aload_n 0, 1) := by decide +kernel
theorem dX10_restoreSnapshot_19 : decode cX10_restoreSnapshot 19 = .ok (.aload_n 0, 1) := by decide +kernel
theorem dX10_restoreSnapshot_20 : decode cX10_restoreSnapshot 20 = .ok (.getfield 20, 3) := by decide +kernel
theorem dX10_restoreSnapshot_23 : decode cX10_restoreSnapshot 23 = .ok (.putfield 17, 3) := by decide +kernel
theorem dX10_restoreSnapshot_26 : decode cX10_restoreSnapshot 26 = .ok (.aload_n 0, 1) := by decide +kernel
theorem dX10_restoreSnapshot_27 : decode cX10_restoreSnapshot 27 = .ok (.getfield 181, 3) := by decide +kernel
theorem dX10_restoreSnapshot_30 : decode cX10_restoreSnapshot 30 = .ok (.aload_n 0, 1) := by decide +kernel
theorem dX10_restoreSnapshot_31 : decode cX10_restoreSnapshot 31 = .ok (.getfield 23, 3) := by decide +kernel
theorem dX10_restoreSnapshot_34 : decode cX10_restoreSnapshot 34 = .ok (.invokestatic 414, 3) := by decide +kernel
theorem dX10_restoreSnapshot_37 : decode cX10_restoreSnapshot 37 = .ok (.aload_n 0, 1) := by decide +kernel
theorem dX10_restoreSnapshot_38 : decode cX10_restoreSnapshot 38 = .ok (.getfield 184, 3) := by decide +kernel
theorem dX10_restoreSnapshot_41 : decode cX10_restoreSnapshot 41 = .ok (.aload_n 0, 1) := by decide +kernel
theorem dX10_restoreSnapshot_42 : decode cX10_restoreSnapshot 42 = .ok (.getfield 27, 3) := by decide +kernel
theorem dX10_restoreSnapshot_45 : decode cX10_restoreSnapshot 45 = .ok (.invokestatic 414, 3) := by decide +kernel
theorem dX10_restoreSnapshot_48 : decode cX10_restoreSnapshot 48 = .ok (.aload_n 0, 1) := by decide +kernel
theorem dX10_restoreSnapshot_49 : decode cX10_restoreSnapshot 49 = .ok (.getfield 187, 3) := by decide +kernel
theorem dX10_restoreSnapshot_52 : decode cX10_restoreSnapshot 52 = .ok (.aload_n 0, 1) := by decide +kernel
theorem dX10_restoreSnapshot_53 : decode cX10_restoreSnapshot 53 = .ok (.getfield 30, 3) := by decide +kernel
theorem dX10_restoreSnapshot_56 : decode cX10_restoreSnapshot 56 = .ok (.invokestatic 414, 3) := by decide +kernel
theorem dX10_restoreSnapshot_59 : decode cX10_restoreSnapshot 59 = .ok (.aload_n 0, 1) := by decide +kernel
theorem dX10_restoreSnapshot_60 : decode cX10_restoreSnapshot 60 = .ok (.getfield 190, 3) := by decide +kernel
theorem dX10_restoreSnapshot_63 : decode cX10_restoreSnapshot 63 = .ok (.aload_n 0, 1) := by decide +kernel
theorem dX10_restoreSnapshot_64 : decode cX10_restoreSnapshot 64 = .ok (.getfield 33, 3) := by decide +kernel
theorem dX10_restoreSnapshot_67 : decode cX10_restoreSnapshot 67 = .ok (.invokestatic 414, 3) := by decide +kernel
theorem dX10_restoreSnapshot_70 : decode cX10_restoreSnapshot 70 = .ok (.aload_n 0, 1) := by decide +kernel
theorem dX10_restoreSnapshot_71 : decode cX10_restoreSnapshot 71 = .ok (.getfield 193, 3) := by decide +kernel
theorem dX10_restoreSnapshot_74 : decode cX10_restoreSnapshot 74 = .ok (.aload_n 0, 1) := by decide +kernel
theorem dX10_restoreSnapshot_75 : decode cX10_restoreSnapshot 75 = .ok (.getfield 36, 3) := by decide +kernel
theorem dX10_restoreSnapshot_78 : decode cX10_restoreSnapshot 78 = .ok (.invokestatic 414, 3) := by decide +kernel
theorem dX10_restoreSnapshot_81 : decode cX10_restoreSnapshot 81 = .ok (.aload_n 0, 1) := by decide +kernel
theorem dX10_restoreSnapshot_82 : decode cX10_restoreSnapshot 82 = .ok (.getfield 196, 3) := by decide +kernel
theorem dX10_restoreSnapshot_85 : decode cX10_restoreSnapshot 85 = .ok (.aload_n 0, 1) := by decide +kernel
theorem dX10_restoreSnapshot_86 : decode cX10_restoreSnapshot 86 = .ok (.getfield 39, 3) := by decide +kernel
theorem dX10_restoreSnapshot_89 : decode cX10_restoreSnapshot 89 = .ok (.invokestatic 414, 3) := by decide +kernel
theorem dX10_restoreSnapshot_92 : decode cX10_restoreSnapshot 92 = .ok (.aload_n 0, 1) := by decide +kernel
theorem dX10_restoreSnapshot_93 : decode cX10_restoreSnapshot 93 = .ok (.getfield 199, 3) := by decide +kernel
theorem dX10_restoreSnapshot_96 : decode cX10_restoreSnapshot 96 = .ok (.aload_n 0, 1) := by decide +kernel
theorem dX10_restoreSnapshot_97 : decode cX10_restoreSnapshot 97 = .ok (.getfield 42, 3) := by decide +kernel
theorem dX10_restoreSnapshot_100 : decode cX10_restoreSnapshot 100 = .ok (.invokestatic 414, 3) := by decide +kernel
theorem dX10_restoreSnapshot_103 : decode cX10_restoreSnapshot 103 = .ok (.aload_n 0, 1) := by decide +kernel
theorem dX10_restoreSnapshot_104 : decode cX10_restoreSnapshot 104 = .ok (.getfield 202, 3) := by decide +kernel
theorem dX10_restoreSnapshot_107 : decode cX10_restoreSnapshot 107 = .ok (.aload_n 0, 1) := by decide +kernel
theorem dX10_restoreSnapshot_108 : decode cX10_restoreSnapshot 108 = .ok (.getfield 45, 3) := by decide +kernel
theorem dX10_restoreSnapshot_111 : decode cX10_restoreSnapshot 111 = .ok (.invokestatic 414, 3) := by decide +kernel
theorem dX10_restoreSnapshot_114 : decode cX10_restoreSnapshot 114 = .ok (.aload_n 0, 1) := by decide +kernel
theorem dX10_restoreSnapshot_115 : decode cX10_restoreSnapshot 115 = .ok (.getfield 205, 3) := by decide +kernel
theorem dX10_restoreSnapshot_118 : decode cX10_restoreSnapshot 118 = .ok (.aload_n 0, 1) := by decide +kernel
theorem dX10_restoreSnapshot_119 : decode cX10_restoreSnapshot 119 = .ok (.getfield 48, 3) := by decide +kernel
theorem dX10_restoreSnapshot_122 : decode cX10_restoreSnapshot 122 = .ok (.invokestatic 414, 3) := by decide +kernel
theorem dX10_restoreSnapshot_125 : decode cX10_restoreSnapshot 125 = .ok (.aload_n 0, 1) := by decide +kernel
theorem dX10_restoreSnapshot_126 : decode cX10_restoreSnapshot 126 = .ok (.getfield 208, 3) := by decide +kernel
theorem dX10_restoreSnapshot_129 : decode cX10_restoreSnapshot 129 = .ok (.aload_n 0, 1) := by decide +kernel
theorem dX10_restoreSnapshot_130 : decode cX10_restoreSnapshot 130 = .ok (.getfield 51, 3) := by decide +kernel
theorem dX10_restoreSnapshot_133 : decode cX10_restoreSnapshot 133 = .ok (.invokestatic 414, 3) := by decide +kernel
theorem dX10_restoreSnapshot_136 : decode cX10_restoreSnapshot 136 = .ok (.aload_n 0, 1) := by decide +kernel
theorem dX10_restoreSnapshot_137 : decode cX10_restoreSnapshot 137 = .ok (.getfield 211, 3) := by decide +kernel
theorem dX10_restoreSnapshot_140 : decode cX10_restoreSnapshot 140 = .ok (.aload_n 0, 1) := by decide +kernel
theorem dX10_restoreSnapshot_141 : decode cX10_restoreSnapshot 141 = .ok (.getfield 54, 3) := by decide +kernel
theorem dX10_restoreSnapshot_144 : decode cX10_restoreSnapshot 144 = .ok (.invokestatic 414, 3) := by decide +kernel
theorem dX10_restoreSnapshot_147 : decode cX10_restoreSnapshot 147 = .ok (.aload_n 0, 1) := by decide +kernel
theorem dX10_restoreSnapshot_148 : decode cX10_restoreSnapshot 148 = .ok (.iconst 0, 1) := by decide +kernel
theorem dX10_restoreSnapshot_149 : decode cX10_restoreSnapshot 149 = .ok (.putfield 57, 3) := by decide +kernel
theorem dX10_restoreSnapshot_152 : decode cX10_restoreSnapshot 152 = .ok (.aload_n 0, 1) := by decide +kernel
theorem dX10_restoreSnapshot_153 : decode cX10_restoreSnapshot 153 = .ok (.getfield 17, 3) := by decide +kernel
theorem dX10_restoreSnapshot_156 : decode cX10_restoreSnapshot 156 = .ok (.ireturn, 1) := by decide +kernel
theorem dJ7_fill_53178_0 : decode cJ7_fill_53178 0 = .ok (.iconst 0, 1) := by decide +kernel
theorem dJ7_fill_53178_1 : decode cJ7_fill_53178 1 = .ok (.istore_n 2, 1) := by decide +kernel
theorem dJ7_fill_53178_2 : decode cJ7_fill_53178 2 = .ok (.aload_n 0, 1) := by decide +kernel
theorem dJ7_fill_53178_3 : decode cJ7_fill_53178 3 = .ok (.arraylength, 1) := by decide +kernel
theorem dJ7_fill_53178_4 : decode cJ7_fill_53178 4 = .ok (.istore_n 3, 1) := by decide +kernel
theorem dJ7_fill_53178_5 : decode cJ7_fill_53178 5 = .ok (.iload_n 2, 1) := by decide +kernel
theorem dJ7_fill_53178_6 : decode cJ7_fill_53178 6 = .ok (.iload_n 3, 1) := by decide +kernel
theorem dJ7_fill_53178_7 : decode cJ7_fill_53178 7 = .ok (.if_icmp .ge 13, 3) := by decide +kernel
theorem dJ7_fill_53178_10 : decode cJ7_fill_53178 10 = .ok (.aload_n 0, 1) := by decide +kernel
theorem dJ7_fill_53178_11 : decode cJ7_fill_53178 11 = .ok (.iload_n 2, 1) := by decide +kernel
theorem dJ7_fill_53178_12 : decode cJ7_fill_53178 12 = .ok (.iload_n 1, 1) := by decide +kernel
theorem dJ7_fill_53178_13 : decode cJ7_fill_53178 13 = .ok (.iastore, 1) := by decide +kernel
theorem dJ7_fill_53178_14 : decode cJ7_fill_53178 14 = .ok (.iinc 2 1, 3) := by decide +kernel
theorem dJ7_fill_53178_17 : decode cJ7_fill_53178 17 = .ok (.goto (-12), 3) := by decide +kernel
theorem dJ7_fill_53178_20 : decode cJ7_fill_53178 20 = .ok (.return_, 1) := by decide +kernel
theorem dX0_finish_0 : decode cX0_finish 0 = .ok (.aload_n 0, 1) := by decide +kernel
theorem dX0_finish_1 : decode cX0_finish 1 = .ok (.iload_n 1, 1) := by decide +kernel
theorem dX0_finish_2 : decode cX0_finish 2 = .ok (.putfield 38, 3) := by decide +kernel
theorem dX0_finish_5 : decode cX0_finish 5 = .ok (.aload_n 0, 1) := by decide +kernel
theorem dX0_finish_6 : decode cX0_finish 6 = .ok (.iload_n 1, 1) := by decide +kernel
theorem dX0_finish_7 : decode cX0_finish 7 = .ok (.ifCond .ne 7, 3) := by decide +kernel
theorem dX0_finish_10 : decode cX0_finish 10 = .ok (.iconst (-1), 1) := by decide +kernel
theorem dX0_finish_11 : decode cX0_finish 11 = .ok (.goto 4, 3) := by decide +kernel
theorem dX0_finish_14 : decode cX0_finish 14 = .ok (.iload_n 2, 1) := by decide +kernel
theorem dX0_finish_15 : decode cX0_finish 15 = .ok (.putfield 41, 3) := by decide +kernel
theorem dX0_finish_18 : decode cX0_finish 18 = .ok (.aload_n 0, 1) := by decide +kernel
theorem dX0_finish_19 : decode cX0_finish 19 = .ok (.iload_n 1, 1) := by decide +kernel
theorem dX0_finish_20 : decode cX0_finish 20 = .ok (.iconst 2, 1) := by decide +kernel
theorem dX0_finish_21 : decode cX0_finish 21 = .ok (.if_icmp .ne 7, 3) := by decide +kernel
theorem dX0_finish_24 : decode cX0_finish 24 = .ok (.iconst (-1), 1) := by decide +kernel
theorem dX0_finish_25 : decode cX0_finish 25 = .ok (.goto 4, 3) := by decide +kernel
theorem dX0_finish_28 : decode cX0_finish 28 = .ok (.iload_n 3, 1) := by decide +kernel
theorem dX0_finish_29 : decode cX0_finish 29 = .ok (.putfield 44, 3) := by decide +kernel
theorem dX0_finish_32 : decode cX0_finish 32 = .ok (.aload_n 0, 1) := by decide +kernel
theorem dX0_finish_33 : decode cX0_finish 33 = .ok (.iload_n 1, 1) := by decide +kernel
theorem dX0_finish_34 : decode cX0_finish 34 = .ok (.iconst 1, 1) := by decide +kernel
theorem dX0_finish_35 : decode cX0_finish 35 = .ok (.if_icmp .ne 8, 3) := by decide +kernel
theorem dX0_finish_38 : decode cX0_finish 38 = .ok (.iload 4, 2) := by decide +kernel
theorem dX0_finish_40 : decode cX0_finish 40 = .ok (.goto 4, 3) := by decide +kernel
theorem dX0_finish_43 : decode cX0_finish 43 = .ok (.iconst (-1), 1) := by decide +kernel
theorem dX0_finish_44 : decode cX0_finish 44 = .ok (.putfield 47, 3) := by decide +kernel
theorem dX0_finish_47 : decode cX0_finish 47 = .ok (.return_, 1) := by decide +kernel
theorem dX0_begin_0 : decode cX0_begin 0 = .ok (.aload_n 0, 1) := by decide +kernel
theorem dX0_begin_1 : decode cX0_begin 1 = .ok (.iconst 0, 1) := by decide +kernel
theorem dX0_begin_2 : decode cX0_begin 2 = .ok (.putfield 27, 3) := by decide +kernel
theorem dX0_begin_5 : decode cX0_begin 5 = .ok (.aload_n 0, 1) := by decide +kernel
theorem dX0_begin_6 : decode cX0_begin 6 = .ok (.iconst 2, 1) := by decide +kernel
theorem dX0_begin_7 : decode cX0_begin 7 = .ok (.iconst 0, 1) := by decide +kernel
theorem dX0_begin_8 : decode cX0_begin 8 = .ok (.iconst (-1), 1) := by decide +kernel
theorem dX0_begin_9 : decode cX0_begin 9 = .ok (.iconst (-1), 1) := by decide +kernel
theorem dX0_begin_10 : decode cX0_begin 10 = .ok (.invokevirtual 31, 3) := by decide +kernel
theorem dX0_begin_13 : decode cX0_begin 13 = .ok (.aload_n 0, 1) := by decide +kernel
theorem dX0_begin_14 : decode cX0_begin 14 = .ok (.iconst 1, 1) := by decide +kernel
theorem dX0_begin_15 : decode cX0_begin 15 = .ok (.putfield 35, 3) := by decide +kernel
theorem dX0_begin_18 : decode cX0_begin 18 = .ok (.return_, 1) := by decide +kernel
theorem dX7_begin_0 : decode cX7_begin 0 = .ok (.iconst 0, 1) := by decide +kernel
theorem dX7_begin_1 : decode cX7_begin 1 = .ok (.istore_n 2, 1) := by decide +kernel
theorem dX7_begin_2 : decode cX7_begin 2 = .ok (.iload_n 2, 1) := by decide +kernel
theorem dX7_begin_3 : decode cX7_begin 3 = .ok (.bipush 8, 2) := by decide +kernel
theorem dX7_begin_5 : decode cX7_begin 5 = .ok (.if_icmp .ge 18, 3) := by decide +kernel
theorem dX7_begin_8 : decode cX7_begin 8 = .ok (.aload_n 0, 1) := by decide +kernel
theorem dX7_begin_9 : decode cX7_begin 9 = .ok (.getfield 11, 3) := by decide +kernel
theorem dX7_begin_12 : decode cX7_begin 12 = .ok (.iload_n 2, 1) := by decide +kernel
theorem dX7_begin_13 : decode cX7_begin 13 = .ok (.aaload, 1) := by decide +kernel
theorem dX7_begin_14 : decode cX7_begin 14 = .ok (.invokevirtual 26, 3) := by decide +kernel
theorem dX7_begin_17 : decode cX7_begin 17 = .ok (.iinc 2 1, 3) := by decide +kernel
theorem dX7_begin_20 : decode cX7_begin 20 = .ok (.goto (-18), 3) := by decide +kernel
theorem dX7_begin_23 : decode cX7_begin 23 = .ok (.aload_n 0, 1) := by decide +kernel
theorem dX7_begin_24 : decode cX7_begin 24 = .ok (.getfield 17, 3) := by decide +kernel
theorem dX7_begin_27 : decode cX7_begin 27 = .ok (.iconst 0, 1) := by decide +kernel
theorem dX7_begin_28 : decode cX7_begin 28 = .ok (.invokestatic 29, 3) := by decide +kernel
theorem dX7_begin_31 : decode cX7_begin 31 = .ok (.aload_n 0, 1) := by decide +kernel
theorem dX7_begin_32 : decode cX7_begin 32 = .ok (.iload_n 1, 1) := by decide +kernel
theorem dX7_begin_33 : decode cX7_begin 33 = .ok (.putfield 22, 3) := by decide +kernel
theorem dX7_begin_36 : decode cX7_begin 36 = .ok (.return_, 1) := by decide +kernel
