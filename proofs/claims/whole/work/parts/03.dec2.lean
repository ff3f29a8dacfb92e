theorem dX5_model_54 : decode cX5_model 54 = .ok (.iload 4, 2) := by decide +kernel
theorem dX5_model_56 : decode cX5_model 56 = .ok (.invokevirtual 167, 3) := by decide +kernel
theorem dX5_model_59 : decode cX5_model 59 = .ok (.ifCond .eq 7, 3) := by decide +kernel
theorem dX5_model_62 : decode cX5_model 62 = .ok (.iconst 1, 1) := by decide +kernel
theorem dX5_model_63 : decode cX5_model 63 = .ok (.goto 4, 3) := by decide +kernel
theorem dX5_model_66 : decode cX5_model 66 = .ok (.iconst 0, 1) := by decide +kernel
theorem dX5_model_67 : decode cX5_model 67 = .ok (.iadd, 1) := by decide +kernel
theorem dX5_model_68 : decode cX5_model 68 = .ok (.istore_n 2, 1) := by decide +kernel
theorem dX5_model_69 : decode cX5_model 69 = .ok (.iinc 4 1, 3) := by decide +kernel
theorem dX5_model_72 : decode cX5_model 72 = .ok (.goto (-31), 3) := by decide +kernel
theorem dX5_model_75 : decode cX5_model 75 = .ok (.iinc 3 1, 3) := by decide +kernel
theorem dX5_model_78 : decode cX5_model 78 = .ok (.goto (-55), 3) := by decide +kernel
theorem dX5_model_81 : decode cX5_model 81 = .ok (.iload_n 2, 1) := by decide +kernel
theorem dX5_model_82 : decode cX5_model 82 = .ok (.ireturn, 1) := by decide +kernel
theorem dX5_reduced_0 : decode cX5_reduced 0 = .ok (.aload_n 0, 1) := by decide +kernel
theorem dX5_reduced_1 : decode cX5_reduced 1 = .ok (.iload_n 1, 1) := by decide +kernel
theorem dX5_reduced_2 : decode cX5_reduced 2 = .ok (.ifCond .lt 25, 3) := by decide +kernel
theorem dX5_reduced_5 : decode cX5_reduced 5 = .ok (.iload_n 1, 1) := by decide +kernel
theorem dX5_reduced_6 : decode cX5_reduced 6 = .ok (.bipush 8, 2) := by decide +kernel
theorem dX5_reduced_8 : decode cX5_reduced 8 = .ok (.if_icmp .ge 19, 3) := by decide +kernel
theorem dX5_reduced_11 : decode cX5_reduced 11 = .ok (.aload_n 0, 1) := by decide +kernel
theorem dX5_reduced_12 : decode cX5_reduced 12 = .ok (.iload_n 2, 1) := by decide +kernel
theorem dX5_reduced_13 : decode cX5_reduced 13 = .ok (.invokevirtual 99, 3) := by decide +kernel
theorem dX5_reduced_16 : decode cX5_reduced 16 = .ok (.ifCond .eq 11, 3) := by decide +kernel
theorem dX5_reduced_19 : decode cX5_reduced 19 = .ok (.aload_n 0, 1) := by decide +kernel
theorem dX5_reduced_20 : decode cX5_reduced 20 = .ok (.iload_n 3, 1) := by decide +kernel
theorem dX5_reduced_21 : decode cX5_reduced 21 = .ok (.invokevirtual 99, 3) := by decide +kernel
theorem dX5_reduced_24 : decode cX5_reduced 24 = .ok (.ifCond .ne 7, 3) := by decide +kernel
theorem dX5_reduced_27 : decode cX5_reduced 27 = .ok (.iconst 1, 1) := by decide +kernel
theorem dX5_reduced_28 : decode cX5_reduced 28 = .ok (.goto 4, 3) := by decide +kernel
theorem dX5_reduced_31 : decode cX5_reduced 31 = .ok (.iconst 0, 1) := by decide +kernel
theorem dX5_reduced_32 : decode cX5_reduced 32 = .ok (.putfield 81, 3) := by decide +kernel
theorem dX5_reduced_35 : decode cX5_reduced 35 = .ok (.aload_n 0, 1) := by decide +kernel
theorem dX5_reduced_36 : decode cX5_reduced 36 = .ok (.getfield 81, 3) := by decide +kernel
theorem dX5_reduced_39 : decode cX5_reduced 39 = .ok (.ifCond .le 5, 3) := by decide +kernel
theorem dX5_reduced_42 : decode cX5_reduced 42 = .ok (.dconst 0, 1) := by decide +kernel
theorem dX5_reduced_43 : decode cX5_reduced 43 = .ok (.dreturn, 1) := by decide +kernel
theorem dX5_reduced_44 : decode cX5_reduced 44 = .ok (.aload_n 0, 1) := by decide +kernel
theorem dX5_reduced_45 : decode cX5_reduced 45 = .ok (.iload_n 1, 1) := by decide +kernel
theorem dX5_reduced_46 : decode cX5_reduced 46 = .ok (.iload_n 2, 1) := by decide +kernel
theorem dX5_reduced_47 : decode cX5_reduced 47 = .ok (.iload_n 3, 1) := by decide +kernel
theorem dX5_reduced_48 : decode cX5_reduced 48 = .ok (.invokevirtual 167, 3) := by decide +kernel
theorem dX5_reduced_51 : decode cX5_reduced 51 = .ok (.ifCond .ne 7, 3) := by decide +kernel
theorem dX5_reduced_54 : decode cX5_reduced 54 = .ok (.ldc2_w 171, 3) := by decide +kernel
theorem dX5_reduced_57 : decode cX5_reduced 57 = .ok (.dreturn, 1) := by decide +kernel
theorem dX5_reduced_58 : decode cX5_reduced 58 = .ok (.iconst 0, 1) := by decide +kernel
theorem dX5_reduced_59 : decode cX5_reduced 59 = .ok (.istore 4, 2) := by decide +kernel
theorem dX5_reduced_61 : decode cX5_reduced 61 = .ok (.iload 4, 2) := by decide +kernel
theorem dX5_reduced_63 : decode cX5_reduced 63 = .ok (.bipush 60, 2) := by decide +kernel
theorem dX5_reduced_65 : decode cX5_reduced 65 = .ok (.if_icmp .ge 29, 3) := by decide +kernel
theorem dX5_reduced_68 : decode cX5_reduced 68 = .ok (.aload_n 0, 1) := by decide +kernel
theorem dX5_reduced_69 : decode cX5_reduced 69 = .ok (.getfield 78, 3) := by decide +kernel
theorem dX5_reduced_72 : decode cX5_reduced 72 = .ok (.iload 4, 2) := by decide +kernel
theorem dX5_reduced_74 : decode cX5_reduced 74 = .ok (.iload 4, 2) := by decide +kernel
theorem dX5_reduced_76 : decode cX5_reduced 76 = .ok (.iload_n 2, 1) := by decide +kernel
theorem dX5_reduced_77 : decode cX5_reduced 77 = .ok (.if_icmp .ne 7, 3) := by decide +kernel
theorem dX5_reduced_80 : decode cX5_reduced 80 = .ok (.dconst 0, 1) := by decide +kernel
theorem dX5_reduced_81 : decode cX5_reduced 81 = .ok (.goto 6, 3) := by decide +kernel
theorem dX5_reduced_84 : decode cX5_reduced 84 = .ok (.ldc2_w 171, 3) := by decide +kernel
theorem dX5_reduced_87 : decode cX5_reduced 87 = .ok (.dastore, 1) := by decide +kernel
theorem dX5_reduced_88 : decode cX5_reduced 88 = .ok (.iinc 4 1, 3) := by decide +kernel
theorem dX5_reduced_91 : decode cX5_reduced 91 = .ok (.goto (-30), 3) := by decide +kernel
theorem dX5_reduced_94 : decode cX5_reduced 94 = .ok (.iconst 1, 1) := by decide +kernel
theorem dX5_reduced_95 : decode cX5_reduced 95 = .ok (.istore 4, 2) := by decide +kernel
theorem dX5_reduced_97 : decode cX5_reduced 97 = .ok (.iload 4, 2) := by decide +kernel
theorem dX5_reduced_99 : decode cX5_reduced 99 = .ok (.ifCond .eq 159, 3) := by decide +kernel
theorem dX5_reduced_102 : decode cX5_reduced 102 = .ok (.iconst 0, 1) := by decide +kernel
theorem dX5_reduced_103 : decode cX5_reduced 103 = .ok (.istore 4, 2) := by decide +kernel
theorem dX5_reduced_105 : decode cX5_reduced 105 = .ok (.iconst 0, 1) := by decide +kernel
theorem dX5_reduced_106 : decode cX5_reduced 106 = .ok (.istore 5, 2) := by decide +kernel
theorem dX5_reduced_108 : decode cX5_reduced 108 = .ok (.iload 5, 2) := by decide +kernel
theorem dX5_reduced_110 : decode cX5_reduced 110 = .ok (.aload_n 0, 1) := by decide +kernel
theorem dX5_reduced_111 : decode cX5_reduced 111 = .ok (.getfield 96, 3) := by decide +kernel
theorem dX5_reduced_114 : decode cX5_reduced 114 = .ok (.if_icmp .ge 141, 3) := by decide +kernel
theorem dX5_reduced_117 : decode cX5_reduced 117 = .ok (.aload_n 0, 1) := by decide +kernel
theorem dX5_reduced_118 : decode cX5_reduced 118 = .ok (.getfield 7, 3) := by decide +kernel
theorem dX5_reduced_121 : decode cX5_reduced 121 = .ok (.aload_n 0, 1) := by decide +kernel
theorem dX5_reduced_122 : decode cX5_reduced 122 = .ok (.getfield 13, 3) := by decide +kernel
theorem dX5_reduced_125 : decode cX5_reduced 125 = .ok (.iload 5, 2) := by decide +kernel
theorem dX5_reduced_127 : decode cX5_reduced 127 = .ok (.iaload, 1) := by decide +kernel
theorem dX5_reduced_128 : decode cX5_reduced 128 = .ok (.iaload, 1) := by decide +kernel
theorem dX5_reduced_129 : decode cX5_reduced 129 = .ok (.iload_n 1, 1) := by decide +kernel
theorem dX5_reduced_130 : decode cX5_reduced 130 = .ok (.if_icmp .ne 23, 3) := by decide +kernel
theorem dX5_reduced_133 : decode cX5_reduced 133 = .ok (.aload_n 0, 1) := by decide +kernel
theorem dX5_reduced_134 : decode cX5_reduced 134 = .ok (.getfield 7, 3) := by decide +kernel
theorem dX5_reduced_137 : decode cX5_reduced 137 = .ok (.aload_n 0, 1) := by decide +kernel
theorem dX5_reduced_138 : decode cX5_reduced 138 = .ok (.getfield 16, 3) := by decide +kernel
theorem dX5_reduced_141 : decode cX5_reduced 141 = .ok (.iload 5, 2) := by decide +kernel
theorem dX5_reduced_143 : decode cX5_reduced 143 = .ok (.iaload, 1) := by decide +kernel
theorem dX5_reduced_144 : decode cX5_reduced 144 = .ok (.iaload, 1) := by decide +kernel
theorem dX5_reduced_145 : decode cX5_reduced 145 = .ok (.iload_n 1, 1) := by decide +kernel
theorem dX5_reduced_146 : decode cX5_reduced 146 = .ok (.if_icmp .ne 7, 3) := by decide +kernel
theorem dX5_reduced_149 : decode cX5_reduced 149 = .ok (.iconst 1, 1) := by decide +kernel
theorem dX5_reduced_150 : decode cX5_reduced 150 = .ok (.goto 4, 3) := by decide +kernel
theorem dX5_reduced_153 : decode cX5_reduced 153 = .ok (.iconst 0, 1) := by decide +kernel
theorem dX5_reduced_154 : decode cX5_reduced 154 = .ok (.istore 6, 2) := by decide +kernel
theorem dX5_reduced_156 : decode cX5_reduced 156 = .ok (.iload 6, 2) := by decide +kernel
theorem dX5_reduced_158 : decode cX5_reduced 158 = .ok (.ifCond .eq 91, 3) := by decide +kernel
theorem dX5_reduced_161 : decode cX5_reduced 161 = .ok (.aload_n 0, 1) := by decide +kernel
theorem dX5_reduced_162 : decode cX5_reduced 162 = .ok (.getfield 78, 3) := by decide +kernel
theorem dX5_reduced_165 : decode cX5_reduced 165 = .ok (.aload_n 0, 1) := by decide +kernel
theorem dX5_reduced_166 : decode cX5_reduced 166 = .ok (.getfield 13, 3) := by decide +kernel
theorem dX5_reduced_169 : decode cX5_reduced 169 = .ok (.iload 5, 2) := by decide +kernel
theorem dX5_reduced_171 : decode cX5_reduced 171 = .ok (.iaload, 1) := by decide +kernel
theorem dX5_reduced_172 : decode cX5_reduced 172 = .ok (.daload, 1) := by decide +kernel
theorem dX5_reduced_173 : decode cX5_reduced 173 = .ok (.dconst 0, 1) := by decide +kernel
theorem dX5_reduced_174 : decode cX5_reduced 174 = .ok (.dcmp .l, 1) := by decide +kernel
theorem dX5_reduced_175 : decode cX5_reduced 175 = .ok (.ifCond .lt 74, 3) := by decide +kernel
theorem dX5_reduced_178 : decode cX5_reduced 178 = .ok (.aload_n 0, 1) := by decide +kernel
theorem dX5_reduced_179 : decode cX5_reduced 179 = .ok (.getfield 78, 3) := by decide +kernel
theorem dX5_reduced_182 : decode cX5_reduced 182 = .ok (.aload_n 0, 1) := by decide +kernel
theorem dX5_reduced_183 : decode cX5_reduced 183 = .ok (.getfield 13, 3) := by decide +kernel
theorem dX5_reduced_186 : decode cX5_reduced 186 = .ok (.iload 5, 2) := by decide +kernel
theorem dX5_reduced_188 : decode cX5_reduced 188 = .ok (.iaload, 1) := by decide +kernel
theorem dX5_reduced_189 : decode cX5_reduced 189 = .ok (.daload, 1) := by decide +kernel
theorem dX5_reduced_190 : decode cX5_reduced 190 = .ok (.aload_n 0, 1) := by decide +kernel
theorem dX5_reduced_191 : decode cX5_reduced 191 = .ok (.getfield 19, 3) := by decide +kernel
theorem dX5_reduced_194 : decode cX5_reduced 194 = .ok (.iload 5, 2) := by decide +kernel
theorem dX5_reduced_196 : decode cX5_reduced 196 = .ok (.daload, 1) := by decide +kernel
theorem dX5_reduced_197 : decode cX5_reduced 197 = .ok (.dadd, 1) := by decide +kernel
theorem dX5_reduced_198 : decode cX5_reduced 198 = .ok (.aload_n 0, 1) := by decide +kernel
theorem dX5_reduced_199 : decode cX5_reduced 199 = .ok (.getfield 78, 3) := by decide +kernel
theorem dX5_reduced_202 : decode cX5_reduced 202 = .ok (.aload_n 0, 1) := by decide +kernel
theorem dX5_reduced_203 : decode cX5_reduced 203 = .ok (.getfield 16, 3) := by decide +kernel
theorem dX5_reduced_206 : decode cX5_reduced 206 = .ok (.iload 5, 2) := by decide +kernel
theorem dX5_reduced_208 : decode cX5_reduced 208 = .ok (.iaload, 1) := by decide +kernel
theorem dX5_reduced_209 : decode cX5_reduced 209 = .ok (.daload, 1) := by decide +kernel
theorem dX5_reduced_210 : decode cX5_reduced 210 = .ok (.dcmp .l, 1) := by decide +kernel
theorem dX5_reduced_211 : decode cX5_reduced 211 = .ok (.ifCond .le 38, 3) := by decide +kernel
theorem dX5_reduced_214 : decode cX5_reduced 214 = .ok (.aload_n 0, 1) := by decide +kernel
theorem dX5_reduced_215 : decode cX5_reduced 215 = .ok (.getfield 78, 3) := by decide +kernel
theorem dX5_reduced_218 : decode cX5_reduced 218 = .ok (.aload_n 0, 1) := by decide +kernel
theorem dX5_reduced_219 : decode cX5_reduced 219 = .ok (.getfield 16, 3) := by decide +kernel
theorem dX5_reduced_222 : decode cX5_reduced 222 = .ok (.iload 5, 2) := by decide +kernel
theorem dX5_reduced_224 : decode cX5_reduced 224 = .ok (.iaload, 1) := by decide +kernel
theorem dX5_reduced_225 : decode cX5_reduced 225 = .ok (.aload_n 0, 1) := by decide +kernel
theorem dX5_reduced_226 : decode cX5_reduced 226 = .ok (.getfield 78, 3) := by decide +kernel
theorem dX5_reduced_229 : decode cX5_reduced 229 = .ok (.aload_n 0, 1) := by decide +kernel
theorem dX5_reduced_230 : decode cX5_reduced 230 = .ok (.getfield 13, 3) := by decide +kernel
theorem dX5_reduced_233 : decode cX5_reduced 233 = .ok (.iload 5, 2) := by decide +kernel
theorem dX5_reduced_235 : decode cX5_reduced 235 = .ok (.iaload, 1) := by decide +kernel
theorem dX5_reduced_236 : decode cX5_reduced 236 = .ok (.daload, 1) := by decide +kernel
theorem dX5_reduced_237 : decode cX5_reduced 237 = .ok (.aload_n 0, 1) := by decide +kernel
theorem dX5_reduced_238 : decode cX5_reduced 238 = .ok (.getfield 19, 3) := by decide +kernel
theorem dX5_reduced_241 : decode cX5_reduced 241 = .ok (.iload 5, 2) := by decide +kernel
theorem dX5_reduced_243 : decode cX5_reduced 243 = .ok (.daload, 1) := by decide +kernel
theorem dX5_reduced_244 : decode cX5_reduced 244 = .ok (.dadd, 1) := by decide +kernel
theorem dX5_reduced_245 : decode cX5_reduced 245 = .ok (.dastore, 1) := by decide +kernel
theorem dX5_reduced_246 : decode cX5_reduced 246 = .ok (.iconst 1, 1) := by decide +kernel
theorem dX5_reduced_247 : decode cX5_reduced 247 = .ok (.istore 4, 2) := by decide +kernel
theorem dX5_reduced_249 : decode cX5_reduced 249 = .ok (.iinc 5 1, 3) := by decide +kernel
theorem dX5_reduced_252 : decode cX5_reduced 252 = .ok (.goto (-144), 3) := by decide +kernel
theorem dX5_reduced_255 : decode cX5_reduced 255 = .ok (.goto (-158), 3) := by decide +kernel
theorem dX5_reduced_258 : decode cX5_reduced 258 = .ok (.aload_n 0, 1) := by decide +kernel
theorem dX5_reduced_259 : decode cX5_reduced 259 = .ok (.getfield 78, 3) := by decide +kernel
theorem dX5_reduced_262 : decode cX5_reduced 262 = .ok (.iload_n 3, 1) := by decide +kernel
theorem dX5_reduced_263 : decode cX5_reduced 263 = .ok (.daload, 1) := by decide +kernel
theorem dX5_reduced_264 : decode cX5_reduced 264 = .ok (.dreturn, 1) := by decide +kernel
theorem dX5_into_0 : decode cX5_into 0 = .ok (.aload_n 0, 1) := by decide +kernel
theorem dX5_into_1 : decode cX5_into 1 = .ok (.aload_n 0, 1) := by decide +kernel
theorem dX5_into_2 : decode cX5_into 2 = .ok (.iload_n 1, 1) := by decide +kernel
theorem dX5_into_3 : decode cX5_into 3 = .ok (.invokevirtual 99, 3) := by decide +kernel
theorem dX5_into_6 : decode cX5_into 6 = .ok (.ifCond .eq 14, 3) := by decide +kernel
theorem dX5_into_9 : decode cX5_into 9 = .ok (.iload_n 2, 1) := by decide +kernel
theorem dX5_into_10 : decode cX5_into 10 = .ok (.iconst (-1), 1) := by decide +kernel
theorem dX5_into_11 : decode cX5_into 11 = .ok (.if_icmp .lt 9, 3) := by decide +kernel
theorem dX5_into_14 : decode cX5_into 14 = .ok (.iload_n 2, 1) := by decide +kernel
theorem dX5_into_15 : decode cX5_into 15 = .ok (.bipush 8, 2) := by decide +kernel
theorem dX5_into_17 : decode cX5_into 17 = .ok (.if_icmp .lt 7, 3) := by decide +kernel
theorem dX5_into_20 : decode cX5_into 20 = .ok (.iconst 1, 1) := by decide +kernel
theorem dX5_into_21 : decode cX5_into 21 = .ok (.goto 4, 3) := by decide +kernel
theorem dX5_into_24 : decode cX5_into 24 = .ok (.iconst 0, 1) := by decide +kernel
theorem dX5_into_25 : decode cX5_into 25 = .ok (.putfield 81, 3) := by decide +kernel
theorem dX5_into_28 : decode cX5_into 28 = .ok (.aload_n 0, 1) := by decide +kernel
theorem dX5_into_29 : decode cX5_into 29 = .ok (.getfield 81, 3) := by decide +kernel
theorem dX5_into_32 : decode cX5_into 32 = .ok (.ifCond .gt 13, 3) := by decide +kernel
theorem dX5_into_35 : decode cX5_into 35 = .ok (.aload_n 0, 1) := by decide +kernel
theorem dX5_into_36 : decode cX5_into 36 = .ok (.getfield 7, 3) := by decide +kernel
theorem dX5_into_39 : decode cX5_into 39 = .ok (.iload_n 1, 1) := by decide +kernel
theorem dX5_into_40 : decode cX5_into 40 = .ok (.iaload, 1) := by decide +kernel
theorem dX5_into_41 : decode cX5_into 41 = .ok (.iload_n 2, 1) := by decide +kernel
theorem dX5_into_42 : decode cX5_into 42 = .ok (.if_icmp .ne 5, 3) := by decide +kernel
theorem dX5_into_45 : decode cX5_into 45 = .ok (.iconst 0, 1) := by decide +kernel
theorem dX5_into_46 : decode cX5_into 46 = .ok (.ireturn, 1) := by decide +kernel
theorem dX5_into_47 : decode cX5_into 47 = .ok (.aload_n 0, 1) := by decide +kernel
theorem dX5_into_48 : decode cX5_into 48 = .ok (.getfield 7, 3) := by decide +kernel
theorem dX5_into_51 : decode cX5_into 51 = .ok (.iload_n 1, 1) := by decide +kernel
theorem dX5_into_52 : decode cX5_into 52 = .ok (.iload_n 2, 1) := by decide +kernel
theorem dX5_into_53 : decode cX5_into 53 = .ok (.iastore, 1) := by decide +kernel
theorem dX5_into_54 : decode cX5_into 54 = .ok (.iconst 1, 1) := by decide +kernel
theorem dX5_into_55 : decode cX5_into 55 = .ok (.ireturn, 1) := by decide +kernel
theorem dX5_whatIf_0 : decode cX5_whatIf 0 = .ok (.aload_n 0, 1) := by decide +kernel
theorem dX5_whatIf_1 : decode cX5_whatIf 1 = .ok (.iload_n 1, 1) := by decide +kernel
theorem dX5_whatIf_2 : decode cX5_whatIf 2 = .ok (.ifCond .lt 11, 3) := by decide +kernel
theorem dX5_whatIf_5 : decode cX5_whatIf 5 = .ok (.iload_n 1, 1) := by decide +kernel
theorem dX5_whatIf_6 : decode cX5_whatIf 6 = .ok (.aload_n 0, 1) := by decide +kernel
theorem dX5_whatIf_7 : decode cX5_whatIf 7 = .ok (.getfield 96, 3) := by decide +kernel
theorem dX5_whatIf_10 : decode cX5_whatIf 10 = .ok (.if_icmp .lt 7, 3) := by decide +kernel
theorem dX5_whatIf_13 : decode cX5_whatIf 13 = .ok (.iconst 1, 1) := by decide +kernel
theorem dX5_whatIf_14 : decode cX5_whatIf 14 = .ok (.goto 29, 3) := by decide +kernel
theorem dX5_whatIf_17 : decode cX5_whatIf 17 = .ok (.aload_n 0, 1) := by decide +kernel
theorem dX5_whatIf_18 : decode cX5_whatIf 18 = .ok (.getfield 173, 3) := by decide +kernel
theorem dX5_whatIf_21 : decode cX5_whatIf 21 = .ok (.bipush 50, 2) := by decide +kernel
theorem dX5_whatIf_23 : decode cX5_whatIf 23 = .ok (.if_icmp .ne 7, 3) := by decide +kernel
theorem dX5_whatIf_26 : decode cX5_whatIf 26 = .ok (.iconst 2, 1) := by decide +kernel
theorem dX5_whatIf_27 : decode cX5_whatIf 27 = .ok (.goto 16, 3) := by decide +kernel
theorem dX5_whatIf_30 : decode cX5_whatIf 30 = .ok (.dload_n 2, 1) := by decide +kernel
theorem dX5_whatIf_31 : decode cX5_whatIf 31 = .ok (.dconst 0, 1) := by decide +kernel
theorem dX5_whatIf_32 : decode cX5_whatIf 32 = .ok (.invokestatic 103, 3) := by decide +kernel
theorem dX5_whatIf_35 : decode cX5_whatIf 35 = .ok (.ifCond .eq 7, 3) := by decide +kernel
theorem dX5_whatIf_38 : decode cX5_whatIf 38 = .ok (.iconst 0, 1) := by decide +kernel
theorem dX5_whatIf_39 : decode cX5_whatIf 39 = .ok (.goto 4, 3) := by decide +kernel
theorem dX5_whatIf_42 : decode cX5_whatIf 42 = .ok (.iconst 3, 1) := by decide +kernel
theorem dX5_whatIf_43 : decode cX5_whatIf 43 = .ok (.putfield 81, 3) := by decide +kernel
theorem dX5_whatIf_46 : decode cX5_whatIf 46 = .ok (.aload_n 0, 1) := by decide +kernel
theorem dX5_whatIf_47 : decode cX5_whatIf 47 = .ok (.getfield 81, 3) := by decide +kernel
theorem dX5_whatIf_50 : decode cX5_whatIf 50 = .ok (.ifCond .gt 14, 3) := by decide +kernel
theorem dX5_whatIf_53 : decode cX5_whatIf 53 = .ok (.aload_n 0, 1) := by decide +kernel
theorem dX5_whatIf_54 : decode cX5_whatIf 54 = .ok (.getfield 19, 3) := by decide +kernel
theorem dX5_whatIf_57 : decode cX5_whatIf 57 = .ok (.iload_n 1, 1) := by decide +kernel
theorem dX5_whatIf_58 : decode cX5_whatIf 58 = .ok (.daload, 1) := by decide +kernel
theorem dX5_whatIf_59 : decode cX5_whatIf 59 = .ok (.dload_n 2, 1) := by decide +kernel
theorem dX5_whatIf_60 : decode cX5_whatIf 60 = .ok (.dcmp .l, 1) := by decide +kernel
theorem dX5_whatIf_61 : decode cX5_whatIf 61 = .ok (.ifCond .ne 5, 3) := by decide +kernel
theorem dX5_whatIf_64 : decode cX5_whatIf 64 = .ok (.iconst 0, 1) := by decide +kernel
theorem dX5_whatIf_65 : decode cX5_whatIf 65 = .ok (.ireturn, 1) := by decide +kernel
theorem dX5_whatIf_66 : decode cX5_whatIf 66 = .ok (.aload_n 0, 1) := by decide +kernel
theorem dX5_whatIf_67 : decode cX5_whatIf 67 = .ok (.getfield 41, 3) := by decide +kernel
theorem dX5_whatIf_70 : decode cX5_whatIf 70 = .ok (.aload_n 0, 1) := by decide +kernel
theorem dX5_whatIf_71 : decode cX5_whatIf 71 = .ok (.getfield 173, 3) := by decide +kernel
theorem dX5_whatIf_74 : decode cX5_whatIf 74 = .ok (.iload_n 1, 1) := by decide +kernel
theorem dX5_whatIf_75 : decode cX5_whatIf 75 = .ok (.iastore, 1) := by decide +kernel
theorem dX5_whatIf_76 : decode cX5_whatIf 76 = .ok (.aload_n 0, 1) := by decide +kernel
theorem dX5_whatIf_77 : decode cX5_whatIf 77 = .ok (.getfield 44, 3) := by decide +kernel
theorem dX5_whatIf_80 : decode cX5_whatIf 80 = .ok (.aload_n 0, 1) := by decide +kernel
theorem dX5_whatIf_81 : decode cX5_whatIf 81 = .ok (.getfield 173, 3) := by decide +kernel
theorem dX5_whatIf_84 : decode cX5_whatIf 84 = .ok (.aload_n 0, 1) := by decide +kernel
theorem dX5_whatIf_85 : decode cX5_whatIf 85 = .ok (.getfield 19, 3) := by decide +kernel
theorem dX5_whatIf_88 : decode cX5_whatIf 88 = .ok (.iload_n 1, 1) := by decide +kernel
theorem dX5_whatIf_89 : decode cX5_whatIf 89 = .ok (.daload, 1) := by decide +kernel
theorem dX5_whatIf_90 : decode cX5_whatIf 90 = .ok (.dastore, 1) := by decide +kernel
theorem dX5_whatIf_91 : decode cX5_whatIf 91 = .ok (.aload_n 0, 1) := by decide +kernel
theorem dX5_whatIf_92 : decode cX5_whatIf 92 = .ok (.dup, 1) := by decide +kernel
theorem dX5_whatIf_93 : decode cX5_whatIf 93 = .ok (.getfield 173, 3) := by decide +kernel
theorem dX5_whatIf_96 : decode cX5_whatIf 96 = .ok (.iconst 1, 1) := by decide +kernel
theorem dX5_whatIf_97 : decode cX5_whatIf 97 = .ok (.iadd, 1) := by decide +kernel
theorem dX5_whatIf_98 : decode cX5_whatIf 98 = .ok (.putfield 173, 3) := by decide +kernel
theorem dX5_whatIf_101 : decode cX5_whatIf 101 = .ok (.aload_n 0, 1) := by decide +kernel
theorem dX5_whatIf_102 : decode cX5_whatIf 102 = .ok (.getfield 19, 3) := by decide +kernel
theorem dX5_whatIf_105 : decode cX5_whatIf 105 = .ok (.iload_n 1, 1) := by decide +kernel
theorem dX5_whatIf_106 : decode cX5_whatIf 106 = .ok (.dload_n 2, 1) := by decide +kernel
theorem dX5_whatIf_107 : decode cX5_whatIf 107 = .ok (.dconst 0, 1) := by decide +kernel
theorem dX5_whatIf_108 : decode cX5_whatIf 108 = .ok (.dadd, 1) := by decide +kernel
theorem dX5_whatIf_109 : decode cX5_whatIf 109 = .ok (.dastore, 1) := by decide +kernel
theorem dX5_whatIf_110 : decode cX5_whatIf 110 = .ok (.aload_n 0, 1) := by decide +kernel
theorem dX5_whatIf_111 : decode cX5_whatIf 111 = .ok (.iconst 0, 1) := by decide +kernel
theorem dX5_whatIf_112 : decode cX5_whatIf 112 = .ok (.putfield 92, 3) := by decide +kernel
theorem dX5_whatIf_115 : decode cX5_whatIf 115 = .ok (.iconst 1, 1) := by decide +kernel
theorem dX5_whatIf_116 : decode cX5_whatIf 116 = .ok (.ireturn, 1) := by decide +kernel
theorem dX5_back_0 : decode cX5_back 0 = .ok (.aload_n 0, 1) := by decide +kernel
theorem dX5_back_1 : decode cX5_back 1 = .ok (.iconst 0, 1) := by decide +kernel
theorem dX5_back_2 : decode cX5_back 2 = .ok (.putfield 81, 3) := by decide +kernel
theorem dX5_back_5 : decode cX5_back 5 = .ok (.aload_n 0, 1) := by decide +kernel
theorem dX5_back_6 : decode cX5_back 6 = .ok (.getfield 173, 3) := by decide +kernel
theorem dX5_back_9 : decode cX5_back 9 = .ok (.ifCond .ne 5, 3) := by decide +kernel
theorem dX5_back_12 : decode cX5_back 12 = .ok (.iconst 0, 1) := by decide +kernel
theorem dX5_back_13 : decode cX5_back 13 = .ok (.ireturn, 1) := by decide +kernel
theorem dX5_back_14 : decode cX5_back 14 = .ok (.aload_n 0, 1) := by decide +kernel
theorem dX5_back_15 : decode cX5_back 15 = .ok (.dup, 1) := by decide +kernel
theorem dX5_back_16 : decode cX5_back 16 = .ok (.getfield 173, 3) := by decide +kernel
theorem dX5_back_19 : decode cX5_back 19 = .ok (.iconst 1, 1) := by decide +kernel
theorem dX5_back_20 : decode cX5_back 20 = .ok (.isub, 1) := by decide +kernel
theorem dX5_back_21 : decode cX5_back 21 = .ok (.putfield 173, 3) := by decide +kernel
theorem dX5_back_24 : decode cX5_back 24 = .ok (.aload_n 0, 1) := by decide +kernel
theorem dX5_back_25 : decode cX5_back 25 = .ok (.getfield 19, 3) := by decide +kernel
theorem dX5_back_28 : decode cX5_back 28 = .ok (.aload_n 0, 1) := by decide +kernel
theorem dX5_back_29 : decode cX5_back 29 = .ok (.getfield 41, 3) := by decide +kernel
theorem dX5_back_32 : decode cX5_back 32 = .ok (.aload_n 0, 1) := by decide +kernel
theorem dX5_back_33 : decode cX5_back 33 = .ok (.getfield 173, 3) := by decide +kernel
theorem dX5_back_36 : decode cX5_back 36 = .ok (.iaload, 1) := by decide +kernel
theorem dX5_back_37 : decode cX5_back 37 = .ok (.aload_n 0, 1) := by decide +kernel
theorem dX5_back_38 : decode cX5_back 38 = .ok (.getfield 44, 3) := by decide +kernel
theorem dX5_back_41 : decode cX5_back 41 = .ok (.aload_n 0, 1) := by decide +kernel
theorem dX5_back_42 : decode cX5_back 42 = .ok (.getfield 173, 3) := by decide +kernel
theorem dX5_back_45 : decode cX5_back 45 = .ok (.daload, 1) := by decide +kernel
theorem dX5_back_46 : decode cX5_back 46 = .ok (.dastore, 1) := by decide +kernel
theorem dX5_back_47 : decode cX5_back 47 = .ok (.aload_n 0, 1) := by decide +kernel
theorem dX5_back_48 : decode cX5_back 48 = .ok (.iconst 0, 1) := by decide +kernel
theorem dX5_back_49 : decode cX5_back 49 = .ok (.putfield 92, 3) := by decide +kernel
theorem dX5_back_52 : decode cX5_back 52 = .ok (.iconst 1, 1) := by decide +kernel
theorem dX5_back_53 : decode cX5_back 53 = .ok (.ireturn, 1) := by decide +kernel
theorem dJ9_max_7cf53_0 : decode cJ9_max_7cf53 0 = .ok (.iload_n 0, 1) := by decide +kernel
theorem dJ9_max_7cf53_1 : decode cJ9_max_7cf53 1 = .ok (.iload_n 1, 1) := by decide +kernel
theorem dJ9_max_7cf53_2 : decode cJ9_max_7cf53 2 = .ok (.if_icmp .lt 7, 3) := by decide +kernel
theorem dJ9_max_7cf53_5 : decode cJ9_max_7cf53 5 = .ok (.iload_n 0, 1) := by decide +kernel
theorem dJ9_max_7cf53_6 : decode cJ9_max_7cf53 6 = .ok (.goto 4, 3) := by decide +kernel
theorem dJ9_max_7cf53_9 : decode cJ9_max_7cf53 9 = .ok (.iload_n 1, 1) := by decide +kernel
theorem dJ9_max_7cf53_10 : decode cJ9_max_7cf53 10 = .ok (.ireturn, 1) := by decide +kernel
theorem dJ9_min_7cf53_0 : decode cJ9_min_7cf53 0 = .ok (.iload_n 0, 1) := by decide +kernel
theorem dJ9_min_7cf53_1 : decode cJ9_min_7cf53 1 = .ok (.iload_n 1, 1) := by decide +kernel
theorem dJ9_min_7cf53_2 : decode cJ9_min_7cf53 2 = .ok (.if_icmp .gt 7, 3) := by decide +kernel
theorem dJ9_min_7cf53_5 : decode cJ9_min_7cf53 5 = .ok (.iload_n 0, 1) := by decide +kernel
theorem dJ9_min_7cf53_6 : decode cJ9_min_7cf53 6 = .ok (.goto 4, 3) := by decide +kernel
theorem dJ9_min_7cf53_9 : decode cJ9_min_7cf53 9 = .ok (.iload_n 1, 1) := by decide +kernel
theorem dJ9_min_7cf53_10 : decode cJ9_min_7cf53 10 = .ok (.ireturn, 1) := by decide +kernel
theorem dJxa1e45_init_da8c8_0 : decode cJxa1e45_init_da8c8 0 = .ok (.aload_n 0, 1) := by decide +kernel
theorem dJxa1e45_init_da8c8_1 : decode cJxa1e45_init_da8c8 1 = .ok (.invokespecial 1, 3) := by decide +kernel
theorem dJxa1e45_init_da8c8_4 : decode cJxa1e45_init_da8c8 4 = .ok (.return_, 1) := by decide +kernel
theorem dJxc12de_init_da8c8_0 : decode cJxc12de_init_da8c8 0 = .ok (.aload_n 0, 1) := by decide +kernel
theorem dJxc12de_init_da8c8_1 : decode cJxc12de_init_da8c8 1 = .ok (.invokespecial 1, 3) := by decide +kernel
theorem dJxc12de_init_da8c8_4 : decode cJxc12de_init_da8c8 4 = .ok (.aload_n 0, 1) := by decide +kernel
theorem dJxc12de_init_da8c8_5 : decode cJxc12de_init_da8c8 5 = .ok (.iconst 0, 1) := by decide +kernel
theorem dJxc12de_init_da8c8_6 : decode cJxc12de_init_da8c8 6 = .ok (.putfield 7, 3) := by decide +kernel
theorem dJxc12de_init_da8c8_9 : decode cJxc12de_init_da8c8 9 = .ok (.return_, 1) := by decide +kernel
theorem dJx4a65c_init_da8c8_0 : decode cJx4a65c_init_da8c8 0 = .ok (.aload_n 0, 1) := by decide +kernel
theorem dJx4a65c_init_da8c8_1 : decode cJx4a65c_init_da8c8 1 = .ok (.invokespecial 1, 3) := by decide +kernel
theorem dJx4a65c_init_da8c8_4 : decode cJx4a65c_init_da8c8 4 = .ok (.aload_n 0, 1) := by decide +kernel
theorem dJx4a65c_init_da8c8_5 : decode cJx4a65c_init_da8c8 5 = .ok (.getstatic 39, 3) := by decide +kernel
theorem dJx4a65c_init_da8c8_8 : decode cJx4a65c_init_da8c8 8 = .ok (.putfield 9, 3) := by decide +kernel
theorem dJx4a65c_init_da8c8_11 : decode cJx4a65c_init_da8c8 11 = .ok (.return_, 1) := by decide +kernel
theorem dJx4a65c_grow_92f84_0 : decode cJx4a65c_grow_92f84 0 = .ok (.aload_n 0, 1) := by decide +kernel
theorem dJx4a65c_grow_92f84_1 : decode cJx4a65c_grow_92f84 1 = .ok (.getfield 9, 3) := by decide +kernel
theorem dJx4a65c_grow_92f84_4 : decode cJx4a65c_grow_92f84 4 = .ok (.arraylength, 1) := by decide +kernel
theorem dJx4a65c_grow_92f84_5 : decode cJx4a65c_grow_92f84 5 = .ok (.istore_n 2, 1) := by decide +kernel
theorem dJx4a65c_grow_92f84_6 : decode cJx4a65c_grow_92f84 6 = .ok (.iload_n 2, 1) := by decide +kernel
theorem dJx4a65c_grow_92f84_7 : decode cJx4a65c_grow_92f84 7 = .ok (.ifCond .gt 13, 3) := by decide +kernel
theorem dJx4a65c_grow_92f84_10 : decode cJx4a65c_grow_92f84 10 = .ok (.aload_n 0, 1) := by decide +kernel
theorem dJx4a65c_grow_92f84_11 : decode cJx4a65c_grow_92f84 11 = .ok (.getfield 9, 3) := by decide +kernel
theorem dJx4a65c_grow_92f84_14 : decode cJx4a65c_grow_92f84 14 = .ok (.getstatic 39, 3) := by decide +kernel
theorem dJx4a65c_grow_92f84_17 : decode cJx4a65c_grow_92f84 17 = .ok (.if_acmp .eq 28, 3) := by decide +kernel
theorem dJx4a65c_grow_92f84_20 : decode cJx4a65c_grow_92f84 20 = .ok (.iload_n 2, 1) := by decide +kernel
theorem dJx4a65c_grow_92f84_21 : decode cJx4a65c_grow_92f84 21 = .ok (.iload_n 1, 1) := by decide +kernel
theorem dJx4a65c_grow_92f84_22 : decode cJx4a65c_grow_92f84 22 = .ok (.iload_n 2, 1) := by decide +kernel
theorem dJx4a65c_grow_92f84_23 : decode cJx4a65c_grow_92f84 23 = .ok (.isub, 1) := by decide +kernel
theorem dJx4a65c_grow_92f84_24 : decode cJx4a65c_grow_92f84 24 = .ok (.iload_n 2, 1) := by decide +kernel
theorem dJx4a65c_grow_92f84_25 : decode cJx4a65c_grow_92f84 25 = .ok (.iconst 1, 1) := by decide +kernel
theorem dJx4a65c_grow_92f84_26 : decode cJx4a65c_grow_92f84 26 = .ok (.ishr, 1) := by decide +kernel
theorem dJx4a65c_grow_92f84_27 : decode cJx4a65c_grow_92f84 27 = .ok (.invokestatic 73, 3) := by decide +kernel
theorem dJx4a65c_grow_92f84_30 : decode cJx4a65c_grow_92f84 30 = .ok (.istore_n 3, 1) := by decide +kernel
theorem dJx4a65c_grow_92f84_31 : decode cJx4a65c_grow_92f84 31 = .ok (.aload_n 0, 1) := by decide +kernel
theorem dJx4a65c_grow_92f84_32 : decode cJx4a65c_grow_92f84 32 = .ok (.aload_n 0, 1) := by decide +kernel
theorem dJx4a65c_grow_92f84_33 : decode cJx4a65c_grow_92f84 33 = .ok (.getfield 9, 3) := by decide +kernel
theorem dJx4a65c_grow_92f84_36 : decode cJx4a65c_grow_92f84 36 = .ok (.iload_n 3, 1) := by decide +kernel
theorem dJx4a65c_grow_92f84_37 : decode cJx4a65c_grow_92f84 37 = .ok (.invokestatic 66, 3) := by decide +kernel
theorem dJx4a65c_grow_92f84_40 : decode cJx4a65c_grow_92f84 40 = .ok (.dup_x1, 1) := by decide +kernel
theorem dJx4a65c_grow_92f84_41 : decode cJx4a65c_grow_92f84 41 = .ok (.putfield 9, 3) := by decide +kernel
theorem dJx4a65c_grow_92f84_44 : decode cJx4a65c_grow_92f84 44 = .ok (.areturn, 1) := by decide +kernel
theorem dJx4a65c_grow_92f84_45 : decode cJx4a65c_grow_92f84 45 = .ok (.aload_n 0, 1) := by decide +kernel
theorem dJx4a65c_grow_92f84_46 : decode cJx4a65c_grow_92f84 46 = .ok (.bipush 10, 2) := by decide +kernel
theorem dJx4a65c_grow_92f84_48 : decode cJx4a65c_grow_92f84 48 = .ok (.iload_n 1, 1) := by decide +kernel
theorem dJx4a65c_grow_92f84_49 : decode cJx4a65c_grow_92f84 49 = .ok (.invokestatic 79, 3) := by decide +kernel
theorem dJx4a65c_grow_92f84_52 : decode cJx4a65c_grow_92f84 52 = .ok (.anewarray 7, 3) := by decide +kernel
theorem dJx4a65c_grow_92f84_55 : decode cJx4a65c_grow_92f84 55 = .ok (.dup_x1, 1) := by decide +kernel
theorem dJx4a65c_grow_92f84_56 : decode cJx4a65c_grow_92f84 56 = .ok (.putfield 9, 3) := by decide +kernel
theorem dJx4a65c_grow_92f84_59 : decode cJx4a65c_grow_92f84 59 = .ok (.areturn, 1) := by decide +kernel
theorem dJx4a65c_grow_d5877_0 : decode cJx4a65c_grow_d5877 0 = .ok (.aload_n 0, 1) := by decide +kernel
theorem dJx4a65c_grow_d5877_1 : decode cJx4a65c_grow_d5877 1 = .ok (.aload_n 0, 1) := by decide +kernel
theorem dJx4a65c_grow_d5877_2 : decode cJx4a65c_grow_d5877 2 = .ok (.getfield 48, 3) := by decide +kernel
theorem dJx4a65c_grow_d5877_5 : decode cJx4a65c_grow_d5877 5 = .ok (.iconst 1, 1) := by decide +kernel
theorem dJx4a65c_grow_d5877_6 : decode cJx4a65c_grow_d5877 6 = .ok (.iadd, 1) := by decide +kernel
theorem dJx4a65c_grow_d5877_7 : decode cJx4a65c_grow_d5877 7 = .ok (.invokevirtual 69, 3) := by decide +kernel
theorem dJx4a65c_grow_d5877_10 : decode cJx4a65c_grow_d5877 10 = .ok (.areturn, 1) := by decide +kernel
theorem dJx4a65c_size_8abf5_0 : decode cJx4a65c_size_8abf5 0 = .ok (.aload_n 0, 1) := by decide +kernel
theorem dJx4a65c_size_8abf5_1 : decode cJx4a65c_size_8abf5 1 = .ok (.getfield 48, 3) := by decide +kernel
theorem dJx4a65c_size_8abf5_4 : decode cJx4a65c_size_8abf5 4 = .ok (.ireturn, 1) := by decide +kernel
theorem dJx4a65c_isEmpty_aae02_0 : decode cJx4a65c_isEmpty_aae02 0 = .ok (.aload_n 0, 1) := by decide +kernel
theorem dJx4a65c_isEmpty_aae02_1 : decode cJx4a65c_isEmpty_aae02 1 = .ok (.getfield 48, 3) := by decide +kernel
theorem dJx4a65c_isEmpty_aae02_4 : decode cJx4a65c_isEmpty_aae02 4 = .ok (.ifCond .ne 7, 3) := by decide +kernel
theorem dJx4a65c_isEmpty_aae02_7 : decode cJx4a65c_isEmpty_aae02 7 = .ok (.iconst 1, 1) := by decide +kernel
theorem dJx4a65c_isEmpty_aae02_8 : decode cJx4a65c_isEmpty_aae02 8 = .ok (.goto 4, 3) := by decide +kernel
theorem dJx4a65c_isEmpty_aae02_11 : decode cJx4a65c_isEmpty_aae02 11 = .ok (.iconst 0, 1) := by decide +kernel
theorem dJx4a65c_isEmpty_aae02_12 : decode cJx4a65c_isEmpty_aae02 12 = .ok (.ireturn, 1) := by decide +kernel
theorem dJx4a65c_elementData_915e3_0 : decode cJx4a65c_elementData_915e3 0 = .ok (.aload_n 0, 1) := by decide +kernel
theorem dJx4a65c_elementData_915e3_1 : decode cJx4a65c_elementData_915e3 1 = .ok (.getfield 9, 3) := by decide +kernel
theorem dJx4a65c_elementData_915e3_4 : decode cJx4a65c_elementData_915e3 4 = .ok (.iload_n 1, 1) := by decide +kernel
theorem dJx4a65c_elementData_915e3_5 : decode cJx4a65c_elementData_915e3 5 = .ok (.aaload, 1) := by decide +kernel
theorem dJx4a65c_elementData_915e3_6 : decode cJx4a65c_elementData_915e3 6 = .ok (.areturn, 1) := by decide +kernel
theorem dJx4a65c_get_915e3_0 : decode cJx4a65c_get_915e3 0 = .ok (.iload_n 1, 1) := by decide +kernel
theorem dJx4a65c_get_915e3_1 : decode cJx4a65c_get_915e3 1 = .ok (.aload_n 0, 1) := by decide +kernel
theorem dJx4a65c_get_915e3_2 : decode cJx4a65c_get_915e3 2 = .ok (.getfield 48, 3) := by decide +kernel
theorem dJx4a65c_get_915e3_5 : decode cJx4a65c_get_915e3 5 = .ok (.invokestatic 118, 3) := by decide +kernel
theorem dJx4a65c_get_915e3_8 : decode cJx4a65c_get_915e3 8 = .ok (.pop, 1) := by decide +kernel
theorem dJx4a65c_get_915e3_9 : decode cJx4a65c_get_915e3 9 = .ok (.aload_n 0, 1) := by decide +kernel
theorem dJx4a65c_get_915e3_10 : decode cJx4a65c_get_915e3 10 = .ok (.iload_n 1, 1) := by decide +kernel
theorem dJx4a65c_get_915e3_11 : decode cJx4a65c_get_915e3 11 = .ok (.invokevirtual 123, 3) := by decide +kernel
theorem dJx4a65c_get_915e3_14 : decode cJx4a65c_get_915e3 14 = .ok (.areturn, 1) := by decide +kernel
theorem dJx4a65c_add_72be8_0 : decode cJx4a65c_add_72be8 0 = .ok (.iload_n 3, 1) := by decide +kernel
theorem dJx4a65c_add_72be8_1 : decode cJx4a65c_add_72be8 1 = .ok (.aload_n 2, 1) := by decide +kernel
theorem dJx4a65c_add_72be8_2 : decode cJx4a65c_add_72be8 2 = .ok (.arraylength, 1) := by decide +kernel
theorem dJx4a65c_add_72be8_3 : decode cJx4a65c_add_72be8 3 = .ok (.if_icmp .ne 8, 3) := by decide +kernel
theorem dJx4a65c_add_72be8_6 : decode cJx4a65c_add_72be8 6 = .ok (.aload_n 0, 1) := by decide +kernel
theorem dJx4a65c_add_72be8_7 : decode cJx4a65c_add_72be8 7 = .ok (.invokevirtual 129, 3) := by decide +kernel
theorem dJx4a65c_add_72be8_10 : decode cJx4a65c_add_72be8 10 = .ok (.astore_n 2, 1) := by decide +kernel
theorem dJx4a65c_add_72be8_11 : decode cJx4a65c_add_72be8 11 = .ok (.aload_n 2, 1) := by decide +kernel
theorem dJx4a65c_add_72be8_12 : decode cJx4a65c_add_72be8 12 = .ok (.iload_n 3, 1) := by decide +kernel
theorem dJx4a65c_add_72be8_13 : decode cJx4a65c_add_72be8 13 = .ok (.aload_n 1, 1) := by decide +kernel
theorem dJx4a65c_add_72be8_14 : decode cJx4a65c_add_72be8 14 = .ok (.aastore, 1) := by decide +kernel
theorem dJx4a65c_add_72be8_15 : decode cJx4a65c_add_72be8 15 = .ok (.aload_n 0, 1) := by decide +kernel
theorem dJx4a65c_add_72be8_16 : decode cJx4a65c_add_72be8 16 = .ok (.iload_n 3, 1) := by decide +kernel
theorem dJx4a65c_add_72be8_17 : decode cJx4a65c_add_72be8 17 = .ok (.iconst 1, 1) := by decide +kernel
theorem dJx4a65c_add_72be8_18 : decode cJx4a65c_add_72be8 18 = .ok (.iadd, 1) := by decide +kernel
theorem dJx4a65c_add_72be8_19 : decode cJx4a65c_add_72be8 19 = .ok (.putfield 48, 3) := by decide +kernel
theorem dJx4a65c_add_72be8_22 : decode cJx4a65c_add_72be8 22 = .ok (.return_, 1) := by decide +kernel
theorem dJx4a65c_add_9ea2d_0 : decode cJx4a65c_add_9ea2d 0 = .ok (.aload_n 0, 1) := by decide +kernel
theorem dJx4a65c_add_9ea2d_1 : decode cJx4a65c_add_9ea2d 1 = .ok (.dup, 1) := by decide +kernel
theorem dJx4a65c_add_9ea2d_2 : decode cJx4a65c_add_9ea2d 2 = .ok (.getfield 63, 3) := by decide +kernel
theorem dJx4a65c_add_9ea2d_5 : decode cJx4a65c_add_9ea2d 5 = .ok (.iconst 1, 1) := by decide +kernel
theorem dJx4a65c_add_9ea2d_6 : decode cJx4a65c_add_9ea2d 6 = .ok (.iadd, 1) := by decide +kernel
theorem dJx4a65c_add_9ea2d_7 : decode cJx4a65c_add_9ea2d 7 = .ok (.putfield 63, 3) := by decide +kernel
theorem dJx4a65c_add_9ea2d_10 : decode cJx4a65c_add_9ea2d 10 = .ok (.aload_n 0, 1) := by decide +kernel
theorem dJx4a65c_add_9ea2d_11 : decode cJx4a65c_add_9ea2d 11 = .ok (.aload_n 1, 1) := by decide +kernel
theorem dJx4a65c_add_9ea2d_12 : decode cJx4a65c_add_9ea2d 12 = .ok (.aload_n 0, 1) := by decide +kernel
theorem dJx4a65c_add_9ea2d_13 : decode cJx4a65c_add_9ea2d 13 = .ok (.getfield 9, 3) := by decide +kernel
theorem dJx4a65c_add_9ea2d_16 : decode cJx4a65c_add_9ea2d 16 = .ok (.aload_n 0, 1) := by decide +kernel
theorem dJx4a65c_add_9ea2d_17 : decode cJx4a65c_add_9ea2d 17 = .ok (.getfield 48, 3) := by decide +kernel
theorem dJx4a65c_add_9ea2d_20 : decode cJx4a65c_add_9ea2d 20 = .ok (.invokevirtual 131, 3) := by decide +kernel
theorem dJx4a65c_add_9ea2d_23 : decode cJx4a65c_add_9ea2d 23 = .ok (.iconst 1, 1) := by decide +kernel
theorem dJx4a65c_add_9ea2d_24 : decode cJx4a65c_add_9ea2d 24 = .ok (.ireturn, 1) := by decide +kernel
theorem dJx4a65c_add_7a177_0 : decode cJx4a65c_add_7a177 0 = .ok (.aload_n 0, 1) := by decide +kernel
theorem dJx4a65c_add_7a177_1 : decode cJx4a65c_add_7a177 1 = .ok (.iload_n 1, 1) := by decide +kernel
theorem dJx4a65c_add_7a177_2 : decode cJx4a65c_add_7a177 2 = .ok (.invokevirtual 135, 3) := by decide +kernel
theorem dJx4a65c_add_7a177_5 : decode cJx4a65c_add_7a177 5 = .ok (.aload_n 0, 1) := by decide +kernel
theorem dJx4a65c_add_7a177_6 : decode cJx4a65c_add_7a177 6 = .ok (.dup, 1) := by decide +kernel
theorem dJx4a65c_add_7a177_7 : decode cJx4a65c_add_7a177 7 = .ok (.getfield 63, 3) := by decide +kernel
theorem dJx4a65c_add_7a177_10 : decode cJx4a65c_add_7a177 10 = .ok (.iconst 1, 1) := by decide +kernel
theorem dJx4a65c_add_7a177_11 : decode cJx4a65c_add_7a177 11 = .ok (.iadd, 1) := by decide +kernel
theorem dJx4a65c_add_7a177_12 : decode cJx4a65c_add_7a177 12 = .ok (.putfield 63, 3) := by decide +kernel
theorem dJx4a65c_add_7a177_15 : decode cJx4a65c_add_7a177 15 = .ok (.aload_n 0, 1) := by decide +kernel
theorem dJx4a65c_add_7a177_16 : decode cJx4a65c_add_7a177 16 = .ok (.getfield 48, 3) := by decide +kernel
theorem dJx4a65c_add_7a177_19 : decode cJx4a65c_add_7a177 19 = .ok (.dup, 1) := by decide +kernel
theorem dJx4a65c_add_7a177_20 : decode cJx4a65c_add_7a177 20 = .ok (.istore_n 3, 1) := by decide +kernel
theorem dJx4a65c_add_7a177_21 : decode cJx4a65c_add_7a177 21 = .ok (.aload_n 0, 1) := by decide +kernel
theorem dJx4a65c_add_7a177_22 : decode cJx4a65c_add_7a177 22 = .ok (.getfield 9, 3) := by decide +kernel
theorem dJx4a65c_add_7a177_25 : decode cJx4a65c_add_7a177 25 = .ok (.dup, 1) := by decide +kernel
theorem dJx4a65c_add_7a177_26 : decode cJx4a65c_add_7a177 26 = .ok (.astore 4, 2) := by decide +kernel
theorem dJx4a65c_add_7a177_28 : decode cJx4a65c_add_7a177 28 = .ok (.arraylength, 1) := by decide +kernel
theorem dJx4a65c_add_7a177_29 : decode cJx4a65c_add_7a177 29 = .ok (.if_icmp .ne 9, 3) := by decide +kernel
theorem dJx4a65c_add_7a177_32 : decode cJx4a65c_add_7a177 32 = .ok (.aload_n 0, 1) := by decide +kernel
theorem dJx4a65c_add_7a177_33 : decode cJx4a65c_add_7a177 33 = .ok (.invokevirtual 129, 3) := by decide +kernel
theorem dJx4a65c_add_7a177_36 : decode cJx4a65c_add_7a177 36 = .ok (.astore 4, 2) := by decide +kernel
theorem dJx4a65c_add_7a177_38 : decode cJx4a65c_add_7a177 38 = .ok (.aload 4, 2) := by decide +kernel
theorem dJx4a65c_add_7a177_40 : decode cJx4a65c_add_7a177 40 = .ok (.iload_n 1, 1) := by decide +kernel
theorem dJx4a65c_add_7a177_41 : decode cJx4a65c_add_7a177 41 = .ok (.aload 4, 2) := by decide +kernel
theorem dJx4a65c_add_7a177_43 : decode cJx4a65c_add_7a177 43 = .ok (.iload_n 1, 1) := by decide +kernel
theorem dJx4a65c_add_7a177_44 : decode cJx4a65c_add_7a177 44 = .ok (.iconst 1, 1) := by decide +kernel
theorem dJx4a65c_add_7a177_45 : decode cJx4a65c_add_7a177 45 = .ok (.iadd, 1) := by decide +kernel
theorem dJx4a65c_add_7a177_46 : decode cJx4a65c_add_7a177 46 = .ok (.iload_n 3, 1) := by decide +kernel
theorem dJx4a65c_add_7a177_47 : decode cJx4a65c_add_7a177 47 = .ok (.iload_n 1, 1) := by decide +kernel
theorem dJx4a65c_add_7a177_48 : decode cJx4a65c_add_7a177 48 = .ok (.isub, 1) := by decide +kernel
theorem dJx4a65c_add_7a177_49 : decode cJx4a65c_add_7a177 49 = .ok (.invokestatic 112, 3) := by decide +kernel
theorem dJx4a65c_add_7a177_52 : decode cJx4a65c_add_7a177 52 = .ok (.aload 4, 2) := by decide +kernel
theorem dJx4a65c_add_7a177_54 : decode cJx4a65c_add_7a177 54 = .ok (.iload_n 1, 1) := by decide +kernel
theorem dJx4a65c_add_7a177_55 : decode cJx4a65c_add_7a177 55 = .ok (.aload_n 2, 1) := by decide +kernel
theorem dJx4a65c_add_7a177_56 : decode cJx4a65c_add_7a177 56 = .ok (.aastore, 1) := by decide +kernel
theorem dJx4a65c_add_7a177_57 : decode cJx4a65c_add_7a177 57 = .ok (.aload_n 0, 1) := by decide +kernel
theorem dJx4a65c_add_7a177_58 : decode cJx4a65c_add_7a177 58 = .ok (.iload_n 3, 1) := by decide +kernel
theorem dJx4a65c_add_7a177_59 : decode cJx4a65c_add_7a177 59 = .ok (.iconst 1, 1) := by decide +kernel
theorem dJx4a65c_add_7a177_60 : decode cJx4a65c_add_7a177 60 = .ok (.iadd, 1) := by decide +kernel
theorem dJx4a65c_add_7a177_61 : decode cJx4a65c_add_7a177 61 = .ok (.putfield 48, 3) := by decide +kernel
theorem dJx4a65c_add_7a177_64 : decode cJx4a65c_add_7a177 64 = .ok (.return_, 1) := by decide +kernel
theorem dJx4a65c_remove_915e3_0 : decode cJx4a65c_remove_915e3 0 = .ok (.iload_n 1, 1) := by decide +kernel
theorem dJx4a65c_remove_915e3_1 : decode cJx4a65c_remove_915e3 1 = .ok (.aload_n 0, 1) := by decide +kernel
theorem dJx4a65c_remove_915e3_2 : decode cJx4a65c_remove_915e3 2 = .ok (.getfield 48, 3) := by decide +kernel
theorem dJx4a65c_remove_915e3_5 : decode cJx4a65c_remove_915e3 5 = .ok (.invokestatic 118, 3) := by decide +kernel
theorem dJx4a65c_remove_915e3_8 : decode cJx4a65c_remove_915e3 8 = .ok (.pop, 1) := by decide +kernel
theorem dJx4a65c_remove_915e3_9 : decode cJx4a65c_remove_915e3 9 = .ok (.aload_n 0, 1) := by decide +kernel
theorem dJx4a65c_remove_915e3_10 : decode cJx4a65c_remove_915e3 10 = .ok (.getfield 9, 3) := by decide +kernel
theorem dJx4a65c_remove_915e3_13 : decode cJx4a65c_remove_915e3 13 = .ok (.astore_n 2, 1) := by decide +kernel
theorem dJx4a65c_remove_915e3_14 : decode cJx4a65c_remove_915e3 14 = .ok (.aload_n 2, 1) := by decide +kernel
theorem dJx4a65c_remove_915e3_15 : decode cJx4a65c_remove_915e3 15 = .ok (.iload_n 1, 1) := by decide +kernel
theorem dJx4a65c_remove_915e3_16 : decode cJx4a65c_remove_915e3 16 = .ok (.aaload, 1) := by decide +kernel
theorem dJx4a65c_remove_915e3_17 : decode cJx4a65c_remove_915e3 17 = .ok (.astore_n 3, 1) := by decide +kernel
theorem dJx4a65c_remove_915e3_18 : decode cJx4a65c_remove_915e3 18 = .ok (.aload_n 0, 1) := by decide +kernel
theorem dJx4a65c_remove_915e3_19 : decode cJx4a65c_remove_915e3 19 = .ok (.aload_n 2, 1) := by decide +kernel
theorem dJx4a65c_remove_915e3_20 : decode cJx4a65c_remove_915e3 20 = .ok (.iload_n 1, 1) := by decide +kernel
theorem dJx4a65c_remove_915e3_21 : decode cJx4a65c_remove_915e3 21 = .ok (.invokevirtual 144, 3) := by decide +kernel
theorem dJx4a65c_remove_915e3_24 : decode cJx4a65c_remove_915e3 24 = .ok (.aload_n 3, 1) := by decide +kernel
theorem dJx4a65c_remove_915e3_25 : decode cJx4a65c_remove_915e3 25 = .ok (.areturn, 1) := by decide +kernel
theorem dJx4a65c_fastRemove_b59b0_0 : decode cJx4a65c_fastRemove_b59b0 0 = .ok (.aload_n 0, 1) := by decide +kernel
theorem dJx4a65c_fastRemove_b59b0_1 : decode cJx4a65c_fastRemove_b59b0 1 = .ok (.dup, 1) := by decide +kernel
theorem dJx4a65c_fastRemove_b59b0_2 : decode cJx4a65c_fastRemove_b59b0 2 = .ok (.getfield 63, 3) := by decide +kernel
theorem dJx4a65c_fastRemove_b59b0_5 : decode cJx4a65c_fastRemove_b59b0 5 = .ok (.iconst 1, 1) := by decide +kernel
theorem dJx4a65c_fastRemove_b59b0_6 : decode cJx4a65c_fastRemove_b59b0 6 = .ok (.iadd, 1) := by decide +kernel
theorem dJx4a65c_fastRemove_b59b0_7 : decode cJx4a65c_fastRemove_b59b0 7 = .ok (.putfield 63, 3) := by decide +kernel
theorem dJx4a65c_fastRemove_b59b0_10 : decode cJx4a65c_fastRemove_b59b0 10 = .ok (.aload_n 0, 1) := by decide +kernel
theorem dJx4a65c_fastRemove_b59b0_11 : decode cJx4a65c_fastRemove_b59b0 11 = .ok (.getfield 48, 3) := by decide +kernel
theorem dJx4a65c_fastRemove_b59b0_14 : decode cJx4a65c_fastRemove_b59b0 14 = .ok (.iconst 1, 1) := by decide +kernel
theorem dJx4a65c_fastRemove_b59b0_15 : decode cJx4a65c_fastRemove_b59b0 15 = .ok (.isub, 1) := by decide +kernel
theorem dJx4a65c_fastRemove_b59b0_16 : decode cJx4a65c_fastRemove_b59b0 16 = .ok (.dup, 1) := by decide +kernel
theorem dJx4a65c_fastRemove_b59b0_17 : decode cJx4a65c_fastRemove_b59b0 17 = .ok (.istore_n 3, 1) := by decide +kernel
theorem dJx4a65c_fastRemove_b59b0_18 : decode cJx4a65c_fastRemove_b59b0 18 = .ok (.iload_n 2, 1) := by decide +kernel
theorem dJx4a65c_fastRemove_b59b0_19 : decode cJx4a65c_fastRemove_b59b0 19 = .ok (.if_icmp .le 15, 3) := by decide +kernel
theorem dJx4a65c_fastRemove_b59b0_22 : decode cJx4a65c_fastRemove_b59b0 22 = .ok (.aload_n 1, 1) := by decide +kernel
theorem dJx4a65c_fastRemove_b59b0_23 : decode cJx4a65c_fastRemove_b59b0 23 = .ok (.iload_n 2, 1) := by decide +kernel
theorem dJx4a65c_fastRemove_b59b0_24 : decode cJx4a65c_fastRemove_b59b0 24 = .ok (.iconst 1, 1) := by decide +kernel
theorem dJx4a65c_fastRemove_b59b0_25 : decode cJx4a65c_fastRemove_b59b0 25 = .ok (.iadd, 1) := by decide +kernel
theorem dJx4a65c_fastRemove_b59b0_26 : decode cJx4a65c_fastRemove_b59b0 26 = .ok (.aload_n 1, 1) := by decide +kernel
theorem dJx4a65c_fastRemove_b59b0_27 : decode cJx4a65c_fastRemove_b59b0 27 = .ok (.iload_n 2, 1) := by decide +kernel
theorem dJx4a65c_fastRemove_b59b0_28 : decode cJx4a65c_fastRemove_b59b0 28 = .ok (.iload_n 3, 1) := by decide +kernel
theorem dJx4a65c_fastRemove_b59b0_29 : decode cJx4a65c_fastRemove_b59b0 29 = .ok (.iload_n 2, 1) := by decide +kernel
theorem dJx4a65c_fastRemove_b59b0_30 : decode cJx4a65c_fastRemove_b59b0 30 = .ok (.isub, 1) := by decide +kernel
theorem dJx4a65c_fastRemove_b59b0_31 : decode cJx4a65c_fastRemove_b59b0 31 = .ok (.invokestatic 112, 3) := by decide +kernel
theorem dJx4a65c_fastRemove_b59b0_34 : decode cJx4a65c_fastRemove_b59b0 34 = .ok (.aload_n 1, 1) := by decide +kernel
theorem dJx4a65c_fastRemove_b59b0_35 : decode cJx4a65c_fastRemove_b59b0 35 = .ok (.aload_n 0, 1) := by decide +kernel
theorem dJx4a65c_fastRemove_b59b0_36 : decode cJx4a65c_fastRemove_b59b0 36 = .ok (.iload_n 3, 1) := by decide +kernel
theorem dJx4a65c_fastRemove_b59b0_37 : decode cJx4a65c_fastRemove_b59b0 37 = .ok (.dup_x1, 1) := by decide +kernel
theorem dJx4a65c_fastRemove_b59b0_38 : decode cJx4a65c_fastRemove_b59b0 38 = .ok (.putfield 48, 3) := by decide +kernel
theorem dJx4a65c_fastRemove_b59b0_41 : decode cJx4a65c_fastRemove_b59b0 41 = .ok (.aconst_null, 1) := by decide +kernel
theorem dJx4a65c_fastRemove_b59b0_42 : decode cJx4a65c_fastRemove_b59b0 42 = .ok (.aastore, 1) := by decide +kernel
theorem dJx4a65c_fastRemove_b59b0_43 : decode cJx4a65c_fastRemove_b59b0 43 = .ok (.return_, 1) := by decide +kernel
theorem dJx4a65c_rangeCheckForAdd_d00df_0 : decode cJx4a65c_rangeCheckForAdd_d00df 0 = .ok (.iload_n 1, 1) := by decide +kernel
theorem dJx4a65c_rangeCheckForAdd_d00df_1 : decode cJx4a65c_rangeCheckForAdd_d00df 1 = .ok (.aload_n 0, 1) := by decide +kernel
theorem dJx4a65c_rangeCheckForAdd_d00df_2 : decode cJx4a65c_rangeCheckForAdd_d00df 2 = .ok (.getfield 48, 3) := by decide +kernel
theorem dJx4a65c_rangeCheckForAdd_d00df_5 : decode cJx4a65c_rangeCheckForAdd_d00df 5 = .ok (.if_icmp .gt 7, 3) := by decide +kernel
theorem dJx4a65c_rangeCheckForAdd_d00df_8 : decode cJx4a65c_rangeCheckForAdd_d00df 8 = .ok (.iload_n 1, 1) := by decide +kernel
theorem dJx4a65c_rangeCheckForAdd_d00df_9 : decode cJx4a65c_rangeCheckForAdd_d00df 9 = .ok (.ifCond .ge 16, 3) := by decide +kernel
theorem dJx4a65c_rangeCheckForAdd_d00df_12 : decode cJx4a65c_rangeCheckForAdd_d00df 12 = .ok (.new 187, 3) := by decide +kernel
theorem dJx4a65c_rangeCheckForAdd_d00df_15 : decode cJx4a65c_rangeCheckForAdd_d00df 15 = .ok (.dup, 1) := by decide +kernel
theorem dJx4a65c_rangeCheckForAdd_d00df_16 : decode cJx4a65c_rangeCheckForAdd_d00df 16 = .ok (.aload_n 0, 1) := by decide +kernel
theorem dJx4a65c_rangeCheckForAdd_d00df_17 : decode cJx4a65c_rangeCheckForAdd_d00df 17 = .ok (.iload_n 1, 1) := by decide +kernel
theorem dJx4a65c_rangeCheckForAdd_d00df_18 : decode cJx4a65c_rangeCheckForAdd_d00df 18 = .ok (.invokevirtual 198, 3) := by decide +kernel
theorem dJx4a65c_rangeCheckForAdd_d00df_21 : decode cJx4a65c_rangeCheckForAdd_d00df 21 = .ok (.invokespecial 193, 3) := by decide +kernel
theorem dJx4a65c_rangeCheckForAdd_d00df_24 : decode cJx4a65c_rangeCheckForAdd_d00df 24 = .ok (.athrow, 1) := by decide +kernel
theorem dJx4a65c_rangeCheckForAdd_d00df_25 : decode cJx4a65c_rangeCheckForAdd_d00df 25 = .ok (.return_, 1) := by decide +kernel
theorem dJx4a65c_outOfBoundsMsg_b52d3_0 : decode cJx4a65c_outOfBoundsMsg_b52d3 0 = .ok (.new 20, 3) := by decide +kernel
theorem dJx4a65c_outOfBoundsMsg_b52d3_3 : decode cJx4a65c_outOfBoundsMsg_b52d3 3 = .ok (.dup, 1) := by decide +kernel
theorem dJx4a65c_outOfBoundsMsg_b52d3_4 : decode cJx4a65c_outOfBoundsMsg_b52d3 4 = .ok (.invokespecial 22, 3) := by decide +kernel
theorem dJx4a65c_outOfBoundsMsg_b52d3_7 : decode cJx4a65c_outOfBoundsMsg_b52d3 7 = .ok (.ldc 201, 2) := by decide +kernel
theorem dJx4a65c_outOfBoundsMsg_b52d3_9 : decode cJx4a65c_outOfBoundsMsg_b52d3 9 = .ok (.invokevirtual 25, 3) := by decide +kernel
theorem dJx4a65c_outOfBoundsMsg_b52d3_12 : decode cJx4a65c_outOfBoundsMsg_b52d3 12 = .ok (.iload_n 1, 1) := by decide +kernel
theorem dJx4a65c_outOfBoundsMsg_b52d3_13 : decode cJx4a65c_outOfBoundsMsg_b52d3 13 = .ok (.invokevirtual 29, 3) := by decide +kernel
theorem dJx4a65c_outOfBoundsMsg_b52d3_16 : decode cJx4a65c_outOfBoundsMsg_b52d3 16 = .ok (.ldc 203, 2) := by decide +kernel
theorem dJx4a65c_outOfBoundsMsg_b52d3_18 : decode cJx4a65c_outOfBoundsMsg_b52d3 18 = .ok (.invokevirtual 25, 3) := by decide +kernel
theorem dJx4a65c_outOfBoundsMsg_b52d3_21 : decode cJx4a65c_outOfBoundsMsg_b52d3 21 = .ok (.aload_n 0, 1) := by decide +kernel
theorem dJx4a65c_outOfBoundsMsg_b52d3_22 : decode cJx4a65c_outOfBoundsMsg_b52d3 22 = .ok (.getfield 48, 3) := by decide +kernel
theorem dJx4a65c_outOfBoundsMsg_b52d3_25 : decode cJx4a65c_outOfBoundsMsg_b52d3 25 = .ok (.invokevirtual 29, 3) := by decide +kernel
theorem dJx4a65c_outOfBoundsMsg_b52d3_28 : decode cJx4a65c_outOfBoundsMsg_b52d3 28 = .ok (.invokevirtual 32, 3) := by decide +kernel
theorem dJx4a65c_outOfBoundsMsg_b52d3_31 : decode cJx4a65c_outOfBoundsMsg_b52d3 31 = .ok (.areturn, 1) := by decide +kernel
theorem dJ7_fill_53178_0 : decode cJ7_fill_53178 0 = .ok (.iconst 0, 1) := by decide +kernel
theorem dJ7_fill_53178_1 : decode cJ7_fill_53178 1 = .ok (.istore_n 2, 1) := by decide +kernel
theorem dJ7_fill_53178_2 : decode cJ7_fill_53178 2 = .ok (.aload_n 0, 1) := by decide +kernel
theorem dJ7_fill_53178_3 : decode cJ7_fill_53178 3 = .ok (.arraylength, 1) := by decide +kernel
theorem dJ7_fill_53178_4 : decode cJ7_fill_53178 4 = .ok (.istore_n 3, 1) := by decide +kernel
theorem dJ7_fill_53178_5 : decode cJ7_fill_53178 5 = .ok (.iload_n 2, 1) := by decide +kernel
theorem dJ7_fill_53178_6 : decode cJ7_fill_53178 6 = .ok (.iload_n 3, 1) := by decide +kernel
theorem dJ7_fill_53178_7 : decode cJ7_fill_53178 7 = .ok (.if_icmp .ge 13, 3) := by decide +kernel
theorem dJ7_fill_53178_10 : decode cJ7_fill_53178 10 = .ok (.aload_n 0, 1) := by decide +kernel
theorem dJ7_fill_53178_11 : decode cJ7_fill_53178 11 = .ok (.iload_n 2, 1) := by decide +kernel
theorem dJ7_fill_53178_12 : decode cJ7_fill_53178 12 = .ok (.iload_n 1, 1) := by decide +kernel
theorem dJ7_fill_53178_13 : decode cJ7_fill_53178 13 = .ok (.iastore, 1) := by decide +kernel
theorem dJ7_fill_53178_14 : decode cJ7_fill_53178 14 = .ok (.iinc 2 1, 3) := by decide +kernel
theorem dJ7_fill_53178_17 : decode cJ7_fill_53178 17 = .ok (.goto (-12), 3) := by decide +kernel
theorem dJ7_fill_53178_20 : decode cJ7_fill_53178 20 = .ok (.return_, 1) := by decide +kernel
theorem dJ7_copyOf_1904c_0 : decode cJ7_copyOf_1904c 0 = .ok (.aload_n 0, 1) := by decide +kernel
theorem dJ7_copyOf_1904c_1 : decode cJ7_copyOf_1904c 1 = .ok (.iload_n 1, 1) := by decide +kernel
theorem dJ7_copyOf_1904c_2 : decode cJ7_copyOf_1904c 2 = .ok (.aload_n 0, 1) := by decide +kernel
theorem dJ7_copyOf_1904c_3 : decode cJ7_copyOf_1904c 3 = .ok (.invokevirtual 86, 3) := by decide +kernel
theorem dJ7_copyOf_1904c_6 : decode cJ7_copyOf_1904c 6 = .ok (.invokestatic 300, 3) := by decide +kernel
theorem dJ7_copyOf_1904c_9 : decode cJ7_copyOf_1904c 9 = .ok (.areturn, 1) := by decide +kernel
theorem dJ7_copyOf_6403c_0 : decode cJ7_copyOf_6403c 0 = .ok (.aload_n 2, 1) := by decide +kernel
theorem dJ7_copyOf_6403c_1 : decode cJ7_copyOf_6403c 1 = .ok (.ldc 110, 2) := by decide +kernel
theorem dJ7_copyOf_6403c_3 : decode cJ7_copyOf_6403c 3 = .ok (.if_acmp .ne 10, 3) := by decide +kernel
theorem dJ7_copyOf_6403c_6 : decode cJ7_copyOf_6403c 6 = .ok (.iload_n 1, 1) := by decide +kernel
theorem dJ7_copyOf_6403c_7 : decode cJ7_copyOf_6403c 7 = .ok (.anewarray 2, 3) := by decide +kernel
theorem dJ7_copyOf_6403c_10 : decode cJ7_copyOf_6403c 10 = .ok (.goto 14, 3) := by decide +kernel
theorem dJ7_copyOf_6403c_13 : decode cJ7_copyOf_6403c 13 = .ok (.aload_n 2, 1) := by decide +kernel
theorem dJ7_copyOf_6403c_14 : decode cJ7_copyOf_6403c 14 = .ok (.invokevirtual 90, 3) := by decide +kernel
theorem dJ7_copyOf_6403c_17 : decode cJ7_copyOf_6403c 17 = .ok (.iload_n 1, 1) := by decide +kernel
theorem dJ7_copyOf_6403c_18 : decode cJ7_copyOf_6403c 18 = .ok (.invokestatic 95, 3) := by decide +kernel
theorem dJ7_copyOf_6403c_21 : decode cJ7_copyOf_6403c 21 = .ok (.checkcast 110, 3) := by decide +kernel
theorem dJ7_copyOf_6403c_24 : decode cJ7_copyOf_6403c 24 = .ok (.astore_n 3, 1) := by decide +kernel
theorem dJ7_copyOf_6403c_25 : decode cJ7_copyOf_6403c 25 = .ok (.aload_n 0, 1) := by decide +kernel
theorem dJ7_copyOf_6403c_26 : decode cJ7_copyOf_6403c 26 = .ok (.iconst 0, 1) := by decide +kernel
theorem dJ7_copyOf_6403c_27 : decode cJ7_copyOf_6403c 27 = .ok (.aload_n 3, 1) := by decide +kernel
theorem dJ7_copyOf_6403c_28 : decode cJ7_copyOf_6403c 28 = .ok (.iconst 0, 1) := by decide +kernel
theorem dJ7_copyOf_6403c_29 : decode cJ7_copyOf_6403c 29 = .ok (.aload_n 0, 1) := by decide +kernel
theorem dJ7_copyOf_6403c_30 : decode cJ7_copyOf_6403c 30 = .ok (.arraylength, 1) := by decide +kernel
theorem dJ7_copyOf_6403c_31 : decode cJ7_copyOf_6403c 31 = .ok (.iload_n 1, 1) := by decide +kernel
theorem dJ7_copyOf_6403c_32 : decode cJ7_copyOf_6403c 32 = .ok (.invokestatic 304, 3) := by decide +kernel
theorem dJ7_copyOf_6403c_35 : decode cJ7_copyOf_6403c 35 = .ok (.invokestatic 150, 3) := by decide +kernel
theorem dJ7_copyOf_6403c_38 : decode cJ7_copyOf_6403c 38 = .ok (.aload_n 3, 1) := by decide +kernel
theorem dJ7_copyOf_6403c_39 : decode cJ7_copyOf_6403c 39 = .ok (.areturn, 1) := by decide +kernel
theorem dJ15_checkIndex_7cf53_0 : decode cJ15_checkIndex_7cf53 0 = .ok (.iload_n 0, 1) := by decide +kernel
theorem dJ15_checkIndex_7cf53_1 : decode cJ15_checkIndex_7cf53 1 = .ok (.iload_n 1, 1) := by decide +kernel
theorem dJ15_checkIndex_7cf53_2 : decode cJ15_checkIndex_7cf53 2 = .ok (.aconst_null, 1) := by decide +kernel
theorem dJ15_checkIndex_7cf53_3 : decode cJ15_checkIndex_7cf53 3 = .ok (.invokestatic 105, 3) := by decide +kernel
theorem dJ15_checkIndex_7cf53_6 : decode cJ15_checkIndex_7cf53 6 = .ok (.ireturn, 1) := by decide +kernel
theorem dJ8_newLength_cabcc_0 : decode cJ8_newLength_cabcc 0 = .ok (.iload_n 0, 1) := by decide +kernel
theorem dJ8_newLength_cabcc_1 : decode cJ8_newLength_cabcc 1 = .ok (.iload_n 1, 1) := by decide +kernel
theorem dJ8_newLength_cabcc_2 : decode cJ8_newLength_cabcc 2 = .ok (.iload_n 2, 1) := by decide +kernel
theorem dJ8_newLength_cabcc_3 : decode cJ8_newLength_cabcc 3 = .ok (.invokestatic 194, 3) := by decide +kernel
theorem dJ8_newLength_cabcc_6 : decode cJ8_newLength_cabcc 6 = .ok (.iadd, 1) := by decide +kernel
theorem dJ8_newLength_cabcc_7 : decode cJ8_newLength_cabcc 7 = .ok (.istore_n 3, 1) := by decide +kernel
theorem dJ8_newLength_cabcc_8 : decode cJ8_newLength_cabcc 8 = .ok (.iconst 0, 1) := by decide +kernel
theorem dJ8_newLength_cabcc_9 : decode cJ8_newLength_cabcc 9 = .ok (.iload_n 3, 1) := by decide +kernel
theorem dJ8_newLength_cabcc_10 : decode cJ8_newLength_cabcc 10 = .ok (.if_icmp .ge 11, 3) := by decide +kernel
theorem dJ8_newLength_cabcc_13 : decode cJ8_newLength_cabcc 13 = .ok (.iload_n 3, 1) := by decide +kernel
theorem dJ8_newLength_cabcc_14 : decode cJ8_newLength_cabcc 14 = .ok (.ldc 200, 2) := by decide +kernel
theorem dJ8_newLength_cabcc_16 : decode cJ8_newLength_cabcc 16 = .ok (.if_icmp .gt 5, 3) := by decide +kernel
theorem dJ8_newLength_cabcc_19 : decode cJ8_newLength_cabcc 19 = .ok (.iload_n 3, 1) := by decide +kernel
theorem dJ8_newLength_cabcc_20 : decode cJ8_newLength_cabcc 20 = .ok (.ireturn, 1) := by decide +kernel
theorem dJ8_newLength_cabcc_21 : decode cJ8_newLength_cabcc 21 = .ok (.iload_n 0, 1) := by decide +kernel
theorem dJ8_newLength_cabcc_22 : decode cJ8_newLength_cabcc 22 = .ok (.iload_n 1, 1) := by decide +kernel
theorem dJ8_newLength_cabcc_23 : decode cJ8_newLength_cabcc 23 = .ok (.invokestatic 201, 3) := by decide +kernel
theorem dJ8_newLength_cabcc_26 : decode cJ8_newLength_cabcc 26 = .ok (.ireturn, 1) := by decide +kernel
theorem dJ3_checkIndex_8e157_0 : decode cJ3_checkIndex_8e157 0 = .ok (.iload_n 0, 1) := by decide +kernel
theorem dJ3_checkIndex_8e157_1 : decode cJ3_checkIndex_8e157 1 = .ok (.ifCond .lt 8, 3) := by decide +kernel
theorem dJ3_checkIndex_8e157_4 : decode cJ3_checkIndex_8e157 4 = .ok (.iload_n 0, 1) := by decide +kernel
theorem dJ3_checkIndex_8e157_5 : decode cJ3_checkIndex_8e157 5 = .ok (.iload_n 1, 1) := by decide +kernel
theorem dJ3_checkIndex_8e157_6 : decode cJ3_checkIndex_8e157 6 = .ok (.if_icmp .lt 10, 3) := by decide +kernel
theorem dJ3_checkIndex_8e157_9 : decode cJ3_checkIndex_8e157 9 = .ok (.aload_n 2, 1) := by decide +kernel
theorem dJ3_checkIndex_8e157_10 : decode cJ3_checkIndex_8e157 10 = .ok (.iload_n 0, 1) := by decide +kernel
theorem dJ3_checkIndex_8e157_11 : decode cJ3_checkIndex_8e157 11 = .ok (.iload_n 1, 1) := by decide +kernel
theorem dJ3_checkIndex_8e157_12 : decode cJ3_checkIndex_8e157 12 = .ok (.invokestatic 95, 3) := by decide +kernel
theorem dJ3_checkIndex_8e157_15 : decode cJ3_checkIndex_8e157 15 = .ok (.athrow, 1) := by decide +kernel
theorem dJ3_checkIndex_8e157_16 : decode cJ3_checkIndex_8e157 16 = .ok (.iload_n 0, 1) := by decide +kernel
theorem dJ3_checkIndex_8e157_17 : decode cJ3_checkIndex_8e157 17 = .ok (.ireturn, 1) := by decide +kernel
theorem dL_pin_0 : decode cL_pin 0 = .ok (.aload_n 1, 1) := by decide +kernel
theorem dL_pin_1 : decode cL_pin 1 = .ok (.iconst 0, 1) := by decide +kernel
theorem dL_pin_2 : decode cL_pin 2 = .ok (.aload_n 0, 1) := by decide +kernel
theorem dL_pin_3 : decode cL_pin 3 = .ok (.invokevirtual 7, 3) := by decide +kernel
theorem dL_pin_6 : decode cL_pin 6 = .ok (.i2l, 1) := by decide +kernel
theorem dL_pin_7 : decode cL_pin 7 = .ok (.lastore, 1) := by decide +kernel
theorem dL_pin_8 : decode cL_pin 8 = .ok (.goto 6, 3) := by decide +kernel
theorem dL_pin_11 : decode cL_pin 11 = .ok (.astore_n 2, 1) := by decide +kernel
theorem dL_pin_12 : decode cL_pin 12 = .ok (.iconst 1, 1) := by decide +kernel
theorem dL_pin_13 : decode cL_pin 13 = .ok (.ireturn, 1) := by decide +kernel
theorem dL_pin_14 : decode cL_pin 14 = .ok (.iconst 0, 1) := by decide +kernel
theorem dL_pin_15 : decode cL_pin 15 = .ok (.ireturn, 1) := by decide +kernel
theorem dL_arc_0 : decode cL_arc 0 = .ok (.aload 5, 2) := by decide +kernel
theorem dL_arc_2 : decode cL_arc 2 = .ok (.iconst 0, 1) := by decide +kernel
theorem dL_arc_3 : decode cL_arc 3 = .ok (.aload_n 0, 1) := by decide +kernel
theorem dL_arc_4 : decode cL_arc 4 = .ok (.iload_n 1, 1) := by decide +kernel
theorem dL_arc_5 : decode cL_arc 5 = .ok (.iload_n 2, 1) := by decide +kernel
theorem dL_arc_6 : decode cL_arc 6 = .ok (.dload_n 3, 1) := by decide +kernel
theorem dL_arc_7 : decode cL_arc 7 = .ok (.invokevirtual 15, 3) := by decide +kernel
theorem dL_arc_10 : decode cL_arc 10 = .ok (.i2l, 1) := by decide +kernel
theorem dL_arc_11 : decode cL_arc 11 = .ok (.lastore, 1) := by decide +kernel
theorem dL_arc_12 : decode cL_arc 12 = .ok (.goto 15, 3) := by decide +kernel
theorem dL_arc_15 : decode cL_arc 15 = .ok (.astore 6, 2) := by decide +kernel
theorem dL_arc_17 : decode cL_arc 17 = .ok (.iconst 1, 1) := by decide +kernel
theorem dL_arc_18 : decode cL_arc 18 = .ok (.ireturn, 1) := by decide +kernel
theorem dL_arc_19 : decode cL_arc 19 = .ok (.astore 6, 2) := by decide +kernel
theorem dL_arc_21 : decode cL_arc 21 = .ok (.iconst 2, 1) := by decide +kernel
theorem dL_arc_22 : decode cL_arc 22 = .ok (.ireturn, 1) := by decide +kernel
theorem dL_arc_23 : decode cL_arc 23 = .ok (.astore 6, 2) := by decide +kernel
theorem dL_arc_25 : decode cL_arc 25 = .ok (.iconst 3, 1) := by decide +kernel
theorem dL_arc_26 : decode cL_arc 26 = .ok (.ireturn, 1) := by decide +kernel
theorem dL_arc_27 : decode cL_arc 27 = .ok (.iconst 0, 1) := by decide +kernel
theorem dL_arc_28 : decode cL_arc 28 = .ok (.ireturn, 1) := by decide +kernel
theorem dL_end_0 : decode cL_end 0 = .ok (.aload 4, 2) := by decide +kernel
theorem dL_end_2 : decode cL_end 2 = .ok (.iconst 0, 1) := by decide +kernel
theorem dL_end_3 : decode cL_end 3 = .ok (.aload_n 0, 1) := by decide +kernel
theorem dL_end_4 : decode cL_end 4 = .ok (.iload_n 1, 1) := by decide +kernel
theorem dL_end_5 : decode cL_end 5 = .ok (.dload_n 2, 1) := by decide +kernel
theorem dL_end_6 : decode cL_end 6 = .ok (.invokevirtual 23, 3) := by decide +kernel
theorem dL_end_9 : decode cL_end 9 = .ok (.i2l, 1) := by decide +kernel
theorem dL_end_10 : decode cL_end 10 = .ok (.lastore, 1) := by decide +kernel
theorem dL_end_11 : decode cL_end 11 = .ok (.goto 15, 3) := by decide +kernel
theorem dL_end_14 : decode cL_end 14 = .ok (.astore 5, 2) := by decide +kernel
theorem dL_end_16 : decode cL_end 16 = .ok (.iconst 1, 1) := by decide +kernel
theorem dL_end_17 : decode cL_end 17 = .ok (.ireturn, 1) := by decide +kernel
theorem dL_end_18 : decode cL_end 18 = .ok (.astore 5, 2) := by decide +kernel
theorem dL_end_20 : decode cL_end 20 = .ok (.iconst 2, 1) := by decide +kernel
theorem dL_end_21 : decode cL_end 21 = .ok (.ireturn, 1) := by decide +kernel
theorem dL_end_22 : decode cL_end 22 = .ok (.astore 5, 2) := by decide +kernel
theorem dL_end_24 : decode cL_end 24 = .ok (.iconst 3, 1) := by decide +kernel
theorem dL_end_25 : decode cL_end 25 = .ok (.ireturn, 1) := by decide +kernel
theorem dL_end_26 : decode cL_end 26 = .ok (.iconst 0, 1) := by decide +kernel
theorem dL_end_27 : decode cL_end 27 = .ok (.ireturn, 1) := by decide +kernel
theorem dL_start_0 : decode cL_start 0 = .ok (.aload 4, 2) := by decide +kernel
theorem dL_start_2 : decode cL_start 2 = .ok (.iconst 0, 1) := by decide +kernel
theorem dL_start_3 : decode cL_start 3 = .ok (.aload_n 0, 1) := by decide +kernel
theorem dL_start_4 : decode cL_start 4 = .ok (.iload_n 1, 1) := by decide +kernel
theorem dL_start_5 : decode cL_start 5 = .ok (.dload_n 2, 1) := by decide +kernel
theorem dL_start_6 : decode cL_start 6 = .ok (.invokevirtual 27, 3) := by decide +kernel
theorem dL_start_9 : decode cL_start 9 = .ok (.i2l, 1) := by decide +kernel
theorem dL_start_10 : decode cL_start 10 = .ok (.lastore, 1) := by decide +kernel
theorem dL_start_11 : decode cL_start 11 = .ok (.goto 15, 3) := by decide +kernel
theorem dL_start_14 : decode cL_start 14 = .ok (.astore 5, 2) := by decide +kernel
theorem dL_start_16 : decode cL_start 16 = .ok (.iconst 1, 1) := by decide +kernel
theorem dL_start_17 : decode cL_start 17 = .ok (.ireturn, 1) := by decide +kernel
theorem dL_start_18 : decode cL_start 18 = .ok (.astore 5, 2) := by decide +kernel
theorem dL_start_20 : decode cL_start 20 = .ok (.iconst 2, 1) := by decide +kernel
theorem dL_start_21 : decode cL_start 21 = .ok (.ireturn, 1) := by decide +kernel
theorem dL_start_22 : decode cL_start 22 = .ok (.astore 5, 2) := by decide +kernel
theorem dL_start_24 : decode cL_start 24 = .ok (.iconst 3, 1) := by decide +kernel
theorem dL_start_25 : decode cL_start 25 = .ok (.ireturn, 1) := by decide +kernel
theorem dL_start_26 : decode cL_start 26 = .ok (.iconst 0, 1) := by decide +kernel
theorem dL_start_27 : decode cL_start 27 = .ok (.ireturn, 1) := by decide +kernel
theorem dL_through_0 : decode cL_through 0 = .ok (.aload_n 3, 1) := by decide +kernel
theorem dL_through_1 : decode cL_through 1 = .ok (.iconst 0, 1) := by decide +kernel
theorem dL_through_2 : decode cL_through 2 = .ok (.aload_n 0, 1) := by decide +kernel
theorem dL_through_3 : decode cL_through 3 = .ok (.iload_n 1, 1) := by decide +kernel
theorem dL_through_4 : decode cL_through 4 = .ok (.iload_n 2, 1) := by decide +kernel
theorem dL_through_5 : decode cL_through 5 = .ok (.invokevirtual 30, 3) := by decide +kernel
theorem dL_through_8 : decode cL_through 8 = .ok (.ifCond .eq 7, 3) := by decide +kernel
theorem dL_through_11 : decode cL_through 11 = .ok (.lconst 1, 1) := by decide +kernel
theorem dL_through_12 : decode cL_through 12 = .ok (.goto 4, 3) := by decide +kernel
theorem dL_through_15 : decode cL_through 15 = .ok (.lconst 0, 1) := by decide +kernel
theorem dL_through_16 : decode cL_through 16 = .ok (.lastore, 1) := by decide +kernel
theorem dL_through_17 : decode cL_through 17 = .ok (.goto 11, 3) := by decide +kernel
theorem dL_through_20 : decode cL_through 20 = .ok (.astore 4, 2) := by decide +kernel
theorem dL_through_22 : decode cL_through 22 = .ok (.iconst 1, 1) := by decide +kernel
theorem dL_through_23 : decode cL_through 23 = .ok (.ireturn, 1) := by decide +kernel
theorem dL_through_24 : decode cL_through 24 = .ok (.astore 4, 2) := by decide +kernel
theorem dL_through_26 : decode cL_through 26 = .ok (.iconst 2, 1) := by decide +kernel
theorem dL_through_27 : decode cL_through 27 = .ok (.ireturn, 1) := by decide +kernel
theorem dL_through_28 : decode cL_through 28 = .ok (.iconst 0, 1) := by decide +kernel
theorem dL_through_29 : decode cL_through 29 = .ok (.ireturn, 1) := by decide +kernel
theorem dL_run_0 : decode cL_run 0 = .ok (.aload_n 2, 1) := by decide +kernel
theorem dL_run_1 : decode cL_run 1 = .ok (.iconst 0, 1) := by decide +kernel
theorem dL_run_2 : decode cL_run 2 = .ok (.aload_n 0, 1) := by decide +kernel
theorem dL_run_3 : decode cL_run 3 = .ok (.iload_n 1, 1) := by decide +kernel
theorem dL_run_4 : decode cL_run 4 = .ok (.invokevirtual 34, 3) := by decide +kernel
theorem dL_run_7 : decode cL_run 7 = .ok (.i2l, 1) := by decide +kernel
theorem dL_run_8 : decode cL_run 8 = .ok (.lastore, 1) := by decide +kernel
theorem dL_run_9 : decode cL_run 9 = .ok (.goto 6, 3) := by decide +kernel
theorem dL_run_12 : decode cL_run 12 = .ok (.astore_n 3, 1) := by decide +kernel
theorem dL_run_13 : decode cL_run 13 = .ok (.iconst 1, 1) := by decide +kernel
theorem dL_run_14 : decode cL_run 14 = .ok (.ireturn, 1) := by decide +kernel
theorem dL_run_15 : decode cL_run 15 = .ok (.iconst 0, 1) := by decide +kernel
theorem dL_run_16 : decode cL_run 16 = .ok (.ireturn, 1) := by decide +kernel
theorem dL_slack_0 : decode cL_slack 0 = .ok (.aload_n 2, 1) := by decide +kernel
theorem dL_slack_1 : decode cL_slack 1 = .ok (.iconst 0, 1) := by decide +kernel
theorem dL_slack_2 : decode cL_slack 2 = .ok (.aload_n 0, 1) := by decide +kernel
theorem dL_slack_3 : decode cL_slack 3 = .ok (.iload_n 1, 1) := by decide +kernel
theorem dL_slack_4 : decode cL_slack 4 = .ok (.invokevirtual 38, 3) := by decide +kernel
theorem dL_slack_7 : decode cL_slack 7 = .ok (.dastore, 1) := by decide +kernel
theorem dL_slack_8 : decode cL_slack 8 = .ok (.goto 9, 3) := by decide +kernel
theorem dL_slack_11 : decode cL_slack 11 = .ok (.astore_n 3, 1) := by decide +kernel
theorem dL_slack_12 : decode cL_slack 12 = .ok (.iconst 1, 1) := by decide +kernel
theorem dL_slack_13 : decode cL_slack 13 = .ok (.ireturn, 1) := by decide +kernel
theorem dL_slack_14 : decode cL_slack 14 = .ok (.astore_n 3, 1) := by decide +kernel
theorem dL_slack_15 : decode cL_slack 15 = .ok (.iconst 2, 1) := by decide +kernel
theorem dL_slack_16 : decode cL_slack 16 = .ok (.ireturn, 1) := by decide +kernel
theorem dL_slack_17 : decode cL_slack 17 = .ok (.iconst 0, 1) := by decide +kernel
theorem dL_slack_18 : decode cL_slack 18 = .ok (.ireturn, 1) := by decide +kernel
theorem dL_at_0 : decode cL_at 0 = .ok (.aload_n 3, 1) := by decide +kernel
theorem dL_at_1 : decode cL_at 1 = .ok (.iconst 0, 1) := by decide +kernel
theorem dL_at_2 : decode cL_at 2 = .ok (.aload_n 0, 1) := by decide +kernel
theorem dL_at_3 : decode cL_at 3 = .ok (.iload_n 1, 1) := by decide +kernel
theorem dL_at_4 : decode cL_at 4 = .ok (.iload_n 2, 1) := by decide +kernel
theorem dL_at_5 : decode cL_at 5 = .ok (.invokevirtual 42, 3) := by decide +kernel
theorem dL_at_8 : decode cL_at 8 = .ok (.i2l, 1) := by decide +kernel
theorem dL_at_9 : decode cL_at 9 = .ok (.lastore, 1) := by decide +kernel
theorem dL_at_10 : decode cL_at 10 = .ok (.goto 11, 3) := by decide +kernel
theorem dL_at_13 : decode cL_at 13 = .ok (.astore 4, 2) := by decide +kernel
theorem dL_at_15 : decode cL_at 15 = .ok (.iconst 1, 1) := by decide +kernel
theorem dL_at_16 : decode cL_at 16 = .ok (.ireturn, 1) := by decide +kernel
theorem dL_at_17 : decode cL_at 17 = .ok (.astore 4, 2) := by decide +kernel
theorem dL_at_19 : decode cL_at 19 = .ok (.iconst 2, 1) := by decide +kernel
theorem dL_at_20 : decode cL_at 20 = .ok (.ireturn, 1) := by decide +kernel
theorem dL_at_21 : decode cL_at 21 = .ok (.iconst 0, 1) := by decide +kernel
theorem dL_at_22 : decode cL_at 22 = .ok (.ireturn, 1) := by decide +kernel
theorem dL_group_0 : decode cL_group 0 = .ok (.aload_n 3, 1) := by decide +kernel
theorem dL_group_1 : decode cL_group 1 = .ok (.iconst 0, 1) := by decide +kernel
theorem dL_group_2 : decode cL_group 2 = .ok (.aload_n 0, 1) := by decide +kernel
theorem dL_group_3 : decode cL_group 3 = .ok (.iload_n 1, 1) := by decide +kernel
theorem dL_group_4 : decode cL_group 4 = .ok (.iload_n 2, 1) := by decide +kernel
theorem dL_group_5 : decode cL_group 5 = .ok (.invokevirtual 46, 3) := by decide +kernel
theorem dL_group_8 : decode cL_group 8 = .ok (.i2l, 1) := by decide +kernel
theorem dL_group_9 : decode cL_group 9 = .ok (.lastore, 1) := by decide +kernel
theorem dL_group_10 : decode cL_group 10 = .ok (.goto 11, 3) := by decide +kernel
theorem dL_group_13 : decode cL_group 13 = .ok (.astore 4, 2) := by decide +kernel
theorem dL_group_15 : decode cL_group 15 = .ok (.iconst 1, 1) := by decide +kernel
theorem dL_group_16 : decode cL_group 16 = .ok (.ireturn, 1) := by decide +kernel
theorem dL_group_17 : decode cL_group 17 = .ok (.astore 4, 2) := by decide +kernel
theorem dL_group_19 : decode cL_group 19 = .ok (.iconst 2, 1) := by decide +kernel
theorem dL_group_20 : decode cL_group 20 = .ok (.ireturn, 1) := by decide +kernel
theorem dL_group_21 : decode cL_group 21 = .ok (.iconst 0, 1) := by decide +kernel
theorem dL_group_22 : decode cL_group 22 = .ok (.ireturn, 1) := by decide +kernel
theorem dL_model_0 : decode cL_model 0 = .ok (.aload_n 2, 1) := by decide +kernel
theorem dL_model_1 : decode cL_model 1 = .ok (.iconst 0, 1) := by decide +kernel
theorem dL_model_2 : decode cL_model 2 = .ok (.aload_n 0, 1) := by decide +kernel
theorem dL_model_3 : decode cL_model 3 = .ok (.iload_n 1, 1) := by decide +kernel
theorem dL_model_4 : decode cL_model 4 = .ok (.invokevirtual 49, 3) := by decide +kernel
theorem dL_model_7 : decode cL_model 7 = .ok (.i2l, 1) := by decide +kernel
theorem dL_model_8 : decode cL_model 8 = .ok (.lastore, 1) := by decide +kernel
theorem dL_model_9 : decode cL_model 9 = .ok (.goto 6, 3) := by decide +kernel
theorem dL_model_12 : decode cL_model 12 = .ok (.astore_n 3, 1) := by decide +kernel
theorem dL_model_13 : decode cL_model 13 = .ok (.iconst 1, 1) := by decide +kernel
theorem dL_model_14 : decode cL_model 14 = .ok (.ireturn, 1) := by decide +kernel
theorem dL_model_15 : decode cL_model 15 = .ok (.iconst 0, 1) := by decide +kernel
theorem dL_model_16 : decode cL_model 16 = .ok (.ireturn, 1) := by decide +kernel
theorem dL_into_0 : decode cL_into 0 = .ok (.aload_n 3, 1) := by decide +kernel
theorem dL_into_1 : decode cL_into 1 = .ok (.iconst 0, 1) := by decide +kernel
theorem dL_into_2 : decode cL_into 2 = .ok (.aload_n 0, 1) := by decide +kernel
theorem dL_into_3 : decode cL_into 3 = .ok (.iload_n 1, 1) := by decide +kernel
theorem dL_into_4 : decode cL_into 4 = .ok (.iload_n 2, 1) := by decide +kernel
theorem dL_into_5 : decode cL_into 5 = .ok (.invokevirtual 52, 3) := by decide +kernel
theorem dL_into_8 : decode cL_into 8 = .ok (.ifCond .eq 7, 3) := by decide +kernel
theorem dL_into_11 : decode cL_into 11 = .ok (.lconst 1, 1) := by decide +kernel
theorem dL_into_12 : decode cL_into 12 = .ok (.goto 4, 3) := by decide +kernel
theorem dL_into_15 : decode cL_into 15 = .ok (.lconst 0, 1) := by decide +kernel
theorem dL_into_16 : decode cL_into 16 = .ok (.lastore, 1) := by decide +kernel
theorem dL_into_17 : decode cL_into 17 = .ok (.goto 7, 3) := by decide +kernel
theorem dL_into_20 : decode cL_into 20 = .ok (.astore 4, 2) := by decide +kernel
theorem dL_into_22 : decode cL_into 22 = .ok (.iconst 1, 1) := by decide +kernel
theorem dL_into_23 : decode cL_into 23 = .ok (.ireturn, 1) := by decide +kernel
theorem dL_into_24 : decode cL_into 24 = .ok (.iconst 0, 1) := by decide +kernel
theorem dL_into_25 : decode cL_into 25 = .ok (.ireturn, 1) := by decide +kernel
theorem dL_reduced_0 : decode cL_reduced 0 = .ok (.aload 4, 2) := by decide +kernel
theorem dL_reduced_2 : decode cL_reduced 2 = .ok (.iconst 0, 1) := by decide +kernel
theorem dL_reduced_3 : decode cL_reduced 3 = .ok (.aload_n 0, 1) := by decide +kernel
theorem dL_reduced_4 : decode cL_reduced 4 = .ok (.iload_n 1, 1) := by decide +kernel
theorem dL_reduced_5 : decode cL_reduced 5 = .ok (.iload_n 2, 1) := by decide +kernel
theorem dL_reduced_6 : decode cL_reduced 6 = .ok (.iload_n 3, 1) := by decide +kernel
theorem dL_reduced_7 : decode cL_reduced 7 = .ok (.invokevirtual 55, 3) := by decide +kernel
theorem dL_reduced_10 : decode cL_reduced 10 = .ok (.dastore, 1) := by decide +kernel
theorem dL_reduced_11 : decode cL_reduced 11 = .ok (.goto 7, 3) := by decide +kernel
theorem dL_reduced_14 : decode cL_reduced 14 = .ok (.astore 5, 2) := by decide +kernel
theorem dL_reduced_16 : decode cL_reduced 16 = .ok (.iconst 1, 1) := by decide +kernel
theorem dL_reduced_17 : decode cL_reduced 17 = .ok (.ireturn, 1) := by decide +kernel
theorem dL_reduced_18 : decode cL_reduced 18 = .ok (.iconst 0, 1) := by decide +kernel
theorem dL_reduced_19 : decode cL_reduced 19 = .ok (.ireturn, 1) := by decide +kernel
theorem dL_budget_0 : decode cL_budget 0 = .ok (.aload_n 3, 1) := by decide +kernel
theorem dL_budget_1 : decode cL_budget 1 = .ok (.iconst 0, 1) := by decide +kernel
theorem dL_budget_2 : decode cL_budget 2 = .ok (.aload_n 0, 1) := by decide +kernel
theorem dL_budget_3 : decode cL_budget 3 = .ok (.iload_n 1, 1) := by decide +kernel
theorem dL_budget_4 : decode cL_budget 4 = .ok (.iload_n 2, 1) := by decide +kernel
theorem dL_budget_5 : decode cL_budget 5 = .ok (.invokevirtual 59, 3) := by decide +kernel
theorem dL_budget_8 : decode cL_budget 8 = .ok (.dastore, 1) := by decide +kernel
theorem dL_budget_9 : decode cL_budget 9 = .ok (.goto 11, 3) := by decide +kernel
theorem dL_budget_12 : decode cL_budget 12 = .ok (.astore 4, 2) := by decide +kernel
theorem dL_budget_14 : decode cL_budget 14 = .ok (.iconst 1, 1) := by decide +kernel
theorem dL_budget_15 : decode cL_budget 15 = .ok (.ireturn, 1) := by decide +kernel
theorem dL_budget_16 : decode cL_budget 16 = .ok (.astore 4, 2) := by decide +kernel
theorem dL_budget_18 : decode cL_budget 18 = .ok (.iconst 2, 1) := by decide +kernel
theorem dL_budget_19 : decode cL_budget 19 = .ok (.ireturn, 1) := by decide +kernel
theorem dL_budget_20 : decode cL_budget 20 = .ok (.iconst 0, 1) := by decide +kernel
theorem dL_budget_21 : decode cL_budget 21 = .ok (.ireturn, 1) := by decide +kernel
theorem dL_whatIf_0 : decode cL_whatIf 0 = .ok (.aload 4, 2) := by decide +kernel
theorem dL_whatIf_2 : decode cL_whatIf 2 = .ok (.iconst 0, 1) := by decide +kernel
theorem dL_whatIf_3 : decode cL_whatIf 3 = .ok (.aload_n 0, 1) := by decide +kernel
theorem dL_whatIf_4 : decode cL_whatIf 4 = .ok (.iload_n 1, 1) := by decide +kernel
theorem dL_whatIf_5 : decode cL_whatIf 5 = .ok (.dload_n 2, 1) := by decide +kernel
theorem dL_whatIf_6 : decode cL_whatIf 6 = .ok (.invokevirtual 63, 3) := by decide +kernel
theorem dL_whatIf_9 : decode cL_whatIf 9 = .ok (.ifCond .eq 7, 3) := by decide +kernel
theorem dL_whatIf_12 : decode cL_whatIf 12 = .ok (.lconst 1, 1) := by decide +kernel
theorem dL_whatIf_13 : decode cL_whatIf 13 = .ok (.goto 4, 3) := by decide +kernel
theorem dL_whatIf_16 : decode cL_whatIf 16 = .ok (.lconst 0, 1) := by decide +kernel
theorem dL_whatIf_17 : decode cL_whatIf 17 = .ok (.lastore, 1) := by decide +kernel
theorem dL_whatIf_18 : decode cL_whatIf 18 = .ok (.goto 15, 3) := by decide +kernel
theorem dL_whatIf_21 : decode cL_whatIf 21 = .ok (.astore 5, 2) := by decide +kernel
theorem dL_whatIf_23 : decode cL_whatIf 23 = .ok (.iconst 1, 1) := by decide +kernel
theorem dL_whatIf_24 : decode cL_whatIf 24 = .ok (.ireturn, 1) := by decide +kernel
theorem dL_whatIf_25 : decode cL_whatIf 25 = .ok (.astore 5, 2) := by decide +kernel
theorem dL_whatIf_27 : decode cL_whatIf 27 = .ok (.iconst 2, 1) := by decide +kernel
theorem dL_whatIf_28 : decode cL_whatIf 28 = .ok (.ireturn, 1) := by decide +kernel
theorem dL_whatIf_29 : decode cL_whatIf 29 = .ok (.astore 5, 2) := by decide +kernel
theorem dL_whatIf_31 : decode cL_whatIf 31 = .ok (.iconst 3, 1) := by decide +kernel
theorem dL_whatIf_32 : decode cL_whatIf 32 = .ok (.ireturn, 1) := by decide +kernel
theorem dL_whatIf_33 : decode cL_whatIf 33 = .ok (.iconst 0, 1) := by decide +kernel
theorem dL_whatIf_34 : decode cL_whatIf 34 = .ok (.ireturn, 1) := by decide +kernel
theorem dL_law_0 : decode cL_law 0 = .ok (.new 8, 3) := by decide +kernel
theorem dL_law_3 : decode cL_law 3 = .ok (.dup, 1) := by decide +kernel
theorem dL_law_4 : decode cL_law 4 = .ok (.invokespecial 67, 3) := by decide +kernel
theorem dL_law_7 : decode cL_law 7 = .ok (.astore_n 1, 1) := by decide +kernel
theorem dL_law_8 : decode cL_law 8 = .ok (.new 68, 3) := by decide +kernel
theorem dL_law_11 : decode cL_law 11 = .ok (.dup, 1) := by decide +kernel
theorem dL_law_12 : decode cL_law 12 = .ok (.invokespecial 70, 3) := by decide +kernel
theorem dL_law_15 : decode cL_law 15 = .ok (.astore_n 2, 1) := by decide +kernel
theorem dL_law_16 : decode cL_law 16 = .ok (.iconst 1, 1) := by decide +kernel
theorem dL_law_17 : decode cL_law 17 = .ok (.newarray .long, 2) := by decide +kernel
theorem dL_law_19 : decode cL_law 19 = .ok (.astore_n 3, 1) := by decide +kernel
theorem dL_law_20 : decode cL_law 20 = .ok (.iconst 1, 1) := by decide +kernel
theorem dL_law_21 : decode cL_law 21 = .ok (.newarray .double, 2) := by decide +kernel
theorem dL_law_23 : decode cL_law 23 = .ok (.astore 4, 2) := by decide +kernel
theorem dL_law_25 : decode cL_law 25 = .ok (.iconst 0, 1) := by decide +kernel
theorem dL_law_26 : decode cL_law 26 = .ok (.istore 5, 2) := by decide +kernel
theorem dL_law_28 : decode cL_law 28 = .ok (.iload 5, 2) := by decide +kernel
theorem dL_law_30 : decode cL_law 30 = .ok (.aload_n 0, 1) := by decide +kernel
theorem dL_law_31 : decode cL_law 31 = .ok (.arraylength, 1) := by decide +kernel
theorem dL_law_32 : decode cL_law 32 = .ok (.iconst 4, 1) := by decide +kernel
theorem dL_law_33 : decode cL_law 33 = .ok (.isub, 1) := by decide +kernel
theorem dL_law_34 : decode cL_law 34 = .ok (.if_icmp .gt 1145, 3) := by decide +kernel
theorem dL_law_37 : decode cL_law 37 = .ok (.aload_n 0, 1) := by decide +kernel
theorem dL_law_38 : decode cL_law 38 = .ok (.iload 5, 2) := by decide +kernel
theorem dL_law_40 : decode cL_law 40 = .ok (.iaload, 1) := by decide +kernel
theorem dL_law_41 : decode cL_law 41 = .ok (.bipush 15, 2) := by decide +kernel
theorem dL_law_43 : decode cL_law 43 = .ok (.iand, 1) := by decide +kernel
theorem dL_law_44 : decode cL_law 44 = .ok (.tableswitch 1129 0 14 #[76, 120, 210, 288, 366, 441, 497, 574, 642, 710, 766, 841, 942, 1031, 1116], 76) := by decide +kernel
theorem dL_law_120 : decode cL_law 120 = .ok (.aload_n 1, 1) := by decide +kernel
theorem dL_law_121 : decode cL_law 121 = .ok (.aload_n 3, 1) := by decide +kernel
theorem dL_law_122 : decode cL_law 122 = .ok (.invokestatic 71, 3) := by decide +kernel
theorem dL_law_125 : decode cL_law 125 = .ok (.istore 6, 2) := by decide +kernel
theorem dL_law_127 : decode cL_law 127 = .ok (.aload_n 2, 1) := by decide +kernel
theorem dL_law_128 : decode cL_law 128 = .ok (.invokevirtual 76, 3) := by decide +kernel
theorem dL_law_131 : decode cL_law 131 = .ok (.istore 7, 2) := by decide +kernel
theorem dL_law_133 : decode cL_law 133 = .ok (.aload_n 2, 1) := by decide +kernel
theorem dL_law_134 : decode cL_law 134 = .ok (.invokevirtual 77, 3) := by decide +kernel
theorem dL_law_137 : decode cL_law 137 = .ok (.iload 6, 2) := by decide +kernel
theorem dL_law_139 : decode cL_law 139 = .ok (.if_icmp .eq 5, 3) := by decide +kernel
theorem dL_law_142 : decode cL_law 142 = .ok (.iconst 0, 1) := by decide +kernel
theorem dL_law_143 : decode cL_law 143 = .ok (.ireturn, 1) := by decide +kernel
theorem dL_law_144 : decode cL_law 144 = .ok (.iload 6, 2) := by decide +kernel
theorem dL_law_146 : decode cL_law 146 = .ok (.ifCond .ne 15, 3) := by decide +kernel
theorem dL_law_149 : decode cL_law 149 = .ok (.aload_n 3, 1) := by decide +kernel
theorem dL_law_150 : decode cL_law 150 = .ok (.iconst 0, 1) := by decide +kernel
theorem dL_law_151 : decode cL_law 151 = .ok (.laload, 1) := by decide +kernel
theorem dL_law_152 : decode cL_law 152 = .ok (.iload 7, 2) := by decide +kernel
theorem dL_law_154 : decode cL_law 154 = .ok (.i2l, 1) := by decide +kernel
theorem dL_law_155 : decode cL_law 155 = .ok (.lcmp, 1) := by decide +kernel
theorem dL_law_156 : decode cL_law 156 = .ok (.ifCond .eq 5, 3) := by decide +kernel
theorem dL_law_159 : decode cL_law 159 = .ok (.iconst 0, 1) := by decide +kernel
theorem dL_law_160 : decode cL_law 160 = .ok (.ireturn, 1) := by decide +kernel
theorem dL_law_161 : decode cL_law 161 = .ok (.goto 1012, 3) := by decide +kernel
theorem dL_law_164 : decode cL_law 164 = .ok (.aload_n 1, 1) := by decide +kernel
theorem dL_law_165 : decode cL_law 165 = .ok (.aload_n 0, 1) := by decide +kernel
theorem dL_law_166 : decode cL_law 166 = .ok (.iload 5, 2) := by decide +kernel
theorem dL_law_168 : decode cL_law 168 = .ok (.iconst 1, 1) := by decide +kernel
theorem dL_law_169 : decode cL_law 169 = .ok (.iadd, 1) := by decide +kernel
theorem dL_law_170 : decode cL_law 170 = .ok (.iaload, 1) := by decide +kernel
theorem dL_law_171 : decode cL_law 171 = .ok (.aload_n 0, 1) := by decide +kernel
theorem dL_law_172 : decode cL_law 172 = .ok (.iload 5, 2) := by decide +kernel
theorem dL_law_174 : decode cL_law 174 = .ok (.iconst 2, 1) := by decide +kernel
theorem dL_law_175 : decode cL_law 175 = .ok (.iadd, 1) := by decide +kernel
theorem dL_law_176 : decode cL_law 176 = .ok (.iaload, 1) := by decide +kernel
theorem dL_law_177 : decode cL_law 177 = .ok (.aload_n 0, 1) := by decide +kernel
theorem dL_law_178 : decode cL_law 178 = .ok (.iload 5, 2) := by decide +kernel
theorem dL_law_180 : decode cL_law 180 = .ok (.iconst 3, 1) := by decide +kernel
theorem dL_law_181 : decode cL_law 181 = .ok (.iadd, 1) := by decide +kernel
theorem dL_law_182 : decode cL_law 182 = .ok (.iaload, 1) := by decide +kernel
theorem dL_law_183 : decode cL_law 183 = .ok (.i2d, 1) := by decide +kernel
theorem dL_law_184 : decode cL_law 184 = .ok (.ldc2_w 80, 3) := by decide +kernel
theorem dL_law_187 : decode cL_law 187 = .ok (.dmul, 1) := by decide +kernel
theorem dL_law_188 : decode cL_law 188 = .ok (.aload_n 3, 1) := by decide +kernel
theorem dL_law_189 : decode cL_law 189 = .ok (.invokestatic 82, 3) := by decide +kernel
theorem dL_law_192 : decode cL_law 192 = .ok (.istore 6, 2) := by decide +kernel
theorem dL_law_194 : decode cL_law 194 = .ok (.aload_n 2, 1) := by decide +kernel
theorem dL_law_195 : decode cL_law 195 = .ok (.aload_n 0, 1) := by decide +kernel
theorem dL_law_196 : decode cL_law 196 = .ok (.iload 5, 2) := by decide +kernel
theorem dL_law_198 : decode cL_law 198 = .ok (.iconst 1, 1) := by decide +kernel
theorem dL_law_199 : decode cL_law 199 = .ok (.iadd, 1) := by decide +kernel
theorem dL_law_200 : decode cL_law 200 = .ok (.iaload, 1) := by decide +kernel
theorem dL_law_201 : decode cL_law 201 = .ok (.aload_n 0, 1) := by decide +kernel
theorem dL_law_202 : decode cL_law 202 = .ok (.iload 5, 2) := by decide +kernel
theorem dL_law_204 : decode cL_law 204 = .ok (.iconst 2, 1) := by decide +kernel
theorem dL_law_205 : decode cL_law 205 = .ok (.iadd, 1) := by decide +kernel
theorem dL_law_206 : decode cL_law 206 = .ok (.iaload, 1) := by decide +kernel
theorem dL_law_207 : decode cL_law 207 = .ok (.aload_n 0, 1) := by decide +kernel
theorem dL_law_208 : decode cL_law 208 = .ok (.iload 5, 2) := by decide +kernel
theorem dL_law_210 : decode cL_law 210 = .ok (.iconst 3, 1) := by decide +kernel
theorem dL_law_211 : decode cL_law 211 = .ok (.iadd, 1) := by decide +kernel
theorem dL_law_212 : decode cL_law 212 = .ok (.iaload, 1) := by decide +kernel
theorem dL_law_213 : decode cL_law 213 = .ok (.i2d, 1) := by decide +kernel
theorem dL_law_214 : decode cL_law 214 = .ok (.ldc2_w 80, 3) := by decide +kernel
theorem dL_law_217 : decode cL_law 217 = .ok (.dmul, 1) := by decide +kernel
theorem dL_law_218 : decode cL_law 218 = .ok (.invokevirtual 85, 3) := by decide +kernel
theorem dL_law_221 : decode cL_law 221 = .ok (.istore 7, 2) := by decide +kernel
theorem dL_law_223 : decode cL_law 223 = .ok (.aload_n 2, 1) := by decide +kernel
theorem dL_law_224 : decode cL_law 224 = .ok (.invokevirtual 77, 3) := by decide +kernel
theorem dL_law_227 : decode cL_law 227 = .ok (.iload 6, 2) := by decide +kernel
theorem dL_law_229 : decode cL_law 229 = .ok (.if_icmp .eq 5, 3) := by decide +kernel
theorem dL_law_232 : decode cL_law 232 = .ok (.iconst 0, 1) := by decide +kernel
theorem dL_law_233 : decode cL_law 233 = .ok (.ireturn, 1) := by decide +kernel
theorem dL_law_234 : decode cL_law 234 = .ok (.iload 6, 2) := by decide +kernel
theorem dL_law_236 : decode cL_law 236 = .ok (.ifCond .ne 15, 3) := by decide +kernel
theorem dL_law_239 : decode cL_law 239 = .ok (.aload_n 3, 1) := by decide +kernel
theorem dL_law_240 : decode cL_law 240 = .ok (.iconst 0, 1) := by decide +kernel
theorem dL_law_241 : decode cL_law 241 = .ok (.laload, 1) := by decide +kernel
theorem dL_law_242 : decode cL_law 242 = .ok (.iload 7, 2) := by decide +kernel
theorem dL_law_244 : decode cL_law 244 = .ok (.i2l, 1) := by decide +kernel
theorem dL_law_245 : decode cL_law 245 = .ok (.lcmp, 1) := by decide +kernel
theorem dL_law_246 : decode cL_law 246 = .ok (.ifCond .eq 5, 3) := by decide +kernel
theorem dL_law_249 : decode cL_law 249 = .ok (.iconst 0, 1) := by decide +kernel
theorem dL_law_250 : decode cL_law 250 = .ok (.ireturn, 1) := by decide +kernel
theorem dL_law_251 : decode cL_law 251 = .ok (.goto 922, 3) := by decide +kernel
theorem dL_law_254 : decode cL_law 254 = .ok (.aload_n 1, 1) := by decide +kernel
theorem dL_law_255 : decode cL_law 255 = .ok (.aload_n 0, 1) := by decide +kernel
theorem dL_law_256 : decode cL_law 256 = .ok (.iload 5, 2) := by decide +kernel
theorem dL_law_258 : decode cL_law 258 = .ok (.iconst 1, 1) := by decide +kernel
theorem dL_law_259 : decode cL_law 259 = .ok (.iadd, 1) := by decide +kernel
theorem dL_law_260 : decode cL_law 260 = .ok (.iaload, 1) := by decide +kernel
theorem dL_law_261 : decode cL_law 261 = .ok (.aload_n 0, 1) := by decide +kernel
theorem dL_law_262 : decode cL_law 262 = .ok (.iload 5, 2) := by decide +kernel
theorem dL_law_264 : decode cL_law 264 = .ok (.iconst 2, 1) := by decide +kernel
theorem dL_law_265 : decode cL_law 265 = .ok (.iadd, 1) := by decide +kernel
theorem dL_law_266 : decode cL_law 266 = .ok (.iaload, 1) := by decide +kernel
theorem dL_law_267 : decode cL_law 267 = .ok (.i2d, 1) := by decide +kernel
theorem dL_law_268 : decode cL_law 268 = .ok (.ldc2_w 80, 3) := by decide +kernel
theorem dL_law_271 : decode cL_law 271 = .ok (.dmul, 1) := by decide +kernel
theorem dL_law_272 : decode cL_law 272 = .ok (.aload_n 3, 1) := by decide +kernel
theorem dL_law_273 : decode cL_law 273 = .ok (.invokestatic 86, 3) := by decide +kernel
theorem dL_law_276 : decode cL_law 276 = .ok (.istore 6, 2) := by decide +kernel
theorem dL_law_278 : decode cL_law 278 = .ok (.aload_n 2, 1) := by decide +kernel
theorem dL_law_279 : decode cL_law 279 = .ok (.aload_n 0, 1) := by decide +kernel
theorem dL_law_280 : decode cL_law 280 = .ok (.iload 5, 2) := by decide +kernel
theorem dL_law_282 : decode cL_law 282 = .ok (.iconst 1, 1) := by decide +kernel
theorem dL_law_283 : decode cL_law 283 = .ok (.iadd, 1) := by decide +kernel
theorem dL_law_284 : decode cL_law 284 = .ok (.iaload, 1) := by decide +kernel
theorem dL_law_285 : decode cL_law 285 = .ok (.aload_n 0, 1) := by decide +kernel
theorem dL_law_286 : decode cL_law 286 = .ok (.iload 5, 2) := by decide +kernel
theorem dL_law_288 : decode cL_law 288 = .ok (.iconst 2, 1) := by decide +kernel
theorem dL_law_289 : decode cL_law 289 = .ok (.iadd, 1) := by decide +kernel
theorem dL_law_290 : decode cL_law 290 = .ok (.iaload, 1) := by decide +kernel
theorem dL_law_291 : decode cL_law 291 = .ok (.i2d, 1) := by decide +kernel
theorem dL_law_292 : decode cL_law 292 = .ok (.ldc2_w 80, 3) := by decide +kernel
theorem dL_law_295 : decode cL_law 295 = .ok (.dmul, 1) := by decide +kernel
theorem dL_law_296 : decode cL_law 296 = .ok (.invokevirtual 89, 3) := by decide +kernel
theorem dL_law_299 : decode cL_law 299 = .ok (.istore 7, 2) := by decide +kernel
theorem dL_law_301 : decode cL_law 301 = .ok (.aload_n 2, 1) := by decide +kernel
theorem dL_law_302 : decode cL_law 302 = .ok (.invokevirtual 77, 3) := by decide +kernel
theorem dL_law_305 : decode cL_law 305 = .ok (.iload 6, 2) := by decide +kernel
theorem dL_law_307 : decode cL_law 307 = .ok (.if_icmp .eq 5, 3) := by decide +kernel
theorem dL_law_310 : decode cL_law 310 = .ok (.iconst 0, 1) := by decide +kernel
theorem dL_law_311 : decode cL_law 311 = .ok (.ireturn, 1) := by decide +kernel
theorem dL_law_312 : decode cL_law 312 = .ok (.iload 6, 2) := by decide +kernel
theorem dL_law_314 : decode cL_law 314 = .ok (.ifCond .ne 15, 3) := by decide +kernel
theorem dL_law_317 : decode cL_law 317 = .ok (.aload_n 3, 1) := by decide +kernel
theorem dL_law_318 : decode cL_law 318 = .ok (.iconst 0, 1) := by decide +kernel
theorem dL_law_319 : decode cL_law 319 = .ok (.laload, 1) := by decide +kernel
theorem dL_law_320 : decode cL_law 320 = .ok (.iload 7, 2) := by decide +kernel
theorem dL_law_322 : decode cL_law 322 = .ok (.i2l, 1) := by decide +kernel
theorem dL_law_323 : decode cL_law 323 = .ok (.lcmp, 1) := by decide +kernel
theorem dL_law_324 : decode cL_law 324 = .ok (.ifCond .eq 5, 3) := by decide +kernel
theorem dL_law_327 : decode cL_law 327 = .ok (.iconst 0, 1) := by decide +kernel
theorem dL_law_328 : decode cL_law 328 = .ok (.ireturn, 1) := by decide +kernel
theorem dL_law_329 : decode cL_law 329 = .ok (.goto 844, 3) := by decide +kernel
theorem dL_law_332 : decode cL_law 332 = .ok (.aload_n 1, 1) := by decide +kernel
theorem dL_law_333 : decode cL_law 333 = .ok (.aload_n 0, 1) := by decide +kernel
theorem dL_law_334 : decode cL_law 334 = .ok (.iload 5, 2) := by decide +kernel
theorem dL_law_336 : decode cL_law 336 = .ok (.iconst 1, 1) := by decide +kernel
theorem dL_law_337 : decode cL_law 337 = .ok (.iadd, 1) := by decide +kernel
theorem dL_law_338 : decode cL_law 338 = .ok (.iaload, 1) := by decide +kernel
theorem dL_law_339 : decode cL_law 339 = .ok (.aload_n 0, 1) := by decide +kernel
theorem dL_law_340 : decode cL_law 340 = .ok (.iload 5, 2) := by decide +kernel
theorem dL_law_342 : decode cL_law 342 = .ok (.iconst 2, 1) := by decide +kernel
theorem dL_law_343 : decode cL_law 343 = .ok (.iadd, 1) := by decide +kernel
theorem dL_law_344 : decode cL_law 344 = .ok (.iaload, 1) := by decide +kernel
theorem dL_law_345 : decode cL_law 345 = .ok (.i2d, 1) := by decide +kernel
theorem dL_law_346 : decode cL_law 346 = .ok (.ldc2_w 80, 3) := by decide +kernel
theorem dL_law_349 : decode cL_law 349 = .ok (.dmul, 1) := by decide +kernel
theorem dL_law_350 : decode cL_law 350 = .ok (.aload_n 3, 1) := by decide +kernel
theorem dL_law_351 : decode cL_law 351 = .ok (.invokestatic 90, 3) := by decide +kernel
theorem dL_law_354 : decode cL_law 354 = .ok (.istore 6, 2) := by decide +kernel
theorem dL_law_356 : decode cL_law 356 = .ok (.aload_n 2, 1) := by decide +kernel
theorem dL_law_357 : decode cL_law 357 = .ok (.aload_n 0, 1) := by decide +kernel
theorem dL_law_358 : decode cL_law 358 = .ok (.iload 5, 2) := by decide +kernel
theorem dL_law_360 : decode cL_law 360 = .ok (.iconst 1, 1) := by decide +kernel
theorem dL_law_361 : decode cL_law 361 = .ok (.iadd, 1) := by decide +kernel
theorem dL_law_362 : decode cL_law 362 = .ok (.iaload, 1) := by decide +kernel
theorem dL_law_363 : decode cL_law 363 = .ok (.aload_n 0, 1) := by decide +kernel
theorem dL_law_364 : decode cL_law 364 = .ok (.iload 5, 2) := by decide +kernel
theorem dL_law_366 : decode cL_law 366 = .ok (.iconst 2, 1) := by decide +kernel
theorem dL_law_367 : decode cL_law 367 = .ok (.iadd, 1) := by decide +kernel
theorem dL_law_368 : decode cL_law 368 = .ok (.iaload, 1) := by decide +kernel
theorem dL_law_369 : decode cL_law 369 = .ok (.i2d, 1) := by decide +kernel
theorem dL_law_370 : decode cL_law 370 = .ok (.ldc2_w 80, 3) := by decide +kernel
theorem dL_law_373 : decode cL_law 373 = .ok (.dmul, 1) := by decide +kernel
theorem dL_law_374 : decode cL_law 374 = .ok (.invokevirtual 92, 3) := by decide +kernel
theorem dL_law_377 : decode cL_law 377 = .ok (.istore 7, 2) := by decide +kernel
theorem dL_law_379 : decode cL_law 379 = .ok (.aload_n 2, 1) := by decide +kernel
theorem dL_law_380 : decode cL_law 380 = .ok (.invokevirtual 77, 3) := by decide +kernel
theorem dL_law_383 : decode cL_law 383 = .ok (.iload 6, 2) := by decide +kernel
theorem dL_law_385 : decode cL_law 385 = .ok (.if_icmp .eq 5, 3) := by decide +kernel
theorem dL_law_388 : decode cL_law 388 = .ok (.iconst 0, 1) := by decide +kernel
theorem dL_law_389 : decode cL_law 389 = .ok (.ireturn, 1) := by decide +kernel
theorem dL_law_390 : decode cL_law 390 = .ok (.iload 6, 2) := by decide +kernel
theorem dL_law_392 : decode cL_law 392 = .ok (.ifCond .ne 15, 3) := by decide +kernel
theorem dL_law_395 : decode cL_law 395 = .ok (.aload_n 3, 1) := by decide +kernel
theorem dL_law_396 : decode cL_law 396 = .ok (.iconst 0, 1) := by decide +kernel
theorem dL_law_397 : decode cL_law 397 = .ok (.laload, 1) := by decide +kernel
theorem dL_law_398 : decode cL_law 398 = .ok (.iload 7, 2) := by decide +kernel
theorem dL_law_400 : decode cL_law 400 = .ok (.i2l, 1) := by decide +kernel
theorem dL_law_401 : decode cL_law 401 = .ok (.lcmp, 1) := by decide +kernel
theorem dL_law_402 : decode cL_law 402 = .ok (.ifCond .eq 5, 3) := by decide +kernel
theorem dL_law_405 : decode cL_law 405 = .ok (.iconst 0, 1) := by decide +kernel
theorem dL_law_406 : decode cL_law 406 = .ok (.ireturn, 1) := by decide +kernel
theorem dL_law_407 : decode cL_law 407 = .ok (.goto 766, 3) := by decide +kernel
theorem dL_law_410 : decode cL_law 410 = .ok (.aload_n 1, 1) := by decide +kernel
theorem dL_law_411 : decode cL_law 411 = .ok (.aload_n 0, 1) := by decide +kernel
theorem dL_law_412 : decode cL_law 412 = .ok (.iload 5, 2) := by decide +kernel
theorem dL_law_414 : decode cL_law 414 = .ok (.iconst 1, 1) := by decide +kernel
theorem dL_law_415 : decode cL_law 415 = .ok (.iadd, 1) := by decide +kernel
theorem dL_law_416 : decode cL_law 416 = .ok (.iaload, 1) := by decide +kernel
theorem dL_law_417 : decode cL_law 417 = .ok (.aload_n 0, 1) := by decide +kernel
theorem dL_law_418 : decode cL_law 418 = .ok (.iload 5, 2) := by decide +kernel
theorem dL_law_420 : decode cL_law 420 = .ok (.iconst 2, 1) := by decide +kernel
theorem dL_law_421 : decode cL_law 421 = .ok (.iadd, 1) := by decide +kernel
theorem dL_law_422 : decode cL_law 422 = .ok (.iaload, 1) := by decide +kernel
theorem dL_law_423 : decode cL_law 423 = .ok (.aload_n 3, 1) := by decide +kernel
theorem dL_law_424 : decode cL_law 424 = .ok (.invokestatic 93, 3) := by decide +kernel
theorem dL_law_427 : decode cL_law 427 = .ok (.istore 6, 2) := by decide +kernel
theorem dL_law_429 : decode cL_law 429 = .ok (.aload_n 2, 1) := by decide +kernel
theorem dL_law_430 : decode cL_law 430 = .ok (.aload_n 0, 1) := by decide +kernel
theorem dL_law_431 : decode cL_law 431 = .ok (.iload 5, 2) := by decide +kernel
theorem dL_law_433 : decode cL_law 433 = .ok (.iconst 1, 1) := by decide +kernel
theorem dL_law_434 : decode cL_law 434 = .ok (.iadd, 1) := by decide +kernel
theorem dL_law_435 : decode cL_law 435 = .ok (.iaload, 1) := by decide +kernel
theorem dL_law_436 : decode cL_law 436 = .ok (.aload_n 0, 1) := by decide +kernel
theorem dL_law_437 : decode cL_law 437 = .ok (.iload 5, 2) := by decide +kernel
theorem dL_law_439 : decode cL_law 439 = .ok (.iconst 2, 1) := by decide +kernel
theorem dL_law_440 : decode cL_law 440 = .ok (.iadd, 1) := by decide +kernel
theorem dL_law_441 : decode cL_law 441 = .ok (.iaload, 1) := by decide +kernel
theorem dL_law_442 : decode cL_law 442 = .ok (.invokevirtual 96, 3) := by decide +kernel
theorem dL_law_445 : decode cL_law 445 = .ok (.istore 7, 2) := by decide +kernel
theorem dL_law_447 : decode cL_law 447 = .ok (.aload_n 2, 1) := by decide +kernel
theorem dL_law_448 : decode cL_law 448 = .ok (.invokevirtual 77, 3) := by decide +kernel
theorem dL_law_451 : decode cL_law 451 = .ok (.iload 6, 2) := by decide +kernel
theorem dL_law_453 : decode cL_law 453 = .ok (.if_icmp .eq 5, 3) := by decide +kernel
theorem dL_law_456 : decode cL_law 456 = .ok (.iconst 0, 1) := by decide +kernel
theorem dL_law_457 : decode cL_law 457 = .ok (.ireturn, 1) := by decide +kernel
theorem dL_law_458 : decode cL_law 458 = .ok (.iload 6, 2) := by decide +kernel
theorem dL_law_460 : decode cL_law 460 = .ok (.ifCond .ne 22, 3) := by decide +kernel
theorem dL_law_463 : decode cL_law 463 = .ok (.aload_n 3, 1) := by decide +kernel
theorem dL_law_464 : decode cL_law 464 = .ok (.iconst 0, 1) := by decide +kernel
theorem dL_law_465 : decode cL_law 465 = .ok (.laload, 1) := by decide +kernel
theorem dL_law_466 : decode cL_law 466 = .ok (.iload 7, 2) := by decide +kernel
theorem dL_law_468 : decode cL_law 468 = .ok (.ifCond .eq 7, 3) := by decide +kernel
theorem dL_law_471 : decode cL_law 471 = .ok (.lconst 1, 1) := by decide +kernel
theorem dL_law_472 : decode cL_law 472 = .ok (.goto 4, 3) := by decide +kernel
theorem dL_law_475 : decode cL_law 475 = .ok (.lconst 0, 1) := by decide +kernel
theorem dL_law_476 : decode cL_law 476 = .ok (.lcmp, 1) := by decide +kernel
theorem dL_law_477 : decode cL_law 477 = .ok (.ifCond .eq 5, 3) := by decide +kernel
theorem dL_law_480 : decode cL_law 480 = .ok (.iconst 0, 1) := by decide +kernel
theorem dL_law_481 : decode cL_law 481 = .ok (.ireturn, 1) := by decide +kernel
theorem dL_law_482 : decode cL_law 482 = .ok (.goto 691, 3) := by decide +kernel
theorem dL_law_485 : decode cL_law 485 = .ok (.aload_n 1, 1) := by decide +kernel
theorem dL_law_486 : decode cL_law 486 = .ok (.aload_n 0, 1) := by decide +kernel
theorem dL_law_487 : decode cL_law 487 = .ok (.iload 5, 2) := by decide +kernel
theorem dL_law_489 : decode cL_law 489 = .ok (.iconst 1, 1) := by decide +kernel
theorem dL_law_490 : decode cL_law 490 = .ok (.iadd, 1) := by decide +kernel
theorem dL_law_491 : decode cL_law 491 = .ok (.iaload, 1) := by decide +kernel
theorem dL_law_492 : decode cL_law 492 = .ok (.aload_n 3, 1) := by decide +kernel
theorem dL_law_493 : decode cL_law 493 = .ok (.invokestatic 97, 3) := by decide +kernel
theorem dL_law_496 : decode cL_law 496 = .ok (.istore 6, 2) := by decide +kernel
theorem dL_law_498 : decode cL_law 498 = .ok (.aload_n 2, 1) := by decide +kernel
theorem dL_law_499 : decode cL_law 499 = .ok (.aload_n 0, 1) := by decide +kernel
theorem dL_law_500 : decode cL_law 500 = .ok (.iload 5, 2) := by decide +kernel
theorem dL_law_502 : decode cL_law 502 = .ok (.iconst 1, 1) := by decide +kernel
theorem dL_law_503 : decode cL_law 503 = .ok (.iadd, 1) := by decide +kernel
theorem dL_law_504 : decode cL_law 504 = .ok (.iaload, 1) := by decide +kernel
theorem dL_law_505 : decode cL_law 505 = .ok (.invokevirtual 100, 3) := by decide +kernel
theorem dL_law_508 : decode cL_law 508 = .ok (.istore 7, 2) := by decide +kernel
theorem dL_law_510 : decode cL_law 510 = .ok (.aload_n 2, 1) := by decide +kernel
theorem dL_law_511 : decode cL_law 511 = .ok (.invokevirtual 77, 3) := by decide +kernel
theorem dL_law_514 : decode cL_law 514 = .ok (.iload 6, 2) := by decide +kernel
theorem dL_law_516 : decode cL_law 516 = .ok (.if_icmp .eq 5, 3) := by decide +kernel
theorem dL_law_519 : decode cL_law 519 = .ok (.iconst 0, 1) := by decide +kernel
theorem dL_law_520 : decode cL_law 520 = .ok (.ireturn, 1) := by decide +kernel
theorem dL_law_521 : decode cL_law 521 = .ok (.iload 6, 2) := by decide +kernel
theorem dL_law_523 : decode cL_law 523 = .ok (.ifCond .ne 15, 3) := by decide +kernel
theorem dL_law_526 : decode cL_law 526 = .ok (.aload_n 3, 1) := by decide +kernel
theorem dL_law_527 : decode cL_law 527 = .ok (.iconst 0, 1) := by decide +kernel
theorem dL_law_528 : decode cL_law 528 = .ok (.laload, 1) := by decide +kernel
theorem dL_law_529 : decode cL_law 529 = .ok (.iload 7, 2) := by decide +kernel
theorem dL_law_531 : decode cL_law 531 = .ok (.i2l, 1) := by decide +kernel
theorem dL_law_532 : decode cL_law 532 = .ok (.lcmp, 1) := by decide +kernel
theorem dL_law_533 : decode cL_law 533 = .ok (.ifCond .eq 5, 3) := by decide +kernel
theorem dL_law_536 : decode cL_law 536 = .ok (.iconst 0, 1) := by decide +kernel
theorem dL_law_537 : decode cL_law 537 = .ok (.ireturn, 1) := by decide +kernel
theorem dL_law_538 : decode cL_law 538 = .ok (.goto 635, 3) := by decide +kernel
theorem dL_law_541 : decode cL_law 541 = .ok (.aload_n 1, 1) := by decide +kernel
theorem dL_law_542 : decode cL_law 542 = .ok (.aload_n 0, 1) := by decide +kernel
theorem dL_law_543 : decode cL_law 543 = .ok (.iload 5, 2) := by decide +kernel
theorem dL_law_545 : decode cL_law 545 = .ok (.iconst 1, 1) := by decide +kernel
theorem dL_law_546 : decode cL_law 546 = .ok (.iadd, 1) := by decide +kernel
theorem dL_law_547 : decode cL_law 547 = .ok (.iaload, 1) := by decide +kernel
theorem dL_law_548 : decode cL_law 548 = .ok (.aload 4, 2) := by decide +kernel
theorem dL_law_550 : decode cL_law 550 = .ok (.invokestatic 101, 3) := by decide +kernel
theorem dL_law_553 : decode cL_law 553 = .ok (.istore 6, 2) := by decide +kernel
theorem dL_law_555 : decode cL_law 555 = .ok (.aload_n 2, 1) := by decide +kernel
theorem dL_law_556 : decode cL_law 556 = .ok (.aload_n 0, 1) := by decide +kernel
theorem dL_law_557 : decode cL_law 557 = .ok (.iload 5, 2) := by decide +kernel
theorem dL_law_559 : decode cL_law 559 = .ok (.iconst 1, 1) := by decide +kernel
theorem dL_law_560 : decode cL_law 560 = .ok (.iadd, 1) := by decide +kernel
theorem dL_law_561 : decode cL_law 561 = .ok (.iaload, 1) := by decide +kernel
theorem dL_law_562 : decode cL_law 562 = .ok (.invokevirtual 104, 3) := by decide +kernel
theorem dL_law_565 : decode cL_law 565 = .ok (.dstore 7, 2) := by decide +kernel
theorem dL_law_567 : decode cL_law 567 = .ok (.aload_n 2, 1) := by decide +kernel
theorem dL_law_568 : decode cL_law 568 = .ok (.invokevirtual 77, 3) := by decide +kernel
theorem dL_law_571 : decode cL_law 571 = .ok (.iload 6, 2) := by decide +kernel
theorem dL_law_573 : decode cL_law 573 = .ok (.if_icmp .eq 5, 3) := by decide +kernel
theorem dL_law_576 : decode cL_law 576 = .ok (.iconst 0, 1) := by decide +kernel
theorem dL_law_577 : decode cL_law 577 = .ok (.ireturn, 1) := by decide +kernel
theorem dL_law_578 : decode cL_law 578 = .ok (.iload 6, 2) := by decide +kernel
theorem dL_law_580 : decode cL_law 580 = .ok (.ifCond .ne 35, 3) := by decide +kernel
theorem dL_law_583 : decode cL_law 583 = .ok (.aload 4, 2) := by decide +kernel
theorem dL_law_585 : decode cL_law 585 = .ok (.iconst 0, 1) := by decide +kernel
theorem dL_law_586 : decode cL_law 586 = .ok (.daload, 1) := by decide +kernel
theorem dL_law_587 : decode cL_law 587 = .ok (.dload 7, 2) := by decide +kernel
theorem dL_law_589 : decode cL_law 589 = .ok (.dcmp .l, 1) := by decide +kernel
theorem dL_law_590 : decode cL_law 590 = .ok (.ifCond .eq 25, 3) := by decide +kernel
theorem dL_law_593 : decode cL_law 593 = .ok (.aload 4, 2) := by decide +kernel
theorem dL_law_595 : decode cL_law 595 = .ok (.iconst 0, 1) := by decide +kernel
theorem dL_law_596 : decode cL_law 596 = .ok (.daload, 1) := by decide +kernel
theorem dL_law_597 : decode cL_law 597 = .ok (.aload 4, 2) := by decide +kernel
theorem dL_law_599 : decode cL_law 599 = .ok (.iconst 0, 1) := by decide +kernel
theorem dL_law_600 : decode cL_law 600 = .ok (.daload, 1) := by decide +kernel
theorem dL_law_601 : decode cL_law 601 = .ok (.dcmp .l, 1) := by decide +kernel
theorem dL_law_602 : decode cL_law 602 = .ok (.ifCond .eq 11, 3) := by decide +kernel
theorem dL_law_605 : decode cL_law 605 = .ok (.dload 7, 2) := by decide +kernel
theorem dL_law_607 : decode cL_law 607 = .ok (.dload 7, 2) := by decide +kernel
theorem dL_law_609 : decode cL_law 609 = .ok (.dcmp .l, 1) := by decide +kernel
theorem dL_law_610 : decode cL_law 610 = .ok (.ifCond .ne 5, 3) := by decide +kernel
theorem dL_law_613 : decode cL_law 613 = .ok (.iconst 0, 1) := by decide +kernel
theorem dL_law_614 : decode cL_law 614 = .ok (.ireturn, 1) := by decide +kernel
theorem dL_law_615 : decode cL_law 615 = .ok (.goto 558, 3) := by decide +kernel
theorem dL_law_618 : decode cL_law 618 = .ok (.aload_n 1, 1) := by decide +kernel
theorem dL_law_619 : decode cL_law 619 = .ok (.aload_n 0, 1) := by decide +kernel
theorem dL_law_620 : decode cL_law 620 = .ok (.iload 5, 2) := by decide +kernel
theorem dL_law_622 : decode cL_law 622 = .ok (.iconst 1, 1) := by decide +kernel
theorem dL_law_623 : decode cL_law 623 = .ok (.iadd, 1) := by decide +kernel
theorem dL_law_624 : decode cL_law 624 = .ok (.iaload, 1) := by decide +kernel
theorem dL_law_625 : decode cL_law 625 = .ok (.aload_n 0, 1) := by decide +kernel
theorem dL_law_626 : decode cL_law 626 = .ok (.iload 5, 2) := by decide +kernel
theorem dL_law_628 : decode cL_law 628 = .ok (.iconst 2, 1) := by decide +kernel
theorem dL_law_629 : decode cL_law 629 = .ok (.iadd, 1) := by decide +kernel
theorem dL_law_630 : decode cL_law 630 = .ok (.iaload, 1) := by decide +kernel
theorem dL_law_631 : decode cL_law 631 = .ok (.aload_n 3, 1) := by decide +kernel
theorem dL_law_632 : decode cL_law 632 = .ok (.invokestatic 105, 3) := by decide +kernel
theorem dL_law_635 : decode cL_law 635 = .ok (.istore 6, 2) := by decide +kernel
theorem dL_law_637 : decode cL_law 637 = .ok (.aload_n 2, 1) := by decide +kernel
theorem dL_law_638 : decode cL_law 638 = .ok (.aload_n 0, 1) := by decide +kernel
theorem dL_law_639 : decode cL_law 639 = .ok (.iload 5, 2) := by decide +kernel
theorem dL_law_641 : decode cL_law 641 = .ok (.iconst 1, 1) := by decide +kernel
theorem dL_law_642 : decode cL_law 642 = .ok (.iadd, 1) := by decide +kernel
theorem dL_law_643 : decode cL_law 643 = .ok (.iaload, 1) := by decide +kernel
theorem dL_law_644 : decode cL_law 644 = .ok (.aload_n 0, 1) := by decide +kernel
theorem dL_law_645 : decode cL_law 645 = .ok (.iload 5, 2) := by decide +kernel
theorem dL_law_647 : decode cL_law 647 = .ok (.iconst 2, 1) := by decide +kernel
theorem dL_law_648 : decode cL_law 648 = .ok (.iadd, 1) := by decide +kernel
theorem dL_law_649 : decode cL_law 649 = .ok (.iaload, 1) := by decide +kernel
theorem dL_law_650 : decode cL_law 650 = .ok (.invokevirtual 107, 3) := by decide +kernel
theorem dL_law_653 : decode cL_law 653 = .ok (.istore 7, 2) := by decide +kernel
theorem dL_law_655 : decode cL_law 655 = .ok (.aload_n 2, 1) := by decide +kernel
theorem dL_law_656 : decode cL_law 656 = .ok (.invokevirtual 77, 3) := by decide +kernel
theorem dL_law_659 : decode cL_law 659 = .ok (.iload 6, 2) := by decide +kernel
theorem dL_law_661 : decode cL_law 661 = .ok (.if_icmp .eq 5, 3) := by decide +kernel
theorem dL_law_664 : decode cL_law 664 = .ok (.iconst 0, 1) := by decide +kernel
theorem dL_law_665 : decode cL_law 665 = .ok (.ireturn, 1) := by decide +kernel
theorem dL_law_666 : decode cL_law 666 = .ok (.iload 6, 2) := by decide +kernel
theorem dL_law_668 : decode cL_law 668 = .ok (.ifCond .ne 15, 3) := by decide +kernel
theorem dL_law_671 : decode cL_law 671 = .ok (.aload_n 3, 1) := by decide +kernel
theorem dL_law_672 : decode cL_law 672 = .ok (.iconst 0, 1) := by decide +kernel
theorem dL_law_673 : decode cL_law 673 = .ok (.laload, 1) := by decide +kernel
theorem dL_law_674 : decode cL_law 674 = .ok (.iload 7, 2) := by decide +kernel
theorem dL_law_676 : decode cL_law 676 = .ok (.i2l, 1) := by decide +kernel
theorem dL_law_677 : decode cL_law 677 = .ok (.lcmp, 1) := by decide +kernel
theorem dL_law_678 : decode cL_law 678 = .ok (.ifCond .eq 5, 3) := by decide +kernel
theorem dL_law_681 : decode cL_law 681 = .ok (.iconst 0, 1) := by decide +kernel
theorem dL_law_682 : decode cL_law 682 = .ok (.ireturn, 1) := by decide +kernel
theorem dL_law_683 : decode cL_law 683 = .ok (.goto 490, 3) := by decide +kernel
theorem dL_law_686 : decode cL_law 686 = .ok (.aload_n 1, 1) := by decide +kernel
theorem dL_law_687 : decode cL_law 687 = .ok (.aload_n 0, 1) := by decide +kernel
theorem dL_law_688 : decode cL_law 688 = .ok (.iload 5, 2) := by decide +kernel
theorem dL_law_690 : decode cL_law 690 = .ok (.iconst 1, 1) := by decide +kernel
theorem dL_law_691 : decode cL_law 691 = .ok (.iadd, 1) := by decide +kernel
theorem dL_law_692 : decode cL_law 692 = .ok (.iaload, 1) := by decide +kernel
theorem dL_law_693 : decode cL_law 693 = .ok (.aload_n 0, 1) := by decide +kernel
theorem dL_law_694 : decode cL_law 694 = .ok (.iload 5, 2) := by decide +kernel
theorem dL_law_696 : decode cL_law 696 = .ok (.iconst 2, 1) := by decide +kernel
theorem dL_law_697 : decode cL_law 697 = .ok (.iadd, 1) := by decide +kernel
theorem dL_law_698 : decode cL_law 698 = .ok (.iaload, 1) := by decide +kernel
theorem dL_law_699 : decode cL_law 699 = .ok (.aload_n 3, 1) := by decide +kernel
theorem dL_law_700 : decode cL_law 700 = .ok (.invokestatic 108, 3) := by decide +kernel
theorem dL_law_703 : decode cL_law 703 = .ok (.istore 6, 2) := by decide +kernel
theorem dL_law_705 : decode cL_law 705 = .ok (.aload_n 2, 1) := by decide +kernel
theorem dL_law_706 : decode cL_law 706 = .ok (.aload_n 0, 1) := by decide +kernel
theorem dL_law_707 : decode cL_law 707 = .ok (.iload 5, 2) := by decide +kernel
theorem dL_law_709 : decode cL_law 709 = .ok (.iconst 1, 1) := by decide +kernel
theorem dL_law_710 : decode cL_law 710 = .ok (.iadd, 1) := by decide +kernel
theorem dL_law_711 : decode cL_law 711 = .ok (.iaload, 1) := by decide +kernel
theorem dL_law_712 : decode cL_law 712 = .ok (.aload_n 0, 1) := by decide +kernel
theorem dL_law_713 : decode cL_law 713 = .ok (.iload 5, 2) := by decide +kernel
theorem dL_law_715 : decode cL_law 715 = .ok (.iconst 2, 1) := by decide +kernel
theorem dL_law_716 : decode cL_law 716 = .ok (.iadd, 1) := by decide +kernel
theorem dL_law_717 : decode cL_law 717 = .ok (.iaload, 1) := by decide +kernel
theorem dL_law_718 : decode cL_law 718 = .ok (.invokevirtual 110, 3) := by decide +kernel
theorem dL_law_721 : decode cL_law 721 = .ok (.istore 7, 2) := by decide +kernel
theorem dL_law_723 : decode cL_law 723 = .ok (.aload_n 2, 1) := by decide +kernel
theorem dL_law_724 : decode cL_law 724 = .ok (.invokevirtual 77, 3) := by decide +kernel
theorem dL_law_727 : decode cL_law 727 = .ok (.iload 6, 2) := by decide +kernel
theorem dL_law_729 : decode cL_law 729 = .ok (.if_icmp .eq 5, 3) := by decide +kernel
theorem dL_law_732 : decode cL_law 732 = .ok (.iconst 0, 1) := by decide +kernel
theorem dL_law_733 : decode cL_law 733 = .ok (.ireturn, 1) := by decide +kernel
theorem dL_law_734 : decode cL_law 734 = .ok (.iload 6, 2) := by decide +kernel
theorem dL_law_736 : decode cL_law 736 = .ok (.ifCond .ne 15, 3) := by decide +kernel
theorem dL_law_739 : decode cL_law 739 = .ok (.aload_n 3, 1) := by decide +kernel
theorem dL_law_740 : decode cL_law 740 = .ok (.iconst 0, 1) := by decide +kernel
theorem dL_law_741 : decode cL_law 741 = .ok (.laload, 1) := by decide +kernel
theorem dL_law_742 : decode cL_law 742 = .ok (.iload 7, 2) := by decide +kernel
theorem dL_law_744 : decode cL_law 744 = .ok (.i2l, 1) := by decide +kernel
theorem dL_law_745 : decode cL_law 745 = .ok (.lcmp, 1) := by decide +kernel
theorem dL_law_746 : decode cL_law 746 = .ok (.ifCond .eq 5, 3) := by decide +kernel
theorem dL_law_749 : decode cL_law 749 = .ok (.iconst 0, 1) := by decide +kernel
theorem dL_law_750 : decode cL_law 750 = .ok (.ireturn, 1) := by decide +kernel
theorem dL_law_751 : decode cL_law 751 = .ok (.goto 422, 3) := by decide +kernel
theorem dL_law_754 : decode cL_law 754 = .ok (.aload_n 1, 1) := by decide +kernel
theorem dL_law_755 : decode cL_law 755 = .ok (.aload_n 0, 1) := by decide +kernel
theorem dL_law_756 : decode cL_law 756 = .ok (.iload 5, 2) := by decide +kernel
theorem dL_law_758 : decode cL_law 758 = .ok (.iconst 1, 1) := by decide +kernel
theorem dL_law_759 : decode cL_law 759 = .ok (.iadd, 1) := by decide +kernel
theorem dL_law_760 : decode cL_law 760 = .ok (.iaload, 1) := by decide +kernel
theorem dL_law_761 : decode cL_law 761 = .ok (.aload_n 3, 1) := by decide +kernel
theorem dL_law_762 : decode cL_law 762 = .ok (.invokestatic 111, 3) := by decide +kernel
theorem dL_law_765 : decode cL_law 765 = .ok (.istore 6, 2) := by decide +kernel
theorem dL_law_767 : decode cL_law 767 = .ok (.aload_n 2, 1) := by decide +kernel
theorem dL_law_768 : decode cL_law 768 = .ok (.aload_n 0, 1) := by decide +kernel
theorem dL_law_769 : decode cL_law 769 = .ok (.iload 5, 2) := by decide +kernel
theorem dL_law_771 : decode cL_law 771 = .ok (.iconst 1, 1) := by decide +kernel
theorem dL_law_772 : decode cL_law 772 = .ok (.iadd, 1) := by decide +kernel
theorem dL_law_773 : decode cL_law 773 = .ok (.iaload, 1) := by decide +kernel
theorem dL_law_774 : decode cL_law 774 = .ok (.invokevirtual 113, 3) := by decide +kernel
theorem dL_law_777 : decode cL_law 777 = .ok (.istore 7, 2) := by decide +kernel
theorem dL_law_779 : decode cL_law 779 = .ok (.aload_n 2, 1) := by decide +kernel
theorem dL_law_780 : decode cL_law 780 = .ok (.invokevirtual 77, 3) := by decide +kernel
theorem dL_law_783 : decode cL_law 783 = .ok (.iload 6, 2) := by decide +kernel
theorem dL_law_785 : decode cL_law 785 = .ok (.if_icmp .eq 5, 3) := by decide +kernel
theorem dL_law_788 : decode cL_law 788 = .ok (.iconst 0, 1) := by decide +kernel
theorem dL_law_789 : decode cL_law 789 = .ok (.ireturn, 1) := by decide +kernel
theorem dL_law_790 : decode cL_law 790 = .ok (.iload 6, 2) := by decide +kernel
theorem dL_law_792 : decode cL_law 792 = .ok (.ifCond .ne 15, 3) := by decide +kernel
theorem dL_law_795 : decode cL_law 795 = .ok (.aload_n 3, 1) := by decide +kernel
theorem dL_law_796 : decode cL_law 796 = .ok (.iconst 0, 1) := by decide +kernel
theorem dL_law_797 : decode cL_law 797 = .ok (.laload, 1) := by decide +kernel
theorem dL_law_798 : decode cL_law 798 = .ok (.iload 7, 2) := by decide +kernel
theorem dL_law_800 : decode cL_law 800 = .ok (.i2l, 1) := by decide +kernel
theorem dL_law_801 : decode cL_law 801 = .ok (.lcmp, 1) := by decide +kernel
theorem dL_law_802 : decode cL_law 802 = .ok (.ifCond .eq 5, 3) := by decide +kernel
theorem dL_law_805 : decode cL_law 805 = .ok (.iconst 0, 1) := by decide +kernel
theorem dL_law_806 : decode cL_law 806 = .ok (.ireturn, 1) := by decide +kernel
theorem dL_law_807 : decode cL_law 807 = .ok (.goto 366, 3) := by decide +kernel
theorem dL_law_810 : decode cL_law 810 = .ok (.aload_n 1, 1) := by decide +kernel
theorem dL_law_811 : decode cL_law 811 = .ok (.aload_n 0, 1) := by decide +kernel
theorem dL_law_812 : decode cL_law 812 = .ok (.iload 5, 2) := by decide +kernel
theorem dL_law_814 : decode cL_law 814 = .ok (.iconst 1, 1) := by decide +kernel
theorem dL_law_815 : decode cL_law 815 = .ok (.iadd, 1) := by decide +kernel
theorem dL_law_816 : decode cL_law 816 = .ok (.iaload, 1) := by decide +kernel
theorem dL_law_817 : decode cL_law 817 = .ok (.aload_n 0, 1) := by decide +kernel
theorem dL_law_818 : decode cL_law 818 = .ok (.iload 5, 2) := by decide +kernel
theorem dL_law_820 : decode cL_law 820 = .ok (.iconst 2, 1) := by decide +kernel
theorem dL_law_821 : decode cL_law 821 = .ok (.iadd, 1) := by decide +kernel
theorem dL_law_822 : decode cL_law 822 = .ok (.iaload, 1) := by decide +kernel
theorem dL_law_823 : decode cL_law 823 = .ok (.aload_n 3, 1) := by decide +kernel
theorem dL_law_824 : decode cL_law 824 = .ok (.invokestatic 114, 3) := by decide +kernel
theorem dL_law_827 : decode cL_law 827 = .ok (.istore 6, 2) := by decide +kernel
theorem dL_law_829 : decode cL_law 829 = .ok (.aload_n 2, 1) := by decide +kernel
theorem dL_law_830 : decode cL_law 830 = .ok (.aload_n 0, 1) := by decide +kernel
theorem dL_law_831 : decode cL_law 831 = .ok (.iload 5, 2) := by decide +kernel
theorem dL_law_833 : decode cL_law 833 = .ok (.iconst 1, 1) := by decide +kernel
theorem dL_law_834 : decode cL_law 834 = .ok (.iadd, 1) := by decide +kernel
theorem dL_law_835 : decode cL_law 835 = .ok (.iaload, 1) := by decide +kernel
theorem dL_law_836 : decode cL_law 836 = .ok (.aload_n 0, 1) := by decide +kernel
theorem dL_law_837 : decode cL_law 837 = .ok (.iload 5, 2) := by decide +kernel
theorem dL_law_839 : decode cL_law 839 = .ok (.iconst 2, 1) := by decide +kernel
theorem dL_law_840 : decode cL_law 840 = .ok (.iadd, 1) := by decide +kernel
theorem dL_law_841 : decode cL_law 841 = .ok (.iaload, 1) := by decide +kernel
theorem dL_law_842 : decode cL_law 842 = .ok (.invokevirtual 116, 3) := by decide +kernel
theorem dL_law_845 : decode cL_law 845 = .ok (.istore 7, 2) := by decide +kernel
theorem dL_law_847 : decode cL_law 847 = .ok (.aload_n 2, 1) := by decide +kernel
theorem dL_law_848 : decode cL_law 848 = .ok (.invokevirtual 77, 3) := by decide +kernel
theorem dL_law_851 : decode cL_law 851 = .ok (.iload 6, 2) := by decide +kernel
theorem dL_law_853 : decode cL_law 853 = .ok (.if_icmp .eq 5, 3) := by decide +kernel
theorem dL_law_856 : decode cL_law 856 = .ok (.iconst 0, 1) := by decide +kernel
theorem dL_law_857 : decode cL_law 857 = .ok (.ireturn, 1) := by decide +kernel
theorem dL_law_858 : decode cL_law 858 = .ok (.iload 6, 2) := by decide +kernel
theorem dL_law_860 : decode cL_law 860 = .ok (.ifCond .ne 22, 3) := by decide +kernel
theorem dL_law_863 : decode cL_law 863 = .ok (.aload_n 3, 1) := by decide +kernel
theorem dL_law_864 : decode cL_law 864 = .ok (.iconst 0, 1) := by decide +kernel
theorem dL_law_865 : decode cL_law 865 = .ok (.laload, 1) := by decide +kernel
theorem dL_law_866 : decode cL_law 866 = .ok (.iload 7, 2) := by decide +kernel
theorem dL_law_868 : decode cL_law 868 = .ok (.ifCond .eq 7, 3) := by decide +kernel
theorem dL_law_871 : decode cL_law 871 = .ok (.lconst 1, 1) := by decide +kernel
theorem dL_law_872 : decode cL_law 872 = .ok (.goto 4, 3) := by decide +kernel
theorem dL_law_875 : decode cL_law 875 = .ok (.lconst 0, 1) := by decide +kernel
theorem dL_law_876 : decode cL_law 876 = .ok (.lcmp, 1) := by decide +kernel
theorem dL_law_877 : decode cL_law 877 = .ok (.ifCond .eq 5, 3) := by decide +kernel
theorem dL_law_880 : decode cL_law 880 = .ok (.iconst 0, 1) := by decide +kernel
theorem dL_law_881 : decode cL_law 881 = .ok (.ireturn, 1) := by decide +kernel
theorem dL_law_882 : decode cL_law 882 = .ok (.goto 291, 3) := by decide +kernel
theorem dL_law_885 : decode cL_law 885 = .ok (.aload_n 1, 1) := by decide +kernel
theorem dL_law_886 : decode cL_law 886 = .ok (.aload_n 0, 1) := by decide +kernel
theorem dL_law_887 : decode cL_law 887 = .ok (.iload 5, 2) := by decide +kernel
theorem dL_law_889 : decode cL_law 889 = .ok (.iconst 1, 1) := by decide +kernel
theorem dL_law_890 : decode cL_law 890 = .ok (.iadd, 1) := by decide +kernel
theorem dL_law_891 : decode cL_law 891 = .ok (.iaload, 1) := by decide +kernel
theorem dL_law_892 : decode cL_law 892 = .ok (.aload_n 0, 1) := by decide +kernel
theorem dL_law_893 : decode cL_law 893 = .ok (.iload 5, 2) := by decide +kernel
theorem dL_law_895 : decode cL_law 895 = .ok (.iconst 2, 1) := by decide +kernel
theorem dL_law_896 : decode cL_law 896 = .ok (.iadd, 1) := by decide +kernel
theorem dL_law_897 : decode cL_law 897 = .ok (.iaload, 1) := by decide +kernel
theorem dL_law_898 : decode cL_law 898 = .ok (.aload_n 0, 1) := by decide +kernel
theorem dL_law_899 : decode cL_law 899 = .ok (.iload 5, 2) := by decide +kernel
theorem dL_law_901 : decode cL_law 901 = .ok (.iconst 3, 1) := by decide +kernel
theorem dL_law_902 : decode cL_law 902 = .ok (.iadd, 1) := by decide +kernel
theorem dL_law_903 : decode cL_law 903 = .ok (.iaload, 1) := by decide +kernel
theorem dL_law_904 : decode cL_law 904 = .ok (.aload 4, 2) := by decide +kernel
theorem dL_law_906 : decode cL_law 906 = .ok (.invokestatic 117, 3) := by decide +kernel
theorem dL_law_909 : decode cL_law 909 = .ok (.istore 6, 2) := by decide +kernel
theorem dL_law_911 : decode cL_law 911 = .ok (.aload_n 2, 1) := by decide +kernel
theorem dL_law_912 : decode cL_law 912 = .ok (.aload_n 0, 1) := by decide +kernel
theorem dL_law_913 : decode cL_law 913 = .ok (.iload 5, 2) := by decide +kernel
theorem dL_law_915 : decode cL_law 915 = .ok (.iconst 1, 1) := by decide +kernel
theorem dL_law_916 : decode cL_law 916 = .ok (.iadd, 1) := by decide +kernel
theorem dL_law_917 : decode cL_law 917 = .ok (.iaload, 1) := by decide +kernel
theorem dL_law_918 : decode cL_law 918 = .ok (.aload_n 0, 1) := by decide +kernel
theorem dL_law_919 : decode cL_law 919 = .ok (.iload 5, 2) := by decide +kernel
theorem dL_law_921 : decode cL_law 921 = .ok (.iconst 2, 1) := by decide +kernel
theorem dL_law_922 : decode cL_law 922 = .ok (.iadd, 1) := by decide +kernel
theorem dL_law_923 : decode cL_law 923 = .ok (.iaload, 1) := by decide +kernel
theorem dL_law_924 : decode cL_law 924 = .ok (.aload_n 0, 1) := by decide +kernel
theorem dL_law_925 : decode cL_law 925 = .ok (.iload 5, 2) := by decide +kernel
theorem dL_law_927 : decode cL_law 927 = .ok (.iconst 3, 1) := by decide +kernel
theorem dL_law_928 : decode cL_law 928 = .ok (.iadd, 1) := by decide +kernel
theorem dL_law_929 : decode cL_law 929 = .ok (.iaload, 1) := by decide +kernel
theorem dL_law_930 : decode cL_law 930 = .ok (.invokevirtual 120, 3) := by decide +kernel
theorem dL_law_933 : decode cL_law 933 = .ok (.dstore 7, 2) := by decide +kernel
theorem dL_law_935 : decode cL_law 935 = .ok (.aload_n 2, 1) := by decide +kernel
theorem dL_law_936 : decode cL_law 936 = .ok (.invokevirtual 77, 3) := by decide +kernel
theorem dL_law_939 : decode cL_law 939 = .ok (.iload 6, 2) := by decide +kernel
theorem dL_law_941 : decode cL_law 941 = .ok (.if_icmp .eq 5, 3) := by decide +kernel
theorem dL_law_944 : decode cL_law 944 = .ok (.iconst 0, 1) := by decide +kernel
theorem dL_law_945 : decode cL_law 945 = .ok (.ireturn, 1) := by decide +kernel
theorem dL_law_946 : decode cL_law 946 = .ok (.iload 6, 2) := by decide +kernel
theorem dL_law_948 : decode cL_law 948 = .ok (.ifCond .ne 35, 3) := by decide +kernel
theorem dL_law_951 : decode cL_law 951 = .ok (.aload 4, 2) := by decide +kernel
theorem dL_law_953 : decode cL_law 953 = .ok (.iconst 0, 1) := by decide +kernel
theorem dL_law_954 : decode cL_law 954 = .ok (.daload, 1) := by decide +kernel
theorem dL_law_955 : decode cL_law 955 = .ok (.dload 7, 2) := by decide +kernel
theorem dL_law_957 : decode cL_law 957 = .ok (.dcmp .l, 1) := by decide +kernel
theorem dL_law_958 : decode cL_law 958 = .ok (.ifCond .eq 25, 3) := by decide +kernel
theorem dL_law_961 : decode cL_law 961 = .ok (.aload 4, 2) := by decide +kernel
theorem dL_law_963 : decode cL_law 963 = .ok (.iconst 0, 1) := by decide +kernel
theorem dL_law_964 : decode cL_law 964 = .ok (.daload, 1) := by decide +kernel
theorem dL_law_965 : decode cL_law 965 = .ok (.aload 4, 2) := by decide +kernel
theorem dL_law_967 : decode cL_law 967 = .ok (.iconst 0, 1) := by decide +kernel
theorem dL_law_968 : decode cL_law 968 = .ok (.daload, 1) := by decide +kernel
theorem dL_law_969 : decode cL_law 969 = .ok (.dcmp .l, 1) := by decide +kernel
theorem dL_law_970 : decode cL_law 970 = .ok (.ifCond .eq 11, 3) := by decide +kernel
theorem dL_law_973 : decode cL_law 973 = .ok (.dload 7, 2) := by decide +kernel
theorem dL_law_975 : decode cL_law 975 = .ok (.dload 7, 2) := by decide +kernel
theorem dL_law_977 : decode cL_law 977 = .ok (.dcmp .l, 1) := by decide +kernel
theorem dL_law_978 : decode cL_law 978 = .ok (.ifCond .ne 5, 3) := by decide +kernel
theorem dL_law_981 : decode cL_law 981 = .ok (.iconst 0, 1) := by decide +kernel
theorem dL_law_982 : decode cL_law 982 = .ok (.ireturn, 1) := by decide +kernel
theorem dL_law_983 : decode cL_law 983 = .ok (.goto 190, 3) := by decide +kernel
theorem dL_law_986 : decode cL_law 986 = .ok (.aload_n 1, 1) := by decide +kernel
theorem dL_law_987 : decode cL_law 987 = .ok (.aload_n 0, 1) := by decide +kernel
theorem dL_law_988 : decode cL_law 988 = .ok (.iload 5, 2) := by decide +kernel
theorem dL_law_990 : decode cL_law 990 = .ok (.iconst 1, 1) := by decide +kernel
theorem dL_law_991 : decode cL_law 991 = .ok (.iadd, 1) := by decide +kernel
theorem dL_law_992 : decode cL_law 992 = .ok (.iaload, 1) := by decide +kernel
theorem dL_law_993 : decode cL_law 993 = .ok (.aload_n 0, 1) := by decide +kernel
theorem dL_law_994 : decode cL_law 994 = .ok (.iload 5, 2) := by decide +kernel
theorem dL_law_996 : decode cL_law 996 = .ok (.iconst 2, 1) := by decide +kernel
theorem dL_law_997 : decode cL_law 997 = .ok (.iadd, 1) := by decide +kernel
theorem dL_law_998 : decode cL_law 998 = .ok (.iaload, 1) := by decide +kernel
theorem dL_law_999 : decode cL_law 999 = .ok (.aload 4, 2) := by decide +kernel
theorem dL_law_1001 : decode cL_law 1001 = .ok (.invokestatic 121, 3) := by decide +kernel
theorem dL_law_1004 : decode cL_law 1004 = .ok (.istore 6, 2) := by decide +kernel
theorem dL_law_1006 : decode cL_law 1006 = .ok (.aload_n 2, 1) := by decide +kernel
theorem dL_law_1007 : decode cL_law 1007 = .ok (.aload_n 0, 1) := by decide +kernel
theorem dL_law_1008 : decode cL_law 1008 = .ok (.iload 5, 2) := by decide +kernel
theorem dL_law_1010 : decode cL_law 1010 = .ok (.iconst 1, 1) := by decide +kernel
theorem dL_law_1011 : decode cL_law 1011 = .ok (.iadd, 1) := by decide +kernel
theorem dL_law_1012 : decode cL_law 1012 = .ok (.iaload, 1) := by decide +kernel
theorem dL_law_1013 : decode cL_law 1013 = .ok (.aload_n 0, 1) := by decide +kernel
theorem dL_law_1014 : decode cL_law 1014 = .ok (.iload 5, 2) := by decide +kernel
theorem dL_law_1016 : decode cL_law 1016 = .ok (.iconst 2, 1) := by decide +kernel
theorem dL_law_1017 : decode cL_law 1017 = .ok (.iadd, 1) := by decide +kernel
theorem dL_law_1018 : decode cL_law 1018 = .ok (.iaload, 1) := by decide +kernel
theorem dL_law_1019 : decode cL_law 1019 = .ok (.invokevirtual 124, 3) := by decide +kernel
theorem dL_law_1022 : decode cL_law 1022 = .ok (.dstore 7, 2) := by decide +kernel
theorem dL_law_1024 : decode cL_law 1024 = .ok (.aload_n 2, 1) := by decide +kernel
theorem dL_law_1025 : decode cL_law 1025 = .ok (.invokevirtual 77, 3) := by decide +kernel
theorem dL_law_1028 : decode cL_law 1028 = .ok (.iload 6, 2) := by decide +kernel
theorem dL_law_1030 : decode cL_law 1030 = .ok (.if_icmp .eq 5, 3) := by decide +kernel
theorem dL_law_1033 : decode cL_law 1033 = .ok (.iconst 0, 1) := by decide +kernel
theorem dL_law_1034 : decode cL_law 1034 = .ok (.ireturn, 1) := by decide +kernel
theorem dL_law_1035 : decode cL_law 1035 = .ok (.iload 6, 2) := by decide +kernel
theorem dL_law_1037 : decode cL_law 1037 = .ok (.ifCond .ne 35, 3) := by decide +kernel
theorem dL_law_1040 : decode cL_law 1040 = .ok (.aload 4, 2) := by decide +kernel
theorem dL_law_1042 : decode cL_law 1042 = .ok (.iconst 0, 1) := by decide +kernel
theorem dL_law_1043 : decode cL_law 1043 = .ok (.daload, 1) := by decide +kernel
theorem dL_law_1044 : decode cL_law 1044 = .ok (.dload 7, 2) := by decide +kernel
theorem dL_law_1046 : decode cL_law 1046 = .ok (.dcmp .l, 1) := by decide +kernel
theorem dL_law_1047 : decode cL_law 1047 = .ok (.ifCond .eq 25, 3) := by decide +kernel
theorem dL_law_1050 : decode cL_law 1050 = .ok (.aload 4, 2) := by decide +kernel
theorem dL_law_1052 : decode cL_law 1052 = .ok (.iconst 0, 1) := by decide +kernel
theorem dL_law_1053 : decode cL_law 1053 = .ok (.daload, 1) := by decide +kernel
theorem dL_law_1054 : decode cL_law 1054 = .ok (.aload 4, 2) := by decide +kernel
theorem dL_law_1056 : decode cL_law 1056 = .ok (.iconst 0, 1) := by decide +kernel
theorem dL_law_1057 : decode cL_law 1057 = .ok (.daload, 1) := by decide +kernel
theorem dL_law_1058 : decode cL_law 1058 = .ok (.dcmp .l, 1) := by decide +kernel
theorem dL_law_1059 : decode cL_law 1059 = .ok (.ifCond .eq 11, 3) := by decide +kernel
theorem dL_law_1062 : decode cL_law 1062 = .ok (.dload 7, 2) := by decide +kernel
theorem dL_law_1064 : decode cL_law 1064 = .ok (.dload 7, 2) := by decide +kernel
theorem dL_law_1066 : decode cL_law 1066 = .ok (.dcmp .l, 1) := by decide +kernel
theorem dL_law_1067 : decode cL_law 1067 = .ok (.ifCond .ne 5, 3) := by decide +kernel
theorem dL_law_1070 : decode cL_law 1070 = .ok (.iconst 0, 1) := by decide +kernel
theorem dL_law_1071 : decode cL_law 1071 = .ok (.ireturn, 1) := by decide +kernel
theorem dL_law_1072 : decode cL_law 1072 = .ok (.goto 101, 3) := by decide +kernel
theorem dL_law_1075 : decode cL_law 1075 = .ok (.aload_n 1, 1) := by decide +kernel
theorem dL_law_1076 : decode cL_law 1076 = .ok (.aload_n 0, 1) := by decide +kernel
theorem dL_law_1077 : decode cL_law 1077 = .ok (.iload 5, 2) := by decide +kernel
theorem dL_law_1079 : decode cL_law 1079 = .ok (.iconst 1, 1) := by decide +kernel
theorem dL_law_1080 : decode cL_law 1080 = .ok (.iadd, 1) := by decide +kernel
theorem dL_law_1081 : decode cL_law 1081 = .ok (.iaload, 1) := by decide +kernel
theorem dL_law_1082 : decode cL_law 1082 = .ok (.aload_n 0, 1) := by decide +kernel
theorem dL_law_1083 : decode cL_law 1083 = .ok (.iload 5, 2) := by decide +kernel
theorem dL_law_1085 : decode cL_law 1085 = .ok (.iconst 2, 1) := by decide +kernel
theorem dL_law_1086 : decode cL_law 1086 = .ok (.iadd, 1) := by decide +kernel
theorem dL_law_1087 : decode cL_law 1087 = .ok (.iaload, 1) := by decide +kernel
theorem dL_law_1088 : decode cL_law 1088 = .ok (.i2d, 1) := by decide +kernel
theorem dL_law_1089 : decode cL_law 1089 = .ok (.ldc2_w 80, 3) := by decide +kernel
theorem dL_law_1092 : decode cL_law 1092 = .ok (.dmul, 1) := by decide +kernel
theorem dL_law_1093 : decode cL_law 1093 = .ok (.aload_n 3, 1) := by decide +kernel
theorem dL_law_1094 : decode cL_law 1094 = .ok (.invokestatic 125, 3) := by decide +kernel
theorem dL_law_1097 : decode cL_law 1097 = .ok (.istore 6, 2) := by decide +kernel
theorem dL_law_1099 : decode cL_law 1099 = .ok (.aload_n 2, 1) := by decide +kernel
theorem dL_law_1100 : decode cL_law 1100 = .ok (.aload_n 0, 1) := by decide +kernel
theorem dL_law_1101 : decode cL_law 1101 = .ok (.iload 5, 2) := by decide +kernel
theorem dL_law_1103 : decode cL_law 1103 = .ok (.iconst 1, 1) := by decide +kernel
theorem dL_law_1104 : decode cL_law 1104 = .ok (.iadd, 1) := by decide +kernel
theorem dL_law_1105 : decode cL_law 1105 = .ok (.iaload, 1) := by decide +kernel
theorem dL_law_1106 : decode cL_law 1106 = .ok (.aload_n 0, 1) := by decide +kernel
theorem dL_law_1107 : decode cL_law 1107 = .ok (.iload 5, 2) := by decide +kernel
theorem dL_law_1109 : decode cL_law 1109 = .ok (.iconst 2, 1) := by decide +kernel
theorem dL_law_1110 : decode cL_law 1110 = .ok (.iadd, 1) := by decide +kernel
theorem dL_law_1111 : decode cL_law 1111 = .ok (.iaload, 1) := by decide +kernel
theorem dL_law_1112 : decode cL_law 1112 = .ok (.i2d, 1) := by decide +kernel
theorem dL_law_1113 : decode cL_law 1113 = .ok (.ldc2_w 80, 3) := by decide +kernel
theorem dL_law_1116 : decode cL_law 1116 = .ok (.dmul, 1) := by decide +kernel
theorem dL_law_1117 : decode cL_law 1117 = .ok (.invokevirtual 127, 3) := by decide +kernel
theorem dL_law_1120 : decode cL_law 1120 = .ok (.istore 7, 2) := by decide +kernel
theorem dL_law_1122 : decode cL_law 1122 = .ok (.aload_n 2, 1) := by decide +kernel
theorem dL_law_1123 : decode cL_law 1123 = .ok (.invokevirtual 77, 3) := by decide +kernel
theorem dL_law_1126 : decode cL_law 1126 = .ok (.iload 6, 2) := by decide +kernel
theorem dL_law_1128 : decode cL_law 1128 = .ok (.if_icmp .eq 5, 3) := by decide +kernel
theorem dL_law_1131 : decode cL_law 1131 = .ok (.iconst 0, 1) := by decide +kernel
theorem dL_law_1132 : decode cL_law 1132 = .ok (.ireturn, 1) := by decide +kernel
theorem dL_law_1133 : decode cL_law 1133 = .ok (.iload 6, 2) := by decide +kernel
theorem dL_law_1135 : decode cL_law 1135 = .ok (.ifCond .ne 22, 3) := by decide +kernel
theorem dL_law_1138 : decode cL_law 1138 = .ok (.aload_n 3, 1) := by decide +kernel
theorem dL_law_1139 : decode cL_law 1139 = .ok (.iconst 0, 1) := by decide +kernel
theorem dL_law_1140 : decode cL_law 1140 = .ok (.laload, 1) := by decide +kernel
theorem dL_law_1141 : decode cL_law 1141 = .ok (.iload 7, 2) := by decide +kernel
theorem dL_law_1143 : decode cL_law 1143 = .ok (.ifCond .eq 7, 3) := by decide +kernel
theorem dL_law_1146 : decode cL_law 1146 = .ok (.lconst 1, 1) := by decide +kernel
theorem dL_law_1147 : decode cL_law 1147 = .ok (.goto 4, 3) := by decide +kernel
theorem dL_law_1150 : decode cL_law 1150 = .ok (.lconst 0, 1) := by decide +kernel
theorem dL_law_1151 : decode cL_law 1151 = .ok (.lcmp, 1) := by decide +kernel
theorem dL_law_1152 : decode cL_law 1152 = .ok (.ifCond .eq 5, 3) := by decide +kernel
theorem dL_law_1155 : decode cL_law 1155 = .ok (.iconst 0, 1) := by decide +kernel
theorem dL_law_1156 : decode cL_law 1156 = .ok (.ireturn, 1) := by decide +kernel
theorem dL_law_1157 : decode cL_law 1157 = .ok (.goto 16, 3) := by decide +kernel
theorem dL_law_1160 : decode cL_law 1160 = .ok (.aload_n 1, 1) := by decide +kernel
theorem dL_law_1161 : decode cL_law 1161 = .ok (.invokevirtual 128, 3) := by decide +kernel
theorem dL_law_1164 : decode cL_law 1164 = .ok (.aload_n 2, 1) := by decide +kernel
theorem dL_law_1165 : decode cL_law 1165 = .ok (.invokevirtual 132, 3) := by decide +kernel
theorem dL_law_1168 : decode cL_law 1168 = .ok (.if_icmp .eq 5, 3) := by decide +kernel
theorem dL_law_1171 : decode cL_law 1171 = .ok (.iconst 0, 1) := by decide +kernel
theorem dL_law_1172 : decode cL_law 1172 = .ok (.ireturn, 1) := by decide +kernel
theorem dL_law_1173 : decode cL_law 1173 = .ok (.iinc 5 4, 3) := by decide +kernel
theorem dL_law_1176 : decode cL_law 1176 = .ok (.goto (-1148), 3) := by decide +kernel
theorem dL_law_1179 : decode cL_law 1179 = .ok (.iconst 1, 1) := by decide +kernel
theorem dL_law_1180 : decode cL_law 1180 = .ok (.ireturn, 1) := by decide +kernel
