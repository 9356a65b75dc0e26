theorem d_Mp_openParts_0 : decode b_Mp_openParts 0 = .ok (.iload_n 3, 1) := by decide +kernel
theorem d_Mp_openParts_1 : decode b_Mp_openParts 1 = .ok (.ifCond .lt 12, 3) := by decide +kernel
theorem d_Mp_openParts_4 : decode b_Mp_openParts 4 = .ok (.iload_n 3, 1) := by decide +kernel
theorem d_Mp_openParts_5 : decode b_Mp_openParts 5 = .ok (.aload_n 0, 1) := by decide +kernel
theorem d_Mp_openParts_6 : decode b_Mp_openParts 6 = .ok (.getfield 76, 3) := by decide +kernel
theorem d_Mp_openParts_9 : decode b_Mp_openParts 9 = .ok (.arraylength, 1) := by decide +kernel
theorem d_Mp_openParts_10 : decode b_Mp_openParts 10 = .ok (.if_icmp .lt 4, 3) := by decide +kernel
theorem d_Mp_openParts_13 : decode b_Mp_openParts 13 = .ok (.return_, 1) := by decide +kernel
theorem d_Mp_openParts_14 : decode b_Mp_openParts 14 = .ok (.aload_n 0, 1) := by decide +kernel
theorem d_Mp_openParts_15 : decode b_Mp_openParts 15 = .ok (.getfield 76, 3) := by decide +kernel
theorem d_Mp_openParts_18 : decode b_Mp_openParts 18 = .ok (.iload_n 3, 1) := by decide +kernel
theorem d_Mp_openParts_19 : decode b_Mp_openParts 19 = .ok (.aaload, 1) := by decide +kernel
theorem d_Mp_openParts_20 : decode b_Mp_openParts 20 = .ok (.astore 4, 2) := by decide +kernel
theorem d_Mp_openParts_22 : decode b_Mp_openParts 22 = .ok (.iconst (-1), 1) := by decide +kernel
theorem d_Mp_openParts_23 : decode b_Mp_openParts 23 = .ok (.istore 5, 2) := by decide +kernel
theorem d_Mp_openParts_25 : decode b_Mp_openParts 25 = .ok (.aload_n 1, 1) := by decide +kernel
theorem d_Mp_openParts_26 : decode b_Mp_openParts 26 = .ok (.getfield 155, 3) := by decide +kernel
theorem d_Mp_openParts_29 : decode b_Mp_openParts 29 = .ok (.istore 6, 2) := by decide +kernel
theorem d_Mp_openParts_31 : decode b_Mp_openParts 31 = .ok (.iload 6, 2) := by decide +kernel
theorem d_Mp_openParts_33 : decode b_Mp_openParts 33 = .ok (.aload_n 1, 1) := by decide +kernel
theorem d_Mp_openParts_34 : decode b_Mp_openParts 34 = .ok (.getfield 158, 3) := by decide +kernel
theorem d_Mp_openParts_37 : decode b_Mp_openParts 37 = .ok (.if_icmp .ge 58, 3) := by decide +kernel
theorem d_Mp_openParts_40 : decode b_Mp_openParts 40 = .ok (.aload_n 0, 1) := by decide +kernel
theorem d_Mp_openParts_41 : decode b_Mp_openParts 41 = .ok (.getfield 24, 3) := by decide +kernel
theorem d_Mp_openParts_44 : decode b_Mp_openParts 44 = .ok (.iload 6, 2) := by decide +kernel
theorem d_Mp_openParts_46 : decode b_Mp_openParts 46 = .ok (.aload 4, 2) := by decide +kernel
theorem d_Mp_openParts_48 : decode b_Mp_openParts 48 = .ok (.invokevirtual 224, 3) := by decide +kernel
theorem d_Mp_openParts_51 : decode b_Mp_openParts 51 = .ok (.istore 7, 2) := by decide +kernel
theorem d_Mp_openParts_53 : decode b_Mp_openParts 53 = .ok (.iload 7, 2) := by decide +kernel
theorem d_Mp_openParts_55 : decode b_Mp_openParts 55 = .ok (.ifCond .eq 34, 3) := by decide +kernel
theorem d_Mp_openParts_58 : decode b_Mp_openParts 58 = .ok (.iload 5, 2) := by decide +kernel
theorem d_Mp_openParts_60 : decode b_Mp_openParts 60 = .ok (.iconst (-1), 1) := by decide +kernel
theorem d_Mp_openParts_61 : decode b_Mp_openParts 61 = .ok (.if_icmp .eq 15, 3) := by decide +kernel
theorem d_Mp_openParts_64 : decode b_Mp_openParts 64 = .ok (.aload_n 0, 1) := by decide +kernel
theorem d_Mp_openParts_65 : decode b_Mp_openParts 65 = .ok (.iload 5, 2) := by decide +kernel
theorem d_Mp_openParts_67 : decode b_Mp_openParts 67 = .ok (.iload 6, 2) := by decide +kernel
theorem d_Mp_openParts_69 : decode b_Mp_openParts 69 = .ok (.iload_n 2, 1) := by decide +kernel
theorem d_Mp_openParts_70 : decode b_Mp_openParts 70 = .ok (.iload_n 3, 1) := by decide +kernel
theorem d_Mp_openParts_71 : decode b_Mp_openParts 71 = .ok (.iconst 1, 1) := by decide +kernel
theorem d_Mp_openParts_72 : decode b_Mp_openParts 72 = .ok (.iadd, 1) := by decide +kernel
theorem d_Mp_openParts_73 : decode b_Mp_openParts 73 = .ok (.invokevirtual 122, 3) := by decide +kernel
theorem d_Mp_openParts_76 : decode b_Mp_openParts 76 = .ok (.iload 7, 2) := by decide +kernel
theorem d_Mp_openParts_78 : decode b_Mp_openParts 78 = .ok (.iconst 2, 1) := by decide +kernel
theorem d_Mp_openParts_79 : decode b_Mp_openParts 79 = .ok (.if_icmp .ne 4, 3) := by decide +kernel
theorem d_Mp_openParts_82 : decode b_Mp_openParts 82 = .ok (.return_, 1) := by decide +kernel
theorem d_Mp_openParts_83 : decode b_Mp_openParts 83 = .ok (.iload 6, 2) := by decide +kernel
theorem d_Mp_openParts_85 : decode b_Mp_openParts 85 = .ok (.iconst 1, 1) := by decide +kernel
theorem d_Mp_openParts_86 : decode b_Mp_openParts 86 = .ok (.iadd, 1) := by decide +kernel
theorem d_Mp_openParts_87 : decode b_Mp_openParts 87 = .ok (.istore 5, 2) := by decide +kernel
theorem d_Mp_openParts_89 : decode b_Mp_openParts 89 = .ok (.iinc 6 1, 3) := by decide +kernel
theorem d_Mp_openParts_92 : decode b_Mp_openParts 92 = .ok (.goto (-61), 3) := by decide +kernel
theorem d_Mp_openParts_95 : decode b_Mp_openParts 95 = .ok (.iload 5, 2) := by decide +kernel
theorem d_Mp_openParts_97 : decode b_Mp_openParts 97 = .ok (.iconst (-1), 1) := by decide +kernel
theorem d_Mp_openParts_98 : decode b_Mp_openParts 98 = .ok (.if_icmp .eq 17, 3) := by decide +kernel
theorem d_Mp_openParts_101 : decode b_Mp_openParts 101 = .ok (.aload_n 0, 1) := by decide +kernel
theorem d_Mp_openParts_102 : decode b_Mp_openParts 102 = .ok (.iload 5, 2) := by decide +kernel
theorem d_Mp_openParts_104 : decode b_Mp_openParts 104 = .ok (.aload_n 1, 1) := by decide +kernel
theorem d_Mp_openParts_105 : decode b_Mp_openParts 105 = .ok (.getfield 158, 3) := by decide +kernel
theorem d_Mp_openParts_108 : decode b_Mp_openParts 108 = .ok (.iload_n 2, 1) := by decide +kernel
theorem d_Mp_openParts_109 : decode b_Mp_openParts 109 = .ok (.iload_n 3, 1) := by decide +kernel
theorem d_Mp_openParts_110 : decode b_Mp_openParts 110 = .ok (.iconst 1, 1) := by decide +kernel
theorem d_Mp_openParts_111 : decode b_Mp_openParts 111 = .ok (.iadd, 1) := by decide +kernel
theorem d_Mp_openParts_112 : decode b_Mp_openParts 112 = .ok (.invokevirtual 122, 3) := by decide +kernel
theorem d_Mp_openParts_115 : decode b_Mp_openParts 115 = .ok (.return_, 1) := by decide +kernel
theorem d_Mp_describe_0 : decode b_Mp_describe 0 = .ok (.aload_n 0, 1) := by decide +kernel
theorem d_Mp_describe_1 : decode b_Mp_describe 1 = .ok (.aload_n 1, 1) := by decide +kernel
theorem d_Mp_describe_2 : decode b_Mp_describe 2 = .ok (.invokevirtual 228, 3) := by decide +kernel
theorem d_Mp_describe_5 : decode b_Mp_describe 5 = .ok (.aload_n 0, 1) := by decide +kernel
theorem d_Mp_describe_6 : decode b_Mp_describe 6 = .ok (.getfield 31, 3) := by decide +kernel
theorem d_Mp_describe_9 : decode b_Mp_describe 9 = .ok (.getfield 178, 3) := by decide +kernel
theorem d_Mp_describe_12 : decode b_Mp_describe 12 = .ok (.ldc 231, 2) := by decide +kernel
theorem d_Mp_describe_14 : decode b_Mp_describe 14 = .ok (.invokevirtual 233, 3) := by decide +kernel
theorem d_Mp_describe_17 : decode b_Mp_describe 17 = .ok (.istore_n 2, 1) := by decide +kernel
theorem d_Mp_describe_18 : decode b_Mp_describe 18 = .ok (.aload_n 0, 1) := by decide +kernel
theorem d_Mp_describe_19 : decode b_Mp_describe 19 = .ok (.getfield 31, 3) := by decide +kernel
theorem d_Mp_describe_22 : decode b_Mp_describe 22 = .ok (.getfield 178, 3) := by decide +kernel
theorem d_Mp_describe_25 : decode b_Mp_describe 25 = .ok (.ldc 237, 2) := by decide +kernel
theorem d_Mp_describe_27 : decode b_Mp_describe 27 = .ok (.invokevirtual 239, 3) := by decide +kernel
theorem d_Mp_describe_30 : decode b_Mp_describe 30 = .ok (.istore_n 3, 1) := by decide +kernel
theorem d_Mp_describe_31 : decode b_Mp_describe 31 = .ok (.aload_n 0, 1) := by decide +kernel
theorem d_Mp_describe_32 : decode b_Mp_describe 32 = .ok (.getfield 31, 3) := by decide +kernel
theorem d_Mp_describe_35 : decode b_Mp_describe 35 = .ok (.getfield 178, 3) := by decide +kernel
theorem d_Mp_describe_38 : decode b_Mp_describe 38 = .ok (.ldc 242, 2) := by decide +kernel
theorem d_Mp_describe_40 : decode b_Mp_describe 40 = .ok (.invokevirtual 233, 3) := by decide +kernel
theorem d_Mp_describe_43 : decode b_Mp_describe 43 = .ok (.istore 4, 2) := by decide +kernel
theorem d_Mp_describe_45 : decode b_Mp_describe 45 = .ok (.aload_n 0, 1) := by decide +kernel
theorem d_Mp_describe_46 : decode b_Mp_describe 46 = .ok (.getfield 31, 3) := by decide +kernel
theorem d_Mp_describe_49 : decode b_Mp_describe 49 = .ok (.getfield 178, 3) := by decide +kernel
theorem d_Mp_describe_52 : decode b_Mp_describe 52 = .ok (.ldc 244, 2) := by decide +kernel
theorem d_Mp_describe_54 : decode b_Mp_describe 54 = .ok (.invokevirtual 239, 3) := by decide +kernel
theorem d_Mp_describe_57 : decode b_Mp_describe 57 = .ok (.istore 5, 2) := by decide +kernel
theorem d_Mp_describe_59 : decode b_Mp_describe 59 = .ok (.aload_n 1, 1) := by decide +kernel
theorem d_Mp_describe_60 : decode b_Mp_describe 60 = .ok (.aload_n 0, 1) := by decide +kernel
theorem d_Mp_describe_61 : decode b_Mp_describe 61 = .ok (.getfield 31, 3) := by decide +kernel
theorem d_Mp_describe_64 : decode b_Mp_describe 64 = .ok (.getfield 178, 3) := by decide +kernel
theorem d_Mp_describe_67 : decode b_Mp_describe 67 = .ok (.ldc 246, 2) := by decide +kernel
theorem d_Mp_describe_69 : decode b_Mp_describe 69 = .ok (.invokevirtual 239, 3) := by decide +kernel
theorem d_Mp_describe_72 : decode b_Mp_describe 72 = .ok (.putfield 248, 3) := by decide +kernel
theorem d_Mp_describe_75 : decode b_Mp_describe 75 = .ok (.aload_n 1, 1) := by decide +kernel
theorem d_Mp_describe_76 : decode b_Mp_describe 76 = .ok (.aload_n 0, 1) := by decide +kernel
theorem d_Mp_describe_77 : decode b_Mp_describe 77 = .ok (.getfield 31, 3) := by decide +kernel
theorem d_Mp_describe_80 : decode b_Mp_describe 80 = .ok (.getfield 178, 3) := by decide +kernel
theorem d_Mp_describe_83 : decode b_Mp_describe 83 = .ok (.ldc 251, 2) := by decide +kernel
theorem d_Mp_describe_85 : decode b_Mp_describe 85 = .ok (.invokevirtual 239, 3) := by decide +kernel
theorem d_Mp_describe_88 : decode b_Mp_describe 88 = .ok (.putfield 253, 3) := by decide +kernel
theorem d_Mp_describe_91 : decode b_Mp_describe 91 = .ok (.aload_n 0, 1) := by decide +kernel
theorem d_Mp_describe_92 : decode b_Mp_describe 92 = .ok (.aload_n 1, 1) := by decide +kernel
theorem d_Mp_describe_93 : decode b_Mp_describe 93 = .ok (.aload_n 0, 1) := by decide +kernel
theorem d_Mp_describe_94 : decode b_Mp_describe 94 = .ok (.getfield 51, 3) := by decide +kernel
theorem d_Mp_describe_97 : decode b_Mp_describe 97 = .ok (.invokevirtual 179, 3) := by decide +kernel
theorem d_Mp_describe_100 : decode b_Mp_describe 100 = .ok (.pop, 1) := by decide +kernel
theorem d_Mp_describe_101 : decode b_Mp_describe 101 = .ok (.aload_n 0, 1) := by decide +kernel
theorem d_Mp_describe_102 : decode b_Mp_describe 102 = .ok (.getfield 31, 3) := by decide +kernel
theorem d_Mp_describe_105 : decode b_Mp_describe 105 = .ok (.invokevirtual 256, 3) := by decide +kernel
theorem d_Mp_describe_108 : decode b_Mp_describe 108 = .ok (.aload_n 1, 1) := by decide +kernel
theorem d_Mp_describe_109 : decode b_Mp_describe 109 = .ok (.aload_n 0, 1) := by decide +kernel
theorem d_Mp_describe_110 : decode b_Mp_describe 110 = .ok (.getfield 31, 3) := by decide +kernel
theorem d_Mp_describe_113 : decode b_Mp_describe 113 = .ok (.getfield 178, 3) := by decide +kernel
theorem d_Mp_describe_116 : decode b_Mp_describe 116 = .ok (.ldc_w 259, 3) := by decide +kernel
theorem d_Mp_describe_119 : decode b_Mp_describe 119 = .ok (.invokevirtual 239, 3) := by decide +kernel
theorem d_Mp_describe_122 : decode b_Mp_describe 122 = .ok (.putfield 145, 3) := by decide +kernel
theorem d_Mp_describe_125 : decode b_Mp_describe 125 = .ok (.aload_n 1, 1) := by decide +kernel
theorem d_Mp_describe_126 : decode b_Mp_describe 126 = .ok (.iconst 0, 1) := by decide +kernel
theorem d_Mp_describe_127 : decode b_Mp_describe 127 = .ok (.putfield 136, 3) := by decide +kernel
theorem d_Mp_describe_130 : decode b_Mp_describe 130 = .ok (.aload_n 1, 1) := by decide +kernel
theorem d_Mp_describe_131 : decode b_Mp_describe 131 = .ok (.getfield 142, 3) := by decide +kernel
theorem d_Mp_describe_134 : decode b_Mp_describe 134 = .ok (.bipush 8, 2) := by decide +kernel
theorem d_Mp_describe_136 : decode b_Mp_describe 136 = .ok (.if_icmp .ge 42, 3) := by decide +kernel
theorem d_Mp_describe_139 : decode b_Mp_describe 139 = .ok (.iload 4, 2) := by decide +kernel
theorem d_Mp_describe_141 : decode b_Mp_describe 141 = .ok (.ifCond .eq 19, 3) := by decide +kernel
theorem d_Mp_describe_144 : decode b_Mp_describe 144 = .ok (.aload_n 0, 1) := by decide +kernel
theorem d_Mp_describe_145 : decode b_Mp_describe 145 = .ok (.aload_n 1, 1) := by decide +kernel
theorem d_Mp_describe_146 : decode b_Mp_describe 146 = .ok (.invokevirtual 261, 3) := by decide +kernel
theorem d_Mp_describe_149 : decode b_Mp_describe 149 = .ok (.ifCond .eq 11, 3) := by decide +kernel
theorem d_Mp_describe_152 : decode b_Mp_describe 152 = .ok (.aload_n 1, 1) := by decide +kernel
theorem d_Mp_describe_153 : decode b_Mp_describe 153 = .ok (.iconst 1, 1) := by decide +kernel
theorem d_Mp_describe_154 : decode b_Mp_describe 154 = .ok (.putfield 136, 3) := by decide +kernel
theorem d_Mp_describe_157 : decode b_Mp_describe 157 = .ok (.goto 21, 3) := by decide +kernel
theorem d_Mp_describe_160 : decode b_Mp_describe 160 = .ok (.iload 5, 2) := by decide +kernel
theorem d_Mp_describe_162 : decode b_Mp_describe 162 = .ok (.ifCond .eq 16, 3) := by decide +kernel
theorem d_Mp_describe_165 : decode b_Mp_describe 165 = .ok (.aload_n 0, 1) := by decide +kernel
theorem d_Mp_describe_166 : decode b_Mp_describe 166 = .ok (.aload_n 1, 1) := by decide +kernel
theorem d_Mp_describe_167 : decode b_Mp_describe 167 = .ok (.invokevirtual 265, 3) := by decide +kernel
theorem d_Mp_describe_170 : decode b_Mp_describe 170 = .ok (.ifCond .eq 8, 3) := by decide +kernel
theorem d_Mp_describe_173 : decode b_Mp_describe 173 = .ok (.aload_n 1, 1) := by decide +kernel
theorem d_Mp_describe_174 : decode b_Mp_describe 174 = .ok (.iconst 2, 1) := by decide +kernel
theorem d_Mp_describe_175 : decode b_Mp_describe 175 = .ok (.putfield 136, 3) := by decide +kernel
theorem d_Mp_describe_178 : decode b_Mp_describe 178 = .ok (.aload_n 1, 1) := by decide +kernel
theorem d_Mp_describe_179 : decode b_Mp_describe 179 = .ok (.aload_n 1, 1) := by decide +kernel
theorem d_Mp_describe_180 : decode b_Mp_describe 180 = .ok (.getfield 136, 3) := by decide +kernel
theorem d_Mp_describe_183 : decode b_Mp_describe 183 = .ok (.ifCond .ne 18, 3) := by decide +kernel
theorem d_Mp_describe_186 : decode b_Mp_describe 186 = .ok (.iload_n 2, 1) := by decide +kernel
theorem d_Mp_describe_187 : decode b_Mp_describe 187 = .ok (.ifCond .eq 14, 3) := by decide +kernel
theorem d_Mp_describe_190 : decode b_Mp_describe 190 = .ok (.aload_n 1, 1) := by decide +kernel
theorem d_Mp_describe_191 : decode b_Mp_describe 191 = .ok (.getfield 145, 3) := by decide +kernel
theorem d_Mp_describe_194 : decode b_Mp_describe 194 = .ok (.ifCond .ne 7, 3) := by decide +kernel
theorem d_Mp_describe_197 : decode b_Mp_describe 197 = .ok (.iconst 1, 1) := by decide +kernel
theorem d_Mp_describe_198 : decode b_Mp_describe 198 = .ok (.goto 4, 3) := by decide +kernel
theorem d_Mp_describe_201 : decode b_Mp_describe 201 = .ok (.iconst 0, 1) := by decide +kernel
theorem d_Mp_describe_202 : decode b_Mp_describe 202 = .ok (.putfield 268, 3) := by decide +kernel
theorem d_Mp_describe_205 : decode b_Mp_describe 205 = .ok (.aload_n 1, 1) := by decide +kernel
theorem d_Mp_describe_206 : decode b_Mp_describe 206 = .ok (.aload_n 1, 1) := by decide +kernel
theorem d_Mp_describe_207 : decode b_Mp_describe 207 = .ok (.getfield 268, 3) := by decide +kernel
theorem d_Mp_describe_210 : decode b_Mp_describe 210 = .ok (.ifCond .eq 11, 3) := by decide +kernel
theorem d_Mp_describe_213 : decode b_Mp_describe 213 = .ok (.iload_n 3, 1) := by decide +kernel
theorem d_Mp_describe_214 : decode b_Mp_describe 214 = .ok (.ifCond .eq 7, 3) := by decide +kernel
theorem d_Mp_describe_217 : decode b_Mp_describe 217 = .ok (.iconst 1, 1) := by decide +kernel
theorem d_Mp_describe_218 : decode b_Mp_describe 218 = .ok (.goto 4, 3) := by decide +kernel
theorem d_Mp_describe_221 : decode b_Mp_describe 221 = .ok (.iconst 0, 1) := by decide +kernel
theorem d_Mp_describe_222 : decode b_Mp_describe 222 = .ok (.putfield 271, 3) := by decide +kernel
theorem d_Mp_describe_225 : decode b_Mp_describe 225 = .ok (.aload_n 1, 1) := by decide +kernel
theorem d_Mp_describe_226 : decode b_Mp_describe 226 = .ok (.aload_n 1, 1) := by decide +kernel
theorem d_Mp_describe_227 : decode b_Mp_describe 227 = .ok (.getfield 136, 3) := by decide +kernel
theorem d_Mp_describe_230 : decode b_Mp_describe 230 = .ok (.ifCond .ne 18, 3) := by decide +kernel
theorem d_Mp_describe_233 : decode b_Mp_describe 233 = .ok (.aload_n 1, 1) := by decide +kernel
theorem d_Mp_describe_234 : decode b_Mp_describe 234 = .ok (.getfield 145, 3) := by decide +kernel
theorem d_Mp_describe_237 : decode b_Mp_describe 237 = .ok (.ifCond .ne 7, 3) := by decide +kernel
theorem d_Mp_describe_240 : decode b_Mp_describe 240 = .ok (.iload_n 2, 1) := by decide +kernel
theorem d_Mp_describe_241 : decode b_Mp_describe 241 = .ok (.ifCond .ne 7, 3) := by decide +kernel
theorem d_Mp_describe_244 : decode b_Mp_describe 244 = .ok (.iconst 1, 1) := by decide +kernel
theorem d_Mp_describe_245 : decode b_Mp_describe 245 = .ok (.goto 4, 3) := by decide +kernel
theorem d_Mp_describe_248 : decode b_Mp_describe 248 = .ok (.iconst 0, 1) := by decide +kernel
theorem d_Mp_describe_249 : decode b_Mp_describe 249 = .ok (.putfield 274, 3) := by decide +kernel
theorem d_Mp_describe_252 : decode b_Mp_describe 252 = .ok (.aload_n 1, 1) := by decide +kernel
theorem d_Mp_describe_253 : decode b_Mp_describe 253 = .ok (.iconst (-1), 1) := by decide +kernel
theorem d_Mp_describe_254 : decode b_Mp_describe 254 = .ok (.putfield 277, 3) := by decide +kernel
theorem d_Mp_describe_257 : decode b_Mp_describe 257 = .ok (.return_, 1) := by decide +kernel
theorem d_Mp_hasBoundary_0 : decode b_Mp_hasBoundary 0 = .ok (.aload_n 0, 1) := by decide +kernel
theorem d_Mp_hasBoundary_1 : decode b_Mp_hasBoundary 1 = .ok (.aload_n 1, 1) := by decide +kernel
theorem d_Mp_hasBoundary_2 : decode b_Mp_hasBoundary 2 = .ok (.aload_n 0, 1) := by decide +kernel
theorem d_Mp_hasBoundary_3 : decode b_Mp_hasBoundary 3 = .ok (.getfield 41, 3) := by decide +kernel
theorem d_Mp_hasBoundary_6 : decode b_Mp_hasBoundary 6 = .ok (.invokevirtual 179, 3) := by decide +kernel
theorem d_Mp_hasBoundary_9 : decode b_Mp_hasBoundary 9 = .ok (.pop, 1) := by decide +kernel
theorem d_Mp_hasBoundary_10 : decode b_Mp_hasBoundary 10 = .ok (.aload_n 0, 1) := by decide +kernel
theorem d_Mp_hasBoundary_11 : decode b_Mp_hasBoundary 11 = .ok (.getfield 31, 3) := by decide +kernel
theorem d_Mp_hasBoundary_14 : decode b_Mp_hasBoundary 14 = .ok (.aload_n 0, 1) := by decide +kernel
theorem d_Mp_hasBoundary_15 : decode b_Mp_hasBoundary 15 = .ok (.getfield 56, 3) := by decide +kernel
theorem d_Mp_hasBoundary_18 : decode b_Mp_hasBoundary 18 = .ok (.invokevirtual 187, 3) := by decide +kernel
theorem d_Mp_hasBoundary_21 : decode b_Mp_hasBoundary 21 = .ok (.pop, 1) := by decide +kernel
theorem d_Mp_hasBoundary_22 : decode b_Mp_hasBoundary 22 = .ok (.aload_n 0, 1) := by decide +kernel
theorem d_Mp_hasBoundary_23 : decode b_Mp_hasBoundary 23 = .ok (.getfield 31, 3) := by decide +kernel
theorem d_Mp_hasBoundary_26 : decode b_Mp_hasBoundary 26 = .ok (.getfield 178, 3) := by decide +kernel
theorem d_Mp_hasBoundary_29 : decode b_Mp_hasBoundary 29 = .ok (.getfield 99, 3) := by decide +kernel
theorem d_Mp_hasBoundary_32 : decode b_Mp_hasBoundary 32 = .ok (.istore_n 2, 1) := by decide +kernel
theorem d_Mp_hasBoundary_33 : decode b_Mp_hasBoundary 33 = .ok (.iload_n 2, 1) := by decide +kernel
theorem d_Mp_hasBoundary_34 : decode b_Mp_hasBoundary 34 = .ok (.iconst 1, 1) := by decide +kernel
theorem d_Mp_hasBoundary_35 : decode b_Mp_hasBoundary 35 = .ok (.if_icmp .lt 28, 3) := by decide +kernel
theorem d_Mp_hasBoundary_38 : decode b_Mp_hasBoundary 38 = .ok (.iload_n 2, 1) := by decide +kernel
theorem d_Mp_hasBoundary_39 : decode b_Mp_hasBoundary 39 = .ok (.bipush 70, 2) := by decide +kernel
theorem d_Mp_hasBoundary_41 : decode b_Mp_hasBoundary 41 = .ok (.if_icmp .gt 22, 3) := by decide +kernel
theorem d_Mp_hasBoundary_44 : decode b_Mp_hasBoundary 44 = .ok (.aload_n 1, 1) := by decide +kernel
theorem d_Mp_hasBoundary_45 : decode b_Mp_hasBoundary 45 = .ok (.getfield 142, 3) := by decide +kernel
theorem d_Mp_hasBoundary_48 : decode b_Mp_hasBoundary 48 = .ok (.ifCond .lt 15, 3) := by decide +kernel
theorem d_Mp_hasBoundary_51 : decode b_Mp_hasBoundary 51 = .ok (.aload_n 1, 1) := by decide +kernel
theorem d_Mp_hasBoundary_52 : decode b_Mp_hasBoundary 52 = .ok (.getfield 142, 3) := by decide +kernel
theorem d_Mp_hasBoundary_55 : decode b_Mp_hasBoundary 55 = .ok (.aload_n 0, 1) := by decide +kernel
theorem d_Mp_hasBoundary_56 : decode b_Mp_hasBoundary 56 = .ok (.getfield 76, 3) := by decide +kernel
theorem d_Mp_hasBoundary_59 : decode b_Mp_hasBoundary 59 = .ok (.arraylength, 1) := by decide +kernel
theorem d_Mp_hasBoundary_60 : decode b_Mp_hasBoundary 60 = .ok (.if_icmp .lt 5, 3) := by decide +kernel
theorem d_Mp_hasBoundary_63 : decode b_Mp_hasBoundary 63 = .ok (.iconst 0, 1) := by decide +kernel
theorem d_Mp_hasBoundary_64 : decode b_Mp_hasBoundary 64 = .ok (.ireturn, 1) := by decide +kernel
theorem d_Mp_hasBoundary_65 : decode b_Mp_hasBoundary 65 = .ok (.aload_n 0, 1) := by decide +kernel
theorem d_Mp_hasBoundary_66 : decode b_Mp_hasBoundary 66 = .ok (.getfield 76, 3) := by decide +kernel
theorem d_Mp_hasBoundary_69 : decode b_Mp_hasBoundary 69 = .ok (.aload_n 1, 1) := by decide +kernel
theorem d_Mp_hasBoundary_70 : decode b_Mp_hasBoundary 70 = .ok (.getfield 142, 3) := by decide +kernel
theorem d_Mp_hasBoundary_73 : decode b_Mp_hasBoundary 73 = .ok (.aaload, 1) := by decide +kernel
theorem d_Mp_hasBoundary_74 : decode b_Mp_hasBoundary 74 = .ok (.invokevirtual 93, 3) := by decide +kernel
theorem d_Mp_hasBoundary_77 : decode b_Mp_hasBoundary 77 = .ok (.aload_n 0, 1) := by decide +kernel
theorem d_Mp_hasBoundary_78 : decode b_Mp_hasBoundary 78 = .ok (.getfield 76, 3) := by decide +kernel
theorem d_Mp_hasBoundary_81 : decode b_Mp_hasBoundary 81 = .ok (.aload_n 1, 1) := by decide +kernel
theorem d_Mp_hasBoundary_82 : decode b_Mp_hasBoundary 82 = .ok (.getfield 142, 3) := by decide +kernel
theorem d_Mp_hasBoundary_85 : decode b_Mp_hasBoundary 85 = .ok (.aaload, 1) := by decide +kernel
theorem d_Mp_hasBoundary_86 : decode b_Mp_hasBoundary 86 = .ok (.aload_n 0, 1) := by decide +kernel
theorem d_Mp_hasBoundary_87 : decode b_Mp_hasBoundary 87 = .ok (.getfield 31, 3) := by decide +kernel
theorem d_Mp_hasBoundary_90 : decode b_Mp_hasBoundary 90 = .ok (.getfield 178, 3) := by decide +kernel
theorem d_Mp_hasBoundary_93 : decode b_Mp_hasBoundary 93 = .ok (.iconst 0, 1) := by decide +kernel
theorem d_Mp_hasBoundary_94 : decode b_Mp_hasBoundary 94 = .ok (.iload_n 2, 1) := by decide +kernel
theorem d_Mp_hasBoundary_95 : decode b_Mp_hasBoundary 95 = .ok (.invokevirtual 195, 3) := by decide +kernel
theorem d_Mp_hasBoundary_98 : decode b_Mp_hasBoundary 98 = .ok (.iconst 1, 1) := by decide +kernel
theorem d_Mp_hasBoundary_99 : decode b_Mp_hasBoundary 99 = .ok (.ireturn, 1) := by decide +kernel
theorem d_Mp_isOpenCoding_0 : decode b_Mp_isOpenCoding 0 = .ok (.aload_n 0, 1) := by decide +kernel
theorem d_Mp_isOpenCoding_1 : decode b_Mp_isOpenCoding 1 = .ok (.aload_n 1, 1) := by decide +kernel
theorem d_Mp_isOpenCoding_2 : decode b_Mp_isOpenCoding 2 = .ok (.aload_n 0, 1) := by decide +kernel
theorem d_Mp_isOpenCoding_3 : decode b_Mp_isOpenCoding 3 = .ok (.getfield 46, 3) := by decide +kernel
theorem d_Mp_isOpenCoding_6 : decode b_Mp_isOpenCoding 6 = .ok (.invokevirtual 179, 3) := by decide +kernel
theorem d_Mp_isOpenCoding_9 : decode b_Mp_isOpenCoding 9 = .ok (.pop, 1) := by decide +kernel
theorem d_Mp_isOpenCoding_10 : decode b_Mp_isOpenCoding 10 = .ok (.aload_n 0, 1) := by decide +kernel
theorem d_Mp_isOpenCoding_11 : decode b_Mp_isOpenCoding 11 = .ok (.getfield 31, 3) := by decide +kernel
theorem d_Mp_isOpenCoding_14 : decode b_Mp_isOpenCoding 14 = .ok (.invokevirtual 256, 3) := by decide +kernel
theorem d_Mp_isOpenCoding_17 : decode b_Mp_isOpenCoding 17 = .ok (.aload_n 0, 1) := by decide +kernel
theorem d_Mp_isOpenCoding_18 : decode b_Mp_isOpenCoding 18 = .ok (.getfield 31, 3) := by decide +kernel
theorem d_Mp_isOpenCoding_21 : decode b_Mp_isOpenCoding 21 = .ok (.getfield 178, 3) := by decide +kernel
theorem d_Mp_isOpenCoding_24 : decode b_Mp_isOpenCoding 24 = .ok (.astore_n 2, 1) := by decide +kernel
theorem d_Mp_isOpenCoding_25 : decode b_Mp_isOpenCoding 25 = .ok (.aload_n 2, 1) := by decide +kernel
theorem d_Mp_isOpenCoding_26 : decode b_Mp_isOpenCoding 26 = .ok (.getfield 99, 3) := by decide +kernel
theorem d_Mp_isOpenCoding_29 : decode b_Mp_isOpenCoding 29 = .ok (.ifCond .eq 33, 3) := by decide +kernel
theorem d_Mp_isOpenCoding_32 : decode b_Mp_isOpenCoding 32 = .ok (.aload_n 2, 1) := by decide +kernel
theorem d_Mp_isOpenCoding_33 : decode b_Mp_isOpenCoding 33 = .ok (.ldc_w 280, 3) := by decide +kernel
theorem d_Mp_isOpenCoding_36 : decode b_Mp_isOpenCoding 36 = .ok (.invokevirtual 239, 3) := by decide +kernel
theorem d_Mp_isOpenCoding_39 : decode b_Mp_isOpenCoding 39 = .ok (.ifCond .ne 23, 3) := by decide +kernel
theorem d_Mp_isOpenCoding_42 : decode b_Mp_isOpenCoding 42 = .ok (.aload_n 2, 1) := by decide +kernel
theorem d_Mp_isOpenCoding_43 : decode b_Mp_isOpenCoding 43 = .ok (.ldc_w 282, 3) := by decide +kernel
theorem d_Mp_isOpenCoding_46 : decode b_Mp_isOpenCoding 46 = .ok (.invokevirtual 239, 3) := by decide +kernel
theorem d_Mp_isOpenCoding_49 : decode b_Mp_isOpenCoding 49 = .ok (.ifCond .ne 13, 3) := by decide +kernel
theorem d_Mp_isOpenCoding_52 : decode b_Mp_isOpenCoding 52 = .ok (.aload_n 2, 1) := by decide +kernel
theorem d_Mp_isOpenCoding_53 : decode b_Mp_isOpenCoding 53 = .ok (.ldc_w 284, 3) := by decide +kernel
theorem d_Mp_isOpenCoding_56 : decode b_Mp_isOpenCoding 56 = .ok (.invokevirtual 239, 3) := by decide +kernel
theorem d_Mp_isOpenCoding_59 : decode b_Mp_isOpenCoding 59 = .ok (.ifCond .eq 7, 3) := by decide +kernel
theorem d_Mp_isOpenCoding_62 : decode b_Mp_isOpenCoding 62 = .ok (.iconst 1, 1) := by decide +kernel
theorem d_Mp_isOpenCoding_63 : decode b_Mp_isOpenCoding 63 = .ok (.goto 4, 3) := by decide +kernel
theorem d_Mp_isOpenCoding_66 : decode b_Mp_isOpenCoding 66 = .ok (.iconst 0, 1) := by decide +kernel
theorem d_Mp_isOpenCoding_67 : decode b_Mp_isOpenCoding 67 = .ok (.ireturn, 1) := by decide +kernel
theorem d_Mp_chooseTexts_0 : decode b_Mp_chooseTexts 0 = .ok (.aload_n 0, 1) := by decide +kernel
theorem d_Mp_chooseTexts_1 : decode b_Mp_chooseTexts 1 = .ok (.getfield 86, 3) := by decide +kernel
theorem d_Mp_chooseTexts_4 : decode b_Mp_chooseTexts 4 = .ok (.iconst 1, 1) := by decide +kernel
theorem d_Mp_chooseTexts_5 : decode b_Mp_chooseTexts 5 = .ok (.isub, 1) := by decide +kernel
theorem d_Mp_chooseTexts_6 : decode b_Mp_chooseTexts 6 = .ok (.istore_n 1, 1) := by decide +kernel
theorem d_Mp_chooseTexts_7 : decode b_Mp_chooseTexts 7 = .ok (.iload_n 1, 1) := by decide +kernel
theorem d_Mp_chooseTexts_8 : decode b_Mp_chooseTexts 8 = .ok (.ifCond .lt 120, 3) := by decide +kernel
theorem d_Mp_chooseTexts_11 : decode b_Mp_chooseTexts 11 = .ok (.aload_n 0, 1) := by decide +kernel
theorem d_Mp_chooseTexts_12 : decode b_Mp_chooseTexts 12 = .ok (.iload_n 1, 1) := by decide +kernel
theorem d_Mp_chooseTexts_13 : decode b_Mp_chooseTexts 13 = .ok (.invokevirtual 132, 3) := by decide +kernel
theorem d_Mp_chooseTexts_16 : decode b_Mp_chooseTexts 16 = .ok (.astore_n 2, 1) := by decide +kernel
theorem d_Mp_chooseTexts_17 : decode b_Mp_chooseTexts 17 = .ok (.aload_n 2, 1) := by decide +kernel
theorem d_Mp_chooseTexts_18 : decode b_Mp_chooseTexts 18 = .ok (.ifnonnull 7, 3) := by decide +kernel
theorem d_Mp_chooseTexts_21 : decode b_Mp_chooseTexts 21 = .ok (.aconst_null, 1) := by decide +kernel
theorem d_Mp_chooseTexts_22 : decode b_Mp_chooseTexts 22 = .ok (.goto 11, 3) := by decide +kernel
theorem d_Mp_chooseTexts_25 : decode b_Mp_chooseTexts 25 = .ok (.aload_n 0, 1) := by decide +kernel
theorem d_Mp_chooseTexts_26 : decode b_Mp_chooseTexts 26 = .ok (.aload_n 2, 1) := by decide +kernel
theorem d_Mp_chooseTexts_27 : decode b_Mp_chooseTexts 27 = .ok (.getfield 139, 3) := by decide +kernel
theorem d_Mp_chooseTexts_30 : decode b_Mp_chooseTexts 30 = .ok (.invokevirtual 132, 3) := by decide +kernel
theorem d_Mp_chooseTexts_33 : decode b_Mp_chooseTexts 33 = .ok (.astore_n 3, 1) := by decide +kernel
theorem d_Mp_chooseTexts_34 : decode b_Mp_chooseTexts 34 = .ok (.aload_n 3, 1) := by decide +kernel
theorem d_Mp_chooseTexts_35 : decode b_Mp_chooseTexts 35 = .ok (.ifnull 87, 3) := by decide +kernel
theorem d_Mp_chooseTexts_38 : decode b_Mp_chooseTexts 38 = .ok (.aload_n 2, 1) := by decide +kernel
theorem d_Mp_chooseTexts_39 : decode b_Mp_chooseTexts 39 = .ok (.getfield 268, 3) := by decide +kernel
theorem d_Mp_chooseTexts_42 : decode b_Mp_chooseTexts 42 = .ok (.ifCond .eq 80, 3) := by decide +kernel
theorem d_Mp_chooseTexts_45 : decode b_Mp_chooseTexts 45 = .ok (.aload_n 3, 1) := by decide +kernel
theorem d_Mp_chooseTexts_46 : decode b_Mp_chooseTexts 46 = .ok (.getfield 248, 3) := by decide +kernel
theorem d_Mp_chooseTexts_49 : decode b_Mp_chooseTexts 49 = .ok (.ifCond .ne 34, 3) := by decide +kernel
theorem d_Mp_chooseTexts_52 : decode b_Mp_chooseTexts 52 = .ok (.aload_n 3, 1) := by decide +kernel
theorem d_Mp_chooseTexts_53 : decode b_Mp_chooseTexts 53 = .ok (.aload_n 3, 1) := by decide +kernel
theorem d_Mp_chooseTexts_54 : decode b_Mp_chooseTexts 54 = .ok (.getfield 271, 3) := by decide +kernel
theorem d_Mp_chooseTexts_57 : decode b_Mp_chooseTexts 57 = .ok (.ifCond .ne 10, 3) := by decide +kernel
theorem d_Mp_chooseTexts_60 : decode b_Mp_chooseTexts 60 = .ok (.aload_n 2, 1) := by decide +kernel
theorem d_Mp_chooseTexts_61 : decode b_Mp_chooseTexts 61 = .ok (.getfield 271, 3) := by decide +kernel
theorem d_Mp_chooseTexts_64 : decode b_Mp_chooseTexts 64 = .ok (.ifCond .eq 7, 3) := by decide +kernel
theorem d_Mp_chooseTexts_67 : decode b_Mp_chooseTexts 67 = .ok (.iconst 1, 1) := by decide +kernel
theorem d_Mp_chooseTexts_68 : decode b_Mp_chooseTexts 68 = .ok (.goto 4, 3) := by decide +kernel
theorem d_Mp_chooseTexts_71 : decode b_Mp_chooseTexts 71 = .ok (.iconst 0, 1) := by decide +kernel
theorem d_Mp_chooseTexts_72 : decode b_Mp_chooseTexts 72 = .ok (.putfield 271, 3) := by decide +kernel
theorem d_Mp_chooseTexts_75 : decode b_Mp_chooseTexts 75 = .ok (.aload_n 3, 1) := by decide +kernel
theorem d_Mp_chooseTexts_76 : decode b_Mp_chooseTexts 76 = .ok (.iconst 1, 1) := by decide +kernel
theorem d_Mp_chooseTexts_77 : decode b_Mp_chooseTexts 77 = .ok (.putfield 268, 3) := by decide +kernel
theorem d_Mp_chooseTexts_80 : decode b_Mp_chooseTexts 80 = .ok (.goto 42, 3) := by decide +kernel
theorem d_Mp_chooseTexts_83 : decode b_Mp_chooseTexts 83 = .ok (.aload_n 3, 1) := by decide +kernel
theorem d_Mp_chooseTexts_84 : decode b_Mp_chooseTexts 84 = .ok (.getfield 268, 3) := by decide +kernel
theorem d_Mp_chooseTexts_87 : decode b_Mp_chooseTexts 87 = .ok (.ifCond .eq 17, 3) := by decide +kernel
theorem d_Mp_chooseTexts_90 : decode b_Mp_chooseTexts 90 = .ok (.aload_n 3, 1) := by decide +kernel
theorem d_Mp_chooseTexts_91 : decode b_Mp_chooseTexts 91 = .ok (.getfield 271, 3) := by decide +kernel
theorem d_Mp_chooseTexts_94 : decode b_Mp_chooseTexts 94 = .ok (.ifCond .eq 28, 3) := by decide +kernel
theorem d_Mp_chooseTexts_97 : decode b_Mp_chooseTexts 97 = .ok (.aload_n 2, 1) := by decide +kernel
theorem d_Mp_chooseTexts_98 : decode b_Mp_chooseTexts 98 = .ok (.getfield 271, 3) := by decide +kernel
theorem d_Mp_chooseTexts_101 : decode b_Mp_chooseTexts 101 = .ok (.ifCond .ne 21, 3) := by decide +kernel
theorem d_Mp_chooseTexts_104 : decode b_Mp_chooseTexts 104 = .ok (.aload_n 3, 1) := by decide +kernel
theorem d_Mp_chooseTexts_105 : decode b_Mp_chooseTexts 105 = .ok (.aload_n 2, 1) := by decide +kernel
theorem d_Mp_chooseTexts_106 : decode b_Mp_chooseTexts 106 = .ok (.getfield 271, 3) := by decide +kernel
theorem d_Mp_chooseTexts_109 : decode b_Mp_chooseTexts 109 = .ok (.putfield 271, 3) := by decide +kernel
theorem d_Mp_chooseTexts_112 : decode b_Mp_chooseTexts 112 = .ok (.aload_n 3, 1) := by decide +kernel
theorem d_Mp_chooseTexts_113 : decode b_Mp_chooseTexts 113 = .ok (.iconst 1, 1) := by decide +kernel
theorem d_Mp_chooseTexts_114 : decode b_Mp_chooseTexts 114 = .ok (.putfield 268, 3) := by decide +kernel
theorem d_Mp_chooseTexts_117 : decode b_Mp_chooseTexts 117 = .ok (.aload_n 3, 1) := by decide +kernel
theorem d_Mp_chooseTexts_118 : decode b_Mp_chooseTexts 118 = .ok (.iload_n 1, 1) := by decide +kernel
theorem d_Mp_chooseTexts_119 : decode b_Mp_chooseTexts 119 = .ok (.putfield 277, 3) := by decide +kernel
theorem d_Mp_chooseTexts_122 : decode b_Mp_chooseTexts 122 = .ok (.iinc 1 (-1), 3) := by decide +kernel
theorem d_Mp_chooseTexts_125 : decode b_Mp_chooseTexts 125 = .ok (.goto (-118), 3) := by decide +kernel
theorem d_Mp_chooseTexts_128 : decode b_Mp_chooseTexts 128 = .ok (.return_, 1) := by decide +kernel
theorem d_Mp_listLeaves_0 : decode b_Mp_listLeaves 0 = .ok (.aload_n 0, 1) := by decide +kernel
theorem d_Mp_listLeaves_1 : decode b_Mp_listLeaves 1 = .ok (.getfield 80, 3) := by decide +kernel
theorem d_Mp_listLeaves_4 : decode b_Mp_listLeaves 4 = .ok (.invokevirtual 93, 3) := by decide +kernel
theorem d_Mp_listLeaves_7 : decode b_Mp_listLeaves 7 = .ok (.aload_n 0, 1) := by decide +kernel
theorem d_Mp_listLeaves_8 : decode b_Mp_listLeaves 8 = .ok (.getfield 83, 3) := by decide +kernel
theorem d_Mp_listLeaves_11 : decode b_Mp_listLeaves 11 = .ok (.invokevirtual 93, 3) := by decide +kernel
theorem d_Mp_listLeaves_14 : decode b_Mp_listLeaves 14 = .ok (.iconst 0, 1) := by decide +kernel
theorem d_Mp_listLeaves_15 : decode b_Mp_listLeaves 15 = .ok (.istore_n 1, 1) := by decide +kernel
theorem d_Mp_listLeaves_16 : decode b_Mp_listLeaves 16 = .ok (.iload_n 1, 1) := by decide +kernel
theorem d_Mp_listLeaves_17 : decode b_Mp_listLeaves 17 = .ok (.aload_n 0, 1) := by decide +kernel
theorem d_Mp_listLeaves_18 : decode b_Mp_listLeaves 18 = .ok (.getfield 86, 3) := by decide +kernel
theorem d_Mp_listLeaves_21 : decode b_Mp_listLeaves 21 = .ok (.if_icmp .ge 107, 3) := by decide +kernel
theorem d_Mp_listLeaves_24 : decode b_Mp_listLeaves 24 = .ok (.aload_n 0, 1) := by decide +kernel
theorem d_Mp_listLeaves_25 : decode b_Mp_listLeaves 25 = .ok (.iload_n 1, 1) := by decide +kernel
theorem d_Mp_listLeaves_26 : decode b_Mp_listLeaves 26 = .ok (.invokevirtual 132, 3) := by decide +kernel
theorem d_Mp_listLeaves_29 : decode b_Mp_listLeaves 29 = .ok (.astore_n 2, 1) := by decide +kernel
theorem d_Mp_listLeaves_30 : decode b_Mp_listLeaves 30 = .ok (.aload_n 2, 1) := by decide +kernel
theorem d_Mp_listLeaves_31 : decode b_Mp_listLeaves 31 = .ok (.ifnull 91, 3) := by decide +kernel
theorem d_Mp_listLeaves_34 : decode b_Mp_listLeaves 34 = .ok (.aload_n 0, 1) := by decide +kernel
theorem d_Mp_listLeaves_35 : decode b_Mp_listLeaves 35 = .ok (.aload_n 2, 1) := by decide +kernel
theorem d_Mp_listLeaves_36 : decode b_Mp_listLeaves 36 = .ok (.getfield 139, 3) := by decide +kernel
theorem d_Mp_listLeaves_39 : decode b_Mp_listLeaves 39 = .ok (.invokevirtual 132, 3) := by decide +kernel
theorem d_Mp_listLeaves_42 : decode b_Mp_listLeaves 42 = .ok (.astore_n 3, 1) := by decide +kernel
theorem d_Mp_listLeaves_43 : decode b_Mp_listLeaves 43 = .ok (.aload_n 2, 1) := by decide +kernel
theorem d_Mp_listLeaves_44 : decode b_Mp_listLeaves 44 = .ok (.aload_n 3, 1) := by decide +kernel
theorem d_Mp_listLeaves_45 : decode b_Mp_listLeaves 45 = .ok (.ifnull 25, 3) := by decide +kernel
theorem d_Mp_listLeaves_48 : decode b_Mp_listLeaves 48 = .ok (.aload_n 3, 1) := by decide +kernel
theorem d_Mp_listLeaves_49 : decode b_Mp_listLeaves 49 = .ok (.getfield 286, 3) := by decide +kernel
theorem d_Mp_listLeaves_52 : decode b_Mp_listLeaves 52 = .ok (.ifCond .eq 22, 3) := by decide +kernel
theorem d_Mp_listLeaves_55 : decode b_Mp_listLeaves 55 = .ok (.aload_n 3, 1) := by decide +kernel
theorem d_Mp_listLeaves_56 : decode b_Mp_listLeaves 56 = .ok (.getfield 248, 3) := by decide +kernel
theorem d_Mp_listLeaves_59 : decode b_Mp_listLeaves 59 = .ok (.ifCond .eq 11, 3) := by decide +kernel
theorem d_Mp_listLeaves_62 : decode b_Mp_listLeaves 62 = .ok (.aload_n 3, 1) := by decide +kernel
theorem d_Mp_listLeaves_63 : decode b_Mp_listLeaves 63 = .ok (.getfield 277, 3) := by decide +kernel
theorem d_Mp_listLeaves_66 : decode b_Mp_listLeaves 66 = .ok (.iload_n 1, 1) := by decide +kernel
theorem d_Mp_listLeaves_67 : decode b_Mp_listLeaves 67 = .ok (.if_icmp .ne 7, 3) := by decide +kernel
theorem d_Mp_listLeaves_70 : decode b_Mp_listLeaves 70 = .ok (.iconst 1, 1) := by decide +kernel
theorem d_Mp_listLeaves_71 : decode b_Mp_listLeaves 71 = .ok (.goto 4, 3) := by decide +kernel
theorem d_Mp_listLeaves_74 : decode b_Mp_listLeaves 74 = .ok (.iconst 0, 1) := by decide +kernel
theorem d_Mp_listLeaves_75 : decode b_Mp_listLeaves 75 = .ok (.putfield 286, 3) := by decide +kernel
theorem d_Mp_listLeaves_78 : decode b_Mp_listLeaves 78 = .ok (.aload_n 2, 1) := by decide +kernel
theorem d_Mp_listLeaves_79 : decode b_Mp_listLeaves 79 = .ok (.getfield 136, 3) := by decide +kernel
theorem d_Mp_listLeaves_82 : decode b_Mp_listLeaves 82 = .ok (.ifCond .ne 25, 3) := by decide +kernel
theorem d_Mp_listLeaves_85 : decode b_Mp_listLeaves 85 = .ok (.aload_n 2, 1) := by decide +kernel
theorem d_Mp_listLeaves_86 : decode b_Mp_listLeaves 86 = .ok (.getfield 286, 3) := by decide +kernel
theorem d_Mp_listLeaves_89 : decode b_Mp_listLeaves 89 = .ok (.ifCond .eq 18, 3) := by decide +kernel
theorem d_Mp_listLeaves_92 : decode b_Mp_listLeaves 92 = .ok (.aload_n 2, 1) := by decide +kernel
theorem d_Mp_listLeaves_93 : decode b_Mp_listLeaves 93 = .ok (.getfield 268, 3) := by decide +kernel
theorem d_Mp_listLeaves_96 : decode b_Mp_listLeaves 96 = .ok (.ifCond .eq 11, 3) := by decide +kernel
theorem d_Mp_listLeaves_99 : decode b_Mp_listLeaves 99 = .ok (.aload_n 0, 1) := by decide +kernel
theorem d_Mp_listLeaves_100 : decode b_Mp_listLeaves 100 = .ok (.getfield 80, 3) := by decide +kernel
theorem d_Mp_listLeaves_103 : decode b_Mp_listLeaves 103 = .ok (.iload_n 1, 1) := by decide +kernel
theorem d_Mp_listLeaves_104 : decode b_Mp_listLeaves 104 = .ok (.invokevirtual 112, 3) := by decide +kernel
theorem d_Mp_listLeaves_107 : decode b_Mp_listLeaves 107 = .ok (.aload_n 2, 1) := by decide +kernel
theorem d_Mp_listLeaves_108 : decode b_Mp_listLeaves 108 = .ok (.getfield 274, 3) := by decide +kernel
theorem d_Mp_listLeaves_111 : decode b_Mp_listLeaves 111 = .ok (.ifCond .eq 11, 3) := by decide +kernel
theorem d_Mp_listLeaves_114 : decode b_Mp_listLeaves 114 = .ok (.aload_n 0, 1) := by decide +kernel
theorem d_Mp_listLeaves_115 : decode b_Mp_listLeaves 115 = .ok (.getfield 83, 3) := by decide +kernel
theorem d_Mp_listLeaves_118 : decode b_Mp_listLeaves 118 = .ok (.iload_n 1, 1) := by decide +kernel
theorem d_Mp_listLeaves_119 : decode b_Mp_listLeaves 119 = .ok (.invokevirtual 112, 3) := by decide +kernel
theorem d_Mp_listLeaves_122 : decode b_Mp_listLeaves 122 = .ok (.iinc 1 1, 3) := by decide +kernel
theorem d_Mp_listLeaves_125 : decode b_Mp_listLeaves 125 = .ok (.goto (-109), 3) := by decide +kernel
theorem d_Mp_listLeaves_128 : decode b_Mp_listLeaves 128 = .ok (.return_, 1) := by decide +kernel
theorem d_Mp_loadWord_0 : decode b_Mp_loadWord 0 = .ok (.aload_n 0, 1) := by decide +kernel
theorem d_Mp_loadWord_1 : decode b_Mp_loadWord 1 = .ok (.iload_n 1, 1) := by decide +kernel
theorem d_Mp_loadWord_2 : decode b_Mp_loadWord 2 = .ok (.invokevirtual 132, 3) := by decide +kernel
theorem d_Mp_loadWord_5 : decode b_Mp_loadWord 5 = .ok (.astore_n 3, 1) := by decide +kernel
theorem d_Mp_loadWord_6 : decode b_Mp_loadWord 6 = .ok (.aload_n 3, 1) := by decide +kernel
theorem d_Mp_loadWord_7 : decode b_Mp_loadWord 7 = .ok (.ifnonnull 5, 3) := by decide +kernel
theorem d_Mp_loadWord_10 : decode b_Mp_loadWord 10 = .ok (.iconst 0, 1) := by decide +kernel
theorem d_Mp_loadWord_11 : decode b_Mp_loadWord 11 = .ok (.ireturn, 1) := by decide +kernel
theorem d_Mp_loadWord_12 : decode b_Mp_loadWord 12 = .ok (.iload_n 2, 1) := by decide +kernel
theorem d_Mp_loadWord_13 : decode b_Mp_loadWord 13 = .ok (.tableswitch 60 0 2 #[27, 34, 53], 27) := by decide +kernel
theorem d_Mp_loadWord_40 : decode b_Mp_loadWord 40 = .ok (.aload_n 0, 1) := by decide +kernel
theorem d_Mp_loadWord_41 : decode b_Mp_loadWord 41 = .ok (.aload_n 3, 1) := by decide +kernel
theorem d_Mp_loadWord_42 : decode b_Mp_loadWord 42 = .ok (.invokevirtual 228, 3) := by decide +kernel
theorem d_Mp_loadWord_45 : decode b_Mp_loadWord 45 = .ok (.iconst 1, 1) := by decide +kernel
theorem d_Mp_loadWord_46 : decode b_Mp_loadWord 46 = .ok (.ireturn, 1) := by decide +kernel
theorem d_Mp_loadWord_47 : decode b_Mp_loadWord 47 = .ok (.aload_n 0, 1) := by decide +kernel
theorem d_Mp_loadWord_48 : decode b_Mp_loadWord 48 = .ok (.aload_n 3, 1) := by decide +kernel
theorem d_Mp_loadWord_49 : decode b_Mp_loadWord 49 = .ok (.aload_n 0, 1) := by decide +kernel
theorem d_Mp_loadWord_50 : decode b_Mp_loadWord 50 = .ok (.getfield 46, 3) := by decide +kernel
theorem d_Mp_loadWord_53 : decode b_Mp_loadWord 53 = .ok (.invokevirtual 179, 3) := by decide +kernel
theorem d_Mp_loadWord_56 : decode b_Mp_loadWord 56 = .ok (.pop, 1) := by decide +kernel
theorem d_Mp_loadWord_57 : decode b_Mp_loadWord 57 = .ok (.aload_n 0, 1) := by decide +kernel
theorem d_Mp_loadWord_58 : decode b_Mp_loadWord 58 = .ok (.getfield 31, 3) := by decide +kernel
theorem d_Mp_loadWord_61 : decode b_Mp_loadWord 61 = .ok (.invokevirtual 256, 3) := by decide +kernel
theorem d_Mp_loadWord_64 : decode b_Mp_loadWord 64 = .ok (.iconst 1, 1) := by decide +kernel
theorem d_Mp_loadWord_65 : decode b_Mp_loadWord 65 = .ok (.ireturn, 1) := by decide +kernel
theorem d_Mp_loadWord_66 : decode b_Mp_loadWord 66 = .ok (.aload_n 0, 1) := by decide +kernel
theorem d_Mp_loadWord_67 : decode b_Mp_loadWord 67 = .ok (.aload_n 3, 1) := by decide +kernel
theorem d_Mp_loadWord_68 : decode b_Mp_loadWord 68 = .ok (.invokevirtual 289, 3) := by decide +kernel
theorem d_Mp_loadWord_71 : decode b_Mp_loadWord 71 = .ok (.iconst 1, 1) := by decide +kernel
theorem d_Mp_loadWord_72 : decode b_Mp_loadWord 72 = .ok (.ireturn, 1) := by decide +kernel
theorem d_Mp_loadWord_73 : decode b_Mp_loadWord 73 = .ok (.iconst 0, 1) := by decide +kernel
theorem d_Mp_loadWord_74 : decode b_Mp_loadWord 74 = .ok (.ireturn, 1) := by decide +kernel
theorem d_Mp_loadType_0 : decode b_Mp_loadType 0 = .ok (.aload_n 0, 1) := by decide +kernel
theorem d_Mp_loadType_1 : decode b_Mp_loadType 1 = .ok (.aload_n 1, 1) := by decide +kernel
theorem d_Mp_loadType_2 : decode b_Mp_loadType 2 = .ok (.aload_n 0, 1) := by decide +kernel
theorem d_Mp_loadType_3 : decode b_Mp_loadType 3 = .ok (.getfield 41, 3) := by decide +kernel
theorem d_Mp_loadType_6 : decode b_Mp_loadType 6 = .ok (.invokevirtual 179, 3) := by decide +kernel
theorem d_Mp_loadType_9 : decode b_Mp_loadType 9 = .ok (.pop, 1) := by decide +kernel
theorem d_Mp_loadType_10 : decode b_Mp_loadType 10 = .ok (.aload_n 0, 1) := by decide +kernel
theorem d_Mp_loadType_11 : decode b_Mp_loadType 11 = .ok (.getfield 31, 3) := by decide +kernel
theorem d_Mp_loadType_14 : decode b_Mp_loadType 14 = .ok (.invokevirtual 256, 3) := by decide +kernel
theorem d_Mp_loadType_17 : decode b_Mp_loadType 17 = .ok (.aload_n 0, 1) := by decide +kernel
theorem d_Mp_loadType_18 : decode b_Mp_loadType 18 = .ok (.getfield 31, 3) := by decide +kernel
theorem d_Mp_loadType_21 : decode b_Mp_loadType 21 = .ok (.invokevirtual 292, 3) := by decide +kernel
theorem d_Mp_loadType_24 : decode b_Mp_loadType 24 = .ok (.ifCond .ne 41, 3) := by decide +kernel
theorem d_Mp_loadType_27 : decode b_Mp_loadType 27 = .ok (.aload_n 0, 1) := by decide +kernel
theorem d_Mp_loadType_28 : decode b_Mp_loadType 28 = .ok (.aload_n 1, 1) := by decide +kernel
theorem d_Mp_loadType_29 : decode b_Mp_loadType 29 = .ok (.getfield 139, 3) := by decide +kernel
theorem d_Mp_loadType_32 : decode b_Mp_loadType 32 = .ok (.invokevirtual 132, 3) := by decide +kernel
theorem d_Mp_loadType_35 : decode b_Mp_loadType 35 = .ok (.astore_n 2, 1) := by decide +kernel
theorem d_Mp_loadType_36 : decode b_Mp_loadType 36 = .ok (.aload_n 0, 1) := by decide +kernel
theorem d_Mp_loadType_37 : decode b_Mp_loadType 37 = .ok (.getfield 31, 3) := by decide +kernel
theorem d_Mp_loadType_40 : decode b_Mp_loadType 40 = .ok (.getfield 178, 3) := by decide +kernel
theorem d_Mp_loadType_43 : decode b_Mp_loadType 43 = .ok (.aload_n 2, 1) := by decide +kernel
theorem d_Mp_loadType_44 : decode b_Mp_loadType 44 = .ok (.ifnull 15, 3) := by decide +kernel
theorem d_Mp_loadType_47 : decode b_Mp_loadType 47 = .ok (.aload_n 2, 1) := by decide +kernel
theorem d_Mp_loadType_48 : decode b_Mp_loadType 48 = .ok (.getfield 253, 3) := by decide +kernel
theorem d_Mp_loadType_51 : decode b_Mp_loadType 51 = .ok (.ifCond .eq 8, 3) := by decide +kernel
theorem d_Mp_loadType_54 : decode b_Mp_loadType 54 = .ok (.ldc 244, 2) := by decide +kernel
theorem d_Mp_loadType_56 : decode b_Mp_loadType 56 = .ok (.goto 6, 3) := by decide +kernel
theorem d_Mp_loadType_59 : decode b_Mp_loadType 59 = .ok (.ldc_w 296, 3) := by decide +kernel
theorem d_Mp_loadType_62 : decode b_Mp_loadType 62 = .ok (.invokevirtual 298, 3) := by decide +kernel
theorem d_Mp_loadType_65 : decode b_Mp_loadType 65 = .ok (.return_, 1) := by decide +kernel
theorem d_Mp_loadName_0 : decode b_Mp_loadName 0 = .ok (.aload_n 0, 1) := by decide +kernel
theorem d_Mp_loadName_1 : decode b_Mp_loadName 1 = .ok (.aload_n 1, 1) := by decide +kernel
theorem d_Mp_loadName_2 : decode b_Mp_loadName 2 = .ok (.aload_n 0, 1) := by decide +kernel
theorem d_Mp_loadName_3 : decode b_Mp_loadName 3 = .ok (.getfield 51, 3) := by decide +kernel
theorem d_Mp_loadName_6 : decode b_Mp_loadName 6 = .ok (.invokevirtual 179, 3) := by decide +kernel
theorem d_Mp_loadName_9 : decode b_Mp_loadName 9 = .ok (.pop, 1) := by decide +kernel
theorem d_Mp_loadName_10 : decode b_Mp_loadName 10 = .ok (.aload_n 0, 1) := by decide +kernel
theorem d_Mp_loadName_11 : decode b_Mp_loadName 11 = .ok (.getfield 31, 3) := by decide +kernel
theorem d_Mp_loadName_14 : decode b_Mp_loadName 14 = .ok (.aload_n 0, 1) := by decide +kernel
theorem d_Mp_loadName_15 : decode b_Mp_loadName 15 = .ok (.getfield 61, 3) := by decide +kernel
theorem d_Mp_loadName_18 : decode b_Mp_loadName 18 = .ok (.invokevirtual 187, 3) := by decide +kernel
theorem d_Mp_loadName_21 : decode b_Mp_loadName 21 = .ok (.ifCond .ne 25, 3) := by decide +kernel
theorem d_Mp_loadName_24 : decode b_Mp_loadName 24 = .ok (.aload_n 0, 1) := by decide +kernel
theorem d_Mp_loadName_25 : decode b_Mp_loadName 25 = .ok (.aload_n 1, 1) := by decide +kernel
theorem d_Mp_loadName_26 : decode b_Mp_loadName 26 = .ok (.aload_n 0, 1) := by decide +kernel
theorem d_Mp_loadName_27 : decode b_Mp_loadName 27 = .ok (.getfield 41, 3) := by decide +kernel
theorem d_Mp_loadName_30 : decode b_Mp_loadName 30 = .ok (.invokevirtual 179, 3) := by decide +kernel
theorem d_Mp_loadName_33 : decode b_Mp_loadName 33 = .ok (.pop, 1) := by decide +kernel
theorem d_Mp_loadName_34 : decode b_Mp_loadName 34 = .ok (.aload_n 0, 1) := by decide +kernel
theorem d_Mp_loadName_35 : decode b_Mp_loadName 35 = .ok (.getfield 31, 3) := by decide +kernel
theorem d_Mp_loadName_38 : decode b_Mp_loadName 38 = .ok (.aload_n 0, 1) := by decide +kernel
theorem d_Mp_loadName_39 : decode b_Mp_loadName 39 = .ok (.getfield 66, 3) := by decide +kernel
theorem d_Mp_loadName_42 : decode b_Mp_loadName 42 = .ok (.invokevirtual 187, 3) := by decide +kernel
theorem d_Mp_loadName_45 : decode b_Mp_loadName 45 = .ok (.pop, 1) := by decide +kernel
theorem d_Mp_loadName_46 : decode b_Mp_loadName 46 = .ok (.return_, 1) := by decide +kernel
theorem d_Mp_loadField_0 : decode b_Mp_loadField 0 = .ok (.aload_n 0, 1) := by decide +kernel
theorem d_Mp_loadField_1 : decode b_Mp_loadField 1 = .ok (.getfield 24, 3) := by decide +kernel
theorem d_Mp_loadField_4 : decode b_Mp_loadField 4 = .ok (.aload_n 1, 1) := by decide +kernel
theorem d_Mp_loadField_5 : decode b_Mp_loadField 5 = .ok (.getfield 149, 3) := by decide +kernel
theorem d_Mp_loadField_8 : decode b_Mp_loadField 8 = .ok (.aload_n 1, 1) := by decide +kernel
theorem d_Mp_loadField_9 : decode b_Mp_loadField 9 = .ok (.getfield 164, 3) := by decide +kernel
theorem d_Mp_loadField_12 : decode b_Mp_loadField 12 = .ok (.aload_n 2, 1) := by decide +kernel
theorem d_Mp_loadField_13 : decode b_Mp_loadField 13 = .ok (.invokevirtual 205, 3) := by decide +kernel
theorem d_Mp_loadField_16 : decode b_Mp_loadField 16 = .ok (.istore_n 3, 1) := by decide +kernel
theorem d_Mp_loadField_17 : decode b_Mp_loadField 17 = .ok (.aload_n 0, 1) := by decide +kernel
theorem d_Mp_loadField_18 : decode b_Mp_loadField 18 = .ok (.getfield 31, 3) := by decide +kernel
theorem d_Mp_loadField_21 : decode b_Mp_loadField 21 = .ok (.getfield 178, 3) := by decide +kernel
theorem d_Mp_loadField_24 : decode b_Mp_loadField 24 = .ok (.invokevirtual 93, 3) := by decide +kernel
theorem d_Mp_loadField_27 : decode b_Mp_loadField 27 = .ok (.iload_n 3, 1) := by decide +kernel
theorem d_Mp_loadField_28 : decode b_Mp_loadField 28 = .ok (.iconst (-1), 1) := by decide +kernel
theorem d_Mp_loadField_29 : decode b_Mp_loadField 29 = .ok (.if_icmp .ne 5, 3) := by decide +kernel
theorem d_Mp_loadField_32 : decode b_Mp_loadField 32 = .ok (.iconst 0, 1) := by decide +kernel
theorem d_Mp_loadField_33 : decode b_Mp_loadField 33 = .ok (.ireturn, 1) := by decide +kernel
theorem d_Mp_loadField_34 : decode b_Mp_loadField 34 = .ok (.aload_n 0, 1) := by decide +kernel
theorem d_Mp_loadField_35 : decode b_Mp_loadField 35 = .ok (.getfield 24, 3) := by decide +kernel
theorem d_Mp_loadField_38 : decode b_Mp_loadField 38 = .ok (.iload_n 3, 1) := by decide +kernel
theorem d_Mp_loadField_39 : decode b_Mp_loadField 39 = .ok (.aload_n 1, 1) := by decide +kernel
theorem d_Mp_loadField_40 : decode b_Mp_loadField 40 = .ok (.getfield 164, 3) := by decide +kernel
theorem d_Mp_loadField_43 : decode b_Mp_loadField 43 = .ok (.aload_n 0, 1) := by decide +kernel
theorem d_Mp_loadField_44 : decode b_Mp_loadField 44 = .ok (.getfield 31, 3) := by decide +kernel
theorem d_Mp_loadField_47 : decode b_Mp_loadField 47 = .ok (.getfield 178, 3) := by decide +kernel
theorem d_Mp_loadField_50 : decode b_Mp_loadField 50 = .ok (.invokevirtual 302, 3) := by decide +kernel
theorem d_Mp_loadField_53 : decode b_Mp_loadField 53 = .ok (.iconst 1, 1) := by decide +kernel
theorem d_Mp_loadField_54 : decode b_Mp_loadField 54 = .ok (.ireturn, 1) := by decide +kernel
theorem d_Mp_rowOf_0 : decode b_Mp_rowOf 0 = .ok (.new 7, 3) := by decide +kernel
theorem d_Mp_rowOf_3 : decode b_Mp_rowOf 3 = .ok (.dup, 1) := by decide +kernel
theorem d_Mp_rowOf_4 : decode b_Mp_rowOf 4 = .ok (.aload_n 0, 1) := by decide +kernel
theorem d_Mp_rowOf_5 : decode b_Mp_rowOf 5 = .ok (.invokevirtual 305, 3) := by decide +kernel
theorem d_Mp_rowOf_8 : decode b_Mp_rowOf 8 = .ok (.invokespecial 11, 3) := by decide +kernel
theorem d_Mp_rowOf_11 : decode b_Mp_rowOf 11 = .ok (.astore_n 1, 1) := by decide +kernel
theorem d_Mp_rowOf_12 : decode b_Mp_rowOf 12 = .ok (.aload_n 1, 1) := by decide +kernel
theorem d_Mp_rowOf_13 : decode b_Mp_rowOf 13 = .ok (.aload_n 0, 1) := by decide +kernel
theorem d_Mp_rowOf_14 : decode b_Mp_rowOf 14 = .ok (.invokevirtual 298, 3) := by decide +kernel
theorem d_Mp_rowOf_17 : decode b_Mp_rowOf 17 = .ok (.aload_n 1, 1) := by decide +kernel
theorem d_Mp_rowOf_18 : decode b_Mp_rowOf 18 = .ok (.areturn, 1) := by decide +kernel
theorem d_Mp_isBlank_0 : decode b_Mp_isBlank 0 = .ok (.iload_n 0, 1) := by decide +kernel
theorem d_Mp_isBlank_1 : decode b_Mp_isBlank 1 = .ok (.bipush 32, 2) := by decide +kernel
theorem d_Mp_isBlank_3 : decode b_Mp_isBlank 3 = .ok (.if_icmp .eq 9, 3) := by decide +kernel
theorem d_Mp_isBlank_6 : decode b_Mp_isBlank 6 = .ok (.iload_n 0, 1) := by decide +kernel
theorem d_Mp_isBlank_7 : decode b_Mp_isBlank 7 = .ok (.bipush 9, 2) := by decide +kernel
theorem d_Mp_isBlank_9 : decode b_Mp_isBlank 9 = .ok (.if_icmp .ne 7, 3) := by decide +kernel
theorem d_Mp_isBlank_12 : decode b_Mp_isBlank 12 = .ok (.iconst 1, 1) := by decide +kernel
theorem d_Mp_isBlank_13 : decode b_Mp_isBlank 13 = .ok (.goto 4, 3) := by decide +kernel
theorem d_Mp_isBlank_16 : decode b_Mp_isBlank 16 = .ok (.iconst 0, 1) := by decide +kernel
theorem d_Mp_isBlank_17 : decode b_Mp_isBlank 17 = .ok (.ireturn, 1) := by decide +kernel
theorem d_Mp_isNameByte_0 : decode b_Mp_isNameByte 0 = .ok (.iload_n 0, 1) := by decide +kernel
theorem d_Mp_isNameByte_1 : decode b_Mp_isNameByte 1 = .ok (.bipush 97, 2) := by decide +kernel
theorem d_Mp_isNameByte_3 : decode b_Mp_isNameByte 3 = .ok (.if_icmp .lt 9, 3) := by decide +kernel
theorem d_Mp_isNameByte_6 : decode b_Mp_isNameByte 6 = .ok (.iload_n 0, 1) := by decide +kernel
theorem d_Mp_isNameByte_7 : decode b_Mp_isNameByte 7 = .ok (.bipush 122, 2) := by decide +kernel
theorem d_Mp_isNameByte_9 : decode b_Mp_isNameByte 9 = .ok (.if_icmp .le 33, 3) := by decide +kernel
theorem d_Mp_isNameByte_12 : decode b_Mp_isNameByte 12 = .ok (.iload_n 0, 1) := by decide +kernel
theorem d_Mp_isNameByte_13 : decode b_Mp_isNameByte 13 = .ok (.bipush 65, 2) := by decide +kernel
theorem d_Mp_isNameByte_15 : decode b_Mp_isNameByte 15 = .ok (.if_icmp .lt 9, 3) := by decide +kernel
theorem d_Mp_isNameByte_18 : decode b_Mp_isNameByte 18 = .ok (.iload_n 0, 1) := by decide +kernel
theorem d_Mp_isNameByte_19 : decode b_Mp_isNameByte 19 = .ok (.bipush 90, 2) := by decide +kernel
theorem d_Mp_isNameByte_21 : decode b_Mp_isNameByte 21 = .ok (.if_icmp .le 21, 3) := by decide +kernel
theorem d_Mp_isNameByte_24 : decode b_Mp_isNameByte 24 = .ok (.iload_n 0, 1) := by decide +kernel
theorem d_Mp_isNameByte_25 : decode b_Mp_isNameByte 25 = .ok (.bipush 48, 2) := by decide +kernel
theorem d_Mp_isNameByte_27 : decode b_Mp_isNameByte 27 = .ok (.if_icmp .lt 9, 3) := by decide +kernel
theorem d_Mp_isNameByte_30 : decode b_Mp_isNameByte 30 = .ok (.iload_n 0, 1) := by decide +kernel
theorem d_Mp_isNameByte_31 : decode b_Mp_isNameByte 31 = .ok (.bipush 57, 2) := by decide +kernel
theorem d_Mp_isNameByte_33 : decode b_Mp_isNameByte 33 = .ok (.if_icmp .le 9, 3) := by decide +kernel
theorem d_Mp_isNameByte_36 : decode b_Mp_isNameByte 36 = .ok (.iload_n 0, 1) := by decide +kernel
theorem d_Mp_isNameByte_37 : decode b_Mp_isNameByte 37 = .ok (.bipush 45, 2) := by decide +kernel
theorem d_Mp_isNameByte_39 : decode b_Mp_isNameByte 39 = .ok (.if_icmp .ne 7, 3) := by decide +kernel
theorem d_Mp_isNameByte_42 : decode b_Mp_isNameByte 42 = .ok (.iconst 1, 1) := by decide +kernel
theorem d_Mp_isNameByte_43 : decode b_Mp_isNameByte 43 = .ok (.goto 4, 3) := by decide +kernel
theorem d_Mp_isNameByte_46 : decode b_Mp_isNameByte 46 = .ok (.iconst 0, 1) := by decide +kernel
theorem d_Mp_isNameByte_47 : decode b_Mp_isNameByte 47 = .ok (.ireturn, 1) := by decide +kernel
theorem d_Mp_small_0 : decode b_Mp_small 0 = .ok (.iload_n 0, 1) := by decide +kernel
theorem d_Mp_small_1 : decode b_Mp_small 1 = .ok (.bipush 65, 2) := by decide +kernel
theorem d_Mp_small_3 : decode b_Mp_small 3 = .ok (.if_icmp .lt 16, 3) := by decide +kernel
theorem d_Mp_small_6 : decode b_Mp_small 6 = .ok (.iload_n 0, 1) := by decide +kernel
theorem d_Mp_small_7 : decode b_Mp_small 7 = .ok (.bipush 90, 2) := by decide +kernel
theorem d_Mp_small_9 : decode b_Mp_small 9 = .ok (.if_icmp .gt 10, 3) := by decide +kernel
theorem d_Mp_small_12 : decode b_Mp_small 12 = .ok (.iload_n 0, 1) := by decide +kernel
theorem d_Mp_small_13 : decode b_Mp_small 13 = .ok (.bipush 32, 2) := by decide +kernel
theorem d_Mp_small_15 : decode b_Mp_small 15 = .ok (.iadd, 1) := by decide +kernel
theorem d_Mp_small_16 : decode b_Mp_small 16 = .ok (.goto 4, 3) := by decide +kernel
theorem d_Mp_small_19 : decode b_Mp_small 19 = .ok (.iload_n 0, 1) := by decide +kernel
theorem d_Mp_small_20 : decode b_Mp_small 20 = .ok (.ireturn, 1) := by decide +kernel
