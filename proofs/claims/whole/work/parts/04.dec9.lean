theorem d_Mo_build_0 : decode b_Mo_build 0 = .ok (.aload_n 0, 1) := by decide +kernel
theorem d_Mo_build_1 : decode b_Mo_build 1 = .ok (.iconst 0, 1) := by decide +kernel
theorem d_Mo_build_2 : decode b_Mo_build 2 = .ok (.putfield 258, 3) := by decide +kernel
theorem d_Mo_build_5 : decode b_Mo_build 5 = .ok (.aload_n 0, 1) := by decide +kernel
theorem d_Mo_build_6 : decode b_Mo_build 6 = .ok (.iconst 0, 1) := by decide +kernel
theorem d_Mo_build_7 : decode b_Mo_build 7 = .ok (.putfield 261, 3) := by decide +kernel
theorem d_Mo_build_10 : decode b_Mo_build 10 = .ok (.aload_n 0, 1) := by decide +kernel
theorem d_Mo_build_11 : decode b_Mo_build 11 = .ok (.iconst 0, 1) := by decide +kernel
theorem d_Mo_build_12 : decode b_Mo_build 12 = .ok (.putfield 232, 3) := by decide +kernel
theorem d_Mo_build_15 : decode b_Mo_build 15 = .ok (.aload_n 0, 1) := by decide +kernel
theorem d_Mo_build_16 : decode b_Mo_build 16 = .ok (.iconst 0, 1) := by decide +kernel
theorem d_Mo_build_17 : decode b_Mo_build 17 = .ok (.aload_n 0, 1) := by decide +kernel
theorem d_Mo_build_18 : decode b_Mo_build 18 = .ok (.getfield 139, 3) := by decide +kernel
theorem d_Mo_build_21 : decode b_Mo_build 21 = .ok (.iconst (-1), 1) := by decide +kernel
theorem d_Mo_build_22 : decode b_Mo_build 22 = .ok (.invokevirtual 251, 3) := by decide +kernel
theorem d_Mo_build_25 : decode b_Mo_build 25 = .ok (.aload_n 0, 1) := by decide +kernel
theorem d_Mo_build_26 : decode b_Mo_build 26 = .ok (.getfield 232, 3) := by decide +kernel
theorem d_Mo_build_29 : decode b_Mo_build 29 = .ok (.ifCond .le 136, 3) := by decide +kernel
theorem d_Mo_build_32 : decode b_Mo_build 32 = .ok (.aload_n 0, 1) := by decide +kernel
theorem d_Mo_build_33 : decode b_Mo_build 33 = .ok (.dup, 1) := by decide +kernel
theorem d_Mo_build_34 : decode b_Mo_build 34 = .ok (.getfield 232, 3) := by decide +kernel
theorem d_Mo_build_37 : decode b_Mo_build 37 = .ok (.iconst 1, 1) := by decide +kernel
theorem d_Mo_build_38 : decode b_Mo_build 38 = .ok (.isub, 1) := by decide +kernel
theorem d_Mo_build_39 : decode b_Mo_build 39 = .ok (.putfield 232, 3) := by decide +kernel
theorem d_Mo_build_42 : decode b_Mo_build 42 = .ok (.aload_n 0, 1) := by decide +kernel
theorem d_Mo_build_43 : decode b_Mo_build 43 = .ok (.getfield 258, 3) := by decide +kernel
theorem d_Mo_build_46 : decode b_Mo_build 46 = .ok (.bipush 60, 2) := by decide +kernel
theorem d_Mo_build_48 : decode b_Mo_build 48 = .ok (.if_icmp .ne 16, 3) := by decide +kernel
theorem d_Mo_build_51 : decode b_Mo_build 51 = .ok (.aload_n 0, 1) := by decide +kernel
theorem d_Mo_build_52 : decode b_Mo_build 52 = .ok (.dup, 1) := by decide +kernel
theorem d_Mo_build_53 : decode b_Mo_build 53 = .ok (.getfield 261, 3) := by decide +kernel
theorem d_Mo_build_56 : decode b_Mo_build 56 = .ok (.iconst 1, 1) := by decide +kernel
theorem d_Mo_build_57 : decode b_Mo_build 57 = .ok (.iadd, 1) := by decide +kernel
theorem d_Mo_build_58 : decode b_Mo_build 58 = .ok (.putfield 261, 3) := by decide +kernel
theorem d_Mo_build_61 : decode b_Mo_build 61 = .ok (.goto (-36), 3) := by decide +kernel
theorem d_Mo_build_64 : decode b_Mo_build 64 = .ok (.aload_n 0, 1) := by decide +kernel
theorem d_Mo_build_65 : decode b_Mo_build 65 = .ok (.getfield 258, 3) := by decide +kernel
theorem d_Mo_build_68 : decode b_Mo_build 68 = .ok (.istore_n 1, 1) := by decide +kernel
theorem d_Mo_build_69 : decode b_Mo_build 69 = .ok (.aload_n 0, 1) := by decide +kernel
theorem d_Mo_build_70 : decode b_Mo_build 70 = .ok (.dup, 1) := by decide +kernel
theorem d_Mo_build_71 : decode b_Mo_build 71 = .ok (.getfield 258, 3) := by decide +kernel
theorem d_Mo_build_74 : decode b_Mo_build 74 = .ok (.iconst 1, 1) := by decide +kernel
theorem d_Mo_build_75 : decode b_Mo_build 75 = .ok (.iadd, 1) := by decide +kernel
theorem d_Mo_build_76 : decode b_Mo_build 76 = .ok (.putfield 258, 3) := by decide +kernel
theorem d_Mo_build_79 : decode b_Mo_build 79 = .ok (.aload_n 0, 1) := by decide +kernel
theorem d_Mo_build_80 : decode b_Mo_build 80 = .ok (.getfield 77, 3) := by decide +kernel
theorem d_Mo_build_83 : decode b_Mo_build 83 = .ok (.iload_n 1, 1) := by decide +kernel
theorem d_Mo_build_84 : decode b_Mo_build 84 = .ok (.aload_n 0, 1) := by decide +kernel
theorem d_Mo_build_85 : decode b_Mo_build 85 = .ok (.getfield 102, 3) := by decide +kernel
theorem d_Mo_build_88 : decode b_Mo_build 88 = .ok (.aload_n 0, 1) := by decide +kernel
theorem d_Mo_build_89 : decode b_Mo_build 89 = .ok (.getfield 232, 3) := by decide +kernel
theorem d_Mo_build_92 : decode b_Mo_build 92 = .ok (.iaload, 1) := by decide +kernel
theorem d_Mo_build_93 : decode b_Mo_build 93 = .ok (.iastore, 1) := by decide +kernel
theorem d_Mo_build_94 : decode b_Mo_build 94 = .ok (.aload_n 0, 1) := by decide +kernel
theorem d_Mo_build_95 : decode b_Mo_build 95 = .ok (.getfield 80, 3) := by decide +kernel
theorem d_Mo_build_98 : decode b_Mo_build 98 = .ok (.iload_n 1, 1) := by decide +kernel
theorem d_Mo_build_99 : decode b_Mo_build 99 = .ok (.aload_n 0, 1) := by decide +kernel
theorem d_Mo_build_100 : decode b_Mo_build 100 = .ok (.getfield 105, 3) := by decide +kernel
theorem d_Mo_build_103 : decode b_Mo_build 103 = .ok (.aload_n 0, 1) := by decide +kernel
theorem d_Mo_build_104 : decode b_Mo_build 104 = .ok (.getfield 232, 3) := by decide +kernel
theorem d_Mo_build_107 : decode b_Mo_build 107 = .ok (.iaload, 1) := by decide +kernel
theorem d_Mo_build_108 : decode b_Mo_build 108 = .ok (.iastore, 1) := by decide +kernel
theorem d_Mo_build_109 : decode b_Mo_build 109 = .ok (.aload_n 0, 1) := by decide +kernel
theorem d_Mo_build_110 : decode b_Mo_build 110 = .ok (.getfield 89, 3) := by decide +kernel
theorem d_Mo_build_113 : decode b_Mo_build 113 = .ok (.iload_n 1, 1) := by decide +kernel
theorem d_Mo_build_114 : decode b_Mo_build 114 = .ok (.aload_n 0, 1) := by decide +kernel
theorem d_Mo_build_115 : decode b_Mo_build 115 = .ok (.getfield 108, 3) := by decide +kernel
theorem d_Mo_build_118 : decode b_Mo_build 118 = .ok (.aload_n 0, 1) := by decide +kernel
theorem d_Mo_build_119 : decode b_Mo_build 119 = .ok (.getfield 232, 3) := by decide +kernel
theorem d_Mo_build_122 : decode b_Mo_build 122 = .ok (.iaload, 1) := by decide +kernel
theorem d_Mo_build_123 : decode b_Mo_build 123 = .ok (.iastore, 1) := by decide +kernel
theorem d_Mo_build_124 : decode b_Mo_build 124 = .ok (.aload_n 0, 1) := by decide +kernel
theorem d_Mo_build_125 : decode b_Mo_build 125 = .ok (.getfield 92, 3) := by decide +kernel
theorem d_Mo_build_128 : decode b_Mo_build 128 = .ok (.iload_n 1, 1) := by decide +kernel
theorem d_Mo_build_129 : decode b_Mo_build 129 = .ok (.aload_n 0, 1) := by decide +kernel
theorem d_Mo_build_130 : decode b_Mo_build 130 = .ok (.getfield 89, 3) := by decide +kernel
theorem d_Mo_build_133 : decode b_Mo_build 133 = .ok (.iload_n 1, 1) := by decide +kernel
theorem d_Mo_build_134 : decode b_Mo_build 134 = .ok (.iaload, 1) := by decide +kernel
theorem d_Mo_build_135 : decode b_Mo_build 135 = .ok (.iconst (-1), 1) := by decide +kernel
theorem d_Mo_build_136 : decode b_Mo_build 136 = .ok (.if_icmp .ne 7, 3) := by decide +kernel
theorem d_Mo_build_139 : decode b_Mo_build 139 = .ok (.iconst 0, 1) := by decide +kernel
theorem d_Mo_build_140 : decode b_Mo_build 140 = .ok (.goto 16, 3) := by decide +kernel
theorem d_Mo_build_143 : decode b_Mo_build 143 = .ok (.aload_n 0, 1) := by decide +kernel
theorem d_Mo_build_144 : decode b_Mo_build 144 = .ok (.getfield 92, 3) := by decide +kernel
theorem d_Mo_build_147 : decode b_Mo_build 147 = .ok (.aload_n 0, 1) := by decide +kernel
theorem d_Mo_build_148 : decode b_Mo_build 148 = .ok (.getfield 89, 3) := by decide +kernel
theorem d_Mo_build_151 : decode b_Mo_build 151 = .ok (.iload_n 1, 1) := by decide +kernel
theorem d_Mo_build_152 : decode b_Mo_build 152 = .ok (.iaload, 1) := by decide +kernel
theorem d_Mo_build_153 : decode b_Mo_build 153 = .ok (.iaload, 1) := by decide +kernel
theorem d_Mo_build_154 : decode b_Mo_build 154 = .ok (.iconst 1, 1) := by decide +kernel
theorem d_Mo_build_155 : decode b_Mo_build 155 = .ok (.iadd, 1) := by decide +kernel
theorem d_Mo_build_156 : decode b_Mo_build 156 = .ok (.iastore, 1) := by decide +kernel
theorem d_Mo_build_157 : decode b_Mo_build 157 = .ok (.aload_n 0, 1) := by decide +kernel
theorem d_Mo_build_158 : decode b_Mo_build 158 = .ok (.iload_n 1, 1) := by decide +kernel
theorem d_Mo_build_159 : decode b_Mo_build 159 = .ok (.invokevirtual 264, 3) := by decide +kernel
theorem d_Mo_build_162 : decode b_Mo_build 162 = .ok (.goto (-137), 3) := by decide +kernel
theorem d_Mo_build_165 : decode b_Mo_build 165 = .ok (.return_, 1) := by decide +kernel
theorem d_Mo_alternative_0 : decode b_Mo_alternative 0 = .ok (.lconst 0, 1) := by decide +kernel
theorem d_Mo_alternative_1 : decode b_Mo_alternative 1 = .ok (.lstore_n 2, 1) := by decide +kernel
theorem d_Mo_alternative_2 : decode b_Mo_alternative 2 = .ok (.lconst 0, 1) := by decide +kernel
theorem d_Mo_alternative_3 : decode b_Mo_alternative 3 = .ok (.lstore 4, 2) := by decide +kernel
theorem d_Mo_alternative_5 : decode b_Mo_alternative 5 = .ok (.iload_n 1, 1) := by decide +kernel
theorem d_Mo_alternative_6 : decode b_Mo_alternative 6 = .ok (.iconst 1, 1) := by decide +kernel
theorem d_Mo_alternative_7 : decode b_Mo_alternative 7 = .ok (.iadd, 1) := by decide +kernel
theorem d_Mo_alternative_8 : decode b_Mo_alternative 8 = .ok (.istore 6, 2) := by decide +kernel
theorem d_Mo_alternative_10 : decode b_Mo_alternative 10 = .ok (.iload 6, 2) := by decide +kernel
theorem d_Mo_alternative_12 : decode b_Mo_alternative 12 = .ok (.aload_n 0, 1) := by decide +kernel
theorem d_Mo_alternative_13 : decode b_Mo_alternative 13 = .ok (.getfield 258, 3) := by decide +kernel
theorem d_Mo_alternative_16 : decode b_Mo_alternative 16 = .ok (.if_icmp .ge 69, 3) := by decide +kernel
theorem d_Mo_alternative_19 : decode b_Mo_alternative 19 = .ok (.aload_n 0, 1) := by decide +kernel
theorem d_Mo_alternative_20 : decode b_Mo_alternative 20 = .ok (.getfield 89, 3) := by decide +kernel
theorem d_Mo_alternative_23 : decode b_Mo_alternative 23 = .ok (.iload 6, 2) := by decide +kernel
theorem d_Mo_alternative_25 : decode b_Mo_alternative 25 = .ok (.iaload, 1) := by decide +kernel
theorem d_Mo_alternative_26 : decode b_Mo_alternative 26 = .ok (.iload_n 1, 1) := by decide +kernel
theorem d_Mo_alternative_27 : decode b_Mo_alternative 27 = .ok (.if_icmp .ne 52, 3) := by decide +kernel
theorem d_Mo_alternative_30 : decode b_Mo_alternative 30 = .ok (.aload_n 0, 1) := by decide +kernel
theorem d_Mo_alternative_31 : decode b_Mo_alternative 31 = .ok (.getfield 98, 3) := by decide +kernel
theorem d_Mo_alternative_34 : decode b_Mo_alternative 34 = .ok (.iload 6, 2) := by decide +kernel
theorem d_Mo_alternative_36 : decode b_Mo_alternative 36 = .ok (.laload, 1) := by decide +kernel
theorem d_Mo_alternative_37 : decode b_Mo_alternative 37 = .ok (.lconst 0, 1) := by decide +kernel
theorem d_Mo_alternative_38 : decode b_Mo_alternative 38 = .ok (.lcmp, 1) := by decide +kernel
theorem d_Mo_alternative_39 : decode b_Mo_alternative 39 = .ok (.ifCond .ne 6, 3) := by decide +kernel
theorem d_Mo_alternative_42 : decode b_Mo_alternative 42 = .ok (.goto 37, 3) := by decide +kernel
theorem d_Mo_alternative_45 : decode b_Mo_alternative 45 = .ok (.aload_n 0, 1) := by decide +kernel
theorem d_Mo_alternative_46 : decode b_Mo_alternative 46 = .ok (.getfield 98, 3) := by decide +kernel
theorem d_Mo_alternative_49 : decode b_Mo_alternative 49 = .ok (.iload 6, 2) := by decide +kernel
theorem d_Mo_alternative_51 : decode b_Mo_alternative 51 = .ok (.laload, 1) := by decide +kernel
theorem d_Mo_alternative_52 : decode b_Mo_alternative 52 = .ok (.lstore_n 2, 1) := by decide +kernel
theorem d_Mo_alternative_53 : decode b_Mo_alternative 53 = .ok (.aload_n 0, 1) := by decide +kernel
theorem d_Mo_alternative_54 : decode b_Mo_alternative 54 = .ok (.getfield 98, 3) := by decide +kernel
theorem d_Mo_alternative_57 : decode b_Mo_alternative 57 = .ok (.iload 6, 2) := by decide +kernel
theorem d_Mo_alternative_59 : decode b_Mo_alternative 59 = .ok (.laload, 1) := by decide +kernel
theorem d_Mo_alternative_60 : decode b_Mo_alternative 60 = .ok (.aload_n 0, 1) := by decide +kernel
theorem d_Mo_alternative_61 : decode b_Mo_alternative 61 = .ok (.getfield 267, 3) := by decide +kernel
theorem d_Mo_alternative_64 : decode b_Mo_alternative 64 = .ok (.land, 1) := by decide +kernel
theorem d_Mo_alternative_65 : decode b_Mo_alternative 65 = .ok (.lconst 0, 1) := by decide +kernel
theorem d_Mo_alternative_66 : decode b_Mo_alternative 66 = .ok (.lcmp, 1) := by decide +kernel
theorem d_Mo_alternative_67 : decode b_Mo_alternative 67 = .ok (.ifCond .ne 12, 3) := by decide +kernel
theorem d_Mo_alternative_70 : decode b_Mo_alternative 70 = .ok (.aload_n 0, 1) := by decide +kernel
theorem d_Mo_alternative_71 : decode b_Mo_alternative 71 = .ok (.getfield 98, 3) := by decide +kernel
theorem d_Mo_alternative_74 : decode b_Mo_alternative 74 = .ok (.iload 6, 2) := by decide +kernel
theorem d_Mo_alternative_76 : decode b_Mo_alternative 76 = .ok (.laload, 1) := by decide +kernel
theorem d_Mo_alternative_77 : decode b_Mo_alternative 77 = .ok (.lstore 4, 2) := by decide +kernel
theorem d_Mo_alternative_79 : decode b_Mo_alternative 79 = .ok (.iinc 6 1, 3) := by decide +kernel
theorem d_Mo_alternative_82 : decode b_Mo_alternative 82 = .ok (.goto (-72), 3) := by decide +kernel
theorem d_Mo_alternative_85 : decode b_Mo_alternative 85 = .ok (.lload 4, 2) := by decide +kernel
theorem d_Mo_alternative_87 : decode b_Mo_alternative 87 = .ok (.lconst 0, 1) := by decide +kernel
theorem d_Mo_alternative_88 : decode b_Mo_alternative 88 = .ok (.lcmp, 1) := by decide +kernel
theorem d_Mo_alternative_89 : decode b_Mo_alternative 89 = .ok (.ifCond .eq 8, 3) := by decide +kernel
theorem d_Mo_alternative_92 : decode b_Mo_alternative 92 = .ok (.lload 4, 2) := by decide +kernel
theorem d_Mo_alternative_94 : decode b_Mo_alternative 94 = .ok (.goto 4, 3) := by decide +kernel
theorem d_Mo_alternative_97 : decode b_Mo_alternative 97 = .ok (.lload_n 2, 1) := by decide +kernel
theorem d_Mo_alternative_98 : decode b_Mo_alternative 98 = .ok (.lreturn, 1) := by decide +kernel
theorem d_Mo_findTexts_0 : decode b_Mo_findTexts 0 = .ok (.aload_n 0, 1) := by decide +kernel
theorem d_Mo_findTexts_1 : decode b_Mo_findTexts 1 = .ok (.lconst 0, 1) := by decide +kernel
theorem d_Mo_findTexts_2 : decode b_Mo_findTexts 2 = .ok (.putfield 267, 3) := by decide +kernel
theorem d_Mo_findTexts_5 : decode b_Mo_findTexts 5 = .ok (.aload_n 0, 1) := by decide +kernel
theorem d_Mo_findTexts_6 : decode b_Mo_findTexts 6 = .ok (.getfield 258, 3) := by decide +kernel
theorem d_Mo_findTexts_9 : decode b_Mo_findTexts 9 = .ok (.iconst 1, 1) := by decide +kernel
theorem d_Mo_findTexts_10 : decode b_Mo_findTexts 10 = .ok (.isub, 1) := by decide +kernel
theorem d_Mo_findTexts_11 : decode b_Mo_findTexts 11 = .ok (.istore_n 1, 1) := by decide +kernel
theorem d_Mo_findTexts_12 : decode b_Mo_findTexts 12 = .ok (.iload_n 1, 1) := by decide +kernel
theorem d_Mo_findTexts_13 : decode b_Mo_findTexts 13 = .ok (.ifCond .lt 164, 3) := by decide +kernel
theorem d_Mo_findTexts_16 : decode b_Mo_findTexts 16 = .ok (.aload_n 0, 1) := by decide +kernel
theorem d_Mo_findTexts_17 : decode b_Mo_findTexts 17 = .ok (.getfield 98, 3) := by decide +kernel
theorem d_Mo_findTexts_20 : decode b_Mo_findTexts 20 = .ok (.iload_n 1, 1) := by decide +kernel
theorem d_Mo_findTexts_21 : decode b_Mo_findTexts 21 = .ok (.lconst 0, 1) := by decide +kernel
theorem d_Mo_findTexts_22 : decode b_Mo_findTexts 22 = .ok (.lastore, 1) := by decide +kernel
theorem d_Mo_findTexts_23 : decode b_Mo_findTexts 23 = .ok (.aload_n 0, 1) := by decide +kernel
theorem d_Mo_findTexts_24 : decode b_Mo_findTexts 24 = .ok (.iload_n 1, 1) := by decide +kernel
theorem d_Mo_findTexts_25 : decode b_Mo_findTexts 25 = .ok (.invokevirtual 235, 3) := by decide +kernel
theorem d_Mo_findTexts_28 : decode b_Mo_findTexts 28 = .ok (.aload_n 0, 1) := by decide +kernel
theorem d_Mo_findTexts_29 : decode b_Mo_findTexts 29 = .ok (.aload_n 0, 1) := by decide +kernel
theorem d_Mo_findTexts_30 : decode b_Mo_findTexts 30 = .ok (.getfield 31, 3) := by decide +kernel
theorem d_Mo_findTexts_33 : decode b_Mo_findTexts 33 = .ok (.invokevirtual 208, 3) := by decide +kernel
theorem d_Mo_findTexts_36 : decode b_Mo_findTexts 36 = .ok (.ifCond .eq 15, 3) := by decide +kernel
theorem d_Mo_findTexts_39 : decode b_Mo_findTexts 39 = .ok (.aload_n 0, 1) := by decide +kernel
theorem d_Mo_findTexts_40 : decode b_Mo_findTexts 40 = .ok (.dup, 1) := by decide +kernel
theorem d_Mo_findTexts_41 : decode b_Mo_findTexts 41 = .ok (.getfield 267, 3) := by decide +kernel
theorem d_Mo_findTexts_44 : decode b_Mo_findTexts 44 = .ok (.lconst 1, 1) := by decide +kernel
theorem d_Mo_findTexts_45 : decode b_Mo_findTexts 45 = .ok (.iload_n 1, 1) := by decide +kernel
theorem d_Mo_findTexts_46 : decode b_Mo_findTexts 46 = .ok (.lshl, 1) := by decide +kernel
theorem d_Mo_findTexts_47 : decode b_Mo_findTexts 47 = .ok (.lor, 1) := by decide +kernel
theorem d_Mo_findTexts_48 : decode b_Mo_findTexts 48 = .ok (.putfield 267, 3) := by decide +kernel
theorem d_Mo_findTexts_51 : decode b_Mo_findTexts 51 = .ok (.aload_n 0, 1) := by decide +kernel
theorem d_Mo_findTexts_52 : decode b_Mo_findTexts 52 = .ok (.aload_n 0, 1) := by decide +kernel
theorem d_Mo_findTexts_53 : decode b_Mo_findTexts 53 = .ok (.getfield 34, 3) := by decide +kernel
theorem d_Mo_findTexts_56 : decode b_Mo_findTexts 56 = .ok (.invokevirtual 239, 3) := by decide +kernel
theorem d_Mo_findTexts_59 : decode b_Mo_findTexts 59 = .ok (.istore_n 2, 1) := by decide +kernel
theorem d_Mo_findTexts_60 : decode b_Mo_findTexts 60 = .ok (.aload_n 0, 1) := by decide +kernel
theorem d_Mo_findTexts_61 : decode b_Mo_findTexts 61 = .ok (.aload_n 0, 1) := by decide +kernel
theorem d_Mo_findTexts_62 : decode b_Mo_findTexts 62 = .ok (.getfield 43, 3) := by decide +kernel
theorem d_Mo_findTexts_65 : decode b_Mo_findTexts 65 = .ok (.invokevirtual 208, 3) := by decide +kernel
theorem d_Mo_findTexts_68 : decode b_Mo_findTexts 68 = .ok (.istore_n 3, 1) := by decide +kernel
theorem d_Mo_findTexts_69 : decode b_Mo_findTexts 69 = .ok (.aload_n 0, 1) := by decide +kernel
theorem d_Mo_findTexts_70 : decode b_Mo_findTexts 70 = .ok (.getfield 95, 3) := by decide +kernel
theorem d_Mo_findTexts_73 : decode b_Mo_findTexts 73 = .ok (.iload_n 1, 1) := by decide +kernel
theorem d_Mo_findTexts_74 : decode b_Mo_findTexts 74 = .ok (.iaload, 1) := by decide +kernel
theorem d_Mo_findTexts_75 : decode b_Mo_findTexts 75 = .ok (.ifCond .ne 24, 3) := by decide +kernel
theorem d_Mo_findTexts_78 : decode b_Mo_findTexts 78 = .ok (.iload_n 2, 1) := by decide +kernel
theorem d_Mo_findTexts_79 : decode b_Mo_findTexts 79 = .ok (.ifCond .eq 20, 3) := by decide +kernel
theorem d_Mo_findTexts_82 : decode b_Mo_findTexts 82 = .ok (.aload_n 0, 1) := by decide +kernel
theorem d_Mo_findTexts_83 : decode b_Mo_findTexts 83 = .ok (.iload_n 1, 1) := by decide +kernel
theorem d_Mo_findTexts_84 : decode b_Mo_findTexts 84 = .ok (.invokevirtual 271, 3) := by decide +kernel
theorem d_Mo_findTexts_87 : decode b_Mo_findTexts 87 = .ok (.ifCond .ne 12, 3) := by decide +kernel
theorem d_Mo_findTexts_90 : decode b_Mo_findTexts 90 = .ok (.aload_n 0, 1) := by decide +kernel
theorem d_Mo_findTexts_91 : decode b_Mo_findTexts 91 = .ok (.getfield 98, 3) := by decide +kernel
theorem d_Mo_findTexts_94 : decode b_Mo_findTexts 94 = .ok (.iload_n 1, 1) := by decide +kernel
theorem d_Mo_findTexts_95 : decode b_Mo_findTexts 95 = .ok (.lconst 1, 1) := by decide +kernel
theorem d_Mo_findTexts_96 : decode b_Mo_findTexts 96 = .ok (.iload_n 1, 1) := by decide +kernel
theorem d_Mo_findTexts_97 : decode b_Mo_findTexts 97 = .ok (.lshl, 1) := by decide +kernel
theorem d_Mo_findTexts_98 : decode b_Mo_findTexts 98 = .ok (.lastore, 1) := by decide +kernel
theorem d_Mo_findTexts_99 : decode b_Mo_findTexts 99 = .ok (.iload_n 1, 1) := by decide +kernel
theorem d_Mo_findTexts_100 : decode b_Mo_findTexts 100 = .ok (.iconst 1, 1) := by decide +kernel
theorem d_Mo_findTexts_101 : decode b_Mo_findTexts 101 = .ok (.iadd, 1) := by decide +kernel
theorem d_Mo_findTexts_102 : decode b_Mo_findTexts 102 = .ok (.istore 4, 2) := by decide +kernel
theorem d_Mo_findTexts_104 : decode b_Mo_findTexts 104 = .ok (.iload 4, 2) := by decide +kernel
theorem d_Mo_findTexts_106 : decode b_Mo_findTexts 106 = .ok (.aload_n 0, 1) := by decide +kernel
theorem d_Mo_findTexts_107 : decode b_Mo_findTexts 107 = .ok (.getfield 258, 3) := by decide +kernel
theorem d_Mo_findTexts_110 : decode b_Mo_findTexts 110 = .ok (.if_icmp .ge 36, 3) := by decide +kernel
theorem d_Mo_findTexts_113 : decode b_Mo_findTexts 113 = .ok (.aload_n 0, 1) := by decide +kernel
theorem d_Mo_findTexts_114 : decode b_Mo_findTexts 114 = .ok (.getfield 89, 3) := by decide +kernel
theorem d_Mo_findTexts_117 : decode b_Mo_findTexts 117 = .ok (.iload 4, 2) := by decide +kernel
theorem d_Mo_findTexts_119 : decode b_Mo_findTexts 119 = .ok (.iaload, 1) := by decide +kernel
theorem d_Mo_findTexts_120 : decode b_Mo_findTexts 120 = .ok (.iload_n 1, 1) := by decide +kernel
theorem d_Mo_findTexts_121 : decode b_Mo_findTexts 121 = .ok (.if_icmp .ne 19, 3) := by decide +kernel
theorem d_Mo_findTexts_124 : decode b_Mo_findTexts 124 = .ok (.aload_n 0, 1) := by decide +kernel
theorem d_Mo_findTexts_125 : decode b_Mo_findTexts 125 = .ok (.getfield 98, 3) := by decide +kernel
theorem d_Mo_findTexts_128 : decode b_Mo_findTexts 128 = .ok (.iload_n 1, 1) := by decide +kernel
theorem d_Mo_findTexts_129 : decode b_Mo_findTexts 129 = .ok (.dup2, 1) := by decide +kernel
theorem d_Mo_findTexts_130 : decode b_Mo_findTexts 130 = .ok (.laload, 1) := by decide +kernel
theorem d_Mo_findTexts_131 : decode b_Mo_findTexts 131 = .ok (.aload_n 0, 1) := by decide +kernel
theorem d_Mo_findTexts_132 : decode b_Mo_findTexts 132 = .ok (.getfield 98, 3) := by decide +kernel
theorem d_Mo_findTexts_135 : decode b_Mo_findTexts 135 = .ok (.iload 4, 2) := by decide +kernel
theorem d_Mo_findTexts_137 : decode b_Mo_findTexts 137 = .ok (.laload, 1) := by decide +kernel
theorem d_Mo_findTexts_138 : decode b_Mo_findTexts 138 = .ok (.lor, 1) := by decide +kernel
theorem d_Mo_findTexts_139 : decode b_Mo_findTexts 139 = .ok (.lastore, 1) := by decide +kernel
theorem d_Mo_findTexts_140 : decode b_Mo_findTexts 140 = .ok (.iinc 4 1, 3) := by decide +kernel
theorem d_Mo_findTexts_143 : decode b_Mo_findTexts 143 = .ok (.goto (-39), 3) := by decide +kernel
theorem d_Mo_findTexts_146 : decode b_Mo_findTexts 146 = .ok (.aload_n 0, 1) := by decide +kernel
theorem d_Mo_findTexts_147 : decode b_Mo_findTexts 147 = .ok (.getfield 95, 3) := by decide +kernel
theorem d_Mo_findTexts_150 : decode b_Mo_findTexts 150 = .ok (.iload_n 1, 1) := by decide +kernel
theorem d_Mo_findTexts_151 : decode b_Mo_findTexts 151 = .ok (.iaload, 1) := by decide +kernel
theorem d_Mo_findTexts_152 : decode b_Mo_findTexts 152 = .ok (.iconst 1, 1) := by decide +kernel
theorem d_Mo_findTexts_153 : decode b_Mo_findTexts 153 = .ok (.if_icmp .ne 18, 3) := by decide +kernel
theorem d_Mo_findTexts_156 : decode b_Mo_findTexts 156 = .ok (.iload_n 3, 1) := by decide +kernel
theorem d_Mo_findTexts_157 : decode b_Mo_findTexts 157 = .ok (.ifCond .eq 14, 3) := by decide +kernel
theorem d_Mo_findTexts_160 : decode b_Mo_findTexts 160 = .ok (.aload_n 0, 1) := by decide +kernel
theorem d_Mo_findTexts_161 : decode b_Mo_findTexts 161 = .ok (.getfield 98, 3) := by decide +kernel
theorem d_Mo_findTexts_164 : decode b_Mo_findTexts 164 = .ok (.iload_n 1, 1) := by decide +kernel
theorem d_Mo_findTexts_165 : decode b_Mo_findTexts 165 = .ok (.aload_n 0, 1) := by decide +kernel
theorem d_Mo_findTexts_166 : decode b_Mo_findTexts 166 = .ok (.iload_n 1, 1) := by decide +kernel
theorem d_Mo_findTexts_167 : decode b_Mo_findTexts 167 = .ok (.invokevirtual 274, 3) := by decide +kernel
theorem d_Mo_findTexts_170 : decode b_Mo_findTexts 170 = .ok (.lastore, 1) := by decide +kernel
theorem d_Mo_findTexts_171 : decode b_Mo_findTexts 171 = .ok (.iinc 1 (-1), 3) := by decide +kernel
theorem d_Mo_findTexts_174 : decode b_Mo_findTexts 174 = .ok (.goto (-162), 3) := by decide +kernel
theorem d_Mo_findTexts_177 : decode b_Mo_findTexts 177 = .ok (.aload_n 0, 1) := by decide +kernel
theorem d_Mo_findTexts_178 : decode b_Mo_findTexts 178 = .ok (.aload_n 0, 1) := by decide +kernel
theorem d_Mo_findTexts_179 : decode b_Mo_findTexts 179 = .ok (.getfield 258, 3) := by decide +kernel
theorem d_Mo_findTexts_182 : decode b_Mo_findTexts 182 = .ok (.ifCond .ne 7, 3) := by decide +kernel
theorem d_Mo_findTexts_185 : decode b_Mo_findTexts 185 = .ok (.lconst 0, 1) := by decide +kernel
theorem d_Mo_findTexts_186 : decode b_Mo_findTexts 186 = .ok (.goto 9, 3) := by decide +kernel
theorem d_Mo_findTexts_189 : decode b_Mo_findTexts 189 = .ok (.aload_n 0, 1) := by decide +kernel
theorem d_Mo_findTexts_190 : decode b_Mo_findTexts 190 = .ok (.getfield 98, 3) := by decide +kernel
theorem d_Mo_findTexts_193 : decode b_Mo_findTexts 193 = .ok (.iconst 0, 1) := by decide +kernel
theorem d_Mo_findTexts_194 : decode b_Mo_findTexts 194 = .ok (.laload, 1) := by decide +kernel
theorem d_Mo_findTexts_195 : decode b_Mo_findTexts 195 = .ok (.putfield 278, 3) := by decide +kernel
theorem d_Mo_findTexts_198 : decode b_Mo_findTexts 198 = .ok (.return_, 1) := by decide +kernel
theorem d_Mo_isHanging_0 : decode b_Mo_isHanging 0 = .ok (.aload_n 0, 1) := by decide +kernel
theorem d_Mo_isHanging_1 : decode b_Mo_isHanging 1 = .ok (.getfield 95, 3) := by decide +kernel
theorem d_Mo_isHanging_4 : decode b_Mo_isHanging 4 = .ok (.iload_n 1, 1) := by decide +kernel
theorem d_Mo_isHanging_5 : decode b_Mo_isHanging 5 = .ok (.iaload, 1) := by decide +kernel
theorem d_Mo_isHanging_6 : decode b_Mo_isHanging 6 = .ok (.ifCond .ne 16, 3) := by decide +kernel
theorem d_Mo_isHanging_9 : decode b_Mo_isHanging 9 = .ok (.aload_n 0, 1) := by decide +kernel
theorem d_Mo_isHanging_10 : decode b_Mo_isHanging 10 = .ok (.getfield 278, 3) := by decide +kernel
theorem d_Mo_isHanging_13 : decode b_Mo_isHanging 13 = .ok (.iload_n 1, 1) := by decide +kernel
theorem d_Mo_isHanging_14 : decode b_Mo_isHanging 14 = .ok (.lshr, 1) := by decide +kernel
theorem d_Mo_isHanging_15 : decode b_Mo_isHanging 15 = .ok (.lconst 1, 1) := by decide +kernel
theorem d_Mo_isHanging_16 : decode b_Mo_isHanging 16 = .ok (.land, 1) := by decide +kernel
theorem d_Mo_isHanging_17 : decode b_Mo_isHanging 17 = .ok (.lconst 1, 1) := by decide +kernel
theorem d_Mo_isHanging_18 : decode b_Mo_isHanging 18 = .ok (.lcmp, 1) := by decide +kernel
theorem d_Mo_isHanging_19 : decode b_Mo_isHanging 19 = .ok (.ifCond .ne 5, 3) := by decide +kernel
theorem d_Mo_isHanging_22 : decode b_Mo_isHanging 22 = .ok (.iconst 0, 1) := by decide +kernel
theorem d_Mo_isHanging_23 : decode b_Mo_isHanging 23 = .ok (.ireturn, 1) := by decide +kernel
theorem d_Mo_isHanging_24 : decode b_Mo_isHanging 24 = .ok (.aload_n 0, 1) := by decide +kernel
theorem d_Mo_isHanging_25 : decode b_Mo_isHanging 25 = .ok (.iload_n 1, 1) := by decide +kernel
theorem d_Mo_isHanging_26 : decode b_Mo_isHanging 26 = .ok (.invokevirtual 235, 3) := by decide +kernel
theorem d_Mo_isHanging_29 : decode b_Mo_isHanging 29 = .ok (.aload_n 0, 1) := by decide +kernel
theorem d_Mo_isHanging_30 : decode b_Mo_isHanging 30 = .ok (.aload_n 0, 1) := by decide +kernel
theorem d_Mo_isHanging_31 : decode b_Mo_isHanging 31 = .ok (.getfield 34, 3) := by decide +kernel
theorem d_Mo_isHanging_34 : decode b_Mo_isHanging 34 = .ok (.invokevirtual 239, 3) := by decide +kernel
theorem d_Mo_isHanging_37 : decode b_Mo_isHanging 37 = .ok (.ifCond .eq 11, 3) := by decide +kernel
theorem d_Mo_isHanging_40 : decode b_Mo_isHanging 40 = .ok (.aload_n 0, 1) := by decide +kernel
theorem d_Mo_isHanging_41 : decode b_Mo_isHanging 41 = .ok (.iload_n 1, 1) := by decide +kernel
theorem d_Mo_isHanging_42 : decode b_Mo_isHanging 42 = .ok (.invokevirtual 271, 3) := by decide +kernel
theorem d_Mo_isHanging_45 : decode b_Mo_isHanging 45 = .ok (.ifCond .eq 7, 3) := by decide +kernel
theorem d_Mo_isHanging_48 : decode b_Mo_isHanging 48 = .ok (.iconst 1, 1) := by decide +kernel
theorem d_Mo_isHanging_49 : decode b_Mo_isHanging 49 = .ok (.goto 4, 3) := by decide +kernel
theorem d_Mo_isHanging_52 : decode b_Mo_isHanging 52 = .ok (.iconst 0, 1) := by decide +kernel
theorem d_Mo_isHanging_53 : decode b_Mo_isHanging 53 = .ok (.ireturn, 1) := by decide +kernel
theorem d_Mo_feed_0 : decode b_Mo_feed 0 = .ok (.iconst 0, 1) := by decide +kernel
theorem d_Mo_feed_1 : decode b_Mo_feed 1 = .ok (.istore 6, 2) := by decide +kernel
theorem d_Mo_feed_3 : decode b_Mo_feed 3 = .ok (.iload 6, 2) := by decide +kernel
theorem d_Mo_feed_5 : decode b_Mo_feed 5 = .ok (.bipush 20, 2) := by decide +kernel
theorem d_Mo_feed_7 : decode b_Mo_feed 7 = .ok (.if_icmp .ge 78, 3) := by decide +kernel
theorem d_Mo_feed_10 : decode b_Mo_feed 10 = .ok (.iload 6, 2) := by decide +kernel
theorem d_Mo_feed_12 : decode b_Mo_feed 12 = .ok (.iconst 4, 1) := by decide +kernel
theorem d_Mo_feed_13 : decode b_Mo_feed 13 = .ok (.if_icmp .ge 7, 3) := by decide +kernel
theorem d_Mo_feed_16 : decode b_Mo_feed 16 = .ok (.iload_n 1, 1) := by decide +kernel
theorem d_Mo_feed_17 : decode b_Mo_feed 17 = .ok (.goto 39, 3) := by decide +kernel
theorem d_Mo_feed_20 : decode b_Mo_feed 20 = .ok (.iload 6, 2) := by decide +kernel
theorem d_Mo_feed_22 : decode b_Mo_feed 22 = .ok (.bipush 8, 2) := by decide +kernel
theorem d_Mo_feed_24 : decode b_Mo_feed 24 = .ok (.if_icmp .ge 7, 3) := by decide +kernel
theorem d_Mo_feed_27 : decode b_Mo_feed 27 = .ok (.iload_n 2, 1) := by decide +kernel
theorem d_Mo_feed_28 : decode b_Mo_feed 28 = .ok (.goto 28, 3) := by decide +kernel
theorem d_Mo_feed_31 : decode b_Mo_feed 31 = .ok (.iload 6, 2) := by decide +kernel
theorem d_Mo_feed_33 : decode b_Mo_feed 33 = .ok (.bipush 12, 2) := by decide +kernel
theorem d_Mo_feed_35 : decode b_Mo_feed 35 = .ok (.if_icmp .ge 7, 3) := by decide +kernel
theorem d_Mo_feed_38 : decode b_Mo_feed 38 = .ok (.iload_n 3, 1) := by decide +kernel
theorem d_Mo_feed_39 : decode b_Mo_feed 39 = .ok (.goto 17, 3) := by decide +kernel
theorem d_Mo_feed_42 : decode b_Mo_feed 42 = .ok (.iload 6, 2) := by decide +kernel
theorem d_Mo_feed_44 : decode b_Mo_feed 44 = .ok (.bipush 16, 2) := by decide +kernel
theorem d_Mo_feed_46 : decode b_Mo_feed 46 = .ok (.if_icmp .ge 8, 3) := by decide +kernel
theorem d_Mo_feed_49 : decode b_Mo_feed 49 = .ok (.iload 4, 2) := by decide +kernel
theorem d_Mo_feed_51 : decode b_Mo_feed 51 = .ok (.goto 5, 3) := by decide +kernel
theorem d_Mo_feed_54 : decode b_Mo_feed 54 = .ok (.iload 5, 2) := by decide +kernel
theorem d_Mo_feed_56 : decode b_Mo_feed 56 = .ok (.istore 7, 2) := by decide +kernel
theorem d_Mo_feed_58 : decode b_Mo_feed 58 = .ok (.aload_n 0, 1) := by decide +kernel
theorem d_Mo_feed_59 : decode b_Mo_feed 59 = .ok (.getfield 61, 3) := by decide +kernel
theorem d_Mo_feed_62 : decode b_Mo_feed 62 = .ok (.iload 6, 2) := by decide +kernel
theorem d_Mo_feed_64 : decode b_Mo_feed 64 = .ok (.iload 7, 2) := by decide +kernel
theorem d_Mo_feed_66 : decode b_Mo_feed 66 = .ok (.bipush 24, 2) := by decide +kernel
theorem d_Mo_feed_68 : decode b_Mo_feed 68 = .ok (.bipush 8, 2) := by decide +kernel
theorem d_Mo_feed_70 : decode b_Mo_feed 70 = .ok (.iload 6, 2) := by decide +kernel
theorem d_Mo_feed_72 : decode b_Mo_feed 72 = .ok (.iconst 4, 1) := by decide +kernel
theorem d_Mo_feed_73 : decode b_Mo_feed 73 = .ok (.irem, 1) := by decide +kernel
theorem d_Mo_feed_74 : decode b_Mo_feed 74 = .ok (.imul, 1) := by decide +kernel
theorem d_Mo_feed_75 : decode b_Mo_feed 75 = .ok (.isub, 1) := by decide +kernel
theorem d_Mo_feed_76 : decode b_Mo_feed 76 = .ok (.ishr, 1) := by decide +kernel
theorem d_Mo_feed_77 : decode b_Mo_feed 77 = .ok (.i2b, 1) := by decide +kernel
theorem d_Mo_feed_78 : decode b_Mo_feed 78 = .ok (.bastore, 1) := by decide +kernel
theorem d_Mo_feed_79 : decode b_Mo_feed 79 = .ok (.iinc 6 1, 3) := by decide +kernel
theorem d_Mo_feed_82 : decode b_Mo_feed 82 = .ok (.goto (-79), 3) := by decide +kernel
theorem d_Mo_feed_85 : decode b_Mo_feed 85 = .ok (.return_, 1) := by decide +kernel
theorem d_Mo_end_0 : decode b_Mo_end 0 = .ok (.iload_n 1, 1) := by decide +kernel
theorem d_Mo_end_1 : decode b_Mo_end 1 = .ok (.ifCond .lt 21, 3) := by decide +kernel
theorem d_Mo_end_4 : decode b_Mo_end 4 = .ok (.iload_n 1, 1) := by decide +kernel
theorem d_Mo_end_5 : decode b_Mo_end 5 = .ok (.bipush 20, 2) := by decide +kernel
theorem d_Mo_end_7 : decode b_Mo_end 7 = .ok (.if_icmp .gt 15, 3) := by decide +kernel
theorem d_Mo_end_10 : decode b_Mo_end 10 = .ok (.aload_n 0, 1) := by decide +kernel
theorem d_Mo_end_11 : decode b_Mo_end 11 = .ok (.getfield 281, 3) := by decide +kernel
theorem d_Mo_end_14 : decode b_Mo_end 14 = .ok (.iload_n 1, 1) := by decide +kernel
theorem d_Mo_end_15 : decode b_Mo_end 15 = .ok (.iadd, 1) := by decide +kernel
theorem d_Mo_end_16 : decode b_Mo_end 16 = .ok (.sipush 1500, 3) := by decide +kernel
theorem d_Mo_end_19 : decode b_Mo_end 19 = .ok (.if_icmp .le 5, 3) := by decide +kernel
theorem d_Mo_end_22 : decode b_Mo_end 22 = .ok (.iconst (-1), 1) := by decide +kernel
theorem d_Mo_end_23 : decode b_Mo_end 23 = .ok (.ireturn, 1) := by decide +kernel
theorem d_Mo_end_24 : decode b_Mo_end 24 = .ok (.iconst 0, 1) := by decide +kernel
theorem d_Mo_end_25 : decode b_Mo_end 25 = .ok (.istore_n 2, 1) := by decide +kernel
theorem d_Mo_end_26 : decode b_Mo_end 26 = .ok (.iload_n 2, 1) := by decide +kernel
theorem d_Mo_end_27 : decode b_Mo_end 27 = .ok (.iload_n 1, 1) := by decide +kernel
theorem d_Mo_end_28 : decode b_Mo_end 28 = .ok (.if_icmp .ge 26, 3) := by decide +kernel
theorem d_Mo_end_31 : decode b_Mo_end 31 = .ok (.aload_n 0, 1) := by decide +kernel
theorem d_Mo_end_32 : decode b_Mo_end 32 = .ok (.getfield 65, 3) := by decide +kernel
theorem d_Mo_end_35 : decode b_Mo_end 35 = .ok (.aload_n 0, 1) := by decide +kernel
theorem d_Mo_end_36 : decode b_Mo_end 36 = .ok (.getfield 281, 3) := by decide +kernel
theorem d_Mo_end_39 : decode b_Mo_end 39 = .ok (.iload_n 2, 1) := by decide +kernel
theorem d_Mo_end_40 : decode b_Mo_end 40 = .ok (.iadd, 1) := by decide +kernel
theorem d_Mo_end_41 : decode b_Mo_end 41 = .ok (.aload_n 0, 1) := by decide +kernel
theorem d_Mo_end_42 : decode b_Mo_end 42 = .ok (.getfield 61, 3) := by decide +kernel
theorem d_Mo_end_45 : decode b_Mo_end 45 = .ok (.iload_n 2, 1) := by decide +kernel
theorem d_Mo_end_46 : decode b_Mo_end 46 = .ok (.baload, 1) := by decide +kernel
theorem d_Mo_end_47 : decode b_Mo_end 47 = .ok (.bastore, 1) := by decide +kernel
theorem d_Mo_end_48 : decode b_Mo_end 48 = .ok (.iinc 2 1, 3) := by decide +kernel
theorem d_Mo_end_51 : decode b_Mo_end 51 = .ok (.goto (-25), 3) := by decide +kernel
theorem d_Mo_end_54 : decode b_Mo_end 54 = .ok (.aload_n 0, 1) := by decide +kernel
theorem d_Mo_end_55 : decode b_Mo_end 55 = .ok (.dup, 1) := by decide +kernel
theorem d_Mo_end_56 : decode b_Mo_end 56 = .ok (.getfield 281, 3) := by decide +kernel
theorem d_Mo_end_59 : decode b_Mo_end 59 = .ok (.iload_n 1, 1) := by decide +kernel
theorem d_Mo_end_60 : decode b_Mo_end 60 = .ok (.iadd, 1) := by decide +kernel
theorem d_Mo_end_61 : decode b_Mo_end 61 = .ok (.putfield 281, 3) := by decide +kernel
theorem d_Mo_end_64 : decode b_Mo_end 64 = .ok (.iconst 0, 1) := by decide +kernel
theorem d_Mo_end_65 : decode b_Mo_end 65 = .ok (.istore_n 2, 1) := by decide +kernel
theorem d_Mo_end_66 : decode b_Mo_end 66 = .ok (.iload_n 2, 1) := by decide +kernel
theorem d_Mo_end_67 : decode b_Mo_end 67 = .ok (.bipush 20, 2) := by decide +kernel
theorem d_Mo_end_69 : decode b_Mo_end 69 = .ok (.if_icmp .ge 16, 3) := by decide +kernel
theorem d_Mo_end_72 : decode b_Mo_end 72 = .ok (.aload_n 0, 1) := by decide +kernel
theorem d_Mo_end_73 : decode b_Mo_end 73 = .ok (.getfield 61, 3) := by decide +kernel
theorem d_Mo_end_76 : decode b_Mo_end 76 = .ok (.iload_n 2, 1) := by decide +kernel
theorem d_Mo_end_77 : decode b_Mo_end 77 = .ok (.iconst 0, 1) := by decide +kernel
theorem d_Mo_end_78 : decode b_Mo_end 78 = .ok (.bastore, 1) := by decide +kernel
theorem d_Mo_end_79 : decode b_Mo_end 79 = .ok (.iinc 2 1, 3) := by decide +kernel
theorem d_Mo_end_82 : decode b_Mo_end 82 = .ok (.goto (-16), 3) := by decide +kernel
theorem d_Mo_end_85 : decode b_Mo_end 85 = .ok (.aload_n 0, 1) := by decide +kernel
theorem d_Mo_end_86 : decode b_Mo_end 86 = .ok (.getfield 281, 3) := by decide +kernel
theorem d_Mo_end_89 : decode b_Mo_end 89 = .ok (.ireturn, 1) := by decide +kernel
theorem d_Mo_read_0 : decode b_Mo_read 0 = .ok (.aload_n 0, 1) := by decide +kernel
theorem d_Mo_read_1 : decode b_Mo_read 1 = .ok (.aload_n 0, 1) := by decide +kernel
theorem d_Mo_read_2 : decode b_Mo_read 2 = .ok (.getfield 281, 3) := by decide +kernel
theorem d_Mo_read_5 : decode b_Mo_read 5 = .ok (.putfield 143, 3) := by decide +kernel
theorem d_Mo_read_8 : decode b_Mo_read 8 = .ok (.iconst 0, 1) := by decide +kernel
theorem d_Mo_read_9 : decode b_Mo_read 9 = .ok (.istore_n 1, 1) := by decide +kernel
theorem d_Mo_read_10 : decode b_Mo_read 10 = .ok (.iload_n 1, 1) := by decide +kernel
theorem d_Mo_read_11 : decode b_Mo_read 11 = .ok (.aload_n 0, 1) := by decide +kernel
theorem d_Mo_read_12 : decode b_Mo_read 12 = .ok (.getfield 143, 3) := by decide +kernel
theorem d_Mo_read_15 : decode b_Mo_read 15 = .ok (.if_icmp .ge 21, 3) := by decide +kernel
theorem d_Mo_read_18 : decode b_Mo_read 18 = .ok (.aload_n 0, 1) := by decide +kernel
theorem d_Mo_read_19 : decode b_Mo_read 19 = .ok (.getfield 68, 3) := by decide +kernel
theorem d_Mo_read_22 : decode b_Mo_read 22 = .ok (.iload_n 1, 1) := by decide +kernel
theorem d_Mo_read_23 : decode b_Mo_read 23 = .ok (.aload_n 0, 1) := by decide +kernel
theorem d_Mo_read_24 : decode b_Mo_read 24 = .ok (.getfield 65, 3) := by decide +kernel
theorem d_Mo_read_27 : decode b_Mo_read 27 = .ok (.iload_n 1, 1) := by decide +kernel
theorem d_Mo_read_28 : decode b_Mo_read 28 = .ok (.baload, 1) := by decide +kernel
theorem d_Mo_read_29 : decode b_Mo_read 29 = .ok (.bastore, 1) := by decide +kernel
theorem d_Mo_read_30 : decode b_Mo_read 30 = .ok (.iinc 1 1, 3) := by decide +kernel
theorem d_Mo_read_33 : decode b_Mo_read 33 = .ok (.goto (-23), 3) := by decide +kernel
theorem d_Mo_read_36 : decode b_Mo_read 36 = .ok (.aload_n 0, 1) := by decide +kernel
theorem d_Mo_read_37 : decode b_Mo_read 37 = .ok (.iconst 0, 1) := by decide +kernel
theorem d_Mo_read_38 : decode b_Mo_read 38 = .ok (.putfield 281, 3) := by decide +kernel
theorem d_Mo_read_41 : decode b_Mo_read 41 = .ok (.aload_n 0, 1) := by decide +kernel
theorem d_Mo_read_42 : decode b_Mo_read 42 = .ok (.iconst 1, 1) := by decide +kernel
theorem d_Mo_read_43 : decode b_Mo_read 43 = .ok (.putfield 284, 3) := by decide +kernel
theorem d_Mo_read_46 : decode b_Mo_read 46 = .ok (.aload_n 0, 1) := by decide +kernel
theorem d_Mo_read_47 : decode b_Mo_read 47 = .ok (.invokevirtual 288, 3) := by decide +kernel
theorem d_Mo_read_50 : decode b_Mo_read 50 = .ok (.aload_n 0, 1) := by decide +kernel
theorem d_Mo_read_51 : decode b_Mo_read 51 = .ok (.invokevirtual 291, 3) := by decide +kernel
theorem d_Mo_read_54 : decode b_Mo_read 54 = .ok (.aload_n 0, 1) := by decide +kernel
theorem d_Mo_read_55 : decode b_Mo_read 55 = .ok (.invokevirtual 294, 3) := by decide +kernel
theorem d_Mo_read_58 : decode b_Mo_read 58 = .ok (.aload_n 0, 1) := by decide +kernel
theorem d_Mo_read_59 : decode b_Mo_read 59 = .ok (.getfield 258, 3) := by decide +kernel
theorem d_Mo_read_62 : decode b_Mo_read 62 = .ok (.ireturn, 1) := by decide +kernel
theorem d_Mo_isThere_0 : decode b_Mo_isThere 0 = .ok (.aload_n 0, 1) := by decide +kernel
theorem d_Mo_isThere_1 : decode b_Mo_isThere 1 = .ok (.getfield 284, 3) := by decide +kernel
theorem d_Mo_isThere_4 : decode b_Mo_isThere 4 = .ok (.ifCond .eq 19, 3) := by decide +kernel
theorem d_Mo_isThere_7 : decode b_Mo_isThere 7 = .ok (.iload_n 1, 1) := by decide +kernel
theorem d_Mo_isThere_8 : decode b_Mo_isThere 8 = .ok (.ifCond .lt 15, 3) := by decide +kernel
theorem d_Mo_isThere_11 : decode b_Mo_isThere 11 = .ok (.iload_n 1, 1) := by decide +kernel
theorem d_Mo_isThere_12 : decode b_Mo_isThere 12 = .ok (.aload_n 0, 1) := by decide +kernel
theorem d_Mo_isThere_13 : decode b_Mo_isThere 13 = .ok (.getfield 258, 3) := by decide +kernel
theorem d_Mo_isThere_16 : decode b_Mo_isThere 16 = .ok (.if_icmp .ge 7, 3) := by decide +kernel
theorem d_Mo_isThere_19 : decode b_Mo_isThere 19 = .ok (.iconst 1, 1) := by decide +kernel
theorem d_Mo_isThere_20 : decode b_Mo_isThere 20 = .ok (.goto 4, 3) := by decide +kernel
theorem d_Mo_isThere_23 : decode b_Mo_isThere 23 = .ok (.iconst 0, 1) := by decide +kernel
theorem d_Mo_isThere_24 : decode b_Mo_isThere 24 = .ok (.ireturn, 1) := by decide +kernel
theorem d_Mo_place_0 : decode b_Mo_place 0 = .ok (.iload_n 1, 1) := by decide +kernel
theorem d_Mo_place_1 : decode b_Mo_place 1 = .ok (.aload_n 0, 1) := by decide +kernel
theorem d_Mo_place_2 : decode b_Mo_place 2 = .ok (.getfield 139, 3) := by decide +kernel
theorem d_Mo_place_5 : decode b_Mo_place 5 = .ok (.if_icmp .ge 12, 3) := by decide +kernel
theorem d_Mo_place_8 : decode b_Mo_place 8 = .ok (.aload_n 0, 1) := by decide +kernel
theorem d_Mo_place_9 : decode b_Mo_place 9 = .ok (.getfield 71, 3) := by decide +kernel
theorem d_Mo_place_12 : decode b_Mo_place 12 = .ok (.iload_n 1, 1) := by decide +kernel
theorem d_Mo_place_13 : decode b_Mo_place 13 = .ok (.iaload, 1) := by decide +kernel
theorem d_Mo_place_14 : decode b_Mo_place 14 = .ok (.goto 7, 3) := by decide +kernel
theorem d_Mo_place_17 : decode b_Mo_place 17 = .ok (.aload_n 0, 1) := by decide +kernel
theorem d_Mo_place_18 : decode b_Mo_place 18 = .ok (.getfield 143, 3) := by decide +kernel
theorem d_Mo_place_21 : decode b_Mo_place 21 = .ok (.ireturn, 1) := by decide +kernel
theorem d_Mo_children_0 : decode b_Mo_children 0 = .ok (.iconst 0, 1) := by decide +kernel
theorem d_Mo_children_1 : decode b_Mo_children 1 = .ok (.istore_n 2, 1) := by decide +kernel
theorem d_Mo_children_2 : decode b_Mo_children 2 = .ok (.iload_n 1, 1) := by decide +kernel
theorem d_Mo_children_3 : decode b_Mo_children 3 = .ok (.iconst 1, 1) := by decide +kernel
theorem d_Mo_children_4 : decode b_Mo_children 4 = .ok (.iadd, 1) := by decide +kernel
theorem d_Mo_children_5 : decode b_Mo_children 5 = .ok (.istore_n 3, 1) := by decide +kernel
theorem d_Mo_children_6 : decode b_Mo_children 6 = .ok (.iload_n 3, 1) := by decide +kernel
theorem d_Mo_children_7 : decode b_Mo_children 7 = .ok (.aload_n 0, 1) := by decide +kernel
theorem d_Mo_children_8 : decode b_Mo_children 8 = .ok (.getfield 258, 3) := by decide +kernel
theorem d_Mo_children_11 : decode b_Mo_children 11 = .ok (.if_icmp .ge 27, 3) := by decide +kernel
theorem d_Mo_children_14 : decode b_Mo_children 14 = .ok (.iload_n 2, 1) := by decide +kernel
theorem d_Mo_children_15 : decode b_Mo_children 15 = .ok (.aload_n 0, 1) := by decide +kernel
theorem d_Mo_children_16 : decode b_Mo_children 16 = .ok (.getfield 89, 3) := by decide +kernel
theorem d_Mo_children_19 : decode b_Mo_children 19 = .ok (.iload_n 3, 1) := by decide +kernel
theorem d_Mo_children_20 : decode b_Mo_children 20 = .ok (.iaload, 1) := by decide +kernel
theorem d_Mo_children_21 : decode b_Mo_children 21 = .ok (.iload_n 1, 1) := by decide +kernel
theorem d_Mo_children_22 : decode b_Mo_children 22 = .ok (.if_icmp .ne 7, 3) := by decide +kernel
theorem d_Mo_children_25 : decode b_Mo_children 25 = .ok (.iconst 1, 1) := by decide +kernel
theorem d_Mo_children_26 : decode b_Mo_children 26 = .ok (.goto 4, 3) := by decide +kernel
theorem d_Mo_children_29 : decode b_Mo_children 29 = .ok (.iconst 0, 1) := by decide +kernel
theorem d_Mo_children_30 : decode b_Mo_children 30 = .ok (.iadd, 1) := by decide +kernel
theorem d_Mo_children_31 : decode b_Mo_children 31 = .ok (.istore_n 2, 1) := by decide +kernel
theorem d_Mo_children_32 : decode b_Mo_children 32 = .ok (.iinc 3 1, 3) := by decide +kernel
theorem d_Mo_children_35 : decode b_Mo_children 35 = .ok (.goto (-29), 3) := by decide +kernel
theorem d_Mo_children_38 : decode b_Mo_children 38 = .ok (.iload_n 2, 1) := by decide +kernel
theorem d_Mo_children_39 : decode b_Mo_children 39 = .ok (.ireturn, 1) := by decide +kernel
theorem d_Mo_fields_0 : decode b_Mo_fields 0 = .ok (.iconst 0, 1) := by decide +kernel
theorem d_Mo_fields_1 : decode b_Mo_fields 1 = .ok (.istore_n 2, 1) := by decide +kernel
theorem d_Mo_fields_2 : decode b_Mo_fields 2 = .ok (.aload_n 0, 1) := by decide +kernel
theorem d_Mo_fields_3 : decode b_Mo_fields 3 = .ok (.getfield 77, 3) := by decide +kernel
theorem d_Mo_fields_6 : decode b_Mo_fields 6 = .ok (.iload_n 1, 1) := by decide +kernel
theorem d_Mo_fields_7 : decode b_Mo_fields 7 = .ok (.iaload, 1) := by decide +kernel
theorem d_Mo_fields_8 : decode b_Mo_fields 8 = .ok (.istore_n 3, 1) := by decide +kernel
theorem d_Mo_fields_9 : decode b_Mo_fields 9 = .ok (.iload_n 3, 1) := by decide +kernel
theorem d_Mo_fields_10 : decode b_Mo_fields 10 = .ok (.aload_n 0, 1) := by decide +kernel
theorem d_Mo_fields_11 : decode b_Mo_fields 11 = .ok (.getfield 83, 3) := by decide +kernel
theorem d_Mo_fields_14 : decode b_Mo_fields 14 = .ok (.iload_n 1, 1) := by decide +kernel
theorem d_Mo_fields_15 : decode b_Mo_fields 15 = .ok (.iaload, 1) := by decide +kernel
theorem d_Mo_fields_16 : decode b_Mo_fields 16 = .ok (.if_icmp .ge 89, 3) := by decide +kernel
theorem d_Mo_fields_19 : decode b_Mo_fields 19 = .ok (.aload_n 0, 1) := by decide +kernel
theorem d_Mo_fields_20 : decode b_Mo_fields 20 = .ok (.iload_n 3, 1) := by decide +kernel
theorem d_Mo_fields_21 : decode b_Mo_fields 21 = .ok (.invokevirtual 150, 3) := by decide +kernel
theorem d_Mo_fields_24 : decode b_Mo_fields 24 = .ok (.iconst (-1), 1) := by decide +kernel
theorem d_Mo_fields_25 : decode b_Mo_fields 25 = .ok (.if_icmp .ne 6, 3) := by decide +kernel
theorem d_Mo_fields_28 : decode b_Mo_fields 28 = .ok (.goto 71, 3) := by decide +kernel
theorem d_Mo_fields_31 : decode b_Mo_fields 31 = .ok (.iconst 0, 1) := by decide +kernel
theorem d_Mo_fields_32 : decode b_Mo_fields 32 = .ok (.istore 4, 2) := by decide +kernel
theorem d_Mo_fields_34 : decode b_Mo_fields 34 = .ok (.aload_n 0, 1) := by decide +kernel
theorem d_Mo_fields_35 : decode b_Mo_fields 35 = .ok (.getfield 77, 3) := by decide +kernel
theorem d_Mo_fields_38 : decode b_Mo_fields 38 = .ok (.iload_n 1, 1) := by decide +kernel
theorem d_Mo_fields_39 : decode b_Mo_fields 39 = .ok (.iaload, 1) := by decide +kernel
theorem d_Mo_fields_40 : decode b_Mo_fields 40 = .ok (.istore 5, 2) := by decide +kernel
theorem d_Mo_fields_42 : decode b_Mo_fields 42 = .ok (.iload 5, 2) := by decide +kernel
theorem d_Mo_fields_44 : decode b_Mo_fields 44 = .ok (.iload_n 3, 1) := by decide +kernel
theorem d_Mo_fields_45 : decode b_Mo_fields 45 = .ok (.if_icmp .ge 41, 3) := by decide +kernel
theorem d_Mo_fields_48 : decode b_Mo_fields 48 = .ok (.iload 4, 2) := by decide +kernel
theorem d_Mo_fields_50 : decode b_Mo_fields 50 = .ok (.ifCond .ne 23, 3) := by decide +kernel
theorem d_Mo_fields_53 : decode b_Mo_fields 53 = .ok (.aload_n 0, 1) := by decide +kernel
theorem d_Mo_fields_54 : decode b_Mo_fields 54 = .ok (.iload 5, 2) := by decide +kernel
theorem d_Mo_fields_56 : decode b_Mo_fields 56 = .ok (.invokevirtual 150, 3) := by decide +kernel
theorem d_Mo_fields_59 : decode b_Mo_fields 59 = .ok (.iconst (-1), 1) := by decide +kernel
theorem d_Mo_fields_60 : decode b_Mo_fields 60 = .ok (.if_icmp .eq 17, 3) := by decide +kernel
theorem d_Mo_fields_63 : decode b_Mo_fields 63 = .ok (.aload_n 0, 1) := by decide +kernel
theorem d_Mo_fields_64 : decode b_Mo_fields 64 = .ok (.iload 5, 2) := by decide +kernel
theorem d_Mo_fields_66 : decode b_Mo_fields 66 = .ok (.iload_n 3, 1) := by decide +kernel
theorem d_Mo_fields_67 : decode b_Mo_fields 67 = .ok (.invokevirtual 297, 3) := by decide +kernel
theorem d_Mo_fields_70 : decode b_Mo_fields 70 = .ok (.ifCond .eq 7, 3) := by decide +kernel
theorem d_Mo_fields_73 : decode b_Mo_fields 73 = .ok (.iconst 1, 1) := by decide +kernel
theorem d_Mo_fields_74 : decode b_Mo_fields 74 = .ok (.goto 4, 3) := by decide +kernel
theorem d_Mo_fields_77 : decode b_Mo_fields 77 = .ok (.iconst 0, 1) := by decide +kernel
theorem d_Mo_fields_78 : decode b_Mo_fields 78 = .ok (.istore 4, 2) := by decide +kernel
theorem d_Mo_fields_80 : decode b_Mo_fields 80 = .ok (.iinc 5 1, 3) := by decide +kernel
theorem d_Mo_fields_83 : decode b_Mo_fields 83 = .ok (.goto (-41), 3) := by decide +kernel
theorem d_Mo_fields_86 : decode b_Mo_fields 86 = .ok (.iload_n 2, 1) := by decide +kernel
theorem d_Mo_fields_87 : decode b_Mo_fields 87 = .ok (.iload 4, 2) := by decide +kernel
theorem d_Mo_fields_89 : decode b_Mo_fields 89 = .ok (.ifCond .eq 7, 3) := by decide +kernel
theorem d_Mo_fields_92 : decode b_Mo_fields 92 = .ok (.iconst 0, 1) := by decide +kernel
theorem d_Mo_fields_93 : decode b_Mo_fields 93 = .ok (.goto 4, 3) := by decide +kernel
theorem d_Mo_fields_96 : decode b_Mo_fields 96 = .ok (.iconst 1, 1) := by decide +kernel
theorem d_Mo_fields_97 : decode b_Mo_fields 97 = .ok (.iadd, 1) := by decide +kernel
theorem d_Mo_fields_98 : decode b_Mo_fields 98 = .ok (.istore_n 2, 1) := by decide +kernel
theorem d_Mo_fields_99 : decode b_Mo_fields 99 = .ok (.iinc 3 1, 3) := by decide +kernel
theorem d_Mo_fields_102 : decode b_Mo_fields 102 = .ok (.goto (-93), 3) := by decide +kernel
theorem d_Mo_fields_105 : decode b_Mo_fields 105 = .ok (.iload_n 2, 1) := by decide +kernel
theorem d_Mo_fields_106 : decode b_Mo_fields 106 = .ok (.ireturn, 1) := by decide +kernel
theorem d_Mo_isAlike_0 : decode b_Mo_isAlike 0 = .ok (.aload_n 0, 1) := by decide +kernel
theorem d_Mo_isAlike_1 : decode b_Mo_isAlike 1 = .ok (.iload_n 1, 1) := by decide +kernel
theorem d_Mo_isAlike_2 : decode b_Mo_isAlike 2 = .ok (.invokevirtual 150, 3) := by decide +kernel
theorem d_Mo_isAlike_5 : decode b_Mo_isAlike 5 = .ok (.aload_n 0, 1) := by decide +kernel
theorem d_Mo_isAlike_6 : decode b_Mo_isAlike 6 = .ok (.getfield 71, 3) := by decide +kernel
theorem d_Mo_isAlike_9 : decode b_Mo_isAlike 9 = .ok (.iload_n 1, 1) := by decide +kernel
theorem d_Mo_isAlike_10 : decode b_Mo_isAlike 10 = .ok (.iaload, 1) := by decide +kernel
theorem d_Mo_isAlike_11 : decode b_Mo_isAlike 11 = .ok (.isub, 1) := by decide +kernel
theorem d_Mo_isAlike_12 : decode b_Mo_isAlike 12 = .ok (.istore_n 3, 1) := by decide +kernel
theorem d_Mo_isAlike_13 : decode b_Mo_isAlike 13 = .ok (.aload_n 0, 1) := by decide +kernel
theorem d_Mo_isAlike_14 : decode b_Mo_isAlike 14 = .ok (.iload_n 2, 1) := by decide +kernel
theorem d_Mo_isAlike_15 : decode b_Mo_isAlike 15 = .ok (.invokevirtual 150, 3) := by decide +kernel
theorem d_Mo_isAlike_18 : decode b_Mo_isAlike 18 = .ok (.aload_n 0, 1) := by decide +kernel
theorem d_Mo_isAlike_19 : decode b_Mo_isAlike 19 = .ok (.getfield 71, 3) := by decide +kernel
theorem d_Mo_isAlike_22 : decode b_Mo_isAlike 22 = .ok (.iload_n 2, 1) := by decide +kernel
theorem d_Mo_isAlike_23 : decode b_Mo_isAlike 23 = .ok (.iaload, 1) := by decide +kernel
theorem d_Mo_isAlike_24 : decode b_Mo_isAlike 24 = .ok (.isub, 1) := by decide +kernel
theorem d_Mo_isAlike_25 : decode b_Mo_isAlike 25 = .ok (.iload_n 3, 1) := by decide +kernel
theorem d_Mo_isAlike_26 : decode b_Mo_isAlike 26 = .ok (.if_icmp .eq 5, 3) := by decide +kernel
theorem d_Mo_isAlike_29 : decode b_Mo_isAlike 29 = .ok (.iconst 0, 1) := by decide +kernel
theorem d_Mo_isAlike_30 : decode b_Mo_isAlike 30 = .ok (.ireturn, 1) := by decide +kernel
theorem d_Mo_isAlike_31 : decode b_Mo_isAlike 31 = .ok (.iconst 0, 1) := by decide +kernel
theorem d_Mo_isAlike_32 : decode b_Mo_isAlike 32 = .ok (.istore 4, 2) := by decide +kernel
theorem d_Mo_isAlike_34 : decode b_Mo_isAlike 34 = .ok (.iload 4, 2) := by decide +kernel
theorem d_Mo_isAlike_36 : decode b_Mo_isAlike 36 = .ok (.iload_n 3, 1) := by decide +kernel
theorem d_Mo_isAlike_37 : decode b_Mo_isAlike 37 = .ok (.if_icmp .ge 48, 3) := by decide +kernel
theorem d_Mo_isAlike_40 : decode b_Mo_isAlike 40 = .ok (.aload_n 0, 1) := by decide +kernel
theorem d_Mo_isAlike_41 : decode b_Mo_isAlike 41 = .ok (.getfield 68, 3) := by decide +kernel
theorem d_Mo_isAlike_44 : decode b_Mo_isAlike 44 = .ok (.aload_n 0, 1) := by decide +kernel
theorem d_Mo_isAlike_45 : decode b_Mo_isAlike 45 = .ok (.getfield 71, 3) := by decide +kernel
theorem d_Mo_isAlike_48 : decode b_Mo_isAlike 48 = .ok (.iload_n 1, 1) := by decide +kernel
theorem d_Mo_isAlike_49 : decode b_Mo_isAlike 49 = .ok (.iaload, 1) := by decide +kernel
theorem d_Mo_isAlike_50 : decode b_Mo_isAlike 50 = .ok (.iload 4, 2) := by decide +kernel
theorem d_Mo_isAlike_52 : decode b_Mo_isAlike 52 = .ok (.iadd, 1) := by decide +kernel
theorem d_Mo_isAlike_53 : decode b_Mo_isAlike 53 = .ok (.baload, 1) := by decide +kernel
theorem d_Mo_isAlike_54 : decode b_Mo_isAlike 54 = .ok (.invokestatic 135, 3) := by decide +kernel
theorem d_Mo_isAlike_57 : decode b_Mo_isAlike 57 = .ok (.aload_n 0, 1) := by decide +kernel
theorem d_Mo_isAlike_58 : decode b_Mo_isAlike 58 = .ok (.getfield 68, 3) := by decide +kernel
theorem d_Mo_isAlike_61 : decode b_Mo_isAlike 61 = .ok (.aload_n 0, 1) := by decide +kernel
theorem d_Mo_isAlike_62 : decode b_Mo_isAlike 62 = .ok (.getfield 71, 3) := by decide +kernel
theorem d_Mo_isAlike_65 : decode b_Mo_isAlike 65 = .ok (.iload_n 2, 1) := by decide +kernel
theorem d_Mo_isAlike_66 : decode b_Mo_isAlike 66 = .ok (.iaload, 1) := by decide +kernel
theorem d_Mo_isAlike_67 : decode b_Mo_isAlike 67 = .ok (.iload 4, 2) := by decide +kernel
theorem d_Mo_isAlike_69 : decode b_Mo_isAlike 69 = .ok (.iadd, 1) := by decide +kernel
theorem d_Mo_isAlike_70 : decode b_Mo_isAlike 70 = .ok (.baload, 1) := by decide +kernel
theorem d_Mo_isAlike_71 : decode b_Mo_isAlike 71 = .ok (.invokestatic 135, 3) := by decide +kernel
theorem d_Mo_isAlike_74 : decode b_Mo_isAlike 74 = .ok (.if_icmp .eq 5, 3) := by decide +kernel
theorem d_Mo_isAlike_77 : decode b_Mo_isAlike 77 = .ok (.iconst 0, 1) := by decide +kernel
theorem d_Mo_isAlike_78 : decode b_Mo_isAlike 78 = .ok (.ireturn, 1) := by decide +kernel
theorem d_Mo_isAlike_79 : decode b_Mo_isAlike 79 = .ok (.iinc 4 1, 3) := by decide +kernel
theorem d_Mo_isAlike_82 : decode b_Mo_isAlike 82 = .ok (.goto (-48), 3) := by decide +kernel
theorem d_Mo_isAlike_85 : decode b_Mo_isAlike 85 = .ok (.iconst 1, 1) := by decide +kernel
theorem d_Mo_isAlike_86 : decode b_Mo_isAlike 86 = .ok (.ireturn, 1) := by decide +kernel
theorem d_Mo_entity_0 : decode b_Mo_entity 0 = .ok (.iload_n 1, 1) := by decide +kernel
theorem d_Mo_entity_1 : decode b_Mo_entity 1 = .ok (.istore_n 3, 1) := by decide +kernel
theorem d_Mo_entity_2 : decode b_Mo_entity 2 = .ok (.aload_n 0, 1) := by decide +kernel
theorem d_Mo_entity_3 : decode b_Mo_entity 3 = .ok (.iload_n 3, 1) := by decide +kernel
theorem d_Mo_entity_4 : decode b_Mo_entity 4 = .ok (.invokevirtual 301, 3) := by decide +kernel
theorem d_Mo_entity_7 : decode b_Mo_entity 7 = .ok (.ifCond .ne 5, 3) := by decide +kernel
theorem d_Mo_entity_10 : decode b_Mo_entity 10 = .ok (.iconst (-1), 1) := by decide +kernel
theorem d_Mo_entity_11 : decode b_Mo_entity 11 = .ok (.ireturn, 1) := by decide +kernel
theorem d_Mo_entity_12 : decode b_Mo_entity 12 = .ok (.iload_n 2, 1) := by decide +kernel
theorem d_Mo_entity_13 : decode b_Mo_entity 13 = .ok (.tableswitch 175 0 9 #[55, 62, 69, 76, 90, 101, 135, 149, 163, 169], 55) := by decide +kernel
theorem d_Mo_entity_68 : decode b_Mo_entity 68 = .ok (.aload_n 0, 1) := by decide +kernel
theorem d_Mo_entity_69 : decode b_Mo_entity 69 = .ok (.getfield 95, 3) := by decide +kernel
theorem d_Mo_entity_72 : decode b_Mo_entity 72 = .ok (.iload_n 3, 1) := by decide +kernel
theorem d_Mo_entity_73 : decode b_Mo_entity 73 = .ok (.iaload, 1) := by decide +kernel
theorem d_Mo_entity_74 : decode b_Mo_entity 74 = .ok (.ireturn, 1) := by decide +kernel
theorem d_Mo_entity_75 : decode b_Mo_entity 75 = .ok (.aload_n 0, 1) := by decide +kernel
theorem d_Mo_entity_76 : decode b_Mo_entity 76 = .ok (.getfield 89, 3) := by decide +kernel
theorem d_Mo_entity_79 : decode b_Mo_entity 79 = .ok (.iload_n 3, 1) := by decide +kernel
theorem d_Mo_entity_80 : decode b_Mo_entity 80 = .ok (.iaload, 1) := by decide +kernel
theorem d_Mo_entity_81 : decode b_Mo_entity 81 = .ok (.ireturn, 1) := by decide +kernel
theorem d_Mo_entity_82 : decode b_Mo_entity 82 = .ok (.aload_n 0, 1) := by decide +kernel
theorem d_Mo_entity_83 : decode b_Mo_entity 83 = .ok (.getfield 92, 3) := by decide +kernel
theorem d_Mo_entity_86 : decode b_Mo_entity 86 = .ok (.iload_n 3, 1) := by decide +kernel
theorem d_Mo_entity_87 : decode b_Mo_entity 87 = .ok (.iaload, 1) := by decide +kernel
theorem d_Mo_entity_88 : decode b_Mo_entity 88 = .ok (.ireturn, 1) := by decide +kernel
theorem d_Mo_entity_89 : decode b_Mo_entity 89 = .ok (.aload_n 0, 1) := by decide +kernel
theorem d_Mo_entity_90 : decode b_Mo_entity 90 = .ok (.iload_n 3, 1) := by decide +kernel
theorem d_Mo_entity_91 : decode b_Mo_entity 91 = .ok (.invokevirtual 271, 3) := by decide +kernel
theorem d_Mo_entity_94 : decode b_Mo_entity 94 = .ok (.ifCond .eq 7, 3) := by decide +kernel
theorem d_Mo_entity_97 : decode b_Mo_entity 97 = .ok (.iconst 1, 1) := by decide +kernel
theorem d_Mo_entity_98 : decode b_Mo_entity 98 = .ok (.goto 4, 3) := by decide +kernel
theorem d_Mo_entity_101 : decode b_Mo_entity 101 = .ok (.iconst 0, 1) := by decide +kernel
theorem d_Mo_entity_102 : decode b_Mo_entity 102 = .ok (.ireturn, 1) := by decide +kernel
theorem d_Mo_entity_103 : decode b_Mo_entity 103 = .ok (.aload_n 0, 1) := by decide +kernel
theorem d_Mo_entity_104 : decode b_Mo_entity 104 = .ok (.aload_n 0, 1) := by decide +kernel
theorem d_Mo_entity_105 : decode b_Mo_entity 105 = .ok (.getfield 77, 3) := by decide +kernel
theorem d_Mo_entity_108 : decode b_Mo_entity 108 = .ok (.iload_n 3, 1) := by decide +kernel
theorem d_Mo_entity_109 : decode b_Mo_entity 109 = .ok (.iaload, 1) := by decide +kernel
theorem d_Mo_entity_110 : decode b_Mo_entity 110 = .ok (.invokevirtual 304, 3) := by decide +kernel
theorem d_Mo_entity_113 : decode b_Mo_entity 113 = .ok (.ireturn, 1) := by decide +kernel
theorem d_Mo_entity_114 : decode b_Mo_entity 114 = .ok (.aload_n 0, 1) := by decide +kernel
theorem d_Mo_entity_115 : decode b_Mo_entity 115 = .ok (.getfield 86, 3) := by decide +kernel
theorem d_Mo_entity_118 : decode b_Mo_entity 118 = .ok (.iload_n 3, 1) := by decide +kernel
theorem d_Mo_entity_119 : decode b_Mo_entity 119 = .ok (.iaload, 1) := by decide +kernel
theorem d_Mo_entity_120 : decode b_Mo_entity 120 = .ok (.aload_n 0, 1) := by decide +kernel
theorem d_Mo_entity_121 : decode b_Mo_entity 121 = .ok (.getfield 80, 3) := by decide +kernel
theorem d_Mo_entity_124 : decode b_Mo_entity 124 = .ok (.iload_n 3, 1) := by decide +kernel
theorem d_Mo_entity_125 : decode b_Mo_entity 125 = .ok (.iaload, 1) := by decide +kernel
theorem d_Mo_entity_126 : decode b_Mo_entity 126 = .ok (.if_icmp .ge 17, 3) := by decide +kernel
theorem d_Mo_entity_129 : decode b_Mo_entity 129 = .ok (.aload_n 0, 1) := by decide +kernel
theorem d_Mo_entity_130 : decode b_Mo_entity 130 = .ok (.getfield 71, 3) := by decide +kernel
theorem d_Mo_entity_133 : decode b_Mo_entity 133 = .ok (.aload_n 0, 1) := by decide +kernel
theorem d_Mo_entity_134 : decode b_Mo_entity 134 = .ok (.getfield 86, 3) := by decide +kernel
theorem d_Mo_entity_137 : decode b_Mo_entity 137 = .ok (.iload_n 3, 1) := by decide +kernel
theorem d_Mo_entity_138 : decode b_Mo_entity 138 = .ok (.iaload, 1) := by decide +kernel
theorem d_Mo_entity_139 : decode b_Mo_entity 139 = .ok (.iaload, 1) := by decide +kernel
theorem d_Mo_entity_140 : decode b_Mo_entity 140 = .ok (.goto 7, 3) := by decide +kernel
theorem d_Mo_entity_143 : decode b_Mo_entity 143 = .ok (.aload_n 0, 1) := by decide +kernel
theorem d_Mo_entity_144 : decode b_Mo_entity 144 = .ok (.getfield 143, 3) := by decide +kernel
theorem d_Mo_entity_147 : decode b_Mo_entity 147 = .ok (.ireturn, 1) := by decide +kernel
theorem d_Mo_entity_148 : decode b_Mo_entity 148 = .ok (.aload_n 0, 1) := by decide +kernel
theorem d_Mo_entity_149 : decode b_Mo_entity 149 = .ok (.getfield 83, 3) := by decide +kernel
theorem d_Mo_entity_152 : decode b_Mo_entity 152 = .ok (.iload_n 3, 1) := by decide +kernel
theorem d_Mo_entity_153 : decode b_Mo_entity 153 = .ok (.iaload, 1) := by decide +kernel
theorem d_Mo_entity_154 : decode b_Mo_entity 154 = .ok (.aload_n 0, 1) := by decide +kernel
theorem d_Mo_entity_155 : decode b_Mo_entity 155 = .ok (.getfield 77, 3) := by decide +kernel
theorem d_Mo_entity_158 : decode b_Mo_entity 158 = .ok (.iload_n 3, 1) := by decide +kernel
theorem d_Mo_entity_159 : decode b_Mo_entity 159 = .ok (.iaload, 1) := by decide +kernel
theorem d_Mo_entity_160 : decode b_Mo_entity 160 = .ok (.isub, 1) := by decide +kernel
theorem d_Mo_entity_161 : decode b_Mo_entity 161 = .ok (.ireturn, 1) := by decide +kernel
theorem d_Mo_entity_162 : decode b_Mo_entity 162 = .ok (.aload_n 0, 1) := by decide +kernel
theorem d_Mo_entity_163 : decode b_Mo_entity 163 = .ok (.getfield 80, 3) := by decide +kernel
theorem d_Mo_entity_166 : decode b_Mo_entity 166 = .ok (.iload_n 3, 1) := by decide +kernel
theorem d_Mo_entity_167 : decode b_Mo_entity 167 = .ok (.iaload, 1) := by decide +kernel
theorem d_Mo_entity_168 : decode b_Mo_entity 168 = .ok (.aload_n 0, 1) := by decide +kernel
theorem d_Mo_entity_169 : decode b_Mo_entity 169 = .ok (.getfield 86, 3) := by decide +kernel
theorem d_Mo_entity_172 : decode b_Mo_entity 172 = .ok (.iload_n 3, 1) := by decide +kernel
theorem d_Mo_entity_173 : decode b_Mo_entity 173 = .ok (.iaload, 1) := by decide +kernel
theorem d_Mo_entity_174 : decode b_Mo_entity 174 = .ok (.isub, 1) := by decide +kernel
theorem d_Mo_entity_175 : decode b_Mo_entity 175 = .ok (.ireturn, 1) := by decide +kernel
theorem d_Mo_entity_176 : decode b_Mo_entity 176 = .ok (.aload_n 0, 1) := by decide +kernel
theorem d_Mo_entity_177 : decode b_Mo_entity 177 = .ok (.iload_n 3, 1) := by decide +kernel
theorem d_Mo_entity_178 : decode b_Mo_entity 178 = .ok (.invokevirtual 307, 3) := by decide +kernel
theorem d_Mo_entity_181 : decode b_Mo_entity 181 = .ok (.ireturn, 1) := by decide +kernel
theorem d_Mo_entity_182 : decode b_Mo_entity 182 = .ok (.aload_n 0, 1) := by decide +kernel
theorem d_Mo_entity_183 : decode b_Mo_entity 183 = .ok (.iload_n 3, 1) := by decide +kernel
theorem d_Mo_entity_184 : decode b_Mo_entity 184 = .ok (.invokevirtual 310, 3) := by decide +kernel
theorem d_Mo_entity_187 : decode b_Mo_entity 187 = .ok (.ireturn, 1) := by decide +kernel
theorem d_Mo_entity_188 : decode b_Mo_entity 188 = .ok (.iconst (-1), 1) := by decide +kernel
theorem d_Mo_entity_189 : decode b_Mo_entity 189 = .ok (.ireturn, 1) := by decide +kernel
