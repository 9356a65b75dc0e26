theorem d_Mp_init_0 : decode b_Mp_init 0 = .ok (.aload_n 0, 1) := by decide +kernel
theorem d_Mp_init_1 : decode b_Mp_init 1 = .ok (.invokespecial 1, 3) := by decide +kernel
theorem d_Mp_init_4 : decode b_Mp_init 4 = .ok (.aload_n 0, 1) := by decide +kernel
theorem d_Mp_init_5 : decode b_Mp_init 5 = .ok (.new 7, 3) := by decide +kernel
theorem d_Mp_init_8 : decode b_Mp_init 8 = .ok (.dup, 1) := by decide +kernel
theorem d_Mp_init_9 : decode b_Mp_init 9 = .ok (.bipush 20, 2) := by decide +kernel
theorem d_Mp_init_11 : decode b_Mp_init 11 = .ok (.invokespecial 11, 3) := by decide +kernel
theorem d_Mp_init_14 : decode b_Mp_init 14 = .ok (.putfield 14, 3) := by decide +kernel
theorem d_Mp_init_17 : decode b_Mp_init 17 = .ok (.aload_n 0, 1) := by decide +kernel
theorem d_Mp_init_18 : decode b_Mp_init 18 = .ok (.new 7, 3) := by decide +kernel
theorem d_Mp_init_21 : decode b_Mp_init 21 = .ok (.dup, 1) := by decide +kernel
theorem d_Mp_init_22 : decode b_Mp_init 22 = .ok (.sipush 1500, 3) := by decide +kernel
theorem d_Mp_init_25 : decode b_Mp_init 25 = .ok (.invokespecial 11, 3) := by decide +kernel
theorem d_Mp_init_28 : decode b_Mp_init 28 = .ok (.putfield 18, 3) := by decide +kernel
theorem d_Mp_init_31 : decode b_Mp_init 31 = .ok (.aload_n 0, 1) := by decide +kernel
theorem d_Mp_init_32 : decode b_Mp_init 32 = .ok (.new 21, 3) := by decide +kernel
theorem d_Mp_init_35 : decode b_Mp_init 35 = .ok (.dup, 1) := by decide +kernel
theorem d_Mp_init_36 : decode b_Mp_init 36 = .ok (.invokespecial 23, 3) := by decide +kernel
theorem d_Mp_init_39 : decode b_Mp_init 39 = .ok (.putfield 24, 3) := by decide +kernel
theorem d_Mp_init_42 : decode b_Mp_init 42 = .ok (.aload_n 0, 1) := by decide +kernel
theorem d_Mp_init_43 : decode b_Mp_init 43 = .ok (.new 28, 3) := by decide +kernel
theorem d_Mp_init_46 : decode b_Mp_init 46 = .ok (.dup, 1) := by decide +kernel
theorem d_Mp_init_47 : decode b_Mp_init 47 = .ok (.invokespecial 30, 3) := by decide +kernel
theorem d_Mp_init_50 : decode b_Mp_init 50 = .ok (.putfield 31, 3) := by decide +kernel
theorem d_Mp_init_53 : decode b_Mp_init 53 = .ok (.aload_n 0, 1) := by decide +kernel
theorem d_Mp_init_54 : decode b_Mp_init 54 = .ok (.ldc 35, 2) := by decide +kernel
theorem d_Mp_init_56 : decode b_Mp_init 56 = .ok (.invokestatic 37, 3) := by decide +kernel
theorem d_Mp_init_59 : decode b_Mp_init 59 = .ok (.putfield 41, 3) := by decide +kernel
theorem d_Mp_init_62 : decode b_Mp_init 62 = .ok (.aload_n 0, 1) := by decide +kernel
theorem d_Mp_init_63 : decode b_Mp_init 63 = .ok (.ldc 44, 2) := by decide +kernel
theorem d_Mp_init_65 : decode b_Mp_init 65 = .ok (.invokestatic 37, 3) := by decide +kernel
theorem d_Mp_init_68 : decode b_Mp_init 68 = .ok (.putfield 46, 3) := by decide +kernel
theorem d_Mp_init_71 : decode b_Mp_init 71 = .ok (.aload_n 0, 1) := by decide +kernel
theorem d_Mp_init_72 : decode b_Mp_init 72 = .ok (.ldc 49, 2) := by decide +kernel
theorem d_Mp_init_74 : decode b_Mp_init 74 = .ok (.invokestatic 37, 3) := by decide +kernel
theorem d_Mp_init_77 : decode b_Mp_init 77 = .ok (.putfield 51, 3) := by decide +kernel
theorem d_Mp_init_80 : decode b_Mp_init 80 = .ok (.aload_n 0, 1) := by decide +kernel
theorem d_Mp_init_81 : decode b_Mp_init 81 = .ok (.ldc 54, 2) := by decide +kernel
theorem d_Mp_init_83 : decode b_Mp_init 83 = .ok (.invokestatic 37, 3) := by decide +kernel
theorem d_Mp_init_86 : decode b_Mp_init 86 = .ok (.putfield 56, 3) := by decide +kernel
theorem d_Mp_init_89 : decode b_Mp_init 89 = .ok (.aload_n 0, 1) := by decide +kernel
theorem d_Mp_init_90 : decode b_Mp_init 90 = .ok (.ldc 59, 2) := by decide +kernel
theorem d_Mp_init_92 : decode b_Mp_init 92 = .ok (.invokestatic 37, 3) := by decide +kernel
theorem d_Mp_init_95 : decode b_Mp_init 95 = .ok (.putfield 61, 3) := by decide +kernel
theorem d_Mp_init_98 : decode b_Mp_init 98 = .ok (.aload_n 0, 1) := by decide +kernel
theorem d_Mp_init_99 : decode b_Mp_init 99 = .ok (.ldc 64, 2) := by decide +kernel
theorem d_Mp_init_101 : decode b_Mp_init 101 = .ok (.invokestatic 37, 3) := by decide +kernel
theorem d_Mp_init_104 : decode b_Mp_init 104 = .ok (.putfield 66, 3) := by decide +kernel
theorem d_Mp_init_107 : decode b_Mp_init 107 = .ok (.aload_n 0, 1) := by decide +kernel
theorem d_Mp_init_108 : decode b_Mp_init 108 = .ok (.bipush 60, 2) := by decide +kernel
theorem d_Mp_init_110 : decode b_Mp_init 110 = .ok (.anewarray 69, 3) := by decide +kernel
theorem d_Mp_init_113 : decode b_Mp_init 113 = .ok (.putfield 71, 3) := by decide +kernel
theorem d_Mp_init_116 : decode b_Mp_init 116 = .ok (.iconst 0, 1) := by decide +kernel
theorem d_Mp_init_117 : decode b_Mp_init 117 = .ok (.istore_n 1, 1) := by decide +kernel
theorem d_Mp_init_118 : decode b_Mp_init 118 = .ok (.iload_n 1, 1) := by decide +kernel
theorem d_Mp_init_119 : decode b_Mp_init 119 = .ok (.bipush 60, 2) := by decide +kernel
theorem d_Mp_init_121 : decode b_Mp_init 121 = .ok (.if_icmp .ge 22, 3) := by decide +kernel
theorem d_Mp_init_124 : decode b_Mp_init 124 = .ok (.aload_n 0, 1) := by decide +kernel
theorem d_Mp_init_125 : decode b_Mp_init 125 = .ok (.getfield 71, 3) := by decide +kernel
theorem d_Mp_init_128 : decode b_Mp_init 128 = .ok (.iload_n 1, 1) := by decide +kernel
theorem d_Mp_init_129 : decode b_Mp_init 129 = .ok (.new 69, 3) := by decide +kernel
theorem d_Mp_init_132 : decode b_Mp_init 132 = .ok (.dup, 1) := by decide +kernel
theorem d_Mp_init_133 : decode b_Mp_init 133 = .ok (.invokespecial 75, 3) := by decide +kernel
theorem d_Mp_init_136 : decode b_Mp_init 136 = .ok (.aastore, 1) := by decide +kernel
theorem d_Mp_init_137 : decode b_Mp_init 137 = .ok (.iinc 1 1, 3) := by decide +kernel
theorem d_Mp_init_140 : decode b_Mp_init 140 = .ok (.goto (-22), 3) := by decide +kernel
theorem d_Mp_init_143 : decode b_Mp_init 143 = .ok (.aload_n 0, 1) := by decide +kernel
theorem d_Mp_init_144 : decode b_Mp_init 144 = .ok (.bipush 8, 2) := by decide +kernel
theorem d_Mp_init_146 : decode b_Mp_init 146 = .ok (.anewarray 7, 3) := by decide +kernel
theorem d_Mp_init_149 : decode b_Mp_init 149 = .ok (.putfield 76, 3) := by decide +kernel
theorem d_Mp_init_152 : decode b_Mp_init 152 = .ok (.iconst 0, 1) := by decide +kernel
theorem d_Mp_init_153 : decode b_Mp_init 153 = .ok (.istore_n 1, 1) := by decide +kernel
theorem d_Mp_init_154 : decode b_Mp_init 154 = .ok (.iload_n 1, 1) := by decide +kernel
theorem d_Mp_init_155 : decode b_Mp_init 155 = .ok (.bipush 8, 2) := by decide +kernel
theorem d_Mp_init_157 : decode b_Mp_init 157 = .ok (.if_icmp .ge 24, 3) := by decide +kernel
theorem d_Mp_init_160 : decode b_Mp_init 160 = .ok (.aload_n 0, 1) := by decide +kernel
theorem d_Mp_init_161 : decode b_Mp_init 161 = .ok (.getfield 76, 3) := by decide +kernel
theorem d_Mp_init_164 : decode b_Mp_init 164 = .ok (.iload_n 1, 1) := by decide +kernel
theorem d_Mp_init_165 : decode b_Mp_init 165 = .ok (.new 7, 3) := by decide +kernel
theorem d_Mp_init_168 : decode b_Mp_init 168 = .ok (.dup, 1) := by decide +kernel
theorem d_Mp_init_169 : decode b_Mp_init 169 = .ok (.bipush 70, 2) := by decide +kernel
theorem d_Mp_init_171 : decode b_Mp_init 171 = .ok (.invokespecial 11, 3) := by decide +kernel
theorem d_Mp_init_174 : decode b_Mp_init 174 = .ok (.aastore, 1) := by decide +kernel
theorem d_Mp_init_175 : decode b_Mp_init 175 = .ok (.iinc 1 1, 3) := by decide +kernel
theorem d_Mp_init_178 : decode b_Mp_init 178 = .ok (.goto (-24), 3) := by decide +kernel
theorem d_Mp_init_181 : decode b_Mp_init 181 = .ok (.aload_n 0, 1) := by decide +kernel
theorem d_Mp_init_182 : decode b_Mp_init 182 = .ok (.new 7, 3) := by decide +kernel
theorem d_Mp_init_185 : decode b_Mp_init 185 = .ok (.dup, 1) := by decide +kernel
theorem d_Mp_init_186 : decode b_Mp_init 186 = .ok (.bipush 60, 2) := by decide +kernel
theorem d_Mp_init_188 : decode b_Mp_init 188 = .ok (.invokespecial 11, 3) := by decide +kernel
theorem d_Mp_init_191 : decode b_Mp_init 191 = .ok (.putfield 80, 3) := by decide +kernel
theorem d_Mp_init_194 : decode b_Mp_init 194 = .ok (.aload_n 0, 1) := by decide +kernel
theorem d_Mp_init_195 : decode b_Mp_init 195 = .ok (.new 7, 3) := by decide +kernel
theorem d_Mp_init_198 : decode b_Mp_init 198 = .ok (.dup, 1) := by decide +kernel
theorem d_Mp_init_199 : decode b_Mp_init 199 = .ok (.bipush 60, 2) := by decide +kernel
theorem d_Mp_init_201 : decode b_Mp_init 201 = .ok (.invokespecial 11, 3) := by decide +kernel
theorem d_Mp_init_204 : decode b_Mp_init 204 = .ok (.putfield 83, 3) := by decide +kernel
theorem d_Mp_init_207 : decode b_Mp_init 207 = .ok (.aload_n 0, 1) := by decide +kernel
theorem d_Mp_init_208 : decode b_Mp_init 208 = .ok (.iconst 0, 1) := by decide +kernel
theorem d_Mp_init_209 : decode b_Mp_init 209 = .ok (.putfield 86, 3) := by decide +kernel
theorem d_Mp_init_212 : decode b_Mp_init 212 = .ok (.aload_n 0, 1) := by decide +kernel
theorem d_Mp_init_213 : decode b_Mp_init 213 = .ok (.iconst 0, 1) := by decide +kernel
theorem d_Mp_init_214 : decode b_Mp_init 214 = .ok (.putfield 90, 3) := by decide +kernel
theorem d_Mp_init_217 : decode b_Mp_init 217 = .ok (.return_, 1) := by decide +kernel
theorem d_Mp_feed_0 : decode b_Mp_feed 0 = .ok (.aload_n 0, 1) := by decide +kernel
theorem d_Mp_feed_1 : decode b_Mp_feed 1 = .ok (.getfield 14, 3) := by decide +kernel
theorem d_Mp_feed_4 : decode b_Mp_feed 4 = .ok (.invokevirtual 93, 3) := by decide +kernel
theorem d_Mp_feed_7 : decode b_Mp_feed 7 = .ok (.aload_n 0, 1) := by decide +kernel
theorem d_Mp_feed_8 : decode b_Mp_feed 8 = .ok (.iload_n 1, 1) := by decide +kernel
theorem d_Mp_feed_9 : decode b_Mp_feed 9 = .ok (.invokevirtual 96, 3) := by decide +kernel
theorem d_Mp_feed_12 : decode b_Mp_feed 12 = .ok (.aload_n 0, 1) := by decide +kernel
theorem d_Mp_feed_13 : decode b_Mp_feed 13 = .ok (.iload_n 2, 1) := by decide +kernel
theorem d_Mp_feed_14 : decode b_Mp_feed 14 = .ok (.invokevirtual 96, 3) := by decide +kernel
theorem d_Mp_feed_17 : decode b_Mp_feed 17 = .ok (.aload_n 0, 1) := by decide +kernel
theorem d_Mp_feed_18 : decode b_Mp_feed 18 = .ok (.iload_n 3, 1) := by decide +kernel
theorem d_Mp_feed_19 : decode b_Mp_feed 19 = .ok (.invokevirtual 96, 3) := by decide +kernel
theorem d_Mp_feed_22 : decode b_Mp_feed 22 = .ok (.aload_n 0, 1) := by decide +kernel
theorem d_Mp_feed_23 : decode b_Mp_feed 23 = .ok (.iload 4, 2) := by decide +kernel
theorem d_Mp_feed_25 : decode b_Mp_feed 25 = .ok (.invokevirtual 96, 3) := by decide +kernel
theorem d_Mp_feed_28 : decode b_Mp_feed 28 = .ok (.aload_n 0, 1) := by decide +kernel
theorem d_Mp_feed_29 : decode b_Mp_feed 29 = .ok (.iload 5, 2) := by decide +kernel
theorem d_Mp_feed_31 : decode b_Mp_feed 31 = .ok (.invokevirtual 96, 3) := by decide +kernel
theorem d_Mp_feed_34 : decode b_Mp_feed 34 = .ok (.return_, 1) := by decide +kernel
theorem d_Mp_end_0 : decode b_Mp_end 0 = .ok (.iload_n 1, 1) := by decide +kernel
theorem d_Mp_end_1 : decode b_Mp_end 1 = .ok (.ifCond .lt 24, 3) := by decide +kernel
theorem d_Mp_end_4 : decode b_Mp_end 4 = .ok (.iload_n 1, 1) := by decide +kernel
theorem d_Mp_end_5 : decode b_Mp_end 5 = .ok (.bipush 20, 2) := by decide +kernel
theorem d_Mp_end_7 : decode b_Mp_end 7 = .ok (.if_icmp .gt 18, 3) := by decide +kernel
theorem d_Mp_end_10 : decode b_Mp_end 10 = .ok (.aload_n 0, 1) := by decide +kernel
theorem d_Mp_end_11 : decode b_Mp_end 11 = .ok (.getfield 18, 3) := by decide +kernel
theorem d_Mp_end_14 : decode b_Mp_end 14 = .ok (.getfield 99, 3) := by decide +kernel
theorem d_Mp_end_17 : decode b_Mp_end 17 = .ok (.iload_n 1, 1) := by decide +kernel
theorem d_Mp_end_18 : decode b_Mp_end 18 = .ok (.iadd, 1) := by decide +kernel
theorem d_Mp_end_19 : decode b_Mp_end 19 = .ok (.sipush 1500, 3) := by decide +kernel
theorem d_Mp_end_22 : decode b_Mp_end 22 = .ok (.if_icmp .le 5, 3) := by decide +kernel
theorem d_Mp_end_25 : decode b_Mp_end 25 = .ok (.iconst (-1), 1) := by decide +kernel
theorem d_Mp_end_26 : decode b_Mp_end 26 = .ok (.ireturn, 1) := by decide +kernel
theorem d_Mp_end_27 : decode b_Mp_end 27 = .ok (.iconst 0, 1) := by decide +kernel
theorem d_Mp_end_28 : decode b_Mp_end 28 = .ok (.istore_n 2, 1) := by decide +kernel
theorem d_Mp_end_29 : decode b_Mp_end 29 = .ok (.iload_n 2, 1) := by decide +kernel
theorem d_Mp_end_30 : decode b_Mp_end 30 = .ok (.iload_n 1, 1) := by decide +kernel
theorem d_Mp_end_31 : decode b_Mp_end 31 = .ok (.if_icmp .ge 28, 3) := by decide +kernel
theorem d_Mp_end_34 : decode b_Mp_end 34 = .ok (.aload_n 0, 1) := by decide +kernel
theorem d_Mp_end_35 : decode b_Mp_end 35 = .ok (.getfield 18, 3) := by decide +kernel
theorem d_Mp_end_38 : decode b_Mp_end 38 = .ok (.aload_n 0, 1) := by decide +kernel
theorem d_Mp_end_39 : decode b_Mp_end 39 = .ok (.getfield 14, 3) := by decide +kernel
theorem d_Mp_end_42 : decode b_Mp_end 42 = .ok (.iload_n 2, 1) := by decide +kernel
theorem d_Mp_end_43 : decode b_Mp_end 43 = .ok (.invokevirtual 102, 3) := by decide +kernel
theorem d_Mp_end_46 : decode b_Mp_end 46 = .ok (.iconst 0, 1) := by decide +kernel
theorem d_Mp_end_47 : decode b_Mp_end 47 = .ok (.invokestatic 106, 3) := by decide +kernel
theorem d_Mp_end_50 : decode b_Mp_end 50 = .ok (.invokevirtual 112, 3) := by decide +kernel
theorem d_Mp_end_53 : decode b_Mp_end 53 = .ok (.iinc 2 1, 3) := by decide +kernel
theorem d_Mp_end_56 : decode b_Mp_end 56 = .ok (.goto (-27), 3) := by decide +kernel
theorem d_Mp_end_59 : decode b_Mp_end 59 = .ok (.aload_n 0, 1) := by decide +kernel
theorem d_Mp_end_60 : decode b_Mp_end 60 = .ok (.getfield 14, 3) := by decide +kernel
theorem d_Mp_end_63 : decode b_Mp_end 63 = .ok (.invokevirtual 93, 3) := by decide +kernel
theorem d_Mp_end_66 : decode b_Mp_end 66 = .ok (.aload_n 0, 1) := by decide +kernel
theorem d_Mp_end_67 : decode b_Mp_end 67 = .ok (.getfield 18, 3) := by decide +kernel
theorem d_Mp_end_70 : decode b_Mp_end 70 = .ok (.getfield 99, 3) := by decide +kernel
theorem d_Mp_end_73 : decode b_Mp_end 73 = .ok (.ireturn, 1) := by decide +kernel
theorem d_Mp_read_0 : decode b_Mp_read 0 = .ok (.aload_n 0, 1) := by decide +kernel
theorem d_Mp_read_1 : decode b_Mp_read 1 = .ok (.getfield 24, 3) := by decide +kernel
theorem d_Mp_read_4 : decode b_Mp_read 4 = .ok (.aload_n 0, 1) := by decide +kernel
theorem d_Mp_read_5 : decode b_Mp_read 5 = .ok (.getfield 18, 3) := by decide +kernel
theorem d_Mp_read_8 : decode b_Mp_read 8 = .ok (.invokevirtual 115, 3) := by decide +kernel
theorem d_Mp_read_11 : decode b_Mp_read 11 = .ok (.aload_n 0, 1) := by decide +kernel
theorem d_Mp_read_12 : decode b_Mp_read 12 = .ok (.getfield 18, 3) := by decide +kernel
theorem d_Mp_read_15 : decode b_Mp_read 15 = .ok (.invokevirtual 93, 3) := by decide +kernel
theorem d_Mp_read_18 : decode b_Mp_read 18 = .ok (.aload_n 0, 1) := by decide +kernel
theorem d_Mp_read_19 : decode b_Mp_read 19 = .ok (.iconst 0, 1) := by decide +kernel
theorem d_Mp_read_20 : decode b_Mp_read 20 = .ok (.putfield 86, 3) := by decide +kernel
theorem d_Mp_read_23 : decode b_Mp_read 23 = .ok (.aload_n 0, 1) := by decide +kernel
theorem d_Mp_read_24 : decode b_Mp_read 24 = .ok (.iconst 0, 1) := by decide +kernel
theorem d_Mp_read_25 : decode b_Mp_read 25 = .ok (.putfield 90, 3) := by decide +kernel
theorem d_Mp_read_28 : decode b_Mp_read 28 = .ok (.aload_n 0, 1) := by decide +kernel
theorem d_Mp_read_29 : decode b_Mp_read 29 = .ok (.iconst 0, 1) := by decide +kernel
theorem d_Mp_read_30 : decode b_Mp_read 30 = .ok (.aload_n 0, 1) := by decide +kernel
theorem d_Mp_read_31 : decode b_Mp_read 31 = .ok (.getfield 24, 3) := by decide +kernel
theorem d_Mp_read_34 : decode b_Mp_read 34 = .ok (.getfield 119, 3) := by decide +kernel
theorem d_Mp_read_37 : decode b_Mp_read 37 = .ok (.iconst (-1), 1) := by decide +kernel
theorem d_Mp_read_38 : decode b_Mp_read 38 = .ok (.iconst 0, 1) := by decide +kernel
theorem d_Mp_read_39 : decode b_Mp_read 39 = .ok (.invokevirtual 122, 3) := by decide +kernel
theorem d_Mp_read_42 : decode b_Mp_read 42 = .ok (.aload_n 0, 1) := by decide +kernel
theorem d_Mp_read_43 : decode b_Mp_read 43 = .ok (.invokevirtual 126, 3) := by decide +kernel
theorem d_Mp_read_46 : decode b_Mp_read 46 = .ok (.aload_n 0, 1) := by decide +kernel
theorem d_Mp_read_47 : decode b_Mp_read 47 = .ok (.invokevirtual 129, 3) := by decide +kernel
theorem d_Mp_read_50 : decode b_Mp_read 50 = .ok (.aload_n 0, 1) := by decide +kernel
theorem d_Mp_read_51 : decode b_Mp_read 51 = .ok (.getfield 86, 3) := by decide +kernel
theorem d_Mp_read_54 : decode b_Mp_read 54 = .ok (.ireturn, 1) := by decide +kernel
theorem d_Mp_entity_0 : decode b_Mp_entity 0 = .ok (.aload_n 0, 1) := by decide +kernel
theorem d_Mp_entity_1 : decode b_Mp_entity 1 = .ok (.iload_n 1, 1) := by decide +kernel
theorem d_Mp_entity_2 : decode b_Mp_entity 2 = .ok (.invokevirtual 132, 3) := by decide +kernel
theorem d_Mp_entity_5 : decode b_Mp_entity 5 = .ok (.astore_n 3, 1) := by decide +kernel
theorem d_Mp_entity_6 : decode b_Mp_entity 6 = .ok (.aload_n 3, 1) := by decide +kernel
theorem d_Mp_entity_7 : decode b_Mp_entity 7 = .ok (.ifnonnull 5, 3) := by decide +kernel
theorem d_Mp_entity_10 : decode b_Mp_entity 10 = .ok (.iconst (-1), 1) := by decide +kernel
theorem d_Mp_entity_11 : decode b_Mp_entity 11 = .ok (.ireturn, 1) := by decide +kernel
theorem d_Mp_entity_12 : decode b_Mp_entity 12 = .ok (.iload_n 2, 1) := by decide +kernel
theorem d_Mp_entity_13 : decode b_Mp_entity 13 = .ok (.tableswitch 162 0 9 #[55, 60, 65, 70, 83, 95, 131, 141, 151, 156], 55) := by decide +kernel
theorem d_Mp_entity_68 : decode b_Mp_entity 68 = .ok (.aload_n 3, 1) := by decide +kernel
theorem d_Mp_entity_69 : decode b_Mp_entity 69 = .ok (.getfield 136, 3) := by decide +kernel
theorem d_Mp_entity_72 : decode b_Mp_entity 72 = .ok (.ireturn, 1) := by decide +kernel
theorem d_Mp_entity_73 : decode b_Mp_entity 73 = .ok (.aload_n 3, 1) := by decide +kernel
theorem d_Mp_entity_74 : decode b_Mp_entity 74 = .ok (.getfield 139, 3) := by decide +kernel
theorem d_Mp_entity_77 : decode b_Mp_entity 77 = .ok (.ireturn, 1) := by decide +kernel
theorem d_Mp_entity_78 : decode b_Mp_entity 78 = .ok (.aload_n 3, 1) := by decide +kernel
theorem d_Mp_entity_79 : decode b_Mp_entity 79 = .ok (.getfield 142, 3) := by decide +kernel
theorem d_Mp_entity_82 : decode b_Mp_entity 82 = .ok (.ireturn, 1) := by decide +kernel
theorem d_Mp_entity_83 : decode b_Mp_entity 83 = .ok (.aload_n 3, 1) := by decide +kernel
theorem d_Mp_entity_84 : decode b_Mp_entity 84 = .ok (.getfield 145, 3) := by decide +kernel
theorem d_Mp_entity_87 : decode b_Mp_entity 87 = .ok (.ifCond .eq 7, 3) := by decide +kernel
theorem d_Mp_entity_90 : decode b_Mp_entity 90 = .ok (.iconst 1, 1) := by decide +kernel
theorem d_Mp_entity_91 : decode b_Mp_entity 91 = .ok (.goto 4, 3) := by decide +kernel
theorem d_Mp_entity_94 : decode b_Mp_entity 94 = .ok (.iconst 0, 1) := by decide +kernel
theorem d_Mp_entity_95 : decode b_Mp_entity 95 = .ok (.ireturn, 1) := by decide +kernel
theorem d_Mp_entity_96 : decode b_Mp_entity 96 = .ok (.aload_n 0, 1) := by decide +kernel
theorem d_Mp_entity_97 : decode b_Mp_entity 97 = .ok (.getfield 24, 3) := by decide +kernel
theorem d_Mp_entity_100 : decode b_Mp_entity 100 = .ok (.aload_n 3, 1) := by decide +kernel
theorem d_Mp_entity_101 : decode b_Mp_entity 101 = .ok (.getfield 149, 3) := by decide +kernel
theorem d_Mp_entity_104 : decode b_Mp_entity 104 = .ok (.invokevirtual 152, 3) := by decide +kernel
theorem d_Mp_entity_107 : decode b_Mp_entity 107 = .ok (.ireturn, 1) := by decide +kernel
theorem d_Mp_entity_108 : decode b_Mp_entity 108 = .ok (.aload_n 3, 1) := by decide +kernel
theorem d_Mp_entity_109 : decode b_Mp_entity 109 = .ok (.getfield 155, 3) := by decide +kernel
theorem d_Mp_entity_112 : decode b_Mp_entity 112 = .ok (.aload_n 3, 1) := by decide +kernel
theorem d_Mp_entity_113 : decode b_Mp_entity 113 = .ok (.getfield 158, 3) := by decide +kernel
theorem d_Mp_entity_116 : decode b_Mp_entity 116 = .ok (.if_icmp .ge 17, 3) := by decide +kernel
theorem d_Mp_entity_119 : decode b_Mp_entity 119 = .ok (.aload_n 0, 1) := by decide +kernel
theorem d_Mp_entity_120 : decode b_Mp_entity 120 = .ok (.getfield 24, 3) := by decide +kernel
theorem d_Mp_entity_123 : decode b_Mp_entity 123 = .ok (.aload_n 3, 1) := by decide +kernel
theorem d_Mp_entity_124 : decode b_Mp_entity 124 = .ok (.getfield 155, 3) := by decide +kernel
theorem d_Mp_entity_127 : decode b_Mp_entity 127 = .ok (.invokevirtual 152, 3) := by decide +kernel
theorem d_Mp_entity_130 : decode b_Mp_entity 130 = .ok (.goto 13, 3) := by decide +kernel
theorem d_Mp_entity_133 : decode b_Mp_entity 133 = .ok (.aload_n 0, 1) := by decide +kernel
theorem d_Mp_entity_134 : decode b_Mp_entity 134 = .ok (.getfield 24, 3) := by decide +kernel
theorem d_Mp_entity_137 : decode b_Mp_entity 137 = .ok (.getfield 161, 3) := by decide +kernel
theorem d_Mp_entity_140 : decode b_Mp_entity 140 = .ok (.getfield 99, 3) := by decide +kernel
theorem d_Mp_entity_143 : decode b_Mp_entity 143 = .ok (.ireturn, 1) := by decide +kernel
theorem d_Mp_entity_144 : decode b_Mp_entity 144 = .ok (.aload_n 3, 1) := by decide +kernel
theorem d_Mp_entity_145 : decode b_Mp_entity 145 = .ok (.getfield 164, 3) := by decide +kernel
theorem d_Mp_entity_148 : decode b_Mp_entity 148 = .ok (.aload_n 3, 1) := by decide +kernel
theorem d_Mp_entity_149 : decode b_Mp_entity 149 = .ok (.getfield 149, 3) := by decide +kernel
theorem d_Mp_entity_152 : decode b_Mp_entity 152 = .ok (.isub, 1) := by decide +kernel
theorem d_Mp_entity_153 : decode b_Mp_entity 153 = .ok (.ireturn, 1) := by decide +kernel
theorem d_Mp_entity_154 : decode b_Mp_entity 154 = .ok (.aload_n 3, 1) := by decide +kernel
theorem d_Mp_entity_155 : decode b_Mp_entity 155 = .ok (.getfield 158, 3) := by decide +kernel
theorem d_Mp_entity_158 : decode b_Mp_entity 158 = .ok (.aload_n 3, 1) := by decide +kernel
theorem d_Mp_entity_159 : decode b_Mp_entity 159 = .ok (.getfield 155, 3) := by decide +kernel
theorem d_Mp_entity_162 : decode b_Mp_entity 162 = .ok (.isub, 1) := by decide +kernel
theorem d_Mp_entity_163 : decode b_Mp_entity 163 = .ok (.ireturn, 1) := by decide +kernel
theorem d_Mp_entity_164 : decode b_Mp_entity 164 = .ok (.aload_n 3, 1) := by decide +kernel
theorem d_Mp_entity_165 : decode b_Mp_entity 165 = .ok (.getfield 167, 3) := by decide +kernel
theorem d_Mp_entity_168 : decode b_Mp_entity 168 = .ok (.ireturn, 1) := by decide +kernel
theorem d_Mp_entity_169 : decode b_Mp_entity 169 = .ok (.aload_n 0, 1) := by decide +kernel
theorem d_Mp_entity_170 : decode b_Mp_entity 170 = .ok (.aload_n 3, 1) := by decide +kernel
theorem d_Mp_entity_171 : decode b_Mp_entity 171 = .ok (.invokevirtual 170, 3) := by decide +kernel
theorem d_Mp_entity_174 : decode b_Mp_entity 174 = .ok (.ireturn, 1) := by decide +kernel
theorem d_Mp_entity_175 : decode b_Mp_entity 175 = .ok (.iconst (-1), 1) := by decide +kernel
theorem d_Mp_entity_176 : decode b_Mp_entity 176 = .ok (.ireturn, 1) := by decide +kernel
theorem d_Mp_length_0 : decode b_Mp_length 0 = .ok (.aload_n 0, 1) := by decide +kernel
theorem d_Mp_length_1 : decode b_Mp_length 1 = .ok (.iload_n 1, 1) := by decide +kernel
theorem d_Mp_length_2 : decode b_Mp_length 2 = .ok (.iload_n 2, 1) := by decide +kernel
theorem d_Mp_length_3 : decode b_Mp_length 3 = .ok (.invokevirtual 174, 3) := by decide +kernel
theorem d_Mp_length_6 : decode b_Mp_length 6 = .ok (.ifCond .eq 16, 3) := by decide +kernel
theorem d_Mp_length_9 : decode b_Mp_length 9 = .ok (.aload_n 0, 1) := by decide +kernel
theorem d_Mp_length_10 : decode b_Mp_length 10 = .ok (.getfield 31, 3) := by decide +kernel
theorem d_Mp_length_13 : decode b_Mp_length 13 = .ok (.getfield 178, 3) := by decide +kernel
theorem d_Mp_length_16 : decode b_Mp_length 16 = .ok (.getfield 99, 3) := by decide +kernel
theorem d_Mp_length_19 : decode b_Mp_length 19 = .ok (.goto 4, 3) := by decide +kernel
theorem d_Mp_length_22 : decode b_Mp_length 22 = .ok (.iconst (-1), 1) := by decide +kernel
theorem d_Mp_length_23 : decode b_Mp_length 23 = .ok (.ireturn, 1) := by decide +kernel
theorem d_Mp_at_0 : decode b_Mp_at 0 = .ok (.aload_n 0, 1) := by decide +kernel
theorem d_Mp_at_1 : decode b_Mp_at 1 = .ok (.iload_n 1, 1) := by decide +kernel
theorem d_Mp_at_2 : decode b_Mp_at 2 = .ok (.iload_n 2, 1) := by decide +kernel
theorem d_Mp_at_3 : decode b_Mp_at 3 = .ok (.invokevirtual 174, 3) := by decide +kernel
theorem d_Mp_at_6 : decode b_Mp_at 6 = .ok (.ifCond .eq 17, 3) := by decide +kernel
theorem d_Mp_at_9 : decode b_Mp_at 9 = .ok (.aload_n 0, 1) := by decide +kernel
theorem d_Mp_at_10 : decode b_Mp_at 10 = .ok (.getfield 31, 3) := by decide +kernel
theorem d_Mp_at_13 : decode b_Mp_at 13 = .ok (.getfield 178, 3) := by decide +kernel
theorem d_Mp_at_16 : decode b_Mp_at 16 = .ok (.iload_n 3, 1) := by decide +kernel
theorem d_Mp_at_17 : decode b_Mp_at 17 = .ok (.invokevirtual 102, 3) := by decide +kernel
theorem d_Mp_at_20 : decode b_Mp_at 20 = .ok (.goto 4, 3) := by decide +kernel
theorem d_Mp_at_23 : decode b_Mp_at 23 = .ok (.iconst (-1), 1) := by decide +kernel
theorem d_Mp_at_24 : decode b_Mp_at 24 = .ok (.ireturn, 1) := by decide +kernel
theorem d_Mp_field_0 : decode b_Mp_field 0 = .ok (.aload_n 0, 1) := by decide +kernel
theorem d_Mp_field_1 : decode b_Mp_field 1 = .ok (.iload_n 1, 1) := by decide +kernel
theorem d_Mp_field_2 : decode b_Mp_field 2 = .ok (.invokevirtual 132, 3) := by decide +kernel
theorem d_Mp_field_5 : decode b_Mp_field 5 = .ok (.astore_n 2, 1) := by decide +kernel
theorem d_Mp_field_6 : decode b_Mp_field 6 = .ok (.aload_n 2, 1) := by decide +kernel
theorem d_Mp_field_7 : decode b_Mp_field 7 = .ok (.ifnull 19, 3) := by decide +kernel
theorem d_Mp_field_10 : decode b_Mp_field 10 = .ok (.aload_n 0, 1) := by decide +kernel
theorem d_Mp_field_11 : decode b_Mp_field 11 = .ok (.aload_n 2, 1) := by decide +kernel
theorem d_Mp_field_12 : decode b_Mp_field 12 = .ok (.aload_n 0, 1) := by decide +kernel
theorem d_Mp_field_13 : decode b_Mp_field 13 = .ok (.getfield 18, 3) := by decide +kernel
theorem d_Mp_field_16 : decode b_Mp_field 16 = .ok (.invokevirtual 179, 3) := by decide +kernel
theorem d_Mp_field_19 : decode b_Mp_field 19 = .ok (.ifCond .eq 7, 3) := by decide +kernel
theorem d_Mp_field_22 : decode b_Mp_field 22 = .ok (.iconst 1, 1) := by decide +kernel
theorem d_Mp_field_23 : decode b_Mp_field 23 = .ok (.goto 4, 3) := by decide +kernel
theorem d_Mp_field_26 : decode b_Mp_field 26 = .ok (.iconst 0, 1) := by decide +kernel
theorem d_Mp_field_27 : decode b_Mp_field 27 = .ok (.istore_n 3, 1) := by decide +kernel
theorem d_Mp_field_28 : decode b_Mp_field 28 = .ok (.aload_n 0, 1) := by decide +kernel
theorem d_Mp_field_29 : decode b_Mp_field 29 = .ok (.iload_n 3, 1) := by decide +kernel
theorem d_Mp_field_30 : decode b_Mp_field 30 = .ok (.invokevirtual 183, 3) := by decide +kernel
theorem d_Mp_field_33 : decode b_Mp_field 33 = .ok (.ireturn, 1) := by decide +kernel
theorem d_Mp_parameter_0 : decode b_Mp_parameter 0 = .ok (.aload_n 0, 1) := by decide +kernel
theorem d_Mp_parameter_1 : decode b_Mp_parameter 1 = .ok (.iload_n 1, 1) := by decide +kernel
theorem d_Mp_parameter_2 : decode b_Mp_parameter 2 = .ok (.invokevirtual 132, 3) := by decide +kernel
theorem d_Mp_parameter_5 : decode b_Mp_parameter 5 = .ok (.astore_n 2, 1) := by decide +kernel
theorem d_Mp_parameter_6 : decode b_Mp_parameter 6 = .ok (.aload_n 2, 1) := by decide +kernel
theorem d_Mp_parameter_7 : decode b_Mp_parameter 7 = .ok (.ifnull 33, 3) := by decide +kernel
theorem d_Mp_parameter_10 : decode b_Mp_parameter 10 = .ok (.aload_n 0, 1) := by decide +kernel
theorem d_Mp_parameter_11 : decode b_Mp_parameter 11 = .ok (.aload_n 2, 1) := by decide +kernel
theorem d_Mp_parameter_12 : decode b_Mp_parameter 12 = .ok (.aload_n 0, 1) := by decide +kernel
theorem d_Mp_parameter_13 : decode b_Mp_parameter 13 = .ok (.getfield 41, 3) := by decide +kernel
theorem d_Mp_parameter_16 : decode b_Mp_parameter 16 = .ok (.invokevirtual 179, 3) := by decide +kernel
theorem d_Mp_parameter_19 : decode b_Mp_parameter 19 = .ok (.ifCond .eq 21, 3) := by decide +kernel
theorem d_Mp_parameter_22 : decode b_Mp_parameter 22 = .ok (.aload_n 0, 1) := by decide +kernel
theorem d_Mp_parameter_23 : decode b_Mp_parameter 23 = .ok (.getfield 31, 3) := by decide +kernel
theorem d_Mp_parameter_26 : decode b_Mp_parameter 26 = .ok (.aload_n 0, 1) := by decide +kernel
theorem d_Mp_parameter_27 : decode b_Mp_parameter 27 = .ok (.getfield 18, 3) := by decide +kernel
theorem d_Mp_parameter_30 : decode b_Mp_parameter 30 = .ok (.invokevirtual 187, 3) := by decide +kernel
theorem d_Mp_parameter_33 : decode b_Mp_parameter 33 = .ok (.ifCond .eq 7, 3) := by decide +kernel
theorem d_Mp_parameter_36 : decode b_Mp_parameter 36 = .ok (.iconst 1, 1) := by decide +kernel
theorem d_Mp_parameter_37 : decode b_Mp_parameter 37 = .ok (.goto 4, 3) := by decide +kernel
theorem d_Mp_parameter_40 : decode b_Mp_parameter 40 = .ok (.iconst 0, 1) := by decide +kernel
theorem d_Mp_parameter_41 : decode b_Mp_parameter 41 = .ok (.istore_n 3, 1) := by decide +kernel
theorem d_Mp_parameter_42 : decode b_Mp_parameter 42 = .ok (.aload_n 0, 1) := by decide +kernel
theorem d_Mp_parameter_43 : decode b_Mp_parameter 43 = .ok (.iload_n 3, 1) := by decide +kernel
theorem d_Mp_parameter_44 : decode b_Mp_parameter 44 = .ok (.invokevirtual 183, 3) := by decide +kernel
theorem d_Mp_parameter_47 : decode b_Mp_parameter 47 = .ok (.ireturn, 1) := by decide +kernel
theorem d_Mp_byteAt_0 : decode b_Mp_byteAt 0 = .ok (.aload_n 0, 1) := by decide +kernel
theorem d_Mp_byteAt_1 : decode b_Mp_byteAt 1 = .ok (.getfield 18, 3) := by decide +kernel
theorem d_Mp_byteAt_4 : decode b_Mp_byteAt 4 = .ok (.iload_n 1, 1) := by decide +kernel
theorem d_Mp_byteAt_5 : decode b_Mp_byteAt 5 = .ok (.invokevirtual 102, 3) := by decide +kernel
theorem d_Mp_byteAt_8 : decode b_Mp_byteAt 8 = .ok (.ireturn, 1) := by decide +kernel
theorem d_Mp_text_0 : decode b_Mp_text 0 = .ok (.iload_n 1, 1) := by decide +kernel
theorem d_Mp_text_1 : decode b_Mp_text 1 = .ok (.ifCond .eq 14, 3) := by decide +kernel
theorem d_Mp_text_4 : decode b_Mp_text 4 = .ok (.aload_n 0, 1) := by decide +kernel
theorem d_Mp_text_5 : decode b_Mp_text 5 = .ok (.getfield 83, 3) := by decide +kernel
theorem d_Mp_text_8 : decode b_Mp_text 8 = .ok (.iload_n 2, 1) := by decide +kernel
theorem d_Mp_text_9 : decode b_Mp_text 9 = .ok (.invokevirtual 102, 3) := by decide +kernel
theorem d_Mp_text_12 : decode b_Mp_text 12 = .ok (.goto 11, 3) := by decide +kernel
theorem d_Mp_text_15 : decode b_Mp_text 15 = .ok (.aload_n 0, 1) := by decide +kernel
theorem d_Mp_text_16 : decode b_Mp_text 16 = .ok (.getfield 80, 3) := by decide +kernel
theorem d_Mp_text_19 : decode b_Mp_text 19 = .ok (.iload_n 2, 1) := by decide +kernel
theorem d_Mp_text_20 : decode b_Mp_text 20 = .ok (.invokevirtual 102, 3) := by decide +kernel
theorem d_Mp_text_23 : decode b_Mp_text 23 = .ok (.ireturn, 1) := by decide +kernel
theorem d_Mp_body_0 : decode b_Mp_body 0 = .ok (.aload_n 0, 1) := by decide +kernel
theorem d_Mp_body_1 : decode b_Mp_body 1 = .ok (.iload_n 1, 1) := by decide +kernel
theorem d_Mp_body_2 : decode b_Mp_body 2 = .ok (.invokevirtual 132, 3) := by decide +kernel
theorem d_Mp_body_5 : decode b_Mp_body 5 = .ok (.astore_n 3, 1) := by decide +kernel
theorem d_Mp_body_6 : decode b_Mp_body 6 = .ok (.aload_n 3, 1) := by decide +kernel
theorem d_Mp_body_7 : decode b_Mp_body 7 = .ok (.ifnonnull 5, 3) := by decide +kernel
theorem d_Mp_body_10 : decode b_Mp_body 10 = .ok (.iconst (-1), 1) := by decide +kernel
theorem d_Mp_body_11 : decode b_Mp_body 11 = .ok (.ireturn, 1) := by decide +kernel
theorem d_Mp_body_12 : decode b_Mp_body 12 = .ok (.aload_n 0, 1) := by decide +kernel
theorem d_Mp_body_13 : decode b_Mp_body 13 = .ok (.getfield 24, 3) := by decide +kernel
theorem d_Mp_body_16 : decode b_Mp_body 16 = .ok (.aload_n 3, 1) := by decide +kernel
theorem d_Mp_body_17 : decode b_Mp_body 17 = .ok (.getfield 155, 3) := by decide +kernel
theorem d_Mp_body_20 : decode b_Mp_body 20 = .ok (.aload_n 3, 1) := by decide +kernel
theorem d_Mp_body_21 : decode b_Mp_body 21 = .ok (.getfield 158, 3) := by decide +kernel
theorem d_Mp_body_24 : decode b_Mp_body 24 = .ok (.aload_n 0, 1) := by decide +kernel
theorem d_Mp_body_25 : decode b_Mp_body 25 = .ok (.getfield 31, 3) := by decide +kernel
theorem d_Mp_body_28 : decode b_Mp_body 28 = .ok (.getfield 178, 3) := by decide +kernel
theorem d_Mp_body_31 : decode b_Mp_body 31 = .ok (.invokevirtual 191, 3) := by decide +kernel
theorem d_Mp_body_34 : decode b_Mp_body 34 = .ok (.iload_n 2, 1) := by decide +kernel
theorem d_Mp_body_35 : decode b_Mp_body 35 = .ok (.ifCond .lt 17, 3) := by decide +kernel
theorem d_Mp_body_38 : decode b_Mp_body 38 = .ok (.iload_n 2, 1) := by decide +kernel
theorem d_Mp_body_39 : decode b_Mp_body 39 = .ok (.aload_n 0, 1) := by decide +kernel
theorem d_Mp_body_40 : decode b_Mp_body 40 = .ok (.getfield 31, 3) := by decide +kernel
theorem d_Mp_body_43 : decode b_Mp_body 43 = .ok (.getfield 178, 3) := by decide +kernel
theorem d_Mp_body_46 : decode b_Mp_body 46 = .ok (.getfield 99, 3) := by decide +kernel
theorem d_Mp_body_49 : decode b_Mp_body 49 = .ok (.if_icmp .le 5, 3) := by decide +kernel
theorem d_Mp_body_52 : decode b_Mp_body 52 = .ok (.iconst (-1), 1) := by decide +kernel
theorem d_Mp_body_53 : decode b_Mp_body 53 = .ok (.ireturn, 1) := by decide +kernel
theorem d_Mp_body_54 : decode b_Mp_body 54 = .ok (.aload_n 0, 1) := by decide +kernel
theorem d_Mp_body_55 : decode b_Mp_body 55 = .ok (.getfield 18, 3) := by decide +kernel
theorem d_Mp_body_58 : decode b_Mp_body 58 = .ok (.invokevirtual 93, 3) := by decide +kernel
theorem d_Mp_body_61 : decode b_Mp_body 61 = .ok (.aload_n 0, 1) := by decide +kernel
theorem d_Mp_body_62 : decode b_Mp_body 62 = .ok (.getfield 18, 3) := by decide +kernel
theorem d_Mp_body_65 : decode b_Mp_body 65 = .ok (.aload_n 0, 1) := by decide +kernel
theorem d_Mp_body_66 : decode b_Mp_body 66 = .ok (.getfield 31, 3) := by decide +kernel
theorem d_Mp_body_69 : decode b_Mp_body 69 = .ok (.getfield 178, 3) := by decide +kernel
theorem d_Mp_body_72 : decode b_Mp_body 72 = .ok (.iload_n 2, 1) := by decide +kernel
theorem d_Mp_body_73 : decode b_Mp_body 73 = .ok (.aload_n 0, 1) := by decide +kernel
theorem d_Mp_body_74 : decode b_Mp_body 74 = .ok (.getfield 31, 3) := by decide +kernel
theorem d_Mp_body_77 : decode b_Mp_body 77 = .ok (.getfield 178, 3) := by decide +kernel
theorem d_Mp_body_80 : decode b_Mp_body 80 = .ok (.getfield 99, 3) := by decide +kernel
theorem d_Mp_body_83 : decode b_Mp_body 83 = .ok (.invokevirtual 195, 3) := by decide +kernel
theorem d_Mp_body_86 : decode b_Mp_body 86 = .ok (.aload_n 0, 1) := by decide +kernel
theorem d_Mp_body_87 : decode b_Mp_body 87 = .ok (.getfield 18, 3) := by decide +kernel
theorem d_Mp_body_90 : decode b_Mp_body 90 = .ok (.getfield 99, 3) := by decide +kernel
theorem d_Mp_body_93 : decode b_Mp_body 93 = .ok (.ireturn, 1) := by decide +kernel
theorem d_Mp_count_0 : decode b_Mp_count 0 = .ok (.iload_n 1, 1) := by decide +kernel
theorem d_Mp_count_1 : decode b_Mp_count 1 = .ok (.tableswitch 69 0 4 #[35, 40, 48, 56, 61], 35) := by decide +kernel
theorem d_Mp_count_36 : decode b_Mp_count 36 = .ok (.aload_n 0, 1) := by decide +kernel
theorem d_Mp_count_37 : decode b_Mp_count 37 = .ok (.getfield 86, 3) := by decide +kernel
theorem d_Mp_count_40 : decode b_Mp_count 40 = .ok (.ireturn, 1) := by decide +kernel
theorem d_Mp_count_41 : decode b_Mp_count 41 = .ok (.aload_n 0, 1) := by decide +kernel
theorem d_Mp_count_42 : decode b_Mp_count 42 = .ok (.getfield 80, 3) := by decide +kernel
theorem d_Mp_count_45 : decode b_Mp_count 45 = .ok (.getfield 99, 3) := by decide +kernel
theorem d_Mp_count_48 : decode b_Mp_count 48 = .ok (.ireturn, 1) := by decide +kernel
theorem d_Mp_count_49 : decode b_Mp_count 49 = .ok (.aload_n 0, 1) := by decide +kernel
theorem d_Mp_count_50 : decode b_Mp_count 50 = .ok (.getfield 83, 3) := by decide +kernel
theorem d_Mp_count_53 : decode b_Mp_count 53 = .ok (.getfield 99, 3) := by decide +kernel
theorem d_Mp_count_56 : decode b_Mp_count 56 = .ok (.ireturn, 1) := by decide +kernel
theorem d_Mp_count_57 : decode b_Mp_count 57 = .ok (.aload_n 0, 1) := by decide +kernel
theorem d_Mp_count_58 : decode b_Mp_count 58 = .ok (.getfield 90, 3) := by decide +kernel
theorem d_Mp_count_61 : decode b_Mp_count 61 = .ok (.ireturn, 1) := by decide +kernel
theorem d_Mp_count_62 : decode b_Mp_count 62 = .ok (.aload_n 0, 1) := by decide +kernel
theorem d_Mp_count_63 : decode b_Mp_count 63 = .ok (.getfield 24, 3) := by decide +kernel
theorem d_Mp_count_66 : decode b_Mp_count 66 = .ok (.getfield 119, 3) := by decide +kernel
theorem d_Mp_count_69 : decode b_Mp_count 69 = .ok (.ireturn, 1) := by decide +kernel
theorem d_Mp_count_70 : decode b_Mp_count 70 = .ok (.iconst (-1), 1) := by decide +kernel
theorem d_Mp_count_71 : decode b_Mp_count 71 = .ok (.ireturn, 1) := by decide +kernel
theorem d_Mp_addWord_0 : decode b_Mp_addWord 0 = .ok (.aload_n 0, 1) := by decide +kernel
theorem d_Mp_addWord_1 : decode b_Mp_addWord 1 = .ok (.getfield 14, 3) := by decide +kernel
theorem d_Mp_addWord_4 : decode b_Mp_addWord 4 = .ok (.iload_n 1, 1) := by decide +kernel
theorem d_Mp_addWord_5 : decode b_Mp_addWord 5 = .ok (.bipush 24, 2) := by decide +kernel
theorem d_Mp_addWord_7 : decode b_Mp_addWord 7 = .ok (.iushr, 1) := by decide +kernel
theorem d_Mp_addWord_8 : decode b_Mp_addWord 8 = .ok (.sipush 255, 3) := by decide +kernel
theorem d_Mp_addWord_11 : decode b_Mp_addWord 11 = .ok (.iand, 1) := by decide +kernel
theorem d_Mp_addWord_12 : decode b_Mp_addWord 12 = .ok (.invokevirtual 112, 3) := by decide +kernel
theorem d_Mp_addWord_15 : decode b_Mp_addWord 15 = .ok (.aload_n 0, 1) := by decide +kernel
theorem d_Mp_addWord_16 : decode b_Mp_addWord 16 = .ok (.getfield 14, 3) := by decide +kernel
theorem d_Mp_addWord_19 : decode b_Mp_addWord 19 = .ok (.iload_n 1, 1) := by decide +kernel
theorem d_Mp_addWord_20 : decode b_Mp_addWord 20 = .ok (.bipush 16, 2) := by decide +kernel
theorem d_Mp_addWord_22 : decode b_Mp_addWord 22 = .ok (.iushr, 1) := by decide +kernel
theorem d_Mp_addWord_23 : decode b_Mp_addWord 23 = .ok (.sipush 255, 3) := by decide +kernel
theorem d_Mp_addWord_26 : decode b_Mp_addWord 26 = .ok (.iand, 1) := by decide +kernel
theorem d_Mp_addWord_27 : decode b_Mp_addWord 27 = .ok (.invokevirtual 112, 3) := by decide +kernel
theorem d_Mp_addWord_30 : decode b_Mp_addWord 30 = .ok (.aload_n 0, 1) := by decide +kernel
theorem d_Mp_addWord_31 : decode b_Mp_addWord 31 = .ok (.getfield 14, 3) := by decide +kernel
theorem d_Mp_addWord_34 : decode b_Mp_addWord 34 = .ok (.iload_n 1, 1) := by decide +kernel
theorem d_Mp_addWord_35 : decode b_Mp_addWord 35 = .ok (.bipush 8, 2) := by decide +kernel
theorem d_Mp_addWord_37 : decode b_Mp_addWord 37 = .ok (.iushr, 1) := by decide +kernel
theorem d_Mp_addWord_38 : decode b_Mp_addWord 38 = .ok (.sipush 255, 3) := by decide +kernel
theorem d_Mp_addWord_41 : decode b_Mp_addWord 41 = .ok (.iand, 1) := by decide +kernel
theorem d_Mp_addWord_42 : decode b_Mp_addWord 42 = .ok (.invokevirtual 112, 3) := by decide +kernel
theorem d_Mp_addWord_45 : decode b_Mp_addWord 45 = .ok (.aload_n 0, 1) := by decide +kernel
theorem d_Mp_addWord_46 : decode b_Mp_addWord 46 = .ok (.getfield 14, 3) := by decide +kernel
theorem d_Mp_addWord_49 : decode b_Mp_addWord 49 = .ok (.iload_n 1, 1) := by decide +kernel
theorem d_Mp_addWord_50 : decode b_Mp_addWord 50 = .ok (.sipush 255, 3) := by decide +kernel
theorem d_Mp_addWord_53 : decode b_Mp_addWord 53 = .ok (.iand, 1) := by decide +kernel
theorem d_Mp_addWord_54 : decode b_Mp_addWord 54 = .ok (.invokevirtual 112, 3) := by decide +kernel
theorem d_Mp_addWord_57 : decode b_Mp_addWord 57 = .ok (.return_, 1) := by decide +kernel
theorem d_Mp_find_0 : decode b_Mp_find 0 = .ok (.iload_n 1, 1) := by decide +kernel
theorem d_Mp_find_1 : decode b_Mp_find 1 = .ok (.ifCond .lt 29, 3) := by decide +kernel
theorem d_Mp_find_4 : decode b_Mp_find 4 = .ok (.iload_n 1, 1) := by decide +kernel
theorem d_Mp_find_5 : decode b_Mp_find 5 = .ok (.aload_n 0, 1) := by decide +kernel
theorem d_Mp_find_6 : decode b_Mp_find 6 = .ok (.getfield 86, 3) := by decide +kernel
theorem d_Mp_find_9 : decode b_Mp_find 9 = .ok (.if_icmp .ge 21, 3) := by decide +kernel
theorem d_Mp_find_12 : decode b_Mp_find 12 = .ok (.iload_n 1, 1) := by decide +kernel
theorem d_Mp_find_13 : decode b_Mp_find 13 = .ok (.aload_n 0, 1) := by decide +kernel
theorem d_Mp_find_14 : decode b_Mp_find 14 = .ok (.getfield 71, 3) := by decide +kernel
theorem d_Mp_find_17 : decode b_Mp_find 17 = .ok (.arraylength, 1) := by decide +kernel
theorem d_Mp_find_18 : decode b_Mp_find 18 = .ok (.if_icmp .ge 12, 3) := by decide +kernel
theorem d_Mp_find_21 : decode b_Mp_find 21 = .ok (.aload_n 0, 1) := by decide +kernel
theorem d_Mp_find_22 : decode b_Mp_find 22 = .ok (.getfield 71, 3) := by decide +kernel
theorem d_Mp_find_25 : decode b_Mp_find 25 = .ok (.iload_n 1, 1) := by decide +kernel
theorem d_Mp_find_26 : decode b_Mp_find 26 = .ok (.aaload, 1) := by decide +kernel
theorem d_Mp_find_27 : decode b_Mp_find 27 = .ok (.goto 4, 3) := by decide +kernel
theorem d_Mp_find_30 : decode b_Mp_find 30 = .ok (.aconst_null, 1) := by decide +kernel
theorem d_Mp_find_31 : decode b_Mp_find 31 = .ok (.areturn, 1) := by decide +kernel
theorem d_Mp_answerOnTape_0 : decode b_Mp_answerOnTape 0 = .ok (.aload_n 0, 1) := by decide +kernel
theorem d_Mp_answerOnTape_1 : decode b_Mp_answerOnTape 1 = .ok (.getfield 18, 3) := by decide +kernel
theorem d_Mp_answerOnTape_4 : decode b_Mp_answerOnTape 4 = .ok (.invokevirtual 93, 3) := by decide +kernel
theorem d_Mp_answerOnTape_7 : decode b_Mp_answerOnTape 7 = .ok (.iload_n 1, 1) := by decide +kernel
theorem d_Mp_answerOnTape_8 : decode b_Mp_answerOnTape 8 = .ok (.ifCond .ne 5, 3) := by decide +kernel
theorem d_Mp_answerOnTape_11 : decode b_Mp_answerOnTape 11 = .ok (.iconst (-1), 1) := by decide +kernel
theorem d_Mp_answerOnTape_12 : decode b_Mp_answerOnTape 12 = .ok (.ireturn, 1) := by decide +kernel
theorem d_Mp_answerOnTape_13 : decode b_Mp_answerOnTape 13 = .ok (.aload_n 0, 1) := by decide +kernel
theorem d_Mp_answerOnTape_14 : decode b_Mp_answerOnTape 14 = .ok (.getfield 18, 3) := by decide +kernel
theorem d_Mp_answerOnTape_17 : decode b_Mp_answerOnTape 17 = .ok (.aload_n 0, 1) := by decide +kernel
theorem d_Mp_answerOnTape_18 : decode b_Mp_answerOnTape 18 = .ok (.getfield 31, 3) := by decide +kernel
theorem d_Mp_answerOnTape_21 : decode b_Mp_answerOnTape 21 = .ok (.getfield 178, 3) := by decide +kernel
theorem d_Mp_answerOnTape_24 : decode b_Mp_answerOnTape 24 = .ok (.iconst 0, 1) := by decide +kernel
theorem d_Mp_answerOnTape_25 : decode b_Mp_answerOnTape 25 = .ok (.aload_n 0, 1) := by decide +kernel
theorem d_Mp_answerOnTape_26 : decode b_Mp_answerOnTape 26 = .ok (.getfield 31, 3) := by decide +kernel
theorem d_Mp_answerOnTape_29 : decode b_Mp_answerOnTape 29 = .ok (.getfield 178, 3) := by decide +kernel
theorem d_Mp_answerOnTape_32 : decode b_Mp_answerOnTape 32 = .ok (.getfield 99, 3) := by decide +kernel
theorem d_Mp_answerOnTape_35 : decode b_Mp_answerOnTape 35 = .ok (.invokevirtual 195, 3) := by decide +kernel
theorem d_Mp_answerOnTape_38 : decode b_Mp_answerOnTape 38 = .ok (.aload_n 0, 1) := by decide +kernel
theorem d_Mp_answerOnTape_39 : decode b_Mp_answerOnTape 39 = .ok (.getfield 18, 3) := by decide +kernel
theorem d_Mp_answerOnTape_42 : decode b_Mp_answerOnTape 42 = .ok (.getfield 99, 3) := by decide +kernel
theorem d_Mp_answerOnTape_45 : decode b_Mp_answerOnTape 45 = .ok (.ireturn, 1) := by decide +kernel
theorem d_Mp_countFields_0 : decode b_Mp_countFields 0 = .ok (.aload_n 1, 1) := by decide +kernel
theorem d_Mp_countFields_1 : decode b_Mp_countFields 1 = .ok (.getfield 199, 3) := by decide +kernel
theorem d_Mp_countFields_4 : decode b_Mp_countFields 4 = .ok (.iconst (-1), 1) := by decide +kernel
theorem d_Mp_countFields_5 : decode b_Mp_countFields 5 = .ok (.if_icmp .eq 8, 3) := by decide +kernel
theorem d_Mp_countFields_8 : decode b_Mp_countFields 8 = .ok (.aload_n 1, 1) := by decide +kernel
theorem d_Mp_countFields_9 : decode b_Mp_countFields 9 = .ok (.getfield 199, 3) := by decide +kernel
theorem d_Mp_countFields_12 : decode b_Mp_countFields 12 = .ok (.ireturn, 1) := by decide +kernel
theorem d_Mp_countFields_13 : decode b_Mp_countFields 13 = .ok (.iconst 0, 1) := by decide +kernel
theorem d_Mp_countFields_14 : decode b_Mp_countFields 14 = .ok (.istore_n 2, 1) := by decide +kernel
theorem d_Mp_countFields_15 : decode b_Mp_countFields 15 = .ok (.aload_n 1, 1) := by decide +kernel
theorem d_Mp_countFields_16 : decode b_Mp_countFields 16 = .ok (.getfield 149, 3) := by decide +kernel
theorem d_Mp_countFields_19 : decode b_Mp_countFields 19 = .ok (.istore_n 3, 1) := by decide +kernel
theorem d_Mp_countFields_20 : decode b_Mp_countFields 20 = .ok (.iload_n 3, 1) := by decide +kernel
theorem d_Mp_countFields_21 : decode b_Mp_countFields 21 = .ok (.aload_n 1, 1) := by decide +kernel
theorem d_Mp_countFields_22 : decode b_Mp_countFields 22 = .ok (.getfield 164, 3) := by decide +kernel
theorem d_Mp_countFields_25 : decode b_Mp_countFields 25 = .ok (.if_icmp .ge 96, 3) := by decide +kernel
theorem d_Mp_countFields_28 : decode b_Mp_countFields 28 = .ok (.aload_n 0, 1) := by decide +kernel
theorem d_Mp_countFields_29 : decode b_Mp_countFields 29 = .ok (.getfield 24, 3) := by decide +kernel
theorem d_Mp_countFields_32 : decode b_Mp_countFields 32 = .ok (.iload_n 3, 1) := by decide +kernel
theorem d_Mp_countFields_33 : decode b_Mp_countFields 33 = .ok (.invokevirtual 202, 3) := by decide +kernel
theorem d_Mp_countFields_36 : decode b_Mp_countFields 36 = .ok (.istore 4, 2) := by decide +kernel
theorem d_Mp_countFields_38 : decode b_Mp_countFields 38 = .ok (.iload 4, 2) := by decide +kernel
theorem d_Mp_countFields_40 : decode b_Mp_countFields 40 = .ok (.iconst (-1), 1) := by decide +kernel
theorem d_Mp_countFields_41 : decode b_Mp_countFields 41 = .ok (.if_icmp .eq 74, 3) := by decide +kernel
theorem d_Mp_countFields_44 : decode b_Mp_countFields 44 = .ok (.aload_n 0, 1) := by decide +kernel
theorem d_Mp_countFields_45 : decode b_Mp_countFields 45 = .ok (.getfield 31, 3) := by decide +kernel
theorem d_Mp_countFields_48 : decode b_Mp_countFields 48 = .ok (.getfield 178, 3) := by decide +kernel
theorem d_Mp_countFields_51 : decode b_Mp_countFields 51 = .ok (.invokevirtual 93, 3) := by decide +kernel
theorem d_Mp_countFields_54 : decode b_Mp_countFields 54 = .ok (.aload_n 0, 1) := by decide +kernel
theorem d_Mp_countFields_55 : decode b_Mp_countFields 55 = .ok (.getfield 31, 3) := by decide +kernel
theorem d_Mp_countFields_58 : decode b_Mp_countFields 58 = .ok (.getfield 178, 3) := by decide +kernel
theorem d_Mp_countFields_61 : decode b_Mp_countFields 61 = .ok (.aload_n 0, 1) := by decide +kernel
theorem d_Mp_countFields_62 : decode b_Mp_countFields 62 = .ok (.getfield 24, 3) := by decide +kernel
theorem d_Mp_countFields_65 : decode b_Mp_countFields 65 = .ok (.getfield 161, 3) := by decide +kernel
theorem d_Mp_countFields_68 : decode b_Mp_countFields 68 = .ok (.aload_n 0, 1) := by decide +kernel
theorem d_Mp_countFields_69 : decode b_Mp_countFields 69 = .ok (.getfield 24, 3) := by decide +kernel
theorem d_Mp_countFields_72 : decode b_Mp_countFields 72 = .ok (.iload_n 3, 1) := by decide +kernel
theorem d_Mp_countFields_73 : decode b_Mp_countFields 73 = .ok (.invokevirtual 152, 3) := by decide +kernel
theorem d_Mp_countFields_76 : decode b_Mp_countFields 76 = .ok (.iload 4, 2) := by decide +kernel
theorem d_Mp_countFields_78 : decode b_Mp_countFields 78 = .ok (.invokevirtual 195, 3) := by decide +kernel
theorem d_Mp_countFields_81 : decode b_Mp_countFields 81 = .ok (.iload_n 2, 1) := by decide +kernel
theorem d_Mp_countFields_82 : decode b_Mp_countFields 82 = .ok (.aload_n 0, 1) := by decide +kernel
theorem d_Mp_countFields_83 : decode b_Mp_countFields 83 = .ok (.getfield 24, 3) := by decide +kernel
theorem d_Mp_countFields_86 : decode b_Mp_countFields 86 = .ok (.aload_n 1, 1) := by decide +kernel
theorem d_Mp_countFields_87 : decode b_Mp_countFields 87 = .ok (.getfield 149, 3) := by decide +kernel
theorem d_Mp_countFields_90 : decode b_Mp_countFields 90 = .ok (.aload_n 1, 1) := by decide +kernel
theorem d_Mp_countFields_91 : decode b_Mp_countFields 91 = .ok (.getfield 164, 3) := by decide +kernel
theorem d_Mp_countFields_94 : decode b_Mp_countFields 94 = .ok (.aload_n 0, 1) := by decide +kernel
theorem d_Mp_countFields_95 : decode b_Mp_countFields 95 = .ok (.getfield 31, 3) := by decide +kernel
theorem d_Mp_countFields_98 : decode b_Mp_countFields 98 = .ok (.getfield 178, 3) := by decide +kernel
theorem d_Mp_countFields_101 : decode b_Mp_countFields 101 = .ok (.invokevirtual 205, 3) := by decide +kernel
theorem d_Mp_countFields_104 : decode b_Mp_countFields 104 = .ok (.iload_n 3, 1) := by decide +kernel
theorem d_Mp_countFields_105 : decode b_Mp_countFields 105 = .ok (.if_icmp .ne 7, 3) := by decide +kernel
theorem d_Mp_countFields_108 : decode b_Mp_countFields 108 = .ok (.iconst 1, 1) := by decide +kernel
theorem d_Mp_countFields_109 : decode b_Mp_countFields 109 = .ok (.goto 4, 3) := by decide +kernel
theorem d_Mp_countFields_112 : decode b_Mp_countFields 112 = .ok (.iconst 0, 1) := by decide +kernel
theorem d_Mp_countFields_113 : decode b_Mp_countFields 113 = .ok (.iadd, 1) := by decide +kernel
theorem d_Mp_countFields_114 : decode b_Mp_countFields 114 = .ok (.istore_n 2, 1) := by decide +kernel
theorem d_Mp_countFields_115 : decode b_Mp_countFields 115 = .ok (.iinc 3 1, 3) := by decide +kernel
theorem d_Mp_countFields_118 : decode b_Mp_countFields 118 = .ok (.goto (-98), 3) := by decide +kernel
theorem d_Mp_countFields_121 : decode b_Mp_countFields 121 = .ok (.aload_n 1, 1) := by decide +kernel
theorem d_Mp_countFields_122 : decode b_Mp_countFields 122 = .ok (.iload_n 2, 1) := by decide +kernel
theorem d_Mp_countFields_123 : decode b_Mp_countFields 123 = .ok (.putfield 199, 3) := by decide +kernel
theorem d_Mp_countFields_126 : decode b_Mp_countFields 126 = .ok (.iload_n 2, 1) := by decide +kernel
theorem d_Mp_countFields_127 : decode b_Mp_countFields 127 = .ok (.ireturn, 1) := by decide +kernel
theorem d_Mp_openEntity_0 : decode b_Mp_openEntity 0 = .ok (.aload_n 0, 1) := by decide +kernel
theorem d_Mp_openEntity_1 : decode b_Mp_openEntity 1 = .ok (.getfield 86, 3) := by decide +kernel
theorem d_Mp_openEntity_4 : decode b_Mp_openEntity 4 = .ok (.aload_n 0, 1) := by decide +kernel
theorem d_Mp_openEntity_5 : decode b_Mp_openEntity 5 = .ok (.getfield 71, 3) := by decide +kernel
theorem d_Mp_openEntity_8 : decode b_Mp_openEntity 8 = .ok (.arraylength, 1) := by decide +kernel
theorem d_Mp_openEntity_9 : decode b_Mp_openEntity 9 = .ok (.if_icmp .ge 10, 3) := by decide +kernel
theorem d_Mp_openEntity_12 : decode b_Mp_openEntity 12 = .ok (.iload 4, 2) := by decide +kernel
theorem d_Mp_openEntity_14 : decode b_Mp_openEntity 14 = .ok (.bipush 8, 2) := by decide +kernel
theorem d_Mp_openEntity_16 : decode b_Mp_openEntity 16 = .ok (.if_icmp .le 14, 3) := by decide +kernel
theorem d_Mp_openEntity_19 : decode b_Mp_openEntity 19 = .ok (.aload_n 0, 1) := by decide +kernel
theorem d_Mp_openEntity_20 : decode b_Mp_openEntity 20 = .ok (.dup, 1) := by decide +kernel
theorem d_Mp_openEntity_21 : decode b_Mp_openEntity 21 = .ok (.getfield 90, 3) := by decide +kernel
theorem d_Mp_openEntity_24 : decode b_Mp_openEntity 24 = .ok (.iconst 1, 1) := by decide +kernel
theorem d_Mp_openEntity_25 : decode b_Mp_openEntity 25 = .ok (.iadd, 1) := by decide +kernel
theorem d_Mp_openEntity_26 : decode b_Mp_openEntity 26 = .ok (.putfield 90, 3) := by decide +kernel
theorem d_Mp_openEntity_29 : decode b_Mp_openEntity 29 = .ok (.return_, 1) := by decide +kernel
theorem d_Mp_openEntity_30 : decode b_Mp_openEntity 30 = .ok (.aload_n 0, 1) := by decide +kernel
theorem d_Mp_openEntity_31 : decode b_Mp_openEntity 31 = .ok (.getfield 86, 3) := by decide +kernel
theorem d_Mp_openEntity_34 : decode b_Mp_openEntity 34 = .ok (.istore 5, 2) := by decide +kernel
theorem d_Mp_openEntity_36 : decode b_Mp_openEntity 36 = .ok (.aload_n 0, 1) := by decide +kernel
theorem d_Mp_openEntity_37 : decode b_Mp_openEntity 37 = .ok (.dup, 1) := by decide +kernel
theorem d_Mp_openEntity_38 : decode b_Mp_openEntity 38 = .ok (.getfield 86, 3) := by decide +kernel
theorem d_Mp_openEntity_41 : decode b_Mp_openEntity 41 = .ok (.iconst 1, 1) := by decide +kernel
theorem d_Mp_openEntity_42 : decode b_Mp_openEntity 42 = .ok (.iadd, 1) := by decide +kernel
theorem d_Mp_openEntity_43 : decode b_Mp_openEntity 43 = .ok (.putfield 86, 3) := by decide +kernel
theorem d_Mp_openEntity_46 : decode b_Mp_openEntity 46 = .ok (.aload_n 0, 1) := by decide +kernel
theorem d_Mp_openEntity_47 : decode b_Mp_openEntity 47 = .ok (.getfield 71, 3) := by decide +kernel
theorem d_Mp_openEntity_50 : decode b_Mp_openEntity 50 = .ok (.iload 5, 2) := by decide +kernel
theorem d_Mp_openEntity_52 : decode b_Mp_openEntity 52 = .ok (.aaload, 1) := by decide +kernel
theorem d_Mp_openEntity_53 : decode b_Mp_openEntity 53 = .ok (.astore 6, 2) := by decide +kernel
theorem d_Mp_openEntity_55 : decode b_Mp_openEntity 55 = .ok (.aload 6, 2) := by decide +kernel
theorem d_Mp_openEntity_57 : decode b_Mp_openEntity 57 = .ok (.iload_n 3, 1) := by decide +kernel
theorem d_Mp_openEntity_58 : decode b_Mp_openEntity 58 = .ok (.putfield 139, 3) := by decide +kernel
theorem d_Mp_openEntity_61 : decode b_Mp_openEntity 61 = .ok (.aload 6, 2) := by decide +kernel
theorem d_Mp_openEntity_63 : decode b_Mp_openEntity 63 = .ok (.iload 4, 2) := by decide +kernel
theorem d_Mp_openEntity_65 : decode b_Mp_openEntity 65 = .ok (.putfield 142, 3) := by decide +kernel
theorem d_Mp_openEntity_68 : decode b_Mp_openEntity 68 = .ok (.aload 6, 2) := by decide +kernel
theorem d_Mp_openEntity_70 : decode b_Mp_openEntity 70 = .ok (.iload_n 1, 1) := by decide +kernel
theorem d_Mp_openEntity_71 : decode b_Mp_openEntity 71 = .ok (.putfield 149, 3) := by decide +kernel
theorem d_Mp_openEntity_74 : decode b_Mp_openEntity 74 = .ok (.aload 6, 2) := by decide +kernel
theorem d_Mp_openEntity_76 : decode b_Mp_openEntity 76 = .ok (.iload_n 2, 1) := by decide +kernel
theorem d_Mp_openEntity_77 : decode b_Mp_openEntity 77 = .ok (.putfield 158, 3) := by decide +kernel
theorem d_Mp_openEntity_80 : decode b_Mp_openEntity 80 = .ok (.aload 6, 2) := by decide +kernel
theorem d_Mp_openEntity_82 : decode b_Mp_openEntity 82 = .ok (.iconst 0, 1) := by decide +kernel
theorem d_Mp_openEntity_83 : decode b_Mp_openEntity 83 = .ok (.putfield 167, 3) := by decide +kernel
theorem d_Mp_openEntity_86 : decode b_Mp_openEntity 86 = .ok (.aload 6, 2) := by decide +kernel
theorem d_Mp_openEntity_88 : decode b_Mp_openEntity 88 = .ok (.iconst (-1), 1) := by decide +kernel
theorem d_Mp_openEntity_89 : decode b_Mp_openEntity 89 = .ok (.putfield 199, 3) := by decide +kernel
theorem d_Mp_openEntity_92 : decode b_Mp_openEntity 92 = .ok (.aload 6, 2) := by decide +kernel
theorem d_Mp_openEntity_94 : decode b_Mp_openEntity 94 = .ok (.aload_n 0, 1) := by decide +kernel
theorem d_Mp_openEntity_95 : decode b_Mp_openEntity 95 = .ok (.getfield 24, 3) := by decide +kernel
theorem d_Mp_openEntity_98 : decode b_Mp_openEntity 98 = .ok (.iload_n 1, 1) := by decide +kernel
theorem d_Mp_openEntity_99 : decode b_Mp_openEntity 99 = .ok (.iload_n 2, 1) := by decide +kernel
theorem d_Mp_openEntity_100 : decode b_Mp_openEntity 100 = .ok (.invokevirtual 209, 3) := by decide +kernel
theorem d_Mp_openEntity_103 : decode b_Mp_openEntity 103 = .ok (.putfield 164, 3) := by decide +kernel
theorem d_Mp_openEntity_106 : decode b_Mp_openEntity 106 = .ok (.aload 6, 2) := by decide +kernel
theorem d_Mp_openEntity_108 : decode b_Mp_openEntity 108 = .ok (.aload 6, 2) := by decide +kernel
theorem d_Mp_openEntity_110 : decode b_Mp_openEntity 110 = .ok (.getfield 164, 3) := by decide +kernel
theorem d_Mp_openEntity_113 : decode b_Mp_openEntity 113 = .ok (.iload_n 2, 1) := by decide +kernel
theorem d_Mp_openEntity_114 : decode b_Mp_openEntity 114 = .ok (.if_icmp .ge 28, 3) := by decide +kernel
theorem d_Mp_openEntity_117 : decode b_Mp_openEntity 117 = .ok (.aload_n 0, 1) := by decide +kernel
theorem d_Mp_openEntity_118 : decode b_Mp_openEntity 118 = .ok (.getfield 24, 3) := by decide +kernel
theorem d_Mp_openEntity_121 : decode b_Mp_openEntity 121 = .ok (.aload 6, 2) := by decide +kernel
theorem d_Mp_openEntity_123 : decode b_Mp_openEntity 123 = .ok (.getfield 164, 3) := by decide +kernel
theorem d_Mp_openEntity_126 : decode b_Mp_openEntity 126 = .ok (.invokevirtual 212, 3) := by decide +kernel
theorem d_Mp_openEntity_129 : decode b_Mp_openEntity 129 = .ok (.ifCond .eq 13, 3) := by decide +kernel
theorem d_Mp_openEntity_132 : decode b_Mp_openEntity 132 = .ok (.aload 6, 2) := by decide +kernel
theorem d_Mp_openEntity_134 : decode b_Mp_openEntity 134 = .ok (.getfield 164, 3) := by decide +kernel
theorem d_Mp_openEntity_137 : decode b_Mp_openEntity 137 = .ok (.iconst 1, 1) := by decide +kernel
theorem d_Mp_openEntity_138 : decode b_Mp_openEntity 138 = .ok (.iadd, 1) := by decide +kernel
theorem d_Mp_openEntity_139 : decode b_Mp_openEntity 139 = .ok (.goto 8, 3) := by decide +kernel
theorem d_Mp_openEntity_142 : decode b_Mp_openEntity 142 = .ok (.aload 6, 2) := by decide +kernel
theorem d_Mp_openEntity_144 : decode b_Mp_openEntity 144 = .ok (.getfield 164, 3) := by decide +kernel
theorem d_Mp_openEntity_147 : decode b_Mp_openEntity 147 = .ok (.putfield 155, 3) := by decide +kernel
theorem d_Mp_openEntity_150 : decode b_Mp_openEntity 150 = .ok (.aload_n 0, 1) := by decide +kernel
theorem d_Mp_openEntity_151 : decode b_Mp_openEntity 151 = .ok (.iload_n 3, 1) := by decide +kernel
theorem d_Mp_openEntity_152 : decode b_Mp_openEntity 152 = .ok (.invokevirtual 132, 3) := by decide +kernel
theorem d_Mp_openEntity_155 : decode b_Mp_openEntity 155 = .ok (.astore 7, 2) := by decide +kernel
theorem d_Mp_openEntity_157 : decode b_Mp_openEntity 157 = .ok (.aload 7, 2) := by decide +kernel
theorem d_Mp_openEntity_159 : decode b_Mp_openEntity 159 = .ok (.ifnull 14, 3) := by decide +kernel
theorem d_Mp_openEntity_162 : decode b_Mp_openEntity 162 = .ok (.aload 7, 2) := by decide +kernel
theorem d_Mp_openEntity_164 : decode b_Mp_openEntity 164 = .ok (.dup, 1) := by decide +kernel
theorem d_Mp_openEntity_165 : decode b_Mp_openEntity 165 = .ok (.getfield 167, 3) := by decide +kernel
theorem d_Mp_openEntity_168 : decode b_Mp_openEntity 168 = .ok (.iconst 1, 1) := by decide +kernel
theorem d_Mp_openEntity_169 : decode b_Mp_openEntity 169 = .ok (.iadd, 1) := by decide +kernel
theorem d_Mp_openEntity_170 : decode b_Mp_openEntity 170 = .ok (.putfield 167, 3) := by decide +kernel
theorem d_Mp_openEntity_173 : decode b_Mp_openEntity 173 = .ok (.aload_n 0, 1) := by decide +kernel
theorem d_Mp_openEntity_174 : decode b_Mp_openEntity 174 = .ok (.aload 6, 2) := by decide +kernel
theorem d_Mp_openEntity_176 : decode b_Mp_openEntity 176 = .ok (.invokevirtual 216, 3) := by decide +kernel
theorem d_Mp_openEntity_179 : decode b_Mp_openEntity 179 = .ok (.aload 6, 2) := by decide +kernel
theorem d_Mp_openEntity_181 : decode b_Mp_openEntity 181 = .ok (.getfield 136, 3) := by decide +kernel
theorem d_Mp_openEntity_184 : decode b_Mp_openEntity 184 = .ok (.iconst 1, 1) := by decide +kernel
theorem d_Mp_openEntity_185 : decode b_Mp_openEntity 185 = .ok (.if_icmp .ne 16, 3) := by decide +kernel
theorem d_Mp_openEntity_188 : decode b_Mp_openEntity 188 = .ok (.aload_n 0, 1) := by decide +kernel
theorem d_Mp_openEntity_189 : decode b_Mp_openEntity 189 = .ok (.aload 6, 2) := by decide +kernel
theorem d_Mp_openEntity_191 : decode b_Mp_openEntity 191 = .ok (.iload 5, 2) := by decide +kernel
theorem d_Mp_openEntity_193 : decode b_Mp_openEntity 193 = .ok (.iload 4, 2) := by decide +kernel
theorem d_Mp_openEntity_195 : decode b_Mp_openEntity 195 = .ok (.invokevirtual 220, 3) := by decide +kernel
theorem d_Mp_openEntity_198 : decode b_Mp_openEntity 198 = .ok (.goto 28, 3) := by decide +kernel
theorem d_Mp_openEntity_201 : decode b_Mp_openEntity 201 = .ok (.aload 6, 2) := by decide +kernel
theorem d_Mp_openEntity_203 : decode b_Mp_openEntity 203 = .ok (.getfield 136, 3) := by decide +kernel
theorem d_Mp_openEntity_206 : decode b_Mp_openEntity 206 = .ok (.iconst 2, 1) := by decide +kernel
theorem d_Mp_openEntity_207 : decode b_Mp_openEntity 207 = .ok (.if_icmp .ne 19, 3) := by decide +kernel
theorem d_Mp_openEntity_210 : decode b_Mp_openEntity 210 = .ok (.aload_n 0, 1) := by decide +kernel
theorem d_Mp_openEntity_211 : decode b_Mp_openEntity 211 = .ok (.aload 6, 2) := by decide +kernel
theorem d_Mp_openEntity_213 : decode b_Mp_openEntity 213 = .ok (.getfield 155, 3) := by decide +kernel
theorem d_Mp_openEntity_216 : decode b_Mp_openEntity 216 = .ok (.iload_n 2, 1) := by decide +kernel
theorem d_Mp_openEntity_217 : decode b_Mp_openEntity 217 = .ok (.iload 5, 2) := by decide +kernel
theorem d_Mp_openEntity_219 : decode b_Mp_openEntity 219 = .ok (.iload 4, 2) := by decide +kernel
theorem d_Mp_openEntity_221 : decode b_Mp_openEntity 221 = .ok (.iconst 1, 1) := by decide +kernel
theorem d_Mp_openEntity_222 : decode b_Mp_openEntity 222 = .ok (.iadd, 1) := by decide +kernel
theorem d_Mp_openEntity_223 : decode b_Mp_openEntity 223 = .ok (.invokevirtual 122, 3) := by decide +kernel
theorem d_Mp_openEntity_226 : decode b_Mp_openEntity 226 = .ok (.return_, 1) := by decide +kernel
