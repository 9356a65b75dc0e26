theorem d_Ma_fieldLine_0 : decode b_Ma_fieldLine 0 = .ok (.iload_n 1, 1) := by decide +kernel
theorem d_Ma_fieldLine_1 : decode b_Ma_fieldLine 1 = .ok (.istore 4, 2) := by decide +kernel
theorem d_Ma_fieldLine_3 : decode b_Ma_fieldLine 3 = .ok (.iload 4, 2) := by decide +kernel
theorem d_Ma_fieldLine_5 : decode b_Ma_fieldLine 5 = .ok (.iload_n 2, 1) := by decide +kernel
theorem d_Ma_fieldLine_6 : decode b_Ma_fieldLine 6 = .ok (.if_icmp .ge 67, 3) := by decide +kernel
theorem d_Ma_fieldLine_9 : decode b_Ma_fieldLine 9 = .ok (.aload_n 0, 1) := by decide +kernel
theorem d_Ma_fieldLine_10 : decode b_Ma_fieldLine 10 = .ok (.iload 4, 2) := by decide +kernel
theorem d_Ma_fieldLine_12 : decode b_Ma_fieldLine 12 = .ok (.invokevirtual 49, 3) := by decide +kernel
theorem d_Ma_fieldLine_15 : decode b_Ma_fieldLine 15 = .ok (.istore 5, 2) := by decide +kernel
theorem d_Ma_fieldLine_17 : decode b_Ma_fieldLine 17 = .ok (.iload 5, 2) := by decide +kernel
theorem d_Ma_fieldLine_19 : decode b_Ma_fieldLine 19 = .ok (.aload_n 3, 1) := by decide +kernel
theorem d_Ma_fieldLine_20 : decode b_Ma_fieldLine 20 = .ok (.getfield 34, 3) := by decide +kernel
theorem d_Ma_fieldLine_23 : decode b_Ma_fieldLine 23 = .ok (.iadd, 1) := by decide +kernel
theorem d_Ma_fieldLine_24 : decode b_Ma_fieldLine 24 = .ok (.istore 6, 2) := by decide +kernel
theorem d_Ma_fieldLine_26 : decode b_Ma_fieldLine 26 = .ok (.aload_n 0, 1) := by decide +kernel
theorem d_Ma_fieldLine_27 : decode b_Ma_fieldLine 27 = .ok (.getfield 14, 3) := by decide +kernel
theorem d_Ma_fieldLine_30 : decode b_Ma_fieldLine 30 = .ok (.iload 6, 2) := by decide +kernel
theorem d_Ma_fieldLine_32 : decode b_Ma_fieldLine 32 = .ok (.invokevirtual 41, 3) := by decide +kernel
theorem d_Ma_fieldLine_35 : decode b_Ma_fieldLine 35 = .ok (.bipush 58, 2) := by decide +kernel
theorem d_Ma_fieldLine_37 : decode b_Ma_fieldLine 37 = .ok (.if_icmp .ne 30, 3) := by decide +kernel
theorem d_Ma_fieldLine_40 : decode b_Ma_fieldLine 40 = .ok (.aload_n 0, 1) := by decide +kernel
theorem d_Ma_fieldLine_41 : decode b_Ma_fieldLine 41 = .ok (.getfield 14, 3) := by decide +kernel
theorem d_Ma_fieldLine_44 : decode b_Ma_fieldLine 44 = .ok (.iload 5, 2) := by decide +kernel
theorem d_Ma_fieldLine_46 : decode b_Ma_fieldLine 46 = .ok (.aload_n 3, 1) := by decide +kernel
theorem d_Ma_fieldLine_47 : decode b_Ma_fieldLine 47 = .ok (.invokevirtual 68, 3) := by decide +kernel
theorem d_Ma_fieldLine_50 : decode b_Ma_fieldLine 50 = .ok (.ifCond .eq 17, 3) := by decide +kernel
theorem d_Ma_fieldLine_53 : decode b_Ma_fieldLine 53 = .ok (.aload_n 0, 1) := by decide +kernel
theorem d_Ma_fieldLine_54 : decode b_Ma_fieldLine 54 = .ok (.iload 4, 2) := by decide +kernel
theorem d_Ma_fieldLine_56 : decode b_Ma_fieldLine 56 = .ok (.invokevirtual 65, 3) := by decide +kernel
theorem d_Ma_fieldLine_59 : decode b_Ma_fieldLine 59 = .ok (.iload 6, 2) := by decide +kernel
theorem d_Ma_fieldLine_61 : decode b_Ma_fieldLine 61 = .ok (.if_icmp .ne 6, 3) := by decide +kernel
theorem d_Ma_fieldLine_64 : decode b_Ma_fieldLine 64 = .ok (.iload 4, 2) := by decide +kernel
theorem d_Ma_fieldLine_66 : decode b_Ma_fieldLine 66 = .ok (.ireturn, 1) := by decide +kernel
theorem d_Ma_fieldLine_67 : decode b_Ma_fieldLine 67 = .ok (.iinc 4 1, 3) := by decide +kernel
theorem d_Ma_fieldLine_70 : decode b_Ma_fieldLine 70 = .ok (.goto (-67), 3) := by decide +kernel
theorem d_Ma_fieldLine_73 : decode b_Ma_fieldLine 73 = .ok (.iconst (-1), 1) := by decide +kernel
theorem d_Ma_fieldLine_74 : decode b_Ma_fieldLine 74 = .ok (.ireturn, 1) := by decide +kernel
theorem d_Ma_copyValue_0 : decode b_Ma_copyValue 0 = .ok (.aload_n 3, 1) := by decide +kernel
theorem d_Ma_copyValue_1 : decode b_Ma_copyValue 1 = .ok (.invokevirtual 31, 3) := by decide +kernel
theorem d_Ma_copyValue_4 : decode b_Ma_copyValue 4 = .ok (.aload_n 3, 1) := by decide +kernel
theorem d_Ma_copyValue_5 : decode b_Ma_copyValue 5 = .ok (.aload_n 0, 1) := by decide +kernel
theorem d_Ma_copyValue_6 : decode b_Ma_copyValue 6 = .ok (.getfield 14, 3) := by decide +kernel
theorem d_Ma_copyValue_9 : decode b_Ma_copyValue 9 = .ok (.aload_n 0, 1) := by decide +kernel
theorem d_Ma_copyValue_10 : decode b_Ma_copyValue 10 = .ok (.iload_n 1, 1) := by decide +kernel
theorem d_Ma_copyValue_11 : decode b_Ma_copyValue 11 = .ok (.invokevirtual 65, 3) := by decide +kernel
theorem d_Ma_copyValue_14 : decode b_Ma_copyValue 14 = .ok (.iconst 1, 1) := by decide +kernel
theorem d_Ma_copyValue_15 : decode b_Ma_copyValue 15 = .ok (.iadd, 1) := by decide +kernel
theorem d_Ma_copyValue_16 : decode b_Ma_copyValue 16 = .ok (.aload_n 0, 1) := by decide +kernel
theorem d_Ma_copyValue_17 : decode b_Ma_copyValue 17 = .ok (.iload_n 1, 1) := by decide +kernel
theorem d_Ma_copyValue_18 : decode b_Ma_copyValue 18 = .ok (.invokevirtual 52, 3) := by decide +kernel
theorem d_Ma_copyValue_21 : decode b_Ma_copyValue 21 = .ok (.invokevirtual 37, 3) := by decide +kernel
theorem d_Ma_copyValue_24 : decode b_Ma_copyValue 24 = .ok (.iload_n 1, 1) := by decide +kernel
theorem d_Ma_copyValue_25 : decode b_Ma_copyValue 25 = .ok (.iconst 1, 1) := by decide +kernel
theorem d_Ma_copyValue_26 : decode b_Ma_copyValue 26 = .ok (.iadd, 1) := by decide +kernel
theorem d_Ma_copyValue_27 : decode b_Ma_copyValue 27 = .ok (.istore 4, 2) := by decide +kernel
theorem d_Ma_copyValue_29 : decode b_Ma_copyValue 29 = .ok (.iload 4, 2) := by decide +kernel
theorem d_Ma_copyValue_31 : decode b_Ma_copyValue 31 = .ok (.iload_n 2, 1) := by decide +kernel
theorem d_Ma_copyValue_32 : decode b_Ma_copyValue 32 = .ok (.if_icmp .ge 38, 3) := by decide +kernel
theorem d_Ma_copyValue_35 : decode b_Ma_copyValue 35 = .ok (.aload_n 0, 1) := by decide +kernel
theorem d_Ma_copyValue_36 : decode b_Ma_copyValue 36 = .ok (.iload 4, 2) := by decide +kernel
theorem d_Ma_copyValue_38 : decode b_Ma_copyValue 38 = .ok (.invokevirtual 62, 3) := by decide +kernel
theorem d_Ma_copyValue_41 : decode b_Ma_copyValue 41 = .ok (.ifCond .eq 29, 3) := by decide +kernel
theorem d_Ma_copyValue_44 : decode b_Ma_copyValue 44 = .ok (.aload_n 3, 1) := by decide +kernel
theorem d_Ma_copyValue_45 : decode b_Ma_copyValue 45 = .ok (.aload_n 0, 1) := by decide +kernel
theorem d_Ma_copyValue_46 : decode b_Ma_copyValue 46 = .ok (.getfield 14, 3) := by decide +kernel
theorem d_Ma_copyValue_49 : decode b_Ma_copyValue 49 = .ok (.aload_n 0, 1) := by decide +kernel
theorem d_Ma_copyValue_50 : decode b_Ma_copyValue 50 = .ok (.iload 4, 2) := by decide +kernel
theorem d_Ma_copyValue_52 : decode b_Ma_copyValue 52 = .ok (.invokevirtual 49, 3) := by decide +kernel
theorem d_Ma_copyValue_55 : decode b_Ma_copyValue 55 = .ok (.aload_n 0, 1) := by decide +kernel
theorem d_Ma_copyValue_56 : decode b_Ma_copyValue 56 = .ok (.iload 4, 2) := by decide +kernel
theorem d_Ma_copyValue_58 : decode b_Ma_copyValue 58 = .ok (.invokevirtual 52, 3) := by decide +kernel
theorem d_Ma_copyValue_61 : decode b_Ma_copyValue 61 = .ok (.invokevirtual 37, 3) := by decide +kernel
theorem d_Ma_copyValue_64 : decode b_Ma_copyValue 64 = .ok (.iinc 4 1, 3) := by decide +kernel
theorem d_Ma_copyValue_67 : decode b_Ma_copyValue 67 = .ok (.goto (-38), 3) := by decide +kernel
theorem d_Ma_copyValue_70 : decode b_Ma_copyValue 70 = .ok (.return_, 1) := by decide +kernel
theorem d_Ma_copyLines_0 : decode b_Ma_copyLines 0 = .ok (.aload_n 3, 1) := by decide +kernel
theorem d_Ma_copyLines_1 : decode b_Ma_copyLines 1 = .ok (.invokevirtual 31, 3) := by decide +kernel
theorem d_Ma_copyLines_4 : decode b_Ma_copyLines 4 = .ok (.iload_n 1, 1) := by decide +kernel
theorem d_Ma_copyLines_5 : decode b_Ma_copyLines 5 = .ok (.istore 4, 2) := by decide +kernel
theorem d_Ma_copyLines_7 : decode b_Ma_copyLines 7 = .ok (.iload 4, 2) := by decide +kernel
theorem d_Ma_copyLines_9 : decode b_Ma_copyLines 9 = .ok (.iload_n 2, 1) := by decide +kernel
theorem d_Ma_copyLines_10 : decode b_Ma_copyLines 10 = .ok (.if_icmp .ge 41, 3) := by decide +kernel
theorem d_Ma_copyLines_13 : decode b_Ma_copyLines 13 = .ok (.iload 4, 2) := by decide +kernel
theorem d_Ma_copyLines_15 : decode b_Ma_copyLines 15 = .ok (.iload_n 1, 1) := by decide +kernel
theorem d_Ma_copyLines_16 : decode b_Ma_copyLines 16 = .ok (.if_icmp .le 9, 3) := by decide +kernel
theorem d_Ma_copyLines_19 : decode b_Ma_copyLines 19 = .ok (.aload_n 3, 1) := by decide +kernel
theorem d_Ma_copyLines_20 : decode b_Ma_copyLines 20 = .ok (.bipush 10, 2) := by decide +kernel
theorem d_Ma_copyLines_22 : decode b_Ma_copyLines 22 = .ok (.invokevirtual 72, 3) := by decide +kernel
theorem d_Ma_copyLines_25 : decode b_Ma_copyLines 25 = .ok (.aload_n 3, 1) := by decide +kernel
theorem d_Ma_copyLines_26 : decode b_Ma_copyLines 26 = .ok (.aload_n 0, 1) := by decide +kernel
theorem d_Ma_copyLines_27 : decode b_Ma_copyLines 27 = .ok (.getfield 14, 3) := by decide +kernel
theorem d_Ma_copyLines_30 : decode b_Ma_copyLines 30 = .ok (.aload_n 0, 1) := by decide +kernel
theorem d_Ma_copyLines_31 : decode b_Ma_copyLines 31 = .ok (.iload 4, 2) := by decide +kernel
theorem d_Ma_copyLines_33 : decode b_Ma_copyLines 33 = .ok (.invokevirtual 49, 3) := by decide +kernel
theorem d_Ma_copyLines_36 : decode b_Ma_copyLines 36 = .ok (.aload_n 0, 1) := by decide +kernel
theorem d_Ma_copyLines_37 : decode b_Ma_copyLines 37 = .ok (.iload 4, 2) := by decide +kernel
theorem d_Ma_copyLines_39 : decode b_Ma_copyLines 39 = .ok (.invokevirtual 52, 3) := by decide +kernel
theorem d_Ma_copyLines_42 : decode b_Ma_copyLines 42 = .ok (.invokevirtual 37, 3) := by decide +kernel
theorem d_Ma_copyLines_45 : decode b_Ma_copyLines 45 = .ok (.iinc 4 1, 3) := by decide +kernel
theorem d_Ma_copyLines_48 : decode b_Ma_copyLines 48 = .ok (.goto (-41), 3) := by decide +kernel
theorem d_Ma_copyLines_51 : decode b_Ma_copyLines 51 = .ok (.return_, 1) := by decide +kernel
theorem d_Ma_markOf_0 : decode b_Ma_markOf 0 = .ok (.aload_n 0, 1) := by decide +kernel
theorem d_Ma_markOf_1 : decode b_Ma_markOf 1 = .ok (.iload_n 1, 1) := by decide +kernel
theorem d_Ma_markOf_2 : decode b_Ma_markOf 2 = .ok (.invokevirtual 52, 3) := by decide +kernel
theorem d_Ma_markOf_5 : decode b_Ma_markOf 5 = .ok (.istore_n 3, 1) := by decide +kernel
theorem d_Ma_markOf_6 : decode b_Ma_markOf 6 = .ok (.aload_n 0, 1) := by decide +kernel
theorem d_Ma_markOf_7 : decode b_Ma_markOf 7 = .ok (.iload_n 1, 1) := by decide +kernel
theorem d_Ma_markOf_8 : decode b_Ma_markOf 8 = .ok (.invokevirtual 49, 3) := by decide +kernel
theorem d_Ma_markOf_11 : decode b_Ma_markOf 11 = .ok (.istore 4, 2) := by decide +kernel
theorem d_Ma_markOf_13 : decode b_Ma_markOf 13 = .ok (.aload_n 0, 1) := by decide +kernel
theorem d_Ma_markOf_14 : decode b_Ma_markOf 14 = .ok (.iload 4, 2) := by decide +kernel
theorem d_Ma_markOf_16 : decode b_Ma_markOf 16 = .ok (.iload_n 3, 1) := by decide +kernel
theorem d_Ma_markOf_17 : decode b_Ma_markOf 17 = .ok (.invokevirtual 75, 3) := by decide +kernel
theorem d_Ma_markOf_20 : decode b_Ma_markOf 20 = .ok (.ifCond .ne 5, 3) := by decide +kernel
theorem d_Ma_markOf_23 : decode b_Ma_markOf 23 = .ok (.iconst 0, 1) := by decide +kernel
theorem d_Ma_markOf_24 : decode b_Ma_markOf 24 = .ok (.ireturn, 1) := by decide +kernel
theorem d_Ma_markOf_25 : decode b_Ma_markOf 25 = .ok (.iinc 4 2, 3) := by decide +kernel
theorem d_Ma_markOf_28 : decode b_Ma_markOf 28 = .ok (.iload_n 3, 1) := by decide +kernel
theorem d_Ma_markOf_29 : decode b_Ma_markOf 29 = .ok (.iload 4, 2) := by decide +kernel
theorem d_Ma_markOf_31 : decode b_Ma_markOf 31 = .ok (.isub, 1) := by decide +kernel
theorem d_Ma_markOf_32 : decode b_Ma_markOf 32 = .ok (.aload_n 2, 1) := by decide +kernel
theorem d_Ma_markOf_33 : decode b_Ma_markOf 33 = .ok (.getfield 34, 3) := by decide +kernel
theorem d_Ma_markOf_36 : decode b_Ma_markOf 36 = .ok (.if_icmp .ge 5, 3) := by decide +kernel
theorem d_Ma_markOf_39 : decode b_Ma_markOf 39 = .ok (.iconst 0, 1) := by decide +kernel
theorem d_Ma_markOf_40 : decode b_Ma_markOf 40 = .ok (.ireturn, 1) := by decide +kernel
theorem d_Ma_markOf_41 : decode b_Ma_markOf 41 = .ok (.iconst 0, 1) := by decide +kernel
theorem d_Ma_markOf_42 : decode b_Ma_markOf 42 = .ok (.istore 5, 2) := by decide +kernel
theorem d_Ma_markOf_44 : decode b_Ma_markOf 44 = .ok (.iload 5, 2) := by decide +kernel
theorem d_Ma_markOf_46 : decode b_Ma_markOf 46 = .ok (.aload_n 2, 1) := by decide +kernel
theorem d_Ma_markOf_47 : decode b_Ma_markOf 47 = .ok (.getfield 34, 3) := by decide +kernel
theorem d_Ma_markOf_50 : decode b_Ma_markOf 50 = .ok (.if_icmp .ge 32, 3) := by decide +kernel
theorem d_Ma_markOf_53 : decode b_Ma_markOf 53 = .ok (.aload_n 0, 1) := by decide +kernel
theorem d_Ma_markOf_54 : decode b_Ma_markOf 54 = .ok (.getfield 14, 3) := by decide +kernel
theorem d_Ma_markOf_57 : decode b_Ma_markOf 57 = .ok (.iload 4, 2) := by decide +kernel
theorem d_Ma_markOf_59 : decode b_Ma_markOf 59 = .ok (.iload 5, 2) := by decide +kernel
theorem d_Ma_markOf_61 : decode b_Ma_markOf 61 = .ok (.iadd, 1) := by decide +kernel
theorem d_Ma_markOf_62 : decode b_Ma_markOf 62 = .ok (.invokevirtual 41, 3) := by decide +kernel
theorem d_Ma_markOf_65 : decode b_Ma_markOf 65 = .ok (.aload_n 2, 1) := by decide +kernel
theorem d_Ma_markOf_66 : decode b_Ma_markOf 66 = .ok (.iload 5, 2) := by decide +kernel
theorem d_Ma_markOf_68 : decode b_Ma_markOf 68 = .ok (.invokevirtual 41, 3) := by decide +kernel
theorem d_Ma_markOf_71 : decode b_Ma_markOf 71 = .ok (.if_icmp .eq 5, 3) := by decide +kernel
theorem d_Ma_markOf_74 : decode b_Ma_markOf 74 = .ok (.iconst 0, 1) := by decide +kernel
theorem d_Ma_markOf_75 : decode b_Ma_markOf 75 = .ok (.ireturn, 1) := by decide +kernel
theorem d_Ma_markOf_76 : decode b_Ma_markOf 76 = .ok (.iinc 5 1, 3) := by decide +kernel
theorem d_Ma_markOf_79 : decode b_Ma_markOf 79 = .ok (.goto (-35), 3) := by decide +kernel
theorem d_Ma_markOf_82 : decode b_Ma_markOf 82 = .ok (.iload 4, 2) := by decide +kernel
theorem d_Ma_markOf_84 : decode b_Ma_markOf 84 = .ok (.aload_n 2, 1) := by decide +kernel
theorem d_Ma_markOf_85 : decode b_Ma_markOf 85 = .ok (.getfield 34, 3) := by decide +kernel
theorem d_Ma_markOf_88 : decode b_Ma_markOf 88 = .ok (.iadd, 1) := by decide +kernel
theorem d_Ma_markOf_89 : decode b_Ma_markOf 89 = .ok (.istore 4, 2) := by decide +kernel
theorem d_Ma_markOf_91 : decode b_Ma_markOf 91 = .ok (.aload_n 0, 1) := by decide +kernel
theorem d_Ma_markOf_92 : decode b_Ma_markOf 92 = .ok (.iload 4, 2) := by decide +kernel
theorem d_Ma_markOf_94 : decode b_Ma_markOf 94 = .ok (.iload_n 3, 1) := by decide +kernel
theorem d_Ma_markOf_95 : decode b_Ma_markOf 95 = .ok (.invokevirtual 75, 3) := by decide +kernel
theorem d_Ma_markOf_98 : decode b_Ma_markOf 98 = .ok (.istore 5, 2) := by decide +kernel
theorem d_Ma_markOf_100 : decode b_Ma_markOf 100 = .ok (.iload 5, 2) := by decide +kernel
theorem d_Ma_markOf_102 : decode b_Ma_markOf 102 = .ok (.ifCond .eq 10, 3) := by decide +kernel
theorem d_Ma_markOf_105 : decode b_Ma_markOf 105 = .ok (.iload 4, 2) := by decide +kernel
theorem d_Ma_markOf_107 : decode b_Ma_markOf 107 = .ok (.iconst 2, 1) := by decide +kernel
theorem d_Ma_markOf_108 : decode b_Ma_markOf 108 = .ok (.iadd, 1) := by decide +kernel
theorem d_Ma_markOf_109 : decode b_Ma_markOf 109 = .ok (.goto 5, 3) := by decide +kernel
theorem d_Ma_markOf_112 : decode b_Ma_markOf 112 = .ok (.iload 4, 2) := by decide +kernel
theorem d_Ma_markOf_114 : decode b_Ma_markOf 114 = .ok (.istore 6, 2) := by decide +kernel
theorem d_Ma_markOf_116 : decode b_Ma_markOf 116 = .ok (.iload 6, 2) := by decide +kernel
theorem d_Ma_markOf_118 : decode b_Ma_markOf 118 = .ok (.iload_n 3, 1) := by decide +kernel
theorem d_Ma_markOf_119 : decode b_Ma_markOf 119 = .ok (.if_icmp .ge 26, 3) := by decide +kernel
theorem d_Ma_markOf_122 : decode b_Ma_markOf 122 = .ok (.aload_n 0, 1) := by decide +kernel
theorem d_Ma_markOf_123 : decode b_Ma_markOf 123 = .ok (.getfield 14, 3) := by decide +kernel
theorem d_Ma_markOf_126 : decode b_Ma_markOf 126 = .ok (.iload 6, 2) := by decide +kernel
theorem d_Ma_markOf_128 : decode b_Ma_markOf 128 = .ok (.invokevirtual 41, 3) := by decide +kernel
theorem d_Ma_markOf_131 : decode b_Ma_markOf 131 = .ok (.invokestatic 55, 3) := by decide +kernel
theorem d_Ma_markOf_134 : decode b_Ma_markOf 134 = .ok (.ifCond .ne 5, 3) := by decide +kernel
theorem d_Ma_markOf_137 : decode b_Ma_markOf 137 = .ok (.iconst 0, 1) := by decide +kernel
theorem d_Ma_markOf_138 : decode b_Ma_markOf 138 = .ok (.ireturn, 1) := by decide +kernel
theorem d_Ma_markOf_139 : decode b_Ma_markOf 139 = .ok (.iinc 6 1, 3) := by decide +kernel
theorem d_Ma_markOf_142 : decode b_Ma_markOf 142 = .ok (.goto (-26), 3) := by decide +kernel
theorem d_Ma_markOf_145 : decode b_Ma_markOf 145 = .ok (.iload 5, 2) := by decide +kernel
theorem d_Ma_markOf_147 : decode b_Ma_markOf 147 = .ok (.ifCond .eq 7, 3) := by decide +kernel
theorem d_Ma_markOf_150 : decode b_Ma_markOf 150 = .ok (.iconst 2, 1) := by decide +kernel
theorem d_Ma_markOf_151 : decode b_Ma_markOf 151 = .ok (.goto 4, 3) := by decide +kernel
theorem d_Ma_markOf_154 : decode b_Ma_markOf 154 = .ok (.iconst 1, 1) := by decide +kernel
theorem d_Ma_markOf_155 : decode b_Ma_markOf 155 = .ok (.ireturn, 1) := by decide +kernel
theorem d_Ma_hasDashes_0 : decode b_Ma_hasDashes 0 = .ok (.iload_n 1, 1) := by decide +kernel
theorem d_Ma_hasDashes_1 : decode b_Ma_hasDashes 1 = .ok (.iconst 1, 1) := by decide +kernel
theorem d_Ma_hasDashes_2 : decode b_Ma_hasDashes 2 = .ok (.iadd, 1) := by decide +kernel
theorem d_Ma_hasDashes_3 : decode b_Ma_hasDashes 3 = .ok (.iload_n 2, 1) := by decide +kernel
theorem d_Ma_hasDashes_4 : decode b_Ma_hasDashes 4 = .ok (.if_icmp .ge 35, 3) := by decide +kernel
theorem d_Ma_hasDashes_7 : decode b_Ma_hasDashes 7 = .ok (.aload_n 0, 1) := by decide +kernel
theorem d_Ma_hasDashes_8 : decode b_Ma_hasDashes 8 = .ok (.getfield 14, 3) := by decide +kernel
theorem d_Ma_hasDashes_11 : decode b_Ma_hasDashes 11 = .ok (.iload_n 1, 1) := by decide +kernel
theorem d_Ma_hasDashes_12 : decode b_Ma_hasDashes 12 = .ok (.invokevirtual 41, 3) := by decide +kernel
theorem d_Ma_hasDashes_15 : decode b_Ma_hasDashes 15 = .ok (.bipush 45, 2) := by decide +kernel
theorem d_Ma_hasDashes_17 : decode b_Ma_hasDashes 17 = .ok (.if_icmp .ne 22, 3) := by decide +kernel
theorem d_Ma_hasDashes_20 : decode b_Ma_hasDashes 20 = .ok (.aload_n 0, 1) := by decide +kernel
theorem d_Ma_hasDashes_21 : decode b_Ma_hasDashes 21 = .ok (.getfield 14, 3) := by decide +kernel
theorem d_Ma_hasDashes_24 : decode b_Ma_hasDashes 24 = .ok (.iload_n 1, 1) := by decide +kernel
theorem d_Ma_hasDashes_25 : decode b_Ma_hasDashes 25 = .ok (.iconst 1, 1) := by decide +kernel
theorem d_Ma_hasDashes_26 : decode b_Ma_hasDashes 26 = .ok (.iadd, 1) := by decide +kernel
theorem d_Ma_hasDashes_27 : decode b_Ma_hasDashes 27 = .ok (.invokevirtual 41, 3) := by decide +kernel
theorem d_Ma_hasDashes_30 : decode b_Ma_hasDashes 30 = .ok (.bipush 45, 2) := by decide +kernel
theorem d_Ma_hasDashes_32 : decode b_Ma_hasDashes 32 = .ok (.if_icmp .ne 7, 3) := by decide +kernel
theorem d_Ma_hasDashes_35 : decode b_Ma_hasDashes 35 = .ok (.iconst 1, 1) := by decide +kernel
theorem d_Ma_hasDashes_36 : decode b_Ma_hasDashes 36 = .ok (.goto 4, 3) := by decide +kernel
theorem d_Ma_hasDashes_39 : decode b_Ma_hasDashes 39 = .ok (.iconst 0, 1) := by decide +kernel
theorem d_Ma_hasDashes_40 : decode b_Ma_hasDashes 40 = .ok (.ireturn, 1) := by decide +kernel
theorem d_Ro_init_0 : decode b_Ro_init 0 = .ok (.aload_n 0, 1) := by decide +kernel
theorem d_Ro_init_1 : decode b_Ro_init 1 = .ok (.invokespecial 3, 3) := by decide +kernel
theorem d_Ro_init_4 : decode b_Ro_init 4 = .ok (.aload_n 0, 1) := by decide +kernel
theorem d_Ro_init_5 : decode b_Ro_init 5 = .ok (.iload_n 1, 1) := by decide +kernel
theorem d_Ro_init_6 : decode b_Ro_init 6 = .ok (.iconst 0, 1) := by decide +kernel
theorem d_Ro_init_7 : decode b_Ro_init 7 = .ok (.invokestatic 9, 3) := by decide +kernel
theorem d_Ro_init_10 : decode b_Ro_init 10 = .ok (.newarray .int, 2) := by decide +kernel
theorem d_Ro_init_12 : decode b_Ro_init 12 = .ok (.putfield 15, 3) := by decide +kernel
theorem d_Ro_init_15 : decode b_Ro_init 15 = .ok (.aload_n 0, 1) := by decide +kernel
theorem d_Ro_init_16 : decode b_Ro_init 16 = .ok (.iconst 0, 1) := by decide +kernel
theorem d_Ro_init_17 : decode b_Ro_init 17 = .ok (.putfield 21, 3) := by decide +kernel
theorem d_Ro_init_20 : decode b_Ro_init 20 = .ok (.return_, 1) := by decide +kernel
theorem d_Ro_get_0 : decode b_Ro_get 0 = .ok (.iload_n 1, 1) := by decide +kernel
theorem d_Ro_get_1 : decode b_Ro_get 1 = .ok (.ifCond .lt 29, 3) := by decide +kernel
theorem d_Ro_get_4 : decode b_Ro_get 4 = .ok (.iload_n 1, 1) := by decide +kernel
theorem d_Ro_get_5 : decode b_Ro_get 5 = .ok (.aload_n 0, 1) := by decide +kernel
theorem d_Ro_get_6 : decode b_Ro_get 6 = .ok (.getfield 21, 3) := by decide +kernel
theorem d_Ro_get_9 : decode b_Ro_get 9 = .ok (.if_icmp .ge 21, 3) := by decide +kernel
theorem d_Ro_get_12 : decode b_Ro_get 12 = .ok (.iload_n 1, 1) := by decide +kernel
theorem d_Ro_get_13 : decode b_Ro_get 13 = .ok (.aload_n 0, 1) := by decide +kernel
theorem d_Ro_get_14 : decode b_Ro_get 14 = .ok (.getfield 15, 3) := by decide +kernel
theorem d_Ro_get_17 : decode b_Ro_get 17 = .ok (.arraylength, 1) := by decide +kernel
theorem d_Ro_get_18 : decode b_Ro_get 18 = .ok (.if_icmp .ge 12, 3) := by decide +kernel
theorem d_Ro_get_21 : decode b_Ro_get 21 = .ok (.aload_n 0, 1) := by decide +kernel
theorem d_Ro_get_22 : decode b_Ro_get 22 = .ok (.getfield 15, 3) := by decide +kernel
theorem d_Ro_get_25 : decode b_Ro_get 25 = .ok (.iload_n 1, 1) := by decide +kernel
theorem d_Ro_get_26 : decode b_Ro_get 26 = .ok (.iaload, 1) := by decide +kernel
theorem d_Ro_get_27 : decode b_Ro_get 27 = .ok (.goto 4, 3) := by decide +kernel
theorem d_Ro_get_30 : decode b_Ro_get 30 = .ok (.iconst (-1), 1) := by decide +kernel
theorem d_Ro_get_31 : decode b_Ro_get 31 = .ok (.ireturn, 1) := by decide +kernel
theorem d_Ro_clear_0 : decode b_Ro_clear 0 = .ok (.aload_n 0, 1) := by decide +kernel
theorem d_Ro_clear_1 : decode b_Ro_clear 1 = .ok (.iconst 0, 1) := by decide +kernel
theorem d_Ro_clear_2 : decode b_Ro_clear 2 = .ok (.putfield 21, 3) := by decide +kernel
theorem d_Ro_clear_5 : decode b_Ro_clear 5 = .ok (.return_, 1) := by decide +kernel
theorem d_Ro_add_0 : decode b_Ro_add 0 = .ok (.aload_n 0, 1) := by decide +kernel
theorem d_Ro_add_1 : decode b_Ro_add 1 = .ok (.getfield 21, 3) := by decide +kernel
theorem d_Ro_add_4 : decode b_Ro_add 4 = .ok (.ifCond .lt 35, 3) := by decide +kernel
theorem d_Ro_add_7 : decode b_Ro_add 7 = .ok (.aload_n 0, 1) := by decide +kernel
theorem d_Ro_add_8 : decode b_Ro_add 8 = .ok (.getfield 21, 3) := by decide +kernel
theorem d_Ro_add_11 : decode b_Ro_add 11 = .ok (.aload_n 0, 1) := by decide +kernel
theorem d_Ro_add_12 : decode b_Ro_add 12 = .ok (.getfield 15, 3) := by decide +kernel
theorem d_Ro_add_15 : decode b_Ro_add 15 = .ok (.arraylength, 1) := by decide +kernel
theorem d_Ro_add_16 : decode b_Ro_add 16 = .ok (.if_icmp .ge 23, 3) := by decide +kernel
theorem d_Ro_add_19 : decode b_Ro_add 19 = .ok (.aload_n 0, 1) := by decide +kernel
theorem d_Ro_add_20 : decode b_Ro_add 20 = .ok (.getfield 15, 3) := by decide +kernel
theorem d_Ro_add_23 : decode b_Ro_add 23 = .ok (.aload_n 0, 1) := by decide +kernel
theorem d_Ro_add_24 : decode b_Ro_add 24 = .ok (.getfield 21, 3) := by decide +kernel
theorem d_Ro_add_27 : decode b_Ro_add 27 = .ok (.iload_n 1, 1) := by decide +kernel
theorem d_Ro_add_28 : decode b_Ro_add 28 = .ok (.iastore, 1) := by decide +kernel
theorem d_Ro_add_29 : decode b_Ro_add 29 = .ok (.aload_n 0, 1) := by decide +kernel
theorem d_Ro_add_30 : decode b_Ro_add 30 = .ok (.dup, 1) := by decide +kernel
theorem d_Ro_add_31 : decode b_Ro_add 31 = .ok (.getfield 21, 3) := by decide +kernel
theorem d_Ro_add_34 : decode b_Ro_add 34 = .ok (.iconst 1, 1) := by decide +kernel
theorem d_Ro_add_35 : decode b_Ro_add 35 = .ok (.iadd, 1) := by decide +kernel
theorem d_Ro_add_36 : decode b_Ro_add 36 = .ok (.putfield 21, 3) := by decide +kernel
theorem d_Ro_add_39 : decode b_Ro_add 39 = .ok (.return_, 1) := by decide +kernel
theorem d_Ro_set_0 : decode b_Ro_set 0 = .ok (.iload_n 1, 1) := by decide +kernel
theorem d_Ro_set_1 : decode b_Ro_set 1 = .ok (.ifCond .lt 27, 3) := by decide +kernel
theorem d_Ro_set_4 : decode b_Ro_set 4 = .ok (.iload_n 1, 1) := by decide +kernel
theorem d_Ro_set_5 : decode b_Ro_set 5 = .ok (.aload_n 0, 1) := by decide +kernel
theorem d_Ro_set_6 : decode b_Ro_set 6 = .ok (.getfield 21, 3) := by decide +kernel
theorem d_Ro_set_9 : decode b_Ro_set 9 = .ok (.if_icmp .ge 19, 3) := by decide +kernel
theorem d_Ro_set_12 : decode b_Ro_set 12 = .ok (.iload_n 1, 1) := by decide +kernel
theorem d_Ro_set_13 : decode b_Ro_set 13 = .ok (.aload_n 0, 1) := by decide +kernel
theorem d_Ro_set_14 : decode b_Ro_set 14 = .ok (.getfield 15, 3) := by decide +kernel
theorem d_Ro_set_17 : decode b_Ro_set 17 = .ok (.arraylength, 1) := by decide +kernel
theorem d_Ro_set_18 : decode b_Ro_set 18 = .ok (.if_icmp .ge 10, 3) := by decide +kernel
theorem d_Ro_set_21 : decode b_Ro_set 21 = .ok (.aload_n 0, 1) := by decide +kernel
theorem d_Ro_set_22 : decode b_Ro_set 22 = .ok (.getfield 15, 3) := by decide +kernel
theorem d_Ro_set_25 : decode b_Ro_set 25 = .ok (.iload_n 1, 1) := by decide +kernel
theorem d_Ro_set_26 : decode b_Ro_set 26 = .ok (.iload_n 2, 1) := by decide +kernel
theorem d_Ro_set_27 : decode b_Ro_set 27 = .ok (.iastore, 1) := by decide +kernel
theorem d_Ro_set_28 : decode b_Ro_set 28 = .ok (.return_, 1) := by decide +kernel
theorem d_Ro_shorten_0 : decode b_Ro_shorten 0 = .ok (.aload_n 0, 1) := by decide +kernel
theorem d_Ro_shorten_1 : decode b_Ro_shorten 1 = .ok (.iconst 0, 1) := by decide +kernel
theorem d_Ro_shorten_2 : decode b_Ro_shorten 2 = .ok (.aload_n 0, 1) := by decide +kernel
theorem d_Ro_shorten_3 : decode b_Ro_shorten 3 = .ok (.getfield 21, 3) := by decide +kernel
theorem d_Ro_shorten_6 : decode b_Ro_shorten 6 = .ok (.iload_n 1, 1) := by decide +kernel
theorem d_Ro_shorten_7 : decode b_Ro_shorten 7 = .ok (.invokestatic 25, 3) := by decide +kernel
theorem d_Ro_shorten_10 : decode b_Ro_shorten 10 = .ok (.invokestatic 9, 3) := by decide +kernel
theorem d_Ro_shorten_13 : decode b_Ro_shorten 13 = .ok (.putfield 21, 3) := by decide +kernel
theorem d_Ro_shorten_16 : decode b_Ro_shorten 16 = .ok (.return_, 1) := by decide +kernel
theorem d_Ro_addRange_0 : decode b_Ro_addRange 0 = .ok (.iload_n 2, 1) := by decide +kernel
theorem d_Ro_addRange_1 : decode b_Ro_addRange 1 = .ok (.istore 4, 2) := by decide +kernel
theorem d_Ro_addRange_3 : decode b_Ro_addRange 3 = .ok (.iload 4, 2) := by decide +kernel
theorem d_Ro_addRange_5 : decode b_Ro_addRange 5 = .ok (.iload_n 3, 1) := by decide +kernel
theorem d_Ro_addRange_6 : decode b_Ro_addRange 6 = .ok (.if_icmp .ge 19, 3) := by decide +kernel
theorem d_Ro_addRange_9 : decode b_Ro_addRange 9 = .ok (.aload_n 0, 1) := by decide +kernel
theorem d_Ro_addRange_10 : decode b_Ro_addRange 10 = .ok (.aload_n 1, 1) := by decide +kernel
theorem d_Ro_addRange_11 : decode b_Ro_addRange 11 = .ok (.iload 4, 2) := by decide +kernel
theorem d_Ro_addRange_13 : decode b_Ro_addRange 13 = .ok (.invokevirtual 28, 3) := by decide +kernel
theorem d_Ro_addRange_16 : decode b_Ro_addRange 16 = .ok (.invokevirtual 32, 3) := by decide +kernel
theorem d_Ro_addRange_19 : decode b_Ro_addRange 19 = .ok (.iinc 4 1, 3) := by decide +kernel
theorem d_Ro_addRange_22 : decode b_Ro_addRange 22 = .ok (.goto (-19), 3) := by decide +kernel
theorem d_Ro_addRange_25 : decode b_Ro_addRange 25 = .ok (.return_, 1) := by decide +kernel
theorem d_Ro_put_0 : decode b_Ro_put 0 = .ok (.aload_n 0, 1) := by decide +kernel
theorem d_Ro_put_1 : decode b_Ro_put 1 = .ok (.invokevirtual 36, 3) := by decide +kernel
theorem d_Ro_put_4 : decode b_Ro_put 4 = .ok (.iconst 0, 1) := by decide +kernel
theorem d_Ro_put_5 : decode b_Ro_put 5 = .ok (.istore_n 2, 1) := by decide +kernel
theorem d_Ro_put_6 : decode b_Ro_put 6 = .ok (.iload_n 2, 1) := by decide +kernel
theorem d_Ro_put_7 : decode b_Ro_put 7 = .ok (.aload_n 1, 1) := by decide +kernel
theorem d_Ro_put_8 : decode b_Ro_put 8 = .ok (.invokevirtual 39, 3) := by decide +kernel
theorem d_Ro_put_11 : decode b_Ro_put 11 = .ok (.if_icmp .ge 18, 3) := by decide +kernel
theorem d_Ro_put_14 : decode b_Ro_put 14 = .ok (.aload_n 0, 1) := by decide +kernel
theorem d_Ro_put_15 : decode b_Ro_put 15 = .ok (.aload_n 1, 1) := by decide +kernel
theorem d_Ro_put_16 : decode b_Ro_put 16 = .ok (.iload_n 2, 1) := by decide +kernel
theorem d_Ro_put_17 : decode b_Ro_put 17 = .ok (.invokevirtual 45, 3) := by decide +kernel
theorem d_Ro_put_20 : decode b_Ro_put 20 = .ok (.invokevirtual 32, 3) := by decide +kernel
theorem d_Ro_put_23 : decode b_Ro_put 23 = .ok (.iinc 2 1, 3) := by decide +kernel
theorem d_Ro_put_26 : decode b_Ro_put 26 = .ok (.goto (-20), 3) := by decide +kernel
theorem d_Ro_put_29 : decode b_Ro_put 29 = .ok (.return_, 1) := by decide +kernel
theorem d_Ro_begins_0 : decode b_Ro_begins 0 = .ok (.aload_n 0, 1) := by decide +kernel
theorem d_Ro_begins_1 : decode b_Ro_begins 1 = .ok (.getfield 21, 3) := by decide +kernel
theorem d_Ro_begins_4 : decode b_Ro_begins 4 = .ok (.aload_n 1, 1) := by decide +kernel
theorem d_Ro_begins_5 : decode b_Ro_begins 5 = .ok (.invokevirtual 39, 3) := by decide +kernel
theorem d_Ro_begins_8 : decode b_Ro_begins 8 = .ok (.if_icmp .ge 5, 3) := by decide +kernel
theorem d_Ro_begins_11 : decode b_Ro_begins 11 = .ok (.iconst 0, 1) := by decide +kernel
theorem d_Ro_begins_12 : decode b_Ro_begins 12 = .ok (.ireturn, 1) := by decide +kernel
theorem d_Ro_begins_13 : decode b_Ro_begins 13 = .ok (.iconst 0, 1) := by decide +kernel
theorem d_Ro_begins_14 : decode b_Ro_begins 14 = .ok (.istore_n 2, 1) := by decide +kernel
theorem d_Ro_begins_15 : decode b_Ro_begins 15 = .ok (.iload_n 2, 1) := by decide +kernel
theorem d_Ro_begins_16 : decode b_Ro_begins 16 = .ok (.aload_n 1, 1) := by decide +kernel
theorem d_Ro_begins_17 : decode b_Ro_begins 17 = .ok (.invokevirtual 39, 3) := by decide +kernel
theorem d_Ro_begins_20 : decode b_Ro_begins 20 = .ok (.if_icmp .ge 24, 3) := by decide +kernel
theorem d_Ro_begins_23 : decode b_Ro_begins 23 = .ok (.aload_n 0, 1) := by decide +kernel
theorem d_Ro_begins_24 : decode b_Ro_begins 24 = .ok (.iload_n 2, 1) := by decide +kernel
theorem d_Ro_begins_25 : decode b_Ro_begins 25 = .ok (.invokevirtual 28, 3) := by decide +kernel
theorem d_Ro_begins_28 : decode b_Ro_begins 28 = .ok (.aload_n 1, 1) := by decide +kernel
theorem d_Ro_begins_29 : decode b_Ro_begins 29 = .ok (.iload_n 2, 1) := by decide +kernel
theorem d_Ro_begins_30 : decode b_Ro_begins 30 = .ok (.invokevirtual 45, 3) := by decide +kernel
theorem d_Ro_begins_33 : decode b_Ro_begins 33 = .ok (.if_icmp .eq 5, 3) := by decide +kernel
theorem d_Ro_begins_36 : decode b_Ro_begins 36 = .ok (.iconst 0, 1) := by decide +kernel
theorem d_Ro_begins_37 : decode b_Ro_begins 37 = .ok (.ireturn, 1) := by decide +kernel
theorem d_Ro_begins_38 : decode b_Ro_begins 38 = .ok (.iinc 2 1, 3) := by decide +kernel
theorem d_Ro_begins_41 : decode b_Ro_begins 41 = .ok (.goto (-26), 3) := by decide +kernel
theorem d_Ro_begins_44 : decode b_Ro_begins 44 = .ok (.iconst 1, 1) := by decide +kernel
theorem d_Ro_begins_45 : decode b_Ro_begins 45 = .ok (.ireturn, 1) := by decide +kernel
theorem d_Ro_is_0 : decode b_Ro_is 0 = .ok (.aload_n 0, 1) := by decide +kernel
theorem d_Ro_is_1 : decode b_Ro_is 1 = .ok (.getfield 21, 3) := by decide +kernel
theorem d_Ro_is_4 : decode b_Ro_is 4 = .ok (.aload_n 1, 1) := by decide +kernel
theorem d_Ro_is_5 : decode b_Ro_is 5 = .ok (.invokevirtual 39, 3) := by decide +kernel
theorem d_Ro_is_8 : decode b_Ro_is 8 = .ok (.if_icmp .ne 15, 3) := by decide +kernel
theorem d_Ro_is_11 : decode b_Ro_is 11 = .ok (.aload_n 0, 1) := by decide +kernel
theorem d_Ro_is_12 : decode b_Ro_is 12 = .ok (.aload_n 1, 1) := by decide +kernel
theorem d_Ro_is_13 : decode b_Ro_is 13 = .ok (.invokevirtual 49, 3) := by decide +kernel
theorem d_Ro_is_16 : decode b_Ro_is 16 = .ok (.ifCond .eq 7, 3) := by decide +kernel
theorem d_Ro_is_19 : decode b_Ro_is 19 = .ok (.iconst 1, 1) := by decide +kernel
theorem d_Ro_is_20 : decode b_Ro_is 20 = .ok (.goto 4, 3) := by decide +kernel
theorem d_Ro_is_23 : decode b_Ro_is 23 = .ok (.iconst 0, 1) := by decide +kernel
theorem d_Ro_is_24 : decode b_Ro_is 24 = .ok (.ireturn, 1) := by decide +kernel
theorem d_Ro_hasName_0 : decode b_Ro_hasName 0 = .ok (.iconst 0, 1) := by decide +kernel
theorem d_Ro_hasName_1 : decode b_Ro_hasName 1 = .ok (.istore_n 3, 1) := by decide +kernel
theorem d_Ro_hasName_2 : decode b_Ro_hasName 2 = .ok (.iload_n 3, 1) := by decide +kernel
theorem d_Ro_hasName_3 : decode b_Ro_hasName 3 = .ok (.aload_n 2, 1) := by decide +kernel
theorem d_Ro_hasName_4 : decode b_Ro_hasName 4 = .ok (.getfield 21, 3) := by decide +kernel
theorem d_Ro_hasName_7 : decode b_Ro_hasName 7 = .ok (.if_icmp .ge 32, 3) := by decide +kernel
theorem d_Ro_hasName_10 : decode b_Ro_hasName 10 = .ok (.aload_n 0, 1) := by decide +kernel
theorem d_Ro_hasName_11 : decode b_Ro_hasName 11 = .ok (.iload_n 1, 1) := by decide +kernel
theorem d_Ro_hasName_12 : decode b_Ro_hasName 12 = .ok (.iload_n 3, 1) := by decide +kernel
theorem d_Ro_hasName_13 : decode b_Ro_hasName 13 = .ok (.iadd, 1) := by decide +kernel
theorem d_Ro_hasName_14 : decode b_Ro_hasName 14 = .ok (.invokevirtual 28, 3) := by decide +kernel
theorem d_Ro_hasName_17 : decode b_Ro_hasName 17 = .ok (.invokestatic 53, 3) := by decide +kernel
theorem d_Ro_hasName_20 : decode b_Ro_hasName 20 = .ok (.aload_n 2, 1) := by decide +kernel
theorem d_Ro_hasName_21 : decode b_Ro_hasName 21 = .ok (.iload_n 3, 1) := by decide +kernel
theorem d_Ro_hasName_22 : decode b_Ro_hasName 22 = .ok (.invokevirtual 28, 3) := by decide +kernel
theorem d_Ro_hasName_25 : decode b_Ro_hasName 25 = .ok (.invokestatic 53, 3) := by decide +kernel
theorem d_Ro_hasName_28 : decode b_Ro_hasName 28 = .ok (.if_icmp .eq 5, 3) := by decide +kernel
theorem d_Ro_hasName_31 : decode b_Ro_hasName 31 = .ok (.iconst 0, 1) := by decide +kernel
theorem d_Ro_hasName_32 : decode b_Ro_hasName 32 = .ok (.ireturn, 1) := by decide +kernel
theorem d_Ro_hasName_33 : decode b_Ro_hasName 33 = .ok (.iinc 3 1, 3) := by decide +kernel
theorem d_Ro_hasName_36 : decode b_Ro_hasName 36 = .ok (.goto (-34), 3) := by decide +kernel
theorem d_Ro_hasName_39 : decode b_Ro_hasName 39 = .ok (.iconst 1, 1) := by decide +kernel
theorem d_Ro_hasName_40 : decode b_Ro_hasName 40 = .ok (.ireturn, 1) := by decide +kernel
theorem d_Va_init_0 : decode b_Va_init 0 = .ok (.aload_n 0, 1) := by decide +kernel
theorem d_Va_init_1 : decode b_Va_init 1 = .ok (.invokespecial 3, 3) := by decide +kernel
theorem d_Va_init_4 : decode b_Va_init 4 = .ok (.aload_n 0, 1) := by decide +kernel
theorem d_Va_init_5 : decode b_Va_init 5 = .ok (.new 9, 3) := by decide +kernel
theorem d_Va_init_8 : decode b_Va_init 8 = .ok (.dup, 1) := by decide +kernel
theorem d_Va_init_9 : decode b_Va_init 9 = .ok (.sipush 1500, 3) := by decide +kernel
theorem d_Va_init_12 : decode b_Va_init 12 = .ok (.invokespecial 11, 3) := by decide +kernel
theorem d_Va_init_15 : decode b_Va_init 15 = .ok (.putfield 14, 3) := by decide +kernel
theorem d_Va_init_18 : decode b_Va_init 18 = .ok (.return_, 1) := by decide +kernel
theorem d_Va_keepFirstItem_0 : decode b_Va_keepFirstItem 0 = .ok (.aload_n 0, 1) := by decide +kernel
theorem d_Va_keepFirstItem_1 : decode b_Va_keepFirstItem 1 = .ok (.iconst 0, 1) := by decide +kernel
theorem d_Va_keepFirstItem_2 : decode b_Va_keepFirstItem 2 = .ok (.aload_n 0, 1) := by decide +kernel
theorem d_Va_keepFirstItem_3 : decode b_Va_keepFirstItem 3 = .ok (.bipush 59, 2) := by decide +kernel
theorem d_Va_keepFirstItem_5 : decode b_Va_keepFirstItem 5 = .ok (.iconst 0, 1) := by decide +kernel
theorem d_Va_keepFirstItem_6 : decode b_Va_keepFirstItem 6 = .ok (.aload_n 0, 1) := by decide +kernel
theorem d_Va_keepFirstItem_7 : decode b_Va_keepFirstItem 7 = .ok (.getfield 14, 3) := by decide +kernel
theorem d_Va_keepFirstItem_10 : decode b_Va_keepFirstItem 10 = .ok (.getfield 20, 3) := by decide +kernel
theorem d_Va_keepFirstItem_13 : decode b_Va_keepFirstItem 13 = .ok (.invokevirtual 24, 3) := by decide +kernel
theorem d_Va_keepFirstItem_16 : decode b_Va_keepFirstItem 16 = .ok (.invokevirtual 28, 3) := by decide +kernel
theorem d_Va_keepFirstItem_19 : decode b_Va_keepFirstItem 19 = .ok (.iconst 0, 1) := by decide +kernel
theorem d_Va_keepFirstItem_20 : decode b_Va_keepFirstItem 20 = .ok (.istore_n 1, 1) := by decide +kernel
theorem d_Va_keepFirstItem_21 : decode b_Va_keepFirstItem 21 = .ok (.iload_n 1, 1) := by decide +kernel
theorem d_Va_keepFirstItem_22 : decode b_Va_keepFirstItem 22 = .ok (.aload_n 0, 1) := by decide +kernel
theorem d_Va_keepFirstItem_23 : decode b_Va_keepFirstItem 23 = .ok (.getfield 14, 3) := by decide +kernel
theorem d_Va_keepFirstItem_26 : decode b_Va_keepFirstItem 26 = .ok (.getfield 20, 3) := by decide +kernel
theorem d_Va_keepFirstItem_29 : decode b_Va_keepFirstItem 29 = .ok (.if_icmp .ge 28, 3) := by decide +kernel
theorem d_Va_keepFirstItem_32 : decode b_Va_keepFirstItem 32 = .ok (.aload_n 0, 1) := by decide +kernel
theorem d_Va_keepFirstItem_33 : decode b_Va_keepFirstItem 33 = .ok (.getfield 14, 3) := by decide +kernel
theorem d_Va_keepFirstItem_36 : decode b_Va_keepFirstItem 36 = .ok (.iload_n 1, 1) := by decide +kernel
theorem d_Va_keepFirstItem_37 : decode b_Va_keepFirstItem 37 = .ok (.aload_n 0, 1) := by decide +kernel
theorem d_Va_keepFirstItem_38 : decode b_Va_keepFirstItem 38 = .ok (.getfield 14, 3) := by decide +kernel
theorem d_Va_keepFirstItem_41 : decode b_Va_keepFirstItem 41 = .ok (.iload_n 1, 1) := by decide +kernel
theorem d_Va_keepFirstItem_42 : decode b_Va_keepFirstItem 42 = .ok (.invokevirtual 32, 3) := by decide +kernel
theorem d_Va_keepFirstItem_45 : decode b_Va_keepFirstItem 45 = .ok (.invokestatic 36, 3) := by decide +kernel
theorem d_Va_keepFirstItem_48 : decode b_Va_keepFirstItem 48 = .ok (.invokevirtual 39, 3) := by decide +kernel
theorem d_Va_keepFirstItem_51 : decode b_Va_keepFirstItem 51 = .ok (.iinc 1 1, 3) := by decide +kernel
theorem d_Va_keepFirstItem_54 : decode b_Va_keepFirstItem 54 = .ok (.goto (-33), 3) := by decide +kernel
theorem d_Va_keepFirstItem_57 : decode b_Va_keepFirstItem 57 = .ok (.return_, 1) := by decide +kernel
theorem d_Va_keepParameter_0 : decode b_Va_keepParameter 0 = .ok (.aload_n 0, 1) := by decide +kernel
theorem d_Va_keepParameter_1 : decode b_Va_keepParameter 1 = .ok (.getfield 14, 3) := by decide +kernel
theorem d_Va_keepParameter_4 : decode b_Va_keepParameter 4 = .ok (.getfield 20, 3) := by decide +kernel
theorem d_Va_keepParameter_7 : decode b_Va_keepParameter 7 = .ok (.istore_n 2, 1) := by decide +kernel
theorem d_Va_keepParameter_8 : decode b_Va_keepParameter 8 = .ok (.aload_n 0, 1) := by decide +kernel
theorem d_Va_keepParameter_9 : decode b_Va_keepParameter 9 = .ok (.bipush 59, 2) := by decide +kernel
theorem d_Va_keepParameter_11 : decode b_Va_keepParameter 11 = .ok (.iconst 0, 1) := by decide +kernel
theorem d_Va_keepParameter_12 : decode b_Va_keepParameter 12 = .ok (.iload_n 2, 1) := by decide +kernel
theorem d_Va_keepParameter_13 : decode b_Va_keepParameter 13 = .ok (.invokevirtual 24, 3) := by decide +kernel
theorem d_Va_keepParameter_16 : decode b_Va_keepParameter 16 = .ok (.istore_n 3, 1) := by decide +kernel
theorem d_Va_keepParameter_17 : decode b_Va_keepParameter 17 = .ok (.iconst 1, 1) := by decide +kernel
theorem d_Va_keepParameter_18 : decode b_Va_keepParameter 18 = .ok (.istore 4, 2) := by decide +kernel
theorem d_Va_keepParameter_20 : decode b_Va_keepParameter 20 = .ok (.iload 4, 2) := by decide +kernel
theorem d_Va_keepParameter_22 : decode b_Va_keepParameter 22 = .ok (.iload_n 2, 1) := by decide +kernel
theorem d_Va_keepParameter_23 : decode b_Va_keepParameter 23 = .ok (.if_icmp .gt 73, 3) := by decide +kernel
theorem d_Va_keepParameter_26 : decode b_Va_keepParameter 26 = .ok (.iload_n 3, 1) := by decide +kernel
theorem d_Va_keepParameter_27 : decode b_Va_keepParameter 27 = .ok (.iload_n 2, 1) := by decide +kernel
theorem d_Va_keepParameter_28 : decode b_Va_keepParameter 28 = .ok (.if_icmp .ge 68, 3) := by decide +kernel
theorem d_Va_keepParameter_31 : decode b_Va_keepParameter 31 = .ok (.iload_n 3, 1) := by decide +kernel
theorem d_Va_keepParameter_32 : decode b_Va_keepParameter 32 = .ok (.iconst 1, 1) := by decide +kernel
theorem d_Va_keepParameter_33 : decode b_Va_keepParameter 33 = .ok (.iadd, 1) := by decide +kernel
theorem d_Va_keepParameter_34 : decode b_Va_keepParameter 34 = .ok (.istore 5, 2) := by decide +kernel
theorem d_Va_keepParameter_36 : decode b_Va_keepParameter 36 = .ok (.aload_n 0, 1) := by decide +kernel
theorem d_Va_keepParameter_37 : decode b_Va_keepParameter 37 = .ok (.bipush 59, 2) := by decide +kernel
theorem d_Va_keepParameter_39 : decode b_Va_keepParameter 39 = .ok (.iload 5, 2) := by decide +kernel
theorem d_Va_keepParameter_41 : decode b_Va_keepParameter 41 = .ok (.iload_n 2, 1) := by decide +kernel
theorem d_Va_keepParameter_42 : decode b_Va_keepParameter 42 = .ok (.invokevirtual 24, 3) := by decide +kernel
theorem d_Va_keepParameter_45 : decode b_Va_keepParameter 45 = .ok (.istore_n 3, 1) := by decide +kernel
theorem d_Va_keepParameter_46 : decode b_Va_keepParameter 46 = .ok (.aload_n 0, 1) := by decide +kernel
theorem d_Va_keepParameter_47 : decode b_Va_keepParameter 47 = .ok (.bipush 61, 2) := by decide +kernel
theorem d_Va_keepParameter_49 : decode b_Va_keepParameter 49 = .ok (.iload 5, 2) := by decide +kernel
theorem d_Va_keepParameter_51 : decode b_Va_keepParameter 51 = .ok (.iload_n 3, 1) := by decide +kernel
theorem d_Va_keepParameter_52 : decode b_Va_keepParameter 52 = .ok (.invokevirtual 24, 3) := by decide +kernel
theorem d_Va_keepParameter_55 : decode b_Va_keepParameter 55 = .ok (.istore 6, 2) := by decide +kernel
theorem d_Va_keepParameter_57 : decode b_Va_keepParameter 57 = .ok (.iload 6, 2) := by decide +kernel
theorem d_Va_keepParameter_59 : decode b_Va_keepParameter 59 = .ok (.iload_n 3, 1) := by decide +kernel
theorem d_Va_keepParameter_60 : decode b_Va_keepParameter 60 = .ok (.if_icmp .ge 30, 3) := by decide +kernel
theorem d_Va_keepParameter_63 : decode b_Va_keepParameter 63 = .ok (.aload_n 0, 1) := by decide +kernel
theorem d_Va_keepParameter_64 : decode b_Va_keepParameter 64 = .ok (.iload 5, 2) := by decide +kernel
theorem d_Va_keepParameter_66 : decode b_Va_keepParameter 66 = .ok (.iload 6, 2) := by decide +kernel
theorem d_Va_keepParameter_68 : decode b_Va_keepParameter 68 = .ok (.aload_n 1, 1) := by decide +kernel
theorem d_Va_keepParameter_69 : decode b_Va_keepParameter 69 = .ok (.invokevirtual 42, 3) := by decide +kernel
theorem d_Va_keepParameter_72 : decode b_Va_keepParameter 72 = .ok (.ifCond .eq 18, 3) := by decide +kernel
theorem d_Va_keepParameter_75 : decode b_Va_keepParameter 75 = .ok (.aload_n 0, 1) := by decide +kernel
theorem d_Va_keepParameter_76 : decode b_Va_keepParameter 76 = .ok (.iload 6, 2) := by decide +kernel
theorem d_Va_keepParameter_78 : decode b_Va_keepParameter 78 = .ok (.iconst 1, 1) := by decide +kernel
theorem d_Va_keepParameter_79 : decode b_Va_keepParameter 79 = .ok (.iadd, 1) := by decide +kernel
theorem d_Va_keepParameter_80 : decode b_Va_keepParameter 80 = .ok (.iload_n 3, 1) := by decide +kernel
theorem d_Va_keepParameter_81 : decode b_Va_keepParameter 81 = .ok (.invokevirtual 28, 3) := by decide +kernel
theorem d_Va_keepParameter_84 : decode b_Va_keepParameter 84 = .ok (.aload_n 0, 1) := by decide +kernel
theorem d_Va_keepParameter_85 : decode b_Va_keepParameter 85 = .ok (.invokevirtual 46, 3) := by decide +kernel
theorem d_Va_keepParameter_88 : decode b_Va_keepParameter 88 = .ok (.iconst 1, 1) := by decide +kernel
theorem d_Va_keepParameter_89 : decode b_Va_keepParameter 89 = .ok (.ireturn, 1) := by decide +kernel
theorem d_Va_keepParameter_90 : decode b_Va_keepParameter 90 = .ok (.iinc 4 1, 3) := by decide +kernel
theorem d_Va_keepParameter_93 : decode b_Va_keepParameter 93 = .ok (.goto (-73), 3) := by decide +kernel
theorem d_Va_keepParameter_96 : decode b_Va_keepParameter 96 = .ok (.aload_n 0, 1) := by decide +kernel
theorem d_Va_keepParameter_97 : decode b_Va_keepParameter 97 = .ok (.getfield 14, 3) := by decide +kernel
theorem d_Va_keepParameter_100 : decode b_Va_keepParameter 100 = .ok (.invokevirtual 49, 3) := by decide +kernel
theorem d_Va_keepParameter_103 : decode b_Va_keepParameter 103 = .ok (.iconst 0, 1) := by decide +kernel
theorem d_Va_keepParameter_104 : decode b_Va_keepParameter 104 = .ok (.ireturn, 1) := by decide +kernel
theorem d_Va_isType_0 : decode b_Va_isType 0 = .ok (.iconst 0, 1) := by decide +kernel
theorem d_Va_isType_1 : decode b_Va_isType 1 = .ok (.istore_n 1, 1) := by decide +kernel
theorem d_Va_isType_2 : decode b_Va_isType 2 = .ok (.iconst 0, 1) := by decide +kernel
theorem d_Va_isType_3 : decode b_Va_isType 3 = .ok (.istore_n 2, 1) := by decide +kernel
theorem d_Va_isType_4 : decode b_Va_isType 4 = .ok (.iload_n 2, 1) := by decide +kernel
theorem d_Va_isType_5 : decode b_Va_isType 5 = .ok (.aload_n 0, 1) := by decide +kernel
theorem d_Va_isType_6 : decode b_Va_isType 6 = .ok (.getfield 14, 3) := by decide +kernel
theorem d_Va_isType_9 : decode b_Va_isType 9 = .ok (.getfield 20, 3) := by decide +kernel
theorem d_Va_isType_12 : decode b_Va_isType 12 = .ok (.if_icmp .ge 60, 3) := by decide +kernel
theorem d_Va_isType_15 : decode b_Va_isType 15 = .ok (.aload_n 0, 1) := by decide +kernel
theorem d_Va_isType_16 : decode b_Va_isType 16 = .ok (.getfield 14, 3) := by decide +kernel
theorem d_Va_isType_19 : decode b_Va_isType 19 = .ok (.iload_n 2, 1) := by decide +kernel
theorem d_Va_isType_20 : decode b_Va_isType 20 = .ok (.invokevirtual 32, 3) := by decide +kernel
theorem d_Va_isType_23 : decode b_Va_isType 23 = .ok (.istore_n 3, 1) := by decide +kernel
theorem d_Va_isType_24 : decode b_Va_isType 24 = .ok (.iload_n 3, 1) := by decide +kernel
theorem d_Va_isType_25 : decode b_Va_isType 25 = .ok (.invokestatic 52, 3) := by decide +kernel
theorem d_Va_isType_28 : decode b_Va_isType 28 = .ok (.ifCond .eq 5, 3) := by decide +kernel
theorem d_Va_isType_31 : decode b_Va_isType 31 = .ok (.iconst 0, 1) := by decide +kernel
theorem d_Va_isType_32 : decode b_Va_isType 32 = .ok (.ireturn, 1) := by decide +kernel
theorem d_Va_isType_33 : decode b_Va_isType 33 = .ok (.iload_n 1, 1) := by decide +kernel
theorem d_Va_isType_34 : decode b_Va_isType 34 = .ok (.ifCond .ne 26, 3) := by decide +kernel
theorem d_Va_isType_37 : decode b_Va_isType 37 = .ok (.iload_n 3, 1) := by decide +kernel
theorem d_Va_isType_38 : decode b_Va_isType 38 = .ok (.bipush 47, 2) := by decide +kernel
theorem d_Va_isType_40 : decode b_Va_isType 40 = .ok (.if_icmp .ne 24, 3) := by decide +kernel
theorem d_Va_isType_43 : decode b_Va_isType 43 = .ok (.iload_n 2, 1) := by decide +kernel
theorem d_Va_isType_44 : decode b_Va_isType 44 = .ok (.ifCond .le 20, 3) := by decide +kernel
theorem d_Va_isType_47 : decode b_Va_isType 47 = .ok (.iload_n 2, 1) := by decide +kernel
theorem d_Va_isType_48 : decode b_Va_isType 48 = .ok (.aload_n 0, 1) := by decide +kernel
theorem d_Va_isType_49 : decode b_Va_isType 49 = .ok (.getfield 14, 3) := by decide +kernel
theorem d_Va_isType_52 : decode b_Va_isType 52 = .ok (.getfield 20, 3) := by decide +kernel
theorem d_Va_isType_55 : decode b_Va_isType 55 = .ok (.iconst 1, 1) := by decide +kernel
theorem d_Va_isType_56 : decode b_Va_isType 56 = .ok (.isub, 1) := by decide +kernel
theorem d_Va_isType_57 : decode b_Va_isType 57 = .ok (.if_icmp .ge 7, 3) := by decide +kernel
theorem d_Va_isType_60 : decode b_Va_isType 60 = .ok (.iconst 1, 1) := by decide +kernel
theorem d_Va_isType_61 : decode b_Va_isType 61 = .ok (.goto 4, 3) := by decide +kernel
theorem d_Va_isType_64 : decode b_Va_isType 64 = .ok (.iconst 0, 1) := by decide +kernel
theorem d_Va_isType_65 : decode b_Va_isType 65 = .ok (.istore_n 1, 1) := by decide +kernel
theorem d_Va_isType_66 : decode b_Va_isType 66 = .ok (.iinc 2 1, 3) := by decide +kernel
theorem d_Va_isType_69 : decode b_Va_isType 69 = .ok (.goto (-65), 3) := by decide +kernel
theorem d_Va_isType_72 : decode b_Va_isType 72 = .ok (.iload_n 1, 1) := by decide +kernel
theorem d_Va_isType_73 : decode b_Va_isType 73 = .ok (.ireturn, 1) := by decide +kernel
theorem d_Va_find_0 : decode b_Va_find 0 = .ok (.iconst 0, 1) := by decide +kernel
theorem d_Va_find_1 : decode b_Va_find 1 = .ok (.istore 4, 2) := by decide +kernel
theorem d_Va_find_3 : decode b_Va_find 3 = .ok (.iload_n 2, 1) := by decide +kernel
theorem d_Va_find_4 : decode b_Va_find 4 = .ok (.istore 5, 2) := by decide +kernel
theorem d_Va_find_6 : decode b_Va_find 6 = .ok (.iload 5, 2) := by decide +kernel
theorem d_Va_find_8 : decode b_Va_find 8 = .ok (.iload_n 3, 1) := by decide +kernel
theorem d_Va_find_9 : decode b_Va_find 9 = .ok (.if_icmp .ge 71, 3) := by decide +kernel
theorem d_Va_find_12 : decode b_Va_find 12 = .ok (.aload_n 0, 1) := by decide +kernel
theorem d_Va_find_13 : decode b_Va_find 13 = .ok (.getfield 14, 3) := by decide +kernel
theorem d_Va_find_16 : decode b_Va_find 16 = .ok (.iload 5, 2) := by decide +kernel
theorem d_Va_find_18 : decode b_Va_find 18 = .ok (.invokevirtual 32, 3) := by decide +kernel
theorem d_Va_find_21 : decode b_Va_find 21 = .ok (.istore 6, 2) := by decide +kernel
theorem d_Va_find_23 : decode b_Va_find 23 = .ok (.iload 6, 2) := by decide +kernel
theorem d_Va_find_25 : decode b_Va_find 25 = .ok (.iload_n 1, 1) := by decide +kernel
theorem d_Va_find_26 : decode b_Va_find 26 = .ok (.if_icmp .ne 11, 3) := by decide +kernel
theorem d_Va_find_29 : decode b_Va_find 29 = .ok (.iload 4, 2) := by decide +kernel
theorem d_Va_find_31 : decode b_Va_find 31 = .ok (.ifCond .ne 6, 3) := by decide +kernel
theorem d_Va_find_34 : decode b_Va_find 34 = .ok (.iload 5, 2) := by decide +kernel
theorem d_Va_find_36 : decode b_Va_find 36 = .ok (.ireturn, 1) := by decide +kernel
theorem d_Va_find_37 : decode b_Va_find 37 = .ok (.iload 6, 2) := by decide +kernel
theorem d_Va_find_39 : decode b_Va_find 39 = .ok (.bipush 34, 2) := by decide +kernel
theorem d_Va_find_41 : decode b_Va_find 41 = .ok (.if_icmp .ne 18, 3) := by decide +kernel
theorem d_Va_find_44 : decode b_Va_find 44 = .ok (.iload 4, 2) := by decide +kernel
theorem d_Va_find_46 : decode b_Va_find 46 = .ok (.ifCond .ne 7, 3) := by decide +kernel
theorem d_Va_find_49 : decode b_Va_find 49 = .ok (.iconst 1, 1) := by decide +kernel
theorem d_Va_find_50 : decode b_Va_find 50 = .ok (.goto 4, 3) := by decide +kernel
theorem d_Va_find_53 : decode b_Va_find 53 = .ok (.iconst 0, 1) := by decide +kernel
theorem d_Va_find_54 : decode b_Va_find 54 = .ok (.istore 4, 2) := by decide +kernel
theorem d_Va_find_56 : decode b_Va_find 56 = .ok (.goto 18, 3) := by decide +kernel
theorem d_Va_find_59 : decode b_Va_find 59 = .ok (.iload 6, 2) := by decide +kernel
theorem d_Va_find_61 : decode b_Va_find 61 = .ok (.bipush 92, 2) := by decide +kernel
theorem d_Va_find_63 : decode b_Va_find 63 = .ok (.if_icmp .ne 11, 3) := by decide +kernel
theorem d_Va_find_66 : decode b_Va_find 66 = .ok (.iload 4, 2) := by decide +kernel
theorem d_Va_find_68 : decode b_Va_find 68 = .ok (.ifCond .eq 6, 3) := by decide +kernel
theorem d_Va_find_71 : decode b_Va_find 71 = .ok (.iinc 5 1, 3) := by decide +kernel
theorem d_Va_find_74 : decode b_Va_find 74 = .ok (.iinc 5 1, 3) := by decide +kernel
theorem d_Va_find_77 : decode b_Va_find 77 = .ok (.goto (-71), 3) := by decide +kernel
theorem d_Va_find_80 : decode b_Va_find 80 = .ok (.iload_n 3, 1) := by decide +kernel
theorem d_Va_find_81 : decode b_Va_find 81 = .ok (.ireturn, 1) := by decide +kernel
theorem d_Va_isNamed_0 : decode b_Va_isNamed 0 = .ok (.aload_n 0, 1) := by decide +kernel
theorem d_Va_isNamed_1 : decode b_Va_isNamed 1 = .ok (.iload_n 1, 1) := by decide +kernel
theorem d_Va_isNamed_2 : decode b_Va_isNamed 2 = .ok (.iload_n 2, 1) := by decide +kernel
theorem d_Va_isNamed_3 : decode b_Va_isNamed 3 = .ok (.invokevirtual 56, 3) := by decide +kernel
theorem d_Va_isNamed_6 : decode b_Va_isNamed 6 = .ok (.istore 4, 2) := by decide +kernel
theorem d_Va_isNamed_8 : decode b_Va_isNamed 8 = .ok (.aload_n 0, 1) := by decide +kernel
theorem d_Va_isNamed_9 : decode b_Va_isNamed 9 = .ok (.iload 4, 2) := by decide +kernel
theorem d_Va_isNamed_11 : decode b_Va_isNamed 11 = .ok (.iload_n 2, 1) := by decide +kernel
theorem d_Va_isNamed_12 : decode b_Va_isNamed 12 = .ok (.invokevirtual 60, 3) := by decide +kernel
theorem d_Va_isNamed_15 : decode b_Va_isNamed 15 = .ok (.iload 4, 2) := by decide +kernel
theorem d_Va_isNamed_17 : decode b_Va_isNamed 17 = .ok (.isub, 1) := by decide +kernel
theorem d_Va_isNamed_18 : decode b_Va_isNamed 18 = .ok (.aload_n 3, 1) := by decide +kernel
theorem d_Va_isNamed_19 : decode b_Va_isNamed 19 = .ok (.getfield 20, 3) := by decide +kernel
theorem d_Va_isNamed_22 : decode b_Va_isNamed 22 = .ok (.if_icmp .ne 20, 3) := by decide +kernel
theorem d_Va_isNamed_25 : decode b_Va_isNamed 25 = .ok (.aload_n 0, 1) := by decide +kernel
theorem d_Va_isNamed_26 : decode b_Va_isNamed 26 = .ok (.getfield 14, 3) := by decide +kernel
theorem d_Va_isNamed_29 : decode b_Va_isNamed 29 = .ok (.iload 4, 2) := by decide +kernel
theorem d_Va_isNamed_31 : decode b_Va_isNamed 31 = .ok (.aload_n 3, 1) := by decide +kernel
theorem d_Va_isNamed_32 : decode b_Va_isNamed 32 = .ok (.invokevirtual 63, 3) := by decide +kernel
theorem d_Va_isNamed_35 : decode b_Va_isNamed 35 = .ok (.ifCond .eq 7, 3) := by decide +kernel
theorem d_Va_isNamed_38 : decode b_Va_isNamed 38 = .ok (.iconst 1, 1) := by decide +kernel
theorem d_Va_isNamed_39 : decode b_Va_isNamed 39 = .ok (.goto 4, 3) := by decide +kernel
theorem d_Va_isNamed_42 : decode b_Va_isNamed 42 = .ok (.iconst 0, 1) := by decide +kernel
theorem d_Va_isNamed_43 : decode b_Va_isNamed 43 = .ok (.ireturn, 1) := by decide +kernel
theorem d_Va_behindBlanks_0 : decode b_Va_behindBlanks 0 = .ok (.iload_n 1, 1) := by decide +kernel
theorem d_Va_behindBlanks_1 : decode b_Va_behindBlanks 1 = .ok (.istore_n 3, 1) := by decide +kernel
theorem d_Va_behindBlanks_2 : decode b_Va_behindBlanks 2 = .ok (.iload_n 3, 1) := by decide +kernel
theorem d_Va_behindBlanks_3 : decode b_Va_behindBlanks 3 = .ok (.iload_n 2, 1) := by decide +kernel
theorem d_Va_behindBlanks_4 : decode b_Va_behindBlanks 4 = .ok (.if_icmp .ge 23, 3) := by decide +kernel
theorem d_Va_behindBlanks_7 : decode b_Va_behindBlanks 7 = .ok (.aload_n 0, 1) := by decide +kernel
theorem d_Va_behindBlanks_8 : decode b_Va_behindBlanks 8 = .ok (.getfield 14, 3) := by decide +kernel
theorem d_Va_behindBlanks_11 : decode b_Va_behindBlanks 11 = .ok (.iload_n 3, 1) := by decide +kernel
theorem d_Va_behindBlanks_12 : decode b_Va_behindBlanks 12 = .ok (.invokevirtual 32, 3) := by decide +kernel
theorem d_Va_behindBlanks_15 : decode b_Va_behindBlanks 15 = .ok (.invokestatic 52, 3) := by decide +kernel
theorem d_Va_behindBlanks_18 : decode b_Va_behindBlanks 18 = .ok (.ifCond .eq 9, 3) := by decide +kernel
theorem d_Va_behindBlanks_21 : decode b_Va_behindBlanks 21 = .ok (.iinc 3 1, 3) := by decide +kernel
theorem d_Va_behindBlanks_24 : decode b_Va_behindBlanks 24 = .ok (.goto (-22), 3) := by decide +kernel
theorem d_Va_behindBlanks_27 : decode b_Va_behindBlanks 27 = .ok (.iload_n 3, 1) := by decide +kernel
theorem d_Va_behindBlanks_28 : decode b_Va_behindBlanks 28 = .ok (.ireturn, 1) := by decide +kernel
theorem d_Va_aheadOfBlanks_0 : decode b_Va_aheadOfBlanks 0 = .ok (.iload_n 2, 1) := by decide +kernel
theorem d_Va_aheadOfBlanks_1 : decode b_Va_aheadOfBlanks 1 = .ok (.istore_n 3, 1) := by decide +kernel
theorem d_Va_aheadOfBlanks_2 : decode b_Va_aheadOfBlanks 2 = .ok (.iload_n 3, 1) := by decide +kernel
theorem d_Va_aheadOfBlanks_3 : decode b_Va_aheadOfBlanks 3 = .ok (.iload_n 1, 1) := by decide +kernel
theorem d_Va_aheadOfBlanks_4 : decode b_Va_aheadOfBlanks 4 = .ok (.if_icmp .le 25, 3) := by decide +kernel
theorem d_Va_aheadOfBlanks_7 : decode b_Va_aheadOfBlanks 7 = .ok (.aload_n 0, 1) := by decide +kernel
theorem d_Va_aheadOfBlanks_8 : decode b_Va_aheadOfBlanks 8 = .ok (.getfield 14, 3) := by decide +kernel
theorem d_Va_aheadOfBlanks_11 : decode b_Va_aheadOfBlanks 11 = .ok (.iload_n 3, 1) := by decide +kernel
theorem d_Va_aheadOfBlanks_12 : decode b_Va_aheadOfBlanks 12 = .ok (.iconst 1, 1) := by decide +kernel
theorem d_Va_aheadOfBlanks_13 : decode b_Va_aheadOfBlanks 13 = .ok (.isub, 1) := by decide +kernel
theorem d_Va_aheadOfBlanks_14 : decode b_Va_aheadOfBlanks 14 = .ok (.invokevirtual 32, 3) := by decide +kernel
theorem d_Va_aheadOfBlanks_17 : decode b_Va_aheadOfBlanks 17 = .ok (.invokestatic 52, 3) := by decide +kernel
theorem d_Va_aheadOfBlanks_20 : decode b_Va_aheadOfBlanks 20 = .ok (.ifCond .eq 9, 3) := by decide +kernel
theorem d_Va_aheadOfBlanks_23 : decode b_Va_aheadOfBlanks 23 = .ok (.iinc 3 (-1), 3) := by decide +kernel
theorem d_Va_aheadOfBlanks_26 : decode b_Va_aheadOfBlanks 26 = .ok (.goto (-24), 3) := by decide +kernel
theorem d_Va_aheadOfBlanks_29 : decode b_Va_aheadOfBlanks 29 = .ok (.iload_n 3, 1) := by decide +kernel
theorem d_Va_aheadOfBlanks_30 : decode b_Va_aheadOfBlanks 30 = .ok (.ireturn, 1) := by decide +kernel
theorem d_Va_keep_0 : decode b_Va_keep 0 = .ok (.aload_n 0, 1) := by decide +kernel
theorem d_Va_keep_1 : decode b_Va_keep 1 = .ok (.iload_n 1, 1) := by decide +kernel
theorem d_Va_keep_2 : decode b_Va_keep 2 = .ok (.iload_n 2, 1) := by decide +kernel
theorem d_Va_keep_3 : decode b_Va_keep 3 = .ok (.invokevirtual 56, 3) := by decide +kernel
theorem d_Va_keep_6 : decode b_Va_keep 6 = .ok (.istore_n 3, 1) := by decide +kernel
theorem d_Va_keep_7 : decode b_Va_keep 7 = .ok (.aload_n 0, 1) := by decide +kernel
theorem d_Va_keep_8 : decode b_Va_keep 8 = .ok (.iload_n 3, 1) := by decide +kernel
theorem d_Va_keep_9 : decode b_Va_keep 9 = .ok (.iload_n 2, 1) := by decide +kernel
theorem d_Va_keep_10 : decode b_Va_keep 10 = .ok (.invokevirtual 60, 3) := by decide +kernel
theorem d_Va_keep_13 : decode b_Va_keep 13 = .ok (.istore 4, 2) := by decide +kernel
theorem d_Va_keep_15 : decode b_Va_keep 15 = .ok (.iload_n 3, 1) := by decide +kernel
theorem d_Va_keep_16 : decode b_Va_keep 16 = .ok (.istore 5, 2) := by decide +kernel
theorem d_Va_keep_18 : decode b_Va_keep 18 = .ok (.iload 5, 2) := by decide +kernel
theorem d_Va_keep_20 : decode b_Va_keep 20 = .ok (.iload 4, 2) := by decide +kernel
theorem d_Va_keep_22 : decode b_Va_keep 22 = .ok (.if_icmp .ge 29, 3) := by decide +kernel
theorem d_Va_keep_25 : decode b_Va_keep 25 = .ok (.aload_n 0, 1) := by decide +kernel
theorem d_Va_keep_26 : decode b_Va_keep 26 = .ok (.getfield 14, 3) := by decide +kernel
theorem d_Va_keep_29 : decode b_Va_keep 29 = .ok (.iload 5, 2) := by decide +kernel
theorem d_Va_keep_31 : decode b_Va_keep 31 = .ok (.iload_n 3, 1) := by decide +kernel
theorem d_Va_keep_32 : decode b_Va_keep 32 = .ok (.isub, 1) := by decide +kernel
theorem d_Va_keep_33 : decode b_Va_keep 33 = .ok (.aload_n 0, 1) := by decide +kernel
theorem d_Va_keep_34 : decode b_Va_keep 34 = .ok (.getfield 14, 3) := by decide +kernel
theorem d_Va_keep_37 : decode b_Va_keep 37 = .ok (.iload 5, 2) := by decide +kernel
theorem d_Va_keep_39 : decode b_Va_keep 39 = .ok (.invokevirtual 32, 3) := by decide +kernel
theorem d_Va_keep_42 : decode b_Va_keep 42 = .ok (.invokevirtual 39, 3) := by decide +kernel
theorem d_Va_keep_45 : decode b_Va_keep 45 = .ok (.iinc 5 1, 3) := by decide +kernel
theorem d_Va_keep_48 : decode b_Va_keep 48 = .ok (.goto (-30), 3) := by decide +kernel
theorem d_Va_keep_51 : decode b_Va_keep 51 = .ok (.aload_n 0, 1) := by decide +kernel
theorem d_Va_keep_52 : decode b_Va_keep 52 = .ok (.getfield 14, 3) := by decide +kernel
theorem d_Va_keep_55 : decode b_Va_keep 55 = .ok (.iload 4, 2) := by decide +kernel
theorem d_Va_keep_57 : decode b_Va_keep 57 = .ok (.iload_n 3, 1) := by decide +kernel
theorem d_Va_keep_58 : decode b_Va_keep 58 = .ok (.isub, 1) := by decide +kernel
theorem d_Va_keep_59 : decode b_Va_keep 59 = .ok (.invokevirtual 67, 3) := by decide +kernel
theorem d_Va_keep_62 : decode b_Va_keep 62 = .ok (.return_, 1) := by decide +kernel
theorem d_Va_unquote_0 : decode b_Va_unquote 0 = .ok (.aload_n 0, 1) := by decide +kernel
theorem d_Va_unquote_1 : decode b_Va_unquote 1 = .ok (.getfield 14, 3) := by decide +kernel
theorem d_Va_unquote_4 : decode b_Va_unquote 4 = .ok (.iconst 0, 1) := by decide +kernel
theorem d_Va_unquote_5 : decode b_Va_unquote 5 = .ok (.invokevirtual 32, 3) := by decide +kernel
theorem d_Va_unquote_8 : decode b_Va_unquote 8 = .ok (.bipush 34, 2) := by decide +kernel
theorem d_Va_unquote_10 : decode b_Va_unquote 10 = .ok (.if_icmp .ne 10, 3) := by decide +kernel
theorem d_Va_unquote_13 : decode b_Va_unquote 13 = .ok (.aload_n 0, 1) := by decide +kernel
theorem d_Va_unquote_14 : decode b_Va_unquote 14 = .ok (.invokevirtual 70, 3) := by decide +kernel
theorem d_Va_unquote_17 : decode b_Va_unquote 17 = .ok (.goto 4, 3) := by decide +kernel
theorem d_Va_unquote_20 : decode b_Va_unquote 20 = .ok (.iconst (-1), 1) := by decide +kernel
theorem d_Va_unquote_21 : decode b_Va_unquote 21 = .ok (.istore_n 1, 1) := by decide +kernel
theorem d_Va_unquote_22 : decode b_Va_unquote 22 = .ok (.iload_n 1, 1) := by decide +kernel
theorem d_Va_unquote_23 : decode b_Va_unquote 23 = .ok (.iconst (-1), 1) := by decide +kernel
theorem d_Va_unquote_24 : decode b_Va_unquote 24 = .ok (.if_icmp .ne 4, 3) := by decide +kernel
theorem d_Va_unquote_27 : decode b_Va_unquote 27 = .ok (.return_, 1) := by decide +kernel
theorem d_Va_unquote_28 : decode b_Va_unquote 28 = .ok (.iconst 0, 1) := by decide +kernel
theorem d_Va_unquote_29 : decode b_Va_unquote 29 = .ok (.istore_n 2, 1) := by decide +kernel
theorem d_Va_unquote_30 : decode b_Va_unquote 30 = .ok (.iconst 1, 1) := by decide +kernel
theorem d_Va_unquote_31 : decode b_Va_unquote 31 = .ok (.istore_n 3, 1) := by decide +kernel
theorem d_Va_unquote_32 : decode b_Va_unquote 32 = .ok (.iload_n 3, 1) := by decide +kernel
theorem d_Va_unquote_33 : decode b_Va_unquote 33 = .ok (.iload_n 1, 1) := by decide +kernel
theorem d_Va_unquote_34 : decode b_Va_unquote 34 = .ok (.if_icmp .ge 44, 3) := by decide +kernel
theorem d_Va_unquote_37 : decode b_Va_unquote 37 = .ok (.aload_n 0, 1) := by decide +kernel
theorem d_Va_unquote_38 : decode b_Va_unquote 38 = .ok (.getfield 14, 3) := by decide +kernel
theorem d_Va_unquote_41 : decode b_Va_unquote 41 = .ok (.iload_n 3, 1) := by decide +kernel
theorem d_Va_unquote_42 : decode b_Va_unquote 42 = .ok (.invokevirtual 32, 3) := by decide +kernel
theorem d_Va_unquote_45 : decode b_Va_unquote 45 = .ok (.bipush 92, 2) := by decide +kernel
theorem d_Va_unquote_47 : decode b_Va_unquote 47 = .ok (.if_icmp .ne 6, 3) := by decide +kernel
theorem d_Va_unquote_50 : decode b_Va_unquote 50 = .ok (.iinc 3 1, 3) := by decide +kernel
theorem d_Va_unquote_53 : decode b_Va_unquote 53 = .ok (.aload_n 0, 1) := by decide +kernel
theorem d_Va_unquote_54 : decode b_Va_unquote 54 = .ok (.getfield 14, 3) := by decide +kernel
theorem d_Va_unquote_57 : decode b_Va_unquote 57 = .ok (.iload_n 2, 1) := by decide +kernel
theorem d_Va_unquote_58 : decode b_Va_unquote 58 = .ok (.aload_n 0, 1) := by decide +kernel
theorem d_Va_unquote_59 : decode b_Va_unquote 59 = .ok (.getfield 14, 3) := by decide +kernel
theorem d_Va_unquote_62 : decode b_Va_unquote 62 = .ok (.iload_n 3, 1) := by decide +kernel
theorem d_Va_unquote_63 : decode b_Va_unquote 63 = .ok (.invokevirtual 32, 3) := by decide +kernel
theorem d_Va_unquote_66 : decode b_Va_unquote 66 = .ok (.invokevirtual 39, 3) := by decide +kernel
theorem d_Va_unquote_69 : decode b_Va_unquote 69 = .ok (.iinc 2 1, 3) := by decide +kernel
theorem d_Va_unquote_72 : decode b_Va_unquote 72 = .ok (.iinc 3 1, 3) := by decide +kernel
theorem d_Va_unquote_75 : decode b_Va_unquote 75 = .ok (.goto (-43), 3) := by decide +kernel
theorem d_Va_unquote_78 : decode b_Va_unquote 78 = .ok (.aload_n 0, 1) := by decide +kernel
theorem d_Va_unquote_79 : decode b_Va_unquote 79 = .ok (.getfield 14, 3) := by decide +kernel
theorem d_Va_unquote_82 : decode b_Va_unquote 82 = .ok (.iload_n 2, 1) := by decide +kernel
theorem d_Va_unquote_83 : decode b_Va_unquote 83 = .ok (.invokevirtual 67, 3) := by decide +kernel
theorem d_Va_unquote_86 : decode b_Va_unquote 86 = .ok (.return_, 1) := by decide +kernel
