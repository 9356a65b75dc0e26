theorem d_Mo_unquote_0 : decode b_Mo_unquote 0 = .ok (.aload_n 0, 1) := by decide +kernel
theorem d_Mo_unquote_1 : decode b_Mo_unquote 1 = .ok (.getfield 163, 3) := by decide +kernel
theorem d_Mo_unquote_4 : decode b_Mo_unquote 4 = .ok (.aload_n 0, 1) := by decide +kernel
theorem d_Mo_unquote_5 : decode b_Mo_unquote 5 = .ok (.getfield 166, 3) := by decide +kernel
theorem d_Mo_unquote_8 : decode b_Mo_unquote 8 = .ok (.if_icmp .ge 21, 3) := by decide +kernel
theorem d_Mo_unquote_11 : decode b_Mo_unquote 11 = .ok (.aload_n 0, 1) := by decide +kernel
theorem d_Mo_unquote_12 : decode b_Mo_unquote 12 = .ok (.getfield 117, 3) := by decide +kernel
theorem d_Mo_unquote_15 : decode b_Mo_unquote 15 = .ok (.aload_n 0, 1) := by decide +kernel
theorem d_Mo_unquote_16 : decode b_Mo_unquote 16 = .ok (.getfield 163, 3) := by decide +kernel
theorem d_Mo_unquote_19 : decode b_Mo_unquote 19 = .ok (.baload, 1) := by decide +kernel
theorem d_Mo_unquote_20 : decode b_Mo_unquote 20 = .ok (.bipush 34, 2) := by decide +kernel
theorem d_Mo_unquote_22 : decode b_Mo_unquote 22 = .ok (.if_icmp .ne 7, 3) := by decide +kernel
theorem d_Mo_unquote_25 : decode b_Mo_unquote 25 = .ok (.iconst 1, 1) := by decide +kernel
theorem d_Mo_unquote_26 : decode b_Mo_unquote 26 = .ok (.goto 4, 3) := by decide +kernel
theorem d_Mo_unquote_29 : decode b_Mo_unquote 29 = .ok (.iconst 0, 1) := by decide +kernel
theorem d_Mo_unquote_30 : decode b_Mo_unquote 30 = .ok (.istore_n 1, 1) := by decide +kernel
theorem d_Mo_unquote_31 : decode b_Mo_unquote 31 = .ok (.aload_n 0, 1) := by decide +kernel
theorem d_Mo_unquote_32 : decode b_Mo_unquote 32 = .ok (.getfield 163, 3) := by decide +kernel
theorem d_Mo_unquote_35 : decode b_Mo_unquote 35 = .ok (.iconst 1, 1) := by decide +kernel
theorem d_Mo_unquote_36 : decode b_Mo_unquote 36 = .ok (.iadd, 1) := by decide +kernel
theorem d_Mo_unquote_37 : decode b_Mo_unquote 37 = .ok (.istore_n 2, 1) := by decide +kernel
theorem d_Mo_unquote_38 : decode b_Mo_unquote 38 = .ok (.aload_n 0, 1) := by decide +kernel
theorem d_Mo_unquote_39 : decode b_Mo_unquote 39 = .ok (.iconst 0, 1) := by decide +kernel
theorem d_Mo_unquote_40 : decode b_Mo_unquote 40 = .ok (.putfield 180, 3) := by decide +kernel
theorem d_Mo_unquote_43 : decode b_Mo_unquote 43 = .ok (.iload_n 1, 1) := by decide +kernel
theorem d_Mo_unquote_44 : decode b_Mo_unquote 44 = .ok (.ifCond .eq 75, 3) := by decide +kernel
theorem d_Mo_unquote_47 : decode b_Mo_unquote 47 = .ok (.iload_n 2, 1) := by decide +kernel
theorem d_Mo_unquote_48 : decode b_Mo_unquote 48 = .ok (.aload_n 0, 1) := by decide +kernel
theorem d_Mo_unquote_49 : decode b_Mo_unquote 49 = .ok (.getfield 166, 3) := by decide +kernel
theorem d_Mo_unquote_52 : decode b_Mo_unquote 52 = .ok (.if_icmp .ge 67, 3) := by decide +kernel
theorem d_Mo_unquote_55 : decode b_Mo_unquote 55 = .ok (.aload_n 0, 1) := by decide +kernel
theorem d_Mo_unquote_56 : decode b_Mo_unquote 56 = .ok (.getfield 117, 3) := by decide +kernel
theorem d_Mo_unquote_59 : decode b_Mo_unquote 59 = .ok (.iload_n 2, 1) := by decide +kernel
theorem d_Mo_unquote_60 : decode b_Mo_unquote 60 = .ok (.baload, 1) := by decide +kernel
theorem d_Mo_unquote_61 : decode b_Mo_unquote 61 = .ok (.bipush 34, 2) := by decide +kernel
theorem d_Mo_unquote_63 : decode b_Mo_unquote 63 = .ok (.if_icmp .eq 56, 3) := by decide +kernel
theorem d_Mo_unquote_66 : decode b_Mo_unquote 66 = .ok (.aload_n 0, 1) := by decide +kernel
theorem d_Mo_unquote_67 : decode b_Mo_unquote 67 = .ok (.getfield 117, 3) := by decide +kernel
theorem d_Mo_unquote_70 : decode b_Mo_unquote 70 = .ok (.iload_n 2, 1) := by decide +kernel
theorem d_Mo_unquote_71 : decode b_Mo_unquote 71 = .ok (.baload, 1) := by decide +kernel
theorem d_Mo_unquote_72 : decode b_Mo_unquote 72 = .ok (.bipush 92, 2) := by decide +kernel
theorem d_Mo_unquote_74 : decode b_Mo_unquote 74 = .ok (.if_icmp .ne 6, 3) := by decide +kernel
theorem d_Mo_unquote_77 : decode b_Mo_unquote 77 = .ok (.iinc 2 1, 3) := by decide +kernel
theorem d_Mo_unquote_80 : decode b_Mo_unquote 80 = .ok (.iload_n 2, 1) := by decide +kernel
theorem d_Mo_unquote_81 : decode b_Mo_unquote 81 = .ok (.aload_n 0, 1) := by decide +kernel
theorem d_Mo_unquote_82 : decode b_Mo_unquote 82 = .ok (.getfield 166, 3) := by decide +kernel
theorem d_Mo_unquote_85 : decode b_Mo_unquote 85 = .ok (.if_icmp .ge 28, 3) := by decide +kernel
theorem d_Mo_unquote_88 : decode b_Mo_unquote 88 = .ok (.aload_n 0, 1) := by decide +kernel
theorem d_Mo_unquote_89 : decode b_Mo_unquote 89 = .ok (.getfield 126, 3) := by decide +kernel
theorem d_Mo_unquote_92 : decode b_Mo_unquote 92 = .ok (.aload_n 0, 1) := by decide +kernel
theorem d_Mo_unquote_93 : decode b_Mo_unquote 93 = .ok (.getfield 180, 3) := by decide +kernel
theorem d_Mo_unquote_96 : decode b_Mo_unquote 96 = .ok (.aload_n 0, 1) := by decide +kernel
theorem d_Mo_unquote_97 : decode b_Mo_unquote 97 = .ok (.getfield 117, 3) := by decide +kernel
theorem d_Mo_unquote_100 : decode b_Mo_unquote 100 = .ok (.iload_n 2, 1) := by decide +kernel
theorem d_Mo_unquote_101 : decode b_Mo_unquote 101 = .ok (.baload, 1) := by decide +kernel
theorem d_Mo_unquote_102 : decode b_Mo_unquote 102 = .ok (.bastore, 1) := by decide +kernel
theorem d_Mo_unquote_103 : decode b_Mo_unquote 103 = .ok (.aload_n 0, 1) := by decide +kernel
theorem d_Mo_unquote_104 : decode b_Mo_unquote 104 = .ok (.dup, 1) := by decide +kernel
theorem d_Mo_unquote_105 : decode b_Mo_unquote 105 = .ok (.getfield 180, 3) := by decide +kernel
theorem d_Mo_unquote_108 : decode b_Mo_unquote 108 = .ok (.iconst 1, 1) := by decide +kernel
theorem d_Mo_unquote_109 : decode b_Mo_unquote 109 = .ok (.iadd, 1) := by decide +kernel
theorem d_Mo_unquote_110 : decode b_Mo_unquote 110 = .ok (.putfield 180, 3) := by decide +kernel
theorem d_Mo_unquote_113 : decode b_Mo_unquote 113 = .ok (.iinc 2 1, 3) := by decide +kernel
theorem d_Mo_unquote_116 : decode b_Mo_unquote 116 = .ok (.goto (-73), 3) := by decide +kernel
theorem d_Mo_unquote_119 : decode b_Mo_unquote 119 = .ok (.iload_n 1, 1) := by decide +kernel
theorem d_Mo_unquote_120 : decode b_Mo_unquote 120 = .ok (.ifCond .eq 11, 3) := by decide +kernel
theorem d_Mo_unquote_123 : decode b_Mo_unquote 123 = .ok (.iload_n 2, 1) := by decide +kernel
theorem d_Mo_unquote_124 : decode b_Mo_unquote 124 = .ok (.aload_n 0, 1) := by decide +kernel
theorem d_Mo_unquote_125 : decode b_Mo_unquote 125 = .ok (.getfield 166, 3) := by decide +kernel
theorem d_Mo_unquote_128 : decode b_Mo_unquote 128 = .ok (.if_icmp .lt 16, 3) := by decide +kernel
theorem d_Mo_unquote_131 : decode b_Mo_unquote 131 = .ok (.aload_n 0, 1) := by decide +kernel
theorem d_Mo_unquote_132 : decode b_Mo_unquote 132 = .ok (.aload_n 0, 1) := by decide +kernel
theorem d_Mo_unquote_133 : decode b_Mo_unquote 133 = .ok (.getfield 163, 3) := by decide +kernel
theorem d_Mo_unquote_136 : decode b_Mo_unquote 136 = .ok (.aload_n 0, 1) := by decide +kernel
theorem d_Mo_unquote_137 : decode b_Mo_unquote 137 = .ok (.getfield 166, 3) := by decide +kernel
theorem d_Mo_unquote_140 : decode b_Mo_unquote 140 = .ok (.iconst 0, 1) := by decide +kernel
theorem d_Mo_unquote_141 : decode b_Mo_unquote 141 = .ok (.invokevirtual 193, 3) := by decide +kernel
theorem d_Mo_unquote_144 : decode b_Mo_unquote 144 = .ok (.return_, 1) := by decide +kernel
theorem d_Mo_isGot_0 : decode b_Mo_isGot 0 = .ok (.aload_n 0, 1) := by decide +kernel
theorem d_Mo_isGot_1 : decode b_Mo_isGot 1 = .ok (.getfield 126, 3) := by decide +kernel
theorem d_Mo_isGot_4 : decode b_Mo_isGot 4 = .ok (.iconst 0, 1) := by decide +kernel
theorem d_Mo_isGot_5 : decode b_Mo_isGot 5 = .ok (.aload_n 0, 1) := by decide +kernel
theorem d_Mo_isGot_6 : decode b_Mo_isGot 6 = .ok (.getfield 180, 3) := by decide +kernel
theorem d_Mo_isGot_9 : decode b_Mo_isGot 9 = .ok (.aload_n 1, 1) := by decide +kernel
theorem d_Mo_isGot_10 : decode b_Mo_isGot 10 = .ok (.aload_n 1, 1) := by decide +kernel
theorem d_Mo_isGot_11 : decode b_Mo_isGot 11 = .ok (.arraylength, 1) := by decide +kernel
theorem d_Mo_isGot_12 : decode b_Mo_isGot 12 = .ok (.invokestatic 159, 3) := by decide +kernel
theorem d_Mo_isGot_15 : decode b_Mo_isGot 15 = .ok (.ireturn, 1) := by decide +kernel
theorem d_Mo_begins_0 : decode b_Mo_begins 0 = .ok (.aload_n 0, 1) := by decide +kernel
theorem d_Mo_begins_1 : decode b_Mo_begins 1 = .ok (.getfield 180, 3) := by decide +kernel
theorem d_Mo_begins_4 : decode b_Mo_begins 4 = .ok (.aload_n 1, 1) := by decide +kernel
theorem d_Mo_begins_5 : decode b_Mo_begins 5 = .ok (.arraylength, 1) := by decide +kernel
theorem d_Mo_begins_6 : decode b_Mo_begins 6 = .ok (.if_icmp .lt 23, 3) := by decide +kernel
theorem d_Mo_begins_9 : decode b_Mo_begins 9 = .ok (.aload_n 0, 1) := by decide +kernel
theorem d_Mo_begins_10 : decode b_Mo_begins 10 = .ok (.getfield 126, 3) := by decide +kernel
theorem d_Mo_begins_13 : decode b_Mo_begins 13 = .ok (.iconst 0, 1) := by decide +kernel
theorem d_Mo_begins_14 : decode b_Mo_begins 14 = .ok (.aload_n 1, 1) := by decide +kernel
theorem d_Mo_begins_15 : decode b_Mo_begins 15 = .ok (.arraylength, 1) := by decide +kernel
theorem d_Mo_begins_16 : decode b_Mo_begins 16 = .ok (.aload_n 1, 1) := by decide +kernel
theorem d_Mo_begins_17 : decode b_Mo_begins 17 = .ok (.aload_n 1, 1) := by decide +kernel
theorem d_Mo_begins_18 : decode b_Mo_begins 18 = .ok (.arraylength, 1) := by decide +kernel
theorem d_Mo_begins_19 : decode b_Mo_begins 19 = .ok (.invokestatic 159, 3) := by decide +kernel
theorem d_Mo_begins_22 : decode b_Mo_begins 22 = .ok (.ifCond .eq 7, 3) := by decide +kernel
theorem d_Mo_begins_25 : decode b_Mo_begins 25 = .ok (.iconst 1, 1) := by decide +kernel
theorem d_Mo_begins_26 : decode b_Mo_begins 26 = .ok (.goto 4, 3) := by decide +kernel
theorem d_Mo_begins_29 : decode b_Mo_begins 29 = .ok (.iconst 0, 1) := by decide +kernel
theorem d_Mo_begins_30 : decode b_Mo_begins 30 = .ok (.ireturn, 1) := by decide +kernel
theorem d_Mo_isType_0 : decode b_Mo_isType 0 = .ok (.iconst 0, 1) := by decide +kernel
theorem d_Mo_isType_1 : decode b_Mo_isType 1 = .ok (.istore_n 1, 1) := by decide +kernel
theorem d_Mo_isType_2 : decode b_Mo_isType 2 = .ok (.iconst 0, 1) := by decide +kernel
theorem d_Mo_isType_3 : decode b_Mo_isType 3 = .ok (.istore_n 2, 1) := by decide +kernel
theorem d_Mo_isType_4 : decode b_Mo_isType 4 = .ok (.iload_n 2, 1) := by decide +kernel
theorem d_Mo_isType_5 : decode b_Mo_isType 5 = .ok (.aload_n 0, 1) := by decide +kernel
theorem d_Mo_isType_6 : decode b_Mo_isType 6 = .ok (.getfield 180, 3) := by decide +kernel
theorem d_Mo_isType_9 : decode b_Mo_isType 9 = .ok (.if_icmp .ge 58, 3) := by decide +kernel
theorem d_Mo_isType_12 : decode b_Mo_isType 12 = .ok (.aload_n 0, 1) := by decide +kernel
theorem d_Mo_isType_13 : decode b_Mo_isType 13 = .ok (.getfield 126, 3) := by decide +kernel
theorem d_Mo_isType_16 : decode b_Mo_isType 16 = .ok (.iload_n 2, 1) := by decide +kernel
theorem d_Mo_isType_17 : decode b_Mo_isType 17 = .ok (.baload, 1) := by decide +kernel
theorem d_Mo_isType_18 : decode b_Mo_isType 18 = .ok (.invokestatic 153, 3) := by decide +kernel
theorem d_Mo_isType_21 : decode b_Mo_isType 21 = .ok (.ifCond .eq 5, 3) := by decide +kernel
theorem d_Mo_isType_24 : decode b_Mo_isType 24 = .ok (.iconst 0, 1) := by decide +kernel
theorem d_Mo_isType_25 : decode b_Mo_isType 25 = .ok (.ireturn, 1) := by decide +kernel
theorem d_Mo_isType_26 : decode b_Mo_isType 26 = .ok (.iload_n 1, 1) := by decide +kernel
theorem d_Mo_isType_27 : decode b_Mo_isType 27 = .ok (.ifCond .ne 28, 3) := by decide +kernel
theorem d_Mo_isType_30 : decode b_Mo_isType 30 = .ok (.aload_n 0, 1) := by decide +kernel
theorem d_Mo_isType_31 : decode b_Mo_isType 31 = .ok (.getfield 126, 3) := by decide +kernel
theorem d_Mo_isType_34 : decode b_Mo_isType 34 = .ok (.iload_n 2, 1) := by decide +kernel
theorem d_Mo_isType_35 : decode b_Mo_isType 35 = .ok (.baload, 1) := by decide +kernel
theorem d_Mo_isType_36 : decode b_Mo_isType 36 = .ok (.bipush 47, 2) := by decide +kernel
theorem d_Mo_isType_38 : decode b_Mo_isType 38 = .ok (.if_icmp .ne 21, 3) := by decide +kernel
theorem d_Mo_isType_41 : decode b_Mo_isType 41 = .ok (.iload_n 2, 1) := by decide +kernel
theorem d_Mo_isType_42 : decode b_Mo_isType 42 = .ok (.ifCond .le 17, 3) := by decide +kernel
theorem d_Mo_isType_45 : decode b_Mo_isType 45 = .ok (.iload_n 2, 1) := by decide +kernel
theorem d_Mo_isType_46 : decode b_Mo_isType 46 = .ok (.aload_n 0, 1) := by decide +kernel
theorem d_Mo_isType_47 : decode b_Mo_isType 47 = .ok (.getfield 180, 3) := by decide +kernel
theorem d_Mo_isType_50 : decode b_Mo_isType 50 = .ok (.iconst 1, 1) := by decide +kernel
theorem d_Mo_isType_51 : decode b_Mo_isType 51 = .ok (.isub, 1) := by decide +kernel
theorem d_Mo_isType_52 : decode b_Mo_isType 52 = .ok (.if_icmp .ge 7, 3) := by decide +kernel
theorem d_Mo_isType_55 : decode b_Mo_isType 55 = .ok (.iconst 1, 1) := by decide +kernel
theorem d_Mo_isType_56 : decode b_Mo_isType 56 = .ok (.goto 4, 3) := by decide +kernel
theorem d_Mo_isType_59 : decode b_Mo_isType 59 = .ok (.iconst 0, 1) := by decide +kernel
theorem d_Mo_isType_60 : decode b_Mo_isType 60 = .ok (.istore_n 1, 1) := by decide +kernel
theorem d_Mo_isType_61 : decode b_Mo_isType 61 = .ok (.iinc 2 1, 3) := by decide +kernel
theorem d_Mo_isType_64 : decode b_Mo_isType 64 = .ok (.goto (-60), 3) := by decide +kernel
theorem d_Mo_isType_67 : decode b_Mo_isType 67 = .ok (.iload_n 1, 1) := by decide +kernel
theorem d_Mo_isType_68 : decode b_Mo_isType 68 = .ok (.ireturn, 1) := by decide +kernel
theorem d_Mo_set_0 : decode b_Mo_set 0 = .ok (.aload_n 0, 1) := by decide +kernel
theorem d_Mo_set_1 : decode b_Mo_set 1 = .ok (.aload_n 1, 1) := by decide +kernel
theorem d_Mo_set_2 : decode b_Mo_set 2 = .ok (.arraylength, 1) := by decide +kernel
theorem d_Mo_set_3 : decode b_Mo_set 3 = .ok (.putfield 180, 3) := by decide +kernel
theorem d_Mo_set_6 : decode b_Mo_set 6 = .ok (.iconst 0, 1) := by decide +kernel
theorem d_Mo_set_7 : decode b_Mo_set 7 = .ok (.istore_n 2, 1) := by decide +kernel
theorem d_Mo_set_8 : decode b_Mo_set 8 = .ok (.iload_n 2, 1) := by decide +kernel
theorem d_Mo_set_9 : decode b_Mo_set 9 = .ok (.aload_n 1, 1) := by decide +kernel
theorem d_Mo_set_10 : decode b_Mo_set 10 = .ok (.arraylength, 1) := by decide +kernel
theorem d_Mo_set_11 : decode b_Mo_set 11 = .ok (.if_icmp .ge 19, 3) := by decide +kernel
theorem d_Mo_set_14 : decode b_Mo_set 14 = .ok (.aload_n 0, 1) := by decide +kernel
theorem d_Mo_set_15 : decode b_Mo_set 15 = .ok (.getfield 126, 3) := by decide +kernel
theorem d_Mo_set_18 : decode b_Mo_set 18 = .ok (.iload_n 2, 1) := by decide +kernel
theorem d_Mo_set_19 : decode b_Mo_set 19 = .ok (.aload_n 1, 1) := by decide +kernel
theorem d_Mo_set_20 : decode b_Mo_set 20 = .ok (.iload_n 2, 1) := by decide +kernel
theorem d_Mo_set_21 : decode b_Mo_set 21 = .ok (.iaload, 1) := by decide +kernel
theorem d_Mo_set_22 : decode b_Mo_set 22 = .ok (.i2b, 1) := by decide +kernel
theorem d_Mo_set_23 : decode b_Mo_set 23 = .ok (.bastore, 1) := by decide +kernel
theorem d_Mo_set_24 : decode b_Mo_set 24 = .ok (.iinc 2 1, 3) := by decide +kernel
theorem d_Mo_set_27 : decode b_Mo_set 27 = .ok (.goto (-19), 3) := by decide +kernel
theorem d_Mo_set_30 : decode b_Mo_set 30 = .ok (.return_, 1) := by decide +kernel
theorem d_Mo_type_0 : decode b_Mo_type 0 = .ok (.aload_n 0, 1) := by decide +kernel
theorem d_Mo_type_1 : decode b_Mo_type 1 = .ok (.iload_n 1, 1) := by decide +kernel
theorem d_Mo_type_2 : decode b_Mo_type 2 = .ok (.aload_n 0, 1) := by decide +kernel
theorem d_Mo_type_3 : decode b_Mo_type 3 = .ok (.getfield 7, 3) := by decide +kernel
theorem d_Mo_type_6 : decode b_Mo_type 6 = .ok (.invokevirtual 200, 3) := by decide +kernel
theorem d_Mo_type_9 : decode b_Mo_type 9 = .ok (.aload_n 0, 1) := by decide +kernel
theorem d_Mo_type_10 : decode b_Mo_type 10 = .ok (.invokevirtual 204, 3) := by decide +kernel
theorem d_Mo_type_13 : decode b_Mo_type 13 = .ok (.ifCond .eq 4, 3) := by decide +kernel
theorem d_Mo_type_16 : decode b_Mo_type 16 = .ok (.return_, 1) := by decide +kernel
theorem d_Mo_type_17 : decode b_Mo_type 17 = .ok (.iconst 0, 1) := by decide +kernel
theorem d_Mo_type_18 : decode b_Mo_type 18 = .ok (.istore_n 2, 1) := by decide +kernel
theorem d_Mo_type_19 : decode b_Mo_type 19 = .ok (.aload_n 0, 1) := by decide +kernel
theorem d_Mo_type_20 : decode b_Mo_type 20 = .ok (.getfield 89, 3) := by decide +kernel
theorem d_Mo_type_23 : decode b_Mo_type 23 = .ok (.iload_n 1, 1) := by decide +kernel
theorem d_Mo_type_24 : decode b_Mo_type 24 = .ok (.iaload, 1) := by decide +kernel
theorem d_Mo_type_25 : decode b_Mo_type 25 = .ok (.iconst (-1), 1) := by decide +kernel
theorem d_Mo_type_26 : decode b_Mo_type 26 = .ok (.if_icmp .eq 41, 3) := by decide +kernel
theorem d_Mo_type_29 : decode b_Mo_type 29 = .ok (.aload_n 0, 1) := by decide +kernel
theorem d_Mo_type_30 : decode b_Mo_type 30 = .ok (.getfield 95, 3) := by decide +kernel
theorem d_Mo_type_33 : decode b_Mo_type 33 = .ok (.aload_n 0, 1) := by decide +kernel
theorem d_Mo_type_34 : decode b_Mo_type 34 = .ok (.getfield 89, 3) := by decide +kernel
theorem d_Mo_type_37 : decode b_Mo_type 37 = .ok (.iload_n 1, 1) := by decide +kernel
theorem d_Mo_type_38 : decode b_Mo_type 38 = .ok (.iaload, 1) := by decide +kernel
theorem d_Mo_type_39 : decode b_Mo_type 39 = .ok (.iaload, 1) := by decide +kernel
theorem d_Mo_type_40 : decode b_Mo_type 40 = .ok (.iconst 1, 1) := by decide +kernel
theorem d_Mo_type_41 : decode b_Mo_type 41 = .ok (.if_icmp .ne 26, 3) := by decide +kernel
theorem d_Mo_type_44 : decode b_Mo_type 44 = .ok (.aload_n 0, 1) := by decide +kernel
theorem d_Mo_type_45 : decode b_Mo_type 45 = .ok (.aload_n 0, 1) := by decide +kernel
theorem d_Mo_type_46 : decode b_Mo_type 46 = .ok (.getfield 89, 3) := by decide +kernel
theorem d_Mo_type_49 : decode b_Mo_type 49 = .ok (.iload_n 1, 1) := by decide +kernel
theorem d_Mo_type_50 : decode b_Mo_type 50 = .ok (.iaload, 1) := by decide +kernel
theorem d_Mo_type_51 : decode b_Mo_type 51 = .ok (.aload_n 0, 1) := by decide +kernel
theorem d_Mo_type_52 : decode b_Mo_type 52 = .ok (.getfield 7, 3) := by decide +kernel
theorem d_Mo_type_55 : decode b_Mo_type 55 = .ok (.invokevirtual 200, 3) := by decide +kernel
theorem d_Mo_type_58 : decode b_Mo_type 58 = .ok (.aload_n 0, 1) := by decide +kernel
theorem d_Mo_type_59 : decode b_Mo_type 59 = .ok (.aload_n 0, 1) := by decide +kernel
theorem d_Mo_type_60 : decode b_Mo_type 60 = .ok (.getfield 40, 3) := by decide +kernel
theorem d_Mo_type_63 : decode b_Mo_type 63 = .ok (.invokevirtual 208, 3) := by decide +kernel
theorem d_Mo_type_66 : decode b_Mo_type 66 = .ok (.istore_n 2, 1) := by decide +kernel
theorem d_Mo_type_67 : decode b_Mo_type 67 = .ok (.aload_n 0, 1) := by decide +kernel
theorem d_Mo_type_68 : decode b_Mo_type 68 = .ok (.iload_n 2, 1) := by decide +kernel
theorem d_Mo_type_69 : decode b_Mo_type 69 = .ok (.ifCond .eq 10, 3) := by decide +kernel
theorem d_Mo_type_72 : decode b_Mo_type 72 = .ok (.aload_n 0, 1) := by decide +kernel
theorem d_Mo_type_73 : decode b_Mo_type 73 = .ok (.getfield 46, 3) := by decide +kernel
theorem d_Mo_type_76 : decode b_Mo_type 76 = .ok (.goto 7, 3) := by decide +kernel
theorem d_Mo_type_79 : decode b_Mo_type 79 = .ok (.aload_n 0, 1) := by decide +kernel
theorem d_Mo_type_80 : decode b_Mo_type 80 = .ok (.getfield 28, 3) := by decide +kernel
theorem d_Mo_type_83 : decode b_Mo_type 83 = .ok (.invokevirtual 212, 3) := by decide +kernel
theorem d_Mo_type_86 : decode b_Mo_type 86 = .ok (.return_, 1) := by decide +kernel
theorem d_Mo_called_0 : decode b_Mo_called 0 = .ok (.aload_n 0, 1) := by decide +kernel
theorem d_Mo_called_1 : decode b_Mo_called 1 = .ok (.iload_n 1, 1) := by decide +kernel
theorem d_Mo_called_2 : decode b_Mo_called 2 = .ok (.aload_n 0, 1) := by decide +kernel
theorem d_Mo_called_3 : decode b_Mo_called 3 = .ok (.getfield 16, 3) := by decide +kernel
theorem d_Mo_called_6 : decode b_Mo_called 6 = .ok (.aload_n 0, 1) := by decide +kernel
theorem d_Mo_called_7 : decode b_Mo_called 7 = .ok (.getfield 16, 3) := by decide +kernel
theorem d_Mo_called_10 : decode b_Mo_called 10 = .ok (.arraylength, 1) := by decide +kernel
theorem d_Mo_called_11 : decode b_Mo_called 11 = .ok (.invokevirtual 186, 3) := by decide +kernel
theorem d_Mo_called_14 : decode b_Mo_called 14 = .ok (.ifCond .eq 20, 3) := by decide +kernel
theorem d_Mo_called_17 : decode b_Mo_called 17 = .ok (.aload_n 0, 1) := by decide +kernel
theorem d_Mo_called_18 : decode b_Mo_called 18 = .ok (.aload_n 0, 1) := by decide +kernel
theorem d_Mo_called_19 : decode b_Mo_called 19 = .ok (.getfield 22, 3) := by decide +kernel
theorem d_Mo_called_22 : decode b_Mo_called 22 = .ok (.aload_n 0, 1) := by decide +kernel
theorem d_Mo_called_23 : decode b_Mo_called 23 = .ok (.getfield 22, 3) := by decide +kernel
theorem d_Mo_called_26 : decode b_Mo_called 26 = .ok (.arraylength, 1) := by decide +kernel
theorem d_Mo_called_27 : decode b_Mo_called 27 = .ok (.invokevirtual 216, 3) := by decide +kernel
theorem d_Mo_called_30 : decode b_Mo_called 30 = .ok (.ifCond .eq 4, 3) := by decide +kernel
theorem d_Mo_called_33 : decode b_Mo_called 33 = .ok (.return_, 1) := by decide +kernel
theorem d_Mo_called_34 : decode b_Mo_called 34 = .ok (.aload_n 0, 1) := by decide +kernel
theorem d_Mo_called_35 : decode b_Mo_called 35 = .ok (.invokevirtual 183, 3) := by decide +kernel
theorem d_Mo_called_38 : decode b_Mo_called 38 = .ok (.aload_n 0, 1) := by decide +kernel
theorem d_Mo_called_39 : decode b_Mo_called 39 = .ok (.iload_n 1, 1) := by decide +kernel
theorem d_Mo_called_40 : decode b_Mo_called 40 = .ok (.aload_n 0, 1) := by decide +kernel
theorem d_Mo_called_41 : decode b_Mo_called 41 = .ok (.getfield 7, 3) := by decide +kernel
theorem d_Mo_called_44 : decode b_Mo_called 44 = .ok (.aload_n 0, 1) := by decide +kernel
theorem d_Mo_called_45 : decode b_Mo_called 45 = .ok (.getfield 7, 3) := by decide +kernel
theorem d_Mo_called_48 : decode b_Mo_called 48 = .ok (.arraylength, 1) := by decide +kernel
theorem d_Mo_called_49 : decode b_Mo_called 49 = .ok (.invokevirtual 186, 3) := by decide +kernel
theorem d_Mo_called_52 : decode b_Mo_called 52 = .ok (.ifCond .eq 23, 3) := by decide +kernel
theorem d_Mo_called_55 : decode b_Mo_called 55 = .ok (.aload_n 0, 1) := by decide +kernel
theorem d_Mo_called_56 : decode b_Mo_called 56 = .ok (.aload_n 0, 1) := by decide +kernel
theorem d_Mo_called_57 : decode b_Mo_called 57 = .ok (.getfield 25, 3) := by decide +kernel
theorem d_Mo_called_60 : decode b_Mo_called 60 = .ok (.aload_n 0, 1) := by decide +kernel
theorem d_Mo_called_61 : decode b_Mo_called 61 = .ok (.getfield 25, 3) := by decide +kernel
theorem d_Mo_called_64 : decode b_Mo_called 64 = .ok (.arraylength, 1) := by decide +kernel
theorem d_Mo_called_65 : decode b_Mo_called 65 = .ok (.invokevirtual 216, 3) := by decide +kernel
theorem d_Mo_called_68 : decode b_Mo_called 68 = .ok (.ifCond .ne 7, 3) := by decide +kernel
theorem d_Mo_called_71 : decode b_Mo_called 71 = .ok (.aload_n 0, 1) := by decide +kernel
theorem d_Mo_called_72 : decode b_Mo_called 72 = .ok (.invokevirtual 183, 3) := by decide +kernel
theorem d_Mo_called_75 : decode b_Mo_called 75 = .ok (.return_, 1) := by decide +kernel
theorem d_Mo_isHung_0 : decode b_Mo_isHung 0 = .ok (.aload_n 0, 1) := by decide +kernel
theorem d_Mo_isHung_1 : decode b_Mo_isHung 1 = .ok (.iload_n 1, 1) := by decide +kernel
theorem d_Mo_isHung_2 : decode b_Mo_isHung 2 = .ok (.aload_n 0, 1) := by decide +kernel
theorem d_Mo_isHung_3 : decode b_Mo_isHung 3 = .ok (.getfield 16, 3) := by decide +kernel
theorem d_Mo_isHung_6 : decode b_Mo_isHung 6 = .ok (.invokevirtual 200, 3) := by decide +kernel
theorem d_Mo_isHung_9 : decode b_Mo_isHung 9 = .ok (.aload_n 0, 1) := by decide +kernel
theorem d_Mo_isHung_10 : decode b_Mo_isHung 10 = .ok (.aload_n 0, 1) := by decide +kernel
theorem d_Mo_isHung_11 : decode b_Mo_isHung 11 = .ok (.getfield 49, 3) := by decide +kernel
theorem d_Mo_isHung_14 : decode b_Mo_isHung 14 = .ok (.invokevirtual 208, 3) := by decide +kernel
theorem d_Mo_isHung_17 : decode b_Mo_isHung 17 = .ok (.ireturn, 1) := by decide +kernel
theorem d_Mo_marked_0 : decode b_Mo_marked 0 = .ok (.aload_n 0, 1) := by decide +kernel
theorem d_Mo_marked_1 : decode b_Mo_marked 1 = .ok (.getfield 71, 3) := by decide +kernel
theorem d_Mo_marked_4 : decode b_Mo_marked 4 = .ok (.iload_n 1, 1) := by decide +kernel
theorem d_Mo_marked_5 : decode b_Mo_marked 5 = .ok (.iaload, 1) := by decide +kernel
theorem d_Mo_marked_6 : decode b_Mo_marked 6 = .ok (.istore_n 2, 1) := by decide +kernel
theorem d_Mo_marked_7 : decode b_Mo_marked 7 = .ok (.aload_n 0, 1) := by decide +kernel
theorem d_Mo_marked_8 : decode b_Mo_marked 8 = .ok (.getfield 74, 3) := by decide +kernel
theorem d_Mo_marked_11 : decode b_Mo_marked 11 = .ok (.iload_n 1, 1) := by decide +kernel
theorem d_Mo_marked_12 : decode b_Mo_marked 12 = .ok (.iaload, 1) := by decide +kernel
theorem d_Mo_marked_13 : decode b_Mo_marked 13 = .ok (.iload_n 2, 1) := by decide +kernel
theorem d_Mo_marked_14 : decode b_Mo_marked 14 = .ok (.isub, 1) := by decide +kernel
theorem d_Mo_marked_15 : decode b_Mo_marked 15 = .ok (.aload_n 0, 1) := by decide +kernel
theorem d_Mo_marked_16 : decode b_Mo_marked 16 = .ok (.getfield 220, 3) := by decide +kernel
theorem d_Mo_marked_19 : decode b_Mo_marked 19 = .ok (.iconst 2, 1) := by decide +kernel
theorem d_Mo_marked_20 : decode b_Mo_marked 20 = .ok (.iadd, 1) := by decide +kernel
theorem d_Mo_marked_21 : decode b_Mo_marked 21 = .ok (.if_icmp .lt 27, 3) := by decide +kernel
theorem d_Mo_marked_24 : decode b_Mo_marked 24 = .ok (.aload_n 0, 1) := by decide +kernel
theorem d_Mo_marked_25 : decode b_Mo_marked 25 = .ok (.getfield 68, 3) := by decide +kernel
theorem d_Mo_marked_28 : decode b_Mo_marked 28 = .ok (.iload_n 2, 1) := by decide +kernel
theorem d_Mo_marked_29 : decode b_Mo_marked 29 = .ok (.baload, 1) := by decide +kernel
theorem d_Mo_marked_30 : decode b_Mo_marked 30 = .ok (.bipush 45, 2) := by decide +kernel
theorem d_Mo_marked_32 : decode b_Mo_marked 32 = .ok (.if_icmp .ne 16, 3) := by decide +kernel
theorem d_Mo_marked_35 : decode b_Mo_marked 35 = .ok (.aload_n 0, 1) := by decide +kernel
theorem d_Mo_marked_36 : decode b_Mo_marked 36 = .ok (.getfield 68, 3) := by decide +kernel
theorem d_Mo_marked_39 : decode b_Mo_marked 39 = .ok (.iload_n 2, 1) := by decide +kernel
theorem d_Mo_marked_40 : decode b_Mo_marked 40 = .ok (.iconst 1, 1) := by decide +kernel
theorem d_Mo_marked_41 : decode b_Mo_marked 41 = .ok (.iadd, 1) := by decide +kernel
theorem d_Mo_marked_42 : decode b_Mo_marked 42 = .ok (.baload, 1) := by decide +kernel
theorem d_Mo_marked_43 : decode b_Mo_marked 43 = .ok (.bipush 45, 2) := by decide +kernel
theorem d_Mo_marked_45 : decode b_Mo_marked 45 = .ok (.if_icmp .eq 5, 3) := by decide +kernel
theorem d_Mo_marked_48 : decode b_Mo_marked 48 = .ok (.iconst 0, 1) := by decide +kernel
theorem d_Mo_marked_49 : decode b_Mo_marked 49 = .ok (.ireturn, 1) := by decide +kernel
theorem d_Mo_marked_50 : decode b_Mo_marked 50 = .ok (.iconst 0, 1) := by decide +kernel
theorem d_Mo_marked_51 : decode b_Mo_marked 51 = .ok (.istore_n 3, 1) := by decide +kernel
theorem d_Mo_marked_52 : decode b_Mo_marked 52 = .ok (.iload_n 3, 1) := by decide +kernel
theorem d_Mo_marked_53 : decode b_Mo_marked 53 = .ok (.aload_n 0, 1) := by decide +kernel
theorem d_Mo_marked_54 : decode b_Mo_marked 54 = .ok (.getfield 220, 3) := by decide +kernel
theorem d_Mo_marked_57 : decode b_Mo_marked 57 = .ok (.if_icmp .ge 30, 3) := by decide +kernel
theorem d_Mo_marked_60 : decode b_Mo_marked 60 = .ok (.aload_n 0, 1) := by decide +kernel
theorem d_Mo_marked_61 : decode b_Mo_marked 61 = .ok (.getfield 68, 3) := by decide +kernel
theorem d_Mo_marked_64 : decode b_Mo_marked 64 = .ok (.iload_n 2, 1) := by decide +kernel
theorem d_Mo_marked_65 : decode b_Mo_marked 65 = .ok (.iconst 2, 1) := by decide +kernel
theorem d_Mo_marked_66 : decode b_Mo_marked 66 = .ok (.iadd, 1) := by decide +kernel
theorem d_Mo_marked_67 : decode b_Mo_marked 67 = .ok (.iload_n 3, 1) := by decide +kernel
theorem d_Mo_marked_68 : decode b_Mo_marked 68 = .ok (.iadd, 1) := by decide +kernel
theorem d_Mo_marked_69 : decode b_Mo_marked 69 = .ok (.baload, 1) := by decide +kernel
theorem d_Mo_marked_70 : decode b_Mo_marked 70 = .ok (.aload_n 0, 1) := by decide +kernel
theorem d_Mo_marked_71 : decode b_Mo_marked 71 = .ok (.getfield 129, 3) := by decide +kernel
theorem d_Mo_marked_74 : decode b_Mo_marked 74 = .ok (.iload_n 3, 1) := by decide +kernel
theorem d_Mo_marked_75 : decode b_Mo_marked 75 = .ok (.baload, 1) := by decide +kernel
theorem d_Mo_marked_76 : decode b_Mo_marked 76 = .ok (.if_icmp .eq 5, 3) := by decide +kernel
theorem d_Mo_marked_79 : decode b_Mo_marked 79 = .ok (.iconst 0, 1) := by decide +kernel
theorem d_Mo_marked_80 : decode b_Mo_marked 80 = .ok (.ireturn, 1) := by decide +kernel
theorem d_Mo_marked_81 : decode b_Mo_marked 81 = .ok (.iinc 3 1, 3) := by decide +kernel
theorem d_Mo_marked_84 : decode b_Mo_marked 84 = .ok (.goto (-32), 3) := by decide +kernel
theorem d_Mo_marked_87 : decode b_Mo_marked 87 = .ok (.iload_n 2, 1) := by decide +kernel
theorem d_Mo_marked_88 : decode b_Mo_marked 88 = .ok (.iconst 2, 1) := by decide +kernel
theorem d_Mo_marked_89 : decode b_Mo_marked 89 = .ok (.aload_n 0, 1) := by decide +kernel
theorem d_Mo_marked_90 : decode b_Mo_marked 90 = .ok (.getfield 220, 3) := by decide +kernel
theorem d_Mo_marked_93 : decode b_Mo_marked 93 = .ok (.iadd, 1) := by decide +kernel
theorem d_Mo_marked_94 : decode b_Mo_marked 94 = .ok (.iadd, 1) := by decide +kernel
theorem d_Mo_marked_95 : decode b_Mo_marked 95 = .ok (.istore_n 2, 1) := by decide +kernel
theorem d_Mo_marked_96 : decode b_Mo_marked 96 = .ok (.iload_n 2, 1) := by decide +kernel
theorem d_Mo_marked_97 : decode b_Mo_marked 97 = .ok (.iconst 1, 1) := by decide +kernel
theorem d_Mo_marked_98 : decode b_Mo_marked 98 = .ok (.iadd, 1) := by decide +kernel
theorem d_Mo_marked_99 : decode b_Mo_marked 99 = .ok (.aload_n 0, 1) := by decide +kernel
theorem d_Mo_marked_100 : decode b_Mo_marked 100 = .ok (.getfield 74, 3) := by decide +kernel
theorem d_Mo_marked_103 : decode b_Mo_marked 103 = .ok (.iload_n 1, 1) := by decide +kernel
theorem d_Mo_marked_104 : decode b_Mo_marked 104 = .ok (.iaload, 1) := by decide +kernel
theorem d_Mo_marked_105 : decode b_Mo_marked 105 = .ok (.if_icmp .ge 31, 3) := by decide +kernel
theorem d_Mo_marked_108 : decode b_Mo_marked 108 = .ok (.aload_n 0, 1) := by decide +kernel
theorem d_Mo_marked_109 : decode b_Mo_marked 109 = .ok (.getfield 68, 3) := by decide +kernel
theorem d_Mo_marked_112 : decode b_Mo_marked 112 = .ok (.iload_n 2, 1) := by decide +kernel
theorem d_Mo_marked_113 : decode b_Mo_marked 113 = .ok (.baload, 1) := by decide +kernel
theorem d_Mo_marked_114 : decode b_Mo_marked 114 = .ok (.bipush 45, 2) := by decide +kernel
theorem d_Mo_marked_116 : decode b_Mo_marked 116 = .ok (.if_icmp .ne 20, 3) := by decide +kernel
theorem d_Mo_marked_119 : decode b_Mo_marked 119 = .ok (.aload_n 0, 1) := by decide +kernel
theorem d_Mo_marked_120 : decode b_Mo_marked 120 = .ok (.getfield 68, 3) := by decide +kernel
theorem d_Mo_marked_123 : decode b_Mo_marked 123 = .ok (.iload_n 2, 1) := by decide +kernel
theorem d_Mo_marked_124 : decode b_Mo_marked 124 = .ok (.iconst 1, 1) := by decide +kernel
theorem d_Mo_marked_125 : decode b_Mo_marked 125 = .ok (.iadd, 1) := by decide +kernel
theorem d_Mo_marked_126 : decode b_Mo_marked 126 = .ok (.baload, 1) := by decide +kernel
theorem d_Mo_marked_127 : decode b_Mo_marked 127 = .ok (.bipush 45, 2) := by decide +kernel
theorem d_Mo_marked_129 : decode b_Mo_marked 129 = .ok (.if_icmp .ne 7, 3) := by decide +kernel
theorem d_Mo_marked_132 : decode b_Mo_marked 132 = .ok (.iconst 1, 1) := by decide +kernel
theorem d_Mo_marked_133 : decode b_Mo_marked 133 = .ok (.goto 4, 3) := by decide +kernel
theorem d_Mo_marked_136 : decode b_Mo_marked 136 = .ok (.iconst 0, 1) := by decide +kernel
theorem d_Mo_marked_137 : decode b_Mo_marked 137 = .ok (.istore_n 3, 1) := by decide +kernel
theorem d_Mo_marked_138 : decode b_Mo_marked 138 = .ok (.iload_n 2, 1) := by decide +kernel
theorem d_Mo_marked_139 : decode b_Mo_marked 139 = .ok (.iload_n 3, 1) := by decide +kernel
theorem d_Mo_marked_140 : decode b_Mo_marked 140 = .ok (.ifCond .eq 7, 3) := by decide +kernel
theorem d_Mo_marked_143 : decode b_Mo_marked 143 = .ok (.iconst 2, 1) := by decide +kernel
theorem d_Mo_marked_144 : decode b_Mo_marked 144 = .ok (.goto 4, 3) := by decide +kernel
theorem d_Mo_marked_147 : decode b_Mo_marked 147 = .ok (.iconst 0, 1) := by decide +kernel
theorem d_Mo_marked_148 : decode b_Mo_marked 148 = .ok (.iadd, 1) := by decide +kernel
theorem d_Mo_marked_149 : decode b_Mo_marked 149 = .ok (.istore_n 2, 1) := by decide +kernel
theorem d_Mo_marked_150 : decode b_Mo_marked 150 = .ok (.iload_n 2, 1) := by decide +kernel
theorem d_Mo_marked_151 : decode b_Mo_marked 151 = .ok (.aload_n 0, 1) := by decide +kernel
theorem d_Mo_marked_152 : decode b_Mo_marked 152 = .ok (.getfield 74, 3) := by decide +kernel
theorem d_Mo_marked_155 : decode b_Mo_marked 155 = .ok (.iload_n 1, 1) := by decide +kernel
theorem d_Mo_marked_156 : decode b_Mo_marked 156 = .ok (.iaload, 1) := by decide +kernel
theorem d_Mo_marked_157 : decode b_Mo_marked 157 = .ok (.if_icmp .ge 21, 3) := by decide +kernel
theorem d_Mo_marked_160 : decode b_Mo_marked 160 = .ok (.aload_n 0, 1) := by decide +kernel
theorem d_Mo_marked_161 : decode b_Mo_marked 161 = .ok (.getfield 68, 3) := by decide +kernel
theorem d_Mo_marked_164 : decode b_Mo_marked 164 = .ok (.iload_n 2, 1) := by decide +kernel
theorem d_Mo_marked_165 : decode b_Mo_marked 165 = .ok (.baload, 1) := by decide +kernel
theorem d_Mo_marked_166 : decode b_Mo_marked 166 = .ok (.invokestatic 153, 3) := by decide +kernel
theorem d_Mo_marked_169 : decode b_Mo_marked 169 = .ok (.ifCond .eq 9, 3) := by decide +kernel
theorem d_Mo_marked_172 : decode b_Mo_marked 172 = .ok (.iinc 2 1, 3) := by decide +kernel
theorem d_Mo_marked_175 : decode b_Mo_marked 175 = .ok (.goto (-25), 3) := by decide +kernel
theorem d_Mo_marked_178 : decode b_Mo_marked 178 = .ok (.iload_n 2, 1) := by decide +kernel
theorem d_Mo_marked_179 : decode b_Mo_marked 179 = .ok (.aload_n 0, 1) := by decide +kernel
theorem d_Mo_marked_180 : decode b_Mo_marked 180 = .ok (.getfield 74, 3) := by decide +kernel
theorem d_Mo_marked_183 : decode b_Mo_marked 183 = .ok (.iload_n 1, 1) := by decide +kernel
theorem d_Mo_marked_184 : decode b_Mo_marked 184 = .ok (.iaload, 1) := by decide +kernel
theorem d_Mo_marked_185 : decode b_Mo_marked 185 = .ok (.if_icmp .ge 7, 3) := by decide +kernel
theorem d_Mo_marked_188 : decode b_Mo_marked 188 = .ok (.iconst 0, 1) := by decide +kernel
theorem d_Mo_marked_189 : decode b_Mo_marked 189 = .ok (.goto 12, 3) := by decide +kernel
theorem d_Mo_marked_192 : decode b_Mo_marked 192 = .ok (.iload_n 3, 1) := by decide +kernel
theorem d_Mo_marked_193 : decode b_Mo_marked 193 = .ok (.ifCond .eq 7, 3) := by decide +kernel
theorem d_Mo_marked_196 : decode b_Mo_marked 196 = .ok (.iconst 2, 1) := by decide +kernel
theorem d_Mo_marked_197 : decode b_Mo_marked 197 = .ok (.goto 4, 3) := by decide +kernel
theorem d_Mo_marked_200 : decode b_Mo_marked 200 = .ok (.iconst 1, 1) := by decide +kernel
theorem d_Mo_marked_201 : decode b_Mo_marked 201 = .ok (.ireturn, 1) := by decide +kernel
theorem d_Mo_findParts_0 : decode b_Mo_findParts 0 = .ok (.aload_n 0, 1) := by decide +kernel
theorem d_Mo_findParts_1 : decode b_Mo_findParts 1 = .ok (.iconst 0, 1) := by decide +kernel
theorem d_Mo_findParts_2 : decode b_Mo_findParts 2 = .ok (.putfield 223, 3) := by decide +kernel
theorem d_Mo_findParts_5 : decode b_Mo_findParts 5 = .ok (.iconst (-1), 1) := by decide +kernel
theorem d_Mo_findParts_6 : decode b_Mo_findParts 6 = .ok (.istore_n 2, 1) := by decide +kernel
theorem d_Mo_findParts_7 : decode b_Mo_findParts 7 = .ok (.aload_n 0, 1) := by decide +kernel
theorem d_Mo_findParts_8 : decode b_Mo_findParts 8 = .ok (.getfield 86, 3) := by decide +kernel
theorem d_Mo_findParts_11 : decode b_Mo_findParts 11 = .ok (.iload_n 1, 1) := by decide +kernel
theorem d_Mo_findParts_12 : decode b_Mo_findParts 12 = .ok (.iaload, 1) := by decide +kernel
theorem d_Mo_findParts_13 : decode b_Mo_findParts 13 = .ok (.istore_n 3, 1) := by decide +kernel
theorem d_Mo_findParts_14 : decode b_Mo_findParts 14 = .ok (.iconst 1, 1) := by decide +kernel
theorem d_Mo_findParts_15 : decode b_Mo_findParts 15 = .ok (.istore 4, 2) := by decide +kernel
theorem d_Mo_findParts_17 : decode b_Mo_findParts 17 = .ok (.iload_n 3, 1) := by decide +kernel
theorem d_Mo_findParts_18 : decode b_Mo_findParts 18 = .ok (.aload_n 0, 1) := by decide +kernel
theorem d_Mo_findParts_19 : decode b_Mo_findParts 19 = .ok (.getfield 80, 3) := by decide +kernel
theorem d_Mo_findParts_22 : decode b_Mo_findParts 22 = .ok (.iload_n 1, 1) := by decide +kernel
theorem d_Mo_findParts_23 : decode b_Mo_findParts 23 = .ok (.iaload, 1) := by decide +kernel
theorem d_Mo_findParts_24 : decode b_Mo_findParts 24 = .ok (.if_icmp .ge 69, 3) := by decide +kernel
theorem d_Mo_findParts_27 : decode b_Mo_findParts 27 = .ok (.iload 4, 2) := by decide +kernel
theorem d_Mo_findParts_29 : decode b_Mo_findParts 29 = .ok (.ifCond .eq 64, 3) := by decide +kernel
theorem d_Mo_findParts_32 : decode b_Mo_findParts 32 = .ok (.aload_n 0, 1) := by decide +kernel
theorem d_Mo_findParts_33 : decode b_Mo_findParts 33 = .ok (.iload_n 3, 1) := by decide +kernel
theorem d_Mo_findParts_34 : decode b_Mo_findParts 34 = .ok (.invokevirtual 226, 3) := by decide +kernel
theorem d_Mo_findParts_37 : decode b_Mo_findParts 37 = .ok (.istore 5, 2) := by decide +kernel
theorem d_Mo_findParts_39 : decode b_Mo_findParts 39 = .ok (.iload 5, 2) := by decide +kernel
theorem d_Mo_findParts_41 : decode b_Mo_findParts 41 = .ok (.ifCond .le 14, 3) := by decide +kernel
theorem d_Mo_findParts_44 : decode b_Mo_findParts 44 = .ok (.iload_n 2, 1) := by decide +kernel
theorem d_Mo_findParts_45 : decode b_Mo_findParts 45 = .ok (.iconst (-1), 1) := by decide +kernel
theorem d_Mo_findParts_46 : decode b_Mo_findParts 46 = .ok (.if_icmp .eq 9, 3) := by decide +kernel
theorem d_Mo_findParts_49 : decode b_Mo_findParts 49 = .ok (.aload_n 0, 1) := by decide +kernel
theorem d_Mo_findParts_50 : decode b_Mo_findParts 50 = .ok (.iload_n 2, 1) := by decide +kernel
theorem d_Mo_findParts_51 : decode b_Mo_findParts 51 = .ok (.iload_n 3, 1) := by decide +kernel
theorem d_Mo_findParts_52 : decode b_Mo_findParts 52 = .ok (.invokevirtual 229, 3) := by decide +kernel
theorem d_Mo_findParts_55 : decode b_Mo_findParts 55 = .ok (.iload 5, 2) := by decide +kernel
theorem d_Mo_findParts_57 : decode b_Mo_findParts 57 = .ok (.ifCond .le 17, 3) := by decide +kernel
theorem d_Mo_findParts_60 : decode b_Mo_findParts 60 = .ok (.iload 5, 2) := by decide +kernel
theorem d_Mo_findParts_62 : decode b_Mo_findParts 62 = .ok (.iconst 1, 1) := by decide +kernel
theorem d_Mo_findParts_63 : decode b_Mo_findParts 63 = .ok (.if_icmp .ne 9, 3) := by decide +kernel
theorem d_Mo_findParts_66 : decode b_Mo_findParts 66 = .ok (.iload_n 3, 1) := by decide +kernel
theorem d_Mo_findParts_67 : decode b_Mo_findParts 67 = .ok (.iconst 1, 1) := by decide +kernel
theorem d_Mo_findParts_68 : decode b_Mo_findParts 68 = .ok (.iadd, 1) := by decide +kernel
theorem d_Mo_findParts_69 : decode b_Mo_findParts 69 = .ok (.goto 4, 3) := by decide +kernel
theorem d_Mo_findParts_72 : decode b_Mo_findParts 72 = .ok (.iconst (-1), 1) := by decide +kernel
theorem d_Mo_findParts_73 : decode b_Mo_findParts 73 = .ok (.istore_n 2, 1) := by decide +kernel
theorem d_Mo_findParts_74 : decode b_Mo_findParts 74 = .ok (.iload 5, 2) := by decide +kernel
theorem d_Mo_findParts_76 : decode b_Mo_findParts 76 = .ok (.iconst 2, 1) := by decide +kernel
theorem d_Mo_findParts_77 : decode b_Mo_findParts 77 = .ok (.if_icmp .eq 7, 3) := by decide +kernel
theorem d_Mo_findParts_80 : decode b_Mo_findParts 80 = .ok (.iconst 1, 1) := by decide +kernel
theorem d_Mo_findParts_81 : decode b_Mo_findParts 81 = .ok (.goto 4, 3) := by decide +kernel
theorem d_Mo_findParts_84 : decode b_Mo_findParts 84 = .ok (.iconst 0, 1) := by decide +kernel
theorem d_Mo_findParts_85 : decode b_Mo_findParts 85 = .ok (.istore 4, 2) := by decide +kernel
theorem d_Mo_findParts_87 : decode b_Mo_findParts 87 = .ok (.iinc 3 1, 3) := by decide +kernel
theorem d_Mo_findParts_90 : decode b_Mo_findParts 90 = .ok (.goto (-73), 3) := by decide +kernel
theorem d_Mo_findParts_93 : decode b_Mo_findParts 93 = .ok (.iload_n 2, 1) := by decide +kernel
theorem d_Mo_findParts_94 : decode b_Mo_findParts 94 = .ok (.iconst (-1), 1) := by decide +kernel
theorem d_Mo_findParts_95 : decode b_Mo_findParts 95 = .ok (.if_icmp .eq 14, 3) := by decide +kernel
theorem d_Mo_findParts_98 : decode b_Mo_findParts 98 = .ok (.aload_n 0, 1) := by decide +kernel
theorem d_Mo_findParts_99 : decode b_Mo_findParts 99 = .ok (.iload_n 2, 1) := by decide +kernel
theorem d_Mo_findParts_100 : decode b_Mo_findParts 100 = .ok (.aload_n 0, 1) := by decide +kernel
theorem d_Mo_findParts_101 : decode b_Mo_findParts 101 = .ok (.getfield 80, 3) := by decide +kernel
theorem d_Mo_findParts_104 : decode b_Mo_findParts 104 = .ok (.iload_n 1, 1) := by decide +kernel
theorem d_Mo_findParts_105 : decode b_Mo_findParts 105 = .ok (.iaload, 1) := by decide +kernel
theorem d_Mo_findParts_106 : decode b_Mo_findParts 106 = .ok (.invokevirtual 229, 3) := by decide +kernel
theorem d_Mo_findParts_109 : decode b_Mo_findParts 109 = .ok (.return_, 1) := by decide +kernel
theorem d_Mo_add_0 : decode b_Mo_add 0 = .ok (.aload_n 0, 1) := by decide +kernel
theorem d_Mo_add_1 : decode b_Mo_add 1 = .ok (.getfield 111, 3) := by decide +kernel
theorem d_Mo_add_4 : decode b_Mo_add 4 = .ok (.aload_n 0, 1) := by decide +kernel
theorem d_Mo_add_5 : decode b_Mo_add 5 = .ok (.getfield 223, 3) := by decide +kernel
theorem d_Mo_add_8 : decode b_Mo_add 8 = .ok (.iload_n 1, 1) := by decide +kernel
theorem d_Mo_add_9 : decode b_Mo_add 9 = .ok (.iastore, 1) := by decide +kernel
theorem d_Mo_add_10 : decode b_Mo_add 10 = .ok (.aload_n 0, 1) := by decide +kernel
theorem d_Mo_add_11 : decode b_Mo_add 11 = .ok (.getfield 114, 3) := by decide +kernel
theorem d_Mo_add_14 : decode b_Mo_add 14 = .ok (.aload_n 0, 1) := by decide +kernel
theorem d_Mo_add_15 : decode b_Mo_add 15 = .ok (.getfield 223, 3) := by decide +kernel
theorem d_Mo_add_18 : decode b_Mo_add 18 = .ok (.iload_n 2, 1) := by decide +kernel
theorem d_Mo_add_19 : decode b_Mo_add 19 = .ok (.iastore, 1) := by decide +kernel
theorem d_Mo_add_20 : decode b_Mo_add 20 = .ok (.aload_n 0, 1) := by decide +kernel
theorem d_Mo_add_21 : decode b_Mo_add 21 = .ok (.dup, 1) := by decide +kernel
theorem d_Mo_add_22 : decode b_Mo_add 22 = .ok (.getfield 223, 3) := by decide +kernel
theorem d_Mo_add_25 : decode b_Mo_add 25 = .ok (.iconst 1, 1) := by decide +kernel
theorem d_Mo_add_26 : decode b_Mo_add 26 = .ok (.iadd, 1) := by decide +kernel
theorem d_Mo_add_27 : decode b_Mo_add 27 = .ok (.putfield 223, 3) := by decide +kernel
theorem d_Mo_add_30 : decode b_Mo_add 30 = .ok (.return_, 1) := by decide +kernel
theorem d_Mo_push_0 : decode b_Mo_push 0 = .ok (.aload_n 0, 1) := by decide +kernel
theorem d_Mo_push_1 : decode b_Mo_push 1 = .ok (.getfield 102, 3) := by decide +kernel
theorem d_Mo_push_4 : decode b_Mo_push 4 = .ok (.aload_n 0, 1) := by decide +kernel
theorem d_Mo_push_5 : decode b_Mo_push 5 = .ok (.getfield 232, 3) := by decide +kernel
theorem d_Mo_push_8 : decode b_Mo_push 8 = .ok (.iload_n 1, 1) := by decide +kernel
theorem d_Mo_push_9 : decode b_Mo_push 9 = .ok (.iastore, 1) := by decide +kernel
theorem d_Mo_push_10 : decode b_Mo_push 10 = .ok (.aload_n 0, 1) := by decide +kernel
theorem d_Mo_push_11 : decode b_Mo_push 11 = .ok (.getfield 105, 3) := by decide +kernel
theorem d_Mo_push_14 : decode b_Mo_push 14 = .ok (.aload_n 0, 1) := by decide +kernel
theorem d_Mo_push_15 : decode b_Mo_push 15 = .ok (.getfield 232, 3) := by decide +kernel
theorem d_Mo_push_18 : decode b_Mo_push 18 = .ok (.iload_n 2, 1) := by decide +kernel
theorem d_Mo_push_19 : decode b_Mo_push 19 = .ok (.iastore, 1) := by decide +kernel
theorem d_Mo_push_20 : decode b_Mo_push 20 = .ok (.aload_n 0, 1) := by decide +kernel
theorem d_Mo_push_21 : decode b_Mo_push 21 = .ok (.getfield 108, 3) := by decide +kernel
theorem d_Mo_push_24 : decode b_Mo_push 24 = .ok (.aload_n 0, 1) := by decide +kernel
theorem d_Mo_push_25 : decode b_Mo_push 25 = .ok (.getfield 232, 3) := by decide +kernel
theorem d_Mo_push_28 : decode b_Mo_push 28 = .ok (.iload_n 3, 1) := by decide +kernel
theorem d_Mo_push_29 : decode b_Mo_push 29 = .ok (.iastore, 1) := by decide +kernel
theorem d_Mo_push_30 : decode b_Mo_push 30 = .ok (.aload_n 0, 1) := by decide +kernel
theorem d_Mo_push_31 : decode b_Mo_push 31 = .ok (.dup, 1) := by decide +kernel
theorem d_Mo_push_32 : decode b_Mo_push 32 = .ok (.getfield 232, 3) := by decide +kernel
theorem d_Mo_push_35 : decode b_Mo_push 35 = .ok (.iconst 1, 1) := by decide +kernel
theorem d_Mo_push_36 : decode b_Mo_push 36 = .ok (.iadd, 1) := by decide +kernel
theorem d_Mo_push_37 : decode b_Mo_push 37 = .ok (.putfield 232, 3) := by decide +kernel
theorem d_Mo_push_40 : decode b_Mo_push 40 = .ok (.return_, 1) := by decide +kernel
theorem d_Mo_isMulti_0 : decode b_Mo_isMulti 0 = .ok (.aload_n 0, 1) := by decide +kernel
theorem d_Mo_isMulti_1 : decode b_Mo_isMulti 1 = .ok (.iload_n 1, 1) := by decide +kernel
theorem d_Mo_isMulti_2 : decode b_Mo_isMulti 2 = .ok (.invokevirtual 235, 3) := by decide +kernel
theorem d_Mo_isMulti_5 : decode b_Mo_isMulti 5 = .ok (.aload_n 0, 1) := by decide +kernel
theorem d_Mo_isMulti_6 : decode b_Mo_isMulti 6 = .ok (.aload_n 0, 1) := by decide +kernel
theorem d_Mo_isMulti_7 : decode b_Mo_isMulti 7 = .ok (.getfield 37, 3) := by decide +kernel
theorem d_Mo_isMulti_10 : decode b_Mo_isMulti 10 = .ok (.invokevirtual 239, 3) := by decide +kernel
theorem d_Mo_isMulti_13 : decode b_Mo_isMulti 13 = .ok (.ifCond .eq 36, 3) := by decide +kernel
theorem d_Mo_isMulti_16 : decode b_Mo_isMulti 16 = .ok (.aload_n 0, 1) := by decide +kernel
theorem d_Mo_isMulti_17 : decode b_Mo_isMulti 17 = .ok (.iload_n 1, 1) := by decide +kernel
theorem d_Mo_isMulti_18 : decode b_Mo_isMulti 18 = .ok (.aload_n 0, 1) := by decide +kernel
theorem d_Mo_isMulti_19 : decode b_Mo_isMulti 19 = .ok (.getfield 7, 3) := by decide +kernel
theorem d_Mo_isMulti_22 : decode b_Mo_isMulti 22 = .ok (.aload_n 0, 1) := by decide +kernel
theorem d_Mo_isMulti_23 : decode b_Mo_isMulti 23 = .ok (.getfield 7, 3) := by decide +kernel
theorem d_Mo_isMulti_26 : decode b_Mo_isMulti 26 = .ok (.arraylength, 1) := by decide +kernel
theorem d_Mo_isMulti_27 : decode b_Mo_isMulti 27 = .ok (.invokevirtual 186, 3) := by decide +kernel
theorem d_Mo_isMulti_30 : decode b_Mo_isMulti 30 = .ok (.ifCond .eq 19, 3) := by decide +kernel
theorem d_Mo_isMulti_33 : decode b_Mo_isMulti 33 = .ok (.aload_n 0, 1) := by decide +kernel
theorem d_Mo_isMulti_34 : decode b_Mo_isMulti 34 = .ok (.aload_n 0, 1) := by decide +kernel
theorem d_Mo_isMulti_35 : decode b_Mo_isMulti 35 = .ok (.getfield 19, 3) := by decide +kernel
theorem d_Mo_isMulti_38 : decode b_Mo_isMulti 38 = .ok (.aload_n 0, 1) := by decide +kernel
theorem d_Mo_isMulti_39 : decode b_Mo_isMulti 39 = .ok (.getfield 19, 3) := by decide +kernel
theorem d_Mo_isMulti_42 : decode b_Mo_isMulti 42 = .ok (.arraylength, 1) := by decide +kernel
theorem d_Mo_isMulti_43 : decode b_Mo_isMulti 43 = .ok (.invokevirtual 216, 3) := by decide +kernel
theorem d_Mo_isMulti_46 : decode b_Mo_isMulti 46 = .ok (.ifCond .ne 5, 3) := by decide +kernel
theorem d_Mo_isMulti_49 : decode b_Mo_isMulti 49 = .ok (.iconst 0, 1) := by decide +kernel
theorem d_Mo_isMulti_50 : decode b_Mo_isMulti 50 = .ok (.ireturn, 1) := by decide +kernel
theorem d_Mo_isMulti_51 : decode b_Mo_isMulti 51 = .ok (.aload_n 0, 1) := by decide +kernel
theorem d_Mo_isMulti_52 : decode b_Mo_isMulti 52 = .ok (.aload_n 0, 1) := by decide +kernel
theorem d_Mo_isMulti_53 : decode b_Mo_isMulti 53 = .ok (.getfield 180, 3) := by decide +kernel
theorem d_Mo_isMulti_56 : decode b_Mo_isMulti 56 = .ok (.putfield 220, 3) := by decide +kernel
theorem d_Mo_isMulti_59 : decode b_Mo_isMulti 59 = .ok (.iconst 0, 1) := by decide +kernel
theorem d_Mo_isMulti_60 : decode b_Mo_isMulti 60 = .ok (.istore_n 2, 1) := by decide +kernel
theorem d_Mo_isMulti_61 : decode b_Mo_isMulti 61 = .ok (.iload_n 2, 1) := by decide +kernel
theorem d_Mo_isMulti_62 : decode b_Mo_isMulti 62 = .ok (.aload_n 0, 1) := by decide +kernel
theorem d_Mo_isMulti_63 : decode b_Mo_isMulti 63 = .ok (.getfield 180, 3) := by decide +kernel
theorem d_Mo_isMulti_66 : decode b_Mo_isMulti 66 = .ok (.if_icmp .ge 21, 3) := by decide +kernel
theorem d_Mo_isMulti_69 : decode b_Mo_isMulti 69 = .ok (.aload_n 0, 1) := by decide +kernel
theorem d_Mo_isMulti_70 : decode b_Mo_isMulti 70 = .ok (.getfield 129, 3) := by decide +kernel
theorem d_Mo_isMulti_73 : decode b_Mo_isMulti 73 = .ok (.iload_n 2, 1) := by decide +kernel
theorem d_Mo_isMulti_74 : decode b_Mo_isMulti 74 = .ok (.aload_n 0, 1) := by decide +kernel
theorem d_Mo_isMulti_75 : decode b_Mo_isMulti 75 = .ok (.getfield 126, 3) := by decide +kernel
theorem d_Mo_isMulti_78 : decode b_Mo_isMulti 78 = .ok (.iload_n 2, 1) := by decide +kernel
theorem d_Mo_isMulti_79 : decode b_Mo_isMulti 79 = .ok (.baload, 1) := by decide +kernel
theorem d_Mo_isMulti_80 : decode b_Mo_isMulti 80 = .ok (.bastore, 1) := by decide +kernel
theorem d_Mo_isMulti_81 : decode b_Mo_isMulti 81 = .ok (.iinc 2 1, 3) := by decide +kernel
theorem d_Mo_isMulti_84 : decode b_Mo_isMulti 84 = .ok (.goto (-23), 3) := by decide +kernel
theorem d_Mo_isMulti_87 : decode b_Mo_isMulti 87 = .ok (.aload_n 0, 1) := by decide +kernel
theorem d_Mo_isMulti_88 : decode b_Mo_isMulti 88 = .ok (.getfield 220, 3) := by decide +kernel
theorem d_Mo_isMulti_91 : decode b_Mo_isMulti 91 = .ok (.iconst 1, 1) := by decide +kernel
theorem d_Mo_isMulti_92 : decode b_Mo_isMulti 92 = .ok (.if_icmp .lt 16, 3) := by decide +kernel
theorem d_Mo_isMulti_95 : decode b_Mo_isMulti 95 = .ok (.aload_n 0, 1) := by decide +kernel
theorem d_Mo_isMulti_96 : decode b_Mo_isMulti 96 = .ok (.getfield 220, 3) := by decide +kernel
theorem d_Mo_isMulti_99 : decode b_Mo_isMulti 99 = .ok (.bipush 70, 2) := by decide +kernel
theorem d_Mo_isMulti_101 : decode b_Mo_isMulti 101 = .ok (.if_icmp .gt 7, 3) := by decide +kernel
theorem d_Mo_isMulti_104 : decode b_Mo_isMulti 104 = .ok (.iconst 1, 1) := by decide +kernel
theorem d_Mo_isMulti_105 : decode b_Mo_isMulti 105 = .ok (.goto 4, 3) := by decide +kernel
theorem d_Mo_isMulti_108 : decode b_Mo_isMulti 108 = .ok (.iconst 0, 1) := by decide +kernel
theorem d_Mo_isMulti_109 : decode b_Mo_isMulti 109 = .ok (.ireturn, 1) := by decide +kernel
theorem d_Mo_isEnclosed_0 : decode b_Mo_isEnclosed 0 = .ok (.aload_n 0, 1) := by decide +kernel
theorem d_Mo_isEnclosed_1 : decode b_Mo_isEnclosed 1 = .ok (.iload_n 1, 1) := by decide +kernel
theorem d_Mo_isEnclosed_2 : decode b_Mo_isEnclosed 2 = .ok (.invokevirtual 235, 3) := by decide +kernel
theorem d_Mo_isEnclosed_5 : decode b_Mo_isEnclosed 5 = .ok (.aload_n 0, 1) := by decide +kernel
theorem d_Mo_isEnclosed_6 : decode b_Mo_isEnclosed 6 = .ok (.aload_n 0, 1) := by decide +kernel
theorem d_Mo_isEnclosed_7 : decode b_Mo_isEnclosed 7 = .ok (.getfield 46, 3) := by decide +kernel
theorem d_Mo_isEnclosed_10 : decode b_Mo_isEnclosed 10 = .ok (.invokevirtual 208, 3) := by decide +kernel
theorem d_Mo_isEnclosed_13 : decode b_Mo_isEnclosed 13 = .ok (.ifCond .ne 5, 3) := by decide +kernel
theorem d_Mo_isEnclosed_16 : decode b_Mo_isEnclosed 16 = .ok (.iconst 0, 1) := by decide +kernel
theorem d_Mo_isEnclosed_17 : decode b_Mo_isEnclosed 17 = .ok (.ireturn, 1) := by decide +kernel
theorem d_Mo_isEnclosed_18 : decode b_Mo_isEnclosed 18 = .ok (.aload_n 0, 1) := by decide +kernel
theorem d_Mo_isEnclosed_19 : decode b_Mo_isEnclosed 19 = .ok (.iload_n 1, 1) := by decide +kernel
theorem d_Mo_isEnclosed_20 : decode b_Mo_isEnclosed 20 = .ok (.aload_n 0, 1) := by decide +kernel
theorem d_Mo_isEnclosed_21 : decode b_Mo_isEnclosed 21 = .ok (.getfield 13, 3) := by decide +kernel
theorem d_Mo_isEnclosed_24 : decode b_Mo_isEnclosed 24 = .ok (.invokevirtual 200, 3) := by decide +kernel
theorem d_Mo_isEnclosed_27 : decode b_Mo_isEnclosed 27 = .ok (.aload_n 0, 1) := by decide +kernel
theorem d_Mo_isEnclosed_28 : decode b_Mo_isEnclosed 28 = .ok (.getfield 180, 3) := by decide +kernel
theorem d_Mo_isEnclosed_31 : decode b_Mo_isEnclosed 31 = .ok (.ifCond .eq 36, 3) := by decide +kernel
theorem d_Mo_isEnclosed_34 : decode b_Mo_isEnclosed 34 = .ok (.aload_n 0, 1) := by decide +kernel
theorem d_Mo_isEnclosed_35 : decode b_Mo_isEnclosed 35 = .ok (.aload_n 0, 1) := by decide +kernel
theorem d_Mo_isEnclosed_36 : decode b_Mo_isEnclosed 36 = .ok (.getfield 52, 3) := by decide +kernel
theorem d_Mo_isEnclosed_39 : decode b_Mo_isEnclosed 39 = .ok (.invokevirtual 208, 3) := by decide +kernel
theorem d_Mo_isEnclosed_42 : decode b_Mo_isEnclosed 42 = .ok (.ifCond .ne 25, 3) := by decide +kernel
theorem d_Mo_isEnclosed_45 : decode b_Mo_isEnclosed 45 = .ok (.aload_n 0, 1) := by decide +kernel
theorem d_Mo_isEnclosed_46 : decode b_Mo_isEnclosed 46 = .ok (.aload_n 0, 1) := by decide +kernel
theorem d_Mo_isEnclosed_47 : decode b_Mo_isEnclosed 47 = .ok (.getfield 55, 3) := by decide +kernel
theorem d_Mo_isEnclosed_50 : decode b_Mo_isEnclosed 50 = .ok (.invokevirtual 208, 3) := by decide +kernel
theorem d_Mo_isEnclosed_53 : decode b_Mo_isEnclosed 53 = .ok (.ifCond .ne 14, 3) := by decide +kernel
theorem d_Mo_isEnclosed_56 : decode b_Mo_isEnclosed 56 = .ok (.aload_n 0, 1) := by decide +kernel
theorem d_Mo_isEnclosed_57 : decode b_Mo_isEnclosed 57 = .ok (.aload_n 0, 1) := by decide +kernel
theorem d_Mo_isEnclosed_58 : decode b_Mo_isEnclosed 58 = .ok (.getfield 58, 3) := by decide +kernel
theorem d_Mo_isEnclosed_61 : decode b_Mo_isEnclosed 61 = .ok (.invokevirtual 208, 3) := by decide +kernel
theorem d_Mo_isEnclosed_64 : decode b_Mo_isEnclosed 64 = .ok (.ifCond .eq 7, 3) := by decide +kernel
theorem d_Mo_isEnclosed_67 : decode b_Mo_isEnclosed 67 = .ok (.iconst 1, 1) := by decide +kernel
theorem d_Mo_isEnclosed_68 : decode b_Mo_isEnclosed 68 = .ok (.goto 4, 3) := by decide +kernel
theorem d_Mo_isEnclosed_71 : decode b_Mo_isEnclosed 71 = .ok (.iconst 0, 1) := by decide +kernel
theorem d_Mo_isEnclosed_72 : decode b_Mo_isEnclosed 72 = .ok (.ireturn, 1) := by decide +kernel
theorem d_Mo_look_0 : decode b_Mo_look 0 = .ok (.aload_n 0, 1) := by decide +kernel
theorem d_Mo_look_1 : decode b_Mo_look 1 = .ok (.iload_n 1, 1) := by decide +kernel
theorem d_Mo_look_2 : decode b_Mo_look 2 = .ok (.invokevirtual 242, 3) := by decide +kernel
theorem d_Mo_look_5 : decode b_Mo_look 5 = .ok (.aload_n 0, 1) := by decide +kernel
theorem d_Mo_look_6 : decode b_Mo_look 6 = .ok (.getfield 95, 3) := by decide +kernel
theorem d_Mo_look_9 : decode b_Mo_look 9 = .ok (.iload_n 1, 1) := by decide +kernel
theorem d_Mo_look_10 : decode b_Mo_look 10 = .ok (.iconst 0, 1) := by decide +kernel
theorem d_Mo_look_11 : decode b_Mo_look 11 = .ok (.iastore, 1) := by decide +kernel
theorem d_Mo_look_12 : decode b_Mo_look 12 = .ok (.aload_n 0, 1) := by decide +kernel
theorem d_Mo_look_13 : decode b_Mo_look 13 = .ok (.getfield 92, 3) := by decide +kernel
theorem d_Mo_look_16 : decode b_Mo_look 16 = .ok (.iload_n 1, 1) := by decide +kernel
theorem d_Mo_look_17 : decode b_Mo_look 17 = .ok (.iaload, 1) := by decide +kernel
theorem d_Mo_look_18 : decode b_Mo_look 18 = .ok (.bipush 8, 2) := by decide +kernel
theorem d_Mo_look_20 : decode b_Mo_look 20 = .ok (.if_icmp .lt 4, 3) := by decide +kernel
theorem d_Mo_look_23 : decode b_Mo_look 23 = .ok (.return_, 1) := by decide +kernel
theorem d_Mo_look_24 : decode b_Mo_look 24 = .ok (.aload_n 0, 1) := by decide +kernel
theorem d_Mo_look_25 : decode b_Mo_look 25 = .ok (.iload_n 1, 1) := by decide +kernel
theorem d_Mo_look_26 : decode b_Mo_look 26 = .ok (.invokevirtual 245, 3) := by decide +kernel
theorem d_Mo_look_29 : decode b_Mo_look 29 = .ok (.ifCond .eq 52, 3) := by decide +kernel
theorem d_Mo_look_32 : decode b_Mo_look 32 = .ok (.aload_n 0, 1) := by decide +kernel
theorem d_Mo_look_33 : decode b_Mo_look 33 = .ok (.getfield 95, 3) := by decide +kernel
theorem d_Mo_look_36 : decode b_Mo_look 36 = .ok (.iload_n 1, 1) := by decide +kernel
theorem d_Mo_look_37 : decode b_Mo_look 37 = .ok (.iconst 1, 1) := by decide +kernel
theorem d_Mo_look_38 : decode b_Mo_look 38 = .ok (.iastore, 1) := by decide +kernel
theorem d_Mo_look_39 : decode b_Mo_look 39 = .ok (.aload_n 0, 1) := by decide +kernel
theorem d_Mo_look_40 : decode b_Mo_look 40 = .ok (.iload_n 1, 1) := by decide +kernel
theorem d_Mo_look_41 : decode b_Mo_look 41 = .ok (.invokevirtual 248, 3) := by decide +kernel
theorem d_Mo_look_44 : decode b_Mo_look 44 = .ok (.aload_n 0, 1) := by decide +kernel
theorem d_Mo_look_45 : decode b_Mo_look 45 = .ok (.getfield 223, 3) := by decide +kernel
theorem d_Mo_look_48 : decode b_Mo_look 48 = .ok (.iconst 1, 1) := by decide +kernel
theorem d_Mo_look_49 : decode b_Mo_look 49 = .ok (.isub, 1) := by decide +kernel
theorem d_Mo_look_50 : decode b_Mo_look 50 = .ok (.istore_n 2, 1) := by decide +kernel
theorem d_Mo_look_51 : decode b_Mo_look 51 = .ok (.iload_n 2, 1) := by decide +kernel
theorem d_Mo_look_52 : decode b_Mo_look 52 = .ok (.ifCond .lt 26, 3) := by decide +kernel
theorem d_Mo_look_55 : decode b_Mo_look 55 = .ok (.aload_n 0, 1) := by decide +kernel
theorem d_Mo_look_56 : decode b_Mo_look 56 = .ok (.aload_n 0, 1) := by decide +kernel
theorem d_Mo_look_57 : decode b_Mo_look 57 = .ok (.getfield 111, 3) := by decide +kernel
theorem d_Mo_look_60 : decode b_Mo_look 60 = .ok (.iload_n 2, 1) := by decide +kernel
theorem d_Mo_look_61 : decode b_Mo_look 61 = .ok (.iaload, 1) := by decide +kernel
theorem d_Mo_look_62 : decode b_Mo_look 62 = .ok (.aload_n 0, 1) := by decide +kernel
theorem d_Mo_look_63 : decode b_Mo_look 63 = .ok (.getfield 114, 3) := by decide +kernel
theorem d_Mo_look_66 : decode b_Mo_look 66 = .ok (.iload_n 2, 1) := by decide +kernel
theorem d_Mo_look_67 : decode b_Mo_look 67 = .ok (.iaload, 1) := by decide +kernel
theorem d_Mo_look_68 : decode b_Mo_look 68 = .ok (.iload_n 1, 1) := by decide +kernel
theorem d_Mo_look_69 : decode b_Mo_look 69 = .ok (.invokevirtual 251, 3) := by decide +kernel
theorem d_Mo_look_72 : decode b_Mo_look 72 = .ok (.iinc 2 (-1), 3) := by decide +kernel
theorem d_Mo_look_75 : decode b_Mo_look 75 = .ok (.goto (-24), 3) := by decide +kernel
theorem d_Mo_look_78 : decode b_Mo_look 78 = .ok (.goto 35, 3) := by decide +kernel
theorem d_Mo_look_81 : decode b_Mo_look 81 = .ok (.aload_n 0, 1) := by decide +kernel
theorem d_Mo_look_82 : decode b_Mo_look 82 = .ok (.iload_n 1, 1) := by decide +kernel
theorem d_Mo_look_83 : decode b_Mo_look 83 = .ok (.invokevirtual 255, 3) := by decide +kernel
theorem d_Mo_look_86 : decode b_Mo_look 86 = .ok (.ifCond .eq 27, 3) := by decide +kernel
theorem d_Mo_look_89 : decode b_Mo_look 89 = .ok (.aload_n 0, 1) := by decide +kernel
theorem d_Mo_look_90 : decode b_Mo_look 90 = .ok (.getfield 95, 3) := by decide +kernel
theorem d_Mo_look_93 : decode b_Mo_look 93 = .ok (.iload_n 1, 1) := by decide +kernel
theorem d_Mo_look_94 : decode b_Mo_look 94 = .ok (.iconst 2, 1) := by decide +kernel
theorem d_Mo_look_95 : decode b_Mo_look 95 = .ok (.iastore, 1) := by decide +kernel
theorem d_Mo_look_96 : decode b_Mo_look 96 = .ok (.aload_n 0, 1) := by decide +kernel
theorem d_Mo_look_97 : decode b_Mo_look 97 = .ok (.aload_n 0, 1) := by decide +kernel
theorem d_Mo_look_98 : decode b_Mo_look 98 = .ok (.getfield 86, 3) := by decide +kernel
theorem d_Mo_look_101 : decode b_Mo_look 101 = .ok (.iload_n 1, 1) := by decide +kernel
theorem d_Mo_look_102 : decode b_Mo_look 102 = .ok (.iaload, 1) := by decide +kernel
theorem d_Mo_look_103 : decode b_Mo_look 103 = .ok (.aload_n 0, 1) := by decide +kernel
theorem d_Mo_look_104 : decode b_Mo_look 104 = .ok (.getfield 80, 3) := by decide +kernel
theorem d_Mo_look_107 : decode b_Mo_look 107 = .ok (.iload_n 1, 1) := by decide +kernel
theorem d_Mo_look_108 : decode b_Mo_look 108 = .ok (.iaload, 1) := by decide +kernel
theorem d_Mo_look_109 : decode b_Mo_look 109 = .ok (.iload_n 1, 1) := by decide +kernel
theorem d_Mo_look_110 : decode b_Mo_look 110 = .ok (.invokevirtual 251, 3) := by decide +kernel
theorem d_Mo_look_113 : decode b_Mo_look 113 = .ok (.return_, 1) := by decide +kernel
