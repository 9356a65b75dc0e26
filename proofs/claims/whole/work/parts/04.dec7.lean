theorem d_Mo_isBlank_0 : decode b_Mo_isBlank 0 = .ok (.iload_n 0, 1) := by decide +kernel
theorem d_Mo_isBlank_1 : decode b_Mo_isBlank 1 = .ok (.bipush 32, 2) := by decide +kernel
theorem d_Mo_isBlank_3 : decode b_Mo_isBlank 3 = .ok (.if_icmp .eq 9, 3) := by decide +kernel
theorem d_Mo_isBlank_6 : decode b_Mo_isBlank 6 = .ok (.iload_n 0, 1) := by decide +kernel
theorem d_Mo_isBlank_7 : decode b_Mo_isBlank 7 = .ok (.bipush 9, 2) := by decide +kernel
theorem d_Mo_isBlank_9 : decode b_Mo_isBlank 9 = .ok (.if_icmp .ne 7, 3) := by decide +kernel
theorem d_Mo_isBlank_12 : decode b_Mo_isBlank 12 = .ok (.iconst 1, 1) := by decide +kernel
theorem d_Mo_isBlank_13 : decode b_Mo_isBlank 13 = .ok (.goto 4, 3) := by decide +kernel
theorem d_Mo_isBlank_16 : decode b_Mo_isBlank 16 = .ok (.iconst 0, 1) := by decide +kernel
theorem d_Mo_isBlank_17 : decode b_Mo_isBlank 17 = .ok (.ireturn, 1) := by decide +kernel
theorem d_Mo_small_0 : decode b_Mo_small 0 = .ok (.iload_n 0, 1) := by decide +kernel
theorem d_Mo_small_1 : decode b_Mo_small 1 = .ok (.bipush 65, 2) := by decide +kernel
theorem d_Mo_small_3 : decode b_Mo_small 3 = .ok (.if_icmp .lt 16, 3) := by decide +kernel
theorem d_Mo_small_6 : decode b_Mo_small 6 = .ok (.iload_n 0, 1) := by decide +kernel
theorem d_Mo_small_7 : decode b_Mo_small 7 = .ok (.bipush 90, 2) := by decide +kernel
theorem d_Mo_small_9 : decode b_Mo_small 9 = .ok (.if_icmp .gt 10, 3) := by decide +kernel
theorem d_Mo_small_12 : decode b_Mo_small 12 = .ok (.iload_n 0, 1) := by decide +kernel
theorem d_Mo_small_13 : decode b_Mo_small 13 = .ok (.bipush 32, 2) := by decide +kernel
theorem d_Mo_small_15 : decode b_Mo_small 15 = .ok (.iadd, 1) := by decide +kernel
theorem d_Mo_small_16 : decode b_Mo_small 16 = .ok (.goto 4, 3) := by decide +kernel
theorem d_Mo_small_19 : decode b_Mo_small 19 = .ok (.iload_n 0, 1) := by decide +kernel
theorem d_Mo_small_20 : decode b_Mo_small 20 = .ok (.ireturn, 1) := by decide +kernel
theorem d_Mo_isName_0 : decode b_Mo_isName 0 = .ok (.iload_n 0, 1) := by decide +kernel
theorem d_Mo_isName_1 : decode b_Mo_isName 1 = .ok (.invokestatic 135, 3) := by decide +kernel
theorem d_Mo_isName_4 : decode b_Mo_isName 4 = .ok (.bipush 97, 2) := by decide +kernel
theorem d_Mo_isName_6 : decode b_Mo_isName 6 = .ok (.if_icmp .lt 12, 3) := by decide +kernel
theorem d_Mo_isName_9 : decode b_Mo_isName 9 = .ok (.iload_n 0, 1) := by decide +kernel
theorem d_Mo_isName_10 : decode b_Mo_isName 10 = .ok (.invokestatic 135, 3) := by decide +kernel
theorem d_Mo_isName_13 : decode b_Mo_isName 13 = .ok (.bipush 122, 2) := by decide +kernel
theorem d_Mo_isName_15 : decode b_Mo_isName 15 = .ok (.if_icmp .le 21, 3) := by decide +kernel
theorem d_Mo_isName_18 : decode b_Mo_isName 18 = .ok (.iload_n 0, 1) := by decide +kernel
theorem d_Mo_isName_19 : decode b_Mo_isName 19 = .ok (.bipush 48, 2) := by decide +kernel
theorem d_Mo_isName_21 : decode b_Mo_isName 21 = .ok (.if_icmp .lt 9, 3) := by decide +kernel
theorem d_Mo_isName_24 : decode b_Mo_isName 24 = .ok (.iload_n 0, 1) := by decide +kernel
theorem d_Mo_isName_25 : decode b_Mo_isName 25 = .ok (.bipush 57, 2) := by decide +kernel
theorem d_Mo_isName_27 : decode b_Mo_isName 27 = .ok (.if_icmp .le 9, 3) := by decide +kernel
theorem d_Mo_isName_30 : decode b_Mo_isName 30 = .ok (.iload_n 0, 1) := by decide +kernel
theorem d_Mo_isName_31 : decode b_Mo_isName 31 = .ok (.bipush 45, 2) := by decide +kernel
theorem d_Mo_isName_33 : decode b_Mo_isName 33 = .ok (.if_icmp .ne 7, 3) := by decide +kernel
theorem d_Mo_isName_36 : decode b_Mo_isName 36 = .ok (.iconst 1, 1) := by decide +kernel
theorem d_Mo_isName_37 : decode b_Mo_isName 37 = .ok (.goto 4, 3) := by decide +kernel
theorem d_Mo_isName_40 : decode b_Mo_isName 40 = .ok (.iconst 0, 1) := by decide +kernel
theorem d_Mo_isName_41 : decode b_Mo_isName 41 = .ok (.ireturn, 1) := by decide +kernel
theorem d_Mo_split_0 : decode b_Mo_split 0 = .ok (.aload_n 0, 1) := by decide +kernel
theorem d_Mo_split_1 : decode b_Mo_split 1 = .ok (.iconst 0, 1) := by decide +kernel
theorem d_Mo_split_2 : decode b_Mo_split 2 = .ok (.putfield 139, 3) := by decide +kernel
theorem d_Mo_split_5 : decode b_Mo_split 5 = .ok (.iconst 0, 1) := by decide +kernel
theorem d_Mo_split_6 : decode b_Mo_split 6 = .ok (.istore_n 1, 1) := by decide +kernel
theorem d_Mo_split_7 : decode b_Mo_split 7 = .ok (.iload_n 1, 1) := by decide +kernel
theorem d_Mo_split_8 : decode b_Mo_split 8 = .ok (.aload_n 0, 1) := by decide +kernel
theorem d_Mo_split_9 : decode b_Mo_split 9 = .ok (.getfield 143, 3) := by decide +kernel
theorem d_Mo_split_12 : decode b_Mo_split 12 = .ok (.if_icmp .ge 99, 3) := by decide +kernel
theorem d_Mo_split_15 : decode b_Mo_split 15 = .ok (.iload_n 1, 1) := by decide +kernel
theorem d_Mo_split_16 : decode b_Mo_split 16 = .ok (.istore_n 2, 1) := by decide +kernel
theorem d_Mo_split_17 : decode b_Mo_split 17 = .ok (.iload_n 2, 1) := by decide +kernel
theorem d_Mo_split_18 : decode b_Mo_split 18 = .ok (.aload_n 0, 1) := by decide +kernel
theorem d_Mo_split_19 : decode b_Mo_split 19 = .ok (.getfield 143, 3) := by decide +kernel
theorem d_Mo_split_22 : decode b_Mo_split 22 = .ok (.if_icmp .ge 20, 3) := by decide +kernel
theorem d_Mo_split_25 : decode b_Mo_split 25 = .ok (.aload_n 0, 1) := by decide +kernel
theorem d_Mo_split_26 : decode b_Mo_split 26 = .ok (.getfield 68, 3) := by decide +kernel
theorem d_Mo_split_29 : decode b_Mo_split 29 = .ok (.iload_n 2, 1) := by decide +kernel
theorem d_Mo_split_30 : decode b_Mo_split 30 = .ok (.baload, 1) := by decide +kernel
theorem d_Mo_split_31 : decode b_Mo_split 31 = .ok (.bipush 10, 2) := by decide +kernel
theorem d_Mo_split_33 : decode b_Mo_split 33 = .ok (.if_icmp .eq 9, 3) := by decide +kernel
theorem d_Mo_split_36 : decode b_Mo_split 36 = .ok (.iinc 2 1, 3) := by decide +kernel
theorem d_Mo_split_39 : decode b_Mo_split 39 = .ok (.goto (-22), 3) := by decide +kernel
theorem d_Mo_split_42 : decode b_Mo_split 42 = .ok (.aload_n 0, 1) := by decide +kernel
theorem d_Mo_split_43 : decode b_Mo_split 43 = .ok (.getfield 71, 3) := by decide +kernel
theorem d_Mo_split_46 : decode b_Mo_split 46 = .ok (.aload_n 0, 1) := by decide +kernel
theorem d_Mo_split_47 : decode b_Mo_split 47 = .ok (.getfield 139, 3) := by decide +kernel
theorem d_Mo_split_50 : decode b_Mo_split 50 = .ok (.iload_n 1, 1) := by decide +kernel
theorem d_Mo_split_51 : decode b_Mo_split 51 = .ok (.iastore, 1) := by decide +kernel
theorem d_Mo_split_52 : decode b_Mo_split 52 = .ok (.aload_n 0, 1) := by decide +kernel
theorem d_Mo_split_53 : decode b_Mo_split 53 = .ok (.getfield 74, 3) := by decide +kernel
theorem d_Mo_split_56 : decode b_Mo_split 56 = .ok (.aload_n 0, 1) := by decide +kernel
theorem d_Mo_split_57 : decode b_Mo_split 57 = .ok (.getfield 139, 3) := by decide +kernel
theorem d_Mo_split_60 : decode b_Mo_split 60 = .ok (.iload_n 2, 1) := by decide +kernel
theorem d_Mo_split_61 : decode b_Mo_split 61 = .ok (.aload_n 0, 1) := by decide +kernel
theorem d_Mo_split_62 : decode b_Mo_split 62 = .ok (.getfield 143, 3) := by decide +kernel
theorem d_Mo_split_65 : decode b_Mo_split 65 = .ok (.if_icmp .ge 27, 3) := by decide +kernel
theorem d_Mo_split_68 : decode b_Mo_split 68 = .ok (.iload_n 2, 1) := by decide +kernel
theorem d_Mo_split_69 : decode b_Mo_split 69 = .ok (.iload_n 1, 1) := by decide +kernel
theorem d_Mo_split_70 : decode b_Mo_split 70 = .ok (.if_icmp .le 22, 3) := by decide +kernel
theorem d_Mo_split_73 : decode b_Mo_split 73 = .ok (.aload_n 0, 1) := by decide +kernel
theorem d_Mo_split_74 : decode b_Mo_split 74 = .ok (.getfield 68, 3) := by decide +kernel
theorem d_Mo_split_77 : decode b_Mo_split 77 = .ok (.iload_n 2, 1) := by decide +kernel
theorem d_Mo_split_78 : decode b_Mo_split 78 = .ok (.iconst 1, 1) := by decide +kernel
theorem d_Mo_split_79 : decode b_Mo_split 79 = .ok (.isub, 1) := by decide +kernel
theorem d_Mo_split_80 : decode b_Mo_split 80 = .ok (.baload, 1) := by decide +kernel
theorem d_Mo_split_81 : decode b_Mo_split 81 = .ok (.bipush 13, 2) := by decide +kernel
theorem d_Mo_split_83 : decode b_Mo_split 83 = .ok (.if_icmp .ne 9, 3) := by decide +kernel
theorem d_Mo_split_86 : decode b_Mo_split 86 = .ok (.iload_n 2, 1) := by decide +kernel
theorem d_Mo_split_87 : decode b_Mo_split 87 = .ok (.iconst 1, 1) := by decide +kernel
theorem d_Mo_split_88 : decode b_Mo_split 88 = .ok (.isub, 1) := by decide +kernel
theorem d_Mo_split_89 : decode b_Mo_split 89 = .ok (.goto 4, 3) := by decide +kernel
theorem d_Mo_split_92 : decode b_Mo_split 92 = .ok (.iload_n 2, 1) := by decide +kernel
theorem d_Mo_split_93 : decode b_Mo_split 93 = .ok (.iastore, 1) := by decide +kernel
theorem d_Mo_split_94 : decode b_Mo_split 94 = .ok (.aload_n 0, 1) := by decide +kernel
theorem d_Mo_split_95 : decode b_Mo_split 95 = .ok (.dup, 1) := by decide +kernel
theorem d_Mo_split_96 : decode b_Mo_split 96 = .ok (.getfield 139, 3) := by decide +kernel
theorem d_Mo_split_99 : decode b_Mo_split 99 = .ok (.iconst 1, 1) := by decide +kernel
theorem d_Mo_split_100 : decode b_Mo_split 100 = .ok (.iadd, 1) := by decide +kernel
theorem d_Mo_split_101 : decode b_Mo_split 101 = .ok (.putfield 139, 3) := by decide +kernel
theorem d_Mo_split_104 : decode b_Mo_split 104 = .ok (.iload_n 2, 1) := by decide +kernel
theorem d_Mo_split_105 : decode b_Mo_split 105 = .ok (.iconst 1, 1) := by decide +kernel
theorem d_Mo_split_106 : decode b_Mo_split 106 = .ok (.iadd, 1) := by decide +kernel
theorem d_Mo_split_107 : decode b_Mo_split 107 = .ok (.istore_n 1, 1) := by decide +kernel
theorem d_Mo_split_108 : decode b_Mo_split 108 = .ok (.goto (-101), 3) := by decide +kernel
theorem d_Mo_split_111 : decode b_Mo_split 111 = .ok (.return_, 1) := by decide +kernel
theorem d_Mo_colon_0 : decode b_Mo_colon 0 = .ok (.aload_n 0, 1) := by decide +kernel
theorem d_Mo_colon_1 : decode b_Mo_colon 1 = .ok (.getfield 71, 3) := by decide +kernel
theorem d_Mo_colon_4 : decode b_Mo_colon 4 = .ok (.iload_n 1, 1) := by decide +kernel
theorem d_Mo_colon_5 : decode b_Mo_colon 5 = .ok (.iaload, 1) := by decide +kernel
theorem d_Mo_colon_6 : decode b_Mo_colon 6 = .ok (.istore_n 2, 1) := by decide +kernel
theorem d_Mo_colon_7 : decode b_Mo_colon 7 = .ok (.iload_n 2, 1) := by decide +kernel
theorem d_Mo_colon_8 : decode b_Mo_colon 8 = .ok (.aload_n 0, 1) := by decide +kernel
theorem d_Mo_colon_9 : decode b_Mo_colon 9 = .ok (.getfield 74, 3) := by decide +kernel
theorem d_Mo_colon_12 : decode b_Mo_colon 12 = .ok (.iload_n 1, 1) := by decide +kernel
theorem d_Mo_colon_13 : decode b_Mo_colon 13 = .ok (.iaload, 1) := by decide +kernel
theorem d_Mo_colon_14 : decode b_Mo_colon 14 = .ok (.if_icmp .ge 21, 3) := by decide +kernel
theorem d_Mo_colon_17 : decode b_Mo_colon 17 = .ok (.aload_n 0, 1) := by decide +kernel
theorem d_Mo_colon_18 : decode b_Mo_colon 18 = .ok (.getfield 68, 3) := by decide +kernel
theorem d_Mo_colon_21 : decode b_Mo_colon 21 = .ok (.iload_n 2, 1) := by decide +kernel
theorem d_Mo_colon_22 : decode b_Mo_colon 22 = .ok (.baload, 1) := by decide +kernel
theorem d_Mo_colon_23 : decode b_Mo_colon 23 = .ok (.invokestatic 146, 3) := by decide +kernel
theorem d_Mo_colon_26 : decode b_Mo_colon 26 = .ok (.ifCond .eq 9, 3) := by decide +kernel
theorem d_Mo_colon_29 : decode b_Mo_colon 29 = .ok (.iinc 2 1, 3) := by decide +kernel
theorem d_Mo_colon_32 : decode b_Mo_colon 32 = .ok (.goto (-25), 3) := by decide +kernel
theorem d_Mo_colon_35 : decode b_Mo_colon 35 = .ok (.iload_n 2, 1) := by decide +kernel
theorem d_Mo_colon_36 : decode b_Mo_colon 36 = .ok (.aload_n 0, 1) := by decide +kernel
theorem d_Mo_colon_37 : decode b_Mo_colon 37 = .ok (.getfield 71, 3) := by decide +kernel
theorem d_Mo_colon_40 : decode b_Mo_colon 40 = .ok (.iload_n 1, 1) := by decide +kernel
theorem d_Mo_colon_41 : decode b_Mo_colon 41 = .ok (.iaload, 1) := by decide +kernel
theorem d_Mo_colon_42 : decode b_Mo_colon 42 = .ok (.if_icmp .le 28, 3) := by decide +kernel
theorem d_Mo_colon_45 : decode b_Mo_colon 45 = .ok (.iload_n 2, 1) := by decide +kernel
theorem d_Mo_colon_46 : decode b_Mo_colon 46 = .ok (.aload_n 0, 1) := by decide +kernel
theorem d_Mo_colon_47 : decode b_Mo_colon 47 = .ok (.getfield 74, 3) := by decide +kernel
theorem d_Mo_colon_50 : decode b_Mo_colon 50 = .ok (.iload_n 1, 1) := by decide +kernel
theorem d_Mo_colon_51 : decode b_Mo_colon 51 = .ok (.iaload, 1) := by decide +kernel
theorem d_Mo_colon_52 : decode b_Mo_colon 52 = .ok (.if_icmp .ge 18, 3) := by decide +kernel
theorem d_Mo_colon_55 : decode b_Mo_colon 55 = .ok (.aload_n 0, 1) := by decide +kernel
theorem d_Mo_colon_56 : decode b_Mo_colon 56 = .ok (.getfield 68, 3) := by decide +kernel
theorem d_Mo_colon_59 : decode b_Mo_colon 59 = .ok (.iload_n 2, 1) := by decide +kernel
theorem d_Mo_colon_60 : decode b_Mo_colon 60 = .ok (.baload, 1) := by decide +kernel
theorem d_Mo_colon_61 : decode b_Mo_colon 61 = .ok (.bipush 58, 2) := by decide +kernel
theorem d_Mo_colon_63 : decode b_Mo_colon 63 = .ok (.if_icmp .ne 7, 3) := by decide +kernel
theorem d_Mo_colon_66 : decode b_Mo_colon 66 = .ok (.iload_n 2, 1) := by decide +kernel
theorem d_Mo_colon_67 : decode b_Mo_colon 67 = .ok (.goto 4, 3) := by decide +kernel
theorem d_Mo_colon_70 : decode b_Mo_colon 70 = .ok (.iconst (-1), 1) := by decide +kernel
theorem d_Mo_colon_71 : decode b_Mo_colon 71 = .ok (.ireturn, 1) := by decide +kernel
theorem d_Mo_findHead_0 : decode b_Mo_findHead 0 = .ok (.aload_n 0, 1) := by decide +kernel
theorem d_Mo_findHead_1 : decode b_Mo_findHead 1 = .ok (.getfield 77, 3) := by decide +kernel
theorem d_Mo_findHead_4 : decode b_Mo_findHead 4 = .ok (.iload_n 1, 1) := by decide +kernel
theorem d_Mo_findHead_5 : decode b_Mo_findHead 5 = .ok (.iaload, 1) := by decide +kernel
theorem d_Mo_findHead_6 : decode b_Mo_findHead 6 = .ok (.istore_n 2, 1) := by decide +kernel
theorem d_Mo_findHead_7 : decode b_Mo_findHead 7 = .ok (.iconst 0, 1) := by decide +kernel
theorem d_Mo_findHead_8 : decode b_Mo_findHead 8 = .ok (.istore_n 3, 1) := by decide +kernel
theorem d_Mo_findHead_9 : decode b_Mo_findHead 9 = .ok (.iconst 1, 1) := by decide +kernel
theorem d_Mo_findHead_10 : decode b_Mo_findHead 10 = .ok (.istore 4, 2) := by decide +kernel
theorem d_Mo_findHead_12 : decode b_Mo_findHead 12 = .ok (.iload_n 2, 1) := by decide +kernel
theorem d_Mo_findHead_13 : decode b_Mo_findHead 13 = .ok (.aload_n 0, 1) := by decide +kernel
theorem d_Mo_findHead_14 : decode b_Mo_findHead 14 = .ok (.getfield 80, 3) := by decide +kernel
theorem d_Mo_findHead_17 : decode b_Mo_findHead 17 = .ok (.iload_n 1, 1) := by decide +kernel
theorem d_Mo_findHead_18 : decode b_Mo_findHead 18 = .ok (.iaload, 1) := by decide +kernel
theorem d_Mo_findHead_19 : decode b_Mo_findHead 19 = .ok (.if_icmp .ge 103, 3) := by decide +kernel
theorem d_Mo_findHead_22 : decode b_Mo_findHead 22 = .ok (.iload 4, 2) := by decide +kernel
theorem d_Mo_findHead_24 : decode b_Mo_findHead 24 = .ok (.ifCond .eq 98, 3) := by decide +kernel
theorem d_Mo_findHead_27 : decode b_Mo_findHead 27 = .ok (.aload_n 0, 1) := by decide +kernel
theorem d_Mo_findHead_28 : decode b_Mo_findHead 28 = .ok (.iload_n 2, 1) := by decide +kernel
theorem d_Mo_findHead_29 : decode b_Mo_findHead 29 = .ok (.invokevirtual 150, 3) := by decide +kernel
theorem d_Mo_findHead_32 : decode b_Mo_findHead 32 = .ok (.iconst (-1), 1) := by decide +kernel
theorem d_Mo_findHead_33 : decode b_Mo_findHead 33 = .ok (.if_icmp .eq 7, 3) := by decide +kernel
theorem d_Mo_findHead_36 : decode b_Mo_findHead 36 = .ok (.iconst 1, 1) := by decide +kernel
theorem d_Mo_findHead_37 : decode b_Mo_findHead 37 = .ok (.goto 4, 3) := by decide +kernel
theorem d_Mo_findHead_40 : decode b_Mo_findHead 40 = .ok (.iconst 0, 1) := by decide +kernel
theorem d_Mo_findHead_41 : decode b_Mo_findHead 41 = .ok (.istore 5, 2) := by decide +kernel
theorem d_Mo_findHead_43 : decode b_Mo_findHead 43 = .ok (.iload 5, 2) := by decide +kernel
theorem d_Mo_findHead_45 : decode b_Mo_findHead 45 = .ok (.ifCond .ne 39, 3) := by decide +kernel
theorem d_Mo_findHead_48 : decode b_Mo_findHead 48 = .ok (.iload_n 3, 1) := by decide +kernel
theorem d_Mo_findHead_49 : decode b_Mo_findHead 49 = .ok (.ifCond .eq 39, 3) := by decide +kernel
theorem d_Mo_findHead_52 : decode b_Mo_findHead 52 = .ok (.aload_n 0, 1) := by decide +kernel
theorem d_Mo_findHead_53 : decode b_Mo_findHead 53 = .ok (.getfield 71, 3) := by decide +kernel
theorem d_Mo_findHead_56 : decode b_Mo_findHead 56 = .ok (.iload_n 2, 1) := by decide +kernel
theorem d_Mo_findHead_57 : decode b_Mo_findHead 57 = .ok (.iaload, 1) := by decide +kernel
theorem d_Mo_findHead_58 : decode b_Mo_findHead 58 = .ok (.aload_n 0, 1) := by decide +kernel
theorem d_Mo_findHead_59 : decode b_Mo_findHead 59 = .ok (.getfield 74, 3) := by decide +kernel
theorem d_Mo_findHead_62 : decode b_Mo_findHead 62 = .ok (.iload_n 2, 1) := by decide +kernel
theorem d_Mo_findHead_63 : decode b_Mo_findHead 63 = .ok (.iaload, 1) := by decide +kernel
theorem d_Mo_findHead_64 : decode b_Mo_findHead 64 = .ok (.if_icmp .ge 24, 3) := by decide +kernel
theorem d_Mo_findHead_67 : decode b_Mo_findHead 67 = .ok (.aload_n 0, 1) := by decide +kernel
theorem d_Mo_findHead_68 : decode b_Mo_findHead 68 = .ok (.getfield 68, 3) := by decide +kernel
theorem d_Mo_findHead_71 : decode b_Mo_findHead 71 = .ok (.aload_n 0, 1) := by decide +kernel
theorem d_Mo_findHead_72 : decode b_Mo_findHead 72 = .ok (.getfield 71, 3) := by decide +kernel
theorem d_Mo_findHead_75 : decode b_Mo_findHead 75 = .ok (.iload_n 2, 1) := by decide +kernel
theorem d_Mo_findHead_76 : decode b_Mo_findHead 76 = .ok (.iaload, 1) := by decide +kernel
theorem d_Mo_findHead_77 : decode b_Mo_findHead 77 = .ok (.baload, 1) := by decide +kernel
theorem d_Mo_findHead_78 : decode b_Mo_findHead 78 = .ok (.invokestatic 153, 3) := by decide +kernel
theorem d_Mo_findHead_81 : decode b_Mo_findHead 81 = .ok (.ifCond .eq 7, 3) := by decide +kernel
theorem d_Mo_findHead_84 : decode b_Mo_findHead 84 = .ok (.iconst 1, 1) := by decide +kernel
theorem d_Mo_findHead_85 : decode b_Mo_findHead 85 = .ok (.goto 4, 3) := by decide +kernel
theorem d_Mo_findHead_88 : decode b_Mo_findHead 88 = .ok (.iconst 0, 1) := by decide +kernel
theorem d_Mo_findHead_89 : decode b_Mo_findHead 89 = .ok (.istore 4, 2) := by decide +kernel
theorem d_Mo_findHead_91 : decode b_Mo_findHead 91 = .ok (.iload_n 3, 1) := by decide +kernel
theorem d_Mo_findHead_92 : decode b_Mo_findHead 92 = .ok (.ifCond .ne 8, 3) := by decide +kernel
theorem d_Mo_findHead_95 : decode b_Mo_findHead 95 = .ok (.iload 5, 2) := by decide +kernel
theorem d_Mo_findHead_97 : decode b_Mo_findHead 97 = .ok (.ifCond .eq 7, 3) := by decide +kernel
theorem d_Mo_findHead_100 : decode b_Mo_findHead 100 = .ok (.iconst 1, 1) := by decide +kernel
theorem d_Mo_findHead_101 : decode b_Mo_findHead 101 = .ok (.goto 4, 3) := by decide +kernel
theorem d_Mo_findHead_104 : decode b_Mo_findHead 104 = .ok (.iconst 0, 1) := by decide +kernel
theorem d_Mo_findHead_105 : decode b_Mo_findHead 105 = .ok (.istore_n 3, 1) := by decide +kernel
theorem d_Mo_findHead_106 : decode b_Mo_findHead 106 = .ok (.iload_n 2, 1) := by decide +kernel
theorem d_Mo_findHead_107 : decode b_Mo_findHead 107 = .ok (.iload 4, 2) := by decide +kernel
theorem d_Mo_findHead_109 : decode b_Mo_findHead 109 = .ok (.ifCond .eq 7, 3) := by decide +kernel
theorem d_Mo_findHead_112 : decode b_Mo_findHead 112 = .ok (.iconst 1, 1) := by decide +kernel
theorem d_Mo_findHead_113 : decode b_Mo_findHead 113 = .ok (.goto 4, 3) := by decide +kernel
theorem d_Mo_findHead_116 : decode b_Mo_findHead 116 = .ok (.iconst 0, 1) := by decide +kernel
theorem d_Mo_findHead_117 : decode b_Mo_findHead 117 = .ok (.iadd, 1) := by decide +kernel
theorem d_Mo_findHead_118 : decode b_Mo_findHead 118 = .ok (.istore_n 2, 1) := by decide +kernel
theorem d_Mo_findHead_119 : decode b_Mo_findHead 119 = .ok (.goto (-107), 3) := by decide +kernel
theorem d_Mo_findHead_122 : decode b_Mo_findHead 122 = .ok (.aload_n 0, 1) := by decide +kernel
theorem d_Mo_findHead_123 : decode b_Mo_findHead 123 = .ok (.getfield 83, 3) := by decide +kernel
theorem d_Mo_findHead_126 : decode b_Mo_findHead 126 = .ok (.iload_n 1, 1) := by decide +kernel
theorem d_Mo_findHead_127 : decode b_Mo_findHead 127 = .ok (.iload_n 2, 1) := by decide +kernel
theorem d_Mo_findHead_128 : decode b_Mo_findHead 128 = .ok (.iastore, 1) := by decide +kernel
theorem d_Mo_findHead_129 : decode b_Mo_findHead 129 = .ok (.aload_n 0, 1) := by decide +kernel
theorem d_Mo_findHead_130 : decode b_Mo_findHead 130 = .ok (.getfield 86, 3) := by decide +kernel
theorem d_Mo_findHead_133 : decode b_Mo_findHead 133 = .ok (.iload_n 1, 1) := by decide +kernel
theorem d_Mo_findHead_134 : decode b_Mo_findHead 134 = .ok (.iload_n 2, 1) := by decide +kernel
theorem d_Mo_findHead_135 : decode b_Mo_findHead 135 = .ok (.aload_n 0, 1) := by decide +kernel
theorem d_Mo_findHead_136 : decode b_Mo_findHead 136 = .ok (.getfield 80, 3) := by decide +kernel
theorem d_Mo_findHead_139 : decode b_Mo_findHead 139 = .ok (.iload_n 1, 1) := by decide +kernel
theorem d_Mo_findHead_140 : decode b_Mo_findHead 140 = .ok (.iaload, 1) := by decide +kernel
theorem d_Mo_findHead_141 : decode b_Mo_findHead 141 = .ok (.if_icmp .ge 24, 3) := by decide +kernel
theorem d_Mo_findHead_144 : decode b_Mo_findHead 144 = .ok (.aload_n 0, 1) := by decide +kernel
theorem d_Mo_findHead_145 : decode b_Mo_findHead 145 = .ok (.getfield 71, 3) := by decide +kernel
theorem d_Mo_findHead_148 : decode b_Mo_findHead 148 = .ok (.iload_n 2, 1) := by decide +kernel
theorem d_Mo_findHead_149 : decode b_Mo_findHead 149 = .ok (.iaload, 1) := by decide +kernel
theorem d_Mo_findHead_150 : decode b_Mo_findHead 150 = .ok (.aload_n 0, 1) := by decide +kernel
theorem d_Mo_findHead_151 : decode b_Mo_findHead 151 = .ok (.getfield 74, 3) := by decide +kernel
theorem d_Mo_findHead_154 : decode b_Mo_findHead 154 = .ok (.iload_n 2, 1) := by decide +kernel
theorem d_Mo_findHead_155 : decode b_Mo_findHead 155 = .ok (.iaload, 1) := by decide +kernel
theorem d_Mo_findHead_156 : decode b_Mo_findHead 156 = .ok (.if_icmp .ne 9, 3) := by decide +kernel
theorem d_Mo_findHead_159 : decode b_Mo_findHead 159 = .ok (.iload_n 2, 1) := by decide +kernel
theorem d_Mo_findHead_160 : decode b_Mo_findHead 160 = .ok (.iconst 1, 1) := by decide +kernel
theorem d_Mo_findHead_161 : decode b_Mo_findHead 161 = .ok (.iadd, 1) := by decide +kernel
theorem d_Mo_findHead_162 : decode b_Mo_findHead 162 = .ok (.goto 4, 3) := by decide +kernel
theorem d_Mo_findHead_165 : decode b_Mo_findHead 165 = .ok (.iload_n 2, 1) := by decide +kernel
theorem d_Mo_findHead_166 : decode b_Mo_findHead 166 = .ok (.iastore, 1) := by decide +kernel
theorem d_Mo_findHead_167 : decode b_Mo_findHead 167 = .ok (.return_, 1) := by decide +kernel
theorem d_Mo_isWord_0 : decode b_Mo_isWord 0 = .ok (.iload_n 2, 1) := by decide +kernel
theorem d_Mo_isWord_1 : decode b_Mo_isWord 1 = .ok (.iload_n 1, 1) := by decide +kernel
theorem d_Mo_isWord_2 : decode b_Mo_isWord 2 = .ok (.isub, 1) := by decide +kernel
theorem d_Mo_isWord_3 : decode b_Mo_isWord 3 = .ok (.iload 4, 2) := by decide +kernel
theorem d_Mo_isWord_5 : decode b_Mo_isWord 5 = .ok (.if_icmp .eq 5, 3) := by decide +kernel
theorem d_Mo_isWord_8 : decode b_Mo_isWord 8 = .ok (.iconst 0, 1) := by decide +kernel
theorem d_Mo_isWord_9 : decode b_Mo_isWord 9 = .ok (.ireturn, 1) := by decide +kernel
theorem d_Mo_isWord_10 : decode b_Mo_isWord 10 = .ok (.iconst 0, 1) := by decide +kernel
theorem d_Mo_isWord_11 : decode b_Mo_isWord 11 = .ok (.istore 5, 2) := by decide +kernel
theorem d_Mo_isWord_13 : decode b_Mo_isWord 13 = .ok (.iload 5, 2) := by decide +kernel
theorem d_Mo_isWord_15 : decode b_Mo_isWord 15 = .ok (.iload 4, 2) := by decide +kernel
theorem d_Mo_isWord_17 : decode b_Mo_isWord 17 = .ok (.if_icmp .ge 27, 3) := by decide +kernel
theorem d_Mo_isWord_20 : decode b_Mo_isWord 20 = .ok (.aload_n 0, 1) := by decide +kernel
theorem d_Mo_isWord_21 : decode b_Mo_isWord 21 = .ok (.iload_n 1, 1) := by decide +kernel
theorem d_Mo_isWord_22 : decode b_Mo_isWord 22 = .ok (.iload 5, 2) := by decide +kernel
theorem d_Mo_isWord_24 : decode b_Mo_isWord 24 = .ok (.iadd, 1) := by decide +kernel
theorem d_Mo_isWord_25 : decode b_Mo_isWord 25 = .ok (.baload, 1) := by decide +kernel
theorem d_Mo_isWord_26 : decode b_Mo_isWord 26 = .ok (.invokestatic 135, 3) := by decide +kernel
theorem d_Mo_isWord_29 : decode b_Mo_isWord 29 = .ok (.aload_n 3, 1) := by decide +kernel
theorem d_Mo_isWord_30 : decode b_Mo_isWord 30 = .ok (.iload 5, 2) := by decide +kernel
theorem d_Mo_isWord_32 : decode b_Mo_isWord 32 = .ok (.iaload, 1) := by decide +kernel
theorem d_Mo_isWord_33 : decode b_Mo_isWord 33 = .ok (.if_icmp .eq 5, 3) := by decide +kernel
theorem d_Mo_isWord_36 : decode b_Mo_isWord 36 = .ok (.iconst 0, 1) := by decide +kernel
theorem d_Mo_isWord_37 : decode b_Mo_isWord 37 = .ok (.ireturn, 1) := by decide +kernel
theorem d_Mo_isWord_38 : decode b_Mo_isWord 38 = .ok (.iinc 5 1, 3) := by decide +kernel
theorem d_Mo_isWord_41 : decode b_Mo_isWord 41 = .ok (.goto (-28), 3) := by decide +kernel
theorem d_Mo_isWord_44 : decode b_Mo_isWord 44 = .ok (.iconst 1, 1) := by decide +kernel
theorem d_Mo_isWord_45 : decode b_Mo_isWord 45 = .ok (.ireturn, 1) := by decide +kernel
theorem d_Mo_find_0 : decode b_Mo_find 0 = .ok (.aload_n 0, 1) := by decide +kernel
theorem d_Mo_find_1 : decode b_Mo_find 1 = .ok (.iconst 0, 1) := by decide +kernel
theorem d_Mo_find_2 : decode b_Mo_find 2 = .ok (.putfield 156, 3) := by decide +kernel
theorem d_Mo_find_5 : decode b_Mo_find 5 = .ok (.aload_n 0, 1) := by decide +kernel
theorem d_Mo_find_6 : decode b_Mo_find 6 = .ok (.getfield 77, 3) := by decide +kernel
theorem d_Mo_find_9 : decode b_Mo_find 9 = .ok (.iload_n 1, 1) := by decide +kernel
theorem d_Mo_find_10 : decode b_Mo_find 10 = .ok (.iaload, 1) := by decide +kernel
theorem d_Mo_find_11 : decode b_Mo_find 11 = .ok (.istore 4, 2) := by decide +kernel
theorem d_Mo_find_13 : decode b_Mo_find 13 = .ok (.iload 4, 2) := by decide +kernel
theorem d_Mo_find_15 : decode b_Mo_find 15 = .ok (.aload_n 0, 1) := by decide +kernel
theorem d_Mo_find_16 : decode b_Mo_find 16 = .ok (.getfield 83, 3) := by decide +kernel
theorem d_Mo_find_19 : decode b_Mo_find 19 = .ok (.iload_n 1, 1) := by decide +kernel
theorem d_Mo_find_20 : decode b_Mo_find 20 = .ok (.iaload, 1) := by decide +kernel
theorem d_Mo_find_21 : decode b_Mo_find 21 = .ok (.if_icmp .ge 44, 3) := by decide +kernel
theorem d_Mo_find_24 : decode b_Mo_find 24 = .ok (.aload_n 0, 1) := by decide +kernel
theorem d_Mo_find_25 : decode b_Mo_find 25 = .ok (.iload 4, 2) := by decide +kernel
theorem d_Mo_find_27 : decode b_Mo_find 27 = .ok (.invokevirtual 150, 3) := by decide +kernel
theorem d_Mo_find_30 : decode b_Mo_find 30 = .ok (.iconst (-1), 1) := by decide +kernel
theorem d_Mo_find_31 : decode b_Mo_find 31 = .ok (.if_icmp .eq 28, 3) := by decide +kernel
theorem d_Mo_find_34 : decode b_Mo_find 34 = .ok (.aload_n 0, 1) := by decide +kernel
theorem d_Mo_find_35 : decode b_Mo_find 35 = .ok (.getfield 68, 3) := by decide +kernel
theorem d_Mo_find_38 : decode b_Mo_find 38 = .ok (.aload_n 0, 1) := by decide +kernel
theorem d_Mo_find_39 : decode b_Mo_find 39 = .ok (.getfield 71, 3) := by decide +kernel
theorem d_Mo_find_42 : decode b_Mo_find 42 = .ok (.iload 4, 2) := by decide +kernel
theorem d_Mo_find_44 : decode b_Mo_find 44 = .ok (.iaload, 1) := by decide +kernel
theorem d_Mo_find_45 : decode b_Mo_find 45 = .ok (.aload_n 0, 1) := by decide +kernel
theorem d_Mo_find_46 : decode b_Mo_find 46 = .ok (.iload 4, 2) := by decide +kernel
theorem d_Mo_find_48 : decode b_Mo_find 48 = .ok (.invokevirtual 150, 3) := by decide +kernel
theorem d_Mo_find_51 : decode b_Mo_find 51 = .ok (.aload_n 2, 1) := by decide +kernel
theorem d_Mo_find_52 : decode b_Mo_find 52 = .ok (.iload_n 3, 1) := by decide +kernel
theorem d_Mo_find_53 : decode b_Mo_find 53 = .ok (.invokestatic 159, 3) := by decide +kernel
theorem d_Mo_find_56 : decode b_Mo_find 56 = .ok (.ifCond .ne 9, 3) := by decide +kernel
theorem d_Mo_find_59 : decode b_Mo_find 59 = .ok (.iinc 4 1, 3) := by decide +kernel
theorem d_Mo_find_62 : decode b_Mo_find 62 = .ok (.goto (-49), 3) := by decide +kernel
theorem d_Mo_find_65 : decode b_Mo_find 65 = .ok (.iload 4, 2) := by decide +kernel
theorem d_Mo_find_67 : decode b_Mo_find 67 = .ok (.aload_n 0, 1) := by decide +kernel
theorem d_Mo_find_68 : decode b_Mo_find 68 = .ok (.getfield 83, 3) := by decide +kernel
theorem d_Mo_find_71 : decode b_Mo_find 71 = .ok (.iload_n 1, 1) := by decide +kernel
theorem d_Mo_find_72 : decode b_Mo_find 72 = .ok (.iaload, 1) := by decide +kernel
theorem d_Mo_find_73 : decode b_Mo_find 73 = .ok (.if_icmp .lt 5, 3) := by decide +kernel
theorem d_Mo_find_76 : decode b_Mo_find 76 = .ok (.iconst 0, 1) := by decide +kernel
theorem d_Mo_find_77 : decode b_Mo_find 77 = .ok (.ireturn, 1) := by decide +kernel
theorem d_Mo_find_78 : decode b_Mo_find 78 = .ok (.aload_n 0, 1) := by decide +kernel
theorem d_Mo_find_79 : decode b_Mo_find 79 = .ok (.iload 4, 2) := by decide +kernel
theorem d_Mo_find_81 : decode b_Mo_find 81 = .ok (.invokevirtual 150, 3) := by decide +kernel
theorem d_Mo_find_84 : decode b_Mo_find 84 = .ok (.iconst 1, 1) := by decide +kernel
theorem d_Mo_find_85 : decode b_Mo_find 85 = .ok (.iadd, 1) := by decide +kernel
theorem d_Mo_find_86 : decode b_Mo_find 86 = .ok (.istore 5, 2) := by decide +kernel
theorem d_Mo_find_88 : decode b_Mo_find 88 = .ok (.iconst 1, 1) := by decide +kernel
theorem d_Mo_find_89 : decode b_Mo_find 89 = .ok (.istore 6, 2) := by decide +kernel
theorem d_Mo_find_91 : decode b_Mo_find 91 = .ok (.iload 6, 2) := by decide +kernel
theorem d_Mo_find_93 : decode b_Mo_find 93 = .ok (.ifCond .eq 99, 3) := by decide +kernel
theorem d_Mo_find_96 : decode b_Mo_find 96 = .ok (.iload 5, 2) := by decide +kernel
theorem d_Mo_find_98 : decode b_Mo_find 98 = .ok (.aload_n 0, 1) := by decide +kernel
theorem d_Mo_find_99 : decode b_Mo_find 99 = .ok (.getfield 74, 3) := by decide +kernel
theorem d_Mo_find_102 : decode b_Mo_find 102 = .ok (.iload 4, 2) := by decide +kernel
theorem d_Mo_find_104 : decode b_Mo_find 104 = .ok (.iaload, 1) := by decide +kernel
theorem d_Mo_find_105 : decode b_Mo_find 105 = .ok (.if_icmp .ge 35, 3) := by decide +kernel
theorem d_Mo_find_108 : decode b_Mo_find 108 = .ok (.aload_n 0, 1) := by decide +kernel
theorem d_Mo_find_109 : decode b_Mo_find 109 = .ok (.getfield 117, 3) := by decide +kernel
theorem d_Mo_find_112 : decode b_Mo_find 112 = .ok (.aload_n 0, 1) := by decide +kernel
theorem d_Mo_find_113 : decode b_Mo_find 113 = .ok (.getfield 156, 3) := by decide +kernel
theorem d_Mo_find_116 : decode b_Mo_find 116 = .ok (.aload_n 0, 1) := by decide +kernel
theorem d_Mo_find_117 : decode b_Mo_find 117 = .ok (.getfield 68, 3) := by decide +kernel
theorem d_Mo_find_120 : decode b_Mo_find 120 = .ok (.iload 5, 2) := by decide +kernel
theorem d_Mo_find_122 : decode b_Mo_find 122 = .ok (.baload, 1) := by decide +kernel
theorem d_Mo_find_123 : decode b_Mo_find 123 = .ok (.bastore, 1) := by decide +kernel
theorem d_Mo_find_124 : decode b_Mo_find 124 = .ok (.aload_n 0, 1) := by decide +kernel
theorem d_Mo_find_125 : decode b_Mo_find 125 = .ok (.dup, 1) := by decide +kernel
theorem d_Mo_find_126 : decode b_Mo_find 126 = .ok (.getfield 156, 3) := by decide +kernel
theorem d_Mo_find_129 : decode b_Mo_find 129 = .ok (.iconst 1, 1) := by decide +kernel
theorem d_Mo_find_130 : decode b_Mo_find 130 = .ok (.iadd, 1) := by decide +kernel
theorem d_Mo_find_131 : decode b_Mo_find 131 = .ok (.putfield 156, 3) := by decide +kernel
theorem d_Mo_find_134 : decode b_Mo_find 134 = .ok (.iinc 5 1, 3) := by decide +kernel
theorem d_Mo_find_137 : decode b_Mo_find 137 = .ok (.goto (-41), 3) := by decide +kernel
theorem d_Mo_find_140 : decode b_Mo_find 140 = .ok (.iinc 4 1, 3) := by decide +kernel
theorem d_Mo_find_143 : decode b_Mo_find 143 = .ok (.iload 4, 2) := by decide +kernel
theorem d_Mo_find_145 : decode b_Mo_find 145 = .ok (.aload_n 0, 1) := by decide +kernel
theorem d_Mo_find_146 : decode b_Mo_find 146 = .ok (.getfield 83, 3) := by decide +kernel
theorem d_Mo_find_149 : decode b_Mo_find 149 = .ok (.iload_n 1, 1) := by decide +kernel
theorem d_Mo_find_150 : decode b_Mo_find 150 = .ok (.iaload, 1) := by decide +kernel
theorem d_Mo_find_151 : decode b_Mo_find 151 = .ok (.if_icmp .ge 17, 3) := by decide +kernel
theorem d_Mo_find_154 : decode b_Mo_find 154 = .ok (.aload_n 0, 1) := by decide +kernel
theorem d_Mo_find_155 : decode b_Mo_find 155 = .ok (.iload 4, 2) := by decide +kernel
theorem d_Mo_find_157 : decode b_Mo_find 157 = .ok (.invokevirtual 150, 3) := by decide +kernel
theorem d_Mo_find_160 : decode b_Mo_find 160 = .ok (.iconst (-1), 1) := by decide +kernel
theorem d_Mo_find_161 : decode b_Mo_find 161 = .ok (.if_icmp .ne 7, 3) := by decide +kernel
theorem d_Mo_find_164 : decode b_Mo_find 164 = .ok (.iconst 1, 1) := by decide +kernel
theorem d_Mo_find_165 : decode b_Mo_find 165 = .ok (.goto 4, 3) := by decide +kernel
theorem d_Mo_find_168 : decode b_Mo_find 168 = .ok (.iconst 0, 1) := by decide +kernel
theorem d_Mo_find_169 : decode b_Mo_find 169 = .ok (.istore 6, 2) := by decide +kernel
theorem d_Mo_find_171 : decode b_Mo_find 171 = .ok (.iload 6, 2) := by decide +kernel
theorem d_Mo_find_173 : decode b_Mo_find 173 = .ok (.ifCond .eq 13, 3) := by decide +kernel
theorem d_Mo_find_176 : decode b_Mo_find 176 = .ok (.aload_n 0, 1) := by decide +kernel
theorem d_Mo_find_177 : decode b_Mo_find 177 = .ok (.getfield 71, 3) := by decide +kernel
theorem d_Mo_find_180 : decode b_Mo_find 180 = .ok (.iload 4, 2) := by decide +kernel
theorem d_Mo_find_182 : decode b_Mo_find 182 = .ok (.iaload, 1) := by decide +kernel
theorem d_Mo_find_183 : decode b_Mo_find 183 = .ok (.goto 4, 3) := by decide +kernel
theorem d_Mo_find_186 : decode b_Mo_find 186 = .ok (.iconst 0, 1) := by decide +kernel
theorem d_Mo_find_187 : decode b_Mo_find 187 = .ok (.istore 5, 2) := by decide +kernel
theorem d_Mo_find_189 : decode b_Mo_find 189 = .ok (.goto (-98), 3) := by decide +kernel
theorem d_Mo_find_192 : decode b_Mo_find 192 = .ok (.iconst 1, 1) := by decide +kernel
theorem d_Mo_find_193 : decode b_Mo_find 193 = .ok (.ireturn, 1) := by decide +kernel
theorem d_Mo_trim_0 : decode b_Mo_trim 0 = .ok (.aload_n 0, 1) := by decide +kernel
theorem d_Mo_trim_1 : decode b_Mo_trim 1 = .ok (.iload_n 1, 1) := by decide +kernel
theorem d_Mo_trim_2 : decode b_Mo_trim 2 = .ok (.putfield 163, 3) := by decide +kernel
theorem d_Mo_trim_5 : decode b_Mo_trim 5 = .ok (.aload_n 0, 1) := by decide +kernel
theorem d_Mo_trim_6 : decode b_Mo_trim 6 = .ok (.iload_n 2, 1) := by decide +kernel
theorem d_Mo_trim_7 : decode b_Mo_trim 7 = .ok (.putfield 166, 3) := by decide +kernel
theorem d_Mo_trim_10 : decode b_Mo_trim 10 = .ok (.aload_n 0, 1) := by decide +kernel
theorem d_Mo_trim_11 : decode b_Mo_trim 11 = .ok (.getfield 163, 3) := by decide +kernel
theorem d_Mo_trim_14 : decode b_Mo_trim 14 = .ok (.aload_n 0, 1) := by decide +kernel
theorem d_Mo_trim_15 : decode b_Mo_trim 15 = .ok (.getfield 166, 3) := by decide +kernel
theorem d_Mo_trim_18 : decode b_Mo_trim 18 = .ok (.if_icmp .ge 31, 3) := by decide +kernel
theorem d_Mo_trim_21 : decode b_Mo_trim 21 = .ok (.aload_n 0, 1) := by decide +kernel
theorem d_Mo_trim_22 : decode b_Mo_trim 22 = .ok (.getfield 117, 3) := by decide +kernel
theorem d_Mo_trim_25 : decode b_Mo_trim 25 = .ok (.aload_n 0, 1) := by decide +kernel
theorem d_Mo_trim_26 : decode b_Mo_trim 26 = .ok (.getfield 163, 3) := by decide +kernel
theorem d_Mo_trim_29 : decode b_Mo_trim 29 = .ok (.baload, 1) := by decide +kernel
theorem d_Mo_trim_30 : decode b_Mo_trim 30 = .ok (.invokestatic 153, 3) := by decide +kernel
theorem d_Mo_trim_33 : decode b_Mo_trim 33 = .ok (.ifCond .eq 16, 3) := by decide +kernel
theorem d_Mo_trim_36 : decode b_Mo_trim 36 = .ok (.aload_n 0, 1) := by decide +kernel
theorem d_Mo_trim_37 : decode b_Mo_trim 37 = .ok (.dup, 1) := by decide +kernel
theorem d_Mo_trim_38 : decode b_Mo_trim 38 = .ok (.getfield 163, 3) := by decide +kernel
theorem d_Mo_trim_41 : decode b_Mo_trim 41 = .ok (.iconst 1, 1) := by decide +kernel
theorem d_Mo_trim_42 : decode b_Mo_trim 42 = .ok (.iadd, 1) := by decide +kernel
theorem d_Mo_trim_43 : decode b_Mo_trim 43 = .ok (.putfield 163, 3) := by decide +kernel
theorem d_Mo_trim_46 : decode b_Mo_trim 46 = .ok (.goto (-36), 3) := by decide +kernel
theorem d_Mo_trim_49 : decode b_Mo_trim 49 = .ok (.aload_n 0, 1) := by decide +kernel
theorem d_Mo_trim_50 : decode b_Mo_trim 50 = .ok (.getfield 163, 3) := by decide +kernel
theorem d_Mo_trim_53 : decode b_Mo_trim 53 = .ok (.aload_n 0, 1) := by decide +kernel
theorem d_Mo_trim_54 : decode b_Mo_trim 54 = .ok (.getfield 166, 3) := by decide +kernel
theorem d_Mo_trim_57 : decode b_Mo_trim 57 = .ok (.if_icmp .ge 33, 3) := by decide +kernel
theorem d_Mo_trim_60 : decode b_Mo_trim 60 = .ok (.aload_n 0, 1) := by decide +kernel
theorem d_Mo_trim_61 : decode b_Mo_trim 61 = .ok (.getfield 117, 3) := by decide +kernel
theorem d_Mo_trim_64 : decode b_Mo_trim 64 = .ok (.aload_n 0, 1) := by decide +kernel
theorem d_Mo_trim_65 : decode b_Mo_trim 65 = .ok (.getfield 166, 3) := by decide +kernel
theorem d_Mo_trim_68 : decode b_Mo_trim 68 = .ok (.iconst 1, 1) := by decide +kernel
theorem d_Mo_trim_69 : decode b_Mo_trim 69 = .ok (.isub, 1) := by decide +kernel
theorem d_Mo_trim_70 : decode b_Mo_trim 70 = .ok (.baload, 1) := by decide +kernel
theorem d_Mo_trim_71 : decode b_Mo_trim 71 = .ok (.invokestatic 153, 3) := by decide +kernel
theorem d_Mo_trim_74 : decode b_Mo_trim 74 = .ok (.ifCond .eq 16, 3) := by decide +kernel
theorem d_Mo_trim_77 : decode b_Mo_trim 77 = .ok (.aload_n 0, 1) := by decide +kernel
theorem d_Mo_trim_78 : decode b_Mo_trim 78 = .ok (.dup, 1) := by decide +kernel
theorem d_Mo_trim_79 : decode b_Mo_trim 79 = .ok (.getfield 166, 3) := by decide +kernel
theorem d_Mo_trim_82 : decode b_Mo_trim 82 = .ok (.iconst 1, 1) := by decide +kernel
theorem d_Mo_trim_83 : decode b_Mo_trim 83 = .ok (.isub, 1) := by decide +kernel
theorem d_Mo_trim_84 : decode b_Mo_trim 84 = .ok (.putfield 166, 3) := by decide +kernel
theorem d_Mo_trim_87 : decode b_Mo_trim 87 = .ok (.goto (-38), 3) := by decide +kernel
theorem d_Mo_trim_90 : decode b_Mo_trim 90 = .ok (.return_, 1) := by decide +kernel
theorem d_Mo_over_0 : decode b_Mo_over 0 = .ok (.aload_n 0, 1) := by decide +kernel
theorem d_Mo_over_1 : decode b_Mo_over 1 = .ok (.getfield 117, 3) := by decide +kernel
theorem d_Mo_over_4 : decode b_Mo_over 4 = .ok (.iload_n 1, 1) := by decide +kernel
theorem d_Mo_over_5 : decode b_Mo_over 5 = .ok (.baload, 1) := by decide +kernel
theorem d_Mo_over_6 : decode b_Mo_over 6 = .ok (.bipush 34, 2) := by decide +kernel
theorem d_Mo_over_8 : decode b_Mo_over 8 = .ok (.if_icmp .eq 7, 3) := by decide +kernel
theorem d_Mo_over_11 : decode b_Mo_over 11 = .ok (.iload_n 1, 1) := by decide +kernel
theorem d_Mo_over_12 : decode b_Mo_over 12 = .ok (.iconst 1, 1) := by decide +kernel
theorem d_Mo_over_13 : decode b_Mo_over 13 = .ok (.iadd, 1) := by decide +kernel
theorem d_Mo_over_14 : decode b_Mo_over 14 = .ok (.ireturn, 1) := by decide +kernel
theorem d_Mo_over_15 : decode b_Mo_over 15 = .ok (.iload_n 1, 1) := by decide +kernel
theorem d_Mo_over_16 : decode b_Mo_over 16 = .ok (.iconst 1, 1) := by decide +kernel
theorem d_Mo_over_17 : decode b_Mo_over 17 = .ok (.iadd, 1) := by decide +kernel
theorem d_Mo_over_18 : decode b_Mo_over 18 = .ok (.istore_n 3, 1) := by decide +kernel
theorem d_Mo_over_19 : decode b_Mo_over 19 = .ok (.iload_n 3, 1) := by decide +kernel
theorem d_Mo_over_20 : decode b_Mo_over 20 = .ok (.iload_n 2, 1) := by decide +kernel
theorem d_Mo_over_21 : decode b_Mo_over 21 = .ok (.if_icmp .ge 36, 3) := by decide +kernel
theorem d_Mo_over_24 : decode b_Mo_over 24 = .ok (.aload_n 0, 1) := by decide +kernel
theorem d_Mo_over_25 : decode b_Mo_over 25 = .ok (.getfield 117, 3) := by decide +kernel
theorem d_Mo_over_28 : decode b_Mo_over 28 = .ok (.iload_n 3, 1) := by decide +kernel
theorem d_Mo_over_29 : decode b_Mo_over 29 = .ok (.baload, 1) := by decide +kernel
theorem d_Mo_over_30 : decode b_Mo_over 30 = .ok (.bipush 34, 2) := by decide +kernel
theorem d_Mo_over_32 : decode b_Mo_over 32 = .ok (.if_icmp .eq 25, 3) := by decide +kernel
theorem d_Mo_over_35 : decode b_Mo_over 35 = .ok (.iload_n 3, 1) := by decide +kernel
theorem d_Mo_over_36 : decode b_Mo_over 36 = .ok (.aload_n 0, 1) := by decide +kernel
theorem d_Mo_over_37 : decode b_Mo_over 37 = .ok (.getfield 117, 3) := by decide +kernel
theorem d_Mo_over_40 : decode b_Mo_over 40 = .ok (.iload_n 3, 1) := by decide +kernel
theorem d_Mo_over_41 : decode b_Mo_over 41 = .ok (.baload, 1) := by decide +kernel
theorem d_Mo_over_42 : decode b_Mo_over 42 = .ok (.bipush 92, 2) := by decide +kernel
theorem d_Mo_over_44 : decode b_Mo_over 44 = .ok (.if_icmp .ne 7, 3) := by decide +kernel
theorem d_Mo_over_47 : decode b_Mo_over 47 = .ok (.iconst 2, 1) := by decide +kernel
theorem d_Mo_over_48 : decode b_Mo_over 48 = .ok (.goto 4, 3) := by decide +kernel
theorem d_Mo_over_51 : decode b_Mo_over 51 = .ok (.iconst 1, 1) := by decide +kernel
theorem d_Mo_over_52 : decode b_Mo_over 52 = .ok (.iadd, 1) := by decide +kernel
theorem d_Mo_over_53 : decode b_Mo_over 53 = .ok (.istore_n 3, 1) := by decide +kernel
theorem d_Mo_over_54 : decode b_Mo_over 54 = .ok (.goto (-35), 3) := by decide +kernel
theorem d_Mo_over_57 : decode b_Mo_over 57 = .ok (.iload_n 3, 1) := by decide +kernel
theorem d_Mo_over_58 : decode b_Mo_over 58 = .ok (.iload_n 2, 1) := by decide +kernel
theorem d_Mo_over_59 : decode b_Mo_over 59 = .ok (.if_icmp .ge 9, 3) := by decide +kernel
theorem d_Mo_over_62 : decode b_Mo_over 62 = .ok (.iload_n 3, 1) := by decide +kernel
theorem d_Mo_over_63 : decode b_Mo_over 63 = .ok (.iconst 1, 1) := by decide +kernel
theorem d_Mo_over_64 : decode b_Mo_over 64 = .ok (.iadd, 1) := by decide +kernel
theorem d_Mo_over_65 : decode b_Mo_over 65 = .ok (.goto 4, 3) := by decide +kernel
theorem d_Mo_over_68 : decode b_Mo_over 68 = .ok (.iload_n 2, 1) := by decide +kernel
theorem d_Mo_over_69 : decode b_Mo_over 69 = .ok (.ireturn, 1) := by decide +kernel
theorem d_Mo_itemize_0 : decode b_Mo_itemize 0 = .ok (.aload_n 0, 1) := by decide +kernel
theorem d_Mo_itemize_1 : decode b_Mo_itemize 1 = .ok (.iconst 0, 1) := by decide +kernel
theorem d_Mo_itemize_2 : decode b_Mo_itemize 2 = .ok (.putfield 169, 3) := by decide +kernel
theorem d_Mo_itemize_5 : decode b_Mo_itemize 5 = .ok (.iconst 0, 1) := by decide +kernel
theorem d_Mo_itemize_6 : decode b_Mo_itemize 6 = .ok (.istore_n 1, 1) := by decide +kernel
theorem d_Mo_itemize_7 : decode b_Mo_itemize 7 = .ok (.iconst 0, 1) := by decide +kernel
theorem d_Mo_itemize_8 : decode b_Mo_itemize 8 = .ok (.istore_n 2, 1) := by decide +kernel
theorem d_Mo_itemize_9 : decode b_Mo_itemize 9 = .ok (.iload_n 2, 1) := by decide +kernel
theorem d_Mo_itemize_10 : decode b_Mo_itemize 10 = .ok (.aload_n 0, 1) := by decide +kernel
theorem d_Mo_itemize_11 : decode b_Mo_itemize 11 = .ok (.getfield 156, 3) := by decide +kernel
theorem d_Mo_itemize_14 : decode b_Mo_itemize 14 = .ok (.if_icmp .gt 87, 3) := by decide +kernel
theorem d_Mo_itemize_17 : decode b_Mo_itemize 17 = .ok (.iload_n 2, 1) := by decide +kernel
theorem d_Mo_itemize_18 : decode b_Mo_itemize 18 = .ok (.aload_n 0, 1) := by decide +kernel
theorem d_Mo_itemize_19 : decode b_Mo_itemize 19 = .ok (.getfield 156, 3) := by decide +kernel
theorem d_Mo_itemize_22 : decode b_Mo_itemize 22 = .ok (.if_icmp .ge 27, 3) := by decide +kernel
theorem d_Mo_itemize_25 : decode b_Mo_itemize 25 = .ok (.aload_n 0, 1) := by decide +kernel
theorem d_Mo_itemize_26 : decode b_Mo_itemize 26 = .ok (.getfield 117, 3) := by decide +kernel
theorem d_Mo_itemize_29 : decode b_Mo_itemize 29 = .ok (.iload_n 2, 1) := by decide +kernel
theorem d_Mo_itemize_30 : decode b_Mo_itemize 30 = .ok (.baload, 1) := by decide +kernel
theorem d_Mo_itemize_31 : decode b_Mo_itemize 31 = .ok (.bipush 59, 2) := by decide +kernel
theorem d_Mo_itemize_33 : decode b_Mo_itemize 33 = .ok (.if_icmp .eq 16, 3) := by decide +kernel
theorem d_Mo_itemize_36 : decode b_Mo_itemize 36 = .ok (.aload_n 0, 1) := by decide +kernel
theorem d_Mo_itemize_37 : decode b_Mo_itemize 37 = .ok (.iload_n 2, 1) := by decide +kernel
theorem d_Mo_itemize_38 : decode b_Mo_itemize 38 = .ok (.aload_n 0, 1) := by decide +kernel
theorem d_Mo_itemize_39 : decode b_Mo_itemize 39 = .ok (.getfield 156, 3) := by decide +kernel
theorem d_Mo_itemize_42 : decode b_Mo_itemize 42 = .ok (.invokevirtual 172, 3) := by decide +kernel
theorem d_Mo_itemize_45 : decode b_Mo_itemize 45 = .ok (.istore_n 2, 1) := by decide +kernel
theorem d_Mo_itemize_46 : decode b_Mo_itemize 46 = .ok (.goto (-37), 3) := by decide +kernel
theorem d_Mo_itemize_49 : decode b_Mo_itemize 49 = .ok (.aload_n 0, 1) := by decide +kernel
theorem d_Mo_itemize_50 : decode b_Mo_itemize 50 = .ok (.iload_n 1, 1) := by decide +kernel
theorem d_Mo_itemize_51 : decode b_Mo_itemize 51 = .ok (.iload_n 2, 1) := by decide +kernel
theorem d_Mo_itemize_52 : decode b_Mo_itemize 52 = .ok (.invokevirtual 176, 3) := by decide +kernel
theorem d_Mo_itemize_55 : decode b_Mo_itemize 55 = .ok (.aload_n 0, 1) := by decide +kernel
theorem d_Mo_itemize_56 : decode b_Mo_itemize 56 = .ok (.getfield 120, 3) := by decide +kernel
theorem d_Mo_itemize_59 : decode b_Mo_itemize 59 = .ok (.aload_n 0, 1) := by decide +kernel
theorem d_Mo_itemize_60 : decode b_Mo_itemize 60 = .ok (.getfield 169, 3) := by decide +kernel
theorem d_Mo_itemize_63 : decode b_Mo_itemize 63 = .ok (.aload_n 0, 1) := by decide +kernel
theorem d_Mo_itemize_64 : decode b_Mo_itemize 64 = .ok (.getfield 163, 3) := by decide +kernel
theorem d_Mo_itemize_67 : decode b_Mo_itemize 67 = .ok (.iastore, 1) := by decide +kernel
theorem d_Mo_itemize_68 : decode b_Mo_itemize 68 = .ok (.aload_n 0, 1) := by decide +kernel
theorem d_Mo_itemize_69 : decode b_Mo_itemize 69 = .ok (.getfield 123, 3) := by decide +kernel
theorem d_Mo_itemize_72 : decode b_Mo_itemize 72 = .ok (.aload_n 0, 1) := by decide +kernel
theorem d_Mo_itemize_73 : decode b_Mo_itemize 73 = .ok (.getfield 169, 3) := by decide +kernel
theorem d_Mo_itemize_76 : decode b_Mo_itemize 76 = .ok (.aload_n 0, 1) := by decide +kernel
theorem d_Mo_itemize_77 : decode b_Mo_itemize 77 = .ok (.getfield 166, 3) := by decide +kernel
theorem d_Mo_itemize_80 : decode b_Mo_itemize 80 = .ok (.iastore, 1) := by decide +kernel
theorem d_Mo_itemize_81 : decode b_Mo_itemize 81 = .ok (.aload_n 0, 1) := by decide +kernel
theorem d_Mo_itemize_82 : decode b_Mo_itemize 82 = .ok (.dup, 1) := by decide +kernel
theorem d_Mo_itemize_83 : decode b_Mo_itemize 83 = .ok (.getfield 169, 3) := by decide +kernel
theorem d_Mo_itemize_86 : decode b_Mo_itemize 86 = .ok (.iconst 1, 1) := by decide +kernel
theorem d_Mo_itemize_87 : decode b_Mo_itemize 87 = .ok (.iadd, 1) := by decide +kernel
theorem d_Mo_itemize_88 : decode b_Mo_itemize 88 = .ok (.putfield 169, 3) := by decide +kernel
theorem d_Mo_itemize_91 : decode b_Mo_itemize 91 = .ok (.iload_n 2, 1) := by decide +kernel
theorem d_Mo_itemize_92 : decode b_Mo_itemize 92 = .ok (.iconst 1, 1) := by decide +kernel
theorem d_Mo_itemize_93 : decode b_Mo_itemize 93 = .ok (.iadd, 1) := by decide +kernel
theorem d_Mo_itemize_94 : decode b_Mo_itemize 94 = .ok (.istore_n 1, 1) := by decide +kernel
theorem d_Mo_itemize_95 : decode b_Mo_itemize 95 = .ok (.iinc 2 1, 3) := by decide +kernel
theorem d_Mo_itemize_98 : decode b_Mo_itemize 98 = .ok (.goto (-89), 3) := by decide +kernel
theorem d_Mo_itemize_101 : decode b_Mo_itemize 101 = .ok (.return_, 1) := by decide +kernel
theorem d_Mo_keep_0 : decode b_Mo_keep 0 = .ok (.aload_n 0, 1) := by decide +kernel
theorem d_Mo_keep_1 : decode b_Mo_keep 1 = .ok (.iconst 0, 1) := by decide +kernel
theorem d_Mo_keep_2 : decode b_Mo_keep 2 = .ok (.putfield 180, 3) := by decide +kernel
theorem d_Mo_keep_5 : decode b_Mo_keep 5 = .ok (.iload_n 1, 1) := by decide +kernel
theorem d_Mo_keep_6 : decode b_Mo_keep 6 = .ok (.istore 4, 2) := by decide +kernel
theorem d_Mo_keep_8 : decode b_Mo_keep 8 = .ok (.iload 4, 2) := by decide +kernel
theorem d_Mo_keep_10 : decode b_Mo_keep 10 = .ok (.iload_n 2, 1) := by decide +kernel
theorem d_Mo_keep_11 : decode b_Mo_keep 11 = .ok (.if_icmp .ge 53, 3) := by decide +kernel
theorem d_Mo_keep_14 : decode b_Mo_keep 14 = .ok (.aload_n 0, 1) := by decide +kernel
theorem d_Mo_keep_15 : decode b_Mo_keep 15 = .ok (.getfield 126, 3) := by decide +kernel
theorem d_Mo_keep_18 : decode b_Mo_keep 18 = .ok (.aload_n 0, 1) := by decide +kernel
theorem d_Mo_keep_19 : decode b_Mo_keep 19 = .ok (.getfield 180, 3) := by decide +kernel
theorem d_Mo_keep_22 : decode b_Mo_keep 22 = .ok (.iload_n 3, 1) := by decide +kernel
theorem d_Mo_keep_23 : decode b_Mo_keep 23 = .ok (.ifCond .eq 17, 3) := by decide +kernel
theorem d_Mo_keep_26 : decode b_Mo_keep 26 = .ok (.aload_n 0, 1) := by decide +kernel
theorem d_Mo_keep_27 : decode b_Mo_keep 27 = .ok (.getfield 117, 3) := by decide +kernel
theorem d_Mo_keep_30 : decode b_Mo_keep 30 = .ok (.iload 4, 2) := by decide +kernel
theorem d_Mo_keep_32 : decode b_Mo_keep 32 = .ok (.baload, 1) := by decide +kernel
theorem d_Mo_keep_33 : decode b_Mo_keep 33 = .ok (.invokestatic 135, 3) := by decide +kernel
theorem d_Mo_keep_36 : decode b_Mo_keep 36 = .ok (.i2b, 1) := by decide +kernel
theorem d_Mo_keep_37 : decode b_Mo_keep 37 = .ok (.goto 10, 3) := by decide +kernel
theorem d_Mo_keep_40 : decode b_Mo_keep 40 = .ok (.aload_n 0, 1) := by decide +kernel
theorem d_Mo_keep_41 : decode b_Mo_keep 41 = .ok (.getfield 117, 3) := by decide +kernel
theorem d_Mo_keep_44 : decode b_Mo_keep 44 = .ok (.iload 4, 2) := by decide +kernel
theorem d_Mo_keep_46 : decode b_Mo_keep 46 = .ok (.baload, 1) := by decide +kernel
theorem d_Mo_keep_47 : decode b_Mo_keep 47 = .ok (.bastore, 1) := by decide +kernel
theorem d_Mo_keep_48 : decode b_Mo_keep 48 = .ok (.aload_n 0, 1) := by decide +kernel
theorem d_Mo_keep_49 : decode b_Mo_keep 49 = .ok (.dup, 1) := by decide +kernel
theorem d_Mo_keep_50 : decode b_Mo_keep 50 = .ok (.getfield 180, 3) := by decide +kernel
theorem d_Mo_keep_53 : decode b_Mo_keep 53 = .ok (.iconst 1, 1) := by decide +kernel
theorem d_Mo_keep_54 : decode b_Mo_keep 54 = .ok (.iadd, 1) := by decide +kernel
theorem d_Mo_keep_55 : decode b_Mo_keep 55 = .ok (.putfield 180, 3) := by decide +kernel
theorem d_Mo_keep_58 : decode b_Mo_keep 58 = .ok (.iinc 4 1, 3) := by decide +kernel
theorem d_Mo_keep_61 : decode b_Mo_keep 61 = .ok (.goto (-53), 3) := by decide +kernel
theorem d_Mo_keep_64 : decode b_Mo_keep 64 = .ok (.return_, 1) := by decide +kernel
theorem d_Mo_nothing_0 : decode b_Mo_nothing 0 = .ok (.aload_n 0, 1) := by decide +kernel
theorem d_Mo_nothing_1 : decode b_Mo_nothing 1 = .ok (.iconst 0, 1) := by decide +kernel
theorem d_Mo_nothing_2 : decode b_Mo_nothing 2 = .ok (.putfield 180, 3) := by decide +kernel
theorem d_Mo_nothing_5 : decode b_Mo_nothing 5 = .ok (.return_, 1) := by decide +kernel
theorem d_Mo_firstItem_0 : decode b_Mo_firstItem 0 = .ok (.aload_n 0, 1) := by decide +kernel
theorem d_Mo_firstItem_1 : decode b_Mo_firstItem 1 = .ok (.invokevirtual 183, 3) := by decide +kernel
theorem d_Mo_firstItem_4 : decode b_Mo_firstItem 4 = .ok (.aload_n 0, 1) := by decide +kernel
theorem d_Mo_firstItem_5 : decode b_Mo_firstItem 5 = .ok (.iload_n 1, 1) := by decide +kernel
theorem d_Mo_firstItem_6 : decode b_Mo_firstItem 6 = .ok (.aload_n 2, 1) := by decide +kernel
theorem d_Mo_firstItem_7 : decode b_Mo_firstItem 7 = .ok (.aload_n 2, 1) := by decide +kernel
theorem d_Mo_firstItem_8 : decode b_Mo_firstItem 8 = .ok (.arraylength, 1) := by decide +kernel
theorem d_Mo_firstItem_9 : decode b_Mo_firstItem 9 = .ok (.invokevirtual 186, 3) := by decide +kernel
theorem d_Mo_firstItem_12 : decode b_Mo_firstItem 12 = .ok (.ifCond .ne 4, 3) := by decide +kernel
theorem d_Mo_firstItem_15 : decode b_Mo_firstItem 15 = .ok (.return_, 1) := by decide +kernel
theorem d_Mo_firstItem_16 : decode b_Mo_firstItem 16 = .ok (.aload_n 0, 1) := by decide +kernel
theorem d_Mo_firstItem_17 : decode b_Mo_firstItem 17 = .ok (.invokevirtual 190, 3) := by decide +kernel
theorem d_Mo_firstItem_20 : decode b_Mo_firstItem 20 = .ok (.aload_n 0, 1) := by decide +kernel
theorem d_Mo_firstItem_21 : decode b_Mo_firstItem 21 = .ok (.aload_n 0, 1) := by decide +kernel
theorem d_Mo_firstItem_22 : decode b_Mo_firstItem 22 = .ok (.getfield 120, 3) := by decide +kernel
theorem d_Mo_firstItem_25 : decode b_Mo_firstItem 25 = .ok (.iconst 0, 1) := by decide +kernel
theorem d_Mo_firstItem_26 : decode b_Mo_firstItem 26 = .ok (.iaload, 1) := by decide +kernel
theorem d_Mo_firstItem_27 : decode b_Mo_firstItem 27 = .ok (.aload_n 0, 1) := by decide +kernel
theorem d_Mo_firstItem_28 : decode b_Mo_firstItem 28 = .ok (.getfield 123, 3) := by decide +kernel
theorem d_Mo_firstItem_31 : decode b_Mo_firstItem 31 = .ok (.iconst 0, 1) := by decide +kernel
theorem d_Mo_firstItem_32 : decode b_Mo_firstItem 32 = .ok (.iaload, 1) := by decide +kernel
theorem d_Mo_firstItem_33 : decode b_Mo_firstItem 33 = .ok (.iconst 1, 1) := by decide +kernel
theorem d_Mo_firstItem_34 : decode b_Mo_firstItem 34 = .ok (.invokevirtual 193, 3) := by decide +kernel
theorem d_Mo_firstItem_37 : decode b_Mo_firstItem 37 = .ok (.return_, 1) := by decide +kernel
theorem d_Mo_parameterOf_0 : decode b_Mo_parameterOf 0 = .ok (.aload_n 0, 1) := by decide +kernel
theorem d_Mo_parameterOf_1 : decode b_Mo_parameterOf 1 = .ok (.invokevirtual 183, 3) := by decide +kernel
theorem d_Mo_parameterOf_4 : decode b_Mo_parameterOf 4 = .ok (.aload_n 0, 1) := by decide +kernel
theorem d_Mo_parameterOf_5 : decode b_Mo_parameterOf 5 = .ok (.invokevirtual 190, 3) := by decide +kernel
theorem d_Mo_parameterOf_8 : decode b_Mo_parameterOf 8 = .ok (.iconst 1, 1) := by decide +kernel
theorem d_Mo_parameterOf_9 : decode b_Mo_parameterOf 9 = .ok (.istore_n 3, 1) := by decide +kernel
theorem d_Mo_parameterOf_10 : decode b_Mo_parameterOf 10 = .ok (.iload_n 3, 1) := by decide +kernel
theorem d_Mo_parameterOf_11 : decode b_Mo_parameterOf 11 = .ok (.aload_n 0, 1) := by decide +kernel
theorem d_Mo_parameterOf_12 : decode b_Mo_parameterOf 12 = .ok (.getfield 169, 3) := by decide +kernel
theorem d_Mo_parameterOf_15 : decode b_Mo_parameterOf 15 = .ok (.if_icmp .ge 126, 3) := by decide +kernel
theorem d_Mo_parameterOf_18 : decode b_Mo_parameterOf 18 = .ok (.aload_n 0, 1) := by decide +kernel
theorem d_Mo_parameterOf_19 : decode b_Mo_parameterOf 19 = .ok (.getfield 120, 3) := by decide +kernel
theorem d_Mo_parameterOf_22 : decode b_Mo_parameterOf 22 = .ok (.iload_n 3, 1) := by decide +kernel
theorem d_Mo_parameterOf_23 : decode b_Mo_parameterOf 23 = .ok (.iaload, 1) := by decide +kernel
theorem d_Mo_parameterOf_24 : decode b_Mo_parameterOf 24 = .ok (.istore 4, 2) := by decide +kernel
theorem d_Mo_parameterOf_26 : decode b_Mo_parameterOf 26 = .ok (.iload 4, 2) := by decide +kernel
theorem d_Mo_parameterOf_28 : decode b_Mo_parameterOf 28 = .ok (.aload_n 0, 1) := by decide +kernel
theorem d_Mo_parameterOf_29 : decode b_Mo_parameterOf 29 = .ok (.getfield 123, 3) := by decide +kernel
theorem d_Mo_parameterOf_32 : decode b_Mo_parameterOf 32 = .ok (.iload_n 3, 1) := by decide +kernel
theorem d_Mo_parameterOf_33 : decode b_Mo_parameterOf 33 = .ok (.iaload, 1) := by decide +kernel
theorem d_Mo_parameterOf_34 : decode b_Mo_parameterOf 34 = .ok (.if_icmp .ge 32, 3) := by decide +kernel
theorem d_Mo_parameterOf_37 : decode b_Mo_parameterOf 37 = .ok (.aload_n 0, 1) := by decide +kernel
theorem d_Mo_parameterOf_38 : decode b_Mo_parameterOf 38 = .ok (.getfield 117, 3) := by decide +kernel
theorem d_Mo_parameterOf_41 : decode b_Mo_parameterOf 41 = .ok (.iload 4, 2) := by decide +kernel
theorem d_Mo_parameterOf_43 : decode b_Mo_parameterOf 43 = .ok (.baload, 1) := by decide +kernel
theorem d_Mo_parameterOf_44 : decode b_Mo_parameterOf 44 = .ok (.bipush 61, 2) := by decide +kernel
theorem d_Mo_parameterOf_46 : decode b_Mo_parameterOf 46 = .ok (.if_icmp .eq 20, 3) := by decide +kernel
theorem d_Mo_parameterOf_49 : decode b_Mo_parameterOf 49 = .ok (.aload_n 0, 1) := by decide +kernel
theorem d_Mo_parameterOf_50 : decode b_Mo_parameterOf 50 = .ok (.iload 4, 2) := by decide +kernel
theorem d_Mo_parameterOf_52 : decode b_Mo_parameterOf 52 = .ok (.aload_n 0, 1) := by decide +kernel
theorem d_Mo_parameterOf_53 : decode b_Mo_parameterOf 53 = .ok (.getfield 123, 3) := by decide +kernel
theorem d_Mo_parameterOf_56 : decode b_Mo_parameterOf 56 = .ok (.iload_n 3, 1) := by decide +kernel
theorem d_Mo_parameterOf_57 : decode b_Mo_parameterOf 57 = .ok (.iaload, 1) := by decide +kernel
theorem d_Mo_parameterOf_58 : decode b_Mo_parameterOf 58 = .ok (.invokevirtual 172, 3) := by decide +kernel
theorem d_Mo_parameterOf_61 : decode b_Mo_parameterOf 61 = .ok (.istore 4, 2) := by decide +kernel
theorem d_Mo_parameterOf_63 : decode b_Mo_parameterOf 63 = .ok (.goto (-37), 3) := by decide +kernel
theorem d_Mo_parameterOf_66 : decode b_Mo_parameterOf 66 = .ok (.iload 4, 2) := by decide +kernel
theorem d_Mo_parameterOf_68 : decode b_Mo_parameterOf 68 = .ok (.aload_n 0, 1) := by decide +kernel
theorem d_Mo_parameterOf_69 : decode b_Mo_parameterOf 69 = .ok (.getfield 123, 3) := by decide +kernel
theorem d_Mo_parameterOf_72 : decode b_Mo_parameterOf 72 = .ok (.iload_n 3, 1) := by decide +kernel
theorem d_Mo_parameterOf_73 : decode b_Mo_parameterOf 73 = .ok (.iaload, 1) := by decide +kernel
theorem d_Mo_parameterOf_74 : decode b_Mo_parameterOf 74 = .ok (.if_icmp .lt 6, 3) := by decide +kernel
theorem d_Mo_parameterOf_77 : decode b_Mo_parameterOf 77 = .ok (.goto 58, 3) := by decide +kernel
theorem d_Mo_parameterOf_80 : decode b_Mo_parameterOf 80 = .ok (.aload_n 0, 1) := by decide +kernel
theorem d_Mo_parameterOf_81 : decode b_Mo_parameterOf 81 = .ok (.aload_n 0, 1) := by decide +kernel
theorem d_Mo_parameterOf_82 : decode b_Mo_parameterOf 82 = .ok (.getfield 120, 3) := by decide +kernel
theorem d_Mo_parameterOf_85 : decode b_Mo_parameterOf 85 = .ok (.iload_n 3, 1) := by decide +kernel
theorem d_Mo_parameterOf_86 : decode b_Mo_parameterOf 86 = .ok (.iaload, 1) := by decide +kernel
theorem d_Mo_parameterOf_87 : decode b_Mo_parameterOf 87 = .ok (.iload 4, 2) := by decide +kernel
theorem d_Mo_parameterOf_89 : decode b_Mo_parameterOf 89 = .ok (.invokevirtual 176, 3) := by decide +kernel
theorem d_Mo_parameterOf_92 : decode b_Mo_parameterOf 92 = .ok (.aload_n 0, 1) := by decide +kernel
theorem d_Mo_parameterOf_93 : decode b_Mo_parameterOf 93 = .ok (.getfield 117, 3) := by decide +kernel
theorem d_Mo_parameterOf_96 : decode b_Mo_parameterOf 96 = .ok (.aload_n 0, 1) := by decide +kernel
theorem d_Mo_parameterOf_97 : decode b_Mo_parameterOf 97 = .ok (.getfield 163, 3) := by decide +kernel
theorem d_Mo_parameterOf_100 : decode b_Mo_parameterOf 100 = .ok (.aload_n 0, 1) := by decide +kernel
theorem d_Mo_parameterOf_101 : decode b_Mo_parameterOf 101 = .ok (.getfield 166, 3) := by decide +kernel
theorem d_Mo_parameterOf_104 : decode b_Mo_parameterOf 104 = .ok (.aload_n 1, 1) := by decide +kernel
theorem d_Mo_parameterOf_105 : decode b_Mo_parameterOf 105 = .ok (.iload_n 2, 1) := by decide +kernel
theorem d_Mo_parameterOf_106 : decode b_Mo_parameterOf 106 = .ok (.invokestatic 159, 3) := by decide +kernel
theorem d_Mo_parameterOf_109 : decode b_Mo_parameterOf 109 = .ok (.ifCond .ne 6, 3) := by decide +kernel
theorem d_Mo_parameterOf_112 : decode b_Mo_parameterOf 112 = .ok (.goto 23, 3) := by decide +kernel
theorem d_Mo_parameterOf_115 : decode b_Mo_parameterOf 115 = .ok (.aload_n 0, 1) := by decide +kernel
theorem d_Mo_parameterOf_116 : decode b_Mo_parameterOf 116 = .ok (.iload 4, 2) := by decide +kernel
theorem d_Mo_parameterOf_118 : decode b_Mo_parameterOf 118 = .ok (.iconst 1, 1) := by decide +kernel
theorem d_Mo_parameterOf_119 : decode b_Mo_parameterOf 119 = .ok (.iadd, 1) := by decide +kernel
theorem d_Mo_parameterOf_120 : decode b_Mo_parameterOf 120 = .ok (.aload_n 0, 1) := by decide +kernel
theorem d_Mo_parameterOf_121 : decode b_Mo_parameterOf 121 = .ok (.getfield 123, 3) := by decide +kernel
theorem d_Mo_parameterOf_124 : decode b_Mo_parameterOf 124 = .ok (.iload_n 3, 1) := by decide +kernel
theorem d_Mo_parameterOf_125 : decode b_Mo_parameterOf 125 = .ok (.iaload, 1) := by decide +kernel
theorem d_Mo_parameterOf_126 : decode b_Mo_parameterOf 126 = .ok (.invokevirtual 176, 3) := by decide +kernel
theorem d_Mo_parameterOf_129 : decode b_Mo_parameterOf 129 = .ok (.aload_n 0, 1) := by decide +kernel
theorem d_Mo_parameterOf_130 : decode b_Mo_parameterOf 130 = .ok (.invokevirtual 197, 3) := by decide +kernel
theorem d_Mo_parameterOf_133 : decode b_Mo_parameterOf 133 = .ok (.iconst 1, 1) := by decide +kernel
theorem d_Mo_parameterOf_134 : decode b_Mo_parameterOf 134 = .ok (.ireturn, 1) := by decide +kernel
theorem d_Mo_parameterOf_135 : decode b_Mo_parameterOf 135 = .ok (.iinc 3 1, 3) := by decide +kernel
theorem d_Mo_parameterOf_138 : decode b_Mo_parameterOf 138 = .ok (.goto (-128), 3) := by decide +kernel
theorem d_Mo_parameterOf_141 : decode b_Mo_parameterOf 141 = .ok (.iconst 0, 1) := by decide +kernel
theorem d_Mo_parameterOf_142 : decode b_Mo_parameterOf 142 = .ok (.ireturn, 1) := by decide +kernel
