theorem d_Mo_tell_0 : decode b_Mo_tell 0 = .ok (.aload_n 0, 1) := by decide +kernel
theorem d_Mo_tell_1 : decode b_Mo_tell 1 = .ok (.iload_n 1, 1) := by decide +kernel
theorem d_Mo_tell_2 : decode b_Mo_tell 2 = .ok (.invokevirtual 301, 3) := by decide +kernel
theorem d_Mo_tell_5 : decode b_Mo_tell 5 = .ok (.ifCond .eq 12, 3) := by decide +kernel
theorem d_Mo_tell_8 : decode b_Mo_tell 8 = .ok (.iload_n 2, 1) := by decide +kernel
theorem d_Mo_tell_9 : decode b_Mo_tell 9 = .ok (.ifCond .lt 8, 3) := by decide +kernel
theorem d_Mo_tell_12 : decode b_Mo_tell 12 = .ok (.iload_n 2, 1) := by decide +kernel
theorem d_Mo_tell_13 : decode b_Mo_tell 13 = .ok (.iconst 2, 1) := by decide +kernel
theorem d_Mo_tell_14 : decode b_Mo_tell 14 = .ok (.if_icmp .le 5, 3) := by decide +kernel
theorem d_Mo_tell_17 : decode b_Mo_tell 17 = .ok (.iconst 0, 1) := by decide +kernel
theorem d_Mo_tell_18 : decode b_Mo_tell 18 = .ok (.ireturn, 1) := by decide +kernel
theorem d_Mo_tell_19 : decode b_Mo_tell 19 = .ok (.iload_n 2, 1) := by decide +kernel
theorem d_Mo_tell_20 : decode b_Mo_tell 20 = .ok (.ifCond .ne 11, 3) := by decide +kernel
theorem d_Mo_tell_23 : decode b_Mo_tell 23 = .ok (.aload_n 0, 1) := by decide +kernel
theorem d_Mo_tell_24 : decode b_Mo_tell 24 = .ok (.iload_n 1, 1) := by decide +kernel
theorem d_Mo_tell_25 : decode b_Mo_tell 25 = .ok (.invokevirtual 235, 3) := by decide +kernel
theorem d_Mo_tell_28 : decode b_Mo_tell 28 = .ok (.goto 25, 3) := by decide +kernel
theorem d_Mo_tell_31 : decode b_Mo_tell 31 = .ok (.iload_n 2, 1) := by decide +kernel
theorem d_Mo_tell_32 : decode b_Mo_tell 32 = .ok (.iconst 1, 1) := by decide +kernel
theorem d_Mo_tell_33 : decode b_Mo_tell 33 = .ok (.if_icmp .ne 15, 3) := by decide +kernel
theorem d_Mo_tell_36 : decode b_Mo_tell 36 = .ok (.aload_n 0, 1) := by decide +kernel
theorem d_Mo_tell_37 : decode b_Mo_tell 37 = .ok (.iload_n 1, 1) := by decide +kernel
theorem d_Mo_tell_38 : decode b_Mo_tell 38 = .ok (.aload_n 0, 1) := by decide +kernel
theorem d_Mo_tell_39 : decode b_Mo_tell 39 = .ok (.getfield 13, 3) := by decide +kernel
theorem d_Mo_tell_42 : decode b_Mo_tell 42 = .ok (.invokevirtual 200, 3) := by decide +kernel
theorem d_Mo_tell_45 : decode b_Mo_tell 45 = .ok (.goto 8, 3) := by decide +kernel
theorem d_Mo_tell_48 : decode b_Mo_tell 48 = .ok (.aload_n 0, 1) := by decide +kernel
theorem d_Mo_tell_49 : decode b_Mo_tell 49 = .ok (.iload_n 1, 1) := by decide +kernel
theorem d_Mo_tell_50 : decode b_Mo_tell 50 = .ok (.invokevirtual 313, 3) := by decide +kernel
theorem d_Mo_tell_53 : decode b_Mo_tell 53 = .ok (.iconst 1, 1) := by decide +kernel
theorem d_Mo_tell_54 : decode b_Mo_tell 54 = .ok (.ireturn, 1) := by decide +kernel
theorem d_Mo_length_0 : decode b_Mo_length 0 = .ok (.aload_n 0, 1) := by decide +kernel
theorem d_Mo_length_1 : decode b_Mo_length 1 = .ok (.iload_n 1, 1) := by decide +kernel
theorem d_Mo_length_2 : decode b_Mo_length 2 = .ok (.iload_n 2, 1) := by decide +kernel
theorem d_Mo_length_3 : decode b_Mo_length 3 = .ok (.invokevirtual 316, 3) := by decide +kernel
theorem d_Mo_length_6 : decode b_Mo_length 6 = .ok (.ifCond .eq 10, 3) := by decide +kernel
theorem d_Mo_length_9 : decode b_Mo_length 9 = .ok (.aload_n 0, 1) := by decide +kernel
theorem d_Mo_length_10 : decode b_Mo_length 10 = .ok (.getfield 180, 3) := by decide +kernel
theorem d_Mo_length_13 : decode b_Mo_length 13 = .ok (.goto 4, 3) := by decide +kernel
theorem d_Mo_length_16 : decode b_Mo_length 16 = .ok (.iconst (-1), 1) := by decide +kernel
theorem d_Mo_length_17 : decode b_Mo_length 17 = .ok (.ireturn, 1) := by decide +kernel
theorem d_Mo_at_0 : decode b_Mo_at 0 = .ok (.aload_n 0, 1) := by decide +kernel
theorem d_Mo_at_1 : decode b_Mo_at 1 = .ok (.iload_n 1, 1) := by decide +kernel
theorem d_Mo_at_2 : decode b_Mo_at 2 = .ok (.iload_n 2, 1) := by decide +kernel
theorem d_Mo_at_3 : decode b_Mo_at 3 = .ok (.invokevirtual 316, 3) := by decide +kernel
theorem d_Mo_at_6 : decode b_Mo_at 6 = .ok (.ifCond .eq 28, 3) := by decide +kernel
theorem d_Mo_at_9 : decode b_Mo_at 9 = .ok (.iload_n 3, 1) := by decide +kernel
theorem d_Mo_at_10 : decode b_Mo_at 10 = .ok (.ifCond .lt 24, 3) := by decide +kernel
theorem d_Mo_at_13 : decode b_Mo_at 13 = .ok (.iload_n 3, 1) := by decide +kernel
theorem d_Mo_at_14 : decode b_Mo_at 14 = .ok (.aload_n 0, 1) := by decide +kernel
theorem d_Mo_at_15 : decode b_Mo_at 15 = .ok (.getfield 180, 3) := by decide +kernel
theorem d_Mo_at_18 : decode b_Mo_at 18 = .ok (.if_icmp .ge 16, 3) := by decide +kernel
theorem d_Mo_at_21 : decode b_Mo_at 21 = .ok (.aload_n 0, 1) := by decide +kernel
theorem d_Mo_at_22 : decode b_Mo_at 22 = .ok (.getfield 126, 3) := by decide +kernel
theorem d_Mo_at_25 : decode b_Mo_at 25 = .ok (.iload_n 3, 1) := by decide +kernel
theorem d_Mo_at_26 : decode b_Mo_at 26 = .ok (.baload, 1) := by decide +kernel
theorem d_Mo_at_27 : decode b_Mo_at 27 = .ok (.sipush 255, 3) := by decide +kernel
theorem d_Mo_at_30 : decode b_Mo_at 30 = .ok (.iand, 1) := by decide +kernel
theorem d_Mo_at_31 : decode b_Mo_at 31 = .ok (.goto 4, 3) := by decide +kernel
theorem d_Mo_at_34 : decode b_Mo_at 34 = .ok (.iconst (-1), 1) := by decide +kernel
theorem d_Mo_at_35 : decode b_Mo_at 35 = .ok (.ireturn, 1) := by decide +kernel
theorem d_Mo_ask_0 : decode b_Mo_ask 0 = .ok (.aload_n 0, 1) := by decide +kernel
theorem d_Mo_ask_1 : decode b_Mo_ask 1 = .ok (.getfield 281, 3) := by decide +kernel
theorem d_Mo_ask_4 : decode b_Mo_ask 4 = .ok (.istore_n 1, 1) := by decide +kernel
theorem d_Mo_ask_5 : decode b_Mo_ask 5 = .ok (.iconst 0, 1) := by decide +kernel
theorem d_Mo_ask_6 : decode b_Mo_ask 6 = .ok (.istore_n 2, 1) := by decide +kernel
theorem d_Mo_ask_7 : decode b_Mo_ask 7 = .ok (.iload_n 2, 1) := by decide +kernel
theorem d_Mo_ask_8 : decode b_Mo_ask 8 = .ok (.iload_n 1, 1) := by decide +kernel
theorem d_Mo_ask_9 : decode b_Mo_ask 9 = .ok (.if_icmp .ge 24, 3) := by decide +kernel
theorem d_Mo_ask_12 : decode b_Mo_ask 12 = .ok (.aload_n 0, 1) := by decide +kernel
theorem d_Mo_ask_13 : decode b_Mo_ask 13 = .ok (.getfield 132, 3) := by decide +kernel
theorem d_Mo_ask_16 : decode b_Mo_ask 16 = .ok (.iload_n 2, 1) := by decide +kernel
theorem d_Mo_ask_17 : decode b_Mo_ask 17 = .ok (.aload_n 0, 1) := by decide +kernel
theorem d_Mo_ask_18 : decode b_Mo_ask 18 = .ok (.getfield 65, 3) := by decide +kernel
theorem d_Mo_ask_21 : decode b_Mo_ask 21 = .ok (.iload_n 2, 1) := by decide +kernel
theorem d_Mo_ask_22 : decode b_Mo_ask 22 = .ok (.baload, 1) := by decide +kernel
theorem d_Mo_ask_23 : decode b_Mo_ask 23 = .ok (.invokestatic 135, 3) := by decide +kernel
theorem d_Mo_ask_26 : decode b_Mo_ask 26 = .ok (.iastore, 1) := by decide +kernel
theorem d_Mo_ask_27 : decode b_Mo_ask 27 = .ok (.iinc 2 1, 3) := by decide +kernel
theorem d_Mo_ask_30 : decode b_Mo_ask 30 = .ok (.goto (-23), 3) := by decide +kernel
theorem d_Mo_ask_33 : decode b_Mo_ask 33 = .ok (.aload_n 0, 1) := by decide +kernel
theorem d_Mo_ask_34 : decode b_Mo_ask 34 = .ok (.iconst 0, 1) := by decide +kernel
theorem d_Mo_ask_35 : decode b_Mo_ask 35 = .ok (.putfield 281, 3) := by decide +kernel
theorem d_Mo_ask_38 : decode b_Mo_ask 38 = .ok (.iload_n 1, 1) := by decide +kernel
theorem d_Mo_ask_39 : decode b_Mo_ask 39 = .ok (.ireturn, 1) := by decide +kernel
theorem d_Mo_field_0 : decode b_Mo_field 0 = .ok (.aload_n 0, 1) := by decide +kernel
theorem d_Mo_field_1 : decode b_Mo_field 1 = .ok (.invokevirtual 319, 3) := by decide +kernel
theorem d_Mo_field_4 : decode b_Mo_field 4 = .ok (.istore_n 2, 1) := by decide +kernel
theorem d_Mo_field_5 : decode b_Mo_field 5 = .ok (.aload_n 0, 1) := by decide +kernel
theorem d_Mo_field_6 : decode b_Mo_field 6 = .ok (.iload_n 1, 1) := by decide +kernel
theorem d_Mo_field_7 : decode b_Mo_field 7 = .ok (.invokevirtual 301, 3) := by decide +kernel
theorem d_Mo_field_10 : decode b_Mo_field 10 = .ok (.ifCond .eq 16, 3) := by decide +kernel
theorem d_Mo_field_13 : decode b_Mo_field 13 = .ok (.aload_n 0, 1) := by decide +kernel
theorem d_Mo_field_14 : decode b_Mo_field 14 = .ok (.iload_n 1, 1) := by decide +kernel
theorem d_Mo_field_15 : decode b_Mo_field 15 = .ok (.aload_n 0, 1) := by decide +kernel
theorem d_Mo_field_16 : decode b_Mo_field 16 = .ok (.getfield 132, 3) := by decide +kernel
theorem d_Mo_field_19 : decode b_Mo_field 19 = .ok (.iload_n 2, 1) := by decide +kernel
theorem d_Mo_field_20 : decode b_Mo_field 20 = .ok (.invokevirtual 186, 3) := by decide +kernel
theorem d_Mo_field_23 : decode b_Mo_field 23 = .ok (.ifCond .ne 5, 3) := by decide +kernel
theorem d_Mo_field_26 : decode b_Mo_field 26 = .ok (.iconst (-1), 1) := by decide +kernel
theorem d_Mo_field_27 : decode b_Mo_field 27 = .ok (.ireturn, 1) := by decide +kernel
theorem d_Mo_field_28 : decode b_Mo_field 28 = .ok (.iconst 0, 1) := by decide +kernel
theorem d_Mo_field_29 : decode b_Mo_field 29 = .ok (.istore_n 3, 1) := by decide +kernel
theorem d_Mo_field_30 : decode b_Mo_field 30 = .ok (.iload_n 3, 1) := by decide +kernel
theorem d_Mo_field_31 : decode b_Mo_field 31 = .ok (.aload_n 0, 1) := by decide +kernel
theorem d_Mo_field_32 : decode b_Mo_field 32 = .ok (.getfield 156, 3) := by decide +kernel
theorem d_Mo_field_35 : decode b_Mo_field 35 = .ok (.if_icmp .ge 21, 3) := by decide +kernel
theorem d_Mo_field_38 : decode b_Mo_field 38 = .ok (.aload_n 0, 1) := by decide +kernel
theorem d_Mo_field_39 : decode b_Mo_field 39 = .ok (.getfield 65, 3) := by decide +kernel
theorem d_Mo_field_42 : decode b_Mo_field 42 = .ok (.iload_n 3, 1) := by decide +kernel
theorem d_Mo_field_43 : decode b_Mo_field 43 = .ok (.aload_n 0, 1) := by decide +kernel
theorem d_Mo_field_44 : decode b_Mo_field 44 = .ok (.getfield 117, 3) := by decide +kernel
theorem d_Mo_field_47 : decode b_Mo_field 47 = .ok (.iload_n 3, 1) := by decide +kernel
theorem d_Mo_field_48 : decode b_Mo_field 48 = .ok (.baload, 1) := by decide +kernel
theorem d_Mo_field_49 : decode b_Mo_field 49 = .ok (.bastore, 1) := by decide +kernel
theorem d_Mo_field_50 : decode b_Mo_field 50 = .ok (.iinc 3 1, 3) := by decide +kernel
theorem d_Mo_field_53 : decode b_Mo_field 53 = .ok (.goto (-23), 3) := by decide +kernel
theorem d_Mo_field_56 : decode b_Mo_field 56 = .ok (.aload_n 0, 1) := by decide +kernel
theorem d_Mo_field_57 : decode b_Mo_field 57 = .ok (.aload_n 0, 1) := by decide +kernel
theorem d_Mo_field_58 : decode b_Mo_field 58 = .ok (.getfield 156, 3) := by decide +kernel
theorem d_Mo_field_61 : decode b_Mo_field 61 = .ok (.putfield 281, 3) := by decide +kernel
theorem d_Mo_field_64 : decode b_Mo_field 64 = .ok (.aload_n 0, 1) := by decide +kernel
theorem d_Mo_field_65 : decode b_Mo_field 65 = .ok (.getfield 281, 3) := by decide +kernel
theorem d_Mo_field_68 : decode b_Mo_field 68 = .ok (.ireturn, 1) := by decide +kernel
theorem d_Mo_parameter_0 : decode b_Mo_parameter 0 = .ok (.aload_n 0, 1) := by decide +kernel
theorem d_Mo_parameter_1 : decode b_Mo_parameter 1 = .ok (.invokevirtual 319, 3) := by decide +kernel
theorem d_Mo_parameter_4 : decode b_Mo_parameter 4 = .ok (.istore_n 2, 1) := by decide +kernel
theorem d_Mo_parameter_5 : decode b_Mo_parameter 5 = .ok (.aload_n 0, 1) := by decide +kernel
theorem d_Mo_parameter_6 : decode b_Mo_parameter 6 = .ok (.iload_n 1, 1) := by decide +kernel
theorem d_Mo_parameter_7 : decode b_Mo_parameter 7 = .ok (.invokevirtual 301, 3) := by decide +kernel
theorem d_Mo_parameter_10 : decode b_Mo_parameter 10 = .ok (.ifCond .eq 32, 3) := by decide +kernel
theorem d_Mo_parameter_13 : decode b_Mo_parameter 13 = .ok (.aload_n 0, 1) := by decide +kernel
theorem d_Mo_parameter_14 : decode b_Mo_parameter 14 = .ok (.iload_n 1, 1) := by decide +kernel
theorem d_Mo_parameter_15 : decode b_Mo_parameter 15 = .ok (.aload_n 0, 1) := by decide +kernel
theorem d_Mo_parameter_16 : decode b_Mo_parameter 16 = .ok (.getfield 7, 3) := by decide +kernel
theorem d_Mo_parameter_19 : decode b_Mo_parameter 19 = .ok (.aload_n 0, 1) := by decide +kernel
theorem d_Mo_parameter_20 : decode b_Mo_parameter 20 = .ok (.getfield 7, 3) := by decide +kernel
theorem d_Mo_parameter_23 : decode b_Mo_parameter 23 = .ok (.arraylength, 1) := by decide +kernel
theorem d_Mo_parameter_24 : decode b_Mo_parameter 24 = .ok (.invokevirtual 186, 3) := by decide +kernel
theorem d_Mo_parameter_27 : decode b_Mo_parameter 27 = .ok (.ifCond .eq 15, 3) := by decide +kernel
theorem d_Mo_parameter_30 : decode b_Mo_parameter 30 = .ok (.aload_n 0, 1) := by decide +kernel
theorem d_Mo_parameter_31 : decode b_Mo_parameter 31 = .ok (.aload_n 0, 1) := by decide +kernel
theorem d_Mo_parameter_32 : decode b_Mo_parameter 32 = .ok (.getfield 132, 3) := by decide +kernel
theorem d_Mo_parameter_35 : decode b_Mo_parameter 35 = .ok (.iload_n 2, 1) := by decide +kernel
theorem d_Mo_parameter_36 : decode b_Mo_parameter 36 = .ok (.invokevirtual 216, 3) := by decide +kernel
theorem d_Mo_parameter_39 : decode b_Mo_parameter 39 = .ok (.ifCond .ne 5, 3) := by decide +kernel
theorem d_Mo_parameter_42 : decode b_Mo_parameter 42 = .ok (.iconst (-1), 1) := by decide +kernel
theorem d_Mo_parameter_43 : decode b_Mo_parameter 43 = .ok (.ireturn, 1) := by decide +kernel
theorem d_Mo_parameter_44 : decode b_Mo_parameter 44 = .ok (.iconst 0, 1) := by decide +kernel
theorem d_Mo_parameter_45 : decode b_Mo_parameter 45 = .ok (.istore_n 3, 1) := by decide +kernel
theorem d_Mo_parameter_46 : decode b_Mo_parameter 46 = .ok (.iload_n 3, 1) := by decide +kernel
theorem d_Mo_parameter_47 : decode b_Mo_parameter 47 = .ok (.aload_n 0, 1) := by decide +kernel
theorem d_Mo_parameter_48 : decode b_Mo_parameter 48 = .ok (.getfield 180, 3) := by decide +kernel
theorem d_Mo_parameter_51 : decode b_Mo_parameter 51 = .ok (.if_icmp .ge 21, 3) := by decide +kernel
theorem d_Mo_parameter_54 : decode b_Mo_parameter 54 = .ok (.aload_n 0, 1) := by decide +kernel
theorem d_Mo_parameter_55 : decode b_Mo_parameter 55 = .ok (.getfield 65, 3) := by decide +kernel
theorem d_Mo_parameter_58 : decode b_Mo_parameter 58 = .ok (.iload_n 3, 1) := by decide +kernel
theorem d_Mo_parameter_59 : decode b_Mo_parameter 59 = .ok (.aload_n 0, 1) := by decide +kernel
theorem d_Mo_parameter_60 : decode b_Mo_parameter 60 = .ok (.getfield 126, 3) := by decide +kernel
theorem d_Mo_parameter_63 : decode b_Mo_parameter 63 = .ok (.iload_n 3, 1) := by decide +kernel
theorem d_Mo_parameter_64 : decode b_Mo_parameter 64 = .ok (.baload, 1) := by decide +kernel
theorem d_Mo_parameter_65 : decode b_Mo_parameter 65 = .ok (.bastore, 1) := by decide +kernel
theorem d_Mo_parameter_66 : decode b_Mo_parameter 66 = .ok (.iinc 3 1, 3) := by decide +kernel
theorem d_Mo_parameter_69 : decode b_Mo_parameter 69 = .ok (.goto (-23), 3) := by decide +kernel
theorem d_Mo_parameter_72 : decode b_Mo_parameter 72 = .ok (.aload_n 0, 1) := by decide +kernel
theorem d_Mo_parameter_73 : decode b_Mo_parameter 73 = .ok (.aload_n 0, 1) := by decide +kernel
theorem d_Mo_parameter_74 : decode b_Mo_parameter 74 = .ok (.getfield 180, 3) := by decide +kernel
theorem d_Mo_parameter_77 : decode b_Mo_parameter 77 = .ok (.putfield 281, 3) := by decide +kernel
theorem d_Mo_parameter_80 : decode b_Mo_parameter 80 = .ok (.aload_n 0, 1) := by decide +kernel
theorem d_Mo_parameter_81 : decode b_Mo_parameter 81 = .ok (.getfield 281, 3) := by decide +kernel
theorem d_Mo_parameter_84 : decode b_Mo_parameter 84 = .ok (.ireturn, 1) := by decide +kernel
theorem d_Mo_byteAt_0 : decode b_Mo_byteAt 0 = .ok (.iload_n 1, 1) := by decide +kernel
theorem d_Mo_byteAt_1 : decode b_Mo_byteAt 1 = .ok (.ifCond .lt 24, 3) := by decide +kernel
theorem d_Mo_byteAt_4 : decode b_Mo_byteAt 4 = .ok (.iload_n 1, 1) := by decide +kernel
theorem d_Mo_byteAt_5 : decode b_Mo_byteAt 5 = .ok (.aload_n 0, 1) := by decide +kernel
theorem d_Mo_byteAt_6 : decode b_Mo_byteAt 6 = .ok (.getfield 281, 3) := by decide +kernel
theorem d_Mo_byteAt_9 : decode b_Mo_byteAt 9 = .ok (.if_icmp .ge 16, 3) := by decide +kernel
theorem d_Mo_byteAt_12 : decode b_Mo_byteAt 12 = .ok (.aload_n 0, 1) := by decide +kernel
theorem d_Mo_byteAt_13 : decode b_Mo_byteAt 13 = .ok (.getfield 65, 3) := by decide +kernel
theorem d_Mo_byteAt_16 : decode b_Mo_byteAt 16 = .ok (.iload_n 1, 1) := by decide +kernel
theorem d_Mo_byteAt_17 : decode b_Mo_byteAt 17 = .ok (.baload, 1) := by decide +kernel
theorem d_Mo_byteAt_18 : decode b_Mo_byteAt 18 = .ok (.sipush 255, 3) := by decide +kernel
theorem d_Mo_byteAt_21 : decode b_Mo_byteAt 21 = .ok (.iand, 1) := by decide +kernel
theorem d_Mo_byteAt_22 : decode b_Mo_byteAt 22 = .ok (.goto 4, 3) := by decide +kernel
theorem d_Mo_byteAt_25 : decode b_Mo_byteAt 25 = .ok (.iconst (-1), 1) := by decide +kernel
theorem d_Mo_byteAt_26 : decode b_Mo_byteAt 26 = .ok (.ireturn, 1) := by decide +kernel
theorem d_Mo_isListed_0 : decode b_Mo_isListed 0 = .ok (.iload_n 2, 1) := by decide +kernel
theorem d_Mo_isListed_1 : decode b_Mo_isListed 1 = .ok (.ifCond .eq 11, 3) := by decide +kernel
theorem d_Mo_isListed_4 : decode b_Mo_isListed 4 = .ok (.aload_n 0, 1) := by decide +kernel
theorem d_Mo_isListed_5 : decode b_Mo_isListed 5 = .ok (.iload_n 1, 1) := by decide +kernel
theorem d_Mo_isListed_6 : decode b_Mo_isListed 6 = .ok (.invokevirtual 323, 3) := by decide +kernel
theorem d_Mo_isListed_9 : decode b_Mo_isListed 9 = .ok (.goto 21, 3) := by decide +kernel
theorem d_Mo_isListed_12 : decode b_Mo_isListed 12 = .ok (.aload_n 0, 1) := by decide +kernel
theorem d_Mo_isListed_13 : decode b_Mo_isListed 13 = .ok (.getfield 278, 3) := by decide +kernel
theorem d_Mo_isListed_16 : decode b_Mo_isListed 16 = .ok (.iload_n 1, 1) := by decide +kernel
theorem d_Mo_isListed_17 : decode b_Mo_isListed 17 = .ok (.lshr, 1) := by decide +kernel
theorem d_Mo_isListed_18 : decode b_Mo_isListed 18 = .ok (.lconst 1, 1) := by decide +kernel
theorem d_Mo_isListed_19 : decode b_Mo_isListed 19 = .ok (.land, 1) := by decide +kernel
theorem d_Mo_isListed_20 : decode b_Mo_isListed 20 = .ok (.lconst 1, 1) := by decide +kernel
theorem d_Mo_isListed_21 : decode b_Mo_isListed 21 = .ok (.lcmp, 1) := by decide +kernel
theorem d_Mo_isListed_22 : decode b_Mo_isListed 22 = .ok (.ifCond .ne 7, 3) := by decide +kernel
theorem d_Mo_isListed_25 : decode b_Mo_isListed 25 = .ok (.iconst 1, 1) := by decide +kernel
theorem d_Mo_isListed_26 : decode b_Mo_isListed 26 = .ok (.goto 4, 3) := by decide +kernel
theorem d_Mo_isListed_29 : decode b_Mo_isListed 29 = .ok (.iconst 0, 1) := by decide +kernel
theorem d_Mo_isListed_30 : decode b_Mo_isListed 30 = .ok (.ireturn, 1) := by decide +kernel
theorem d_Mo_text_0 : decode b_Mo_text 0 = .ok (.iload_n 2, 1) := by decide +kernel
theorem d_Mo_text_1 : decode b_Mo_text 1 = .ok (.istore_n 3, 1) := by decide +kernel
theorem d_Mo_text_2 : decode b_Mo_text 2 = .ok (.iconst 0, 1) := by decide +kernel
theorem d_Mo_text_3 : decode b_Mo_text 3 = .ok (.istore 4, 2) := by decide +kernel
theorem d_Mo_text_5 : decode b_Mo_text 5 = .ok (.iload 4, 2) := by decide +kernel
theorem d_Mo_text_7 : decode b_Mo_text 7 = .ok (.aload_n 0, 1) := by decide +kernel
theorem d_Mo_text_8 : decode b_Mo_text 8 = .ok (.getfield 258, 3) := by decide +kernel
theorem d_Mo_text_11 : decode b_Mo_text 11 = .ok (.if_icmp .ge 43, 3) := by decide +kernel
theorem d_Mo_text_14 : decode b_Mo_text 14 = .ok (.aload_n 0, 1) := by decide +kernel
theorem d_Mo_text_15 : decode b_Mo_text 15 = .ok (.getfield 284, 3) := by decide +kernel
theorem d_Mo_text_18 : decode b_Mo_text 18 = .ok (.ifCond .eq 36, 3) := by decide +kernel
theorem d_Mo_text_21 : decode b_Mo_text 21 = .ok (.iload_n 2, 1) := by decide +kernel
theorem d_Mo_text_22 : decode b_Mo_text 22 = .ok (.ifCond .lt 32, 3) := by decide +kernel
theorem d_Mo_text_25 : decode b_Mo_text 25 = .ok (.aload_n 0, 1) := by decide +kernel
theorem d_Mo_text_26 : decode b_Mo_text 26 = .ok (.iload 4, 2) := by decide +kernel
theorem d_Mo_text_28 : decode b_Mo_text 28 = .ok (.iload_n 1, 1) := by decide +kernel
theorem d_Mo_text_29 : decode b_Mo_text 29 = .ok (.invokevirtual 326, 3) := by decide +kernel
theorem d_Mo_text_32 : decode b_Mo_text 32 = .ok (.ifCond .ne 6, 3) := by decide +kernel
theorem d_Mo_text_35 : decode b_Mo_text 35 = .ok (.goto 13, 3) := by decide +kernel
theorem d_Mo_text_38 : decode b_Mo_text 38 = .ok (.iload_n 3, 1) := by decide +kernel
theorem d_Mo_text_39 : decode b_Mo_text 39 = .ok (.ifCond .ne 6, 3) := by decide +kernel
theorem d_Mo_text_42 : decode b_Mo_text 42 = .ok (.iload 4, 2) := by decide +kernel
theorem d_Mo_text_44 : decode b_Mo_text 44 = .ok (.ireturn, 1) := by decide +kernel
theorem d_Mo_text_45 : decode b_Mo_text 45 = .ok (.iinc 3 (-1), 3) := by decide +kernel
theorem d_Mo_text_48 : decode b_Mo_text 48 = .ok (.iinc 4 1, 3) := by decide +kernel
theorem d_Mo_text_51 : decode b_Mo_text 51 = .ok (.goto (-46), 3) := by decide +kernel
theorem d_Mo_text_54 : decode b_Mo_text 54 = .ok (.iconst (-1), 1) := by decide +kernel
theorem d_Mo_text_55 : decode b_Mo_text 55 = .ok (.ireturn, 1) := by decide +kernel
theorem d_Mo_body_0 : decode b_Mo_body 0 = .ok (.aload_n 0, 1) := by decide +kernel
theorem d_Mo_body_1 : decode b_Mo_body 1 = .ok (.iload_n 1, 1) := by decide +kernel
theorem d_Mo_body_2 : decode b_Mo_body 2 = .ok (.invokevirtual 301, 3) := by decide +kernel
theorem d_Mo_body_5 : decode b_Mo_body 5 = .ok (.ifCond .ne 5, 3) := by decide +kernel
theorem d_Mo_body_8 : decode b_Mo_body 8 = .ok (.iconst (-1), 1) := by decide +kernel
theorem d_Mo_body_9 : decode b_Mo_body 9 = .ok (.ireturn, 1) := by decide +kernel
theorem d_Mo_body_10 : decode b_Mo_body 10 = .ok (.iconst 0, 1) := by decide +kernel
theorem d_Mo_body_11 : decode b_Mo_body 11 = .ok (.istore_n 3, 1) := by decide +kernel
theorem d_Mo_body_12 : decode b_Mo_body 12 = .ok (.aload_n 0, 1) := by decide +kernel
theorem d_Mo_body_13 : decode b_Mo_body 13 = .ok (.getfield 86, 3) := by decide +kernel
theorem d_Mo_body_16 : decode b_Mo_body 16 = .ok (.iload_n 1, 1) := by decide +kernel
theorem d_Mo_body_17 : decode b_Mo_body 17 = .ok (.iaload, 1) := by decide +kernel
theorem d_Mo_body_18 : decode b_Mo_body 18 = .ok (.istore 4, 2) := by decide +kernel
theorem d_Mo_body_20 : decode b_Mo_body 20 = .ok (.iload 4, 2) := by decide +kernel
theorem d_Mo_body_22 : decode b_Mo_body 22 = .ok (.aload_n 0, 1) := by decide +kernel
theorem d_Mo_body_23 : decode b_Mo_body 23 = .ok (.getfield 80, 3) := by decide +kernel
theorem d_Mo_body_26 : decode b_Mo_body 26 = .ok (.iload_n 1, 1) := by decide +kernel
theorem d_Mo_body_27 : decode b_Mo_body 27 = .ok (.iaload, 1) := by decide +kernel
theorem d_Mo_body_28 : decode b_Mo_body 28 = .ok (.if_icmp .ge 44, 3) := by decide +kernel
theorem d_Mo_body_31 : decode b_Mo_body 31 = .ok (.iload_n 3, 1) := by decide +kernel
theorem d_Mo_body_32 : decode b_Mo_body 32 = .ok (.aload_n 0, 1) := by decide +kernel
theorem d_Mo_body_33 : decode b_Mo_body 33 = .ok (.getfield 74, 3) := by decide +kernel
theorem d_Mo_body_36 : decode b_Mo_body 36 = .ok (.iload 4, 2) := by decide +kernel
theorem d_Mo_body_38 : decode b_Mo_body 38 = .ok (.iaload, 1) := by decide +kernel
theorem d_Mo_body_39 : decode b_Mo_body 39 = .ok (.aload_n 0, 1) := by decide +kernel
theorem d_Mo_body_40 : decode b_Mo_body 40 = .ok (.getfield 71, 3) := by decide +kernel
theorem d_Mo_body_43 : decode b_Mo_body 43 = .ok (.iload 4, 2) := by decide +kernel
theorem d_Mo_body_45 : decode b_Mo_body 45 = .ok (.iaload, 1) := by decide +kernel
theorem d_Mo_body_46 : decode b_Mo_body 46 = .ok (.isub, 1) := by decide +kernel
theorem d_Mo_body_47 : decode b_Mo_body 47 = .ok (.iload 4, 2) := by decide +kernel
theorem d_Mo_body_49 : decode b_Mo_body 49 = .ok (.aload_n 0, 1) := by decide +kernel
theorem d_Mo_body_50 : decode b_Mo_body 50 = .ok (.getfield 86, 3) := by decide +kernel
theorem d_Mo_body_53 : decode b_Mo_body 53 = .ok (.iload_n 1, 1) := by decide +kernel
theorem d_Mo_body_54 : decode b_Mo_body 54 = .ok (.iaload, 1) := by decide +kernel
theorem d_Mo_body_55 : decode b_Mo_body 55 = .ok (.if_icmp .le 7, 3) := by decide +kernel
theorem d_Mo_body_58 : decode b_Mo_body 58 = .ok (.iconst 1, 1) := by decide +kernel
theorem d_Mo_body_59 : decode b_Mo_body 59 = .ok (.goto 4, 3) := by decide +kernel
theorem d_Mo_body_62 : decode b_Mo_body 62 = .ok (.iconst 0, 1) := by decide +kernel
theorem d_Mo_body_63 : decode b_Mo_body 63 = .ok (.iadd, 1) := by decide +kernel
theorem d_Mo_body_64 : decode b_Mo_body 64 = .ok (.iadd, 1) := by decide +kernel
theorem d_Mo_body_65 : decode b_Mo_body 65 = .ok (.istore_n 3, 1) := by decide +kernel
theorem d_Mo_body_66 : decode b_Mo_body 66 = .ok (.iinc 4 1, 3) := by decide +kernel
theorem d_Mo_body_69 : decode b_Mo_body 69 = .ok (.goto (-49), 3) := by decide +kernel
theorem d_Mo_body_72 : decode b_Mo_body 72 = .ok (.iload_n 2, 1) := by decide +kernel
theorem d_Mo_body_73 : decode b_Mo_body 73 = .ok (.ifCond .lt 8, 3) := by decide +kernel
theorem d_Mo_body_76 : decode b_Mo_body 76 = .ok (.iload_n 2, 1) := by decide +kernel
theorem d_Mo_body_77 : decode b_Mo_body 77 = .ok (.iload_n 3, 1) := by decide +kernel
theorem d_Mo_body_78 : decode b_Mo_body 78 = .ok (.if_icmp .le 5, 3) := by decide +kernel
theorem d_Mo_body_81 : decode b_Mo_body 81 = .ok (.iconst (-1), 1) := by decide +kernel
theorem d_Mo_body_82 : decode b_Mo_body 82 = .ok (.ireturn, 1) := by decide +kernel
theorem d_Mo_body_83 : decode b_Mo_body 83 = .ok (.iconst 0, 1) := by decide +kernel
theorem d_Mo_body_84 : decode b_Mo_body 84 = .ok (.istore 4, 2) := by decide +kernel
theorem d_Mo_body_86 : decode b_Mo_body 86 = .ok (.aload_n 0, 1) := by decide +kernel
theorem d_Mo_body_87 : decode b_Mo_body 87 = .ok (.iconst 0, 1) := by decide +kernel
theorem d_Mo_body_88 : decode b_Mo_body 88 = .ok (.putfield 281, 3) := by decide +kernel
theorem d_Mo_body_91 : decode b_Mo_body 91 = .ok (.aload_n 0, 1) := by decide +kernel
theorem d_Mo_body_92 : decode b_Mo_body 92 = .ok (.getfield 86, 3) := by decide +kernel
theorem d_Mo_body_95 : decode b_Mo_body 95 = .ok (.iload_n 1, 1) := by decide +kernel
theorem d_Mo_body_96 : decode b_Mo_body 96 = .ok (.iaload, 1) := by decide +kernel
theorem d_Mo_body_97 : decode b_Mo_body 97 = .ok (.istore 5, 2) := by decide +kernel
theorem d_Mo_body_99 : decode b_Mo_body 99 = .ok (.iload 5, 2) := by decide +kernel
theorem d_Mo_body_101 : decode b_Mo_body 101 = .ok (.aload_n 0, 1) := by decide +kernel
theorem d_Mo_body_102 : decode b_Mo_body 102 = .ok (.getfield 80, 3) := by decide +kernel
theorem d_Mo_body_105 : decode b_Mo_body 105 = .ok (.iload_n 1, 1) := by decide +kernel
theorem d_Mo_body_106 : decode b_Mo_body 106 = .ok (.iaload, 1) := by decide +kernel
theorem d_Mo_body_107 : decode b_Mo_body 107 = .ok (.if_icmp .ge 78, 3) := by decide +kernel
theorem d_Mo_body_110 : decode b_Mo_body 110 = .ok (.iload 5, 2) := by decide +kernel
theorem d_Mo_body_112 : decode b_Mo_body 112 = .ok (.aload_n 0, 1) := by decide +kernel
theorem d_Mo_body_113 : decode b_Mo_body 113 = .ok (.getfield 86, 3) := by decide +kernel
theorem d_Mo_body_116 : decode b_Mo_body 116 = .ok (.iload_n 1, 1) := by decide +kernel
theorem d_Mo_body_117 : decode b_Mo_body 117 = .ok (.iaload, 1) := by decide +kernel
theorem d_Mo_body_118 : decode b_Mo_body 118 = .ok (.if_icmp .le 16, 3) := by decide +kernel
theorem d_Mo_body_121 : decode b_Mo_body 121 = .ok (.aload_n 0, 1) := by decide +kernel
theorem d_Mo_body_122 : decode b_Mo_body 122 = .ok (.iload 4, 2) := by decide +kernel
theorem d_Mo_body_124 : decode b_Mo_body 124 = .ok (.iload_n 2, 1) := by decide +kernel
theorem d_Mo_body_125 : decode b_Mo_body 125 = .ok (.isub, 1) := by decide +kernel
theorem d_Mo_body_126 : decode b_Mo_body 126 = .ok (.bipush 10, 2) := by decide +kernel
theorem d_Mo_body_128 : decode b_Mo_body 128 = .ok (.invokevirtual 330, 3) := by decide +kernel
theorem d_Mo_body_131 : decode b_Mo_body 131 = .ok (.iinc 4 1, 3) := by decide +kernel
theorem d_Mo_body_134 : decode b_Mo_body 134 = .ok (.aload_n 0, 1) := by decide +kernel
theorem d_Mo_body_135 : decode b_Mo_body 135 = .ok (.getfield 71, 3) := by decide +kernel
theorem d_Mo_body_138 : decode b_Mo_body 138 = .ok (.iload 5, 2) := by decide +kernel
theorem d_Mo_body_140 : decode b_Mo_body 140 = .ok (.iaload, 1) := by decide +kernel
theorem d_Mo_body_141 : decode b_Mo_body 141 = .ok (.istore 6, 2) := by decide +kernel
theorem d_Mo_body_143 : decode b_Mo_body 143 = .ok (.iload 6, 2) := by decide +kernel
theorem d_Mo_body_145 : decode b_Mo_body 145 = .ok (.aload_n 0, 1) := by decide +kernel
theorem d_Mo_body_146 : decode b_Mo_body 146 = .ok (.getfield 74, 3) := by decide +kernel
theorem d_Mo_body_149 : decode b_Mo_body 149 = .ok (.iload 5, 2) := by decide +kernel
theorem d_Mo_body_151 : decode b_Mo_body 151 = .ok (.iaload, 1) := by decide +kernel
theorem d_Mo_body_152 : decode b_Mo_body 152 = .ok (.if_icmp .ge 27, 3) := by decide +kernel
theorem d_Mo_body_155 : decode b_Mo_body 155 = .ok (.aload_n 0, 1) := by decide +kernel
theorem d_Mo_body_156 : decode b_Mo_body 156 = .ok (.iload 4, 2) := by decide +kernel
theorem d_Mo_body_158 : decode b_Mo_body 158 = .ok (.iload_n 2, 1) := by decide +kernel
theorem d_Mo_body_159 : decode b_Mo_body 159 = .ok (.isub, 1) := by decide +kernel
theorem d_Mo_body_160 : decode b_Mo_body 160 = .ok (.aload_n 0, 1) := by decide +kernel
theorem d_Mo_body_161 : decode b_Mo_body 161 = .ok (.getfield 68, 3) := by decide +kernel
theorem d_Mo_body_164 : decode b_Mo_body 164 = .ok (.iload 6, 2) := by decide +kernel
theorem d_Mo_body_166 : decode b_Mo_body 166 = .ok (.baload, 1) := by decide +kernel
theorem d_Mo_body_167 : decode b_Mo_body 167 = .ok (.invokevirtual 330, 3) := by decide +kernel
theorem d_Mo_body_170 : decode b_Mo_body 170 = .ok (.iinc 4 1, 3) := by decide +kernel
theorem d_Mo_body_173 : decode b_Mo_body 173 = .ok (.iinc 6 1, 3) := by decide +kernel
theorem d_Mo_body_176 : decode b_Mo_body 176 = .ok (.goto (-33), 3) := by decide +kernel
theorem d_Mo_body_179 : decode b_Mo_body 179 = .ok (.iinc 5 1, 3) := by decide +kernel
theorem d_Mo_body_182 : decode b_Mo_body 182 = .ok (.goto (-83), 3) := by decide +kernel
theorem d_Mo_body_185 : decode b_Mo_body 185 = .ok (.iload_n 3, 1) := by decide +kernel
theorem d_Mo_body_186 : decode b_Mo_body 186 = .ok (.iload_n 2, 1) := by decide +kernel
theorem d_Mo_body_187 : decode b_Mo_body 187 = .ok (.isub, 1) := by decide +kernel
theorem d_Mo_body_188 : decode b_Mo_body 188 = .ok (.ireturn, 1) := by decide +kernel
theorem d_Mo_put_0 : decode b_Mo_put 0 = .ok (.iload_n 1, 1) := by decide +kernel
theorem d_Mo_put_1 : decode b_Mo_put 1 = .ok (.ifCond .lt 10, 3) := by decide +kernel
theorem d_Mo_put_4 : decode b_Mo_put 4 = .ok (.iload_n 1, 1) := by decide +kernel
theorem d_Mo_put_5 : decode b_Mo_put 5 = .ok (.sipush 1500, 3) := by decide +kernel
theorem d_Mo_put_8 : decode b_Mo_put 8 = .ok (.if_icmp .lt 4, 3) := by decide +kernel
theorem d_Mo_put_11 : decode b_Mo_put 11 = .ok (.return_, 1) := by decide +kernel
theorem d_Mo_put_12 : decode b_Mo_put 12 = .ok (.aload_n 0, 1) := by decide +kernel
theorem d_Mo_put_13 : decode b_Mo_put 13 = .ok (.getfield 65, 3) := by decide +kernel
theorem d_Mo_put_16 : decode b_Mo_put 16 = .ok (.iload_n 1, 1) := by decide +kernel
theorem d_Mo_put_17 : decode b_Mo_put 17 = .ok (.iload_n 2, 1) := by decide +kernel
theorem d_Mo_put_18 : decode b_Mo_put 18 = .ok (.i2b, 1) := by decide +kernel
theorem d_Mo_put_19 : decode b_Mo_put 19 = .ok (.bastore, 1) := by decide +kernel
theorem d_Mo_put_20 : decode b_Mo_put 20 = .ok (.aload_n 0, 1) := by decide +kernel
theorem d_Mo_put_21 : decode b_Mo_put 21 = .ok (.iload_n 1, 1) := by decide +kernel
theorem d_Mo_put_22 : decode b_Mo_put 22 = .ok (.iconst 1, 1) := by decide +kernel
theorem d_Mo_put_23 : decode b_Mo_put 23 = .ok (.iadd, 1) := by decide +kernel
theorem d_Mo_put_24 : decode b_Mo_put 24 = .ok (.putfield 281, 3) := by decide +kernel
theorem d_Mo_put_27 : decode b_Mo_put 27 = .ok (.return_, 1) := by decide +kernel
theorem d_Mo_count_0 : decode b_Mo_count 0 = .ok (.iload_n 1, 1) := by decide +kernel
theorem d_Mo_count_1 : decode b_Mo_count 1 = .ok (.ifCond .lt 8, 3) := by decide +kernel
theorem d_Mo_count_4 : decode b_Mo_count 4 = .ok (.iload_n 1, 1) := by decide +kernel
theorem d_Mo_count_5 : decode b_Mo_count 5 = .ok (.iconst 4, 1) := by decide +kernel
theorem d_Mo_count_6 : decode b_Mo_count 6 = .ok (.if_icmp .le 5, 3) := by decide +kernel
theorem d_Mo_count_9 : decode b_Mo_count 9 = .ok (.iconst (-1), 1) := by decide +kernel
theorem d_Mo_count_10 : decode b_Mo_count 10 = .ok (.ireturn, 1) := by decide +kernel
theorem d_Mo_count_11 : decode b_Mo_count 11 = .ok (.aload_n 0, 1) := by decide +kernel
theorem d_Mo_count_12 : decode b_Mo_count 12 = .ok (.getfield 284, 3) := by decide +kernel
theorem d_Mo_count_15 : decode b_Mo_count 15 = .ok (.ifCond .ne 5, 3) := by decide +kernel
theorem d_Mo_count_18 : decode b_Mo_count 18 = .ok (.iconst 0, 1) := by decide +kernel
theorem d_Mo_count_19 : decode b_Mo_count 19 = .ok (.ireturn, 1) := by decide +kernel
theorem d_Mo_count_20 : decode b_Mo_count 20 = .ok (.iconst 0, 1) := by decide +kernel
theorem d_Mo_count_21 : decode b_Mo_count 21 = .ok (.istore_n 2, 1) := by decide +kernel
theorem d_Mo_count_22 : decode b_Mo_count 22 = .ok (.iconst 0, 1) := by decide +kernel
theorem d_Mo_count_23 : decode b_Mo_count 23 = .ok (.istore_n 3, 1) := by decide +kernel
theorem d_Mo_count_24 : decode b_Mo_count 24 = .ok (.iload_n 3, 1) := by decide +kernel
theorem d_Mo_count_25 : decode b_Mo_count 25 = .ok (.aload_n 0, 1) := by decide +kernel
theorem d_Mo_count_26 : decode b_Mo_count 26 = .ok (.getfield 258, 3) := by decide +kernel
theorem d_Mo_count_29 : decode b_Mo_count 29 = .ok (.if_icmp .ge 45, 3) := by decide +kernel
theorem d_Mo_count_32 : decode b_Mo_count 32 = .ok (.iload_n 1, 1) := by decide +kernel
theorem d_Mo_count_33 : decode b_Mo_count 33 = .ok (.iconst 1, 1) := by decide +kernel
theorem d_Mo_count_34 : decode b_Mo_count 34 = .ok (.if_icmp .eq 8, 3) := by decide +kernel
theorem d_Mo_count_37 : decode b_Mo_count 37 = .ok (.iload_n 1, 1) := by decide +kernel
theorem d_Mo_count_38 : decode b_Mo_count 38 = .ok (.iconst 2, 1) := by decide +kernel
theorem d_Mo_count_39 : decode b_Mo_count 39 = .ok (.if_icmp .ne 35, 3) := by decide +kernel
theorem d_Mo_count_42 : decode b_Mo_count 42 = .ok (.iload_n 2, 1) := by decide +kernel
theorem d_Mo_count_43 : decode b_Mo_count 43 = .ok (.aload_n 0, 1) := by decide +kernel
theorem d_Mo_count_44 : decode b_Mo_count 44 = .ok (.iload_n 3, 1) := by decide +kernel
theorem d_Mo_count_45 : decode b_Mo_count 45 = .ok (.iload_n 1, 1) := by decide +kernel
theorem d_Mo_count_46 : decode b_Mo_count 46 = .ok (.iconst 2, 1) := by decide +kernel
theorem d_Mo_count_47 : decode b_Mo_count 47 = .ok (.if_icmp .ne 7, 3) := by decide +kernel
theorem d_Mo_count_50 : decode b_Mo_count 50 = .ok (.iconst 1, 1) := by decide +kernel
theorem d_Mo_count_51 : decode b_Mo_count 51 = .ok (.goto 4, 3) := by decide +kernel
theorem d_Mo_count_54 : decode b_Mo_count 54 = .ok (.iconst 0, 1) := by decide +kernel
theorem d_Mo_count_55 : decode b_Mo_count 55 = .ok (.invokevirtual 326, 3) := by decide +kernel
theorem d_Mo_count_58 : decode b_Mo_count 58 = .ok (.ifCond .eq 7, 3) := by decide +kernel
theorem d_Mo_count_61 : decode b_Mo_count 61 = .ok (.iconst 1, 1) := by decide +kernel
theorem d_Mo_count_62 : decode b_Mo_count 62 = .ok (.goto 4, 3) := by decide +kernel
theorem d_Mo_count_65 : decode b_Mo_count 65 = .ok (.iconst 0, 1) := by decide +kernel
theorem d_Mo_count_66 : decode b_Mo_count 66 = .ok (.iadd, 1) := by decide +kernel
theorem d_Mo_count_67 : decode b_Mo_count 67 = .ok (.istore_n 2, 1) := by decide +kernel
theorem d_Mo_count_68 : decode b_Mo_count 68 = .ok (.iinc 3 1, 3) := by decide +kernel
theorem d_Mo_count_71 : decode b_Mo_count 71 = .ok (.goto (-47), 3) := by decide +kernel
theorem d_Mo_count_74 : decode b_Mo_count 74 = .ok (.iload_n 1, 1) := by decide +kernel
theorem d_Mo_count_75 : decode b_Mo_count 75 = .ok (.ifCond .ne 10, 3) := by decide +kernel
theorem d_Mo_count_78 : decode b_Mo_count 78 = .ok (.aload_n 0, 1) := by decide +kernel
theorem d_Mo_count_79 : decode b_Mo_count 79 = .ok (.getfield 258, 3) := by decide +kernel
theorem d_Mo_count_82 : decode b_Mo_count 82 = .ok (.goto 28, 3) := by decide +kernel
theorem d_Mo_count_85 : decode b_Mo_count 85 = .ok (.iload_n 1, 1) := by decide +kernel
theorem d_Mo_count_86 : decode b_Mo_count 86 = .ok (.iconst 3, 1) := by decide +kernel
theorem d_Mo_count_87 : decode b_Mo_count 87 = .ok (.if_icmp .ne 10, 3) := by decide +kernel
theorem d_Mo_count_90 : decode b_Mo_count 90 = .ok (.aload_n 0, 1) := by decide +kernel
theorem d_Mo_count_91 : decode b_Mo_count 91 = .ok (.getfield 261, 3) := by decide +kernel
theorem d_Mo_count_94 : decode b_Mo_count 94 = .ok (.goto 16, 3) := by decide +kernel
theorem d_Mo_count_97 : decode b_Mo_count 97 = .ok (.iload_n 1, 1) := by decide +kernel
theorem d_Mo_count_98 : decode b_Mo_count 98 = .ok (.iconst 4, 1) := by decide +kernel
theorem d_Mo_count_99 : decode b_Mo_count 99 = .ok (.if_icmp .ne 10, 3) := by decide +kernel
theorem d_Mo_count_102 : decode b_Mo_count 102 = .ok (.aload_n 0, 1) := by decide +kernel
theorem d_Mo_count_103 : decode b_Mo_count 103 = .ok (.getfield 139, 3) := by decide +kernel
theorem d_Mo_count_106 : decode b_Mo_count 106 = .ok (.goto 4, 3) := by decide +kernel
theorem d_Mo_count_109 : decode b_Mo_count 109 = .ok (.iload_n 2, 1) := by decide +kernel
theorem d_Mo_count_110 : decode b_Mo_count 110 = .ok (.ireturn, 1) := by decide +kernel
theorem d_En_init_0 : decode b_En_init 0 = .ok (.aload_n 0, 1) := by decide +kernel
theorem d_En_init_1 : decode b_En_init 1 = .ok (.invokespecial 1, 3) := by decide +kernel
theorem d_En_init_4 : decode b_En_init 4 = .ok (.return_, 1) := by decide +kernel
theorem d_Ma_init_0 : decode b_Ma_init 0 = .ok (.aload_n 0, 1) := by decide +kernel
theorem d_Ma_init_1 : decode b_Ma_init 1 = .ok (.invokespecial 3, 3) := by decide +kernel
theorem d_Ma_init_4 : decode b_Ma_init 4 = .ok (.aload_n 0, 1) := by decide +kernel
theorem d_Ma_init_5 : decode b_Ma_init 5 = .ok (.new 9, 3) := by decide +kernel
theorem d_Ma_init_8 : decode b_Ma_init 8 = .ok (.dup, 1) := by decide +kernel
theorem d_Ma_init_9 : decode b_Ma_init 9 = .ok (.sipush 1500, 3) := by decide +kernel
theorem d_Ma_init_12 : decode b_Ma_init 12 = .ok (.invokespecial 11, 3) := by decide +kernel
theorem d_Ma_init_15 : decode b_Ma_init 15 = .ok (.putfield 14, 3) := by decide +kernel
theorem d_Ma_init_18 : decode b_Ma_init 18 = .ok (.aload_n 0, 1) := by decide +kernel
theorem d_Ma_init_19 : decode b_Ma_init 19 = .ok (.sipush 1500, 3) := by decide +kernel
theorem d_Ma_init_22 : decode b_Ma_init 22 = .ok (.newarray .int, 2) := by decide +kernel
theorem d_Ma_init_24 : decode b_Ma_init 24 = .ok (.putfield 20, 3) := by decide +kernel
theorem d_Ma_init_27 : decode b_Ma_init 27 = .ok (.aload_n 0, 1) := by decide +kernel
theorem d_Ma_init_28 : decode b_Ma_init 28 = .ok (.sipush 1500, 3) := by decide +kernel
theorem d_Ma_init_31 : decode b_Ma_init 31 = .ok (.newarray .int, 2) := by decide +kernel
theorem d_Ma_init_33 : decode b_Ma_init 33 = .ok (.putfield 24, 3) := by decide +kernel
theorem d_Ma_init_36 : decode b_Ma_init 36 = .ok (.aload_n 0, 1) := by decide +kernel
theorem d_Ma_init_37 : decode b_Ma_init 37 = .ok (.iconst 0, 1) := by decide +kernel
theorem d_Ma_init_38 : decode b_Ma_init 38 = .ok (.putfield 27, 3) := by decide +kernel
theorem d_Ma_init_41 : decode b_Ma_init 41 = .ok (.return_, 1) := by decide +kernel
theorem d_Ma_take_0 : decode b_Ma_take 0 = .ok (.aload_n 0, 1) := by decide +kernel
theorem d_Ma_take_1 : decode b_Ma_take 1 = .ok (.getfield 14, 3) := by decide +kernel
theorem d_Ma_take_4 : decode b_Ma_take 4 = .ok (.invokevirtual 31, 3) := by decide +kernel
theorem d_Ma_take_7 : decode b_Ma_take 7 = .ok (.aload_n 0, 1) := by decide +kernel
theorem d_Ma_take_8 : decode b_Ma_take 8 = .ok (.getfield 14, 3) := by decide +kernel
theorem d_Ma_take_11 : decode b_Ma_take 11 = .ok (.aload_n 1, 1) := by decide +kernel
theorem d_Ma_take_12 : decode b_Ma_take 12 = .ok (.iconst 0, 1) := by decide +kernel
theorem d_Ma_take_13 : decode b_Ma_take 13 = .ok (.aload_n 1, 1) := by decide +kernel
theorem d_Ma_take_14 : decode b_Ma_take 14 = .ok (.getfield 34, 3) := by decide +kernel
theorem d_Ma_take_17 : decode b_Ma_take 17 = .ok (.invokevirtual 37, 3) := by decide +kernel
theorem d_Ma_take_20 : decode b_Ma_take 20 = .ok (.aload_n 0, 1) := by decide +kernel
theorem d_Ma_take_21 : decode b_Ma_take 21 = .ok (.iconst 0, 1) := by decide +kernel
theorem d_Ma_take_22 : decode b_Ma_take 22 = .ok (.putfield 27, 3) := by decide +kernel
theorem d_Ma_take_25 : decode b_Ma_take 25 = .ok (.iconst 0, 1) := by decide +kernel
theorem d_Ma_take_26 : decode b_Ma_take 26 = .ok (.istore_n 2, 1) := by decide +kernel
theorem d_Ma_take_27 : decode b_Ma_take 27 = .ok (.iconst 0, 1) := by decide +kernel
theorem d_Ma_take_28 : decode b_Ma_take 28 = .ok (.istore_n 3, 1) := by decide +kernel
theorem d_Ma_take_29 : decode b_Ma_take 29 = .ok (.iload_n 3, 1) := by decide +kernel
theorem d_Ma_take_30 : decode b_Ma_take 30 = .ok (.aload_n 0, 1) := by decide +kernel
theorem d_Ma_take_31 : decode b_Ma_take 31 = .ok (.getfield 14, 3) := by decide +kernel
theorem d_Ma_take_34 : decode b_Ma_take 34 = .ok (.getfield 34, 3) := by decide +kernel
theorem d_Ma_take_37 : decode b_Ma_take 37 = .ok (.if_icmp .ge 58, 3) := by decide +kernel
theorem d_Ma_take_40 : decode b_Ma_take 40 = .ok (.aload_n 0, 1) := by decide +kernel
theorem d_Ma_take_41 : decode b_Ma_take 41 = .ok (.getfield 14, 3) := by decide +kernel
theorem d_Ma_take_44 : decode b_Ma_take 44 = .ok (.iload_n 3, 1) := by decide +kernel
theorem d_Ma_take_45 : decode b_Ma_take 45 = .ok (.invokevirtual 41, 3) := by decide +kernel
theorem d_Ma_take_48 : decode b_Ma_take 48 = .ok (.bipush 10, 2) := by decide +kernel
theorem d_Ma_take_50 : decode b_Ma_take 50 = .ok (.if_icmp .ne 39, 3) := by decide +kernel
theorem d_Ma_take_53 : decode b_Ma_take 53 = .ok (.aload_n 0, 1) := by decide +kernel
theorem d_Ma_take_54 : decode b_Ma_take 54 = .ok (.iload_n 2, 1) := by decide +kernel
theorem d_Ma_take_55 : decode b_Ma_take 55 = .ok (.iload_n 3, 1) := by decide +kernel
theorem d_Ma_take_56 : decode b_Ma_take 56 = .ok (.iload_n 2, 1) := by decide +kernel
theorem d_Ma_take_57 : decode b_Ma_take 57 = .ok (.if_icmp .le 24, 3) := by decide +kernel
theorem d_Ma_take_60 : decode b_Ma_take 60 = .ok (.aload_n 0, 1) := by decide +kernel
theorem d_Ma_take_61 : decode b_Ma_take 61 = .ok (.getfield 14, 3) := by decide +kernel
theorem d_Ma_take_64 : decode b_Ma_take 64 = .ok (.iload_n 3, 1) := by decide +kernel
theorem d_Ma_take_65 : decode b_Ma_take 65 = .ok (.iconst 1, 1) := by decide +kernel
theorem d_Ma_take_66 : decode b_Ma_take 66 = .ok (.isub, 1) := by decide +kernel
theorem d_Ma_take_67 : decode b_Ma_take 67 = .ok (.invokevirtual 41, 3) := by decide +kernel
theorem d_Ma_take_70 : decode b_Ma_take 70 = .ok (.bipush 13, 2) := by decide +kernel
theorem d_Ma_take_72 : decode b_Ma_take 72 = .ok (.if_icmp .ne 9, 3) := by decide +kernel
theorem d_Ma_take_75 : decode b_Ma_take 75 = .ok (.iload_n 3, 1) := by decide +kernel
theorem d_Ma_take_76 : decode b_Ma_take 76 = .ok (.iconst 1, 1) := by decide +kernel
theorem d_Ma_take_77 : decode b_Ma_take 77 = .ok (.isub, 1) := by decide +kernel
theorem d_Ma_take_78 : decode b_Ma_take 78 = .ok (.goto 4, 3) := by decide +kernel
theorem d_Ma_take_81 : decode b_Ma_take 81 = .ok (.iload_n 3, 1) := by decide +kernel
theorem d_Ma_take_82 : decode b_Ma_take 82 = .ok (.invokevirtual 45, 3) := by decide +kernel
theorem d_Ma_take_85 : decode b_Ma_take 85 = .ok (.iload_n 3, 1) := by decide +kernel
theorem d_Ma_take_86 : decode b_Ma_take 86 = .ok (.iconst 1, 1) := by decide +kernel
theorem d_Ma_take_87 : decode b_Ma_take 87 = .ok (.iadd, 1) := by decide +kernel
theorem d_Ma_take_88 : decode b_Ma_take 88 = .ok (.istore_n 2, 1) := by decide +kernel
theorem d_Ma_take_89 : decode b_Ma_take 89 = .ok (.iinc 3 1, 3) := by decide +kernel
theorem d_Ma_take_92 : decode b_Ma_take 92 = .ok (.goto (-63), 3) := by decide +kernel
theorem d_Ma_take_95 : decode b_Ma_take 95 = .ok (.iload_n 2, 1) := by decide +kernel
theorem d_Ma_take_96 : decode b_Ma_take 96 = .ok (.aload_n 0, 1) := by decide +kernel
theorem d_Ma_take_97 : decode b_Ma_take 97 = .ok (.getfield 14, 3) := by decide +kernel
theorem d_Ma_take_100 : decode b_Ma_take 100 = .ok (.getfield 34, 3) := by decide +kernel
theorem d_Ma_take_103 : decode b_Ma_take 103 = .ok (.if_icmp .ge 15, 3) := by decide +kernel
theorem d_Ma_take_106 : decode b_Ma_take 106 = .ok (.aload_n 0, 1) := by decide +kernel
theorem d_Ma_take_107 : decode b_Ma_take 107 = .ok (.iload_n 2, 1) := by decide +kernel
theorem d_Ma_take_108 : decode b_Ma_take 108 = .ok (.aload_n 0, 1) := by decide +kernel
theorem d_Ma_take_109 : decode b_Ma_take 109 = .ok (.getfield 14, 3) := by decide +kernel
theorem d_Ma_take_112 : decode b_Ma_take 112 = .ok (.getfield 34, 3) := by decide +kernel
theorem d_Ma_take_115 : decode b_Ma_take 115 = .ok (.invokevirtual 45, 3) := by decide +kernel
theorem d_Ma_take_118 : decode b_Ma_take 118 = .ok (.return_, 1) := by decide +kernel
theorem d_Ma_addLine_0 : decode b_Ma_addLine 0 = .ok (.aload_n 0, 1) := by decide +kernel
theorem d_Ma_addLine_1 : decode b_Ma_addLine 1 = .ok (.getfield 27, 3) := by decide +kernel
theorem d_Ma_addLine_4 : decode b_Ma_addLine 4 = .ok (.ifCond .lt 57, 3) := by decide +kernel
theorem d_Ma_addLine_7 : decode b_Ma_addLine 7 = .ok (.aload_n 0, 1) := by decide +kernel
theorem d_Ma_addLine_8 : decode b_Ma_addLine 8 = .ok (.getfield 27, 3) := by decide +kernel
theorem d_Ma_addLine_11 : decode b_Ma_addLine 11 = .ok (.aload_n 0, 1) := by decide +kernel
theorem d_Ma_addLine_12 : decode b_Ma_addLine 12 = .ok (.getfield 20, 3) := by decide +kernel
theorem d_Ma_addLine_15 : decode b_Ma_addLine 15 = .ok (.arraylength, 1) := by decide +kernel
theorem d_Ma_addLine_16 : decode b_Ma_addLine 16 = .ok (.if_icmp .ge 45, 3) := by decide +kernel
theorem d_Ma_addLine_19 : decode b_Ma_addLine 19 = .ok (.aload_n 0, 1) := by decide +kernel
theorem d_Ma_addLine_20 : decode b_Ma_addLine 20 = .ok (.getfield 27, 3) := by decide +kernel
theorem d_Ma_addLine_23 : decode b_Ma_addLine 23 = .ok (.aload_n 0, 1) := by decide +kernel
theorem d_Ma_addLine_24 : decode b_Ma_addLine 24 = .ok (.getfield 24, 3) := by decide +kernel
theorem d_Ma_addLine_27 : decode b_Ma_addLine 27 = .ok (.arraylength, 1) := by decide +kernel
theorem d_Ma_addLine_28 : decode b_Ma_addLine 28 = .ok (.if_icmp .ge 33, 3) := by decide +kernel
theorem d_Ma_addLine_31 : decode b_Ma_addLine 31 = .ok (.aload_n 0, 1) := by decide +kernel
theorem d_Ma_addLine_32 : decode b_Ma_addLine 32 = .ok (.getfield 20, 3) := by decide +kernel
theorem d_Ma_addLine_35 : decode b_Ma_addLine 35 = .ok (.aload_n 0, 1) := by decide +kernel
theorem d_Ma_addLine_36 : decode b_Ma_addLine 36 = .ok (.getfield 27, 3) := by decide +kernel
theorem d_Ma_addLine_39 : decode b_Ma_addLine 39 = .ok (.iload_n 1, 1) := by decide +kernel
theorem d_Ma_addLine_40 : decode b_Ma_addLine 40 = .ok (.iastore, 1) := by decide +kernel
theorem d_Ma_addLine_41 : decode b_Ma_addLine 41 = .ok (.aload_n 0, 1) := by decide +kernel
theorem d_Ma_addLine_42 : decode b_Ma_addLine 42 = .ok (.getfield 24, 3) := by decide +kernel
theorem d_Ma_addLine_45 : decode b_Ma_addLine 45 = .ok (.aload_n 0, 1) := by decide +kernel
theorem d_Ma_addLine_46 : decode b_Ma_addLine 46 = .ok (.getfield 27, 3) := by decide +kernel
theorem d_Ma_addLine_49 : decode b_Ma_addLine 49 = .ok (.iload_n 2, 1) := by decide +kernel
theorem d_Ma_addLine_50 : decode b_Ma_addLine 50 = .ok (.iastore, 1) := by decide +kernel
theorem d_Ma_addLine_51 : decode b_Ma_addLine 51 = .ok (.aload_n 0, 1) := by decide +kernel
theorem d_Ma_addLine_52 : decode b_Ma_addLine 52 = .ok (.dup, 1) := by decide +kernel
theorem d_Ma_addLine_53 : decode b_Ma_addLine 53 = .ok (.getfield 27, 3) := by decide +kernel
theorem d_Ma_addLine_56 : decode b_Ma_addLine 56 = .ok (.iconst 1, 1) := by decide +kernel
theorem d_Ma_addLine_57 : decode b_Ma_addLine 57 = .ok (.iadd, 1) := by decide +kernel
theorem d_Ma_addLine_58 : decode b_Ma_addLine 58 = .ok (.putfield 27, 3) := by decide +kernel
theorem d_Ma_addLine_61 : decode b_Ma_addLine 61 = .ok (.return_, 1) := by decide +kernel
theorem d_Ma_startOf_0 : decode b_Ma_startOf 0 = .ok (.iload_n 1, 1) := by decide +kernel
theorem d_Ma_startOf_1 : decode b_Ma_startOf 1 = .ok (.ifCond .lt 29, 3) := by decide +kernel
theorem d_Ma_startOf_4 : decode b_Ma_startOf 4 = .ok (.iload_n 1, 1) := by decide +kernel
theorem d_Ma_startOf_5 : decode b_Ma_startOf 5 = .ok (.aload_n 0, 1) := by decide +kernel
theorem d_Ma_startOf_6 : decode b_Ma_startOf 6 = .ok (.getfield 27, 3) := by decide +kernel
theorem d_Ma_startOf_9 : decode b_Ma_startOf 9 = .ok (.if_icmp .ge 21, 3) := by decide +kernel
theorem d_Ma_startOf_12 : decode b_Ma_startOf 12 = .ok (.iload_n 1, 1) := by decide +kernel
theorem d_Ma_startOf_13 : decode b_Ma_startOf 13 = .ok (.aload_n 0, 1) := by decide +kernel
theorem d_Ma_startOf_14 : decode b_Ma_startOf 14 = .ok (.getfield 20, 3) := by decide +kernel
theorem d_Ma_startOf_17 : decode b_Ma_startOf 17 = .ok (.arraylength, 1) := by decide +kernel
theorem d_Ma_startOf_18 : decode b_Ma_startOf 18 = .ok (.if_icmp .ge 12, 3) := by decide +kernel
theorem d_Ma_startOf_21 : decode b_Ma_startOf 21 = .ok (.aload_n 0, 1) := by decide +kernel
theorem d_Ma_startOf_22 : decode b_Ma_startOf 22 = .ok (.getfield 20, 3) := by decide +kernel
theorem d_Ma_startOf_25 : decode b_Ma_startOf 25 = .ok (.iload_n 1, 1) := by decide +kernel
theorem d_Ma_startOf_26 : decode b_Ma_startOf 26 = .ok (.iaload, 1) := by decide +kernel
theorem d_Ma_startOf_27 : decode b_Ma_startOf 27 = .ok (.goto 10, 3) := by decide +kernel
theorem d_Ma_startOf_30 : decode b_Ma_startOf 30 = .ok (.aload_n 0, 1) := by decide +kernel
theorem d_Ma_startOf_31 : decode b_Ma_startOf 31 = .ok (.getfield 14, 3) := by decide +kernel
theorem d_Ma_startOf_34 : decode b_Ma_startOf 34 = .ok (.getfield 34, 3) := by decide +kernel
theorem d_Ma_startOf_37 : decode b_Ma_startOf 37 = .ok (.ireturn, 1) := by decide +kernel
theorem d_Ma_stopOf_0 : decode b_Ma_stopOf 0 = .ok (.iload_n 1, 1) := by decide +kernel
theorem d_Ma_stopOf_1 : decode b_Ma_stopOf 1 = .ok (.ifCond .lt 29, 3) := by decide +kernel
theorem d_Ma_stopOf_4 : decode b_Ma_stopOf 4 = .ok (.iload_n 1, 1) := by decide +kernel
theorem d_Ma_stopOf_5 : decode b_Ma_stopOf 5 = .ok (.aload_n 0, 1) := by decide +kernel
theorem d_Ma_stopOf_6 : decode b_Ma_stopOf 6 = .ok (.getfield 27, 3) := by decide +kernel
theorem d_Ma_stopOf_9 : decode b_Ma_stopOf 9 = .ok (.if_icmp .ge 21, 3) := by decide +kernel
theorem d_Ma_stopOf_12 : decode b_Ma_stopOf 12 = .ok (.iload_n 1, 1) := by decide +kernel
theorem d_Ma_stopOf_13 : decode b_Ma_stopOf 13 = .ok (.aload_n 0, 1) := by decide +kernel
theorem d_Ma_stopOf_14 : decode b_Ma_stopOf 14 = .ok (.getfield 24, 3) := by decide +kernel
theorem d_Ma_stopOf_17 : decode b_Ma_stopOf 17 = .ok (.arraylength, 1) := by decide +kernel
theorem d_Ma_stopOf_18 : decode b_Ma_stopOf 18 = .ok (.if_icmp .ge 12, 3) := by decide +kernel
theorem d_Ma_stopOf_21 : decode b_Ma_stopOf 21 = .ok (.aload_n 0, 1) := by decide +kernel
theorem d_Ma_stopOf_22 : decode b_Ma_stopOf 22 = .ok (.getfield 24, 3) := by decide +kernel
theorem d_Ma_stopOf_25 : decode b_Ma_stopOf 25 = .ok (.iload_n 1, 1) := by decide +kernel
theorem d_Ma_stopOf_26 : decode b_Ma_stopOf 26 = .ok (.iaload, 1) := by decide +kernel
theorem d_Ma_stopOf_27 : decode b_Ma_stopOf 27 = .ok (.goto 10, 3) := by decide +kernel
theorem d_Ma_stopOf_30 : decode b_Ma_stopOf 30 = .ok (.aload_n 0, 1) := by decide +kernel
theorem d_Ma_stopOf_31 : decode b_Ma_stopOf 31 = .ok (.getfield 14, 3) := by decide +kernel
theorem d_Ma_stopOf_34 : decode b_Ma_stopOf 34 = .ok (.getfield 34, 3) := by decide +kernel
theorem d_Ma_stopOf_37 : decode b_Ma_stopOf 37 = .ok (.ireturn, 1) := by decide +kernel
theorem d_Ma_isEmptyLine_0 : decode b_Ma_isEmptyLine 0 = .ok (.aload_n 0, 1) := by decide +kernel
theorem d_Ma_isEmptyLine_1 : decode b_Ma_isEmptyLine 1 = .ok (.iload_n 1, 1) := by decide +kernel
theorem d_Ma_isEmptyLine_2 : decode b_Ma_isEmptyLine 2 = .ok (.invokevirtual 49, 3) := by decide +kernel
theorem d_Ma_isEmptyLine_5 : decode b_Ma_isEmptyLine 5 = .ok (.aload_n 0, 1) := by decide +kernel
theorem d_Ma_isEmptyLine_6 : decode b_Ma_isEmptyLine 6 = .ok (.iload_n 1, 1) := by decide +kernel
theorem d_Ma_isEmptyLine_7 : decode b_Ma_isEmptyLine 7 = .ok (.invokevirtual 52, 3) := by decide +kernel
theorem d_Ma_isEmptyLine_10 : decode b_Ma_isEmptyLine 10 = .ok (.if_icmp .lt 7, 3) := by decide +kernel
theorem d_Ma_isEmptyLine_13 : decode b_Ma_isEmptyLine 13 = .ok (.iconst 1, 1) := by decide +kernel
theorem d_Ma_isEmptyLine_14 : decode b_Ma_isEmptyLine 14 = .ok (.goto 4, 3) := by decide +kernel
theorem d_Ma_isEmptyLine_17 : decode b_Ma_isEmptyLine 17 = .ok (.iconst 0, 1) := by decide +kernel
theorem d_Ma_isEmptyLine_18 : decode b_Ma_isEmptyLine 18 = .ok (.ireturn, 1) := by decide +kernel
theorem d_Ma_beginsBlank_0 : decode b_Ma_beginsBlank 0 = .ok (.aload_n 0, 1) := by decide +kernel
theorem d_Ma_beginsBlank_1 : decode b_Ma_beginsBlank 1 = .ok (.getfield 14, 3) := by decide +kernel
theorem d_Ma_beginsBlank_4 : decode b_Ma_beginsBlank 4 = .ok (.aload_n 0, 1) := by decide +kernel
theorem d_Ma_beginsBlank_5 : decode b_Ma_beginsBlank 5 = .ok (.iload_n 1, 1) := by decide +kernel
theorem d_Ma_beginsBlank_6 : decode b_Ma_beginsBlank 6 = .ok (.invokevirtual 49, 3) := by decide +kernel
theorem d_Ma_beginsBlank_9 : decode b_Ma_beginsBlank 9 = .ok (.invokevirtual 41, 3) := by decide +kernel
theorem d_Ma_beginsBlank_12 : decode b_Ma_beginsBlank 12 = .ok (.invokestatic 55, 3) := by decide +kernel
theorem d_Ma_beginsBlank_15 : decode b_Ma_beginsBlank 15 = .ok (.ireturn, 1) := by decide +kernel
theorem d_Ma_colonOf_0 : decode b_Ma_colonOf 0 = .ok (.aload_n 0, 1) := by decide +kernel
theorem d_Ma_colonOf_1 : decode b_Ma_colonOf 1 = .ok (.iload_n 1, 1) := by decide +kernel
theorem d_Ma_colonOf_2 : decode b_Ma_colonOf 2 = .ok (.invokevirtual 49, 3) := by decide +kernel
theorem d_Ma_colonOf_5 : decode b_Ma_colonOf 5 = .ok (.istore_n 2, 1) := by decide +kernel
theorem d_Ma_colonOf_6 : decode b_Ma_colonOf 6 = .ok (.aload_n 0, 1) := by decide +kernel
theorem d_Ma_colonOf_7 : decode b_Ma_colonOf 7 = .ok (.iload_n 1, 1) := by decide +kernel
theorem d_Ma_colonOf_8 : decode b_Ma_colonOf 8 = .ok (.invokevirtual 52, 3) := by decide +kernel
theorem d_Ma_colonOf_11 : decode b_Ma_colonOf 11 = .ok (.istore_n 3, 1) := by decide +kernel
theorem d_Ma_colonOf_12 : decode b_Ma_colonOf 12 = .ok (.iload_n 2, 1) := by decide +kernel
theorem d_Ma_colonOf_13 : decode b_Ma_colonOf 13 = .ok (.istore 4, 2) := by decide +kernel
theorem d_Ma_colonOf_15 : decode b_Ma_colonOf 15 = .ok (.iload 4, 2) := by decide +kernel
theorem d_Ma_colonOf_17 : decode b_Ma_colonOf 17 = .ok (.iload_n 3, 1) := by decide +kernel
theorem d_Ma_colonOf_18 : decode b_Ma_colonOf 18 = .ok (.if_icmp .ge 50, 3) := by decide +kernel
theorem d_Ma_colonOf_21 : decode b_Ma_colonOf 21 = .ok (.aload_n 0, 1) := by decide +kernel
theorem d_Ma_colonOf_22 : decode b_Ma_colonOf 22 = .ok (.getfield 14, 3) := by decide +kernel
theorem d_Ma_colonOf_25 : decode b_Ma_colonOf 25 = .ok (.iload 4, 2) := by decide +kernel
theorem d_Ma_colonOf_27 : decode b_Ma_colonOf 27 = .ok (.invokevirtual 41, 3) := by decide +kernel
theorem d_Ma_colonOf_30 : decode b_Ma_colonOf 30 = .ok (.istore 5, 2) := by decide +kernel
theorem d_Ma_colonOf_32 : decode b_Ma_colonOf 32 = .ok (.iload 5, 2) := by decide +kernel
theorem d_Ma_colonOf_34 : decode b_Ma_colonOf 34 = .ok (.bipush 58, 2) := by decide +kernel
theorem d_Ma_colonOf_36 : decode b_Ma_colonOf 36 = .ok (.if_icmp .ne 16, 3) := by decide +kernel
theorem d_Ma_colonOf_39 : decode b_Ma_colonOf 39 = .ok (.iload 4, 2) := by decide +kernel
theorem d_Ma_colonOf_41 : decode b_Ma_colonOf 41 = .ok (.iload_n 2, 1) := by decide +kernel
theorem d_Ma_colonOf_42 : decode b_Ma_colonOf 42 = .ok (.if_icmp .le 8, 3) := by decide +kernel
theorem d_Ma_colonOf_45 : decode b_Ma_colonOf 45 = .ok (.iload 4, 2) := by decide +kernel
theorem d_Ma_colonOf_47 : decode b_Ma_colonOf 47 = .ok (.goto 4, 3) := by decide +kernel
theorem d_Ma_colonOf_50 : decode b_Ma_colonOf 50 = .ok (.iconst (-1), 1) := by decide +kernel
theorem d_Ma_colonOf_51 : decode b_Ma_colonOf 51 = .ok (.ireturn, 1) := by decide +kernel
theorem d_Ma_colonOf_52 : decode b_Ma_colonOf 52 = .ok (.iload 5, 2) := by decide +kernel
theorem d_Ma_colonOf_54 : decode b_Ma_colonOf 54 = .ok (.invokestatic 59, 3) := by decide +kernel
theorem d_Ma_colonOf_57 : decode b_Ma_colonOf 57 = .ok (.ifCond .ne 5, 3) := by decide +kernel
theorem d_Ma_colonOf_60 : decode b_Ma_colonOf 60 = .ok (.iconst (-1), 1) := by decide +kernel
theorem d_Ma_colonOf_61 : decode b_Ma_colonOf 61 = .ok (.ireturn, 1) := by decide +kernel
theorem d_Ma_colonOf_62 : decode b_Ma_colonOf 62 = .ok (.iinc 4 1, 3) := by decide +kernel
theorem d_Ma_colonOf_65 : decode b_Ma_colonOf 65 = .ok (.goto (-50), 3) := by decide +kernel
theorem d_Ma_colonOf_68 : decode b_Ma_colonOf 68 = .ok (.iconst (-1), 1) := by decide +kernel
theorem d_Ma_colonOf_69 : decode b_Ma_colonOf 69 = .ok (.ireturn, 1) := by decide +kernel
theorem d_Ma_headStop_0 : decode b_Ma_headStop 0 = .ok (.iload_n 1, 1) := by decide +kernel
theorem d_Ma_headStop_1 : decode b_Ma_headStop 1 = .ok (.istore_n 3, 1) := by decide +kernel
theorem d_Ma_headStop_2 : decode b_Ma_headStop 2 = .ok (.iload_n 3, 1) := by decide +kernel
theorem d_Ma_headStop_3 : decode b_Ma_headStop 3 = .ok (.iload_n 2, 1) := by decide +kernel
theorem d_Ma_headStop_4 : decode b_Ma_headStop 4 = .ok (.if_icmp .ge 45, 3) := by decide +kernel
theorem d_Ma_headStop_7 : decode b_Ma_headStop 7 = .ok (.iload_n 3, 1) := by decide +kernel
theorem d_Ma_headStop_8 : decode b_Ma_headStop 8 = .ok (.iload_n 1, 1) := by decide +kernel
theorem d_Ma_headStop_9 : decode b_Ma_headStop 9 = .ok (.if_icmp .le 15, 3) := by decide +kernel
theorem d_Ma_headStop_12 : decode b_Ma_headStop 12 = .ok (.aload_n 0, 1) := by decide +kernel
theorem d_Ma_headStop_13 : decode b_Ma_headStop 13 = .ok (.iload_n 3, 1) := by decide +kernel
theorem d_Ma_headStop_14 : decode b_Ma_headStop 14 = .ok (.invokevirtual 62, 3) := by decide +kernel
theorem d_Ma_headStop_17 : decode b_Ma_headStop 17 = .ok (.ifCond .eq 7, 3) := by decide +kernel
theorem d_Ma_headStop_20 : decode b_Ma_headStop 20 = .ok (.iconst 1, 1) := by decide +kernel
theorem d_Ma_headStop_21 : decode b_Ma_headStop 21 = .ok (.goto 4, 3) := by decide +kernel
theorem d_Ma_headStop_24 : decode b_Ma_headStop 24 = .ok (.iconst 0, 1) := by decide +kernel
theorem d_Ma_headStop_25 : decode b_Ma_headStop 25 = .ok (.istore 4, 2) := by decide +kernel
theorem d_Ma_headStop_27 : decode b_Ma_headStop 27 = .ok (.iload 4, 2) := by decide +kernel
theorem d_Ma_headStop_29 : decode b_Ma_headStop 29 = .ok (.ifCond .ne 14, 3) := by decide +kernel
theorem d_Ma_headStop_32 : decode b_Ma_headStop 32 = .ok (.aload_n 0, 1) := by decide +kernel
theorem d_Ma_headStop_33 : decode b_Ma_headStop 33 = .ok (.iload_n 3, 1) := by decide +kernel
theorem d_Ma_headStop_34 : decode b_Ma_headStop 34 = .ok (.invokevirtual 65, 3) := by decide +kernel
theorem d_Ma_headStop_37 : decode b_Ma_headStop 37 = .ok (.iconst (-1), 1) := by decide +kernel
theorem d_Ma_headStop_38 : decode b_Ma_headStop 38 = .ok (.if_icmp .ne 5, 3) := by decide +kernel
theorem d_Ma_headStop_41 : decode b_Ma_headStop 41 = .ok (.iload_n 3, 1) := by decide +kernel
theorem d_Ma_headStop_42 : decode b_Ma_headStop 42 = .ok (.ireturn, 1) := by decide +kernel
theorem d_Ma_headStop_43 : decode b_Ma_headStop 43 = .ok (.iinc 3 1, 3) := by decide +kernel
theorem d_Ma_headStop_46 : decode b_Ma_headStop 46 = .ok (.goto (-44), 3) := by decide +kernel
theorem d_Ma_headStop_49 : decode b_Ma_headStop 49 = .ok (.iload_n 2, 1) := by decide +kernel
theorem d_Ma_headStop_50 : decode b_Ma_headStop 50 = .ok (.ireturn, 1) := by decide +kernel
