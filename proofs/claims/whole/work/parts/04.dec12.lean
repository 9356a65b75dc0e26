theorem d_Va_closing_0 : decode b_Va_closing 0 = .ok (.iconst 1, 1) := by decide +kernel
theorem d_Va_closing_1 : decode b_Va_closing 1 = .ok (.istore_n 1, 1) := by decide +kernel
theorem d_Va_closing_2 : decode b_Va_closing 2 = .ok (.iload_n 1, 1) := by decide +kernel
theorem d_Va_closing_3 : decode b_Va_closing 3 = .ok (.aload_n 0, 1) := by decide +kernel
theorem d_Va_closing_4 : decode b_Va_closing 4 = .ok (.getfield 14, 3) := by decide +kernel
theorem d_Va_closing_7 : decode b_Va_closing 7 = .ok (.getfield 20, 3) := by decide +kernel
theorem d_Va_closing_10 : decode b_Va_closing 10 = .ok (.if_icmp .ge 35, 3) := by decide +kernel
theorem d_Va_closing_13 : decode b_Va_closing 13 = .ok (.aload_n 0, 1) := by decide +kernel
theorem d_Va_closing_14 : decode b_Va_closing 14 = .ok (.getfield 14, 3) := by decide +kernel
theorem d_Va_closing_17 : decode b_Va_closing 17 = .ok (.iload_n 1, 1) := by decide +kernel
theorem d_Va_closing_18 : decode b_Va_closing 18 = .ok (.invokevirtual 32, 3) := by decide +kernel
theorem d_Va_closing_21 : decode b_Va_closing 21 = .ok (.istore_n 2, 1) := by decide +kernel
theorem d_Va_closing_22 : decode b_Va_closing 22 = .ok (.iload_n 2, 1) := by decide +kernel
theorem d_Va_closing_23 : decode b_Va_closing 23 = .ok (.bipush 34, 2) := by decide +kernel
theorem d_Va_closing_25 : decode b_Va_closing 25 = .ok (.if_icmp .ne 5, 3) := by decide +kernel
theorem d_Va_closing_28 : decode b_Va_closing 28 = .ok (.iload_n 1, 1) := by decide +kernel
theorem d_Va_closing_29 : decode b_Va_closing 29 = .ok (.ireturn, 1) := by decide +kernel
theorem d_Va_closing_30 : decode b_Va_closing 30 = .ok (.iload_n 2, 1) := by decide +kernel
theorem d_Va_closing_31 : decode b_Va_closing 31 = .ok (.bipush 92, 2) := by decide +kernel
theorem d_Va_closing_33 : decode b_Va_closing 33 = .ok (.if_icmp .ne 6, 3) := by decide +kernel
theorem d_Va_closing_36 : decode b_Va_closing 36 = .ok (.iinc 1 1, 3) := by decide +kernel
theorem d_Va_closing_39 : decode b_Va_closing 39 = .ok (.iinc 1 1, 3) := by decide +kernel
theorem d_Va_closing_42 : decode b_Va_closing 42 = .ok (.goto (-40), 3) := by decide +kernel
theorem d_Va_closing_45 : decode b_Va_closing 45 = .ok (.iconst (-1), 1) := by decide +kernel
theorem d_Va_closing_46 : decode b_Va_closing 46 = .ok (.ireturn, 1) := by decide +kernel
