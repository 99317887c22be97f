theorem d_Mod_file_0 : decode b_Mod_file 0 = .ok (.iload_n 0, 1) := by decide +kernel
theorem d_Mod_file_1 : decode b_Mod_file 1 = .ok (.ifCond .lt 12, 3) := by decide +kernel
theorem d_Mod_file_4 : decode b_Mod_file 4 = .ok (.iload_n 0, 1) := by decide +kernel
theorem d_Mod_file_5 : decode b_Mod_file 5 = .ok (.iconst 5, 1) := by decide +kernel
theorem d_Mod_file_6 : decode b_Mod_file 6 = .ok (.if_icmp .gt 7, 3) := by decide +kernel
theorem d_Mod_file_9 : decode b_Mod_file 9 = .ok (.iconst 1, 1) := by decide +kernel
theorem d_Mod_file_10 : decode b_Mod_file 10 = .ok (.goto 4, 3) := by decide +kernel
theorem d_Mod_file_13 : decode b_Mod_file 13 = .ok (.iconst 0, 1) := by decide +kernel
theorem d_Mod_file_14 : decode b_Mod_file 14 = .ok (.ireturn, 1) := by decide +kernel
theorem d_Mod_used_0 : decode b_Mod_used 0 = .ok (.iconst 0, 1) := by decide +kernel
theorem d_Mod_used_1 : decode b_Mod_used 1 = .ok (.istore_n 2, 1) := by decide +kernel
theorem d_Mod_used_2 : decode b_Mod_used 2 = .ok (.iload_n 2, 1) := by decide +kernel
theorem d_Mod_used_3 : decode b_Mod_used 3 = .ok (.bipush 6, 2) := by decide +kernel
theorem d_Mod_used_5 : decode b_Mod_used 5 = .ok (.if_icmp .ge 91, 3) := by decide +kernel
theorem d_Mod_used_8 : decode b_Mod_used 8 = .ok (.aload_n 0, 1) := by decide +kernel
theorem d_Mod_used_9 : decode b_Mod_used 9 = .ok (.getfield 13, 3) := by decide +kernel
theorem d_Mod_used_12 : decode b_Mod_used 12 = .ok (.iconst 4, 1) := by decide +kernel
theorem d_Mod_used_13 : decode b_Mod_used 13 = .ok (.iload_n 2, 1) := by decide +kernel
theorem d_Mod_used_14 : decode b_Mod_used 14 = .ok (.imul, 1) := by decide +kernel
theorem d_Mod_used_15 : decode b_Mod_used 15 = .ok (.iconst 3, 1) := by decide +kernel
theorem d_Mod_used_16 : decode b_Mod_used 16 = .ok (.iadd, 1) := by decide +kernel
theorem d_Mod_used_17 : decode b_Mod_used 17 = .ok (.iaload, 1) := by decide +kernel
theorem d_Mod_used_18 : decode b_Mod_used 18 = .ok (.istore_n 3, 1) := by decide +kernel
theorem d_Mod_used_19 : decode b_Mod_used 19 = .ok (.iload_n 3, 1) := by decide +kernel
theorem d_Mod_used_20 : decode b_Mod_used 20 = .ok (.iload_n 1, 1) := by decide +kernel
theorem d_Mod_used_21 : decode b_Mod_used 21 = .ok (.if_icmp .eq 31, 3) := by decide +kernel
theorem d_Mod_used_24 : decode b_Mod_used 24 = .ok (.aload_n 0, 1) := by decide +kernel
theorem d_Mod_used_25 : decode b_Mod_used 25 = .ok (.getfield 13, 3) := by decide +kernel
theorem d_Mod_used_28 : decode b_Mod_used 28 = .ok (.iconst 4, 1) := by decide +kernel
theorem d_Mod_used_29 : decode b_Mod_used 29 = .ok (.iload_n 2, 1) := by decide +kernel
theorem d_Mod_used_30 : decode b_Mod_used 30 = .ok (.imul, 1) := by decide +kernel
theorem d_Mod_used_31 : decode b_Mod_used 31 = .ok (.iconst 1, 1) := by decide +kernel
theorem d_Mod_used_32 : decode b_Mod_used 32 = .ok (.iadd, 1) := by decide +kernel
theorem d_Mod_used_33 : decode b_Mod_used 33 = .ok (.iaload, 1) := by decide +kernel
theorem d_Mod_used_34 : decode b_Mod_used 34 = .ok (.iload_n 1, 1) := by decide +kernel
theorem d_Mod_used_35 : decode b_Mod_used 35 = .ok (.if_icmp .eq 17, 3) := by decide +kernel
theorem d_Mod_used_38 : decode b_Mod_used 38 = .ok (.aload_n 0, 1) := by decide +kernel
theorem d_Mod_used_39 : decode b_Mod_used 39 = .ok (.getfield 13, 3) := by decide +kernel
theorem d_Mod_used_42 : decode b_Mod_used 42 = .ok (.iconst 4, 1) := by decide +kernel
theorem d_Mod_used_43 : decode b_Mod_used 43 = .ok (.iload_n 2, 1) := by decide +kernel
theorem d_Mod_used_44 : decode b_Mod_used 44 = .ok (.imul, 1) := by decide +kernel
theorem d_Mod_used_45 : decode b_Mod_used 45 = .ok (.iconst 2, 1) := by decide +kernel
theorem d_Mod_used_46 : decode b_Mod_used 46 = .ok (.iadd, 1) := by decide +kernel
theorem d_Mod_used_47 : decode b_Mod_used 47 = .ok (.iaload, 1) := by decide +kernel
theorem d_Mod_used_48 : decode b_Mod_used 48 = .ok (.iload_n 1, 1) := by decide +kernel
theorem d_Mod_used_49 : decode b_Mod_used 49 = .ok (.if_icmp .ne 5, 3) := by decide +kernel
theorem d_Mod_used_52 : decode b_Mod_used 52 = .ok (.iconst 1, 1) := by decide +kernel
theorem d_Mod_used_53 : decode b_Mod_used 53 = .ok (.ireturn, 1) := by decide +kernel
theorem d_Mod_used_54 : decode b_Mod_used 54 = .ok (.iconst 0, 1) := by decide +kernel
theorem d_Mod_used_55 : decode b_Mod_used 55 = .ok (.istore 4, 2) := by decide +kernel
theorem d_Mod_used_57 : decode b_Mod_used 57 = .ok (.iload 4, 2) := by decide +kernel
theorem d_Mod_used_59 : decode b_Mod_used 59 = .ok (.iconst 4, 1) := by decide +kernel
theorem d_Mod_used_60 : decode b_Mod_used 60 = .ok (.if_icmp .ge 30, 3) := by decide +kernel
theorem d_Mod_used_63 : decode b_Mod_used 63 = .ok (.iload_n 3, 1) := by decide +kernel
theorem d_Mod_used_64 : decode b_Mod_used 64 = .ok (.ifCond .le 26, 3) := by decide +kernel
theorem d_Mod_used_67 : decode b_Mod_used 67 = .ok (.aload_n 0, 1) := by decide +kernel
theorem d_Mod_used_68 : decode b_Mod_used 68 = .ok (.getfield 13, 3) := by decide +kernel
theorem d_Mod_used_71 : decode b_Mod_used 71 = .ok (.iconst 4, 1) := by decide +kernel
theorem d_Mod_used_72 : decode b_Mod_used 72 = .ok (.iload_n 3, 1) := by decide +kernel
theorem d_Mod_used_73 : decode b_Mod_used 73 = .ok (.imul, 1) := by decide +kernel
theorem d_Mod_used_74 : decode b_Mod_used 74 = .ok (.iload 4, 2) := by decide +kernel
theorem d_Mod_used_76 : decode b_Mod_used 76 = .ok (.iadd, 1) := by decide +kernel
theorem d_Mod_used_77 : decode b_Mod_used 77 = .ok (.iaload, 1) := by decide +kernel
theorem d_Mod_used_78 : decode b_Mod_used 78 = .ok (.iload_n 1, 1) := by decide +kernel
theorem d_Mod_used_79 : decode b_Mod_used 79 = .ok (.if_icmp .ne 5, 3) := by decide +kernel
theorem d_Mod_used_82 : decode b_Mod_used 82 = .ok (.iconst 1, 1) := by decide +kernel
theorem d_Mod_used_83 : decode b_Mod_used 83 = .ok (.ireturn, 1) := by decide +kernel
theorem d_Mod_used_84 : decode b_Mod_used 84 = .ok (.iinc 4 1, 3) := by decide +kernel
theorem d_Mod_used_87 : decode b_Mod_used 87 = .ok (.goto (-30), 3) := by decide +kernel
theorem d_Mod_used_90 : decode b_Mod_used 90 = .ok (.iinc 2 1, 3) := by decide +kernel
theorem d_Mod_used_93 : decode b_Mod_used 93 = .ok (.goto (-91), 3) := by decide +kernel
theorem d_Mod_used_96 : decode b_Mod_used 96 = .ok (.iconst 0, 1) := by decide +kernel
theorem d_Mod_used_97 : decode b_Mod_used 97 = .ok (.ireturn, 1) := by decide +kernel
theorem d_Mod_open_0 : decode b_Mod_open 0 = .ok (.aload_n 0, 1) := by decide +kernel
theorem d_Mod_open_1 : decode b_Mod_open 1 = .ok (.iload_n 1, 1) := by decide +kernel
theorem d_Mod_open_2 : decode b_Mod_open 2 = .ok (.invokevirtual 106, 3) := by decide +kernel
theorem d_Mod_open_5 : decode b_Mod_open 5 = .ok (.ifCond .ne 21, 3) := by decide +kernel
theorem d_Mod_open_8 : decode b_Mod_open 8 = .ok (.aload_n 0, 1) := by decide +kernel
theorem d_Mod_open_9 : decode b_Mod_open 9 = .ok (.getfield 100, 3) := by decide +kernel
theorem d_Mod_open_12 : decode b_Mod_open 12 = .ok (.iload_n 1, 1) := by decide +kernel
theorem d_Mod_open_13 : decode b_Mod_open 13 = .ok (.bipush 7, 2) := by decide +kernel
theorem d_Mod_open_15 : decode b_Mod_open 15 = .ok (.isub, 1) := by decide +kernel
theorem d_Mod_open_16 : decode b_Mod_open 16 = .ok (.ishr, 1) := by decide +kernel
theorem d_Mod_open_17 : decode b_Mod_open 17 = .ok (.iconst 1, 1) := by decide +kernel
theorem d_Mod_open_18 : decode b_Mod_open 18 = .ok (.iand, 1) := by decide +kernel
theorem d_Mod_open_19 : decode b_Mod_open 19 = .ok (.ifCond .ne 7, 3) := by decide +kernel
theorem d_Mod_open_22 : decode b_Mod_open 22 = .ok (.iconst 1, 1) := by decide +kernel
theorem d_Mod_open_23 : decode b_Mod_open 23 = .ok (.goto 4, 3) := by decide +kernel
theorem d_Mod_open_26 : decode b_Mod_open 26 = .ok (.iconst 0, 1) := by decide +kernel
theorem d_Mod_open_27 : decode b_Mod_open 27 = .ok (.ireturn, 1) := by decide +kernel
theorem d_Mod_opens_0 : decode b_Mod_opens 0 = .ok (.iconst 0, 1) := by decide +kernel
theorem d_Mod_opens_1 : decode b_Mod_opens 1 = .ok (.istore_n 1, 1) := by decide +kernel
theorem d_Mod_opens_2 : decode b_Mod_opens 2 = .ok (.bipush 7, 2) := by decide +kernel
theorem d_Mod_opens_4 : decode b_Mod_opens 4 = .ok (.istore_n 2, 1) := by decide +kernel
theorem d_Mod_opens_5 : decode b_Mod_opens 5 = .ok (.iload_n 2, 1) := by decide +kernel
theorem d_Mod_opens_6 : decode b_Mod_opens 6 = .ok (.bipush 23, 2) := by decide +kernel
theorem d_Mod_opens_8 : decode b_Mod_opens 8 = .ok (.if_icmp .ge 25, 3) := by decide +kernel
theorem d_Mod_opens_11 : decode b_Mod_opens 11 = .ok (.aload_n 0, 1) := by decide +kernel
theorem d_Mod_opens_12 : decode b_Mod_opens 12 = .ok (.iload_n 2, 1) := by decide +kernel
theorem d_Mod_opens_13 : decode b_Mod_opens 13 = .ok (.invokevirtual 109, 3) := by decide +kernel
theorem d_Mod_opens_16 : decode b_Mod_opens 16 = .ok (.ifCond .eq 9, 3) := by decide +kernel
theorem d_Mod_opens_19 : decode b_Mod_opens 19 = .ok (.iload_n 1, 1) := by decide +kernel
theorem d_Mod_opens_20 : decode b_Mod_opens 20 = .ok (.iconst 1, 1) := by decide +kernel
theorem d_Mod_opens_21 : decode b_Mod_opens 21 = .ok (.iadd, 1) := by decide +kernel
theorem d_Mod_opens_22 : decode b_Mod_opens 22 = .ok (.goto 4, 3) := by decide +kernel
theorem d_Mod_opens_25 : decode b_Mod_opens 25 = .ok (.iload_n 1, 1) := by decide +kernel
theorem d_Mod_opens_26 : decode b_Mod_opens 26 = .ok (.istore_n 1, 1) := by decide +kernel
theorem d_Mod_opens_27 : decode b_Mod_opens 27 = .ok (.iinc 2 1, 3) := by decide +kernel
theorem d_Mod_opens_30 : decode b_Mod_opens 30 = .ok (.goto (-25), 3) := by decide +kernel
theorem d_Mod_opens_33 : decode b_Mod_opens 33 = .ok (.iload_n 1, 1) := by decide +kernel
theorem d_Mod_opens_34 : decode b_Mod_opens 34 = .ok (.ireturn, 1) := by decide +kernel
theorem d_Mod_needs_0 : decode b_Mod_needs 0 = .ok (.iconst 0, 1) := by decide +kernel
theorem d_Mod_needs_1 : decode b_Mod_needs 1 = .ok (.istore_n 1, 1) := by decide +kernel
theorem d_Mod_needs_2 : decode b_Mod_needs 2 = .ok (.iconst 0, 1) := by decide +kernel
theorem d_Mod_needs_3 : decode b_Mod_needs 3 = .ok (.istore_n 2, 1) := by decide +kernel
theorem d_Mod_needs_4 : decode b_Mod_needs 4 = .ok (.iconst 0, 1) := by decide +kernel
theorem d_Mod_needs_5 : decode b_Mod_needs 5 = .ok (.istore_n 3, 1) := by decide +kernel
theorem d_Mod_needs_6 : decode b_Mod_needs 6 = .ok (.iload_n 3, 1) := by decide +kernel
theorem d_Mod_needs_7 : decode b_Mod_needs 7 = .ok (.bipush 23, 2) := by decide +kernel
theorem d_Mod_needs_9 : decode b_Mod_needs 9 = .ok (.if_icmp .ge 43, 3) := by decide +kernel
theorem d_Mod_needs_12 : decode b_Mod_needs 12 = .ok (.aload_n 0, 1) := by decide +kernel
theorem d_Mod_needs_13 : decode b_Mod_needs 13 = .ok (.getfield 16, 3) := by decide +kernel
theorem d_Mod_needs_16 : decode b_Mod_needs 16 = .ok (.iload_n 3, 1) := by decide +kernel
theorem d_Mod_needs_17 : decode b_Mod_needs 17 = .ok (.baload, 1) := by decide +kernel
theorem d_Mod_needs_18 : decode b_Mod_needs 18 = .ok (.ifCond .eq 9, 3) := by decide +kernel
theorem d_Mod_needs_21 : decode b_Mod_needs 21 = .ok (.iload_n 1, 1) := by decide +kernel
theorem d_Mod_needs_22 : decode b_Mod_needs 22 = .ok (.iconst 1, 1) := by decide +kernel
theorem d_Mod_needs_23 : decode b_Mod_needs 23 = .ok (.iadd, 1) := by decide +kernel
theorem d_Mod_needs_24 : decode b_Mod_needs 24 = .ok (.goto 4, 3) := by decide +kernel
theorem d_Mod_needs_27 : decode b_Mod_needs 27 = .ok (.iload_n 1, 1) := by decide +kernel
theorem d_Mod_needs_28 : decode b_Mod_needs 28 = .ok (.istore_n 1, 1) := by decide +kernel
theorem d_Mod_needs_29 : decode b_Mod_needs 29 = .ok (.aload_n 0, 1) := by decide +kernel
theorem d_Mod_needs_30 : decode b_Mod_needs 30 = .ok (.getfield 20, 3) := by decide +kernel
theorem d_Mod_needs_33 : decode b_Mod_needs 33 = .ok (.iload_n 3, 1) := by decide +kernel
theorem d_Mod_needs_34 : decode b_Mod_needs 34 = .ok (.baload, 1) := by decide +kernel
theorem d_Mod_needs_35 : decode b_Mod_needs 35 = .ok (.ifCond .eq 9, 3) := by decide +kernel
theorem d_Mod_needs_38 : decode b_Mod_needs 38 = .ok (.iload_n 2, 1) := by decide +kernel
theorem d_Mod_needs_39 : decode b_Mod_needs 39 = .ok (.iconst 1, 1) := by decide +kernel
theorem d_Mod_needs_40 : decode b_Mod_needs 40 = .ok (.iadd, 1) := by decide +kernel
theorem d_Mod_needs_41 : decode b_Mod_needs 41 = .ok (.goto 4, 3) := by decide +kernel
theorem d_Mod_needs_44 : decode b_Mod_needs 44 = .ok (.iload_n 2, 1) := by decide +kernel
theorem d_Mod_needs_45 : decode b_Mod_needs 45 = .ok (.istore_n 2, 1) := by decide +kernel
theorem d_Mod_needs_46 : decode b_Mod_needs 46 = .ok (.iinc 3 1, 3) := by decide +kernel
theorem d_Mod_needs_49 : decode b_Mod_needs 49 = .ok (.goto (-43), 3) := by decide +kernel
theorem d_Mod_needs_52 : decode b_Mod_needs 52 = .ok (.iload_n 1, 1) := by decide +kernel
theorem d_Mod_needs_53 : decode b_Mod_needs 53 = .ok (.ifCond .ne 7, 3) := by decide +kernel
theorem d_Mod_needs_56 : decode b_Mod_needs 56 = .ok (.iconst 0, 1) := by decide +kernel
theorem d_Mod_needs_57 : decode b_Mod_needs 57 = .ok (.goto 18, 3) := by decide +kernel
theorem d_Mod_needs_60 : decode b_Mod_needs 60 = .ok (.iload_n 1, 1) := by decide +kernel
theorem d_Mod_needs_61 : decode b_Mod_needs 61 = .ok (.iload_n 1, 1) := by decide +kernel
theorem d_Mod_needs_62 : decode b_Mod_needs 62 = .ok (.iconst 3, 1) := by decide +kernel
theorem d_Mod_needs_63 : decode b_Mod_needs 63 = .ok (.iadd, 1) := by decide +kernel
theorem d_Mod_needs_64 : decode b_Mod_needs 64 = .ok (.iconst 4, 1) := by decide +kernel
theorem d_Mod_needs_65 : decode b_Mod_needs 65 = .ok (.idiv, 1) := by decide +kernel
theorem d_Mod_needs_66 : decode b_Mod_needs 66 = .ok (.iadd, 1) := by decide +kernel
theorem d_Mod_needs_67 : decode b_Mod_needs 67 = .ok (.iload_n 2, 1) := by decide +kernel
theorem d_Mod_needs_68 : decode b_Mod_needs 68 = .ok (.iconst 3, 1) := by decide +kernel
theorem d_Mod_needs_69 : decode b_Mod_needs 69 = .ok (.iadd, 1) := by decide +kernel
theorem d_Mod_needs_70 : decode b_Mod_needs 70 = .ok (.iconst 4, 1) := by decide +kernel
theorem d_Mod_needs_71 : decode b_Mod_needs 71 = .ok (.idiv, 1) := by decide +kernel
theorem d_Mod_needs_72 : decode b_Mod_needs 72 = .ok (.iadd, 1) := by decide +kernel
theorem d_Mod_needs_73 : decode b_Mod_needs 73 = .ok (.iconst 1, 1) := by decide +kernel
theorem d_Mod_needs_74 : decode b_Mod_needs 74 = .ok (.iadd, 1) := by decide +kernel
theorem d_Mod_needs_75 : decode b_Mod_needs 75 = .ok (.ireturn, 1) := by decide +kernel
theorem d_Mod_fail_0 : decode b_Mod_fail 0 = .ok (.aload_n 0, 1) := by decide +kernel
theorem d_Mod_fail_1 : decode b_Mod_fail 1 = .ok (.iconst 0, 1) := by decide +kernel
theorem d_Mod_fail_2 : decode b_Mod_fail 2 = .ok (.putfield 38, 3) := by decide +kernel
theorem d_Mod_fail_5 : decode b_Mod_fail 5 = .ok (.aload_n 0, 1) := by decide +kernel
theorem d_Mod_fail_6 : decode b_Mod_fail 6 = .ok (.iconst (-1), 1) := by decide +kernel
theorem d_Mod_fail_7 : decode b_Mod_fail 7 = .ok (.putfield 46, 3) := by decide +kernel
theorem d_Mod_fail_10 : decode b_Mod_fail 10 = .ok (.return_, 1) := by decide +kernel
theorem d_Mod_spend_0 : decode b_Mod_spend 0 = .ok (.aload_n 0, 1) := by decide +kernel
theorem d_Mod_spend_1 : decode b_Mod_spend 1 = .ok (.getfield 46, 3) := by decide +kernel
theorem d_Mod_spend_4 : decode b_Mod_spend 4 = .ok (.ifCond .ne 9, 3) := by decide +kernel
theorem d_Mod_spend_7 : decode b_Mod_spend 7 = .ok (.aload_n 0, 1) := by decide +kernel
theorem d_Mod_spend_8 : decode b_Mod_spend 8 = .ok (.invokevirtual 49, 3) := by decide +kernel
theorem d_Mod_spend_11 : decode b_Mod_spend 11 = .ok (.iconst 0, 1) := by decide +kernel
theorem d_Mod_spend_12 : decode b_Mod_spend 12 = .ok (.ireturn, 1) := by decide +kernel
theorem d_Mod_spend_13 : decode b_Mod_spend 13 = .ok (.aload_n 0, 1) := by decide +kernel
theorem d_Mod_spend_14 : decode b_Mod_spend 14 = .ok (.aload_n 0, 1) := by decide +kernel
theorem d_Mod_spend_15 : decode b_Mod_spend 15 = .ok (.getfield 46, 3) := by decide +kernel
theorem d_Mod_spend_18 : decode b_Mod_spend 18 = .ok (.ifCond .le 12, 3) := by decide +kernel
theorem d_Mod_spend_21 : decode b_Mod_spend 21 = .ok (.aload_n 0, 1) := by decide +kernel
theorem d_Mod_spend_22 : decode b_Mod_spend 22 = .ok (.getfield 46, 3) := by decide +kernel
theorem d_Mod_spend_25 : decode b_Mod_spend 25 = .ok (.iconst 1, 1) := by decide +kernel
theorem d_Mod_spend_26 : decode b_Mod_spend 26 = .ok (.isub, 1) := by decide +kernel
theorem d_Mod_spend_27 : decode b_Mod_spend 27 = .ok (.goto 7, 3) := by decide +kernel
theorem d_Mod_spend_30 : decode b_Mod_spend 30 = .ok (.aload_n 0, 1) := by decide +kernel
theorem d_Mod_spend_31 : decode b_Mod_spend 31 = .ok (.getfield 46, 3) := by decide +kernel
theorem d_Mod_spend_34 : decode b_Mod_spend 34 = .ok (.putfield 46, 3) := by decide +kernel
theorem d_Mod_spend_37 : decode b_Mod_spend 37 = .ok (.aload_n 0, 1) := by decide +kernel
theorem d_Mod_spend_38 : decode b_Mod_spend 38 = .ok (.dup, 1) := by decide +kernel
theorem d_Mod_spend_39 : decode b_Mod_spend 39 = .ok (.getfield 52, 3) := by decide +kernel
theorem d_Mod_spend_42 : decode b_Mod_spend 42 = .ok (.iconst 1, 1) := by decide +kernel
theorem d_Mod_spend_43 : decode b_Mod_spend 43 = .ok (.iadd, 1) := by decide +kernel
theorem d_Mod_spend_44 : decode b_Mod_spend 44 = .ok (.putfield 52, 3) := by decide +kernel
theorem d_Mod_spend_47 : decode b_Mod_spend 47 = .ok (.iconst 1, 1) := by decide +kernel
theorem d_Mod_spend_48 : decode b_Mod_spend 48 = .ok (.ireturn, 1) := by decide +kernel
theorem d_Mod_clean_0 : decode b_Mod_clean 0 = .ok (.iconst 0, 1) := by decide +kernel
theorem d_Mod_clean_1 : decode b_Mod_clean 1 = .ok (.istore_n 2, 1) := by decide +kernel
theorem d_Mod_clean_2 : decode b_Mod_clean 2 = .ok (.iconst 0, 1) := by decide +kernel
theorem d_Mod_clean_3 : decode b_Mod_clean 3 = .ok (.istore_n 3, 1) := by decide +kernel
theorem d_Mod_clean_4 : decode b_Mod_clean 4 = .ok (.iload_n 3, 1) := by decide +kernel
theorem d_Mod_clean_5 : decode b_Mod_clean 5 = .ok (.aload_n 0, 1) := by decide +kernel
theorem d_Mod_clean_6 : decode b_Mod_clean 6 = .ok (.getfield 63, 3) := by decide +kernel
theorem d_Mod_clean_9 : decode b_Mod_clean 9 = .ok (.if_icmp .ge 34, 3) := by decide +kernel
theorem d_Mod_clean_12 : decode b_Mod_clean 12 = .ok (.aload_n 0, 1) := by decide +kernel
theorem d_Mod_clean_13 : decode b_Mod_clean 13 = .ok (.getfield 23, 3) := by decide +kernel
theorem d_Mod_clean_16 : decode b_Mod_clean 16 = .ok (.iload_n 3, 1) := by decide +kernel
theorem d_Mod_clean_17 : decode b_Mod_clean 17 = .ok (.iaload, 1) := by decide +kernel
theorem d_Mod_clean_18 : decode b_Mod_clean 18 = .ok (.iload_n 1, 1) := by decide +kernel
theorem d_Mod_clean_19 : decode b_Mod_clean 19 = .ok (.if_icmp .eq 18, 3) := by decide +kernel
theorem d_Mod_clean_22 : decode b_Mod_clean 22 = .ok (.aload_n 0, 1) := by decide +kernel
theorem d_Mod_clean_23 : decode b_Mod_clean 23 = .ok (.getfield 23, 3) := by decide +kernel
theorem d_Mod_clean_26 : decode b_Mod_clean 26 = .ok (.iload_n 2, 1) := by decide +kernel
theorem d_Mod_clean_27 : decode b_Mod_clean 27 = .ok (.aload_n 0, 1) := by decide +kernel
theorem d_Mod_clean_28 : decode b_Mod_clean 28 = .ok (.getfield 23, 3) := by decide +kernel
theorem d_Mod_clean_31 : decode b_Mod_clean 31 = .ok (.iload_n 3, 1) := by decide +kernel
theorem d_Mod_clean_32 : decode b_Mod_clean 32 = .ok (.iaload, 1) := by decide +kernel
theorem d_Mod_clean_33 : decode b_Mod_clean 33 = .ok (.iastore, 1) := by decide +kernel
theorem d_Mod_clean_34 : decode b_Mod_clean 34 = .ok (.iinc 2 1, 3) := by decide +kernel
theorem d_Mod_clean_37 : decode b_Mod_clean 37 = .ok (.iinc 3 1, 3) := by decide +kernel
theorem d_Mod_clean_40 : decode b_Mod_clean 40 = .ok (.goto (-36), 3) := by decide +kernel
theorem d_Mod_clean_43 : decode b_Mod_clean 43 = .ok (.aload_n 0, 1) := by decide +kernel
theorem d_Mod_clean_44 : decode b_Mod_clean 44 = .ok (.iload_n 2, 1) := by decide +kernel
theorem d_Mod_clean_45 : decode b_Mod_clean 45 = .ok (.putfield 63, 3) := by decide +kernel
theorem d_Mod_clean_48 : decode b_Mod_clean 48 = .ok (.return_, 1) := by decide +kernel
theorem d_Mod_bring_0 : decode b_Mod_bring 0 = .ok (.aload_n 0, 1) := by decide +kernel
theorem d_Mod_bring_1 : decode b_Mod_bring 1 = .ok (.invokevirtual 55, 3) := by decide +kernel
theorem d_Mod_bring_4 : decode b_Mod_bring 4 = .ok (.ifCond .ne 5, 3) := by decide +kernel
theorem d_Mod_bring_7 : decode b_Mod_bring 7 = .ok (.iconst 0, 1) := by decide +kernel
theorem d_Mod_bring_8 : decode b_Mod_bring 8 = .ok (.ireturn, 1) := by decide +kernel
theorem d_Mod_bring_9 : decode b_Mod_bring 9 = .ok (.aload_n 0, 1) := by decide +kernel
theorem d_Mod_bring_10 : decode b_Mod_bring 10 = .ok (.getfield 23, 3) := by decide +kernel
theorem d_Mod_bring_13 : decode b_Mod_bring 13 = .ok (.iload_n 1, 1) := by decide +kernel
theorem d_Mod_bring_14 : decode b_Mod_bring 14 = .ok (.iaload, 1) := by decide +kernel
theorem d_Mod_bring_15 : decode b_Mod_bring 15 = .ok (.istore_n 2, 1) := by decide +kernel
theorem d_Mod_bring_16 : decode b_Mod_bring 16 = .ok (.iconst 0, 1) := by decide +kernel
theorem d_Mod_bring_17 : decode b_Mod_bring 17 = .ok (.istore_n 3, 1) := by decide +kernel
theorem d_Mod_bring_18 : decode b_Mod_bring 18 = .ok (.iload_n 3, 1) := by decide +kernel
theorem d_Mod_bring_19 : decode b_Mod_bring 19 = .ok (.iconst 4, 1) := by decide +kernel
theorem d_Mod_bring_20 : decode b_Mod_bring 20 = .ok (.if_icmp .ge 29, 3) := by decide +kernel
theorem d_Mod_bring_23 : decode b_Mod_bring 23 = .ok (.aload_n 0, 1) := by decide +kernel
theorem d_Mod_bring_24 : decode b_Mod_bring 24 = .ok (.getfield 7, 3) := by decide +kernel
theorem d_Mod_bring_27 : decode b_Mod_bring 27 = .ok (.iconst 4, 1) := by decide +kernel
theorem d_Mod_bring_28 : decode b_Mod_bring 28 = .ok (.iload_n 2, 1) := by decide +kernel
theorem d_Mod_bring_29 : decode b_Mod_bring 29 = .ok (.imul, 1) := by decide +kernel
theorem d_Mod_bring_30 : decode b_Mod_bring 30 = .ok (.iload_n 3, 1) := by decide +kernel
theorem d_Mod_bring_31 : decode b_Mod_bring 31 = .ok (.iadd, 1) := by decide +kernel
theorem d_Mod_bring_32 : decode b_Mod_bring 32 = .ok (.aload_n 0, 1) := by decide +kernel
theorem d_Mod_bring_33 : decode b_Mod_bring 33 = .ok (.getfield 13, 3) := by decide +kernel
theorem d_Mod_bring_36 : decode b_Mod_bring 36 = .ok (.iconst 4, 1) := by decide +kernel
theorem d_Mod_bring_37 : decode b_Mod_bring 37 = .ok (.iload_n 2, 1) := by decide +kernel
theorem d_Mod_bring_38 : decode b_Mod_bring 38 = .ok (.imul, 1) := by decide +kernel
theorem d_Mod_bring_39 : decode b_Mod_bring 39 = .ok (.iload_n 3, 1) := by decide +kernel
theorem d_Mod_bring_40 : decode b_Mod_bring 40 = .ok (.iadd, 1) := by decide +kernel
theorem d_Mod_bring_41 : decode b_Mod_bring 41 = .ok (.iaload, 1) := by decide +kernel
theorem d_Mod_bring_42 : decode b_Mod_bring 42 = .ok (.iastore, 1) := by decide +kernel
theorem d_Mod_bring_43 : decode b_Mod_bring 43 = .ok (.iinc 3 1, 3) := by decide +kernel
theorem d_Mod_bring_46 : decode b_Mod_bring 46 = .ok (.goto (-28), 3) := by decide +kernel
theorem d_Mod_bring_49 : decode b_Mod_bring 49 = .ok (.aload_n 0, 1) := by decide +kernel
theorem d_Mod_bring_50 : decode b_Mod_bring 50 = .ok (.iload_n 2, 1) := by decide +kernel
theorem d_Mod_bring_51 : decode b_Mod_bring 51 = .ok (.invokevirtual 59, 3) := by decide +kernel
theorem d_Mod_bring_54 : decode b_Mod_bring 54 = .ok (.iconst 1, 1) := by decide +kernel
theorem d_Mod_bring_55 : decode b_Mod_bring 55 = .ok (.ireturn, 1) := by decide +kernel
theorem d_Mod_vacant_0 : decode b_Mod_vacant 0 = .ok (.bipush 24, 2) := by decide +kernel
theorem d_Mod_vacant_2 : decode b_Mod_vacant 2 = .ok (.istore_n 1, 1) := by decide +kernel
theorem d_Mod_vacant_3 : decode b_Mod_vacant 3 = .ok (.iconst 0, 1) := by decide +kernel
theorem d_Mod_vacant_4 : decode b_Mod_vacant 4 = .ok (.istore_n 2, 1) := by decide +kernel
theorem d_Mod_vacant_5 : decode b_Mod_vacant 5 = .ok (.iload_n 2, 1) := by decide +kernel
theorem d_Mod_vacant_6 : decode b_Mod_vacant 6 = .ok (.aload_n 0, 1) := by decide +kernel
theorem d_Mod_vacant_7 : decode b_Mod_vacant 7 = .ok (.getfield 66, 3) := by decide +kernel
theorem d_Mod_vacant_10 : decode b_Mod_vacant 10 = .ok (.if_icmp .ge 18, 3) := by decide +kernel
theorem d_Mod_vacant_13 : decode b_Mod_vacant 13 = .ok (.iload_n 1, 1) := by decide +kernel
theorem d_Mod_vacant_14 : decode b_Mod_vacant 14 = .ok (.aload_n 0, 1) := by decide +kernel
theorem d_Mod_vacant_15 : decode b_Mod_vacant 15 = .ok (.getfield 35, 3) := by decide +kernel
theorem d_Mod_vacant_18 : decode b_Mod_vacant 18 = .ok (.iload_n 2, 1) := by decide +kernel
theorem d_Mod_vacant_19 : decode b_Mod_vacant 19 = .ok (.iaload, 1) := by decide +kernel
theorem d_Mod_vacant_20 : decode b_Mod_vacant 20 = .ok (.isub, 1) := by decide +kernel
theorem d_Mod_vacant_21 : decode b_Mod_vacant 21 = .ok (.istore_n 1, 1) := by decide +kernel
theorem d_Mod_vacant_22 : decode b_Mod_vacant 22 = .ok (.iinc 2 1, 3) := by decide +kernel
theorem d_Mod_vacant_25 : decode b_Mod_vacant 25 = .ok (.goto (-20), 3) := by decide +kernel
theorem d_Mod_vacant_28 : decode b_Mod_vacant 28 = .ok (.iload_n 1, 1) := by decide +kernel
theorem d_Mod_vacant_29 : decode b_Mod_vacant 29 = .ok (.ireturn, 1) := by decide +kernel
theorem d_Mod_enter_0 : decode b_Mod_enter 0 = .ok (.iconst 0, 1) := by decide +kernel
theorem d_Mod_enter_1 : decode b_Mod_enter 1 = .ok (.istore_n 2, 1) := by decide +kernel
theorem d_Mod_enter_2 : decode b_Mod_enter 2 = .ok (.iload_n 2, 1) := by decide +kernel
theorem d_Mod_enter_3 : decode b_Mod_enter 3 = .ok (.bipush 23, 2) := by decide +kernel
theorem d_Mod_enter_5 : decode b_Mod_enter 5 = .ok (.if_icmp .ge 63, 3) := by decide +kernel
theorem d_Mod_enter_8 : decode b_Mod_enter 8 = .ok (.aload_n 0, 1) := by decide +kernel
theorem d_Mod_enter_9 : decode b_Mod_enter 9 = .ok (.getfield 26, 3) := by decide +kernel
theorem d_Mod_enter_12 : decode b_Mod_enter 12 = .ok (.bipush 23, 2) := by decide +kernel
theorem d_Mod_enter_14 : decode b_Mod_enter 14 = .ok (.aload_n 0, 1) := by decide +kernel
theorem d_Mod_enter_15 : decode b_Mod_enter 15 = .ok (.getfield 66, 3) := by decide +kernel
theorem d_Mod_enter_18 : decode b_Mod_enter 18 = .ok (.imul, 1) := by decide +kernel
theorem d_Mod_enter_19 : decode b_Mod_enter 19 = .ok (.iload_n 2, 1) := by decide +kernel
theorem d_Mod_enter_20 : decode b_Mod_enter 20 = .ok (.iadd, 1) := by decide +kernel
theorem d_Mod_enter_21 : decode b_Mod_enter 21 = .ok (.aload_n 0, 1) := by decide +kernel
theorem d_Mod_enter_22 : decode b_Mod_enter 22 = .ok (.getfield 16, 3) := by decide +kernel
theorem d_Mod_enter_25 : decode b_Mod_enter 25 = .ok (.iload_n 2, 1) := by decide +kernel
theorem d_Mod_enter_26 : decode b_Mod_enter 26 = .ok (.baload, 1) := by decide +kernel
theorem d_Mod_enter_27 : decode b_Mod_enter 27 = .ok (.bastore, 1) := by decide +kernel
theorem d_Mod_enter_28 : decode b_Mod_enter 28 = .ok (.aload_n 0, 1) := by decide +kernel
theorem d_Mod_enter_29 : decode b_Mod_enter 29 = .ok (.getfield 29, 3) := by decide +kernel
theorem d_Mod_enter_32 : decode b_Mod_enter 32 = .ok (.bipush 23, 2) := by decide +kernel
theorem d_Mod_enter_34 : decode b_Mod_enter 34 = .ok (.aload_n 0, 1) := by decide +kernel
theorem d_Mod_enter_35 : decode b_Mod_enter 35 = .ok (.getfield 66, 3) := by decide +kernel
theorem d_Mod_enter_38 : decode b_Mod_enter 38 = .ok (.imul, 1) := by decide +kernel
theorem d_Mod_enter_39 : decode b_Mod_enter 39 = .ok (.iload_n 2, 1) := by decide +kernel
theorem d_Mod_enter_40 : decode b_Mod_enter 40 = .ok (.iadd, 1) := by decide +kernel
theorem d_Mod_enter_41 : decode b_Mod_enter 41 = .ok (.aload_n 0, 1) := by decide +kernel
theorem d_Mod_enter_42 : decode b_Mod_enter 42 = .ok (.getfield 20, 3) := by decide +kernel
theorem d_Mod_enter_45 : decode b_Mod_enter 45 = .ok (.iload_n 2, 1) := by decide +kernel
theorem d_Mod_enter_46 : decode b_Mod_enter 46 = .ok (.baload, 1) := by decide +kernel
theorem d_Mod_enter_47 : decode b_Mod_enter 47 = .ok (.bastore, 1) := by decide +kernel
theorem d_Mod_enter_48 : decode b_Mod_enter 48 = .ok (.aload_n 0, 1) := by decide +kernel
theorem d_Mod_enter_49 : decode b_Mod_enter 49 = .ok (.getfield 16, 3) := by decide +kernel
theorem d_Mod_enter_52 : decode b_Mod_enter 52 = .ok (.iload_n 2, 1) := by decide +kernel
theorem d_Mod_enter_53 : decode b_Mod_enter 53 = .ok (.iconst 0, 1) := by decide +kernel
theorem d_Mod_enter_54 : decode b_Mod_enter 54 = .ok (.bastore, 1) := by decide +kernel
theorem d_Mod_enter_55 : decode b_Mod_enter 55 = .ok (.aload_n 0, 1) := by decide +kernel
theorem d_Mod_enter_56 : decode b_Mod_enter 56 = .ok (.getfield 20, 3) := by decide +kernel
theorem d_Mod_enter_59 : decode b_Mod_enter 59 = .ok (.iload_n 2, 1) := by decide +kernel
theorem d_Mod_enter_60 : decode b_Mod_enter 60 = .ok (.iconst 0, 1) := by decide +kernel
theorem d_Mod_enter_61 : decode b_Mod_enter 61 = .ok (.bastore, 1) := by decide +kernel
theorem d_Mod_enter_62 : decode b_Mod_enter 62 = .ok (.iinc 2 1, 3) := by decide +kernel
theorem d_Mod_enter_65 : decode b_Mod_enter 65 = .ok (.goto (-63), 3) := by decide +kernel
theorem d_Mod_enter_68 : decode b_Mod_enter 68 = .ok (.iconst 0, 1) := by decide +kernel
theorem d_Mod_enter_69 : decode b_Mod_enter 69 = .ok (.istore_n 2, 1) := by decide +kernel
theorem d_Mod_enter_70 : decode b_Mod_enter 70 = .ok (.iload_n 2, 1) := by decide +kernel
theorem d_Mod_enter_71 : decode b_Mod_enter 71 = .ok (.bipush 92, 2) := by decide +kernel
theorem d_Mod_enter_73 : decode b_Mod_enter 73 = .ok (.if_icmp .ge 29, 3) := by decide +kernel
theorem d_Mod_enter_76 : decode b_Mod_enter 76 = .ok (.aload_n 0, 1) := by decide +kernel
theorem d_Mod_enter_77 : decode b_Mod_enter 77 = .ok (.getfield 32, 3) := by decide +kernel
theorem d_Mod_enter_80 : decode b_Mod_enter 80 = .ok (.bipush 92, 2) := by decide +kernel
theorem d_Mod_enter_82 : decode b_Mod_enter 82 = .ok (.aload_n 0, 1) := by decide +kernel
theorem d_Mod_enter_83 : decode b_Mod_enter 83 = .ok (.getfield 66, 3) := by decide +kernel
theorem d_Mod_enter_86 : decode b_Mod_enter 86 = .ok (.imul, 1) := by decide +kernel
theorem d_Mod_enter_87 : decode b_Mod_enter 87 = .ok (.iload_n 2, 1) := by decide +kernel
theorem d_Mod_enter_88 : decode b_Mod_enter 88 = .ok (.iadd, 1) := by decide +kernel
theorem d_Mod_enter_89 : decode b_Mod_enter 89 = .ok (.aload_n 0, 1) := by decide +kernel
theorem d_Mod_enter_90 : decode b_Mod_enter 90 = .ok (.getfield 13, 3) := by decide +kernel
theorem d_Mod_enter_93 : decode b_Mod_enter 93 = .ok (.iload_n 2, 1) := by decide +kernel
theorem d_Mod_enter_94 : decode b_Mod_enter 94 = .ok (.iaload, 1) := by decide +kernel
theorem d_Mod_enter_95 : decode b_Mod_enter 95 = .ok (.iastore, 1) := by decide +kernel
theorem d_Mod_enter_96 : decode b_Mod_enter 96 = .ok (.iinc 2 1, 3) := by decide +kernel
theorem d_Mod_enter_99 : decode b_Mod_enter 99 = .ok (.goto (-29), 3) := by decide +kernel
theorem d_Mod_enter_102 : decode b_Mod_enter 102 = .ok (.aload_n 0, 1) := by decide +kernel
theorem d_Mod_enter_103 : decode b_Mod_enter 103 = .ok (.getfield 35, 3) := by decide +kernel
theorem d_Mod_enter_106 : decode b_Mod_enter 106 = .ok (.aload_n 0, 1) := by decide +kernel
theorem d_Mod_enter_107 : decode b_Mod_enter 107 = .ok (.getfield 66, 3) := by decide +kernel
theorem d_Mod_enter_110 : decode b_Mod_enter 110 = .ok (.iload_n 1, 1) := by decide +kernel
theorem d_Mod_enter_111 : decode b_Mod_enter 111 = .ok (.iastore, 1) := by decide +kernel
theorem d_Mod_enter_112 : decode b_Mod_enter 112 = .ok (.aload_n 0, 1) := by decide +kernel
theorem d_Mod_enter_113 : decode b_Mod_enter 113 = .ok (.dup, 1) := by decide +kernel
theorem d_Mod_enter_114 : decode b_Mod_enter 114 = .ok (.getfield 66, 3) := by decide +kernel
theorem d_Mod_enter_117 : decode b_Mod_enter 117 = .ok (.iconst 1, 1) := by decide +kernel
theorem d_Mod_enter_118 : decode b_Mod_enter 118 = .ok (.iadd, 1) := by decide +kernel
theorem d_Mod_enter_119 : decode b_Mod_enter 119 = .ok (.putfield 66, 3) := by decide +kernel
theorem d_Mod_enter_122 : decode b_Mod_enter 122 = .ok (.aload_n 0, 1) := by decide +kernel
theorem d_Mod_enter_123 : decode b_Mod_enter 123 = .ok (.aload_n 0, 1) := by decide +kernel
theorem d_Mod_enter_124 : decode b_Mod_enter 124 = .ok (.getfield 97, 3) := by decide +kernel
theorem d_Mod_enter_127 : decode b_Mod_enter 127 = .ok (.iload_n 1, 1) := by decide +kernel
theorem d_Mod_enter_128 : decode b_Mod_enter 128 = .ok (.iadd, 1) := by decide +kernel
theorem d_Mod_enter_129 : decode b_Mod_enter 129 = .ok (.bipush 24, 2) := by decide +kernel
theorem d_Mod_enter_131 : decode b_Mod_enter 131 = .ok (.irem, 1) := by decide +kernel
theorem d_Mod_enter_132 : decode b_Mod_enter 132 = .ok (.putfield 97, 3) := by decide +kernel
theorem d_Mod_enter_135 : decode b_Mod_enter 135 = .ok (.aload_n 0, 1) := by decide +kernel
theorem d_Mod_enter_136 : decode b_Mod_enter 136 = .ok (.aload_n 0, 1) := by decide +kernel
theorem d_Mod_enter_137 : decode b_Mod_enter 137 = .ok (.getfield 13, 3) := by decide +kernel
theorem d_Mod_enter_140 : decode b_Mod_enter 140 = .ok (.bipush 24, 2) := by decide +kernel
theorem d_Mod_enter_142 : decode b_Mod_enter 142 = .ok (.iaload, 1) := by decide +kernel
theorem d_Mod_enter_143 : decode b_Mod_enter 143 = .ok (.putfield 100, 3) := by decide +kernel
theorem d_Mod_enter_146 : decode b_Mod_enter 146 = .ok (.return_, 1) := by decide +kernel
theorem d_Mod_later_0 : decode b_Mod_later 0 = .ok (.iload_n 1, 1) := by decide +kernel
theorem d_Mod_later_1 : decode b_Mod_later 1 = .ok (.iconst 1, 1) := by decide +kernel
theorem d_Mod_later_2 : decode b_Mod_later 2 = .ok (.iadd, 1) := by decide +kernel
theorem d_Mod_later_3 : decode b_Mod_later 3 = .ok (.istore 4, 2) := by decide +kernel
theorem d_Mod_later_5 : decode b_Mod_later 5 = .ok (.iload 4, 2) := by decide +kernel
theorem d_Mod_later_7 : decode b_Mod_later 7 = .ok (.aload_n 0, 1) := by decide +kernel
theorem d_Mod_later_8 : decode b_Mod_later 8 = .ok (.getfield 66, 3) := by decide +kernel
theorem d_Mod_later_11 : decode b_Mod_later 11 = .ok (.if_icmp .ge 45, 3) := by decide +kernel
theorem d_Mod_later_14 : decode b_Mod_later 14 = .ok (.aload_n 0, 1) := by decide +kernel
theorem d_Mod_later_15 : decode b_Mod_later 15 = .ok (.getfield 29, 3) := by decide +kernel
theorem d_Mod_later_18 : decode b_Mod_later 18 = .ok (.bipush 23, 2) := by decide +kernel
theorem d_Mod_later_20 : decode b_Mod_later 20 = .ok (.iload 4, 2) := by decide +kernel
theorem d_Mod_later_22 : decode b_Mod_later 22 = .ok (.imul, 1) := by decide +kernel
theorem d_Mod_later_23 : decode b_Mod_later 23 = .ok (.iload_n 2, 1) := by decide +kernel
theorem d_Mod_later_24 : decode b_Mod_later 24 = .ok (.iadd, 1) := by decide +kernel
theorem d_Mod_later_25 : decode b_Mod_later 25 = .ok (.baload, 1) := by decide +kernel
theorem d_Mod_later_26 : decode b_Mod_later 26 = .ok (.ifCond .ne 22, 3) := by decide +kernel
theorem d_Mod_later_29 : decode b_Mod_later 29 = .ok (.iload_n 3, 1) := by decide +kernel
theorem d_Mod_later_30 : decode b_Mod_later 30 = .ok (.ifCond .eq 20, 3) := by decide +kernel
theorem d_Mod_later_33 : decode b_Mod_later 33 = .ok (.aload_n 0, 1) := by decide +kernel
theorem d_Mod_later_34 : decode b_Mod_later 34 = .ok (.getfield 26, 3) := by decide +kernel
theorem d_Mod_later_37 : decode b_Mod_later 37 = .ok (.bipush 23, 2) := by decide +kernel
theorem d_Mod_later_39 : decode b_Mod_later 39 = .ok (.iload 4, 2) := by decide +kernel
theorem d_Mod_later_41 : decode b_Mod_later 41 = .ok (.imul, 1) := by decide +kernel
theorem d_Mod_later_42 : decode b_Mod_later 42 = .ok (.iload_n 2, 1) := by decide +kernel
theorem d_Mod_later_43 : decode b_Mod_later 43 = .ok (.iadd, 1) := by decide +kernel
theorem d_Mod_later_44 : decode b_Mod_later 44 = .ok (.baload, 1) := by decide +kernel
theorem d_Mod_later_45 : decode b_Mod_later 45 = .ok (.ifCond .eq 5, 3) := by decide +kernel
theorem d_Mod_later_48 : decode b_Mod_later 48 = .ok (.iconst 1, 1) := by decide +kernel
theorem d_Mod_later_49 : decode b_Mod_later 49 = .ok (.ireturn, 1) := by decide +kernel
theorem d_Mod_later_50 : decode b_Mod_later 50 = .ok (.iinc 4 1, 3) := by decide +kernel
theorem d_Mod_later_53 : decode b_Mod_later 53 = .ok (.goto (-48), 3) := by decide +kernel
theorem d_Mod_later_56 : decode b_Mod_later 56 = .ok (.iconst 0, 1) := by decide +kernel
theorem d_Mod_later_57 : decode b_Mod_later 57 = .ok (.ireturn, 1) := by decide +kernel
theorem d_Mod_replay_0 : decode b_Mod_replay 0 = .ok (.iconst 0, 1) := by decide +kernel
theorem d_Mod_replay_1 : decode b_Mod_replay 1 = .ok (.istore_n 3, 1) := by decide +kernel
theorem d_Mod_replay_2 : decode b_Mod_replay 2 = .ok (.iload_n 3, 1) := by decide +kernel
theorem d_Mod_replay_3 : decode b_Mod_replay 3 = .ok (.bipush 23, 2) := by decide +kernel
theorem d_Mod_replay_5 : decode b_Mod_replay 5 = .ok (.if_icmp .ge 84, 3) := by decide +kernel
theorem d_Mod_replay_8 : decode b_Mod_replay 8 = .ok (.aload_n 0, 1) := by decide +kernel
theorem d_Mod_replay_9 : decode b_Mod_replay 9 = .ok (.getfield 26, 3) := by decide +kernel
theorem d_Mod_replay_12 : decode b_Mod_replay 12 = .ok (.bipush 23, 2) := by decide +kernel
theorem d_Mod_replay_14 : decode b_Mod_replay 14 = .ok (.iload_n 1, 1) := by decide +kernel
theorem d_Mod_replay_15 : decode b_Mod_replay 15 = .ok (.imul, 1) := by decide +kernel
theorem d_Mod_replay_16 : decode b_Mod_replay 16 = .ok (.iload_n 3, 1) := by decide +kernel
theorem d_Mod_replay_17 : decode b_Mod_replay 17 = .ok (.iadd, 1) := by decide +kernel
theorem d_Mod_replay_18 : decode b_Mod_replay 18 = .ok (.baload, 1) := by decide +kernel
theorem d_Mod_replay_19 : decode b_Mod_replay 19 = .ok (.ifCond .eq 64, 3) := by decide +kernel
theorem d_Mod_replay_22 : decode b_Mod_replay 22 = .ok (.aload_n 0, 1) := by decide +kernel
theorem d_Mod_replay_23 : decode b_Mod_replay 23 = .ok (.iload_n 1, 1) := by decide +kernel
theorem d_Mod_replay_24 : decode b_Mod_replay 24 = .ok (.iload_n 3, 1) := by decide +kernel
theorem d_Mod_replay_25 : decode b_Mod_replay 25 = .ok (.iload_n 2, 1) := by decide +kernel
theorem d_Mod_replay_26 : decode b_Mod_replay 26 = .ok (.invokevirtual 69, 3) := by decide +kernel
theorem d_Mod_replay_29 : decode b_Mod_replay 29 = .ok (.ifCond .ne 54, 3) := by decide +kernel
theorem d_Mod_replay_32 : decode b_Mod_replay 32 = .ok (.aload_n 0, 1) := by decide +kernel
theorem d_Mod_replay_33 : decode b_Mod_replay 33 = .ok (.invokevirtual 55, 3) := by decide +kernel
theorem d_Mod_replay_36 : decode b_Mod_replay 36 = .ok (.ifCond .ne 5, 3) := by decide +kernel
theorem d_Mod_replay_39 : decode b_Mod_replay 39 = .ok (.iconst 0, 1) := by decide +kernel
theorem d_Mod_replay_40 : decode b_Mod_replay 40 = .ok (.ireturn, 1) := by decide +kernel
theorem d_Mod_replay_41 : decode b_Mod_replay 41 = .ok (.iconst 0, 1) := by decide +kernel
theorem d_Mod_replay_42 : decode b_Mod_replay 42 = .ok (.istore 4, 2) := by decide +kernel
theorem d_Mod_replay_44 : decode b_Mod_replay 44 = .ok (.iload 4, 2) := by decide +kernel
theorem d_Mod_replay_46 : decode b_Mod_replay 46 = .ok (.iconst 4, 1) := by decide +kernel
theorem d_Mod_replay_47 : decode b_Mod_replay 47 = .ok (.if_icmp .ge 36, 3) := by decide +kernel
theorem d_Mod_replay_50 : decode b_Mod_replay 50 = .ok (.aload_n 0, 1) := by decide +kernel
theorem d_Mod_replay_51 : decode b_Mod_replay 51 = .ok (.getfield 7, 3) := by decide +kernel
theorem d_Mod_replay_54 : decode b_Mod_replay 54 = .ok (.iconst 4, 1) := by decide +kernel
theorem d_Mod_replay_55 : decode b_Mod_replay 55 = .ok (.iload_n 3, 1) := by decide +kernel
theorem d_Mod_replay_56 : decode b_Mod_replay 56 = .ok (.imul, 1) := by decide +kernel
theorem d_Mod_replay_57 : decode b_Mod_replay 57 = .ok (.iload 4, 2) := by decide +kernel
theorem d_Mod_replay_59 : decode b_Mod_replay 59 = .ok (.iadd, 1) := by decide +kernel
theorem d_Mod_replay_60 : decode b_Mod_replay 60 = .ok (.aload_n 0, 1) := by decide +kernel
theorem d_Mod_replay_61 : decode b_Mod_replay 61 = .ok (.getfield 32, 3) := by decide +kernel
theorem d_Mod_replay_64 : decode b_Mod_replay 64 = .ok (.bipush 92, 2) := by decide +kernel
theorem d_Mod_replay_66 : decode b_Mod_replay 66 = .ok (.iload_n 1, 1) := by decide +kernel
theorem d_Mod_replay_67 : decode b_Mod_replay 67 = .ok (.imul, 1) := by decide +kernel
theorem d_Mod_replay_68 : decode b_Mod_replay 68 = .ok (.iconst 4, 1) := by decide +kernel
theorem d_Mod_replay_69 : decode b_Mod_replay 69 = .ok (.iload_n 3, 1) := by decide +kernel
theorem d_Mod_replay_70 : decode b_Mod_replay 70 = .ok (.imul, 1) := by decide +kernel
theorem d_Mod_replay_71 : decode b_Mod_replay 71 = .ok (.iadd, 1) := by decide +kernel
theorem d_Mod_replay_72 : decode b_Mod_replay 72 = .ok (.iload 4, 2) := by decide +kernel
theorem d_Mod_replay_74 : decode b_Mod_replay 74 = .ok (.iadd, 1) := by decide +kernel
theorem d_Mod_replay_75 : decode b_Mod_replay 75 = .ok (.iaload, 1) := by decide +kernel
theorem d_Mod_replay_76 : decode b_Mod_replay 76 = .ok (.iastore, 1) := by decide +kernel
theorem d_Mod_replay_77 : decode b_Mod_replay 77 = .ok (.iinc 4 1, 3) := by decide +kernel
theorem d_Mod_replay_80 : decode b_Mod_replay 80 = .ok (.goto (-36), 3) := by decide +kernel
theorem d_Mod_replay_83 : decode b_Mod_replay 83 = .ok (.iinc 3 1, 3) := by decide +kernel
theorem d_Mod_replay_86 : decode b_Mod_replay 86 = .ok (.goto (-84), 3) := by decide +kernel
theorem d_Mod_replay_89 : decode b_Mod_replay 89 = .ok (.iconst 1, 1) := by decide +kernel
theorem d_Mod_replay_90 : decode b_Mod_replay 90 = .ok (.ireturn, 1) := by decide +kernel
theorem d_Mod_drop_0 : decode b_Mod_drop 0 = .ok (.aload_n 0, 1) := by decide +kernel
theorem d_Mod_drop_1 : decode b_Mod_drop 1 = .ok (.aload_n 0, 1) := by decide +kernel
theorem d_Mod_drop_2 : decode b_Mod_drop 2 = .ok (.getfield 66, 3) := by decide +kernel
theorem d_Mod_drop_5 : decode b_Mod_drop 5 = .ok (.iload_n 1, 1) := by decide +kernel
theorem d_Mod_drop_6 : decode b_Mod_drop 6 = .ok (.isub, 1) := by decide +kernel
theorem d_Mod_drop_7 : decode b_Mod_drop 7 = .ok (.putfield 66, 3) := by decide +kernel
theorem d_Mod_drop_10 : decode b_Mod_drop 10 = .ok (.iconst 0, 1) := by decide +kernel
theorem d_Mod_drop_11 : decode b_Mod_drop 11 = .ok (.istore_n 2, 1) := by decide +kernel
theorem d_Mod_drop_12 : decode b_Mod_drop 12 = .ok (.iload_n 2, 1) := by decide +kernel
theorem d_Mod_drop_13 : decode b_Mod_drop 13 = .ok (.aload_n 0, 1) := by decide +kernel
theorem d_Mod_drop_14 : decode b_Mod_drop 14 = .ok (.getfield 66, 3) := by decide +kernel
theorem d_Mod_drop_17 : decode b_Mod_drop 17 = .ok (.if_icmp .ge 123, 3) := by decide +kernel
theorem d_Mod_drop_20 : decode b_Mod_drop 20 = .ok (.aload_n 0, 1) := by decide +kernel
theorem d_Mod_drop_21 : decode b_Mod_drop 21 = .ok (.getfield 35, 3) := by decide +kernel
theorem d_Mod_drop_24 : decode b_Mod_drop 24 = .ok (.iload_n 2, 1) := by decide +kernel
theorem d_Mod_drop_25 : decode b_Mod_drop 25 = .ok (.aload_n 0, 1) := by decide +kernel
theorem d_Mod_drop_26 : decode b_Mod_drop 26 = .ok (.getfield 35, 3) := by decide +kernel
theorem d_Mod_drop_29 : decode b_Mod_drop 29 = .ok (.iload_n 2, 1) := by decide +kernel
theorem d_Mod_drop_30 : decode b_Mod_drop 30 = .ok (.iload_n 1, 1) := by decide +kernel
theorem d_Mod_drop_31 : decode b_Mod_drop 31 = .ok (.iadd, 1) := by decide +kernel
theorem d_Mod_drop_32 : decode b_Mod_drop 32 = .ok (.iaload, 1) := by decide +kernel
theorem d_Mod_drop_33 : decode b_Mod_drop 33 = .ok (.iastore, 1) := by decide +kernel
theorem d_Mod_drop_34 : decode b_Mod_drop 34 = .ok (.iconst 0, 1) := by decide +kernel
theorem d_Mod_drop_35 : decode b_Mod_drop 35 = .ok (.istore_n 3, 1) := by decide +kernel
theorem d_Mod_drop_36 : decode b_Mod_drop 36 = .ok (.iload_n 3, 1) := by decide +kernel
theorem d_Mod_drop_37 : decode b_Mod_drop 37 = .ok (.bipush 23, 2) := by decide +kernel
theorem d_Mod_drop_39 : decode b_Mod_drop 39 = .ok (.if_icmp .ge 57, 3) := by decide +kernel
theorem d_Mod_drop_42 : decode b_Mod_drop 42 = .ok (.aload_n 0, 1) := by decide +kernel
theorem d_Mod_drop_43 : decode b_Mod_drop 43 = .ok (.getfield 26, 3) := by decide +kernel
theorem d_Mod_drop_46 : decode b_Mod_drop 46 = .ok (.bipush 23, 2) := by decide +kernel
theorem d_Mod_drop_48 : decode b_Mod_drop 48 = .ok (.iload_n 2, 1) := by decide +kernel
theorem d_Mod_drop_49 : decode b_Mod_drop 49 = .ok (.imul, 1) := by decide +kernel
theorem d_Mod_drop_50 : decode b_Mod_drop 50 = .ok (.iload_n 3, 1) := by decide +kernel
theorem d_Mod_drop_51 : decode b_Mod_drop 51 = .ok (.iadd, 1) := by decide +kernel
theorem d_Mod_drop_52 : decode b_Mod_drop 52 = .ok (.aload_n 0, 1) := by decide +kernel
theorem d_Mod_drop_53 : decode b_Mod_drop 53 = .ok (.getfield 26, 3) := by decide +kernel
theorem d_Mod_drop_56 : decode b_Mod_drop 56 = .ok (.bipush 23, 2) := by decide +kernel
theorem d_Mod_drop_58 : decode b_Mod_drop 58 = .ok (.iload_n 2, 1) := by decide +kernel
theorem d_Mod_drop_59 : decode b_Mod_drop 59 = .ok (.iload_n 1, 1) := by decide +kernel
theorem d_Mod_drop_60 : decode b_Mod_drop 60 = .ok (.iadd, 1) := by decide +kernel
theorem d_Mod_drop_61 : decode b_Mod_drop 61 = .ok (.imul, 1) := by decide +kernel
theorem d_Mod_drop_62 : decode b_Mod_drop 62 = .ok (.iload_n 3, 1) := by decide +kernel
theorem d_Mod_drop_63 : decode b_Mod_drop 63 = .ok (.iadd, 1) := by decide +kernel
theorem d_Mod_drop_64 : decode b_Mod_drop 64 = .ok (.baload, 1) := by decide +kernel
theorem d_Mod_drop_65 : decode b_Mod_drop 65 = .ok (.bastore, 1) := by decide +kernel
theorem d_Mod_drop_66 : decode b_Mod_drop 66 = .ok (.aload_n 0, 1) := by decide +kernel
theorem d_Mod_drop_67 : decode b_Mod_drop 67 = .ok (.getfield 29, 3) := by decide +kernel
theorem d_Mod_drop_70 : decode b_Mod_drop 70 = .ok (.bipush 23, 2) := by decide +kernel
theorem d_Mod_drop_72 : decode b_Mod_drop 72 = .ok (.iload_n 2, 1) := by decide +kernel
theorem d_Mod_drop_73 : decode b_Mod_drop 73 = .ok (.imul, 1) := by decide +kernel
theorem d_Mod_drop_74 : decode b_Mod_drop 74 = .ok (.iload_n 3, 1) := by decide +kernel
theorem d_Mod_drop_75 : decode b_Mod_drop 75 = .ok (.iadd, 1) := by decide +kernel
theorem d_Mod_drop_76 : decode b_Mod_drop 76 = .ok (.aload_n 0, 1) := by decide +kernel
theorem d_Mod_drop_77 : decode b_Mod_drop 77 = .ok (.getfield 29, 3) := by decide +kernel
theorem d_Mod_drop_80 : decode b_Mod_drop 80 = .ok (.bipush 23, 2) := by decide +kernel
theorem d_Mod_drop_82 : decode b_Mod_drop 82 = .ok (.iload_n 2, 1) := by decide +kernel
theorem d_Mod_drop_83 : decode b_Mod_drop 83 = .ok (.iload_n 1, 1) := by decide +kernel
theorem d_Mod_drop_84 : decode b_Mod_drop 84 = .ok (.iadd, 1) := by decide +kernel
theorem d_Mod_drop_85 : decode b_Mod_drop 85 = .ok (.imul, 1) := by decide +kernel
theorem d_Mod_drop_86 : decode b_Mod_drop 86 = .ok (.iload_n 3, 1) := by decide +kernel
theorem d_Mod_drop_87 : decode b_Mod_drop 87 = .ok (.iadd, 1) := by decide +kernel
theorem d_Mod_drop_88 : decode b_Mod_drop 88 = .ok (.baload, 1) := by decide +kernel
theorem d_Mod_drop_89 : decode b_Mod_drop 89 = .ok (.bastore, 1) := by decide +kernel
theorem d_Mod_drop_90 : decode b_Mod_drop 90 = .ok (.iinc 3 1, 3) := by decide +kernel
theorem d_Mod_drop_93 : decode b_Mod_drop 93 = .ok (.goto (-57), 3) := by decide +kernel
theorem d_Mod_drop_96 : decode b_Mod_drop 96 = .ok (.iconst 0, 1) := by decide +kernel
theorem d_Mod_drop_97 : decode b_Mod_drop 97 = .ok (.istore_n 3, 1) := by decide +kernel
theorem d_Mod_drop_98 : decode b_Mod_drop 98 = .ok (.iload_n 3, 1) := by decide +kernel
theorem d_Mod_drop_99 : decode b_Mod_drop 99 = .ok (.bipush 92, 2) := by decide +kernel
theorem d_Mod_drop_101 : decode b_Mod_drop 101 = .ok (.if_icmp .ge 33, 3) := by decide +kernel
theorem d_Mod_drop_104 : decode b_Mod_drop 104 = .ok (.aload_n 0, 1) := by decide +kernel
theorem d_Mod_drop_105 : decode b_Mod_drop 105 = .ok (.getfield 32, 3) := by decide +kernel
theorem d_Mod_drop_108 : decode b_Mod_drop 108 = .ok (.bipush 92, 2) := by decide +kernel
theorem d_Mod_drop_110 : decode b_Mod_drop 110 = .ok (.iload_n 2, 1) := by decide +kernel
theorem d_Mod_drop_111 : decode b_Mod_drop 111 = .ok (.imul, 1) := by decide +kernel
theorem d_Mod_drop_112 : decode b_Mod_drop 112 = .ok (.iload_n 3, 1) := by decide +kernel
theorem d_Mod_drop_113 : decode b_Mod_drop 113 = .ok (.iadd, 1) := by decide +kernel
theorem d_Mod_drop_114 : decode b_Mod_drop 114 = .ok (.aload_n 0, 1) := by decide +kernel
theorem d_Mod_drop_115 : decode b_Mod_drop 115 = .ok (.getfield 32, 3) := by decide +kernel
theorem d_Mod_drop_118 : decode b_Mod_drop 118 = .ok (.bipush 92, 2) := by decide +kernel
theorem d_Mod_drop_120 : decode b_Mod_drop 120 = .ok (.iload_n 2, 1) := by decide +kernel
theorem d_Mod_drop_121 : decode b_Mod_drop 121 = .ok (.iload_n 1, 1) := by decide +kernel
theorem d_Mod_drop_122 : decode b_Mod_drop 122 = .ok (.iadd, 1) := by decide +kernel
theorem d_Mod_drop_123 : decode b_Mod_drop 123 = .ok (.imul, 1) := by decide +kernel
theorem d_Mod_drop_124 : decode b_Mod_drop 124 = .ok (.iload_n 3, 1) := by decide +kernel
theorem d_Mod_drop_125 : decode b_Mod_drop 125 = .ok (.iadd, 1) := by decide +kernel
theorem d_Mod_drop_126 : decode b_Mod_drop 126 = .ok (.iaload, 1) := by decide +kernel
theorem d_Mod_drop_127 : decode b_Mod_drop 127 = .ok (.iastore, 1) := by decide +kernel
theorem d_Mod_drop_128 : decode b_Mod_drop 128 = .ok (.iinc 3 1, 3) := by decide +kernel
theorem d_Mod_drop_131 : decode b_Mod_drop 131 = .ok (.goto (-33), 3) := by decide +kernel
theorem d_Mod_drop_134 : decode b_Mod_drop 134 = .ok (.iinc 2 1, 3) := by decide +kernel
theorem d_Mod_drop_137 : decode b_Mod_drop 137 = .ok (.goto (-125), 3) := by decide +kernel
theorem d_Mod_drop_140 : decode b_Mod_drop 140 = .ok (.return_, 1) := by decide +kernel
theorem d_Mod_retire_0 : decode b_Mod_retire 0 = .ok (.iconst 0, 1) := by decide +kernel
theorem d_Mod_retire_1 : decode b_Mod_retire 1 = .ok (.istore_n 2, 1) := by decide +kernel
theorem d_Mod_retire_2 : decode b_Mod_retire 2 = .ok (.iload_n 2, 1) := by decide +kernel
theorem d_Mod_retire_3 : decode b_Mod_retire 3 = .ok (.iload_n 1, 1) := by decide +kernel
theorem d_Mod_retire_4 : decode b_Mod_retire 4 = .ok (.if_icmp .ge 20, 3) := by decide +kernel
theorem d_Mod_retire_7 : decode b_Mod_retire 7 = .ok (.aload_n 0, 1) := by decide +kernel
theorem d_Mod_retire_8 : decode b_Mod_retire 8 = .ok (.iload_n 2, 1) := by decide +kernel
theorem d_Mod_retire_9 : decode b_Mod_retire 9 = .ok (.iconst 1, 1) := by decide +kernel
theorem d_Mod_retire_10 : decode b_Mod_retire 10 = .ok (.invokevirtual 73, 3) := by decide +kernel
theorem d_Mod_retire_13 : decode b_Mod_retire 13 = .ok (.ifCond .ne 5, 3) := by decide +kernel
theorem d_Mod_retire_16 : decode b_Mod_retire 16 = .ok (.iconst 0, 1) := by decide +kernel
theorem d_Mod_retire_17 : decode b_Mod_retire 17 = .ok (.ireturn, 1) := by decide +kernel
theorem d_Mod_retire_18 : decode b_Mod_retire 18 = .ok (.iinc 2 1, 3) := by decide +kernel
theorem d_Mod_retire_21 : decode b_Mod_retire 21 = .ok (.goto (-19), 3) := by decide +kernel
theorem d_Mod_retire_24 : decode b_Mod_retire 24 = .ok (.aload_n 0, 1) := by decide +kernel
theorem d_Mod_retire_25 : decode b_Mod_retire 25 = .ok (.invokevirtual 55, 3) := by decide +kernel
theorem d_Mod_retire_28 : decode b_Mod_retire 28 = .ok (.ifCond .ne 5, 3) := by decide +kernel
theorem d_Mod_retire_31 : decode b_Mod_retire 31 = .ok (.iconst 0, 1) := by decide +kernel
theorem d_Mod_retire_32 : decode b_Mod_retire 32 = .ok (.ireturn, 1) := by decide +kernel
theorem d_Mod_retire_33 : decode b_Mod_retire 33 = .ok (.aload_n 0, 1) := by decide +kernel
theorem d_Mod_retire_34 : decode b_Mod_retire 34 = .ok (.iload_n 1, 1) := by decide +kernel
theorem d_Mod_retire_35 : decode b_Mod_retire 35 = .ok (.invokevirtual 77, 3) := by decide +kernel
theorem d_Mod_retire_38 : decode b_Mod_retire 38 = .ok (.iconst 1, 1) := by decide +kernel
theorem d_Mod_retire_39 : decode b_Mod_retire 39 = .ok (.ireturn, 1) := by decide +kernel
theorem d_Mod_seal_0 : decode b_Mod_seal 0 = .ok (.aload_n 0, 1) := by decide +kernel
theorem d_Mod_seal_1 : decode b_Mod_seal 1 = .ok (.getfield 42, 3) := by decide +kernel
theorem d_Mod_seal_4 : decode b_Mod_seal 4 = .ok (.iconst 1, 1) := by decide +kernel
theorem d_Mod_seal_5 : decode b_Mod_seal 5 = .ok (.if_icmp .ne 21, 3) := by decide +kernel
theorem d_Mod_seal_8 : decode b_Mod_seal 8 = .ok (.aload_n 0, 1) := by decide +kernel
theorem d_Mod_seal_9 : decode b_Mod_seal 9 = .ok (.getfield 63, 3) := by decide +kernel
theorem d_Mod_seal_12 : decode b_Mod_seal 12 = .ok (.ifCond .le 14, 3) := by decide +kernel
theorem d_Mod_seal_15 : decode b_Mod_seal 15 = .ok (.aload_n 0, 1) := by decide +kernel
theorem d_Mod_seal_16 : decode b_Mod_seal 16 = .ok (.iconst 0, 1) := by decide +kernel
theorem d_Mod_seal_17 : decode b_Mod_seal 17 = .ok (.invokevirtual 80, 3) := by decide +kernel
theorem d_Mod_seal_20 : decode b_Mod_seal 20 = .ok (.ifCond .ne (-20), 3) := by decide +kernel
theorem d_Mod_seal_23 : decode b_Mod_seal 23 = .ok (.bipush (-2), 2) := by decide +kernel
theorem d_Mod_seal_25 : decode b_Mod_seal 25 = .ok (.ireturn, 1) := by decide +kernel
theorem d_Mod_seal_26 : decode b_Mod_seal 26 = .ok (.aload_n 0, 1) := by decide +kernel
theorem d_Mod_seal_27 : decode b_Mod_seal 27 = .ok (.invokevirtual 84, 3) := by decide +kernel
theorem d_Mod_seal_30 : decode b_Mod_seal 30 = .ok (.istore_n 1, 1) := by decide +kernel
theorem d_Mod_seal_31 : decode b_Mod_seal 31 = .ok (.iload_n 1, 1) := by decide +kernel
theorem d_Mod_seal_32 : decode b_Mod_seal 32 = .ok (.ifCond .ne 5, 3) := by decide +kernel
theorem d_Mod_seal_35 : decode b_Mod_seal 35 = .ok (.iconst 0, 1) := by decide +kernel
theorem d_Mod_seal_36 : decode b_Mod_seal 36 = .ok (.ireturn, 1) := by decide +kernel
theorem d_Mod_seal_37 : decode b_Mod_seal 37 = .ok (.aload_n 0, 1) := by decide +kernel
theorem d_Mod_seal_38 : decode b_Mod_seal 38 = .ok (.invokevirtual 88, 3) := by decide +kernel
theorem d_Mod_seal_41 : decode b_Mod_seal 41 = .ok (.istore_n 2, 1) := by decide +kernel
theorem d_Mod_seal_42 : decode b_Mod_seal 42 = .ok (.iconst 0, 1) := by decide +kernel
theorem d_Mod_seal_43 : decode b_Mod_seal 43 = .ok (.istore_n 3, 1) := by decide +kernel
theorem d_Mod_seal_44 : decode b_Mod_seal 44 = .ok (.iload_n 2, 1) := by decide +kernel
theorem d_Mod_seal_45 : decode b_Mod_seal 45 = .ok (.iload_n 1, 1) := by decide +kernel
theorem d_Mod_seal_46 : decode b_Mod_seal 46 = .ok (.if_icmp .ge 26, 3) := by decide +kernel
theorem d_Mod_seal_49 : decode b_Mod_seal 49 = .ok (.iload_n 3, 1) := by decide +kernel
theorem d_Mod_seal_50 : decode b_Mod_seal 50 = .ok (.aload_n 0, 1) := by decide +kernel
theorem d_Mod_seal_51 : decode b_Mod_seal 51 = .ok (.getfield 66, 3) := by decide +kernel
theorem d_Mod_seal_54 : decode b_Mod_seal 54 = .ok (.if_icmp .ge 18, 3) := by decide +kernel
theorem d_Mod_seal_57 : decode b_Mod_seal 57 = .ok (.iload_n 2, 1) := by decide +kernel
theorem d_Mod_seal_58 : decode b_Mod_seal 58 = .ok (.aload_n 0, 1) := by decide +kernel
theorem d_Mod_seal_59 : decode b_Mod_seal 59 = .ok (.getfield 35, 3) := by decide +kernel
theorem d_Mod_seal_62 : decode b_Mod_seal 62 = .ok (.iload_n 3, 1) := by decide +kernel
theorem d_Mod_seal_63 : decode b_Mod_seal 63 = .ok (.iaload, 1) := by decide +kernel
theorem d_Mod_seal_64 : decode b_Mod_seal 64 = .ok (.iadd, 1) := by decide +kernel
theorem d_Mod_seal_65 : decode b_Mod_seal 65 = .ok (.istore_n 2, 1) := by decide +kernel
theorem d_Mod_seal_66 : decode b_Mod_seal 66 = .ok (.iinc 3 1, 3) := by decide +kernel
theorem d_Mod_seal_69 : decode b_Mod_seal 69 = .ok (.goto (-25), 3) := by decide +kernel
theorem d_Mod_seal_72 : decode b_Mod_seal 72 = .ok (.iload_n 3, 1) := by decide +kernel
theorem d_Mod_seal_73 : decode b_Mod_seal 73 = .ok (.ifCond .le 14, 3) := by decide +kernel
theorem d_Mod_seal_76 : decode b_Mod_seal 76 = .ok (.aload_n 0, 1) := by decide +kernel
theorem d_Mod_seal_77 : decode b_Mod_seal 77 = .ok (.iload_n 3, 1) := by decide +kernel
theorem d_Mod_seal_78 : decode b_Mod_seal 78 = .ok (.invokevirtual 91, 3) := by decide +kernel
theorem d_Mod_seal_81 : decode b_Mod_seal 81 = .ok (.ifCond .ne 6, 3) := by decide +kernel
theorem d_Mod_seal_84 : decode b_Mod_seal 84 = .ok (.bipush (-2), 2) := by decide +kernel
theorem d_Mod_seal_86 : decode b_Mod_seal 86 = .ok (.ireturn, 1) := by decide +kernel
theorem d_Mod_seal_87 : decode b_Mod_seal 87 = .ok (.iconst 0, 1) := by decide +kernel
theorem d_Mod_seal_88 : decode b_Mod_seal 88 = .ok (.istore 4, 2) := by decide +kernel
theorem d_Mod_seal_90 : decode b_Mod_seal 90 = .ok (.iload 4, 2) := by decide +kernel
theorem d_Mod_seal_92 : decode b_Mod_seal 92 = .ok (.iload_n 1, 1) := by decide +kernel
theorem d_Mod_seal_93 : decode b_Mod_seal 93 = .ok (.if_icmp .ge 19, 3) := by decide +kernel
theorem d_Mod_seal_96 : decode b_Mod_seal 96 = .ok (.aload_n 0, 1) := by decide +kernel
theorem d_Mod_seal_97 : decode b_Mod_seal 97 = .ok (.invokevirtual 55, 3) := by decide +kernel
theorem d_Mod_seal_100 : decode b_Mod_seal 100 = .ok (.ifCond .ne 6, 3) := by decide +kernel
theorem d_Mod_seal_103 : decode b_Mod_seal 103 = .ok (.bipush (-2), 2) := by decide +kernel
theorem d_Mod_seal_105 : decode b_Mod_seal 105 = .ok (.ireturn, 1) := by decide +kernel
theorem d_Mod_seal_106 : decode b_Mod_seal 106 = .ok (.iinc 4 1, 3) := by decide +kernel
theorem d_Mod_seal_109 : decode b_Mod_seal 109 = .ok (.goto (-19), 3) := by decide +kernel
theorem d_Mod_seal_112 : decode b_Mod_seal 112 = .ok (.aload_n 0, 1) := by decide +kernel
theorem d_Mod_seal_113 : decode b_Mod_seal 113 = .ok (.iload_n 1, 1) := by decide +kernel
theorem d_Mod_seal_114 : decode b_Mod_seal 114 = .ok (.invokevirtual 94, 3) := by decide +kernel
theorem d_Mod_seal_117 : decode b_Mod_seal 117 = .ok (.iload_n 1, 1) := by decide +kernel
theorem d_Mod_seal_118 : decode b_Mod_seal 118 = .ok (.ireturn, 1) := by decide +kernel
theorem d_Mod_ready_0 : decode b_Mod_ready 0 = .ok (.aload_n 0, 1) := by decide +kernel
theorem d_Mod_ready_1 : decode b_Mod_ready 1 = .ok (.invokevirtual 84, 3) := by decide +kernel
theorem d_Mod_ready_4 : decode b_Mod_ready 4 = .ok (.bipush 12, 2) := by decide +kernel
theorem d_Mod_ready_6 : decode b_Mod_ready 6 = .ok (.if_icmp .le 12, 3) := by decide +kernel
theorem d_Mod_ready_9 : decode b_Mod_ready 9 = .ok (.aload_n 0, 1) := by decide +kernel
theorem d_Mod_ready_10 : decode b_Mod_ready 10 = .ok (.invokevirtual 103, 3) := by decide +kernel
theorem d_Mod_ready_13 : decode b_Mod_ready 13 = .ok (.bipush (-2), 2) := by decide +kernel
theorem d_Mod_ready_15 : decode b_Mod_ready 15 = .ok (.if_icmp .eq 7, 3) := by decide +kernel
theorem d_Mod_ready_18 : decode b_Mod_ready 18 = .ok (.iconst 1, 1) := by decide +kernel
theorem d_Mod_ready_19 : decode b_Mod_ready 19 = .ok (.goto 4, 3) := by decide +kernel
theorem d_Mod_ready_22 : decode b_Mod_ready 22 = .ok (.iconst 0, 1) := by decide +kernel
theorem d_Mod_ready_23 : decode b_Mod_ready 23 = .ok (.ireturn, 1) := by decide +kernel
theorem d_Mod_cell_0 : decode b_Mod_cell 0 = .ok (.iload_n 2, 1) := by decide +kernel
theorem d_Mod_cell_1 : decode b_Mod_cell 1 = .ok (.iconst 2, 1) := by decide +kernel
theorem d_Mod_cell_2 : decode b_Mod_cell 2 = .ok (.if_icmp .ge 13, 3) := by decide +kernel
theorem d_Mod_cell_5 : decode b_Mod_cell 5 = .ok (.iconst 4, 1) := by decide +kernel
theorem d_Mod_cell_6 : decode b_Mod_cell 6 = .ok (.iload_n 1, 1) := by decide +kernel
theorem d_Mod_cell_7 : decode b_Mod_cell 7 = .ok (.imul, 1) := by decide +kernel
theorem d_Mod_cell_8 : decode b_Mod_cell 8 = .ok (.iconst 1, 1) := by decide +kernel
theorem d_Mod_cell_9 : decode b_Mod_cell 9 = .ok (.iadd, 1) := by decide +kernel
theorem d_Mod_cell_10 : decode b_Mod_cell 10 = .ok (.iload_n 2, 1) := by decide +kernel
theorem d_Mod_cell_11 : decode b_Mod_cell 11 = .ok (.iadd, 1) := by decide +kernel
theorem d_Mod_cell_12 : decode b_Mod_cell 12 = .ok (.goto 19, 3) := by decide +kernel
theorem d_Mod_cell_15 : decode b_Mod_cell 15 = .ok (.iconst 4, 1) := by decide +kernel
theorem d_Mod_cell_16 : decode b_Mod_cell 16 = .ok (.aload_n 0, 1) := by decide +kernel
theorem d_Mod_cell_17 : decode b_Mod_cell 17 = .ok (.getfield 13, 3) := by decide +kernel
theorem d_Mod_cell_20 : decode b_Mod_cell 20 = .ok (.iconst 4, 1) := by decide +kernel
theorem d_Mod_cell_21 : decode b_Mod_cell 21 = .ok (.iload_n 1, 1) := by decide +kernel
theorem d_Mod_cell_22 : decode b_Mod_cell 22 = .ok (.imul, 1) := by decide +kernel
theorem d_Mod_cell_23 : decode b_Mod_cell 23 = .ok (.iconst 3, 1) := by decide +kernel
theorem d_Mod_cell_24 : decode b_Mod_cell 24 = .ok (.iadd, 1) := by decide +kernel
theorem d_Mod_cell_25 : decode b_Mod_cell 25 = .ok (.iaload, 1) := by decide +kernel
theorem d_Mod_cell_26 : decode b_Mod_cell 26 = .ok (.imul, 1) := by decide +kernel
theorem d_Mod_cell_27 : decode b_Mod_cell 27 = .ok (.iload_n 2, 1) := by decide +kernel
theorem d_Mod_cell_28 : decode b_Mod_cell 28 = .ok (.iadd, 1) := by decide +kernel
theorem d_Mod_cell_29 : decode b_Mod_cell 29 = .ok (.iconst 2, 1) := by decide +kernel
theorem d_Mod_cell_30 : decode b_Mod_cell 30 = .ok (.isub, 1) := by decide +kernel
theorem d_Mod_cell_31 : decode b_Mod_cell 31 = .ok (.ireturn, 1) := by decide +kernel
theorem d_Mod_isDirty_0 : decode b_Mod_isDirty 0 = .ok (.iconst 0, 1) := by decide +kernel
theorem d_Mod_isDirty_1 : decode b_Mod_isDirty 1 = .ok (.istore_n 2, 1) := by decide +kernel
theorem d_Mod_isDirty_2 : decode b_Mod_isDirty 2 = .ok (.iload_n 2, 1) := by decide +kernel
theorem d_Mod_isDirty_3 : decode b_Mod_isDirty 3 = .ok (.aload_n 0, 1) := by decide +kernel
theorem d_Mod_isDirty_4 : decode b_Mod_isDirty 4 = .ok (.getfield 63, 3) := by decide +kernel
theorem d_Mod_isDirty_7 : decode b_Mod_isDirty 7 = .ok (.if_icmp .ge 21, 3) := by decide +kernel
theorem d_Mod_isDirty_10 : decode b_Mod_isDirty 10 = .ok (.aload_n 0, 1) := by decide +kernel
theorem d_Mod_isDirty_11 : decode b_Mod_isDirty 11 = .ok (.getfield 23, 3) := by decide +kernel
theorem d_Mod_isDirty_14 : decode b_Mod_isDirty 14 = .ok (.iload_n 2, 1) := by decide +kernel
theorem d_Mod_isDirty_15 : decode b_Mod_isDirty 15 = .ok (.iaload, 1) := by decide +kernel
theorem d_Mod_isDirty_16 : decode b_Mod_isDirty 16 = .ok (.iload_n 1, 1) := by decide +kernel
theorem d_Mod_isDirty_17 : decode b_Mod_isDirty 17 = .ok (.if_icmp .ne 5, 3) := by decide +kernel
theorem d_Mod_isDirty_20 : decode b_Mod_isDirty 20 = .ok (.iconst 1, 1) := by decide +kernel
theorem d_Mod_isDirty_21 : decode b_Mod_isDirty 21 = .ok (.ireturn, 1) := by decide +kernel
theorem d_Mod_isDirty_22 : decode b_Mod_isDirty 22 = .ok (.iinc 2 1, 3) := by decide +kernel
theorem d_Mod_isDirty_25 : decode b_Mod_isDirty 25 = .ok (.goto (-23), 3) := by decide +kernel
theorem d_Mod_isDirty_28 : decode b_Mod_isDirty 28 = .ok (.iconst 0, 1) := by decide +kernel
theorem d_Mod_isDirty_29 : decode b_Mod_isDirty 29 = .ok (.ireturn, 1) := by decide +kernel
theorem d_Mod_remap_0 : decode b_Mod_remap 0 = .ok (.iconst 0, 1) := by decide +kernel
theorem d_Mod_remap_1 : decode b_Mod_remap 1 = .ok (.istore_n 1, 1) := by decide +kernel
theorem d_Mod_remap_2 : decode b_Mod_remap 2 = .ok (.bipush 7, 2) := by decide +kernel
theorem d_Mod_remap_4 : decode b_Mod_remap 4 = .ok (.istore_n 2, 1) := by decide +kernel
theorem d_Mod_remap_5 : decode b_Mod_remap 5 = .ok (.iload_n 2, 1) := by decide +kernel
theorem d_Mod_remap_6 : decode b_Mod_remap 6 = .ok (.bipush 23, 2) := by decide +kernel
theorem d_Mod_remap_8 : decode b_Mod_remap 8 = .ok (.if_icmp .ge 30, 3) := by decide +kernel
theorem d_Mod_remap_11 : decode b_Mod_remap 11 = .ok (.aload_n 0, 1) := by decide +kernel
theorem d_Mod_remap_12 : decode b_Mod_remap 12 = .ok (.iload_n 2, 1) := by decide +kernel
theorem d_Mod_remap_13 : decode b_Mod_remap 13 = .ok (.invokevirtual 106, 3) := by decide +kernel
theorem d_Mod_remap_16 : decode b_Mod_remap 16 = .ok (.ifCond .eq 14, 3) := by decide +kernel
theorem d_Mod_remap_19 : decode b_Mod_remap 19 = .ok (.iload_n 1, 1) := by decide +kernel
theorem d_Mod_remap_20 : decode b_Mod_remap 20 = .ok (.iconst 1, 1) := by decide +kernel
theorem d_Mod_remap_21 : decode b_Mod_remap 21 = .ok (.iload_n 2, 1) := by decide +kernel
theorem d_Mod_remap_22 : decode b_Mod_remap 22 = .ok (.bipush 7, 2) := by decide +kernel
theorem d_Mod_remap_24 : decode b_Mod_remap 24 = .ok (.isub, 1) := by decide +kernel
theorem d_Mod_remap_25 : decode b_Mod_remap 25 = .ok (.ishl, 1) := by decide +kernel
theorem d_Mod_remap_26 : decode b_Mod_remap 26 = .ok (.ior, 1) := by decide +kernel
theorem d_Mod_remap_27 : decode b_Mod_remap 27 = .ok (.goto 4, 3) := by decide +kernel
theorem d_Mod_remap_30 : decode b_Mod_remap 30 = .ok (.iload_n 1, 1) := by decide +kernel
theorem d_Mod_remap_31 : decode b_Mod_remap 31 = .ok (.istore_n 1, 1) := by decide +kernel
theorem d_Mod_remap_32 : decode b_Mod_remap 32 = .ok (.iinc 2 1, 3) := by decide +kernel
theorem d_Mod_remap_35 : decode b_Mod_remap 35 = .ok (.goto (-30), 3) := by decide +kernel
theorem d_Mod_remap_38 : decode b_Mod_remap 38 = .ok (.aload_n 0, 1) := by decide +kernel
theorem d_Mod_remap_39 : decode b_Mod_remap 39 = .ok (.getfield 13, 3) := by decide +kernel
theorem d_Mod_remap_42 : decode b_Mod_remap 42 = .ok (.bipush 24, 2) := by decide +kernel
theorem d_Mod_remap_44 : decode b_Mod_remap 44 = .ok (.iload_n 1, 1) := by decide +kernel
theorem d_Mod_remap_45 : decode b_Mod_remap 45 = .ok (.iastore, 1) := by decide +kernel
theorem d_Mod_remap_46 : decode b_Mod_remap 46 = .ok (.aload_n 0, 1) := by decide +kernel
theorem d_Mod_remap_47 : decode b_Mod_remap 47 = .ok (.getfield 16, 3) := by decide +kernel
theorem d_Mod_remap_50 : decode b_Mod_remap 50 = .ok (.bipush 6, 2) := by decide +kernel
theorem d_Mod_remap_52 : decode b_Mod_remap 52 = .ok (.iconst 1, 1) := by decide +kernel
theorem d_Mod_remap_53 : decode b_Mod_remap 53 = .ok (.bastore, 1) := by decide +kernel
theorem d_Mod_remap_54 : decode b_Mod_remap 54 = .ok (.return_, 1) := by decide +kernel
theorem d_Mod_take_0 : decode b_Mod_take 0 = .ok (.bipush 7, 2) := by decide +kernel
theorem d_Mod_take_2 : decode b_Mod_take 2 = .ok (.istore_n 2, 1) := by decide +kernel
theorem d_Mod_take_3 : decode b_Mod_take 3 = .ok (.iload_n 2, 1) := by decide +kernel
theorem d_Mod_take_4 : decode b_Mod_take 4 = .ok (.bipush 23, 2) := by decide +kernel
theorem d_Mod_take_6 : decode b_Mod_take 6 = .ok (.if_icmp .ge 17, 3) := by decide +kernel
theorem d_Mod_take_9 : decode b_Mod_take 9 = .ok (.aload_n 0, 1) := by decide +kernel
theorem d_Mod_take_10 : decode b_Mod_take 10 = .ok (.iload_n 2, 1) := by decide +kernel
theorem d_Mod_take_11 : decode b_Mod_take 11 = .ok (.invokevirtual 109, 3) := by decide +kernel
theorem d_Mod_take_14 : decode b_Mod_take 14 = .ok (.ifCond .ne 9, 3) := by decide +kernel
theorem d_Mod_take_17 : decode b_Mod_take 17 = .ok (.iinc 2 1, 3) := by decide +kernel
theorem d_Mod_take_20 : decode b_Mod_take 20 = .ok (.goto (-17), 3) := by decide +kernel
theorem d_Mod_take_23 : decode b_Mod_take 23 = .ok (.iconst 0, 1) := by decide +kernel
theorem d_Mod_take_24 : decode b_Mod_take 24 = .ok (.istore_n 3, 1) := by decide +kernel
theorem d_Mod_take_25 : decode b_Mod_take 25 = .ok (.iload_n 3, 1) := by decide +kernel
theorem d_Mod_take_26 : decode b_Mod_take 26 = .ok (.iconst 4, 1) := by decide +kernel
theorem d_Mod_take_27 : decode b_Mod_take 27 = .ok (.if_icmp .ge 20, 3) := by decide +kernel
theorem d_Mod_take_30 : decode b_Mod_take 30 = .ok (.aload_n 0, 1) := by decide +kernel
theorem d_Mod_take_31 : decode b_Mod_take 31 = .ok (.getfield 13, 3) := by decide +kernel
theorem d_Mod_take_34 : decode b_Mod_take 34 = .ok (.iconst 4, 1) := by decide +kernel
theorem d_Mod_take_35 : decode b_Mod_take 35 = .ok (.iload_n 2, 1) := by decide +kernel
theorem d_Mod_take_36 : decode b_Mod_take 36 = .ok (.imul, 1) := by decide +kernel
theorem d_Mod_take_37 : decode b_Mod_take 37 = .ok (.iload_n 3, 1) := by decide +kernel
theorem d_Mod_take_38 : decode b_Mod_take 38 = .ok (.iadd, 1) := by decide +kernel
theorem d_Mod_take_39 : decode b_Mod_take 39 = .ok (.iconst 0, 1) := by decide +kernel
theorem d_Mod_take_40 : decode b_Mod_take 40 = .ok (.iastore, 1) := by decide +kernel
theorem d_Mod_take_41 : decode b_Mod_take 41 = .ok (.iinc 3 1, 3) := by decide +kernel
theorem d_Mod_take_44 : decode b_Mod_take 44 = .ok (.goto (-19), 3) := by decide +kernel
theorem d_Mod_take_47 : decode b_Mod_take 47 = .ok (.aload_n 0, 1) := by decide +kernel
theorem d_Mod_take_48 : decode b_Mod_take 48 = .ok (.getfield 13, 3) := by decide +kernel
theorem d_Mod_take_51 : decode b_Mod_take 51 = .ok (.iload_n 1, 1) := by decide +kernel
theorem d_Mod_take_52 : decode b_Mod_take 52 = .ok (.iload_n 2, 1) := by decide +kernel
theorem d_Mod_take_53 : decode b_Mod_take 53 = .ok (.iastore, 1) := by decide +kernel
theorem d_Mod_take_54 : decode b_Mod_take 54 = .ok (.aload_n 0, 1) := by decide +kernel
theorem d_Mod_take_55 : decode b_Mod_take 55 = .ok (.invokevirtual 112, 3) := by decide +kernel
theorem d_Mod_take_58 : decode b_Mod_take 58 = .ok (.iload_n 2, 1) := by decide +kernel
theorem d_Mod_take_59 : decode b_Mod_take 59 = .ok (.ireturn, 1) := by decide +kernel
theorem d_Mod_write_0 : decode b_Mod_write 0 = .ok (.aload_n 0, 1) := by decide +kernel
theorem d_Mod_write_1 : decode b_Mod_write 1 = .ok (.getfield 38, 3) := by decide +kernel
theorem d_Mod_write_4 : decode b_Mod_write 4 = .ok (.ifCond .eq 32, 3) := by decide +kernel
theorem d_Mod_write_7 : decode b_Mod_write 7 = .ok (.iload_n 1, 1) := by decide +kernel
theorem d_Mod_write_8 : decode b_Mod_write 8 = .ok (.invokestatic 123, 3) := by decide +kernel
theorem d_Mod_write_11 : decode b_Mod_write 11 = .ok (.ifCond .eq 25, 3) := by decide +kernel
theorem d_Mod_write_14 : decode b_Mod_write 14 = .ok (.iload_n 2, 1) := by decide +kernel
theorem d_Mod_write_15 : decode b_Mod_write 15 = .ok (.ifCond .lt 21, 3) := by decide +kernel
theorem d_Mod_write_18 : decode b_Mod_write 18 = .ok (.iload_n 2, 1) := by decide +kernel
theorem d_Mod_write_19 : decode b_Mod_write 19 = .ok (.bipush 23, 2) := by decide +kernel
theorem d_Mod_write_21 : decode b_Mod_write 21 = .ok (.if_icmp .gt 15, 3) := by decide +kernel
theorem d_Mod_write_24 : decode b_Mod_write 24 = .ok (.iload_n 2, 1) := by decide +kernel
theorem d_Mod_write_25 : decode b_Mod_write 25 = .ok (.aload_n 0, 1) := by decide +kernel
theorem d_Mod_write_26 : decode b_Mod_write 26 = .ok (.getfield 13, 3) := by decide +kernel
theorem d_Mod_write_29 : decode b_Mod_write 29 = .ok (.iconst 4, 1) := by decide +kernel
theorem d_Mod_write_30 : decode b_Mod_write 30 = .ok (.iload_n 1, 1) := by decide +kernel
theorem d_Mod_write_31 : decode b_Mod_write 31 = .ok (.imul, 1) := by decide +kernel
theorem d_Mod_write_32 : decode b_Mod_write 32 = .ok (.iaload, 1) := by decide +kernel
theorem d_Mod_write_33 : decode b_Mod_write 33 = .ok (.if_icmp .le 5, 3) := by decide +kernel
theorem d_Mod_write_36 : decode b_Mod_write 36 = .ok (.iconst 0, 1) := by decide +kernel
theorem d_Mod_write_37 : decode b_Mod_write 37 = .ok (.ireturn, 1) := by decide +kernel
theorem d_Mod_write_38 : decode b_Mod_write 38 = .ok (.iload_n 2, 1) := by decide +kernel
theorem d_Mod_write_39 : decode b_Mod_write 39 = .ok (.aload_n 0, 1) := by decide +kernel
theorem d_Mod_write_40 : decode b_Mod_write 40 = .ok (.getfield 13, 3) := by decide +kernel
theorem d_Mod_write_43 : decode b_Mod_write 43 = .ok (.iconst 4, 1) := by decide +kernel
theorem d_Mod_write_44 : decode b_Mod_write 44 = .ok (.iload_n 1, 1) := by decide +kernel
theorem d_Mod_write_45 : decode b_Mod_write 45 = .ok (.imul, 1) := by decide +kernel
theorem d_Mod_write_46 : decode b_Mod_write 46 = .ok (.iaload, 1) := by decide +kernel
theorem d_Mod_write_47 : decode b_Mod_write 47 = .ok (.if_icmp .ne 7, 3) := by decide +kernel
theorem d_Mod_write_50 : decode b_Mod_write 50 = .ok (.iconst 1, 1) := by decide +kernel
theorem d_Mod_write_51 : decode b_Mod_write 51 = .ok (.goto 4, 3) := by decide +kernel
theorem d_Mod_write_54 : decode b_Mod_write 54 = .ok (.iconst 0, 1) := by decide +kernel
theorem d_Mod_write_55 : decode b_Mod_write 55 = .ok (.istore 4, 2) := by decide +kernel
theorem d_Mod_write_57 : decode b_Mod_write 57 = .ok (.iload 4, 2) := by decide +kernel
theorem d_Mod_write_59 : decode b_Mod_write 59 = .ok (.ifCond .eq 9, 3) := by decide +kernel
theorem d_Mod_write_62 : decode b_Mod_write 62 = .ok (.iload_n 2, 1) := by decide +kernel
theorem d_Mod_write_63 : decode b_Mod_write 63 = .ok (.iconst 4, 1) := by decide +kernel
theorem d_Mod_write_64 : decode b_Mod_write 64 = .ok (.irem, 1) := by decide +kernel
theorem d_Mod_write_65 : decode b_Mod_write 65 = .ok (.ifCond .le 7, 3) := by decide +kernel
theorem d_Mod_write_68 : decode b_Mod_write 68 = .ok (.iconst 0, 1) := by decide +kernel
theorem d_Mod_write_69 : decode b_Mod_write 69 = .ok (.goto 14, 3) := by decide +kernel
theorem d_Mod_write_72 : decode b_Mod_write 72 = .ok (.iload_n 2, 1) := by decide +kernel
theorem d_Mod_write_73 : decode b_Mod_write 73 = .ok (.bipush 8, 2) := by decide +kernel
theorem d_Mod_write_75 : decode b_Mod_write 75 = .ok (.if_icmp .ne 7, 3) := by decide +kernel
theorem d_Mod_write_78 : decode b_Mod_write 78 = .ok (.iconst 2, 1) := by decide +kernel
theorem d_Mod_write_79 : decode b_Mod_write 79 = .ok (.goto 4, 3) := by decide +kernel
theorem d_Mod_write_82 : decode b_Mod_write 82 = .ok (.iconst 1, 1) := by decide +kernel
theorem d_Mod_write_83 : decode b_Mod_write 83 = .ok (.istore 5, 2) := by decide +kernel
theorem d_Mod_write_85 : decode b_Mod_write 85 = .ok (.aload_n 0, 1) := by decide +kernel
theorem d_Mod_write_86 : decode b_Mod_write 86 = .ok (.invokevirtual 126, 3) := by decide +kernel
theorem d_Mod_write_89 : decode b_Mod_write 89 = .ok (.iload 5, 2) := by decide +kernel
theorem d_Mod_write_91 : decode b_Mod_write 91 = .ok (.if_icmp .lt 10, 3) := by decide +kernel
theorem d_Mod_write_94 : decode b_Mod_write 94 = .ok (.aload_n 0, 1) := by decide +kernel
theorem d_Mod_write_95 : decode b_Mod_write 95 = .ok (.invokevirtual 129, 3) := by decide +kernel
theorem d_Mod_write_98 : decode b_Mod_write 98 = .ok (.ifCond .ne 5, 3) := by decide +kernel
theorem d_Mod_write_101 : decode b_Mod_write 101 = .ok (.iconst 0, 1) := by decide +kernel
theorem d_Mod_write_102 : decode b_Mod_write 102 = .ok (.ireturn, 1) := by decide +kernel
theorem d_Mod_write_103 : decode b_Mod_write 103 = .ok (.iload 5, 2) := by decide +kernel
theorem d_Mod_write_105 : decode b_Mod_write 105 = .ok (.iconst 2, 1) := by decide +kernel
theorem d_Mod_write_106 : decode b_Mod_write 106 = .ok (.if_icmp .ne 22, 3) := by decide +kernel
theorem d_Mod_write_109 : decode b_Mod_write 109 = .ok (.aload_n 0, 1) := by decide +kernel
theorem d_Mod_write_110 : decode b_Mod_write 110 = .ok (.iconst 4, 1) := by decide +kernel
theorem d_Mod_write_111 : decode b_Mod_write 111 = .ok (.iload_n 1, 1) := by decide +kernel
theorem d_Mod_write_112 : decode b_Mod_write 112 = .ok (.imul, 1) := by decide +kernel
theorem d_Mod_write_113 : decode b_Mod_write 113 = .ok (.iconst 3, 1) := by decide +kernel
theorem d_Mod_write_114 : decode b_Mod_write 114 = .ok (.iadd, 1) := by decide +kernel
theorem d_Mod_write_115 : decode b_Mod_write 115 = .ok (.invokevirtual 132, 3) := by decide +kernel
theorem d_Mod_write_118 : decode b_Mod_write 118 = .ok (.istore 6, 2) := by decide +kernel
theorem d_Mod_write_120 : decode b_Mod_write 120 = .ok (.aload_n 0, 1) := by decide +kernel
theorem d_Mod_write_121 : decode b_Mod_write 121 = .ok (.getfield 16, 3) := by decide +kernel
theorem d_Mod_write_124 : decode b_Mod_write 124 = .ok (.iload 6, 2) := by decide +kernel
theorem d_Mod_write_126 : decode b_Mod_write 126 = .ok (.iconst 1, 1) := by decide +kernel
theorem d_Mod_write_127 : decode b_Mod_write 127 = .ok (.bastore, 1) := by decide +kernel
theorem d_Mod_write_128 : decode b_Mod_write 128 = .ok (.iload 5, 2) := by decide +kernel
theorem d_Mod_write_130 : decode b_Mod_write 130 = .ok (.ifCond .le 42, 3) := by decide +kernel
theorem d_Mod_write_133 : decode b_Mod_write 133 = .ok (.aload_n 0, 1) := by decide +kernel
theorem d_Mod_write_134 : decode b_Mod_write 134 = .ok (.iload_n 1, 1) := by decide +kernel
theorem d_Mod_write_135 : decode b_Mod_write 135 = .ok (.iload_n 2, 1) := by decide +kernel
theorem d_Mod_write_136 : decode b_Mod_write 136 = .ok (.iconst 4, 1) := by decide +kernel
theorem d_Mod_write_137 : decode b_Mod_write 137 = .ok (.idiv, 1) := by decide +kernel
theorem d_Mod_write_138 : decode b_Mod_write 138 = .ok (.invokevirtual 115, 3) := by decide +kernel
theorem d_Mod_write_141 : decode b_Mod_write 141 = .ok (.istore 6, 2) := by decide +kernel
theorem d_Mod_write_143 : decode b_Mod_write 143 = .ok (.aload_n 0, 1) := by decide +kernel
theorem d_Mod_write_144 : decode b_Mod_write 144 = .ok (.iload 6, 2) := by decide +kernel
theorem d_Mod_write_146 : decode b_Mod_write 146 = .ok (.invokevirtual 132, 3) := by decide +kernel
theorem d_Mod_write_149 : decode b_Mod_write 149 = .ok (.pop, 1) := by decide +kernel
theorem d_Mod_write_150 : decode b_Mod_write 150 = .ok (.iload_n 2, 1) := by decide +kernel
theorem d_Mod_write_151 : decode b_Mod_write 151 = .ok (.bipush 7, 2) := by decide +kernel
theorem d_Mod_write_153 : decode b_Mod_write 153 = .ok (.if_icmp .le 19, 3) := by decide +kernel
theorem d_Mod_write_156 : decode b_Mod_write 156 = .ok (.aload_n 0, 1) := by decide +kernel
theorem d_Mod_write_157 : decode b_Mod_write 157 = .ok (.getfield 16, 3) := by decide +kernel
theorem d_Mod_write_160 : decode b_Mod_write 160 = .ok (.aload_n 0, 1) := by decide +kernel
theorem d_Mod_write_161 : decode b_Mod_write 161 = .ok (.getfield 13, 3) := by decide +kernel
theorem d_Mod_write_164 : decode b_Mod_write 164 = .ok (.iconst 4, 1) := by decide +kernel
theorem d_Mod_write_165 : decode b_Mod_write 165 = .ok (.iload_n 1, 1) := by decide +kernel
theorem d_Mod_write_166 : decode b_Mod_write 166 = .ok (.imul, 1) := by decide +kernel
theorem d_Mod_write_167 : decode b_Mod_write 167 = .ok (.iconst 3, 1) := by decide +kernel
theorem d_Mod_write_168 : decode b_Mod_write 168 = .ok (.iadd, 1) := by decide +kernel
theorem d_Mod_write_169 : decode b_Mod_write 169 = .ok (.iaload, 1) := by decide +kernel
theorem d_Mod_write_170 : decode b_Mod_write 170 = .ok (.iconst 1, 1) := by decide +kernel
theorem d_Mod_write_171 : decode b_Mod_write 171 = .ok (.bastore, 1) := by decide +kernel
theorem d_Mod_write_172 : decode b_Mod_write 172 = .ok (.iload 4, 2) := by decide +kernel
theorem d_Mod_write_174 : decode b_Mod_write 174 = .ok (.ifCond .eq 21, 3) := by decide +kernel
theorem d_Mod_write_177 : decode b_Mod_write 177 = .ok (.aload_n 0, 1) := by decide +kernel
theorem d_Mod_write_178 : decode b_Mod_write 178 = .ok (.getfield 13, 3) := by decide +kernel
theorem d_Mod_write_181 : decode b_Mod_write 181 = .ok (.iconst 4, 1) := by decide +kernel
theorem d_Mod_write_182 : decode b_Mod_write 182 = .ok (.iload_n 1, 1) := by decide +kernel
theorem d_Mod_write_183 : decode b_Mod_write 183 = .ok (.imul, 1) := by decide +kernel
theorem d_Mod_write_184 : decode b_Mod_write 184 = .ok (.iload_n 2, 1) := by decide +kernel
theorem d_Mod_write_185 : decode b_Mod_write 185 = .ok (.iconst 1, 1) := by decide +kernel
theorem d_Mod_write_186 : decode b_Mod_write 186 = .ok (.iadd, 1) := by decide +kernel
theorem d_Mod_write_187 : decode b_Mod_write 187 = .ok (.iastore, 1) := by decide +kernel
theorem d_Mod_write_188 : decode b_Mod_write 188 = .ok (.aload_n 0, 1) := by decide +kernel
theorem d_Mod_write_189 : decode b_Mod_write 189 = .ok (.getfield 16, 3) := by decide +kernel
theorem d_Mod_write_192 : decode b_Mod_write 192 = .ok (.iload_n 1, 1) := by decide +kernel
theorem d_Mod_write_193 : decode b_Mod_write 193 = .ok (.iconst 1, 1) := by decide +kernel
theorem d_Mod_write_194 : decode b_Mod_write 194 = .ok (.bastore, 1) := by decide +kernel
theorem d_Mod_write_195 : decode b_Mod_write 195 = .ok (.aload_n 0, 1) := by decide +kernel
theorem d_Mod_write_196 : decode b_Mod_write 196 = .ok (.getfield 13, 3) := by decide +kernel
theorem d_Mod_write_199 : decode b_Mod_write 199 = .ok (.aload_n 0, 1) := by decide +kernel
theorem d_Mod_write_200 : decode b_Mod_write 200 = .ok (.iload_n 1, 1) := by decide +kernel
theorem d_Mod_write_201 : decode b_Mod_write 201 = .ok (.iload_n 2, 1) := by decide +kernel
theorem d_Mod_write_202 : decode b_Mod_write 202 = .ok (.iconst 4, 1) := by decide +kernel
theorem d_Mod_write_203 : decode b_Mod_write 203 = .ok (.idiv, 1) := by decide +kernel
theorem d_Mod_write_204 : decode b_Mod_write 204 = .ok (.invokevirtual 115, 3) := by decide +kernel
theorem d_Mod_write_207 : decode b_Mod_write 207 = .ok (.iaload, 1) := by decide +kernel
theorem d_Mod_write_208 : decode b_Mod_write 208 = .ok (.istore 6, 2) := by decide +kernel
theorem d_Mod_write_210 : decode b_Mod_write 210 = .ok (.aload_n 0, 1) := by decide +kernel
theorem d_Mod_write_211 : decode b_Mod_write 211 = .ok (.getfield 13, 3) := by decide +kernel
theorem d_Mod_write_214 : decode b_Mod_write 214 = .ok (.iconst 4, 1) := by decide +kernel
theorem d_Mod_write_215 : decode b_Mod_write 215 = .ok (.iload 6, 2) := by decide +kernel
theorem d_Mod_write_217 : decode b_Mod_write 217 = .ok (.imul, 1) := by decide +kernel
theorem d_Mod_write_218 : decode b_Mod_write 218 = .ok (.iload_n 2, 1) := by decide +kernel
theorem d_Mod_write_219 : decode b_Mod_write 219 = .ok (.iconst 4, 1) := by decide +kernel
theorem d_Mod_write_220 : decode b_Mod_write 220 = .ok (.irem, 1) := by decide +kernel
theorem d_Mod_write_221 : decode b_Mod_write 221 = .ok (.iadd, 1) := by decide +kernel
theorem d_Mod_write_222 : decode b_Mod_write 222 = .ok (.iload_n 3, 1) := by decide +kernel
theorem d_Mod_write_223 : decode b_Mod_write 223 = .ok (.iastore, 1) := by decide +kernel
theorem d_Mod_write_224 : decode b_Mod_write 224 = .ok (.aload_n 0, 1) := by decide +kernel
theorem d_Mod_write_225 : decode b_Mod_write 225 = .ok (.getfield 42, 3) := by decide +kernel
theorem d_Mod_write_228 : decode b_Mod_write 228 = .ok (.iconst 2, 1) := by decide +kernel
theorem d_Mod_write_229 : decode b_Mod_write 229 = .ok (.if_icmp .ne 14, 3) := by decide +kernel
theorem d_Mod_write_232 : decode b_Mod_write 232 = .ok (.aload_n 0, 1) := by decide +kernel
theorem d_Mod_write_233 : decode b_Mod_write 233 = .ok (.getfield 16, 3) := by decide +kernel
theorem d_Mod_write_236 : decode b_Mod_write 236 = .ok (.iload 6, 2) := by decide +kernel
theorem d_Mod_write_238 : decode b_Mod_write 238 = .ok (.iconst 1, 1) := by decide +kernel
theorem d_Mod_write_239 : decode b_Mod_write 239 = .ok (.bastore, 1) := by decide +kernel
theorem d_Mod_write_240 : decode b_Mod_write 240 = .ok (.goto 33, 3) := by decide +kernel
theorem d_Mod_write_243 : decode b_Mod_write 243 = .ok (.aload_n 0, 1) := by decide +kernel
theorem d_Mod_write_244 : decode b_Mod_write 244 = .ok (.iload 6, 2) := by decide +kernel
theorem d_Mod_write_246 : decode b_Mod_write 246 = .ok (.invokevirtual 136, 3) := by decide +kernel
theorem d_Mod_write_249 : decode b_Mod_write 249 = .ok (.ifCond .ne 24, 3) := by decide +kernel
theorem d_Mod_write_252 : decode b_Mod_write 252 = .ok (.aload_n 0, 1) := by decide +kernel
theorem d_Mod_write_253 : decode b_Mod_write 253 = .ok (.getfield 23, 3) := by decide +kernel
theorem d_Mod_write_256 : decode b_Mod_write 256 = .ok (.aload_n 0, 1) := by decide +kernel
theorem d_Mod_write_257 : decode b_Mod_write 257 = .ok (.getfield 63, 3) := by decide +kernel
theorem d_Mod_write_260 : decode b_Mod_write 260 = .ok (.iload 6, 2) := by decide +kernel
theorem d_Mod_write_262 : decode b_Mod_write 262 = .ok (.iastore, 1) := by decide +kernel
theorem d_Mod_write_263 : decode b_Mod_write 263 = .ok (.aload_n 0, 1) := by decide +kernel
theorem d_Mod_write_264 : decode b_Mod_write 264 = .ok (.dup, 1) := by decide +kernel
theorem d_Mod_write_265 : decode b_Mod_write 265 = .ok (.getfield 63, 3) := by decide +kernel
theorem d_Mod_write_268 : decode b_Mod_write 268 = .ok (.iconst 1, 1) := by decide +kernel
theorem d_Mod_write_269 : decode b_Mod_write 269 = .ok (.iadd, 1) := by decide +kernel
theorem d_Mod_write_270 : decode b_Mod_write 270 = .ok (.putfield 63, 3) := by decide +kernel
theorem d_Mod_write_273 : decode b_Mod_write 273 = .ok (.iconst 1, 1) := by decide +kernel
theorem d_Mod_write_274 : decode b_Mod_write 274 = .ok (.ireturn, 1) := by decide +kernel
theorem d_Mod_release_0 : decode b_Mod_release 0 = .ok (.aload_n 0, 1) := by decide +kernel
theorem d_Mod_release_1 : decode b_Mod_release 1 = .ok (.getfield 13, 3) := by decide +kernel
theorem d_Mod_release_4 : decode b_Mod_release 4 = .ok (.iload_n 1, 1) := by decide +kernel
theorem d_Mod_release_5 : decode b_Mod_release 5 = .ok (.iaload, 1) := by decide +kernel
theorem d_Mod_release_6 : decode b_Mod_release 6 = .ok (.istore_n 3, 1) := by decide +kernel
theorem d_Mod_release_7 : decode b_Mod_release 7 = .ok (.aload_n 0, 1) := by decide +kernel
theorem d_Mod_release_8 : decode b_Mod_release 8 = .ok (.getfield 13, 3) := by decide +kernel
theorem d_Mod_release_11 : decode b_Mod_release 11 = .ok (.iload_n 1, 1) := by decide +kernel
theorem d_Mod_release_12 : decode b_Mod_release 12 = .ok (.iconst 0, 1) := by decide +kernel
theorem d_Mod_release_13 : decode b_Mod_release 13 = .ok (.iastore, 1) := by decide +kernel
theorem d_Mod_release_14 : decode b_Mod_release 14 = .ok (.aload_n 0, 1) := by decide +kernel
theorem d_Mod_release_15 : decode b_Mod_release 15 = .ok (.getfield 16, 3) := by decide +kernel
theorem d_Mod_release_18 : decode b_Mod_release 18 = .ok (.iload_n 3, 1) := by decide +kernel
theorem d_Mod_release_19 : decode b_Mod_release 19 = .ok (.iconst 0, 1) := by decide +kernel
theorem d_Mod_release_20 : decode b_Mod_release 20 = .ok (.bastore, 1) := by decide +kernel
theorem d_Mod_release_21 : decode b_Mod_release 21 = .ok (.aload_n 0, 1) := by decide +kernel
theorem d_Mod_release_22 : decode b_Mod_release 22 = .ok (.iload_n 3, 1) := by decide +kernel
theorem d_Mod_release_23 : decode b_Mod_release 23 = .ok (.invokevirtual 59, 3) := by decide +kernel
theorem d_Mod_release_26 : decode b_Mod_release 26 = .ok (.aload_n 0, 1) := by decide +kernel
theorem d_Mod_release_27 : decode b_Mod_release 27 = .ok (.invokevirtual 112, 3) := by decide +kernel
theorem d_Mod_release_30 : decode b_Mod_release 30 = .ok (.iconst 0, 1) := by decide +kernel
theorem d_Mod_release_31 : decode b_Mod_release 31 = .ok (.istore 4, 2) := by decide +kernel
theorem d_Mod_release_33 : decode b_Mod_release 33 = .ok (.iconst 0, 1) := by decide +kernel
theorem d_Mod_release_34 : decode b_Mod_release 34 = .ok (.istore 5, 2) := by decide +kernel
theorem d_Mod_release_36 : decode b_Mod_release 36 = .ok (.iload 5, 2) := by decide +kernel
theorem d_Mod_release_38 : decode b_Mod_release 38 = .ok (.aload_n 0, 1) := by decide +kernel
theorem d_Mod_release_39 : decode b_Mod_release 39 = .ok (.getfield 66, 3) := by decide +kernel
theorem d_Mod_release_42 : decode b_Mod_release 42 = .ok (.if_icmp .ge 47, 3) := by decide +kernel
theorem d_Mod_release_45 : decode b_Mod_release 45 = .ok (.iload 4, 2) := by decide +kernel
theorem d_Mod_release_47 : decode b_Mod_release 47 = .ok (.ifCond .ne 29, 3) := by decide +kernel
theorem d_Mod_release_50 : decode b_Mod_release 50 = .ok (.aload_n 0, 1) := by decide +kernel
theorem d_Mod_release_51 : decode b_Mod_release 51 = .ok (.getfield 26, 3) := by decide +kernel
theorem d_Mod_release_54 : decode b_Mod_release 54 = .ok (.bipush 23, 2) := by decide +kernel
theorem d_Mod_release_56 : decode b_Mod_release 56 = .ok (.iload 5, 2) := by decide +kernel
theorem d_Mod_release_58 : decode b_Mod_release 58 = .ok (.imul, 1) := by decide +kernel
theorem d_Mod_release_59 : decode b_Mod_release 59 = .ok (.iload_n 3, 1) := by decide +kernel
theorem d_Mod_release_60 : decode b_Mod_release 60 = .ok (.iadd, 1) := by decide +kernel
theorem d_Mod_release_61 : decode b_Mod_release 61 = .ok (.baload, 1) := by decide +kernel
theorem d_Mod_release_62 : decode b_Mod_release 62 = .ok (.ifCond .eq 18, 3) := by decide +kernel
theorem d_Mod_release_65 : decode b_Mod_release 65 = .ok (.aload_n 0, 1) := by decide +kernel
theorem d_Mod_release_66 : decode b_Mod_release 66 = .ok (.iload 5, 2) := by decide +kernel
theorem d_Mod_release_68 : decode b_Mod_release 68 = .ok (.iload_n 3, 1) := by decide +kernel
theorem d_Mod_release_69 : decode b_Mod_release 69 = .ok (.iconst 1, 1) := by decide +kernel
theorem d_Mod_release_70 : decode b_Mod_release 70 = .ok (.invokevirtual 69, 3) := by decide +kernel
theorem d_Mod_release_73 : decode b_Mod_release 73 = .ok (.ifCond .ne 7, 3) := by decide +kernel
theorem d_Mod_release_76 : decode b_Mod_release 76 = .ok (.iconst 1, 1) := by decide +kernel
theorem d_Mod_release_77 : decode b_Mod_release 77 = .ok (.goto 4, 3) := by decide +kernel
theorem d_Mod_release_80 : decode b_Mod_release 80 = .ok (.iconst 0, 1) := by decide +kernel
theorem d_Mod_release_81 : decode b_Mod_release 81 = .ok (.istore 4, 2) := by decide +kernel
theorem d_Mod_release_83 : decode b_Mod_release 83 = .ok (.iinc 5 1, 3) := by decide +kernel
theorem d_Mod_release_86 : decode b_Mod_release 86 = .ok (.goto (-50), 3) := by decide +kernel
theorem d_Mod_release_89 : decode b_Mod_release 89 = .ok (.iload_n 2, 1) := by decide +kernel
theorem d_Mod_release_90 : decode b_Mod_release 90 = .ok (.ifCond .eq 23, 3) := by decide +kernel
theorem d_Mod_release_93 : decode b_Mod_release 93 = .ok (.aload_n 0, 1) := by decide +kernel
theorem d_Mod_release_94 : decode b_Mod_release 94 = .ok (.getfield 42, 3) := by decide +kernel
theorem d_Mod_release_97 : decode b_Mod_release 97 = .ok (.iconst 2, 1) := by decide +kernel
theorem d_Mod_release_98 : decode b_Mod_release 98 = .ok (.if_icmp .eq 15, 3) := by decide +kernel
theorem d_Mod_release_101 : decode b_Mod_release 101 = .ok (.iload 4, 2) := by decide +kernel
theorem d_Mod_release_103 : decode b_Mod_release 103 = .ok (.ifCond .eq 10, 3) := by decide +kernel
theorem d_Mod_release_106 : decode b_Mod_release 106 = .ok (.aload_n 0, 1) := by decide +kernel
theorem d_Mod_release_107 : decode b_Mod_release 107 = .ok (.getfield 20, 3) := by decide +kernel
theorem d_Mod_release_110 : decode b_Mod_release 110 = .ok (.iload_n 3, 1) := by decide +kernel
theorem d_Mod_release_111 : decode b_Mod_release 111 = .ok (.iconst 1, 1) := by decide +kernel
theorem d_Mod_release_112 : decode b_Mod_release 112 = .ok (.bastore, 1) := by decide +kernel
theorem d_Mod_release_113 : decode b_Mod_release 113 = .ok (.return_, 1) := by decide +kernel
theorem d_Mod_shorten_0 : decode b_Mod_shorten 0 = .ok (.aload_n 0, 1) := by decide +kernel
theorem d_Mod_shorten_1 : decode b_Mod_shorten 1 = .ok (.getfield 13, 3) := by decide +kernel
theorem d_Mod_shorten_4 : decode b_Mod_shorten 4 = .ok (.iconst 4, 1) := by decide +kernel
theorem d_Mod_shorten_5 : decode b_Mod_shorten 5 = .ok (.iload_n 1, 1) := by decide +kernel
theorem d_Mod_shorten_6 : decode b_Mod_shorten 6 = .ok (.imul, 1) := by decide +kernel
theorem d_Mod_shorten_7 : decode b_Mod_shorten 7 = .ok (.iaload, 1) := by decide +kernel
theorem d_Mod_shorten_8 : decode b_Mod_shorten 8 = .ok (.istore_n 3, 1) := by decide +kernel
theorem d_Mod_shorten_9 : decode b_Mod_shorten 9 = .ok (.iconst 0, 1) := by decide +kernel
theorem d_Mod_shorten_10 : decode b_Mod_shorten 10 = .ok (.istore 4, 2) := by decide +kernel
theorem d_Mod_shorten_12 : decode b_Mod_shorten 12 = .ok (.iconst 0, 1) := by decide +kernel
theorem d_Mod_shorten_13 : decode b_Mod_shorten 13 = .ok (.istore 5, 2) := by decide +kernel
theorem d_Mod_shorten_15 : decode b_Mod_shorten 15 = .ok (.iload 5, 2) := by decide +kernel
theorem d_Mod_shorten_17 : decode b_Mod_shorten 17 = .ok (.bipush 6, 2) := by decide +kernel
theorem d_Mod_shorten_19 : decode b_Mod_shorten 19 = .ok (.if_icmp .ge 59, 3) := by decide +kernel
theorem d_Mod_shorten_22 : decode b_Mod_shorten 22 = .ok (.iconst 4, 1) := by decide +kernel
theorem d_Mod_shorten_23 : decode b_Mod_shorten 23 = .ok (.iload 5, 2) := by decide +kernel
theorem d_Mod_shorten_25 : decode b_Mod_shorten 25 = .ok (.imul, 1) := by decide +kernel
theorem d_Mod_shorten_26 : decode b_Mod_shorten 26 = .ok (.iload_n 2, 1) := by decide +kernel
theorem d_Mod_shorten_27 : decode b_Mod_shorten 27 = .ok (.if_icmp .lt 45, 3) := by decide +kernel
theorem d_Mod_shorten_30 : decode b_Mod_shorten 30 = .ok (.iconst 4, 1) := by decide +kernel
theorem d_Mod_shorten_31 : decode b_Mod_shorten 31 = .ok (.iload 5, 2) := by decide +kernel
theorem d_Mod_shorten_33 : decode b_Mod_shorten 33 = .ok (.imul, 1) := by decide +kernel
theorem d_Mod_shorten_34 : decode b_Mod_shorten 34 = .ok (.iload_n 3, 1) := by decide +kernel
theorem d_Mod_shorten_35 : decode b_Mod_shorten 35 = .ok (.if_icmp .ge 37, 3) := by decide +kernel
theorem d_Mod_shorten_38 : decode b_Mod_shorten 38 = .ok (.aload_n 0, 1) := by decide +kernel
theorem d_Mod_shorten_39 : decode b_Mod_shorten 39 = .ok (.iload_n 1, 1) := by decide +kernel
theorem d_Mod_shorten_40 : decode b_Mod_shorten 40 = .ok (.iload 5, 2) := by decide +kernel
theorem d_Mod_shorten_42 : decode b_Mod_shorten 42 = .ok (.invokevirtual 115, 3) := by decide +kernel
theorem d_Mod_shorten_45 : decode b_Mod_shorten 45 = .ok (.istore 6, 2) := by decide +kernel
theorem d_Mod_shorten_47 : decode b_Mod_shorten 47 = .ok (.aload_n 0, 1) := by decide +kernel
theorem d_Mod_shorten_48 : decode b_Mod_shorten 48 = .ok (.iload 6, 2) := by decide +kernel
theorem d_Mod_shorten_50 : decode b_Mod_shorten 50 = .ok (.iconst 0, 1) := by decide +kernel
theorem d_Mod_shorten_51 : decode b_Mod_shorten 51 = .ok (.invokevirtual 119, 3) := by decide +kernel
theorem d_Mod_shorten_54 : decode b_Mod_shorten 54 = .ok (.iload 4, 2) := by decide +kernel
theorem d_Mod_shorten_56 : decode b_Mod_shorten 56 = .ok (.ifCond .ne 9, 3) := by decide +kernel
theorem d_Mod_shorten_59 : decode b_Mod_shorten 59 = .ok (.iload 5, 2) := by decide +kernel
theorem d_Mod_shorten_61 : decode b_Mod_shorten 61 = .ok (.iconst 1, 1) := by decide +kernel
theorem d_Mod_shorten_62 : decode b_Mod_shorten 62 = .ok (.if_icmp .le 7, 3) := by decide +kernel
theorem d_Mod_shorten_65 : decode b_Mod_shorten 65 = .ok (.iconst 1, 1) := by decide +kernel
theorem d_Mod_shorten_66 : decode b_Mod_shorten 66 = .ok (.goto 4, 3) := by decide +kernel
theorem d_Mod_shorten_69 : decode b_Mod_shorten 69 = .ok (.iconst 0, 1) := by decide +kernel
theorem d_Mod_shorten_70 : decode b_Mod_shorten 70 = .ok (.istore 4, 2) := by decide +kernel
theorem d_Mod_shorten_72 : decode b_Mod_shorten 72 = .ok (.iinc 5 1, 3) := by decide +kernel
theorem d_Mod_shorten_75 : decode b_Mod_shorten 75 = .ok (.goto (-60), 3) := by decide +kernel
theorem d_Mod_shorten_78 : decode b_Mod_shorten 78 = .ok (.iload_n 3, 1) := by decide +kernel
theorem d_Mod_shorten_79 : decode b_Mod_shorten 79 = .ok (.bipush 8, 2) := by decide +kernel
theorem d_Mod_shorten_81 : decode b_Mod_shorten 81 = .ok (.if_icmp .le 22, 3) := by decide +kernel
theorem d_Mod_shorten_84 : decode b_Mod_shorten 84 = .ok (.iload_n 2, 1) := by decide +kernel
theorem d_Mod_shorten_85 : decode b_Mod_shorten 85 = .ok (.bipush 8, 2) := by decide +kernel
theorem d_Mod_shorten_87 : decode b_Mod_shorten 87 = .ok (.if_icmp .gt 16, 3) := by decide +kernel
theorem d_Mod_shorten_90 : decode b_Mod_shorten 90 = .ok (.aload_n 0, 1) := by decide +kernel
theorem d_Mod_shorten_91 : decode b_Mod_shorten 91 = .ok (.iconst 4, 1) := by decide +kernel
theorem d_Mod_shorten_92 : decode b_Mod_shorten 92 = .ok (.iload_n 1, 1) := by decide +kernel
theorem d_Mod_shorten_93 : decode b_Mod_shorten 93 = .ok (.imul, 1) := by decide +kernel
theorem d_Mod_shorten_94 : decode b_Mod_shorten 94 = .ok (.iconst 3, 1) := by decide +kernel
theorem d_Mod_shorten_95 : decode b_Mod_shorten 95 = .ok (.iadd, 1) := by decide +kernel
theorem d_Mod_shorten_96 : decode b_Mod_shorten 96 = .ok (.iconst 1, 1) := by decide +kernel
theorem d_Mod_shorten_97 : decode b_Mod_shorten 97 = .ok (.invokevirtual 119, 3) := by decide +kernel
theorem d_Mod_shorten_100 : decode b_Mod_shorten 100 = .ok (.goto 24, 3) := by decide +kernel
theorem d_Mod_shorten_103 : decode b_Mod_shorten 103 = .ok (.iload 4, 2) := by decide +kernel
theorem d_Mod_shorten_105 : decode b_Mod_shorten 105 = .ok (.ifCond .eq 19, 3) := by decide +kernel
theorem d_Mod_shorten_108 : decode b_Mod_shorten 108 = .ok (.aload_n 0, 1) := by decide +kernel
theorem d_Mod_shorten_109 : decode b_Mod_shorten 109 = .ok (.getfield 16, 3) := by decide +kernel
theorem d_Mod_shorten_112 : decode b_Mod_shorten 112 = .ok (.aload_n 0, 1) := by decide +kernel
theorem d_Mod_shorten_113 : decode b_Mod_shorten 113 = .ok (.getfield 13, 3) := by decide +kernel
theorem d_Mod_shorten_116 : decode b_Mod_shorten 116 = .ok (.iconst 4, 1) := by decide +kernel
theorem d_Mod_shorten_117 : decode b_Mod_shorten 117 = .ok (.iload_n 1, 1) := by decide +kernel
theorem d_Mod_shorten_118 : decode b_Mod_shorten 118 = .ok (.imul, 1) := by decide +kernel
theorem d_Mod_shorten_119 : decode b_Mod_shorten 119 = .ok (.iconst 3, 1) := by decide +kernel
theorem d_Mod_shorten_120 : decode b_Mod_shorten 120 = .ok (.iadd, 1) := by decide +kernel
theorem d_Mod_shorten_121 : decode b_Mod_shorten 121 = .ok (.iaload, 1) := by decide +kernel
theorem d_Mod_shorten_122 : decode b_Mod_shorten 122 = .ok (.iconst 1, 1) := by decide +kernel
theorem d_Mod_shorten_123 : decode b_Mod_shorten 123 = .ok (.bastore, 1) := by decide +kernel
theorem d_Mod_shorten_124 : decode b_Mod_shorten 124 = .ok (.aload_n 0, 1) := by decide +kernel
theorem d_Mod_shorten_125 : decode b_Mod_shorten 125 = .ok (.getfield 13, 3) := by decide +kernel
theorem d_Mod_shorten_128 : decode b_Mod_shorten 128 = .ok (.iconst 4, 1) := by decide +kernel
theorem d_Mod_shorten_129 : decode b_Mod_shorten 129 = .ok (.iload_n 1, 1) := by decide +kernel
theorem d_Mod_shorten_130 : decode b_Mod_shorten 130 = .ok (.imul, 1) := by decide +kernel
theorem d_Mod_shorten_131 : decode b_Mod_shorten 131 = .ok (.iload_n 2, 1) := by decide +kernel
theorem d_Mod_shorten_132 : decode b_Mod_shorten 132 = .ok (.iastore, 1) := by decide +kernel
theorem d_Mod_shorten_133 : decode b_Mod_shorten 133 = .ok (.aload_n 0, 1) := by decide +kernel
theorem d_Mod_shorten_134 : decode b_Mod_shorten 134 = .ok (.getfield 16, 3) := by decide +kernel
theorem d_Mod_shorten_137 : decode b_Mod_shorten 137 = .ok (.iload_n 1, 1) := by decide +kernel
theorem d_Mod_shorten_138 : decode b_Mod_shorten 138 = .ok (.iconst 1, 1) := by decide +kernel
theorem d_Mod_shorten_139 : decode b_Mod_shorten 139 = .ok (.bastore, 1) := by decide +kernel
theorem d_Mod_shorten_140 : decode b_Mod_shorten 140 = .ok (.return_, 1) := by decide +kernel
theorem d_Mod_cut_0 : decode b_Mod_cut 0 = .ok (.aload_n 0, 1) := by decide +kernel
theorem d_Mod_cut_1 : decode b_Mod_cut 1 = .ok (.getfield 38, 3) := by decide +kernel
theorem d_Mod_cut_4 : decode b_Mod_cut 4 = .ok (.ifCond .eq 33, 3) := by decide +kernel
theorem d_Mod_cut_7 : decode b_Mod_cut 7 = .ok (.iload_n 1, 1) := by decide +kernel
theorem d_Mod_cut_8 : decode b_Mod_cut 8 = .ok (.invokestatic 123, 3) := by decide +kernel
theorem d_Mod_cut_11 : decode b_Mod_cut 11 = .ok (.ifCond .eq 26, 3) := by decide +kernel
theorem d_Mod_cut_14 : decode b_Mod_cut 14 = .ok (.iload_n 2, 1) := by decide +kernel
theorem d_Mod_cut_15 : decode b_Mod_cut 15 = .ok (.ifCond .lt 22, 3) := by decide +kernel
theorem d_Mod_cut_18 : decode b_Mod_cut 18 = .ok (.iload_n 2, 1) := by decide +kernel
theorem d_Mod_cut_19 : decode b_Mod_cut 19 = .ok (.aload_n 0, 1) := by decide +kernel
theorem d_Mod_cut_20 : decode b_Mod_cut 20 = .ok (.getfield 13, 3) := by decide +kernel
theorem d_Mod_cut_23 : decode b_Mod_cut 23 = .ok (.iconst 4, 1) := by decide +kernel
theorem d_Mod_cut_24 : decode b_Mod_cut 24 = .ok (.iload_n 1, 1) := by decide +kernel
theorem d_Mod_cut_25 : decode b_Mod_cut 25 = .ok (.imul, 1) := by decide +kernel
theorem d_Mod_cut_26 : decode b_Mod_cut 26 = .ok (.iaload, 1) := by decide +kernel
theorem d_Mod_cut_27 : decode b_Mod_cut 27 = .ok (.if_icmp .ge 10, 3) := by decide +kernel
theorem d_Mod_cut_30 : decode b_Mod_cut 30 = .ok (.aload_n 0, 1) := by decide +kernel
theorem d_Mod_cut_31 : decode b_Mod_cut 31 = .ok (.invokevirtual 129, 3) := by decide +kernel
theorem d_Mod_cut_34 : decode b_Mod_cut 34 = .ok (.ifCond .ne 5, 3) := by decide +kernel
theorem d_Mod_cut_37 : decode b_Mod_cut 37 = .ok (.iconst 0, 1) := by decide +kernel
theorem d_Mod_cut_38 : decode b_Mod_cut 38 = .ok (.ireturn, 1) := by decide +kernel
theorem d_Mod_cut_39 : decode b_Mod_cut 39 = .ok (.aload_n 0, 1) := by decide +kernel
theorem d_Mod_cut_40 : decode b_Mod_cut 40 = .ok (.iload_n 1, 1) := by decide +kernel
theorem d_Mod_cut_41 : decode b_Mod_cut 41 = .ok (.iload_n 2, 1) := by decide +kernel
theorem d_Mod_cut_42 : decode b_Mod_cut 42 = .ok (.invokevirtual 139, 3) := by decide +kernel
theorem d_Mod_cut_45 : decode b_Mod_cut 45 = .ok (.iconst 1, 1) := by decide +kernel
theorem d_Mod_cut_46 : decode b_Mod_cut 46 = .ok (.ireturn, 1) := by decide +kernel
theorem d_Mod_rename_0 : decode b_Mod_rename 0 = .ok (.aload_n 0, 1) := by decide +kernel
theorem d_Mod_rename_1 : decode b_Mod_rename 1 = .ok (.getfield 38, 3) := by decide +kernel
theorem d_Mod_rename_4 : decode b_Mod_rename 4 = .ok (.ifCond .eq 29, 3) := by decide +kernel
theorem d_Mod_rename_7 : decode b_Mod_rename 7 = .ok (.iload_n 1, 1) := by decide +kernel
theorem d_Mod_rename_8 : decode b_Mod_rename 8 = .ok (.invokestatic 123, 3) := by decide +kernel
theorem d_Mod_rename_11 : decode b_Mod_rename 11 = .ok (.ifCond .eq 22, 3) := by decide +kernel
theorem d_Mod_rename_14 : decode b_Mod_rename 14 = .ok (.iload_n 2, 1) := by decide +kernel
theorem d_Mod_rename_15 : decode b_Mod_rename 15 = .ok (.invokestatic 123, 3) := by decide +kernel
theorem d_Mod_rename_18 : decode b_Mod_rename 18 = .ok (.ifCond .eq 15, 3) := by decide +kernel
theorem d_Mod_rename_21 : decode b_Mod_rename 21 = .ok (.iload_n 1, 1) := by decide +kernel
theorem d_Mod_rename_22 : decode b_Mod_rename 22 = .ok (.iload_n 2, 1) := by decide +kernel
theorem d_Mod_rename_23 : decode b_Mod_rename 23 = .ok (.if_icmp .eq 10, 3) := by decide +kernel
theorem d_Mod_rename_26 : decode b_Mod_rename 26 = .ok (.aload_n 0, 1) := by decide +kernel
theorem d_Mod_rename_27 : decode b_Mod_rename 27 = .ok (.invokevirtual 129, 3) := by decide +kernel
theorem d_Mod_rename_30 : decode b_Mod_rename 30 = .ok (.ifCond .ne 5, 3) := by decide +kernel
theorem d_Mod_rename_33 : decode b_Mod_rename 33 = .ok (.iconst 0, 1) := by decide +kernel
theorem d_Mod_rename_34 : decode b_Mod_rename 34 = .ok (.ireturn, 1) := by decide +kernel
theorem d_Mod_rename_35 : decode b_Mod_rename 35 = .ok (.aload_n 0, 1) := by decide +kernel
theorem d_Mod_rename_36 : decode b_Mod_rename 36 = .ok (.iload_n 2, 1) := by decide +kernel
theorem d_Mod_rename_37 : decode b_Mod_rename 37 = .ok (.iconst 0, 1) := by decide +kernel
theorem d_Mod_rename_38 : decode b_Mod_rename 38 = .ok (.invokevirtual 139, 3) := by decide +kernel
theorem d_Mod_rename_41 : decode b_Mod_rename 41 = .ok (.iconst 0, 1) := by decide +kernel
theorem d_Mod_rename_42 : decode b_Mod_rename 42 = .ok (.istore_n 3, 1) := by decide +kernel
theorem d_Mod_rename_43 : decode b_Mod_rename 43 = .ok (.iload_n 3, 1) := by decide +kernel
theorem d_Mod_rename_44 : decode b_Mod_rename 44 = .ok (.iconst 4, 1) := by decide +kernel
theorem d_Mod_rename_45 : decode b_Mod_rename 45 = .ok (.if_icmp .ge 40, 3) := by decide +kernel
theorem d_Mod_rename_48 : decode b_Mod_rename 48 = .ok (.aload_n 0, 1) := by decide +kernel
theorem d_Mod_rename_49 : decode b_Mod_rename 49 = .ok (.getfield 13, 3) := by decide +kernel
theorem d_Mod_rename_52 : decode b_Mod_rename 52 = .ok (.iconst 4, 1) := by decide +kernel
theorem d_Mod_rename_53 : decode b_Mod_rename 53 = .ok (.iload_n 2, 1) := by decide +kernel
theorem d_Mod_rename_54 : decode b_Mod_rename 54 = .ok (.imul, 1) := by decide +kernel
theorem d_Mod_rename_55 : decode b_Mod_rename 55 = .ok (.iload_n 3, 1) := by decide +kernel
theorem d_Mod_rename_56 : decode b_Mod_rename 56 = .ok (.iadd, 1) := by decide +kernel
theorem d_Mod_rename_57 : decode b_Mod_rename 57 = .ok (.aload_n 0, 1) := by decide +kernel
theorem d_Mod_rename_58 : decode b_Mod_rename 58 = .ok (.getfield 13, 3) := by decide +kernel
theorem d_Mod_rename_61 : decode b_Mod_rename 61 = .ok (.iconst 4, 1) := by decide +kernel
theorem d_Mod_rename_62 : decode b_Mod_rename 62 = .ok (.iload_n 1, 1) := by decide +kernel
theorem d_Mod_rename_63 : decode b_Mod_rename 63 = .ok (.imul, 1) := by decide +kernel
theorem d_Mod_rename_64 : decode b_Mod_rename 64 = .ok (.iload_n 3, 1) := by decide +kernel
theorem d_Mod_rename_65 : decode b_Mod_rename 65 = .ok (.iadd, 1) := by decide +kernel
theorem d_Mod_rename_66 : decode b_Mod_rename 66 = .ok (.iaload, 1) := by decide +kernel
theorem d_Mod_rename_67 : decode b_Mod_rename 67 = .ok (.iastore, 1) := by decide +kernel
theorem d_Mod_rename_68 : decode b_Mod_rename 68 = .ok (.aload_n 0, 1) := by decide +kernel
theorem d_Mod_rename_69 : decode b_Mod_rename 69 = .ok (.getfield 13, 3) := by decide +kernel
theorem d_Mod_rename_72 : decode b_Mod_rename 72 = .ok (.iconst 4, 1) := by decide +kernel
theorem d_Mod_rename_73 : decode b_Mod_rename 73 = .ok (.iload_n 1, 1) := by decide +kernel
theorem d_Mod_rename_74 : decode b_Mod_rename 74 = .ok (.imul, 1) := by decide +kernel
theorem d_Mod_rename_75 : decode b_Mod_rename 75 = .ok (.iload_n 3, 1) := by decide +kernel
theorem d_Mod_rename_76 : decode b_Mod_rename 76 = .ok (.iadd, 1) := by decide +kernel
theorem d_Mod_rename_77 : decode b_Mod_rename 77 = .ok (.iconst 0, 1) := by decide +kernel
theorem d_Mod_rename_78 : decode b_Mod_rename 78 = .ok (.iastore, 1) := by decide +kernel
theorem d_Mod_rename_79 : decode b_Mod_rename 79 = .ok (.iinc 3 1, 3) := by decide +kernel
theorem d_Mod_rename_82 : decode b_Mod_rename 82 = .ok (.goto (-39), 3) := by decide +kernel
theorem d_Mod_rename_85 : decode b_Mod_rename 85 = .ok (.aload_n 0, 1) := by decide +kernel
theorem d_Mod_rename_86 : decode b_Mod_rename 86 = .ok (.getfield 16, 3) := by decide +kernel
theorem d_Mod_rename_89 : decode b_Mod_rename 89 = .ok (.iload_n 1, 1) := by decide +kernel
theorem d_Mod_rename_90 : decode b_Mod_rename 90 = .ok (.iconst 1, 1) := by decide +kernel
theorem d_Mod_rename_91 : decode b_Mod_rename 91 = .ok (.bastore, 1) := by decide +kernel
theorem d_Mod_rename_92 : decode b_Mod_rename 92 = .ok (.iconst 1, 1) := by decide +kernel
theorem d_Mod_rename_93 : decode b_Mod_rename 93 = .ok (.ireturn, 1) := by decide +kernel
theorem d_Mod_read_0 : decode b_Mod_read 0 = .ok (.aload_n 0, 1) := by decide +kernel
theorem d_Mod_read_1 : decode b_Mod_read 1 = .ok (.getfield 38, 3) := by decide +kernel
theorem d_Mod_read_4 : decode b_Mod_read 4 = .ok (.ifCond .eq 26, 3) := by decide +kernel
theorem d_Mod_read_7 : decode b_Mod_read 7 = .ok (.iload_n 1, 1) := by decide +kernel
theorem d_Mod_read_8 : decode b_Mod_read 8 = .ok (.invokestatic 123, 3) := by decide +kernel
theorem d_Mod_read_11 : decode b_Mod_read 11 = .ok (.ifCond .eq 19, 3) := by decide +kernel
theorem d_Mod_read_14 : decode b_Mod_read 14 = .ok (.iload_n 2, 1) := by decide +kernel
theorem d_Mod_read_15 : decode b_Mod_read 15 = .ok (.ifCond .lt 15, 3) := by decide +kernel
theorem d_Mod_read_18 : decode b_Mod_read 18 = .ok (.iload_n 2, 1) := by decide +kernel
theorem d_Mod_read_19 : decode b_Mod_read 19 = .ok (.aload_n 0, 1) := by decide +kernel
theorem d_Mod_read_20 : decode b_Mod_read 20 = .ok (.getfield 13, 3) := by decide +kernel
theorem d_Mod_read_23 : decode b_Mod_read 23 = .ok (.iconst 4, 1) := by decide +kernel
theorem d_Mod_read_24 : decode b_Mod_read 24 = .ok (.iload_n 1, 1) := by decide +kernel
theorem d_Mod_read_25 : decode b_Mod_read 25 = .ok (.imul, 1) := by decide +kernel
theorem d_Mod_read_26 : decode b_Mod_read 26 = .ok (.iaload, 1) := by decide +kernel
theorem d_Mod_read_27 : decode b_Mod_read 27 = .ok (.if_icmp .lt 5, 3) := by decide +kernel
theorem d_Mod_read_30 : decode b_Mod_read 30 = .ok (.iconst 0, 1) := by decide +kernel
theorem d_Mod_read_31 : decode b_Mod_read 31 = .ok (.ireturn, 1) := by decide +kernel
theorem d_Mod_read_32 : decode b_Mod_read 32 = .ok (.aload_n 0, 1) := by decide +kernel
theorem d_Mod_read_33 : decode b_Mod_read 33 = .ok (.getfield 13, 3) := by decide +kernel
theorem d_Mod_read_36 : decode b_Mod_read 36 = .ok (.aload_n 0, 1) := by decide +kernel
theorem d_Mod_read_37 : decode b_Mod_read 37 = .ok (.iload_n 1, 1) := by decide +kernel
theorem d_Mod_read_38 : decode b_Mod_read 38 = .ok (.iload_n 2, 1) := by decide +kernel
theorem d_Mod_read_39 : decode b_Mod_read 39 = .ok (.iconst 4, 1) := by decide +kernel
theorem d_Mod_read_40 : decode b_Mod_read 40 = .ok (.idiv, 1) := by decide +kernel
theorem d_Mod_read_41 : decode b_Mod_read 41 = .ok (.invokevirtual 115, 3) := by decide +kernel
theorem d_Mod_read_44 : decode b_Mod_read 44 = .ok (.iaload, 1) := by decide +kernel
theorem d_Mod_read_45 : decode b_Mod_read 45 = .ok (.istore_n 3, 1) := by decide +kernel
theorem d_Mod_read_46 : decode b_Mod_read 46 = .ok (.aload_n 0, 1) := by decide +kernel
theorem d_Mod_read_47 : decode b_Mod_read 47 = .ok (.getfield 13, 3) := by decide +kernel
theorem d_Mod_read_50 : decode b_Mod_read 50 = .ok (.iconst 4, 1) := by decide +kernel
theorem d_Mod_read_51 : decode b_Mod_read 51 = .ok (.iload_n 3, 1) := by decide +kernel
theorem d_Mod_read_52 : decode b_Mod_read 52 = .ok (.imul, 1) := by decide +kernel
theorem d_Mod_read_53 : decode b_Mod_read 53 = .ok (.iload_n 2, 1) := by decide +kernel
theorem d_Mod_read_54 : decode b_Mod_read 54 = .ok (.iconst 4, 1) := by decide +kernel
theorem d_Mod_read_55 : decode b_Mod_read 55 = .ok (.irem, 1) := by decide +kernel
theorem d_Mod_read_56 : decode b_Mod_read 56 = .ok (.iadd, 1) := by decide +kernel
theorem d_Mod_read_57 : decode b_Mod_read 57 = .ok (.iaload, 1) := by decide +kernel
theorem d_Mod_read_58 : decode b_Mod_read 58 = .ok (.ireturn, 1) := by decide +kernel
theorem d_Mod_length_0 : decode b_Mod_length 0 = .ok (.aload_n 0, 1) := by decide +kernel
theorem d_Mod_length_1 : decode b_Mod_length 1 = .ok (.getfield 38, 3) := by decide +kernel
theorem d_Mod_length_4 : decode b_Mod_length 4 = .ok (.ifCond .eq 21, 3) := by decide +kernel
theorem d_Mod_length_7 : decode b_Mod_length 7 = .ok (.iload_n 1, 1) := by decide +kernel
theorem d_Mod_length_8 : decode b_Mod_length 8 = .ok (.invokestatic 123, 3) := by decide +kernel
theorem d_Mod_length_11 : decode b_Mod_length 11 = .ok (.ifCond .eq 14, 3) := by decide +kernel
theorem d_Mod_length_14 : decode b_Mod_length 14 = .ok (.aload_n 0, 1) := by decide +kernel
theorem d_Mod_length_15 : decode b_Mod_length 15 = .ok (.getfield 13, 3) := by decide +kernel
theorem d_Mod_length_18 : decode b_Mod_length 18 = .ok (.iconst 4, 1) := by decide +kernel
theorem d_Mod_length_19 : decode b_Mod_length 19 = .ok (.iload_n 1, 1) := by decide +kernel
theorem d_Mod_length_20 : decode b_Mod_length 20 = .ok (.imul, 1) := by decide +kernel
theorem d_Mod_length_21 : decode b_Mod_length 21 = .ok (.iaload, 1) := by decide +kernel
theorem d_Mod_length_22 : decode b_Mod_length 22 = .ok (.goto 4, 3) := by decide +kernel
theorem d_Mod_length_25 : decode b_Mod_length 25 = .ok (.iconst (-1), 1) := by decide +kernel
theorem d_Mod_length_26 : decode b_Mod_length 26 = .ok (.ireturn, 1) := by decide +kernel
theorem d_Mod_commit_0 : decode b_Mod_commit 0 = .ok (.aload_n 0, 1) := by decide +kernel
theorem d_Mod_commit_1 : decode b_Mod_commit 1 = .ok (.getfield 38, 3) := by decide +kernel
theorem d_Mod_commit_4 : decode b_Mod_commit 4 = .ok (.ifCond .eq 10, 3) := by decide +kernel
theorem d_Mod_commit_7 : decode b_Mod_commit 7 = .ok (.aload_n 0, 1) := by decide +kernel
theorem d_Mod_commit_8 : decode b_Mod_commit 8 = .ok (.invokevirtual 103, 3) := by decide +kernel
theorem d_Mod_commit_11 : decode b_Mod_commit 11 = .ok (.goto 4, 3) := by decide +kernel
theorem d_Mod_commit_14 : decode b_Mod_commit 14 = .ok (.iconst (-1), 1) := by decide +kernel
theorem d_Mod_commit_15 : decode b_Mod_commit 15 = .ok (.ireturn, 1) := by decide +kernel
theorem d_Mod_owns_0 : decode b_Mod_owns 0 = .ok (.iconst 0, 1) := by decide +kernel
theorem d_Mod_owns_1 : decode b_Mod_owns 1 = .ok (.istore_n 3, 1) := by decide +kernel
theorem d_Mod_owns_2 : decode b_Mod_owns 2 = .ok (.iload_n 3, 1) := by decide +kernel
theorem d_Mod_owns_3 : decode b_Mod_owns 3 = .ok (.bipush 6, 2) := by decide +kernel
theorem d_Mod_owns_5 : decode b_Mod_owns 5 = .ok (.if_icmp .ge 40, 3) := by decide +kernel
theorem d_Mod_owns_8 : decode b_Mod_owns 8 = .ok (.iconst 4, 1) := by decide +kernel
theorem d_Mod_owns_9 : decode b_Mod_owns 9 = .ok (.iload_n 3, 1) := by decide +kernel
theorem d_Mod_owns_10 : decode b_Mod_owns 10 = .ok (.imul, 1) := by decide +kernel
theorem d_Mod_owns_11 : decode b_Mod_owns 11 = .ok (.aload_n 0, 1) := by decide +kernel
theorem d_Mod_owns_12 : decode b_Mod_owns 12 = .ok (.getfield 13, 3) := by decide +kernel
theorem d_Mod_owns_15 : decode b_Mod_owns 15 = .ok (.iconst 4, 1) := by decide +kernel
theorem d_Mod_owns_16 : decode b_Mod_owns 16 = .ok (.iload_n 1, 1) := by decide +kernel
theorem d_Mod_owns_17 : decode b_Mod_owns 17 = .ok (.imul, 1) := by decide +kernel
theorem d_Mod_owns_18 : decode b_Mod_owns 18 = .ok (.iaload, 1) := by decide +kernel
theorem d_Mod_owns_19 : decode b_Mod_owns 19 = .ok (.if_icmp .ge 20, 3) := by decide +kernel
theorem d_Mod_owns_22 : decode b_Mod_owns 22 = .ok (.aload_n 0, 1) := by decide +kernel
theorem d_Mod_owns_23 : decode b_Mod_owns 23 = .ok (.getfield 13, 3) := by decide +kernel
theorem d_Mod_owns_26 : decode b_Mod_owns 26 = .ok (.aload_n 0, 1) := by decide +kernel
theorem d_Mod_owns_27 : decode b_Mod_owns 27 = .ok (.iload_n 1, 1) := by decide +kernel
theorem d_Mod_owns_28 : decode b_Mod_owns 28 = .ok (.iload_n 3, 1) := by decide +kernel
theorem d_Mod_owns_29 : decode b_Mod_owns 29 = .ok (.invokevirtual 115, 3) := by decide +kernel
theorem d_Mod_owns_32 : decode b_Mod_owns 32 = .ok (.iaload, 1) := by decide +kernel
theorem d_Mod_owns_33 : decode b_Mod_owns 33 = .ok (.iload_n 2, 1) := by decide +kernel
theorem d_Mod_owns_34 : decode b_Mod_owns 34 = .ok (.if_icmp .ne 5, 3) := by decide +kernel
theorem d_Mod_owns_37 : decode b_Mod_owns 37 = .ok (.iconst 1, 1) := by decide +kernel
theorem d_Mod_owns_38 : decode b_Mod_owns 38 = .ok (.ireturn, 1) := by decide +kernel
theorem d_Mod_owns_39 : decode b_Mod_owns 39 = .ok (.iinc 3 1, 3) := by decide +kernel
theorem d_Mod_owns_42 : decode b_Mod_owns 42 = .ok (.goto (-40), 3) := by decide +kernel
theorem d_Mod_owns_45 : decode b_Mod_owns 45 = .ok (.iconst 0, 1) := by decide +kernel
theorem d_Mod_owns_46 : decode b_Mod_owns 46 = .ok (.ireturn, 1) := by decide +kernel
theorem d_Mod_sync_0 : decode b_Mod_sync 0 = .ok (.aload_n 0, 1) := by decide +kernel
theorem d_Mod_sync_1 : decode b_Mod_sync 1 = .ok (.getfield 38, 3) := by decide +kernel
theorem d_Mod_sync_4 : decode b_Mod_sync 4 = .ok (.ifCond .eq 10, 3) := by decide +kernel
theorem d_Mod_sync_7 : decode b_Mod_sync 7 = .ok (.iload_n 1, 1) := by decide +kernel
theorem d_Mod_sync_8 : decode b_Mod_sync 8 = .ok (.invokestatic 123, 3) := by decide +kernel
theorem d_Mod_sync_11 : decode b_Mod_sync 11 = .ok (.ifCond .ne 5, 3) := by decide +kernel
theorem d_Mod_sync_14 : decode b_Mod_sync 14 = .ok (.iconst 0, 1) := by decide +kernel
theorem d_Mod_sync_15 : decode b_Mod_sync 15 = .ok (.ireturn, 1) := by decide +kernel
theorem d_Mod_sync_16 : decode b_Mod_sync 16 = .ok (.iconst 0, 1) := by decide +kernel
theorem d_Mod_sync_17 : decode b_Mod_sync 17 = .ok (.istore_n 2, 1) := by decide +kernel
theorem d_Mod_sync_18 : decode b_Mod_sync 18 = .ok (.aload_n 0, 1) := by decide +kernel
theorem d_Mod_sync_19 : decode b_Mod_sync 19 = .ok (.getfield 42, 3) := by decide +kernel
theorem d_Mod_sync_22 : decode b_Mod_sync 22 = .ok (.ifCond .ne 41, 3) := by decide +kernel
theorem d_Mod_sync_25 : decode b_Mod_sync 25 = .ok (.iload_n 2, 1) := by decide +kernel
theorem d_Mod_sync_26 : decode b_Mod_sync 26 = .ok (.aload_n 0, 1) := by decide +kernel
theorem d_Mod_sync_27 : decode b_Mod_sync 27 = .ok (.getfield 63, 3) := by decide +kernel
theorem d_Mod_sync_30 : decode b_Mod_sync 30 = .ok (.if_icmp .ge 33, 3) := by decide +kernel
theorem d_Mod_sync_33 : decode b_Mod_sync 33 = .ok (.aload_n 0, 1) := by decide +kernel
theorem d_Mod_sync_34 : decode b_Mod_sync 34 = .ok (.iload_n 1, 1) := by decide +kernel
theorem d_Mod_sync_35 : decode b_Mod_sync 35 = .ok (.aload_n 0, 1) := by decide +kernel
theorem d_Mod_sync_36 : decode b_Mod_sync 36 = .ok (.getfield 23, 3) := by decide +kernel
theorem d_Mod_sync_39 : decode b_Mod_sync 39 = .ok (.iload_n 2, 1) := by decide +kernel
theorem d_Mod_sync_40 : decode b_Mod_sync 40 = .ok (.iaload, 1) := by decide +kernel
theorem d_Mod_sync_41 : decode b_Mod_sync 41 = .ok (.invokevirtual 143, 3) := by decide +kernel
theorem d_Mod_sync_44 : decode b_Mod_sync 44 = .ok (.ifCond .ne 9, 3) := by decide +kernel
theorem d_Mod_sync_47 : decode b_Mod_sync 47 = .ok (.iinc 2 1, 3) := by decide +kernel
theorem d_Mod_sync_50 : decode b_Mod_sync 50 = .ok (.goto (-32), 3) := by decide +kernel
theorem d_Mod_sync_53 : decode b_Mod_sync 53 = .ok (.aload_n 0, 1) := by decide +kernel
theorem d_Mod_sync_54 : decode b_Mod_sync 54 = .ok (.iload_n 2, 1) := by decide +kernel
theorem d_Mod_sync_55 : decode b_Mod_sync 55 = .ok (.invokevirtual 80, 3) := by decide +kernel
theorem d_Mod_sync_58 : decode b_Mod_sync 58 = .ok (.ifCond .ne (-40), 3) := by decide +kernel
theorem d_Mod_sync_61 : decode b_Mod_sync 61 = .ok (.iconst 0, 1) := by decide +kernel
theorem d_Mod_sync_62 : decode b_Mod_sync 62 = .ok (.ireturn, 1) := by decide +kernel
theorem d_Mod_sync_63 : decode b_Mod_sync 63 = .ok (.aload_n 0, 1) := by decide +kernel
theorem d_Mod_sync_64 : decode b_Mod_sync 64 = .ok (.invokevirtual 103, 3) := by decide +kernel
theorem d_Mod_sync_67 : decode b_Mod_sync 67 = .ok (.bipush (-2), 2) := by decide +kernel
theorem d_Mod_sync_69 : decode b_Mod_sync 69 = .ok (.if_icmp .eq 7, 3) := by decide +kernel
theorem d_Mod_sync_72 : decode b_Mod_sync 72 = .ok (.iconst 1, 1) := by decide +kernel
theorem d_Mod_sync_73 : decode b_Mod_sync 73 = .ok (.goto 4, 3) := by decide +kernel
theorem d_Mod_sync_76 : decode b_Mod_sync 76 = .ok (.iconst 0, 1) := by decide +kernel
theorem d_Mod_sync_77 : decode b_Mod_sync 77 = .ok (.ireturn, 1) := by decide +kernel
theorem d_Mod_flush_0 : decode b_Mod_flush 0 = .ok (.aload_n 0, 1) := by decide +kernel
theorem d_Mod_flush_1 : decode b_Mod_flush 1 = .ok (.getfield 38, 3) := by decide +kernel
theorem d_Mod_flush_4 : decode b_Mod_flush 4 = .ok (.ifCond .eq 8, 3) := by decide +kernel
theorem d_Mod_flush_7 : decode b_Mod_flush 7 = .ok (.iload_n 1, 1) := by decide +kernel
theorem d_Mod_flush_8 : decode b_Mod_flush 8 = .ok (.iconst 1, 1) := by decide +kernel
theorem d_Mod_flush_9 : decode b_Mod_flush 9 = .ok (.if_icmp .ge 5, 3) := by decide +kernel
theorem d_Mod_flush_12 : decode b_Mod_flush 12 = .ok (.iconst (-1), 1) := by decide +kernel
theorem d_Mod_flush_13 : decode b_Mod_flush 13 = .ok (.ireturn, 1) := by decide +kernel
theorem d_Mod_flush_14 : decode b_Mod_flush 14 = .ok (.iconst 0, 1) := by decide +kernel
theorem d_Mod_flush_15 : decode b_Mod_flush 15 = .ok (.istore_n 2, 1) := by decide +kernel
theorem d_Mod_flush_16 : decode b_Mod_flush 16 = .ok (.iload_n 2, 1) := by decide +kernel
theorem d_Mod_flush_17 : decode b_Mod_flush 17 = .ok (.iload_n 1, 1) := by decide +kernel
theorem d_Mod_flush_18 : decode b_Mod_flush 18 = .ok (.if_icmp .ge 27, 3) := by decide +kernel
theorem d_Mod_flush_21 : decode b_Mod_flush 21 = .ok (.aload_n 0, 1) := by decide +kernel
theorem d_Mod_flush_22 : decode b_Mod_flush 22 = .ok (.getfield 63, 3) := by decide +kernel
theorem d_Mod_flush_25 : decode b_Mod_flush 25 = .ok (.ifCond .le 20, 3) := by decide +kernel
theorem d_Mod_flush_28 : decode b_Mod_flush 28 = .ok (.aload_n 0, 1) := by decide +kernel
theorem d_Mod_flush_29 : decode b_Mod_flush 29 = .ok (.iconst 0, 1) := by decide +kernel
theorem d_Mod_flush_30 : decode b_Mod_flush 30 = .ok (.invokevirtual 80, 3) := by decide +kernel
theorem d_Mod_flush_33 : decode b_Mod_flush 33 = .ok (.ifCond .ne 6, 3) := by decide +kernel
theorem d_Mod_flush_36 : decode b_Mod_flush 36 = .ok (.bipush (-2), 2) := by decide +kernel
theorem d_Mod_flush_38 : decode b_Mod_flush 38 = .ok (.ireturn, 1) := by decide +kernel
theorem d_Mod_flush_39 : decode b_Mod_flush 39 = .ok (.iinc 2 1, 3) := by decide +kernel
theorem d_Mod_flush_42 : decode b_Mod_flush 42 = .ok (.goto (-26), 3) := by decide +kernel
theorem d_Mod_flush_45 : decode b_Mod_flush 45 = .ok (.iload_n 2, 1) := by decide +kernel
theorem d_Mod_flush_46 : decode b_Mod_flush 46 = .ok (.ireturn, 1) := by decide +kernel
theorem d_Mod_checkpoint_0 : decode b_Mod_checkpoint 0 = .ok (.aload_n 0, 1) := by decide +kernel
theorem d_Mod_checkpoint_1 : decode b_Mod_checkpoint 1 = .ok (.getfield 38, 3) := by decide +kernel
theorem d_Mod_checkpoint_4 : decode b_Mod_checkpoint 4 = .ok (.ifCond .eq 8, 3) := by decide +kernel
theorem d_Mod_checkpoint_7 : decode b_Mod_checkpoint 7 = .ok (.iload_n 1, 1) := by decide +kernel
theorem d_Mod_checkpoint_8 : decode b_Mod_checkpoint 8 = .ok (.iconst 1, 1) := by decide +kernel
theorem d_Mod_checkpoint_9 : decode b_Mod_checkpoint 9 = .ok (.if_icmp .ge 5, 3) := by decide +kernel
theorem d_Mod_checkpoint_12 : decode b_Mod_checkpoint 12 = .ok (.iconst (-1), 1) := by decide +kernel
theorem d_Mod_checkpoint_13 : decode b_Mod_checkpoint 13 = .ok (.ireturn, 1) := by decide +kernel
theorem d_Mod_checkpoint_14 : decode b_Mod_checkpoint 14 = .ok (.iload_n 1, 1) := by decide +kernel
theorem d_Mod_checkpoint_15 : decode b_Mod_checkpoint 15 = .ok (.aload_n 0, 1) := by decide +kernel
theorem d_Mod_checkpoint_16 : decode b_Mod_checkpoint 16 = .ok (.getfield 66, 3) := by decide +kernel
theorem d_Mod_checkpoint_19 : decode b_Mod_checkpoint 19 = .ok (.if_icmp .ge 7, 3) := by decide +kernel
theorem d_Mod_checkpoint_22 : decode b_Mod_checkpoint 22 = .ok (.iload_n 1, 1) := by decide +kernel
theorem d_Mod_checkpoint_23 : decode b_Mod_checkpoint 23 = .ok (.goto 7, 3) := by decide +kernel
theorem d_Mod_checkpoint_26 : decode b_Mod_checkpoint 26 = .ok (.aload_n 0, 1) := by decide +kernel
theorem d_Mod_checkpoint_27 : decode b_Mod_checkpoint 27 = .ok (.getfield 66, 3) := by decide +kernel
theorem d_Mod_checkpoint_30 : decode b_Mod_checkpoint 30 = .ok (.istore_n 2, 1) := by decide +kernel
theorem d_Mod_checkpoint_31 : decode b_Mod_checkpoint 31 = .ok (.aload_n 0, 1) := by decide +kernel
theorem d_Mod_checkpoint_32 : decode b_Mod_checkpoint 32 = .ok (.getfield 52, 3) := by decide +kernel
theorem d_Mod_checkpoint_35 : decode b_Mod_checkpoint 35 = .ok (.istore_n 3, 1) := by decide +kernel
theorem d_Mod_checkpoint_36 : decode b_Mod_checkpoint 36 = .ok (.iload_n 2, 1) := by decide +kernel
theorem d_Mod_checkpoint_37 : decode b_Mod_checkpoint 37 = .ok (.ifCond .le 14, 3) := by decide +kernel
theorem d_Mod_checkpoint_40 : decode b_Mod_checkpoint 40 = .ok (.aload_n 0, 1) := by decide +kernel
theorem d_Mod_checkpoint_41 : decode b_Mod_checkpoint 41 = .ok (.iload_n 2, 1) := by decide +kernel
theorem d_Mod_checkpoint_42 : decode b_Mod_checkpoint 42 = .ok (.invokevirtual 91, 3) := by decide +kernel
theorem d_Mod_checkpoint_45 : decode b_Mod_checkpoint 45 = .ok (.ifCond .ne 6, 3) := by decide +kernel
theorem d_Mod_checkpoint_48 : decode b_Mod_checkpoint 48 = .ok (.bipush (-2), 2) := by decide +kernel
theorem d_Mod_checkpoint_50 : decode b_Mod_checkpoint 50 = .ok (.ireturn, 1) := by decide +kernel
theorem d_Mod_checkpoint_51 : decode b_Mod_checkpoint 51 = .ok (.aload_n 0, 1) := by decide +kernel
theorem d_Mod_checkpoint_52 : decode b_Mod_checkpoint 52 = .ok (.getfield 52, 3) := by decide +kernel
theorem d_Mod_checkpoint_55 : decode b_Mod_checkpoint 55 = .ok (.iload_n 3, 1) := by decide +kernel
theorem d_Mod_checkpoint_56 : decode b_Mod_checkpoint 56 = .ok (.isub, 1) := by decide +kernel
theorem d_Mod_checkpoint_57 : decode b_Mod_checkpoint 57 = .ok (.ireturn, 1) := by decide +kernel
theorem d_Mod_fuse_0 : decode b_Mod_fuse 0 = .ok (.aload_n 0, 1) := by decide +kernel
theorem d_Mod_fuse_1 : decode b_Mod_fuse 1 = .ok (.iload_n 1, 1) := by decide +kernel
theorem d_Mod_fuse_2 : decode b_Mod_fuse 2 = .ok (.ifCond .ge 7, 3) := by decide +kernel
theorem d_Mod_fuse_5 : decode b_Mod_fuse 5 = .ok (.iconst (-1), 1) := by decide +kernel
theorem d_Mod_fuse_6 : decode b_Mod_fuse 6 = .ok (.goto 4, 3) := by decide +kernel
theorem d_Mod_fuse_9 : decode b_Mod_fuse 9 = .ok (.iload_n 1, 1) := by decide +kernel
theorem d_Mod_fuse_10 : decode b_Mod_fuse 10 = .ok (.putfield 46, 3) := by decide +kernel
theorem d_Mod_fuse_13 : decode b_Mod_fuse 13 = .ok (.return_, 1) := by decide +kernel
theorem d_Mod_crash_0 : decode b_Mod_crash 0 = .ok (.aload_n 0, 1) := by decide +kernel
theorem d_Mod_crash_1 : decode b_Mod_crash 1 = .ok (.getfield 38, 3) := by decide +kernel
theorem d_Mod_crash_4 : decode b_Mod_crash 4 = .ok (.istore_n 1, 1) := by decide +kernel
theorem d_Mod_crash_5 : decode b_Mod_crash 5 = .ok (.iload_n 1, 1) := by decide +kernel
theorem d_Mod_crash_6 : decode b_Mod_crash 6 = .ok (.ifCond .eq 7, 3) := by decide +kernel
theorem d_Mod_crash_9 : decode b_Mod_crash 9 = .ok (.aload_n 0, 1) := by decide +kernel
theorem d_Mod_crash_10 : decode b_Mod_crash 10 = .ok (.invokevirtual 49, 3) := by decide +kernel
theorem d_Mod_crash_13 : decode b_Mod_crash 13 = .ok (.iload_n 1, 1) := by decide +kernel
theorem d_Mod_crash_14 : decode b_Mod_crash 14 = .ok (.ireturn, 1) := by decide +kernel
theorem d_Mod_mount_0 : decode b_Mod_mount 0 = .ok (.aload_n 0, 1) := by decide +kernel
theorem d_Mod_mount_1 : decode b_Mod_mount 1 = .ok (.getfield 38, 3) := by decide +kernel
theorem d_Mod_mount_4 : decode b_Mod_mount 4 = .ok (.ifCond .ne 12, 3) := by decide +kernel
theorem d_Mod_mount_7 : decode b_Mod_mount 7 = .ok (.iload_n 1, 1) := by decide +kernel
theorem d_Mod_mount_8 : decode b_Mod_mount 8 = .ok (.ifCond .lt 8, 3) := by decide +kernel
theorem d_Mod_mount_11 : decode b_Mod_mount 11 = .ok (.iload_n 1, 1) := by decide +kernel
theorem d_Mod_mount_12 : decode b_Mod_mount 12 = .ok (.iconst 2, 1) := by decide +kernel
theorem d_Mod_mount_13 : decode b_Mod_mount 13 = .ok (.if_icmp .le 5, 3) := by decide +kernel
theorem d_Mod_mount_16 : decode b_Mod_mount 16 = .ok (.iconst (-1), 1) := by decide +kernel
theorem d_Mod_mount_17 : decode b_Mod_mount 17 = .ok (.ireturn, 1) := by decide +kernel
theorem d_Mod_mount_18 : decode b_Mod_mount 18 = .ok (.iconst 0, 1) := by decide +kernel
theorem d_Mod_mount_19 : decode b_Mod_mount 19 = .ok (.istore_n 2, 1) := by decide +kernel
theorem d_Mod_mount_20 : decode b_Mod_mount 20 = .ok (.iload_n 2, 1) := by decide +kernel
theorem d_Mod_mount_21 : decode b_Mod_mount 21 = .ok (.aload_n 0, 1) := by decide +kernel
theorem d_Mod_mount_22 : decode b_Mod_mount 22 = .ok (.getfield 66, 3) := by decide +kernel
theorem d_Mod_mount_25 : decode b_Mod_mount 25 = .ok (.if_icmp .ge 21, 3) := by decide +kernel
theorem d_Mod_mount_28 : decode b_Mod_mount 28 = .ok (.aload_n 0, 1) := by decide +kernel
theorem d_Mod_mount_29 : decode b_Mod_mount 29 = .ok (.iload_n 2, 1) := by decide +kernel
theorem d_Mod_mount_30 : decode b_Mod_mount 30 = .ok (.iconst 0, 1) := by decide +kernel
theorem d_Mod_mount_31 : decode b_Mod_mount 31 = .ok (.invokevirtual 73, 3) := by decide +kernel
theorem d_Mod_mount_34 : decode b_Mod_mount 34 = .ok (.ifCond .ne 6, 3) := by decide +kernel
theorem d_Mod_mount_37 : decode b_Mod_mount 37 = .ok (.bipush (-2), 2) := by decide +kernel
theorem d_Mod_mount_39 : decode b_Mod_mount 39 = .ok (.ireturn, 1) := by decide +kernel
theorem d_Mod_mount_40 : decode b_Mod_mount 40 = .ok (.iinc 2 1, 3) := by decide +kernel
theorem d_Mod_mount_43 : decode b_Mod_mount 43 = .ok (.goto (-23), 3) := by decide +kernel
theorem d_Mod_mount_46 : decode b_Mod_mount 46 = .ok (.aload_n 0, 1) := by decide +kernel
theorem d_Mod_mount_47 : decode b_Mod_mount 47 = .ok (.getfield 66, 3) := by decide +kernel
theorem d_Mod_mount_50 : decode b_Mod_mount 50 = .ok (.ifCond .le 13, 3) := by decide +kernel
theorem d_Mod_mount_53 : decode b_Mod_mount 53 = .ok (.aload_n 0, 1) := by decide +kernel
theorem d_Mod_mount_54 : decode b_Mod_mount 54 = .ok (.invokevirtual 55, 3) := by decide +kernel
theorem d_Mod_mount_57 : decode b_Mod_mount 57 = .ok (.ifCond .ne 6, 3) := by decide +kernel
theorem d_Mod_mount_60 : decode b_Mod_mount 60 = .ok (.bipush (-2), 2) := by decide +kernel
theorem d_Mod_mount_62 : decode b_Mod_mount 62 = .ok (.ireturn, 1) := by decide +kernel
theorem d_Mod_mount_63 : decode b_Mod_mount 63 = .ok (.aload_n 0, 1) := by decide +kernel
theorem d_Mod_mount_64 : decode b_Mod_mount 64 = .ok (.getfield 66, 3) := by decide +kernel
theorem d_Mod_mount_67 : decode b_Mod_mount 67 = .ok (.istore_n 2, 1) := by decide +kernel
theorem d_Mod_mount_68 : decode b_Mod_mount 68 = .ok (.aload_n 0, 1) := by decide +kernel
theorem d_Mod_mount_69 : decode b_Mod_mount 69 = .ok (.iconst 0, 1) := by decide +kernel
theorem d_Mod_mount_70 : decode b_Mod_mount 70 = .ok (.putfield 66, 3) := by decide +kernel
theorem d_Mod_mount_73 : decode b_Mod_mount 73 = .ok (.aload_n 0, 1) := by decide +kernel
theorem d_Mod_mount_74 : decode b_Mod_mount 74 = .ok (.iconst 1, 1) := by decide +kernel
theorem d_Mod_mount_75 : decode b_Mod_mount 75 = .ok (.putfield 38, 3) := by decide +kernel
theorem d_Mod_mount_78 : decode b_Mod_mount 78 = .ok (.aload_n 0, 1) := by decide +kernel
theorem d_Mod_mount_79 : decode b_Mod_mount 79 = .ok (.iload_n 1, 1) := by decide +kernel
theorem d_Mod_mount_80 : decode b_Mod_mount 80 = .ok (.putfield 42, 3) := by decide +kernel
theorem d_Mod_mount_83 : decode b_Mod_mount 83 = .ok (.aload_n 0, 1) := by decide +kernel
theorem d_Mod_mount_84 : decode b_Mod_mount 84 = .ok (.iconst 0, 1) := by decide +kernel
theorem d_Mod_mount_85 : decode b_Mod_mount 85 = .ok (.putfield 63, 3) := by decide +kernel
theorem d_Mod_mount_88 : decode b_Mod_mount 88 = .ok (.iconst 0, 1) := by decide +kernel
theorem d_Mod_mount_89 : decode b_Mod_mount 89 = .ok (.istore_n 3, 1) := by decide +kernel
theorem d_Mod_mount_90 : decode b_Mod_mount 90 = .ok (.iload_n 3, 1) := by decide +kernel
theorem d_Mod_mount_91 : decode b_Mod_mount 91 = .ok (.bipush 92, 2) := by decide +kernel
theorem d_Mod_mount_93 : decode b_Mod_mount 93 = .ok (.if_icmp .ge 21, 3) := by decide +kernel
theorem d_Mod_mount_96 : decode b_Mod_mount 96 = .ok (.aload_n 0, 1) := by decide +kernel
theorem d_Mod_mount_97 : decode b_Mod_mount 97 = .ok (.getfield 13, 3) := by decide +kernel
theorem d_Mod_mount_100 : decode b_Mod_mount 100 = .ok (.iload_n 3, 1) := by decide +kernel
theorem d_Mod_mount_101 : decode b_Mod_mount 101 = .ok (.aload_n 0, 1) := by decide +kernel
theorem d_Mod_mount_102 : decode b_Mod_mount 102 = .ok (.getfield 7, 3) := by decide +kernel
theorem d_Mod_mount_105 : decode b_Mod_mount 105 = .ok (.iload_n 3, 1) := by decide +kernel
theorem d_Mod_mount_106 : decode b_Mod_mount 106 = .ok (.iaload, 1) := by decide +kernel
theorem d_Mod_mount_107 : decode b_Mod_mount 107 = .ok (.iastore, 1) := by decide +kernel
theorem d_Mod_mount_108 : decode b_Mod_mount 108 = .ok (.iinc 3 1, 3) := by decide +kernel
theorem d_Mod_mount_111 : decode b_Mod_mount 111 = .ok (.goto (-21), 3) := by decide +kernel
theorem d_Mod_mount_114 : decode b_Mod_mount 114 = .ok (.iconst 0, 1) := by decide +kernel
theorem d_Mod_mount_115 : decode b_Mod_mount 115 = .ok (.istore_n 3, 1) := by decide +kernel
theorem d_Mod_mount_116 : decode b_Mod_mount 116 = .ok (.iload_n 3, 1) := by decide +kernel
theorem d_Mod_mount_117 : decode b_Mod_mount 117 = .ok (.bipush 23, 2) := by decide +kernel
theorem d_Mod_mount_119 : decode b_Mod_mount 119 = .ok (.if_icmp .ge 23, 3) := by decide +kernel
theorem d_Mod_mount_122 : decode b_Mod_mount 122 = .ok (.aload_n 0, 1) := by decide +kernel
theorem d_Mod_mount_123 : decode b_Mod_mount 123 = .ok (.getfield 16, 3) := by decide +kernel
theorem d_Mod_mount_126 : decode b_Mod_mount 126 = .ok (.iload_n 3, 1) := by decide +kernel
theorem d_Mod_mount_127 : decode b_Mod_mount 127 = .ok (.iconst 0, 1) := by decide +kernel
theorem d_Mod_mount_128 : decode b_Mod_mount 128 = .ok (.bastore, 1) := by decide +kernel
theorem d_Mod_mount_129 : decode b_Mod_mount 129 = .ok (.aload_n 0, 1) := by decide +kernel
theorem d_Mod_mount_130 : decode b_Mod_mount 130 = .ok (.getfield 20, 3) := by decide +kernel
theorem d_Mod_mount_133 : decode b_Mod_mount 133 = .ok (.iload_n 3, 1) := by decide +kernel
theorem d_Mod_mount_134 : decode b_Mod_mount 134 = .ok (.iconst 0, 1) := by decide +kernel
theorem d_Mod_mount_135 : decode b_Mod_mount 135 = .ok (.bastore, 1) := by decide +kernel
theorem d_Mod_mount_136 : decode b_Mod_mount 136 = .ok (.iinc 3 1, 3) := by decide +kernel
theorem d_Mod_mount_139 : decode b_Mod_mount 139 = .ok (.goto (-23), 3) := by decide +kernel
theorem d_Mod_mount_142 : decode b_Mod_mount 142 = .ok (.aload_n 0, 1) := by decide +kernel
theorem d_Mod_mount_143 : decode b_Mod_mount 143 = .ok (.aload_n 0, 1) := by decide +kernel
theorem d_Mod_mount_144 : decode b_Mod_mount 144 = .ok (.getfield 13, 3) := by decide +kernel
theorem d_Mod_mount_147 : decode b_Mod_mount 147 = .ok (.bipush 24, 2) := by decide +kernel
theorem d_Mod_mount_149 : decode b_Mod_mount 149 = .ok (.iaload, 1) := by decide +kernel
theorem d_Mod_mount_150 : decode b_Mod_mount 150 = .ok (.putfield 100, 3) := by decide +kernel
theorem d_Mod_mount_153 : decode b_Mod_mount 153 = .ok (.iload_n 2, 1) := by decide +kernel
theorem d_Mod_mount_154 : decode b_Mod_mount 154 = .ok (.ireturn, 1) := by decide +kernel
theorem d_Mod_mode_0 : decode b_Mod_mode 0 = .ok (.aload_n 0, 1) := by decide +kernel
theorem d_Mod_mode_1 : decode b_Mod_mode 1 = .ok (.getfield 38, 3) := by decide +kernel
theorem d_Mod_mode_4 : decode b_Mod_mode 4 = .ok (.ifCond .eq 10, 3) := by decide +kernel
theorem d_Mod_mode_7 : decode b_Mod_mode 7 = .ok (.aload_n 0, 1) := by decide +kernel
theorem d_Mod_mode_8 : decode b_Mod_mode 8 = .ok (.getfield 42, 3) := by decide +kernel
theorem d_Mod_mode_11 : decode b_Mod_mode 11 = .ok (.goto 4, 3) := by decide +kernel
theorem d_Mod_mode_14 : decode b_Mod_mode 14 = .ok (.iconst (-1), 1) := by decide +kernel
theorem d_Mod_mode_15 : decode b_Mod_mode 15 = .ok (.ireturn, 1) := by decide +kernel
theorem d_Mod_home_0 : decode b_Mod_home 0 = .ok (.iload_n 1, 1) := by decide +kernel
theorem d_Mod_home_1 : decode b_Mod_home 1 = .ok (.ifCond .lt 18, 3) := by decide +kernel
theorem d_Mod_home_4 : decode b_Mod_home 4 = .ok (.iload_n 1, 1) := by decide +kernel
theorem d_Mod_home_5 : decode b_Mod_home 5 = .ok (.bipush 23, 2) := by decide +kernel
theorem d_Mod_home_7 : decode b_Mod_home 7 = .ok (.if_icmp .ge 12, 3) := by decide +kernel
theorem d_Mod_home_10 : decode b_Mod_home 10 = .ok (.iload_n 2, 1) := by decide +kernel
theorem d_Mod_home_11 : decode b_Mod_home 11 = .ok (.ifCond .lt 8, 3) := by decide +kernel
theorem d_Mod_home_14 : decode b_Mod_home 14 = .ok (.iload_n 2, 1) := by decide +kernel
theorem d_Mod_home_15 : decode b_Mod_home 15 = .ok (.iconst 3, 1) := by decide +kernel
theorem d_Mod_home_16 : decode b_Mod_home 16 = .ok (.if_icmp .le 7, 3) := by decide +kernel
theorem d_Mod_home_19 : decode b_Mod_home 19 = .ok (.iconst 0, 1) := by decide +kernel
theorem d_Mod_home_20 : decode b_Mod_home 20 = .ok (.goto 13, 3) := by decide +kernel
theorem d_Mod_home_23 : decode b_Mod_home 23 = .ok (.aload_n 0, 1) := by decide +kernel
theorem d_Mod_home_24 : decode b_Mod_home 24 = .ok (.getfield 7, 3) := by decide +kernel
theorem d_Mod_home_27 : decode b_Mod_home 27 = .ok (.iconst 4, 1) := by decide +kernel
theorem d_Mod_home_28 : decode b_Mod_home 28 = .ok (.iload_n 1, 1) := by decide +kernel
theorem d_Mod_home_29 : decode b_Mod_home 29 = .ok (.imul, 1) := by decide +kernel
theorem d_Mod_home_30 : decode b_Mod_home 30 = .ok (.iload_n 2, 1) := by decide +kernel
theorem d_Mod_home_31 : decode b_Mod_home 31 = .ok (.iadd, 1) := by decide +kernel
theorem d_Mod_home_32 : decode b_Mod_home 32 = .ok (.iaload, 1) := by decide +kernel
theorem d_Mod_home_33 : decode b_Mod_home 33 = .ok (.ireturn, 1) := by decide +kernel
theorem d_Mod_need_0 : decode b_Mod_need 0 = .ok (.aload_n 0, 1) := by decide +kernel
theorem d_Mod_need_1 : decode b_Mod_need 1 = .ok (.getfield 38, 3) := by decide +kernel
theorem d_Mod_need_4 : decode b_Mod_need 4 = .ok (.ifCond .eq 10, 3) := by decide +kernel
theorem d_Mod_need_7 : decode b_Mod_need 7 = .ok (.aload_n 0, 1) := by decide +kernel
theorem d_Mod_need_8 : decode b_Mod_need 8 = .ok (.invokevirtual 84, 3) := by decide +kernel
theorem d_Mod_need_11 : decode b_Mod_need 11 = .ok (.goto 4, 3) := by decide +kernel
theorem d_Mod_need_14 : decode b_Mod_need 14 = .ok (.iconst (-1), 1) := by decide +kernel
theorem d_Mod_need_15 : decode b_Mod_need 15 = .ok (.ireturn, 1) := by decide +kernel
theorem d_Mod_room_0 : decode b_Mod_room 0 = .ok (.aload_n 0, 1) := by decide +kernel
theorem d_Mod_room_1 : decode b_Mod_room 1 = .ok (.getfield 38, 3) := by decide +kernel
theorem d_Mod_room_4 : decode b_Mod_room 4 = .ok (.ifCond .eq 10, 3) := by decide +kernel
theorem d_Mod_room_7 : decode b_Mod_room 7 = .ok (.aload_n 0, 1) := by decide +kernel
theorem d_Mod_room_8 : decode b_Mod_room 8 = .ok (.invokevirtual 88, 3) := by decide +kernel
theorem d_Mod_room_11 : decode b_Mod_room 11 = .ok (.goto 4, 3) := by decide +kernel
theorem d_Mod_room_14 : decode b_Mod_room 14 = .ok (.iconst (-1), 1) := by decide +kernel
theorem d_Mod_room_15 : decode b_Mod_room 15 = .ok (.ireturn, 1) := by decide +kernel
theorem d_Mod_head_0 : decode b_Mod_head 0 = .ok (.aload_n 0, 1) := by decide +kernel
theorem d_Mod_head_1 : decode b_Mod_head 1 = .ok (.getfield 38, 3) := by decide +kernel
theorem d_Mod_head_4 : decode b_Mod_head 4 = .ok (.ifCond .eq 10, 3) := by decide +kernel
theorem d_Mod_head_7 : decode b_Mod_head 7 = .ok (.aload_n 0, 1) := by decide +kernel
theorem d_Mod_head_8 : decode b_Mod_head 8 = .ok (.getfield 97, 3) := by decide +kernel
theorem d_Mod_head_11 : decode b_Mod_head 11 = .ok (.goto 4, 3) := by decide +kernel
theorem d_Mod_head_14 : decode b_Mod_head 14 = .ok (.iconst (-1), 1) := by decide +kernel
theorem d_Mod_head_15 : decode b_Mod_head 15 = .ok (.ireturn, 1) := by decide +kernel
theorem d_Mod_dirty_0 : decode b_Mod_dirty 0 = .ok (.aload_n 0, 1) := by decide +kernel
theorem d_Mod_dirty_1 : decode b_Mod_dirty 1 = .ok (.getfield 38, 3) := by decide +kernel
theorem d_Mod_dirty_4 : decode b_Mod_dirty 4 = .ok (.ifCond .eq 10, 3) := by decide +kernel
theorem d_Mod_dirty_7 : decode b_Mod_dirty 7 = .ok (.aload_n 0, 1) := by decide +kernel
theorem d_Mod_dirty_8 : decode b_Mod_dirty 8 = .ok (.getfield 63, 3) := by decide +kernel
theorem d_Mod_dirty_11 : decode b_Mod_dirty 11 = .ok (.goto 4, 3) := by decide +kernel
theorem d_Mod_dirty_14 : decode b_Mod_dirty 14 = .ok (.iconst (-1), 1) := by decide +kernel
theorem d_Mod_dirty_15 : decode b_Mod_dirty 15 = .ok (.ireturn, 1) := by decide +kernel
theorem d_Mod_free_0 : decode b_Mod_free 0 = .ok (.aload_n 0, 1) := by decide +kernel
theorem d_Mod_free_1 : decode b_Mod_free 1 = .ok (.getfield 38, 3) := by decide +kernel
theorem d_Mod_free_4 : decode b_Mod_free 4 = .ok (.ifCond .eq 10, 3) := by decide +kernel
theorem d_Mod_free_7 : decode b_Mod_free 7 = .ok (.aload_n 0, 1) := by decide +kernel
theorem d_Mod_free_8 : decode b_Mod_free 8 = .ok (.invokevirtual 126, 3) := by decide +kernel
theorem d_Mod_free_11 : decode b_Mod_free 11 = .ok (.goto 4, 3) := by decide +kernel
theorem d_Mod_free_14 : decode b_Mod_free 14 = .ok (.iconst (-1), 1) := by decide +kernel
theorem d_Mod_free_15 : decode b_Mod_free 15 = .ok (.ireturn, 1) := by decide +kernel
theorem d_Mod_writes_0 : decode b_Mod_writes 0 = .ok (.aload_n 0, 1) := by decide +kernel
theorem d_Mod_writes_1 : decode b_Mod_writes 1 = .ok (.getfield 52, 3) := by decide +kernel
theorem d_Mod_writes_4 : decode b_Mod_writes 4 = .ok (.ireturn, 1) := by decide +kernel
