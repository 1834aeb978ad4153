/-! walks of methods (printed by program): X12_chair X12_gaps X12_seat X12_both X12_either X12_not X12_one X12_sum X12_term X12_told X12_reads X12_init -/
theorem dX12_chair_0 : decode cX12_chair 0 = .ok (.aload_n 0, 1) := by decide +kernel
theorem dX12_chair_1 : decode cX12_chair 1 = .ok (.iload_n 1, 1) := by decide +kernel
theorem dX12_chair_2 : decode cX12_chair 2 = .ok (.invokevirtual 193, 3) := by decide +kernel
theorem dX12_chair_5 : decode cX12_chair 5 = .ok (.ifCond .eq 19, 3) := by decide +kernel
theorem dX12_chair_8 : decode cX12_chair 8 = .ok (.iload_n 2, 1) := by decide +kernel
theorem dX12_chair_9 : decode cX12_chair 9 = .ok (.iconst 0, 1) := by decide +kernel
theorem dX12_chair_10 : decode cX12_chair 10 = .ok (.aload_n 0, 1) := by decide +kernel
theorem dX12_chair_11 : decode cX12_chair 11 = .ok (.iload_n 1, 1) := by decide +kernel
theorem dX12_chair_12 : decode cX12_chair 12 = .ok (.iconst (-1), 1) := by decide +kernel
theorem dX12_chair_13 : decode cX12_chair 13 = .ok (.invokevirtual 196, 3) := by decide +kernel
theorem dX12_chair_16 : decode cX12_chair 16 = .ok (.iconst 1, 1) := by decide +kernel
theorem dX12_chair_17 : decode cX12_chair 17 = .ok (.isub, 1) := by decide +kernel
theorem dX12_chair_18 : decode cX12_chair 18 = .ok (.invokestatic 155, 3) := by decide +kernel
theorem dX12_chair_21 : decode cX12_chair 21 = .ok (.ifCond .ne 6, 3) := by decide +kernel
theorem dX12_chair_24 : decode cX12_chair 24 = .ok (.bipush (-2), 2) := by decide +kernel
theorem dX12_chair_26 : decode cX12_chair 26 = .ok (.ireturn, 1) := by decide +kernel
theorem dX12_chair_27 : decode cX12_chair 27 = .ok (.iload_n 3, 1) := by decide +kernel
theorem dX12_chair_28 : decode cX12_chair 28 = .ok (.ifCond .eq 28, 3) := by decide +kernel
theorem dX12_chair_31 : decode cX12_chair 31 = .ok (.aload_n 0, 1) := by decide +kernel
theorem dX12_chair_32 : decode cX12_chair 32 = .ok (.getfield 67, 3) := by decide +kernel
theorem dX12_chair_35 : decode cX12_chair 35 = .ok (.iload_n 1, 1) := by decide +kernel
theorem dX12_chair_36 : decode cX12_chair 36 = .ok (.baload, 1) := by decide +kernel
theorem dX12_chair_37 : decode cX12_chair 37 = .ok (.ifCond .eq 17, 3) := by decide +kernel
theorem dX12_chair_40 : decode cX12_chair 40 = .ok (.aload_n 0, 1) := by decide +kernel
theorem dX12_chair_41 : decode cX12_chair 41 = .ok (.getfield 64, 3) := by decide +kernel
theorem dX12_chair_44 : decode cX12_chair 44 = .ok (.bipush 12, 2) := by decide +kernel
theorem dX12_chair_46 : decode cX12_chair 46 = .ok (.iload_n 1, 1) := by decide +kernel
theorem dX12_chair_47 : decode cX12_chair 47 = .ok (.imul, 1) := by decide +kernel
theorem dX12_chair_48 : decode cX12_chair 48 = .ok (.iload_n 2, 1) := by decide +kernel
theorem dX12_chair_49 : decode cX12_chair 49 = .ok (.iadd, 1) := by decide +kernel
theorem dX12_chair_50 : decode cX12_chair 50 = .ok (.iaload, 1) := by decide +kernel
theorem dX12_chair_51 : decode cX12_chair 51 = .ok (.goto 4, 3) := by decide +kernel
theorem dX12_chair_54 : decode cX12_chair 54 = .ok (.iconst (-1), 1) := by decide +kernel
theorem dX12_chair_55 : decode cX12_chair 55 = .ok (.ireturn, 1) := by decide +kernel
theorem dX12_chair_56 : decode cX12_chair 56 = .ok (.aload_n 0, 1) := by decide +kernel
theorem dX12_chair_57 : decode cX12_chair 57 = .ok (.iload_n 1, 1) := by decide +kernel
theorem dX12_chair_58 : decode cX12_chair 58 = .ok (.invokevirtual 327, 3) := by decide +kernel
theorem dX12_chair_61 : decode cX12_chair 61 = .ok (.istore 4, 2) := by decide +kernel
theorem dX12_chair_63 : decode cX12_chair 63 = .ok (.iload 4, 2) := by decide +kernel
theorem dX12_chair_65 : decode cX12_chair 65 = .ok (.ifCond .ge 7, 3) := by decide +kernel
theorem dX12_chair_68 : decode cX12_chair 68 = .ok (.iconst (-1), 1) := by decide +kernel
theorem dX12_chair_69 : decode cX12_chair 69 = .ok (.goto 9, 3) := by decide +kernel
theorem dX12_chair_72 : decode cX12_chair 72 = .ok (.aload_n 0, 1) := by decide +kernel
theorem dX12_chair_73 : decode cX12_chair 73 = .ok (.getfield 126, 3) := by decide +kernel
theorem dX12_chair_76 : decode cX12_chair 76 = .ok (.iload_n 2, 1) := by decide +kernel
theorem dX12_chair_77 : decode cX12_chair 77 = .ok (.iaload, 1) := by decide +kernel
theorem dX12_chair_78 : decode cX12_chair 78 = .ok (.ireturn, 1) := by decide +kernel
theorem dX12_gaps_0 : decode cX12_gaps 0 = .ok (.aload_n 0, 1) := by decide +kernel
theorem dX12_gaps_1 : decode cX12_gaps 1 = .ok (.iload_n 1, 1) := by decide +kernel
theorem dX12_gaps_2 : decode cX12_gaps 2 = .ok (.invokevirtual 193, 3) := by decide +kernel
theorem dX12_gaps_5 : decode cX12_gaps 5 = .ok (.ifCond .eq 11, 3) := by decide +kernel
theorem dX12_gaps_8 : decode cX12_gaps 8 = .ok (.aload_n 0, 1) := by decide +kernel
theorem dX12_gaps_9 : decode cX12_gaps 9 = .ok (.iload_n 1, 1) := by decide +kernel
theorem dX12_gaps_10 : decode cX12_gaps 10 = .ok (.invokevirtual 327, 3) := by decide +kernel
theorem dX12_gaps_13 : decode cX12_gaps 13 = .ok (.goto 5, 3) := by decide +kernel
theorem dX12_gaps_16 : decode cX12_gaps 16 = .ok (.bipush (-2), 2) := by decide +kernel
theorem dX12_gaps_18 : decode cX12_gaps 18 = .ok (.ireturn, 1) := by decide +kernel
theorem dX12_seat_0 : decode cX12_seat 0 = .ok (.aload_n 0, 1) := by decide +kernel
theorem dX12_seat_1 : decode cX12_seat 1 = .ok (.iload_n 1, 1) := by decide +kernel
theorem dX12_seat_2 : decode cX12_seat 2 = .ok (.invokevirtual 193, 3) := by decide +kernel
theorem dX12_seat_5 : decode cX12_seat 5 = .ok (.ifCond .ne 6, 3) := by decide +kernel
theorem dX12_seat_8 : decode cX12_seat 8 = .ok (.bipush (-2), 2) := by decide +kernel
theorem dX12_seat_10 : decode cX12_seat 10 = .ok (.ireturn, 1) := by decide +kernel
theorem dX12_seat_11 : decode cX12_seat 11 = .ok (.aload_n 0, 1) := by decide +kernel
theorem dX12_seat_12 : decode cX12_seat 12 = .ok (.iload_n 1, 1) := by decide +kernel
theorem dX12_seat_13 : decode cX12_seat 13 = .ok (.invokevirtual 327, 3) := by decide +kernel
theorem dX12_seat_16 : decode cX12_seat 16 = .ok (.istore_n 2, 1) := by decide +kernel
theorem dX12_seat_17 : decode cX12_seat 17 = .ok (.iconst 0, 1) := by decide +kernel
theorem dX12_seat_18 : decode cX12_seat 18 = .ok (.istore_n 3, 1) := by decide +kernel
theorem dX12_seat_19 : decode cX12_seat 19 = .ok (.iload_n 3, 1) := by decide +kernel
theorem dX12_seat_20 : decode cX12_seat 20 = .ok (.bipush 12, 2) := by decide +kernel
theorem dX12_seat_22 : decode cX12_seat 22 = .ok (.if_icmp .ge 40, 3) := by decide +kernel
theorem dX12_seat_25 : decode cX12_seat 25 = .ok (.aload_n 0, 1) := by decide +kernel
theorem dX12_seat_26 : decode cX12_seat 26 = .ok (.getfield 64, 3) := by decide +kernel
theorem dX12_seat_29 : decode cX12_seat 29 = .ok (.bipush 12, 2) := by decide +kernel
theorem dX12_seat_31 : decode cX12_seat 31 = .ok (.iload_n 1, 1) := by decide +kernel
theorem dX12_seat_32 : decode cX12_seat 32 = .ok (.imul, 1) := by decide +kernel
theorem dX12_seat_33 : decode cX12_seat 33 = .ok (.iload_n 3, 1) := by decide +kernel
theorem dX12_seat_34 : decode cX12_seat 34 = .ok (.iadd, 1) := by decide +kernel
theorem dX12_seat_35 : decode cX12_seat 35 = .ok (.iload_n 3, 1) := by decide +kernel
theorem dX12_seat_36 : decode cX12_seat 36 = .ok (.aload_n 0, 1) := by decide +kernel
theorem dX12_seat_37 : decode cX12_seat 37 = .ok (.iload_n 1, 1) := by decide +kernel
theorem dX12_seat_38 : decode cX12_seat 38 = .ok (.iconst (-1), 1) := by decide +kernel
theorem dX12_seat_39 : decode cX12_seat 39 = .ok (.invokevirtual 196, 3) := by decide +kernel
theorem dX12_seat_42 : decode cX12_seat 42 = .ok (.if_icmp .ge 12, 3) := by decide +kernel
theorem dX12_seat_45 : decode cX12_seat 45 = .ok (.aload_n 0, 1) := by decide +kernel
theorem dX12_seat_46 : decode cX12_seat 46 = .ok (.getfield 126, 3) := by decide +kernel
theorem dX12_seat_49 : decode cX12_seat 49 = .ok (.iload_n 3, 1) := by decide +kernel
theorem dX12_seat_50 : decode cX12_seat 50 = .ok (.iaload, 1) := by decide +kernel
theorem dX12_seat_51 : decode cX12_seat 51 = .ok (.goto 4, 3) := by decide +kernel
theorem dX12_seat_54 : decode cX12_seat 54 = .ok (.iconst (-1), 1) := by decide +kernel
theorem dX12_seat_55 : decode cX12_seat 55 = .ok (.iastore, 1) := by decide +kernel
theorem dX12_seat_56 : decode cX12_seat 56 = .ok (.iinc 3 1, 3) := by decide +kernel
theorem dX12_seat_59 : decode cX12_seat 59 = .ok (.goto (-40), 3) := by decide +kernel
theorem dX12_seat_62 : decode cX12_seat 62 = .ok (.aload_n 0, 1) := by decide +kernel
theorem dX12_seat_63 : decode cX12_seat 63 = .ok (.getfield 67, 3) := by decide +kernel
theorem dX12_seat_66 : decode cX12_seat 66 = .ok (.iload_n 1, 1) := by decide +kernel
theorem dX12_seat_67 : decode cX12_seat 67 = .ok (.iconst 1, 1) := by decide +kernel
theorem dX12_seat_68 : decode cX12_seat 68 = .ok (.bastore, 1) := by decide +kernel
theorem dX12_seat_69 : decode cX12_seat 69 = .ok (.iload_n 2, 1) := by decide +kernel
theorem dX12_seat_70 : decode cX12_seat 70 = .ok (.ireturn, 1) := by decide +kernel
theorem dX12_both_0 : decode cX12_both 0 = .ok (.aload_n 0, 1) := by decide +kernel
theorem dX12_both_1 : decode cX12_both 1 = .ok (.invokevirtual 266, 3) := by decide +kernel
theorem dX12_both_4 : decode cX12_both 4 = .ok (.aload_n 0, 1) := by decide +kernel
theorem dX12_both_5 : decode cX12_both 5 = .ok (.invokevirtual 236, 3) := by decide +kernel
theorem dX12_both_8 : decode cX12_both 8 = .ok (.ifCond .ne 30, 3) := by decide +kernel
theorem dX12_both_11 : decode cX12_both 11 = .ok (.aload_n 0, 1) := by decide +kernel
theorem dX12_both_12 : decode cX12_both 12 = .ok (.getfield 215, 3) := by decide +kernel
theorem dX12_both_15 : decode cX12_both 15 = .ok (.sipush 304, 3) := by decide +kernel
theorem dX12_both_18 : decode cX12_both 18 = .ok (.if_icmp .ne 20, 3) := by decide +kernel
theorem dX12_both_21 : decode cX12_both 21 = .ok (.aload_n 0, 1) := by decide +kernel
theorem dX12_both_22 : decode cX12_both 22 = .ok (.invokevirtual 243, 3) := by decide +kernel
theorem dX12_both_25 : decode cX12_both 25 = .ok (.aload_n 0, 1) := by decide +kernel
theorem dX12_both_26 : decode cX12_both 26 = .ok (.invokevirtual 266, 3) := by decide +kernel
theorem dX12_both_29 : decode cX12_both 29 = .ok (.aload_n 0, 1) := by decide +kernel
theorem dX12_both_30 : decode cX12_both 30 = .ok (.iconst 3, 1) := by decide +kernel
theorem dX12_both_31 : decode cX12_both 31 = .ok (.iconst 0, 1) := by decide +kernel
theorem dX12_both_32 : decode cX12_both 32 = .ok (.invokevirtual 262, 3) := by decide +kernel
theorem dX12_both_35 : decode cX12_both 35 = .ok (.goto (-31), 3) := by decide +kernel
theorem dX12_both_38 : decode cX12_both 38 = .ok (.return_, 1) := by decide +kernel
theorem dX12_either_0 : decode cX12_either 0 = .ok (.aload_n 0, 1) := by decide +kernel
theorem dX12_either_1 : decode cX12_either 1 = .ok (.invokevirtual 259, 3) := by decide +kernel
theorem dX12_either_4 : decode cX12_either 4 = .ok (.aload_n 0, 1) := by decide +kernel
theorem dX12_either_5 : decode cX12_either 5 = .ok (.invokevirtual 236, 3) := by decide +kernel
theorem dX12_either_8 : decode cX12_either 8 = .ok (.ifCond .ne 30, 3) := by decide +kernel
theorem dX12_either_11 : decode cX12_either 11 = .ok (.aload_n 0, 1) := by decide +kernel
theorem dX12_either_12 : decode cX12_either 12 = .ok (.getfield 215, 3) := by decide +kernel
theorem dX12_either_15 : decode cX12_either 15 = .ok (.sipush 303, 3) := by decide +kernel
theorem dX12_either_18 : decode cX12_either 18 = .ok (.if_icmp .ne 20, 3) := by decide +kernel
theorem dX12_either_21 : decode cX12_either 21 = .ok (.aload_n 0, 1) := by decide +kernel
theorem dX12_either_22 : decode cX12_either 22 = .ok (.invokevirtual 243, 3) := by decide +kernel
theorem dX12_either_25 : decode cX12_either 25 = .ok (.aload_n 0, 1) := by decide +kernel
theorem dX12_either_26 : decode cX12_either 26 = .ok (.invokevirtual 259, 3) := by decide +kernel
theorem dX12_either_29 : decode cX12_either 29 = .ok (.aload_n 0, 1) := by decide +kernel
theorem dX12_either_30 : decode cX12_either 30 = .ok (.iconst 2, 1) := by decide +kernel
theorem dX12_either_31 : decode cX12_either 31 = .ok (.iconst 0, 1) := by decide +kernel
theorem dX12_either_32 : decode cX12_either 32 = .ok (.invokevirtual 262, 3) := by decide +kernel
theorem dX12_either_35 : decode cX12_either 35 = .ok (.goto (-31), 3) := by decide +kernel
theorem dX12_either_38 : decode cX12_either 38 = .ok (.return_, 1) := by decide +kernel
theorem dX12_not_0 : decode cX12_not 0 = .ok (.aload_n 0, 1) := by decide +kernel
theorem dX12_not_1 : decode cX12_not 1 = .ok (.invokevirtual 236, 3) := by decide +kernel
theorem dX12_not_4 : decode cX12_not 4 = .ok (.ifCond .eq 4, 3) := by decide +kernel
theorem dX12_not_7 : decode cX12_not 7 = .ok (.return_, 1) := by decide +kernel
theorem dX12_not_8 : decode cX12_not 8 = .ok (.aload_n 0, 1) := by decide +kernel
theorem dX12_not_9 : decode cX12_not 9 = .ok (.getfield 215, 3) := by decide +kernel
theorem dX12_not_12 : decode cX12_not 12 = .ok (.sipush 305, 3) := by decide +kernel
theorem dX12_not_15 : decode cX12_not 15 = .ok (.if_icmp .ne 28, 3) := by decide +kernel
theorem dX12_not_18 : decode cX12_not 18 = .ok (.aload_n 0, 1) := by decide +kernel
theorem dX12_not_19 : decode cX12_not 19 = .ok (.invokevirtual 269, 3) := by decide +kernel
theorem dX12_not_22 : decode cX12_not 22 = .ok (.aload_n 0, 1) := by decide +kernel
theorem dX12_not_23 : decode cX12_not 23 = .ok (.invokevirtual 266, 3) := by decide +kernel
theorem dX12_not_26 : decode cX12_not 26 = .ok (.aload_n 0, 1) := by decide +kernel
theorem dX12_not_27 : decode cX12_not 27 = .ok (.dup, 1) := by decide +kernel
theorem dX12_not_28 : decode cX12_not 28 = .ok (.getfield 246, 3) := by decide +kernel
theorem dX12_not_31 : decode cX12_not 31 = .ok (.iconst 1, 1) := by decide +kernel
theorem dX12_not_32 : decode cX12_not 32 = .ok (.isub, 1) := by decide +kernel
theorem dX12_not_33 : decode cX12_not 33 = .ok (.putfield 246, 3) := by decide +kernel
theorem dX12_not_36 : decode cX12_not 36 = .ok (.aload_n 0, 1) := by decide +kernel
theorem dX12_not_37 : decode cX12_not 37 = .ok (.iconst 4, 1) := by decide +kernel
theorem dX12_not_38 : decode cX12_not 38 = .ok (.iconst 0, 1) := by decide +kernel
theorem dX12_not_39 : decode cX12_not 39 = .ok (.invokevirtual 262, 3) := by decide +kernel
theorem dX12_not_42 : decode cX12_not 42 = .ok (.return_, 1) := by decide +kernel
theorem dX12_not_43 : decode cX12_not 43 = .ok (.aload_n 0, 1) := by decide +kernel
theorem dX12_not_44 : decode cX12_not 44 = .ok (.invokevirtual 272, 3) := by decide +kernel
theorem dX12_not_47 : decode cX12_not 47 = .ok (.aload_n 0, 1) := by decide +kernel
theorem dX12_not_48 : decode cX12_not 48 = .ok (.invokevirtual 236, 3) := by decide +kernel
theorem dX12_not_51 : decode cX12_not 51 = .ok (.ifCond .ne 51, 3) := by decide +kernel
theorem dX12_not_54 : decode cX12_not 54 = .ok (.aload_n 0, 1) := by decide +kernel
theorem dX12_not_55 : decode cX12_not 55 = .ok (.getfield 215, 3) := by decide +kernel
theorem dX12_not_58 : decode cX12_not 58 = .ok (.bipush 60, 2) := by decide +kernel
theorem dX12_not_60 : decode cX12_not 60 = .ok (.if_icmp .eq 12, 3) := by decide +kernel
theorem dX12_not_63 : decode cX12_not 63 = .ok (.aload_n 0, 1) := by decide +kernel
theorem dX12_not_64 : decode cX12_not 64 = .ok (.getfield 215, 3) := by decide +kernel
theorem dX12_not_67 : decode cX12_not 67 = .ok (.bipush 61, 2) := by decide +kernel
theorem dX12_not_69 : decode cX12_not 69 = .ok (.if_icmp .ne 33, 3) := by decide +kernel
theorem dX12_not_72 : decode cX12_not 72 = .ok (.aload_n 0, 1) := by decide +kernel
theorem dX12_not_73 : decode cX12_not 73 = .ok (.getfield 215, 3) := by decide +kernel
theorem dX12_not_76 : decode cX12_not 76 = .ok (.bipush 60, 2) := by decide +kernel
theorem dX12_not_78 : decode cX12_not 78 = .ok (.if_icmp .ne 7, 3) := by decide +kernel
theorem dX12_not_81 : decode cX12_not 81 = .ok (.iconst 5, 1) := by decide +kernel
theorem dX12_not_82 : decode cX12_not 82 = .ok (.goto 5, 3) := by decide +kernel
theorem dX12_not_85 : decode cX12_not 85 = .ok (.bipush 6, 2) := by decide +kernel
theorem dX12_not_87 : decode cX12_not 87 = .ok (.istore_n 1, 1) := by decide +kernel
theorem dX12_not_88 : decode cX12_not 88 = .ok (.aload_n 0, 1) := by decide +kernel
theorem dX12_not_89 : decode cX12_not 89 = .ok (.invokevirtual 243, 3) := by decide +kernel
theorem dX12_not_92 : decode cX12_not 92 = .ok (.aload_n 0, 1) := by decide +kernel
theorem dX12_not_93 : decode cX12_not 93 = .ok (.invokevirtual 272, 3) := by decide +kernel
theorem dX12_not_96 : decode cX12_not 96 = .ok (.aload_n 0, 1) := by decide +kernel
theorem dX12_not_97 : decode cX12_not 97 = .ok (.iload_n 1, 1) := by decide +kernel
theorem dX12_not_98 : decode cX12_not 98 = .ok (.iconst 0, 1) := by decide +kernel
theorem dX12_not_99 : decode cX12_not 99 = .ok (.invokevirtual 262, 3) := by decide +kernel
theorem dX12_not_102 : decode cX12_not 102 = .ok (.return_, 1) := by decide +kernel
theorem dX12_one_0 : decode cX12_one 0 = .ok (.aload_n 0, 1) := by decide +kernel
theorem dX12_one_1 : decode cX12_one 1 = .ok (.invokevirtual 236, 3) := by decide +kernel
theorem dX12_one_4 : decode cX12_one 4 = .ok (.ifCond .eq 4, 3) := by decide +kernel
theorem dX12_one_7 : decode cX12_one 7 = .ok (.return_, 1) := by decide +kernel
theorem dX12_one_8 : decode cX12_one 8 = .ok (.aload_n 0, 1) := by decide +kernel
theorem dX12_one_9 : decode cX12_one 9 = .ok (.getfield 215, 3) := by decide +kernel
theorem dX12_one_12 : decode cX12_one 12 = .ok (.iconst 1, 1) := by decide +kernel
theorem dX12_one_13 : decode cX12_one 13 = .ok (.if_icmp .eq 11, 3) := by decide +kernel
theorem dX12_one_16 : decode cX12_one 16 = .ok (.aload_n 0, 1) := by decide +kernel
theorem dX12_one_17 : decode cX12_one 17 = .ok (.getfield 215, 3) := by decide +kernel
theorem dX12_one_20 : decode cX12_one 20 = .ok (.iconst 3, 1) := by decide +kernel
theorem dX12_one_21 : decode cX12_one 21 = .ok (.if_icmp .ne 31, 3) := by decide +kernel
theorem dX12_one_24 : decode cX12_one 24 = .ok (.aload_n 0, 1) := by decide +kernel
theorem dX12_one_25 : decode cX12_one 25 = .ok (.aload_n 0, 1) := by decide +kernel
theorem dX12_one_26 : decode cX12_one 26 = .ok (.getfield 215, 3) := by decide +kernel
theorem dX12_one_29 : decode cX12_one 29 = .ok (.iconst 1, 1) := by decide +kernel
theorem dX12_one_30 : decode cX12_one 30 = .ok (.if_icmp .ne 7, 3) := by decide +kernel
theorem dX12_one_33 : decode cX12_one 33 = .ok (.iconst 0, 1) := by decide +kernel
theorem dX12_one_34 : decode cX12_one 34 = .ok (.goto 4, 3) := by decide +kernel
theorem dX12_one_37 : decode cX12_one 37 = .ok (.iconst 1, 1) := by decide +kernel
theorem dX12_one_38 : decode cX12_one 38 = .ok (.aload_n 0, 1) := by decide +kernel
theorem dX12_one_39 : decode cX12_one 39 = .ok (.getfield 230, 3) := by decide +kernel
theorem dX12_one_42 : decode cX12_one 42 = .ok (.invokevirtual 262, 3) := by decide +kernel
theorem dX12_one_45 : decode cX12_one 45 = .ok (.aload_n 0, 1) := by decide +kernel
theorem dX12_one_46 : decode cX12_one 46 = .ok (.invokevirtual 243, 3) := by decide +kernel
theorem dX12_one_49 : decode cX12_one 49 = .ok (.goto 80, 3) := by decide +kernel
theorem dX12_one_52 : decode cX12_one 52 = .ok (.aload_n 0, 1) := by decide +kernel
theorem dX12_one_53 : decode cX12_one 53 = .ok (.getfield 215, 3) := by decide +kernel
theorem dX12_one_56 : decode cX12_one 56 = .ok (.bipush 45, 2) := by decide +kernel
theorem dX12_one_58 : decode cX12_one 58 = .ok (.if_icmp .ne 31, 3) := by decide +kernel
theorem dX12_one_61 : decode cX12_one 61 = .ok (.aload_n 0, 1) := by decide +kernel
theorem dX12_one_62 : decode cX12_one 62 = .ok (.invokevirtual 269, 3) := by decide +kernel
theorem dX12_one_65 : decode cX12_one 65 = .ok (.aload_n 0, 1) := by decide +kernel
theorem dX12_one_66 : decode cX12_one 66 = .ok (.invokevirtual 278, 3) := by decide +kernel
theorem dX12_one_69 : decode cX12_one 69 = .ok (.aload_n 0, 1) := by decide +kernel
theorem dX12_one_70 : decode cX12_one 70 = .ok (.dup, 1) := by decide +kernel
theorem dX12_one_71 : decode cX12_one 71 = .ok (.getfield 246, 3) := by decide +kernel
theorem dX12_one_74 : decode cX12_one 74 = .ok (.iconst 1, 1) := by decide +kernel
theorem dX12_one_75 : decode cX12_one 75 = .ok (.isub, 1) := by decide +kernel
theorem dX12_one_76 : decode cX12_one 76 = .ok (.putfield 246, 3) := by decide +kernel
theorem dX12_one_79 : decode cX12_one 79 = .ok (.aload_n 0, 1) := by decide +kernel
theorem dX12_one_80 : decode cX12_one 80 = .ok (.bipush 10, 2) := by decide +kernel
theorem dX12_one_82 : decode cX12_one 82 = .ok (.iconst 0, 1) := by decide +kernel
theorem dX12_one_83 : decode cX12_one 83 = .ok (.invokevirtual 262, 3) := by decide +kernel
theorem dX12_one_86 : decode cX12_one 86 = .ok (.goto 43, 3) := by decide +kernel
theorem dX12_one_89 : decode cX12_one 89 = .ok (.aload_n 0, 1) := by decide +kernel
theorem dX12_one_90 : decode cX12_one 90 = .ok (.getfield 215, 3) := by decide +kernel
theorem dX12_one_93 : decode cX12_one 93 = .ok (.bipush 40, 2) := by decide +kernel
theorem dX12_one_95 : decode cX12_one 95 = .ok (.if_icmp .ne 30, 3) := by decide +kernel
theorem dX12_one_98 : decode cX12_one 98 = .ok (.aload_n 0, 1) := by decide +kernel
theorem dX12_one_99 : decode cX12_one 99 = .ok (.invokevirtual 269, 3) := by decide +kernel
theorem dX12_one_102 : decode cX12_one 102 = .ok (.aload_n 0, 1) := by decide +kernel
theorem dX12_one_103 : decode cX12_one 103 = .ok (.invokevirtual 256, 3) := by decide +kernel
theorem dX12_one_106 : decode cX12_one 106 = .ok (.aload_n 0, 1) := by decide +kernel
theorem dX12_one_107 : decode cX12_one 107 = .ok (.bipush 41, 2) := by decide +kernel
theorem dX12_one_109 : decode cX12_one 109 = .ok (.invokevirtual 254, 3) := by decide +kernel
theorem dX12_one_112 : decode cX12_one 112 = .ok (.aload_n 0, 1) := by decide +kernel
theorem dX12_one_113 : decode cX12_one 113 = .ok (.dup, 1) := by decide +kernel
theorem dX12_one_114 : decode cX12_one 114 = .ok (.getfield 246, 3) := by decide +kernel
theorem dX12_one_117 : decode cX12_one 117 = .ok (.iconst 1, 1) := by decide +kernel
theorem dX12_one_118 : decode cX12_one 118 = .ok (.isub, 1) := by decide +kernel
theorem dX12_one_119 : decode cX12_one 119 = .ok (.putfield 246, 3) := by decide +kernel
theorem dX12_one_122 : decode cX12_one 122 = .ok (.goto 7, 3) := by decide +kernel
theorem dX12_one_125 : decode cX12_one 125 = .ok (.aload_n 0, 1) := by decide +kernel
theorem dX12_one_126 : decode cX12_one 126 = .ok (.invokevirtual 240, 3) := by decide +kernel
theorem dX12_one_129 : decode cX12_one 129 = .ok (.return_, 1) := by decide +kernel
theorem dX12_sum_0 : decode cX12_sum 0 = .ok (.aload_n 0, 1) := by decide +kernel
theorem dX12_sum_1 : decode cX12_sum 1 = .ok (.invokevirtual 275, 3) := by decide +kernel
theorem dX12_sum_4 : decode cX12_sum 4 = .ok (.aload_n 0, 1) := by decide +kernel
theorem dX12_sum_5 : decode cX12_sum 5 = .ok (.invokevirtual 236, 3) := by decide +kernel
theorem dX12_sum_8 : decode cX12_sum 8 = .ok (.ifCond .ne 55, 3) := by decide +kernel
theorem dX12_sum_11 : decode cX12_sum 11 = .ok (.aload_n 0, 1) := by decide +kernel
theorem dX12_sum_12 : decode cX12_sum 12 = .ok (.getfield 215, 3) := by decide +kernel
theorem dX12_sum_15 : decode cX12_sum 15 = .ok (.bipush 43, 2) := by decide +kernel
theorem dX12_sum_17 : decode cX12_sum 17 = .ok (.if_icmp .eq 12, 3) := by decide +kernel
theorem dX12_sum_20 : decode cX12_sum 20 = .ok (.aload_n 0, 1) := by decide +kernel
theorem dX12_sum_21 : decode cX12_sum 21 = .ok (.getfield 215, 3) := by decide +kernel
theorem dX12_sum_24 : decode cX12_sum 24 = .ok (.bipush 45, 2) := by decide +kernel
theorem dX12_sum_26 : decode cX12_sum 26 = .ok (.if_icmp .ne 37, 3) := by decide +kernel
theorem dX12_sum_29 : decode cX12_sum 29 = .ok (.aload_n 0, 1) := by decide +kernel
theorem dX12_sum_30 : decode cX12_sum 30 = .ok (.getfield 215, 3) := by decide +kernel
theorem dX12_sum_33 : decode cX12_sum 33 = .ok (.bipush 43, 2) := by decide +kernel
theorem dX12_sum_35 : decode cX12_sum 35 = .ok (.if_icmp .ne 8, 3) := by decide +kernel
theorem dX12_sum_38 : decode cX12_sum 38 = .ok (.bipush 7, 2) := by decide +kernel
theorem dX12_sum_40 : decode cX12_sum 40 = .ok (.goto 5, 3) := by decide +kernel
theorem dX12_sum_43 : decode cX12_sum 43 = .ok (.bipush 8, 2) := by decide +kernel
theorem dX12_sum_45 : decode cX12_sum 45 = .ok (.istore_n 1, 1) := by decide +kernel
theorem dX12_sum_46 : decode cX12_sum 46 = .ok (.aload_n 0, 1) := by decide +kernel
theorem dX12_sum_47 : decode cX12_sum 47 = .ok (.invokevirtual 243, 3) := by decide +kernel
theorem dX12_sum_50 : decode cX12_sum 50 = .ok (.aload_n 0, 1) := by decide +kernel
theorem dX12_sum_51 : decode cX12_sum 51 = .ok (.invokevirtual 275, 3) := by decide +kernel
theorem dX12_sum_54 : decode cX12_sum 54 = .ok (.aload_n 0, 1) := by decide +kernel
theorem dX12_sum_55 : decode cX12_sum 55 = .ok (.iload_n 1, 1) := by decide +kernel
theorem dX12_sum_56 : decode cX12_sum 56 = .ok (.iconst 0, 1) := by decide +kernel
theorem dX12_sum_57 : decode cX12_sum 57 = .ok (.invokevirtual 262, 3) := by decide +kernel
theorem dX12_sum_60 : decode cX12_sum 60 = .ok (.goto (-56), 3) := by decide +kernel
theorem dX12_sum_63 : decode cX12_sum 63 = .ok (.return_, 1) := by decide +kernel
theorem dX12_term_0 : decode cX12_term 0 = .ok (.aload_n 0, 1) := by decide +kernel
theorem dX12_term_1 : decode cX12_term 1 = .ok (.invokevirtual 278, 3) := by decide +kernel
theorem dX12_term_4 : decode cX12_term 4 = .ok (.aload_n 0, 1) := by decide +kernel
theorem dX12_term_5 : decode cX12_term 5 = .ok (.invokevirtual 236, 3) := by decide +kernel
theorem dX12_term_8 : decode cX12_term 8 = .ok (.ifCond .ne 30, 3) := by decide +kernel
theorem dX12_term_11 : decode cX12_term 11 = .ok (.aload_n 0, 1) := by decide +kernel
theorem dX12_term_12 : decode cX12_term 12 = .ok (.getfield 215, 3) := by decide +kernel
theorem dX12_term_15 : decode cX12_term 15 = .ok (.bipush 42, 2) := by decide +kernel
theorem dX12_term_17 : decode cX12_term 17 = .ok (.if_icmp .ne 21, 3) := by decide +kernel
theorem dX12_term_20 : decode cX12_term 20 = .ok (.aload_n 0, 1) := by decide +kernel
theorem dX12_term_21 : decode cX12_term 21 = .ok (.invokevirtual 243, 3) := by decide +kernel
theorem dX12_term_24 : decode cX12_term 24 = .ok (.aload_n 0, 1) := by decide +kernel
theorem dX12_term_25 : decode cX12_term 25 = .ok (.invokevirtual 278, 3) := by decide +kernel
theorem dX12_term_28 : decode cX12_term 28 = .ok (.aload_n 0, 1) := by decide +kernel
theorem dX12_term_29 : decode cX12_term 29 = .ok (.bipush 9, 2) := by decide +kernel
theorem dX12_term_31 : decode cX12_term 31 = .ok (.iconst 0, 1) := by decide +kernel
theorem dX12_term_32 : decode cX12_term 32 = .ok (.invokevirtual 262, 3) := by decide +kernel
theorem dX12_term_35 : decode cX12_term 35 = .ok (.goto (-31), 3) := by decide +kernel
theorem dX12_term_38 : decode cX12_term 38 = .ok (.return_, 1) := by decide +kernel
theorem dX12_told_0 : decode cX12_told 0 = .ok (.aload_n 0, 1) := by decide +kernel
theorem dX12_told_1 : decode cX12_told 1 = .ok (.iload_n 1, 1) := by decide +kernel
theorem dX12_told_2 : decode cX12_told 2 = .ok (.invokevirtual 254, 3) := by decide +kernel
theorem dX12_told_5 : decode cX12_told 5 = .ok (.aload_n 0, 1) := by decide +kernel
theorem dX12_told_6 : decode cX12_told 6 = .ok (.invokevirtual 256, 3) := by decide +kernel
theorem dX12_told_9 : decode cX12_told 9 = .ok (.aload_n 0, 1) := by decide +kernel
theorem dX12_told_10 : decode cX12_told 10 = .ok (.bipush 59, 2) := by decide +kernel
theorem dX12_told_12 : decode cX12_told 12 = .ok (.invokevirtual 254, 3) := by decide +kernel
theorem dX12_told_15 : decode cX12_told 15 = .ok (.return_, 1) := by decide +kernel
theorem dX12_reads_0 : decode cX12_reads 0 = .ok (.aload_n 0, 1) := by decide +kernel
theorem dX12_reads_1 : decode cX12_reads 1 = .ok (.iload_n 1, 1) := by decide +kernel
theorem dX12_reads_2 : decode cX12_reads 2 = .ok (.putfield 203, 3) := by decide +kernel
theorem dX12_reads_5 : decode cX12_reads 5 = .ok (.aload_n 0, 1) := by decide +kernel
theorem dX12_reads_6 : decode cX12_reads 6 = .ok (.iconst 0, 1) := by decide +kernel
theorem dX12_reads_7 : decode cX12_reads 7 = .ok (.putfield 206, 3) := by decide +kernel
theorem dX12_reads_10 : decode cX12_reads 10 = .ok (.aload_n 0, 1) := by decide +kernel
theorem dX12_reads_11 : decode cX12_reads 11 = .ok (.iconst (-1), 1) := by decide +kernel
theorem dX12_reads_12 : decode cX12_reads 12 = .ok (.putfield 233, 3) := by decide +kernel
theorem dX12_reads_15 : decode cX12_reads 15 = .ok (.aload_n 0, 1) := by decide +kernel
theorem dX12_reads_16 : decode cX12_reads 16 = .ok (.iconst 0, 1) := by decide +kernel
theorem dX12_reads_17 : decode cX12_reads 17 = .ok (.putfield 246, 3) := by decide +kernel
theorem dX12_reads_20 : decode cX12_reads 20 = .ok (.aload_n 0, 1) := by decide +kernel
theorem dX12_reads_21 : decode cX12_reads 21 = .ok (.iconst 0, 1) := by decide +kernel
theorem dX12_reads_22 : decode cX12_reads 22 = .ok (.putfield 249, 3) := by decide +kernel
theorem dX12_reads_25 : decode cX12_reads 25 = .ok (.aload_n 0, 1) := by decide +kernel
theorem dX12_reads_26 : decode cX12_reads 26 = .ok (.getfield 86, 3) := by decide +kernel
theorem dX12_reads_29 : decode cX12_reads 29 = .ok (.iload_n 1, 1) := by decide +kernel
theorem dX12_reads_30 : decode cX12_reads 30 = .ok (.iconst 0, 1) := by decide +kernel
theorem dX12_reads_31 : decode cX12_reads 31 = .ok (.iastore, 1) := by decide +kernel
theorem dX12_reads_32 : decode cX12_reads 32 = .ok (.aload_n 0, 1) := by decide +kernel
theorem dX12_reads_33 : decode cX12_reads 33 = .ok (.invokevirtual 243, 3) := by decide +kernel
theorem dX12_reads_36 : decode cX12_reads 36 = .ok (.aload_n 0, 1) := by decide +kernel
theorem dX12_reads_37 : decode cX12_reads 37 = .ok (.invokevirtual 236, 3) := by decide +kernel
theorem dX12_reads_40 : decode cX12_reads 40 = .ok (.ifCond .ne 71, 3) := by decide +kernel
theorem dX12_reads_43 : decode cX12_reads 43 = .ok (.aload_n 0, 1) := by decide +kernel
theorem dX12_reads_44 : decode cX12_reads 44 = .ok (.getfield 215, 3) := by decide +kernel
theorem dX12_reads_47 : decode cX12_reads 47 = .ok (.sipush 300, 3) := by decide +kernel
theorem dX12_reads_50 : decode cX12_reads 50 = .ok (.if_icmp .ne 61, 3) := by decide +kernel
theorem dX12_reads_53 : decode cX12_reads 53 = .ok (.aload_n 0, 1) := by decide +kernel
theorem dX12_reads_54 : decode cX12_reads 54 = .ok (.getfield 86, 3) := by decide +kernel
theorem dX12_reads_57 : decode cX12_reads 57 = .ok (.iload_n 1, 1) := by decide +kernel
theorem dX12_reads_58 : decode cX12_reads 58 = .ok (.iaload, 1) := by decide +kernel
theorem dX12_reads_59 : decode cX12_reads 59 = .ok (.bipush 8, 2) := by decide +kernel
theorem dX12_reads_61 : decode cX12_reads 61 = .ok (.if_icmp .ne 10, 3) := by decide +kernel
theorem dX12_reads_64 : decode cX12_reads 64 = .ok (.aload_n 0, 1) := by decide +kernel
theorem dX12_reads_65 : decode cX12_reads 65 = .ok (.invokevirtual 240, 3) := by decide +kernel
theorem dX12_reads_68 : decode cX12_reads 68 = .ok (.goto (-32), 3) := by decide +kernel
theorem dX12_reads_71 : decode cX12_reads 71 = .ok (.aload_n 0, 1) := by decide +kernel
theorem dX12_reads_72 : decode cX12_reads 72 = .ok (.getfield 89, 3) := by decide +kernel
theorem dX12_reads_75 : decode cX12_reads 75 = .ok (.bipush 11, 2) := by decide +kernel
theorem dX12_reads_77 : decode cX12_reads 77 = .ok (.iload_n 1, 1) := by decide +kernel
theorem dX12_reads_78 : decode cX12_reads 78 = .ok (.imul, 1) := by decide +kernel
theorem dX12_reads_79 : decode cX12_reads 79 = .ok (.aload_n 0, 1) := by decide +kernel
theorem dX12_reads_80 : decode cX12_reads 80 = .ok (.getfield 86, 3) := by decide +kernel
theorem dX12_reads_83 : decode cX12_reads 83 = .ok (.iload_n 1, 1) := by decide +kernel
theorem dX12_reads_84 : decode cX12_reads 84 = .ok (.iaload, 1) := by decide +kernel
theorem dX12_reads_85 : decode cX12_reads 85 = .ok (.iadd, 1) := by decide +kernel
theorem dX12_reads_86 : decode cX12_reads 86 = .ok (.aload_n 0, 1) := by decide +kernel
theorem dX12_reads_87 : decode cX12_reads 87 = .ok (.getfield 249, 3) := by decide +kernel
theorem dX12_reads_90 : decode cX12_reads 90 = .ok (.iastore, 1) := by decide +kernel
theorem dX12_reads_91 : decode cX12_reads 91 = .ok (.aload_n 0, 1) := by decide +kernel
theorem dX12_reads_92 : decode cX12_reads 92 = .ok (.getfield 86, 3) := by decide +kernel
theorem dX12_reads_95 : decode cX12_reads 95 = .ok (.iload_n 1, 1) := by decide +kernel
theorem dX12_reads_96 : decode cX12_reads 96 = .ok (.dup2, 1) := by decide +kernel
theorem dX12_reads_97 : decode cX12_reads 97 = .ok (.iaload, 1) := by decide +kernel
theorem dX12_reads_98 : decode cX12_reads 98 = .ok (.iconst 1, 1) := by decide +kernel
theorem dX12_reads_99 : decode cX12_reads 99 = .ok (.iadd, 1) := by decide +kernel
theorem dX12_reads_100 : decode cX12_reads 100 = .ok (.iastore, 1) := by decide +kernel
theorem dX12_reads_101 : decode cX12_reads 101 = .ok (.aload_n 0, 1) := by decide +kernel
theorem dX12_reads_102 : decode cX12_reads 102 = .ok (.sipush 300, 3) := by decide +kernel
theorem dX12_reads_105 : decode cX12_reads 105 = .ok (.invokevirtual 252, 3) := by decide +kernel
theorem dX12_reads_108 : decode cX12_reads 108 = .ok (.goto (-72), 3) := by decide +kernel
theorem dX12_reads_111 : decode cX12_reads 111 = .ok (.aload_n 0, 1) := by decide +kernel
theorem dX12_reads_112 : decode cX12_reads 112 = .ok (.getfield 89, 3) := by decide +kernel
theorem dX12_reads_115 : decode cX12_reads 115 = .ok (.bipush 11, 2) := by decide +kernel
theorem dX12_reads_117 : decode cX12_reads 117 = .ok (.iload_n 1, 1) := by decide +kernel
theorem dX12_reads_118 : decode cX12_reads 118 = .ok (.imul, 1) := by decide +kernel
theorem dX12_reads_119 : decode cX12_reads 119 = .ok (.aload_n 0, 1) := by decide +kernel
theorem dX12_reads_120 : decode cX12_reads 120 = .ok (.getfield 86, 3) := by decide +kernel
theorem dX12_reads_123 : decode cX12_reads 123 = .ok (.iload_n 1, 1) := by decide +kernel
theorem dX12_reads_124 : decode cX12_reads 124 = .ok (.iaload, 1) := by decide +kernel
theorem dX12_reads_125 : decode cX12_reads 125 = .ok (.iadd, 1) := by decide +kernel
theorem dX12_reads_126 : decode cX12_reads 126 = .ok (.aload_n 0, 1) := by decide +kernel
theorem dX12_reads_127 : decode cX12_reads 127 = .ok (.getfield 249, 3) := by decide +kernel
theorem dX12_reads_130 : decode cX12_reads 130 = .ok (.iastore, 1) := by decide +kernel
theorem dX12_reads_131 : decode cX12_reads 131 = .ok (.aload_n 0, 1) := by decide +kernel
theorem dX12_reads_132 : decode cX12_reads 132 = .ok (.sipush 301, 3) := by decide +kernel
theorem dX12_reads_135 : decode cX12_reads 135 = .ok (.invokevirtual 252, 3) := by decide +kernel
theorem dX12_reads_138 : decode cX12_reads 138 = .ok (.aload_n 0, 1) := by decide +kernel
theorem dX12_reads_139 : decode cX12_reads 139 = .ok (.getfield 89, 3) := by decide +kernel
theorem dX12_reads_142 : decode cX12_reads 142 = .ok (.bipush 11, 2) := by decide +kernel
theorem dX12_reads_144 : decode cX12_reads 144 = .ok (.iload_n 1, 1) := by decide +kernel
theorem dX12_reads_145 : decode cX12_reads 145 = .ok (.imul, 1) := by decide +kernel
theorem dX12_reads_146 : decode cX12_reads 146 = .ok (.aload_n 0, 1) := by decide +kernel
theorem dX12_reads_147 : decode cX12_reads 147 = .ok (.getfield 86, 3) := by decide +kernel
theorem dX12_reads_150 : decode cX12_reads 150 = .ok (.iload_n 1, 1) := by decide +kernel
theorem dX12_reads_151 : decode cX12_reads 151 = .ok (.iaload, 1) := by decide +kernel
theorem dX12_reads_152 : decode cX12_reads 152 = .ok (.iadd, 1) := by decide +kernel
theorem dX12_reads_153 : decode cX12_reads 153 = .ok (.iconst 1, 1) := by decide +kernel
theorem dX12_reads_154 : decode cX12_reads 154 = .ok (.iadd, 1) := by decide +kernel
theorem dX12_reads_155 : decode cX12_reads 155 = .ok (.aload_n 0, 1) := by decide +kernel
theorem dX12_reads_156 : decode cX12_reads 156 = .ok (.getfield 249, 3) := by decide +kernel
theorem dX12_reads_159 : decode cX12_reads 159 = .ok (.iastore, 1) := by decide +kernel
theorem dX12_reads_160 : decode cX12_reads 160 = .ok (.aload_n 0, 1) := by decide +kernel
theorem dX12_reads_161 : decode cX12_reads 161 = .ok (.sipush 302, 3) := by decide +kernel
theorem dX12_reads_164 : decode cX12_reads 164 = .ok (.invokevirtual 252, 3) := by decide +kernel
theorem dX12_reads_167 : decode cX12_reads 167 = .ok (.aload_n 0, 1) := by decide +kernel
theorem dX12_reads_168 : decode cX12_reads 168 = .ok (.getfield 89, 3) := by decide +kernel
theorem dX12_reads_171 : decode cX12_reads 171 = .ok (.bipush 11, 2) := by decide +kernel
theorem dX12_reads_173 : decode cX12_reads 173 = .ok (.iload_n 1, 1) := by decide +kernel
theorem dX12_reads_174 : decode cX12_reads 174 = .ok (.imul, 1) := by decide +kernel
theorem dX12_reads_175 : decode cX12_reads 175 = .ok (.aload_n 0, 1) := by decide +kernel
theorem dX12_reads_176 : decode cX12_reads 176 = .ok (.getfield 86, 3) := by decide +kernel
theorem dX12_reads_179 : decode cX12_reads 179 = .ok (.iload_n 1, 1) := by decide +kernel
theorem dX12_reads_180 : decode cX12_reads 180 = .ok (.iaload, 1) := by decide +kernel
theorem dX12_reads_181 : decode cX12_reads 181 = .ok (.iadd, 1) := by decide +kernel
theorem dX12_reads_182 : decode cX12_reads 182 = .ok (.iconst 2, 1) := by decide +kernel
theorem dX12_reads_183 : decode cX12_reads 183 = .ok (.iadd, 1) := by decide +kernel
theorem dX12_reads_184 : decode cX12_reads 184 = .ok (.aload_n 0, 1) := by decide +kernel
theorem dX12_reads_185 : decode cX12_reads 185 = .ok (.getfield 249, 3) := by decide +kernel
theorem dX12_reads_188 : decode cX12_reads 188 = .ok (.iastore, 1) := by decide +kernel
theorem dX12_reads_189 : decode cX12_reads 189 = .ok (.aload_n 0, 1) := by decide +kernel
theorem dX12_reads_190 : decode cX12_reads 190 = .ok (.iconst 0, 1) := by decide +kernel
theorem dX12_reads_191 : decode cX12_reads 191 = .ok (.invokevirtual 254, 3) := by decide +kernel
theorem dX12_reads_194 : decode cX12_reads 194 = .ok (.return_, 1) := by decide +kernel
theorem dX12_init_0 : decode cX12_init 0 = .ok (.aload_n 0, 1) := by decide +kernel
theorem dX12_init_1 : decode cX12_init 1 = .ok (.invokespecial 1, 3) := by decide +kernel
theorem dX12_init_4 : decode cX12_init 4 = .ok (.aload_n 0, 1) := by decide +kernel
theorem dX12_init_5 : decode cX12_init 5 = .ok (.bipush 12, 2) := by decide +kernel
theorem dX12_init_7 : decode cX12_init 7 = .ok (.newarray .int, 2) := by decide +kernel
theorem dX12_init_9 : decode cX12_init 9 = .ok (.putfield 7, 3) := by decide +kernel
theorem dX12_init_12 : decode cX12_init 12 = .ok (.aload_n 0, 1) := by decide +kernel
theorem dX12_init_13 : decode cX12_init 13 = .ok (.bipush 12, 2) := by decide +kernel
theorem dX12_init_15 : decode cX12_init 15 = .ok (.newarray .int, 2) := by decide +kernel
theorem dX12_init_17 : decode cX12_init 17 = .ok (.putfield 13, 3) := by decide +kernel
theorem dX12_init_20 : decode cX12_init 20 = .ok (.aload_n 0, 1) := by decide +kernel
theorem dX12_init_21 : decode cX12_init 21 = .ok (.bipush 12, 2) := by decide +kernel
theorem dX12_init_23 : decode cX12_init 23 = .ok (.newarray .int, 2) := by decide +kernel
theorem dX12_init_25 : decode cX12_init 25 = .ok (.putfield 16, 3) := by decide +kernel
theorem dX12_init_28 : decode cX12_init 28 = .ok (.aload_n 0, 1) := by decide +kernel
theorem dX12_init_29 : decode cX12_init 29 = .ok (.bipush 12, 2) := by decide +kernel
theorem dX12_init_31 : decode cX12_init 31 = .ok (.newarray .int, 2) := by decide +kernel
theorem dX12_init_33 : decode cX12_init 33 = .ok (.putfield 19, 3) := by decide +kernel
theorem dX12_init_36 : decode cX12_init 36 = .ok (.aload_n 0, 1) := by decide +kernel
theorem dX12_init_37 : decode cX12_init 37 = .ok (.bipush 12, 2) := by decide +kernel
theorem dX12_init_39 : decode cX12_init 39 = .ok (.newarray .int, 2) := by decide +kernel
theorem dX12_init_41 : decode cX12_init 41 = .ok (.putfield 22, 3) := by decide +kernel
theorem dX12_init_44 : decode cX12_init 44 = .ok (.aload_n 0, 1) := by decide +kernel
theorem dX12_init_45 : decode cX12_init 45 = .ok (.bipush 12, 2) := by decide +kernel
theorem dX12_init_47 : decode cX12_init 47 = .ok (.newarray .int, 2) := by decide +kernel
theorem dX12_init_49 : decode cX12_init 49 = .ok (.putfield 25, 3) := by decide +kernel
theorem dX12_init_52 : decode cX12_init 52 = .ok (.aload_n 0, 1) := by decide +kernel
theorem dX12_init_53 : decode cX12_init 53 = .ok (.bipush 10, 2) := by decide +kernel
theorem dX12_init_55 : decode cX12_init 55 = .ok (.newarray .int, 2) := by decide +kernel
theorem dX12_init_57 : decode cX12_init 57 = .ok (.putfield 28, 3) := by decide +kernel
theorem dX12_init_60 : decode cX12_init 60 = .ok (.aload_n 0, 1) := by decide +kernel
theorem dX12_init_61 : decode cX12_init 61 = .ok (.bipush 10, 2) := by decide +kernel
theorem dX12_init_63 : decode cX12_init 63 = .ok (.newarray .int, 2) := by decide +kernel
theorem dX12_init_65 : decode cX12_init 65 = .ok (.putfield 31, 3) := by decide +kernel
theorem dX12_init_68 : decode cX12_init 68 = .ok (.aload_n 0, 1) := by decide +kernel
theorem dX12_init_69 : decode cX12_init 69 = .ok (.bipush 10, 2) := by decide +kernel
theorem dX12_init_71 : decode cX12_init 71 = .ok (.newarray .int, 2) := by decide +kernel
theorem dX12_init_73 : decode cX12_init 73 = .ok (.putfield 34, 3) := by decide +kernel
theorem dX12_init_76 : decode cX12_init 76 = .ok (.aload_n 0, 1) := by decide +kernel
theorem dX12_init_77 : decode cX12_init 77 = .ok (.bipush 10, 2) := by decide +kernel
theorem dX12_init_79 : decode cX12_init 79 = .ok (.newarray .int, 2) := by decide +kernel
theorem dX12_init_81 : decode cX12_init 81 = .ok (.putfield 37, 3) := by decide +kernel
theorem dX12_init_84 : decode cX12_init 84 = .ok (.aload_n 0, 1) := by decide +kernel
theorem dX12_init_85 : decode cX12_init 85 = .ok (.bipush 60, 2) := by decide +kernel
theorem dX12_init_87 : decode cX12_init 87 = .ok (.newarray .int, 2) := by decide +kernel
theorem dX12_init_89 : decode cX12_init 89 = .ok (.putfield 40, 3) := by decide +kernel
theorem dX12_init_92 : decode cX12_init 92 = .ok (.aload_n 0, 1) := by decide +kernel
theorem dX12_init_93 : decode cX12_init 93 = .ok (.bipush 60, 2) := by decide +kernel
theorem dX12_init_95 : decode cX12_init 95 = .ok (.newarray .int, 2) := by decide +kernel
theorem dX12_init_97 : decode cX12_init 97 = .ok (.putfield 43, 3) := by decide +kernel
theorem dX12_init_100 : decode cX12_init 100 = .ok (.aload_n 0, 1) := by decide +kernel
theorem dX12_init_101 : decode cX12_init 101 = .ok (.bipush 40, 2) := by decide +kernel
theorem dX12_init_103 : decode cX12_init 103 = .ok (.newarray .int, 2) := by decide +kernel
theorem dX12_init_105 : decode cX12_init 105 = .ok (.putfield 46, 3) := by decide +kernel
theorem dX12_init_108 : decode cX12_init 108 = .ok (.aload_n 0, 1) := by decide +kernel
theorem dX12_init_109 : decode cX12_init 109 = .ok (.bipush 40, 2) := by decide +kernel
theorem dX12_init_111 : decode cX12_init 111 = .ok (.newarray .int, 2) := by decide +kernel
theorem dX12_init_113 : decode cX12_init 113 = .ok (.putfield 49, 3) := by decide +kernel
theorem dX12_init_116 : decode cX12_init 116 = .ok (.aload_n 0, 1) := by decide +kernel
theorem dX12_init_117 : decode cX12_init 117 = .ok (.bipush 40, 2) := by decide +kernel
theorem dX12_init_119 : decode cX12_init 119 = .ok (.newarray .int, 2) := by decide +kernel
theorem dX12_init_121 : decode cX12_init 121 = .ok (.putfield 52, 3) := by decide +kernel
theorem dX12_init_124 : decode cX12_init 124 = .ok (.aload_n 0, 1) := by decide +kernel
theorem dX12_init_125 : decode cX12_init 125 = .ok (.bipush 40, 2) := by decide +kernel
theorem dX12_init_127 : decode cX12_init 127 = .ok (.newarray .int, 2) := by decide +kernel
theorem dX12_init_129 : decode cX12_init 129 = .ok (.putfield 55, 3) := by decide +kernel
theorem dX12_init_132 : decode cX12_init 132 = .ok (.aload_n 0, 1) := by decide +kernel
theorem dX12_init_133 : decode cX12_init 133 = .ok (.bipush 40, 2) := by decide +kernel
theorem dX12_init_135 : decode cX12_init 135 = .ok (.newarray .int, 2) := by decide +kernel
theorem dX12_init_137 : decode cX12_init 137 = .ok (.putfield 58, 3) := by decide +kernel
theorem dX12_init_140 : decode cX12_init 140 = .ok (.aload_n 0, 1) := by decide +kernel
theorem dX12_init_141 : decode cX12_init 141 = .ok (.sipush 200, 3) := by decide +kernel
theorem dX12_init_144 : decode cX12_init 144 = .ok (.newarray .int, 2) := by decide +kernel
theorem dX12_init_146 : decode cX12_init 146 = .ok (.putfield 61, 3) := by decide +kernel
theorem dX12_init_149 : decode cX12_init 149 = .ok (.aload_n 0, 1) := by decide +kernel
theorem dX12_init_150 : decode cX12_init 150 = .ok (.sipush 480, 3) := by decide +kernel
theorem dX12_init_153 : decode cX12_init 153 = .ok (.newarray .int, 2) := by decide +kernel
theorem dX12_init_155 : decode cX12_init 155 = .ok (.putfield 64, 3) := by decide +kernel
theorem dX12_init_158 : decode cX12_init 158 = .ok (.aload_n 0, 1) := by decide +kernel
theorem dX12_init_159 : decode cX12_init 159 = .ok (.bipush 40, 2) := by decide +kernel
theorem dX12_init_161 : decode cX12_init 161 = .ok (.newarray .boolean, 2) := by decide +kernel
theorem dX12_init_163 : decode cX12_init 163 = .ok (.putfield 67, 3) := by decide +kernel
theorem dX12_init_166 : decode cX12_init 166 = .ok (.aload_n 0, 1) := by decide +kernel
theorem dX12_init_167 : decode cX12_init 167 = .ok (.sipush 300, 3) := by decide +kernel
theorem dX12_init_170 : decode cX12_init 170 = .ok (.newarray .int, 2) := by decide +kernel
theorem dX12_init_172 : decode cX12_init 172 = .ok (.putfield 71, 3) := by decide +kernel
theorem dX12_init_175 : decode cX12_init 175 = .ok (.aload_n 0, 1) := by decide +kernel
theorem dX12_init_176 : decode cX12_init 176 = .ok (.bipush 11, 2) := by decide +kernel
theorem dX12_init_178 : decode cX12_init 178 = .ok (.newarray .int, 2) := by decide +kernel
theorem dX12_init_180 : decode cX12_init 180 = .ok (.putfield 74, 3) := by decide +kernel
theorem dX12_init_183 : decode cX12_init 183 = .ok (.aload_n 0, 1) := by decide +kernel
theorem dX12_init_184 : decode cX12_init 184 = .ok (.sipush 3300, 3) := by decide +kernel
theorem dX12_init_187 : decode cX12_init 187 = .ok (.newarray .int, 2) := by decide +kernel
theorem dX12_init_189 : decode cX12_init 189 = .ok (.putfield 77, 3) := by decide +kernel
theorem dX12_init_192 : decode cX12_init 192 = .ok (.aload_n 0, 1) := by decide +kernel
theorem dX12_init_193 : decode cX12_init 193 = .ok (.sipush 3300, 3) := by decide +kernel
theorem dX12_init_196 : decode cX12_init 196 = .ok (.newarray .int, 2) := by decide +kernel
theorem dX12_init_198 : decode cX12_init 198 = .ok (.putfield 80, 3) := by decide +kernel
theorem dX12_init_201 : decode cX12_init 201 = .ok (.aload_n 0, 1) := by decide +kernel
theorem dX12_init_202 : decode cX12_init 202 = .ok (.sipush 3300, 3) := by decide +kernel
theorem dX12_init_205 : decode cX12_init 205 = .ok (.newarray .int, 2) := by decide +kernel
theorem dX12_init_207 : decode cX12_init 207 = .ok (.putfield 83, 3) := by decide +kernel
theorem dX12_init_210 : decode cX12_init 210 = .ok (.aload_n 0, 1) := by decide +kernel
theorem dX12_init_211 : decode cX12_init 211 = .ok (.bipush 11, 2) := by decide +kernel
theorem dX12_init_213 : decode cX12_init 213 = .ok (.newarray .int, 2) := by decide +kernel
theorem dX12_init_215 : decode cX12_init 215 = .ok (.putfield 86, 3) := by decide +kernel
theorem dX12_init_218 : decode cX12_init 218 = .ok (.aload_n 0, 1) := by decide +kernel
theorem dX12_init_219 : decode cX12_init 219 = .ok (.bipush 121, 2) := by decide +kernel
theorem dX12_init_221 : decode cX12_init 221 = .ok (.newarray .int, 2) := by decide +kernel
theorem dX12_init_223 : decode cX12_init 223 = .ok (.putfield 89, 3) := by decide +kernel
theorem dX12_init_226 : decode cX12_init 226 = .ok (.aload_n 0, 1) := by decide +kernel
theorem dX12_init_227 : decode cX12_init 227 = .ok (.bipush 11, 2) := by decide +kernel
theorem dX12_init_229 : decode cX12_init 229 = .ok (.newarray .int, 2) := by decide +kernel
theorem dX12_init_231 : decode cX12_init 231 = .ok (.putfield 92, 3) := by decide +kernel
theorem dX12_init_234 : decode cX12_init 234 = .ok (.aload_n 0, 1) := by decide +kernel
theorem dX12_init_235 : decode cX12_init 235 = .ok (.bipush 11, 2) := by decide +kernel
theorem dX12_init_237 : decode cX12_init 237 = .ok (.newarray .int, 2) := by decide +kernel
theorem dX12_init_239 : decode cX12_init 239 = .ok (.putfield 95, 3) := by decide +kernel
theorem dX12_init_242 : decode cX12_init 242 = .ok (.aload_n 0, 1) := by decide +kernel
theorem dX12_init_243 : decode cX12_init 243 = .ok (.bipush 6, 2) := by decide +kernel
theorem dX12_init_245 : decode cX12_init 245 = .ok (.newarray .int, 2) := by decide +kernel
theorem dX12_init_247 : decode cX12_init 247 = .ok (.putfield 98, 3) := by decide +kernel
theorem dX12_init_250 : decode cX12_init 250 = .ok (.aload_n 0, 1) := by decide +kernel
theorem dX12_init_251 : decode cX12_init 251 = .ok (.bipush 6, 2) := by decide +kernel
theorem dX12_init_253 : decode cX12_init 253 = .ok (.newarray .int, 2) := by decide +kernel
theorem dX12_init_255 : decode cX12_init 255 = .ok (.putfield 101, 3) := by decide +kernel
theorem dX12_init_258 : decode cX12_init 258 = .ok (.aload_n 0, 1) := by decide +kernel
theorem dX12_init_259 : decode cX12_init 259 = .ok (.bipush 6, 2) := by decide +kernel
theorem dX12_init_261 : decode cX12_init 261 = .ok (.newarray .int, 2) := by decide +kernel
theorem dX12_init_263 : decode cX12_init 263 = .ok (.putfield 104, 3) := by decide +kernel
theorem dX12_init_266 : decode cX12_init 266 = .ok (.aload_n 0, 1) := by decide +kernel
theorem dX12_init_267 : decode cX12_init 267 = .ok (.sipush 1800, 3) := by decide +kernel
theorem dX12_init_270 : decode cX12_init 270 = .ok (.newarray .long, 2) := by decide +kernel
theorem dX12_init_272 : decode cX12_init 272 = .ok (.putfield 107, 3) := by decide +kernel
theorem dX12_init_275 : decode cX12_init 275 = .ok (.aload_n 0, 1) := by decide +kernel
theorem dX12_init_276 : decode cX12_init 276 = .ok (.bipush 28, 2) := by decide +kernel
theorem dX12_init_278 : decode cX12_init 278 = .ok (.newarray .int, 2) := by decide +kernel
theorem dX12_init_280 : decode cX12_init 280 = .ok (.dup, 1) := by decide +kernel
theorem dX12_init_281 : decode cX12_init 281 = .ok (.iconst 0, 1) := by decide +kernel
theorem dX12_init_282 : decode cX12_init 282 = .ok (.bipush 99, 2) := by decide +kernel
theorem dX12_init_284 : decode cX12_init 284 = .ok (.iastore, 1) := by decide +kernel
theorem dX12_init_285 : decode cX12_init 285 = .ok (.dup, 1) := by decide +kernel
theorem dX12_init_286 : decode cX12_init 286 = .ok (.iconst 1, 1) := by decide +kernel
theorem dX12_init_287 : decode cX12_init 287 = .ok (.bipush 111, 2) := by decide +kernel
theorem dX12_init_289 : decode cX12_init 289 = .ok (.iastore, 1) := by decide +kernel
theorem dX12_init_290 : decode cX12_init 290 = .ok (.dup, 1) := by decide +kernel
theorem dX12_init_291 : decode cX12_init 291 = .ok (.iconst 2, 1) := by decide +kernel
theorem dX12_init_292 : decode cX12_init 292 = .ok (.bipush 117, 2) := by decide +kernel
theorem dX12_init_294 : decode cX12_init 294 = .ok (.iastore, 1) := by decide +kernel
theorem dX12_init_295 : decode cX12_init 295 = .ok (.dup, 1) := by decide +kernel
theorem dX12_init_296 : decode cX12_init 296 = .ok (.iconst 3, 1) := by decide +kernel
theorem dX12_init_297 : decode cX12_init 297 = .ok (.bipush 110, 2) := by decide +kernel
theorem dX12_init_299 : decode cX12_init 299 = .ok (.iastore, 1) := by decide +kernel
theorem dX12_init_300 : decode cX12_init 300 = .ok (.dup, 1) := by decide +kernel
theorem dX12_init_301 : decode cX12_init 301 = .ok (.iconst 4, 1) := by decide +kernel
theorem dX12_init_302 : decode cX12_init 302 = .ok (.bipush 116, 2) := by decide +kernel
theorem dX12_init_304 : decode cX12_init 304 = .ok (.iastore, 1) := by decide +kernel
theorem dX12_init_305 : decode cX12_init 305 = .ok (.dup, 1) := by decide +kernel
theorem dX12_init_306 : decode cX12_init 306 = .ok (.iconst 5, 1) := by decide +kernel
theorem dX12_init_307 : decode cX12_init 307 = .ok (.bipush 32, 2) := by decide +kernel
theorem dX12_init_309 : decode cX12_init 309 = .ok (.iastore, 1) := by decide +kernel
theorem dX12_init_310 : decode cX12_init 310 = .ok (.dup, 1) := by decide +kernel
theorem dX12_init_311 : decode cX12_init 311 = .ok (.bipush 6, 2) := by decide +kernel
theorem dX12_init_313 : decode cX12_init 313 = .ok (.bipush 108, 2) := by decide +kernel
theorem dX12_init_315 : decode cX12_init 315 = .ok (.iastore, 1) := by decide +kernel
theorem dX12_init_316 : decode cX12_init 316 = .ok (.dup, 1) := by decide +kernel
theorem dX12_init_317 : decode cX12_init 317 = .ok (.bipush 7, 2) := by decide +kernel
theorem dX12_init_319 : decode cX12_init 319 = .ok (.bipush 111, 2) := by decide +kernel
theorem dX12_init_321 : decode cX12_init 321 = .ok (.iastore, 1) := by decide +kernel
theorem dX12_init_322 : decode cX12_init 322 = .ok (.dup, 1) := by decide +kernel
theorem dX12_init_323 : decode cX12_init 323 = .ok (.bipush 8, 2) := by decide +kernel
theorem dX12_init_325 : decode cX12_init 325 = .ok (.bipush 110, 2) := by decide +kernel
theorem dX12_init_327 : decode cX12_init 327 = .ok (.iastore, 1) := by decide +kernel
theorem dX12_init_328 : decode cX12_init 328 = .ok (.dup, 1) := by decide +kernel
theorem dX12_init_329 : decode cX12_init 329 = .ok (.bipush 9, 2) := by decide +kernel
theorem dX12_init_331 : decode cX12_init 331 = .ok (.bipush 103, 2) := by decide +kernel
theorem dX12_init_333 : decode cX12_init 333 = .ok (.iastore, 1) := by decide +kernel
theorem dX12_init_334 : decode cX12_init 334 = .ok (.dup, 1) := by decide +kernel
theorem dX12_init_335 : decode cX12_init 335 = .ok (.bipush 10, 2) := by decide +kernel
theorem dX12_init_337 : decode cX12_init 337 = .ok (.bipush 32, 2) := by decide +kernel
theorem dX12_init_339 : decode cX12_init 339 = .ok (.iastore, 1) := by decide +kernel
theorem dX12_init_340 : decode cX12_init 340 = .ok (.dup, 1) := by decide +kernel
theorem dX12_init_341 : decode cX12_init 341 = .ok (.bipush 11, 2) := by decide +kernel
theorem dX12_init_343 : decode cX12_init 343 = .ok (.bipush 59, 2) := by decide +kernel
theorem dX12_init_345 : decode cX12_init 345 = .ok (.iastore, 1) := by decide +kernel
theorem dX12_init_346 : decode cX12_init 346 = .ok (.dup, 1) := by decide +kernel
theorem dX12_init_347 : decode cX12_init 347 = .ok (.bipush 12, 2) := by decide +kernel
theorem dX12_init_349 : decode cX12_init 349 = .ok (.bipush 32, 2) := by decide +kernel
theorem dX12_init_351 : decode cX12_init 351 = .ok (.iastore, 1) := by decide +kernel
theorem dX12_init_352 : decode cX12_init 352 = .ok (.dup, 1) := by decide +kernel
theorem dX12_init_353 : decode cX12_init 353 = .ok (.bipush 13, 2) := by decide +kernel
theorem dX12_init_355 : decode cX12_init 355 = .ok (.bipush 112, 2) := by decide +kernel
theorem dX12_init_357 : decode cX12_init 357 = .ok (.iastore, 1) := by decide +kernel
theorem dX12_init_358 : decode cX12_init 358 = .ok (.dup, 1) := by decide +kernel
theorem dX12_init_359 : decode cX12_init 359 = .ok (.bipush 14, 2) := by decide +kernel
theorem dX12_init_361 : decode cX12_init 361 = .ok (.bipush 97, 2) := by decide +kernel
theorem dX12_init_363 : decode cX12_init 363 = .ok (.iastore, 1) := by decide +kernel
theorem dX12_init_364 : decode cX12_init 364 = .ok (.dup, 1) := by decide +kernel
theorem dX12_init_365 : decode cX12_init 365 = .ok (.bipush 15, 2) := by decide +kernel
theorem dX12_init_367 : decode cX12_init 367 = .ok (.bipush 121, 2) := by decide +kernel
theorem dX12_init_369 : decode cX12_init 369 = .ok (.iastore, 1) := by decide +kernel
theorem dX12_init_370 : decode cX12_init 370 = .ok (.dup, 1) := by decide +kernel
theorem dX12_init_371 : decode cX12_init 371 = .ok (.bipush 16, 2) := by decide +kernel
theorem dX12_init_373 : decode cX12_init 373 = .ok (.bipush 32, 2) := by decide +kernel
theorem dX12_init_375 : decode cX12_init 375 = .ok (.iastore, 1) := by decide +kernel
theorem dX12_init_376 : decode cX12_init 376 = .ok (.dup, 1) := by decide +kernel
theorem dX12_init_377 : decode cX12_init 377 = .ok (.bipush 17, 2) := by decide +kernel
theorem dX12_init_379 : decode cX12_init 379 = .ok (.bipush 108, 2) := by decide +kernel
theorem dX12_init_381 : decode cX12_init 381 = .ok (.iastore, 1) := by decide +kernel
theorem dX12_init_382 : decode cX12_init 382 = .ok (.dup, 1) := by decide +kernel
theorem dX12_init_383 : decode cX12_init 383 = .ok (.bipush 18, 2) := by decide +kernel
theorem dX12_init_385 : decode cX12_init 385 = .ok (.bipush 111, 2) := by decide +kernel
theorem dX12_init_387 : decode cX12_init 387 = .ok (.iastore, 1) := by decide +kernel
theorem dX12_init_388 : decode cX12_init 388 = .ok (.dup, 1) := by decide +kernel
theorem dX12_init_389 : decode cX12_init 389 = .ok (.bipush 19, 2) := by decide +kernel
theorem dX12_init_391 : decode cX12_init 391 = .ok (.bipush 110, 2) := by decide +kernel
theorem dX12_init_393 : decode cX12_init 393 = .ok (.iastore, 1) := by decide +kernel
theorem dX12_init_394 : decode cX12_init 394 = .ok (.dup, 1) := by decide +kernel
theorem dX12_init_395 : decode cX12_init 395 = .ok (.bipush 20, 2) := by decide +kernel
theorem dX12_init_397 : decode cX12_init 397 = .ok (.bipush 103, 2) := by decide +kernel
theorem dX12_init_399 : decode cX12_init 399 = .ok (.iastore, 1) := by decide +kernel
theorem dX12_init_400 : decode cX12_init 400 = .ok (.dup, 1) := by decide +kernel
theorem dX12_init_401 : decode cX12_init 401 = .ok (.bipush 21, 2) := by decide +kernel
theorem dX12_init_403 : decode cX12_init 403 = .ok (.bipush 32, 2) := by decide +kernel
theorem dX12_init_405 : decode cX12_init 405 = .ok (.iastore, 1) := by decide +kernel
theorem dX12_init_406 : decode cX12_init 406 = .ok (.dup, 1) := by decide +kernel
theorem dX12_init_407 : decode cX12_init 407 = .ok (.bipush 22, 2) := by decide +kernel
theorem dX12_init_409 : decode cX12_init 409 = .ok (.bipush 42, 2) := by decide +kernel
theorem dX12_init_411 : decode cX12_init 411 = .ok (.iastore, 1) := by decide +kernel
theorem dX12_init_412 : decode cX12_init 412 = .ok (.dup, 1) := by decide +kernel
theorem dX12_init_413 : decode cX12_init 413 = .ok (.bipush 23, 2) := by decide +kernel
theorem dX12_init_415 : decode cX12_init 415 = .ok (.bipush 32, 2) := by decide +kernel
theorem dX12_init_417 : decode cX12_init 417 = .ok (.iastore, 1) := by decide +kernel
theorem dX12_init_418 : decode cX12_init 418 = .ok (.dup, 1) := by decide +kernel
theorem dX12_init_419 : decode cX12_init 419 = .ok (.bipush 24, 2) := by decide +kernel
theorem dX12_init_421 : decode cX12_init 421 = .ok (.bipush 49, 2) := by decide +kernel
theorem dX12_init_423 : decode cX12_init 423 = .ok (.iastore, 1) := by decide +kernel
theorem dX12_init_424 : decode cX12_init 424 = .ok (.dup, 1) := by decide +kernel
theorem dX12_init_425 : decode cX12_init 425 = .ok (.bipush 25, 2) := by decide +kernel
theorem dX12_init_427 : decode cX12_init 427 = .ok (.bipush 48, 2) := by decide +kernel
theorem dX12_init_429 : decode cX12_init 429 = .ok (.iastore, 1) := by decide +kernel
theorem dX12_init_430 : decode cX12_init 430 = .ok (.dup, 1) := by decide +kernel
theorem dX12_init_431 : decode cX12_init 431 = .ok (.bipush 26, 2) := by decide +kernel
theorem dX12_init_433 : decode cX12_init 433 = .ok (.bipush 32, 2) := by decide +kernel
theorem dX12_init_435 : decode cX12_init 435 = .ok (.iastore, 1) := by decide +kernel
theorem dX12_init_436 : decode cX12_init 436 = .ok (.dup, 1) := by decide +kernel
theorem dX12_init_437 : decode cX12_init 437 = .ok (.bipush 27, 2) := by decide +kernel
theorem dX12_init_439 : decode cX12_init 439 = .ok (.bipush 59, 2) := by decide +kernel
theorem dX12_init_441 : decode cX12_init 441 = .ok (.iastore, 1) := by decide +kernel
theorem dX12_init_442 : decode cX12_init 442 = .ok (.putfield 111, 3) := by decide +kernel
theorem dX12_init_445 : decode cX12_init 445 = .ok (.aload_n 0, 1) := by decide +kernel
theorem dX12_init_446 : decode cX12_init 446 = .ok (.bipush 81, 2) := by decide +kernel
theorem dX12_init_448 : decode cX12_init 448 = .ok (.newarray .int, 2) := by decide +kernel
theorem dX12_init_450 : decode cX12_init 450 = .ok (.dup, 1) := by decide +kernel
theorem dX12_init_451 : decode cX12_init 451 = .ok (.iconst 0, 1) := by decide +kernel
theorem dX12_init_452 : decode cX12_init 452 = .ok (.bipush 107, 2) := by decide +kernel
theorem dX12_init_454 : decode cX12_init 454 = .ok (.iastore, 1) := by decide +kernel
theorem dX12_init_455 : decode cX12_init 455 = .ok (.dup, 1) := by decide +kernel
theorem dX12_init_456 : decode cX12_init 456 = .ok (.iconst 1, 1) := by decide +kernel
theorem dX12_init_457 : decode cX12_init 457 = .ok (.bipush 105, 2) := by decide +kernel
theorem dX12_init_459 : decode cX12_init 459 = .ok (.iastore, 1) := by decide +kernel
theorem dX12_init_460 : decode cX12_init 460 = .ok (.dup, 1) := by decide +kernel
theorem dX12_init_461 : decode cX12_init 461 = .ok (.iconst 2, 1) := by decide +kernel
theorem dX12_init_462 : decode cX12_init 462 = .ok (.bipush 110, 2) := by decide +kernel
theorem dX12_init_464 : decode cX12_init 464 = .ok (.iastore, 1) := by decide +kernel
theorem dX12_init_465 : decode cX12_init 465 = .ok (.dup, 1) := by decide +kernel
theorem dX12_init_466 : decode cX12_init 466 = .ok (.iconst 3, 1) := by decide +kernel
theorem dX12_init_467 : decode cX12_init 467 = .ok (.bipush 100, 2) := by decide +kernel
theorem dX12_init_469 : decode cX12_init 469 = .ok (.iastore, 1) := by decide +kernel
theorem dX12_init_470 : decode cX12_init 470 = .ok (.dup, 1) := by decide +kernel
theorem dX12_init_471 : decode cX12_init 471 = .ok (.iconst 4, 1) := by decide +kernel
theorem dX12_init_472 : decode cX12_init 472 = .ok (.iconst 0, 1) := by decide +kernel
theorem dX12_init_473 : decode cX12_init 473 = .ok (.iastore, 1) := by decide +kernel
theorem dX12_init_474 : decode cX12_init 474 = .ok (.dup, 1) := by decide +kernel
theorem dX12_init_475 : decode cX12_init 475 = .ok (.iconst 5, 1) := by decide +kernel
theorem dX12_init_476 : decode cX12_init 476 = .ok (.bipush 119, 2) := by decide +kernel
theorem dX12_init_478 : decode cX12_init 478 = .ok (.iastore, 1) := by decide +kernel
theorem dX12_init_479 : decode cX12_init 479 = .ok (.dup, 1) := by decide +kernel
theorem dX12_init_480 : decode cX12_init 480 = .ok (.bipush 6, 2) := by decide +kernel
theorem dX12_init_482 : decode cX12_init 482 = .ok (.bipush 101, 2) := by decide +kernel
theorem dX12_init_484 : decode cX12_init 484 = .ok (.iastore, 1) := by decide +kernel
theorem dX12_init_485 : decode cX12_init 485 = .ok (.dup, 1) := by decide +kernel
theorem dX12_init_486 : decode cX12_init 486 = .ok (.bipush 7, 2) := by decide +kernel
theorem dX12_init_488 : decode cX12_init 488 = .ok (.bipush 101, 2) := by decide +kernel
theorem dX12_init_490 : decode cX12_init 490 = .ok (.iastore, 1) := by decide +kernel
theorem dX12_init_491 : decode cX12_init 491 = .ok (.dup, 1) := by decide +kernel
theorem dX12_init_492 : decode cX12_init 492 = .ok (.bipush 8, 2) := by decide +kernel
theorem dX12_init_494 : decode cX12_init 494 = .ok (.bipush 107, 2) := by decide +kernel
theorem dX12_init_496 : decode cX12_init 496 = .ok (.iastore, 1) := by decide +kernel
theorem dX12_init_497 : decode cX12_init 497 = .ok (.dup, 1) := by decide +kernel
theorem dX12_init_498 : decode cX12_init 498 = .ok (.bipush 9, 2) := by decide +kernel
theorem dX12_init_500 : decode cX12_init 500 = .ok (.bipush 100, 2) := by decide +kernel
theorem dX12_init_502 : decode cX12_init 502 = .ok (.iastore, 1) := by decide +kernel
theorem dX12_init_503 : decode cX12_init 503 = .ok (.dup, 1) := by decide +kernel
theorem dX12_init_504 : decode cX12_init 504 = .ok (.bipush 10, 2) := by decide +kernel
theorem dX12_init_506 : decode cX12_init 506 = .ok (.bipush 97, 2) := by decide +kernel
theorem dX12_init_508 : decode cX12_init 508 = .ok (.iastore, 1) := by decide +kernel
theorem dX12_init_509 : decode cX12_init 509 = .ok (.dup, 1) := by decide +kernel
theorem dX12_init_510 : decode cX12_init 510 = .ok (.bipush 11, 2) := by decide +kernel
theorem dX12_init_512 : decode cX12_init 512 = .ok (.bipush 121, 2) := by decide +kernel
theorem dX12_init_514 : decode cX12_init 514 = .ok (.iastore, 1) := by decide +kernel
theorem dX12_init_515 : decode cX12_init 515 = .ok (.dup, 1) := by decide +kernel
theorem dX12_init_516 : decode cX12_init 516 = .ok (.bipush 12, 2) := by decide +kernel
theorem dX12_init_518 : decode cX12_init 518 = .ok (.iconst 0, 1) := by decide +kernel
theorem dX12_init_519 : decode cX12_init 519 = .ok (.iastore, 1) := by decide +kernel
theorem dX12_init_520 : decode cX12_init 520 = .ok (.dup, 1) := by decide +kernel
theorem dX12_init_521 : decode cX12_init 521 = .ok (.bipush 13, 2) := by decide +kernel
theorem dX12_init_523 : decode cX12_init 523 = .ok (.bipush 104, 2) := by decide +kernel
theorem dX12_init_525 : decode cX12_init 525 = .ok (.iastore, 1) := by decide +kernel
theorem dX12_init_526 : decode cX12_init 526 = .ok (.dup, 1) := by decide +kernel
theorem dX12_init_527 : decode cX12_init 527 = .ok (.bipush 14, 2) := by decide +kernel
theorem dX12_init_529 : decode cX12_init 529 = .ok (.bipush 111, 2) := by decide +kernel
theorem dX12_init_531 : decode cX12_init 531 = .ok (.iastore, 1) := by decide +kernel
theorem dX12_init_532 : decode cX12_init 532 = .ok (.dup, 1) := by decide +kernel
theorem dX12_init_533 : decode cX12_init 533 = .ok (.bipush 15, 2) := by decide +kernel
theorem dX12_init_535 : decode cX12_init 535 = .ok (.bipush 117, 2) := by decide +kernel
theorem dX12_init_537 : decode cX12_init 537 = .ok (.iastore, 1) := by decide +kernel
theorem dX12_init_538 : decode cX12_init 538 = .ok (.dup, 1) := by decide +kernel
theorem dX12_init_539 : decode cX12_init 539 = .ok (.bipush 16, 2) := by decide +kernel
theorem dX12_init_541 : decode cX12_init 541 = .ok (.bipush 114, 2) := by decide +kernel
theorem dX12_init_543 : decode cX12_init 543 = .ok (.iastore, 1) := by decide +kernel
theorem dX12_init_544 : decode cX12_init 544 = .ok (.dup, 1) := by decide +kernel
theorem dX12_init_545 : decode cX12_init 545 = .ok (.bipush 17, 2) := by decide +kernel
theorem dX12_init_547 : decode cX12_init 547 = .ok (.iconst 0, 1) := by decide +kernel
theorem dX12_init_548 : decode cX12_init 548 = .ok (.iastore, 1) := by decide +kernel
theorem dX12_init_549 : decode cX12_init 549 = .ok (.dup, 1) := by decide +kernel
theorem dX12_init_550 : decode cX12_init 550 = .ok (.bipush 18, 2) := by decide +kernel
theorem dX12_init_552 : decode cX12_init 552 = .ok (.bipush 108, 2) := by decide +kernel
theorem dX12_init_554 : decode cX12_init 554 = .ok (.iastore, 1) := by decide +kernel
theorem dX12_init_555 : decode cX12_init 555 = .ok (.dup, 1) := by decide +kernel
theorem dX12_init_556 : decode cX12_init 556 = .ok (.bipush 19, 2) := by decide +kernel
theorem dX12_init_558 : decode cX12_init 558 = .ok (.bipush 111, 2) := by decide +kernel
theorem dX12_init_560 : decode cX12_init 560 = .ok (.iastore, 1) := by decide +kernel
theorem dX12_init_561 : decode cX12_init 561 = .ok (.dup, 1) := by decide +kernel
theorem dX12_init_562 : decode cX12_init 562 = .ok (.bipush 20, 2) := by decide +kernel
theorem dX12_init_564 : decode cX12_init 564 = .ok (.bipush 110, 2) := by decide +kernel
theorem dX12_init_566 : decode cX12_init 566 = .ok (.iastore, 1) := by decide +kernel
theorem dX12_init_567 : decode cX12_init 567 = .ok (.dup, 1) := by decide +kernel
theorem dX12_init_568 : decode cX12_init 568 = .ok (.bipush 21, 2) := by decide +kernel
theorem dX12_init_570 : decode cX12_init 570 = .ok (.bipush 103, 2) := by decide +kernel
theorem dX12_init_572 : decode cX12_init 572 = .ok (.iastore, 1) := by decide +kernel
theorem dX12_init_573 : decode cX12_init 573 = .ok (.dup, 1) := by decide +kernel
theorem dX12_init_574 : decode cX12_init 574 = .ok (.bipush 22, 2) := by decide +kernel
theorem dX12_init_576 : decode cX12_init 576 = .ok (.iconst 0, 1) := by decide +kernel
theorem dX12_init_577 : decode cX12_init 577 = .ok (.iastore, 1) := by decide +kernel
theorem dX12_init_578 : decode cX12_init 578 = .ok (.dup, 1) := by decide +kernel
theorem dX12_init_579 : decode cX12_init 579 = .ok (.bipush 23, 2) := by decide +kernel
theorem dX12_init_581 : decode cX12_init 581 = .ok (.bipush 99, 2) := by decide +kernel
theorem dX12_init_583 : decode cX12_init 583 = .ok (.iastore, 1) := by decide +kernel
theorem dX12_init_584 : decode cX12_init 584 = .ok (.dup, 1) := by decide +kernel
theorem dX12_init_585 : decode cX12_init 585 = .ok (.bipush 24, 2) := by decide +kernel
theorem dX12_init_587 : decode cX12_init 587 = .ok (.bipush 104, 2) := by decide +kernel
theorem dX12_init_589 : decode cX12_init 589 = .ok (.iastore, 1) := by decide +kernel
theorem dX12_init_590 : decode cX12_init 590 = .ok (.dup, 1) := by decide +kernel
theorem dX12_init_591 : decode cX12_init 591 = .ok (.bipush 25, 2) := by decide +kernel
theorem dX12_init_593 : decode cX12_init 593 = .ok (.bipush 97, 2) := by decide +kernel
theorem dX12_init_595 : decode cX12_init 595 = .ok (.iastore, 1) := by decide +kernel
theorem dX12_init_596 : decode cX12_init 596 = .ok (.dup, 1) := by decide +kernel
theorem dX12_init_597 : decode cX12_init 597 = .ok (.bipush 26, 2) := by decide +kernel
theorem dX12_init_599 : decode cX12_init 599 = .ok (.bipush 105, 2) := by decide +kernel
theorem dX12_init_601 : decode cX12_init 601 = .ok (.iastore, 1) := by decide +kernel
theorem dX12_init_602 : decode cX12_init 602 = .ok (.dup, 1) := by decide +kernel
theorem dX12_init_603 : decode cX12_init 603 = .ok (.bipush 27, 2) := by decide +kernel
theorem dX12_init_605 : decode cX12_init 605 = .ok (.bipush 114, 2) := by decide +kernel
theorem dX12_init_607 : decode cX12_init 607 = .ok (.iastore, 1) := by decide +kernel
theorem dX12_init_608 : decode cX12_init 608 = .ok (.dup, 1) := by decide +kernel
theorem dX12_init_609 : decode cX12_init 609 = .ok (.bipush 28, 2) := by decide +kernel
theorem dX12_init_611 : decode cX12_init 611 = .ok (.iconst 0, 1) := by decide +kernel
theorem dX12_init_612 : decode cX12_init 612 = .ok (.iastore, 1) := by decide +kernel
theorem dX12_init_613 : decode cX12_init 613 = .ok (.dup, 1) := by decide +kernel
theorem dX12_init_614 : decode cX12_init 614 = .ok (.bipush 29, 2) := by decide +kernel
theorem dX12_init_616 : decode cX12_init 616 = .ok (.bipush 112, 2) := by decide +kernel
theorem dX12_init_618 : decode cX12_init 618 = .ok (.iastore, 1) := by decide +kernel
theorem dX12_init_619 : decode cX12_init 619 = .ok (.dup, 1) := by decide +kernel
theorem dX12_init_620 : decode cX12_init 620 = .ok (.bipush 30, 2) := by decide +kernel
theorem dX12_init_622 : decode cX12_init 622 = .ok (.bipush 111, 2) := by decide +kernel
theorem dX12_init_624 : decode cX12_init 624 = .ok (.iastore, 1) := by decide +kernel
theorem dX12_init_625 : decode cX12_init 625 = .ok (.dup, 1) := by decide +kernel
theorem dX12_init_626 : decode cX12_init 626 = .ok (.bipush 31, 2) := by decide +kernel
theorem dX12_init_628 : decode cX12_init 628 = .ok (.bipush 115, 2) := by decide +kernel
theorem dX12_init_630 : decode cX12_init 630 = .ok (.iastore, 1) := by decide +kernel
theorem dX12_init_631 : decode cX12_init 631 = .ok (.dup, 1) := by decide +kernel
theorem dX12_init_632 : decode cX12_init 632 = .ok (.bipush 32, 2) := by decide +kernel
theorem dX12_init_634 : decode cX12_init 634 = .ok (.bipush 116, 2) := by decide +kernel
theorem dX12_init_636 : decode cX12_init 636 = .ok (.iastore, 1) := by decide +kernel
theorem dX12_init_637 : decode cX12_init 637 = .ok (.dup, 1) := by decide +kernel
theorem dX12_init_638 : decode cX12_init 638 = .ok (.bipush 33, 2) := by decide +kernel
theorem dX12_init_640 : decode cX12_init 640 = .ok (.iconst 0, 1) := by decide +kernel
theorem dX12_init_641 : decode cX12_init 641 = .ok (.iastore, 1) := by decide +kernel
theorem dX12_init_642 : decode cX12_init 642 = .ok (.dup, 1) := by decide +kernel
theorem dX12_init_643 : decode cX12_init 643 = .ok (.bipush 34, 2) := by decide +kernel
theorem dX12_init_645 : decode cX12_init 645 = .ok (.bipush 100, 2) := by decide +kernel
theorem dX12_init_647 : decode cX12_init 647 = .ok (.iastore, 1) := by decide +kernel
theorem dX12_init_648 : decode cX12_init 648 = .ok (.dup, 1) := by decide +kernel
theorem dX12_init_649 : decode cX12_init 649 = .ok (.bipush 35, 2) := by decide +kernel
theorem dX12_init_651 : decode cX12_init 651 = .ok (.bipush 111, 2) := by decide +kernel
theorem dX12_init_653 : decode cX12_init 653 = .ok (.iastore, 1) := by decide +kernel
theorem dX12_init_654 : decode cX12_init 654 = .ok (.dup, 1) := by decide +kernel
theorem dX12_init_655 : decode cX12_init 655 = .ok (.bipush 36, 2) := by decide +kernel
theorem dX12_init_657 : decode cX12_init 657 = .ok (.bipush 117, 2) := by decide +kernel
theorem dX12_init_659 : decode cX12_init 659 = .ok (.iastore, 1) := by decide +kernel
theorem dX12_init_660 : decode cX12_init 660 = .ok (.dup, 1) := by decide +kernel
theorem dX12_init_661 : decode cX12_init 661 = .ok (.bipush 37, 2) := by decide +kernel
theorem dX12_init_663 : decode cX12_init 663 = .ok (.bipush 98, 2) := by decide +kernel
theorem dX12_init_665 : decode cX12_init 665 = .ok (.iastore, 1) := by decide +kernel
theorem dX12_init_666 : decode cX12_init 666 = .ok (.dup, 1) := by decide +kernel
theorem dX12_init_667 : decode cX12_init 667 = .ok (.bipush 38, 2) := by decide +kernel
theorem dX12_init_669 : decode cX12_init 669 = .ok (.bipush 108, 2) := by decide +kernel
theorem dX12_init_671 : decode cX12_init 671 = .ok (.iastore, 1) := by decide +kernel
theorem dX12_init_672 : decode cX12_init 672 = .ok (.dup, 1) := by decide +kernel
theorem dX12_init_673 : decode cX12_init 673 = .ok (.bipush 39, 2) := by decide +kernel
theorem dX12_init_675 : decode cX12_init 675 = .ok (.bipush 101, 2) := by decide +kernel
theorem dX12_init_677 : decode cX12_init 677 = .ok (.iastore, 1) := by decide +kernel
theorem dX12_init_678 : decode cX12_init 678 = .ok (.dup, 1) := by decide +kernel
theorem dX12_init_679 : decode cX12_init 679 = .ok (.bipush 40, 2) := by decide +kernel
theorem dX12_init_681 : decode cX12_init 681 = .ok (.iconst 0, 1) := by decide +kernel
theorem dX12_init_682 : decode cX12_init 682 = .ok (.iastore, 1) := by decide +kernel
theorem dX12_init_683 : decode cX12_init 683 = .ok (.dup, 1) := by decide +kernel
theorem dX12_init_684 : decode cX12_init 684 = .ok (.bipush 41, 2) := by decide +kernel
theorem dX12_init_686 : decode cX12_init 686 = .ok (.bipush 100, 2) := by decide +kernel
theorem dX12_init_688 : decode cX12_init 688 = .ok (.iastore, 1) := by decide +kernel
theorem dX12_init_689 : decode cX12_init 689 = .ok (.dup, 1) := by decide +kernel
theorem dX12_init_690 : decode cX12_init 690 = .ok (.bipush 42, 2) := by decide +kernel
theorem dX12_init_692 : decode cX12_init 692 = .ok (.bipush 101, 2) := by decide +kernel
theorem dX12_init_694 : decode cX12_init 694 = .ok (.iastore, 1) := by decide +kernel
theorem dX12_init_695 : decode cX12_init 695 = .ok (.dup, 1) := by decide +kernel
theorem dX12_init_696 : decode cX12_init 696 = .ok (.bipush 43, 2) := by decide +kernel
theorem dX12_init_698 : decode cX12_init 698 = .ok (.bipush 115, 2) := by decide +kernel
theorem dX12_init_700 : decode cX12_init 700 = .ok (.iastore, 1) := by decide +kernel
theorem dX12_init_701 : decode cX12_init 701 = .ok (.dup, 1) := by decide +kernel
theorem dX12_init_702 : decode cX12_init 702 = .ok (.bipush 44, 2) := by decide +kernel
theorem dX12_init_704 : decode cX12_init 704 = .ok (.bipush 107, 2) := by decide +kernel
theorem dX12_init_706 : decode cX12_init 706 = .ok (.iastore, 1) := by decide +kernel
theorem dX12_init_707 : decode cX12_init 707 = .ok (.dup, 1) := by decide +kernel
theorem dX12_init_708 : decode cX12_init 708 = .ok (.bipush 45, 2) := by decide +kernel
theorem dX12_init_710 : decode cX12_init 710 = .ok (.iconst 0, 1) := by decide +kernel
theorem dX12_init_711 : decode cX12_init 711 = .ok (.iastore, 1) := by decide +kernel
theorem dX12_init_712 : decode cX12_init 712 = .ok (.dup, 1) := by decide +kernel
theorem dX12_init_713 : decode cX12_init 713 = .ok (.bipush 46, 2) := by decide +kernel
theorem dX12_init_715 : decode cX12_init 715 = .ok (.bipush 119, 2) := by decide +kernel
theorem dX12_init_717 : decode cX12_init 717 = .ok (.iastore, 1) := by decide +kernel
theorem dX12_init_718 : decode cX12_init 718 = .ok (.dup, 1) := by decide +kernel
theorem dX12_init_719 : decode cX12_init 719 = .ok (.bipush 47, 2) := by decide +kernel
theorem dX12_init_721 : decode cX12_init 721 = .ok (.bipush 101, 2) := by decide +kernel
theorem dX12_init_723 : decode cX12_init 723 = .ok (.iastore, 1) := by decide +kernel
theorem dX12_init_724 : decode cX12_init 724 = .ok (.dup, 1) := by decide +kernel
theorem dX12_init_725 : decode cX12_init 725 = .ok (.bipush 48, 2) := by decide +kernel
theorem dX12_init_727 : decode cX12_init 727 = .ok (.bipush 101, 2) := by decide +kernel
theorem dX12_init_729 : decode cX12_init 729 = .ok (.iastore, 1) := by decide +kernel
theorem dX12_init_730 : decode cX12_init 730 = .ok (.dup, 1) := by decide +kernel
theorem dX12_init_731 : decode cX12_init 731 = .ok (.bipush 49, 2) := by decide +kernel
theorem dX12_init_733 : decode cX12_init 733 = .ok (.bipush 107, 2) := by decide +kernel
theorem dX12_init_735 : decode cX12_init 735 = .ok (.iastore, 1) := by decide +kernel
theorem dX12_init_736 : decode cX12_init 736 = .ok (.dup, 1) := by decide +kernel
theorem dX12_init_737 : decode cX12_init 737 = .ok (.bipush 50, 2) := by decide +kernel
theorem dX12_init_739 : decode cX12_init 739 = .ok (.iconst 0, 1) := by decide +kernel
theorem dX12_init_740 : decode cX12_init 740 = .ok (.iastore, 1) := by decide +kernel
theorem dX12_init_741 : decode cX12_init 741 = .ok (.dup, 1) := by decide +kernel
theorem dX12_init_742 : decode cX12_init 742 = .ok (.bipush 51, 2) := by decide +kernel
theorem dX12_init_744 : decode cX12_init 744 = .ok (.bipush 114, 2) := by decide +kernel
theorem dX12_init_746 : decode cX12_init 746 = .ok (.iastore, 1) := by decide +kernel
theorem dX12_init_747 : decode cX12_init 747 = .ok (.dup, 1) := by decide +kernel
theorem dX12_init_748 : decode cX12_init 748 = .ok (.bipush 52, 2) := by decide +kernel
theorem dX12_init_750 : decode cX12_init 750 = .ok (.bipush 101, 2) := by decide +kernel
theorem dX12_init_752 : decode cX12_init 752 = .ok (.iastore, 1) := by decide +kernel
theorem dX12_init_753 : decode cX12_init 753 = .ok (.dup, 1) := by decide +kernel
theorem dX12_init_754 : decode cX12_init 754 = .ok (.bipush 53, 2) := by decide +kernel
theorem dX12_init_756 : decode cX12_init 756 = .ok (.bipush 115, 2) := by decide +kernel
theorem dX12_init_758 : decode cX12_init 758 = .ok (.iastore, 1) := by decide +kernel
theorem dX12_init_759 : decode cX12_init 759 = .ok (.dup, 1) := by decide +kernel
theorem dX12_init_760 : decode cX12_init 760 = .ok (.bipush 54, 2) := by decide +kernel
theorem dX12_init_762 : decode cX12_init 762 = .ok (.bipush 116, 2) := by decide +kernel
theorem dX12_init_764 : decode cX12_init 764 = .ok (.iastore, 1) := by decide +kernel
theorem dX12_init_765 : decode cX12_init 765 = .ok (.dup, 1) := by decide +kernel
theorem dX12_init_766 : decode cX12_init 766 = .ok (.bipush 55, 2) := by decide +kernel
theorem dX12_init_768 : decode cX12_init 768 = .ok (.iconst 0, 1) := by decide +kernel
theorem dX12_init_769 : decode cX12_init 769 = .ok (.iastore, 1) := by decide +kernel
theorem dX12_init_770 : decode cX12_init 770 = .ok (.dup, 1) := by decide +kernel
theorem dX12_init_771 : decode cX12_init 771 = .ok (.bipush 56, 2) := by decide +kernel
theorem dX12_init_773 : decode cX12_init 773 = .ok (.bipush 98, 2) := by decide +kernel
theorem dX12_init_775 : decode cX12_init 775 = .ok (.iastore, 1) := by decide +kernel
theorem dX12_init_776 : decode cX12_init 776 = .ok (.dup, 1) := by decide +kernel
theorem dX12_init_777 : decode cX12_init 777 = .ok (.bipush 57, 2) := by decide +kernel
theorem dX12_init_779 : decode cX12_init 779 = .ok (.bipush 97, 2) := by decide +kernel
theorem dX12_init_781 : decode cX12_init 781 = .ok (.iastore, 1) := by decide +kernel
theorem dX12_init_782 : decode cX12_init 782 = .ok (.dup, 1) := by decide +kernel
theorem dX12_init_783 : decode cX12_init 783 = .ok (.bipush 58, 2) := by decide +kernel
theorem dX12_init_785 : decode cX12_init 785 = .ok (.bipush 114, 2) := by decide +kernel
theorem dX12_init_787 : decode cX12_init 787 = .ok (.iastore, 1) := by decide +kernel
theorem dX12_init_788 : decode cX12_init 788 = .ok (.dup, 1) := by decide +kernel
theorem dX12_init_789 : decode cX12_init 789 = .ok (.bipush 59, 2) := by decide +kernel
theorem dX12_init_791 : decode cX12_init 791 = .ok (.iconst 0, 1) := by decide +kernel
theorem dX12_init_792 : decode cX12_init 792 = .ok (.iastore, 1) := by decide +kernel
theorem dX12_init_793 : decode cX12_init 793 = .ok (.dup, 1) := by decide +kernel
theorem dX12_init_794 : decode cX12_init 794 = .ok (.bipush 60, 2) := by decide +kernel
theorem dX12_init_796 : decode cX12_init 796 = .ok (.bipush 99, 2) := by decide +kernel
theorem dX12_init_798 : decode cX12_init 798 = .ok (.iastore, 1) := by decide +kernel
theorem dX12_init_799 : decode cX12_init 799 = .ok (.dup, 1) := by decide +kernel
theorem dX12_init_800 : decode cX12_init 800 = .ok (.bipush 61, 2) := by decide +kernel
theorem dX12_init_802 : decode cX12_init 802 = .ok (.bipush 111, 2) := by decide +kernel
theorem dX12_init_804 : decode cX12_init 804 = .ok (.iastore, 1) := by decide +kernel
theorem dX12_init_805 : decode cX12_init 805 = .ok (.dup, 1) := by decide +kernel
theorem dX12_init_806 : decode cX12_init 806 = .ok (.bipush 62, 2) := by decide +kernel
theorem dX12_init_808 : decode cX12_init 808 = .ok (.bipush 117, 2) := by decide +kernel
theorem dX12_init_810 : decode cX12_init 810 = .ok (.iastore, 1) := by decide +kernel
theorem dX12_init_811 : decode cX12_init 811 = .ok (.dup, 1) := by decide +kernel
theorem dX12_init_812 : decode cX12_init 812 = .ok (.bipush 63, 2) := by decide +kernel
theorem dX12_init_814 : decode cX12_init 814 = .ok (.bipush 110, 2) := by decide +kernel
theorem dX12_init_816 : decode cX12_init 816 = .ok (.iastore, 1) := by decide +kernel
theorem dX12_init_817 : decode cX12_init 817 = .ok (.dup, 1) := by decide +kernel
theorem dX12_init_818 : decode cX12_init 818 = .ok (.bipush 64, 2) := by decide +kernel
theorem dX12_init_820 : decode cX12_init 820 = .ok (.bipush 116, 2) := by decide +kernel
theorem dX12_init_822 : decode cX12_init 822 = .ok (.iastore, 1) := by decide +kernel
theorem dX12_init_823 : decode cX12_init 823 = .ok (.dup, 1) := by decide +kernel
theorem dX12_init_824 : decode cX12_init 824 = .ok (.bipush 65, 2) := by decide +kernel
theorem dX12_init_826 : decode cX12_init 826 = .ok (.iconst 0, 1) := by decide +kernel
theorem dX12_init_827 : decode cX12_init 827 = .ok (.iastore, 1) := by decide +kernel
theorem dX12_init_828 : decode cX12_init 828 = .ok (.dup, 1) := by decide +kernel
theorem dX12_init_829 : decode cX12_init 829 = .ok (.bipush 66, 2) := by decide +kernel
theorem dX12_init_831 : decode cX12_init 831 = .ok (.bipush 112, 2) := by decide +kernel
theorem dX12_init_833 : decode cX12_init 833 = .ok (.iastore, 1) := by decide +kernel
theorem dX12_init_834 : decode cX12_init 834 = .ok (.dup, 1) := by decide +kernel
theorem dX12_init_835 : decode cX12_init 835 = .ok (.bipush 67, 2) := by decide +kernel
theorem dX12_init_837 : decode cX12_init 837 = .ok (.bipush 97, 2) := by decide +kernel
theorem dX12_init_839 : decode cX12_init 839 = .ok (.iastore, 1) := by decide +kernel
theorem dX12_init_840 : decode cX12_init 840 = .ok (.dup, 1) := by decide +kernel
theorem dX12_init_841 : decode cX12_init 841 = .ok (.bipush 68, 2) := by decide +kernel
theorem dX12_init_843 : decode cX12_init 843 = .ok (.bipush 121, 2) := by decide +kernel
theorem dX12_init_845 : decode cX12_init 845 = .ok (.iastore, 1) := by decide +kernel
theorem dX12_init_846 : decode cX12_init 846 = .ok (.dup, 1) := by decide +kernel
theorem dX12_init_847 : decode cX12_init 847 = .ok (.bipush 69, 2) := by decide +kernel
theorem dX12_init_849 : decode cX12_init 849 = .ok (.iconst 0, 1) := by decide +kernel
theorem dX12_init_850 : decode cX12_init 850 = .ok (.iastore, 1) := by decide +kernel
theorem dX12_init_851 : decode cX12_init 851 = .ok (.dup, 1) := by decide +kernel
theorem dX12_init_852 : decode cX12_init 852 = .ok (.bipush 70, 2) := by decide +kernel
theorem dX12_init_854 : decode cX12_init 854 = .ok (.bipush 111, 2) := by decide +kernel
theorem dX12_init_856 : decode cX12_init 856 = .ok (.iastore, 1) := by decide +kernel
theorem dX12_init_857 : decode cX12_init 857 = .ok (.dup, 1) := by decide +kernel
theorem dX12_init_858 : decode cX12_init 858 = .ok (.bipush 71, 2) := by decide +kernel
theorem dX12_init_860 : decode cX12_init 860 = .ok (.bipush 114, 2) := by decide +kernel
theorem dX12_init_862 : decode cX12_init 862 = .ok (.iastore, 1) := by decide +kernel
theorem dX12_init_863 : decode cX12_init 863 = .ok (.dup, 1) := by decide +kernel
theorem dX12_init_864 : decode cX12_init 864 = .ok (.bipush 72, 2) := by decide +kernel
theorem dX12_init_866 : decode cX12_init 866 = .ok (.iconst 0, 1) := by decide +kernel
theorem dX12_init_867 : decode cX12_init 867 = .ok (.iastore, 1) := by decide +kernel
theorem dX12_init_868 : decode cX12_init 868 = .ok (.dup, 1) := by decide +kernel
theorem dX12_init_869 : decode cX12_init 869 = .ok (.bipush 73, 2) := by decide +kernel
theorem dX12_init_871 : decode cX12_init 871 = .ok (.bipush 97, 2) := by decide +kernel
theorem dX12_init_873 : decode cX12_init 873 = .ok (.iastore, 1) := by decide +kernel
theorem dX12_init_874 : decode cX12_init 874 = .ok (.dup, 1) := by decide +kernel
theorem dX12_init_875 : decode cX12_init 875 = .ok (.bipush 74, 2) := by decide +kernel
theorem dX12_init_877 : decode cX12_init 877 = .ok (.bipush 110, 2) := by decide +kernel
theorem dX12_init_879 : decode cX12_init 879 = .ok (.iastore, 1) := by decide +kernel
theorem dX12_init_880 : decode cX12_init 880 = .ok (.dup, 1) := by decide +kernel
theorem dX12_init_881 : decode cX12_init 881 = .ok (.bipush 75, 2) := by decide +kernel
theorem dX12_init_883 : decode cX12_init 883 = .ok (.bipush 100, 2) := by decide +kernel
theorem dX12_init_885 : decode cX12_init 885 = .ok (.iastore, 1) := by decide +kernel
theorem dX12_init_886 : decode cX12_init 886 = .ok (.dup, 1) := by decide +kernel
theorem dX12_init_887 : decode cX12_init 887 = .ok (.bipush 76, 2) := by decide +kernel
theorem dX12_init_889 : decode cX12_init 889 = .ok (.iconst 0, 1) := by decide +kernel
theorem dX12_init_890 : decode cX12_init 890 = .ok (.iastore, 1) := by decide +kernel
theorem dX12_init_891 : decode cX12_init 891 = .ok (.dup, 1) := by decide +kernel
theorem dX12_init_892 : decode cX12_init 892 = .ok (.bipush 77, 2) := by decide +kernel
theorem dX12_init_894 : decode cX12_init 894 = .ok (.bipush 110, 2) := by decide +kernel
theorem dX12_init_896 : decode cX12_init 896 = .ok (.iastore, 1) := by decide +kernel
theorem dX12_init_897 : decode cX12_init 897 = .ok (.dup, 1) := by decide +kernel
theorem dX12_init_898 : decode cX12_init 898 = .ok (.bipush 78, 2) := by decide +kernel
theorem dX12_init_900 : decode cX12_init 900 = .ok (.bipush 111, 2) := by decide +kernel
theorem dX12_init_902 : decode cX12_init 902 = .ok (.iastore, 1) := by decide +kernel
theorem dX12_init_903 : decode cX12_init 903 = .ok (.dup, 1) := by decide +kernel
theorem dX12_init_904 : decode cX12_init 904 = .ok (.bipush 79, 2) := by decide +kernel
theorem dX12_init_906 : decode cX12_init 906 = .ok (.bipush 116, 2) := by decide +kernel
theorem dX12_init_908 : decode cX12_init 908 = .ok (.iastore, 1) := by decide +kernel
theorem dX12_init_909 : decode cX12_init 909 = .ok (.dup, 1) := by decide +kernel
theorem dX12_init_910 : decode cX12_init 910 = .ok (.bipush 80, 2) := by decide +kernel
theorem dX12_init_912 : decode cX12_init 912 = .ok (.iconst 0, 1) := by decide +kernel
theorem dX12_init_913 : decode cX12_init 913 = .ok (.iastore, 1) := by decide +kernel
theorem dX12_init_914 : decode cX12_init 914 = .ok (.putfield 114, 3) := by decide +kernel
theorem dX12_init_917 : decode cX12_init 917 = .ok (.aload_n 0, 1) := by decide +kernel
theorem dX12_init_918 : decode cX12_init 918 = .ok (.sipush 320, 3) := by decide +kernel
theorem dX12_init_921 : decode cX12_init 921 = .ok (.newarray .long, 2) := by decide +kernel
theorem dX12_init_923 : decode cX12_init 923 = .ok (.putfield 117, 3) := by decide +kernel
theorem dX12_init_926 : decode cX12_init 926 = .ok (.aload_n 0, 1) := by decide +kernel
theorem dX12_init_927 : decode cX12_init 927 = .ok (.bipush 120, 2) := by decide +kernel
theorem dX12_init_929 : decode cX12_init 929 = .ok (.newarray .boolean, 2) := by decide +kernel
theorem dX12_init_931 : decode cX12_init 931 = .ok (.putfield 120, 3) := by decide +kernel
theorem dX12_init_934 : decode cX12_init 934 = .ok (.aload_n 0, 1) := by decide +kernel
theorem dX12_init_935 : decode cX12_init 935 = .ok (.sipush 13312, 3) := by decide +kernel
theorem dX12_init_938 : decode cX12_init 938 = .ok (.newarray .int, 2) := by decide +kernel
theorem dX12_init_940 : decode cX12_init 940 = .ok (.putfield 123, 3) := by decide +kernel
theorem dX12_init_943 : decode cX12_init 943 = .ok (.aload_n 0, 1) := by decide +kernel
theorem dX12_init_944 : decode cX12_init 944 = .ok (.bipush 12, 2) := by decide +kernel
theorem dX12_init_946 : decode cX12_init 946 = .ok (.newarray .int, 2) := by decide +kernel
theorem dX12_init_948 : decode cX12_init 948 = .ok (.putfield 126, 3) := by decide +kernel
theorem dX12_init_951 : decode cX12_init 951 = .ok (.aload_n 0, 1) := by decide +kernel
theorem dX12_init_952 : decode cX12_init 952 = .ok (.iconst 5, 1) := by decide +kernel
theorem dX12_init_953 : decode cX12_init 953 = .ok (.newarray .int, 2) := by decide +kernel
theorem dX12_init_955 : decode cX12_init 955 = .ok (.putfield 129, 3) := by decide +kernel
theorem dX12_init_958 : decode cX12_init 958 = .ok (.aload_n 0, 1) := by decide +kernel
theorem dX12_init_959 : decode cX12_init 959 = .ok (.iconst 5, 1) := by decide +kernel
theorem dX12_init_960 : decode cX12_init 960 = .ok (.newarray .int, 2) := by decide +kernel
theorem dX12_init_962 : decode cX12_init 962 = .ok (.putfield 132, 3) := by decide +kernel
theorem dX12_init_965 : decode cX12_init 965 = .ok (.aload_n 0, 1) := by decide +kernel
theorem dX12_init_966 : decode cX12_init 966 = .ok (.iconst 5, 1) := by decide +kernel
theorem dX12_init_967 : decode cX12_init 967 = .ok (.newarray .int, 2) := by decide +kernel
theorem dX12_init_969 : decode cX12_init 969 = .ok (.putfield 135, 3) := by decide +kernel
theorem dX12_init_972 : decode cX12_init 972 = .ok (.aload_n 0, 1) := by decide +kernel
theorem dX12_init_973 : decode cX12_init 973 = .ok (.bipush 6, 2) := by decide +kernel
theorem dX12_init_975 : decode cX12_init 975 = .ok (.newarray .int, 2) := by decide +kernel
theorem dX12_init_977 : decode cX12_init 977 = .ok (.putfield 138, 3) := by decide +kernel
theorem dX12_init_980 : decode cX12_init 980 = .ok (.iconst 0, 1) := by decide +kernel
theorem dX12_init_981 : decode cX12_init 981 = .ok (.istore_n 1, 1) := by decide +kernel
theorem dX12_init_982 : decode cX12_init 982 = .ok (.iload_n 1, 1) := by decide +kernel
theorem dX12_init_983 : decode cX12_init 983 = .ok (.aload_n 0, 1) := by decide +kernel
theorem dX12_init_984 : decode cX12_init 984 = .ok (.getfield 111, 3) := by decide +kernel
theorem dX12_init_987 : decode cX12_init 987 = .ok (.arraylength, 1) := by decide +kernel
theorem dX12_init_988 : decode cX12_init 988 = .ok (.if_icmp .ge 21, 3) := by decide +kernel
theorem dX12_init_991 : decode cX12_init 991 = .ok (.aload_n 0, 1) := by decide +kernel
theorem dX12_init_992 : decode cX12_init 992 = .ok (.getfield 77, 3) := by decide +kernel
theorem dX12_init_995 : decode cX12_init 995 = .ok (.iload_n 1, 1) := by decide +kernel
theorem dX12_init_996 : decode cX12_init 996 = .ok (.aload_n 0, 1) := by decide +kernel
theorem dX12_init_997 : decode cX12_init 997 = .ok (.getfield 111, 3) := by decide +kernel
theorem dX12_init_1000 : decode cX12_init 1000 = .ok (.iload_n 1, 1) := by decide +kernel
theorem dX12_init_1001 : decode cX12_init 1001 = .ok (.iaload, 1) := by decide +kernel
theorem dX12_init_1002 : decode cX12_init 1002 = .ok (.iastore, 1) := by decide +kernel
theorem dX12_init_1003 : decode cX12_init 1003 = .ok (.iinc 1 1, 3) := by decide +kernel
theorem dX12_init_1006 : decode cX12_init 1006 = .ok (.goto (-24), 3) := by decide +kernel
theorem dX12_init_1009 : decode cX12_init 1009 = .ok (.aload_n 0, 1) := by decide +kernel
theorem dX12_init_1010 : decode cX12_init 1010 = .ok (.getfield 74, 3) := by decide +kernel
theorem dX12_init_1013 : decode cX12_init 1013 = .ok (.iconst 0, 1) := by decide +kernel
theorem dX12_init_1014 : decode cX12_init 1014 = .ok (.aload_n 0, 1) := by decide +kernel
theorem dX12_init_1015 : decode cX12_init 1015 = .ok (.getfield 111, 3) := by decide +kernel
theorem dX12_init_1018 : decode cX12_init 1018 = .ok (.arraylength, 1) := by decide +kernel
theorem dX12_init_1019 : decode cX12_init 1019 = .ok (.iastore, 1) := by decide +kernel
theorem dX12_init_1020 : decode cX12_init 1020 = .ok (.aload_n 0, 1) := by decide +kernel
theorem dX12_init_1021 : decode cX12_init 1021 = .ok (.iconst 0, 1) := by decide +kernel
theorem dX12_init_1022 : decode cX12_init 1022 = .ok (.invokevirtual 141, 3) := by decide +kernel
theorem dX12_init_1025 : decode cX12_init 1025 = .ok (.aload_n 0, 1) := by decide +kernel
theorem dX12_init_1026 : decode cX12_init 1026 = .ok (.iconst 1, 1) := by decide +kernel
theorem dX12_init_1027 : decode cX12_init 1027 = .ok (.putfield 145, 3) := by decide +kernel
theorem dX12_init_1030 : decode cX12_init 1030 = .ok (.aload_n 0, 1) := by decide +kernel
theorem dX12_init_1031 : decode cX12_init 1031 = .ok (.iconst 1, 1) := by decide +kernel
theorem dX12_init_1032 : decode cX12_init 1032 = .ok (.putfield 149, 3) := by decide +kernel
theorem dX12_init_1035 : decode cX12_init 1035 = .ok (.return_, 1) := by decide +kernel
theorem w_X12_chair (l : Launch) (p1 : Int32) (p2 : Int32) (p3 : Int32) (M : o_M) (q : Int32 → o_M → Prop) (h : K_X12_isService l [rV (some 60), iV p1] M (fun r2 M1 => ((r2 = 0 → q (-2) M1) ∧ (¬ r2 = 0 → K_X12_chairs l [rV (some 60), iV p1, iV (-1)] M1 (fun r5 M4 => K_X12_in l [iV p2, iV 0, iV (r5 - 1)] M4 (fun r7 M6 => ((¬ r7 = 0 → ((p3 = 0 → K_X12_seats l [rV (some 60), iV p1] M6 (fun r11 M10 => ((0 ≤ r11 → (mR M10 60 53 = some 114 ∧ (vp_in p2 (mN M10 114) ∧ q (mI M10 114 p2.toNatClampNeg) M10))) ∧ (¬ 0 ≤ r11 → q (-1) M10)))) ∧ (¬ p3 = 0 → (mR M6 60 22 = some 83 ∧ (vp_in p1 (mN M6 83) ∧ (((mI M6 83 p1.toNatClampNeg) = 0 → q (-1) M6) ∧ (¬ (mI M6 83 p1.toNatClampNeg) = 0 → (mR M6 60 21 = some 82 ∧ (vp_in ((12 * p1) + p2) (mN M6 82) ∧ q (mI M6 82 ((12 * p1) + p2).toNatClampNeg) M6))))))))) ∧ (r7 = 0 → q (-2) M6)))))))) : K_X12_chair l [rV (some 60), iV p1, iV p2, iV p3] M q := by
  refine o_ctr (ini := false) (by decide +kernel) rfl (fun z => by cases z) (Nat.le_of_ble_eq_true rfl) ?_
  show E_X12_chair l q 0 [(0, rV (some 60)), (1, iV p1), (2, iV p2), (3, iV p3)] [] M 0 0
  refine e_aload_n dX12_chair_0 rfl rfl ?_
  refine e_iload_n dX12_chair_1 rfl rfl ?_
  refine e_callV (As := [iV p1]) (st := []) mt_X12_isService in_X12_isService lkX12_193 rfl rfl ⟨by decide, by decide⟩ (Nat.le_of_ble_eq_true rfl) ⟨by decide, by decide⟩ rfl rfl dX12_chair_2 (Ctr.mono h (fun v M1 h => ?_))
  obtain ⟨r2, rfl, h⟩ := h
  show E_X12_chair l q 5 [(0, rV (some 60)), (1, iV p1), (2, iV p2), (3, iV p3)] [iV r2] M1 0 0
  refine e_if_eq (tgt := 24) dX12_chair_5 (by decide) (fun c3 => ?_) (fun c3 => ?_)
  · replace h := h.1 c3
    refine e_bipush (v := (-2)) dX12_chair_24 (by decide) ?_
    exact e_iret rfl trivial dX12_chair_26 ⟨_, rfl, h⟩
  · replace h := h.2 c3
    refine e_iload_n dX12_chair_8 rfl rfl ?_
    refine e_iconst (v := 0) dX12_chair_9 (by decide) ?_
    refine e_aload_n dX12_chair_10 rfl rfl ?_
    refine e_iload_n dX12_chair_11 rfl rfl ?_
    refine e_iconst (v := (-1)) dX12_chair_12 (by decide) ?_
    refine e_callV (As := [iV p1, iV (-1)]) (st := [iV 0, iV p2]) mt_X12_chairs in_X12_chairs lkX12_196 rfl rfl ⟨by decide, by decide⟩ (Nat.le_of_ble_eq_true rfl) ⟨by decide, by decide⟩ rfl rfl dX12_chair_13 (Ctr.mono h (fun v M4 h => ?_))
    obtain ⟨r5, rfl, h⟩ := h
    show E_X12_chair l q 16 [(0, rV (some 60)), (1, iV p1), (2, iV p2), (3, iV p3)] [iV r5, iV 0, iV p2] M4 0 0
    refine e_iconst (v := 1) dX12_chair_16 (by decide) ?_
    refine e_isub dX12_chair_17 ?_
    refine e_callS (As := [iV p2, iV 0, iV (r5 - 1)]) (st := []) mt_X12_in is_X12_in lkX12_155 ⟨by decide, by decide⟩ (Nat.le_of_ble_eq_true rfl) ⟨by decide, by decide⟩ rfl rfl dX12_chair_18 (Ctr.mono h (fun v M6 h => ?_))
    obtain ⟨r7, rfl, h⟩ := h
    show E_X12_chair l q 21 [(0, rV (some 60)), (1, iV p1), (2, iV p2), (3, iV p3)] [iV r7] M6 0 0
    refine e_if_ne (tgt := 27) dX12_chair_21 (by decide) (fun c8 => ?_) (fun c8 => ?_)
    · replace h := h.1 c8
      refine e_iload_n dX12_chair_27 rfl rfl ?_
      refine e_if_eq (tgt := 56) dX12_chair_28 (by decide) (fun c9 => ?_) (fun c9 => ?_)
      · replace h := h.1 c9
        refine e_aload_n dX12_chair_56 rfl rfl ?_
        refine e_iload_n dX12_chair_57 rfl rfl ?_
        refine e_callV (As := [iV p1]) (st := []) mt_X12_seats in_X12_seats lkX12_327 rfl rfl ⟨by decide, by decide⟩ (Nat.le_of_ble_eq_true rfl) ⟨by decide, by decide⟩ rfl rfl dX12_chair_58 (Ctr.mono h (fun v M10 h => ?_))
        obtain ⟨r11, rfl, h⟩ := h
        show E_X12_chair l q 61 [(0, rV (some 60)), (1, iV p1), (2, iV p2), (3, iV p3)] [iV r11] M10 0 0
        refine e_istore (lv' := [(4, iV r11), (0, rV (some 60)), (1, iV p1), (2, iV p2), (3, iV p3)]) (by decide) rfl dX12_chair_61 ?_
        refine e_iload rfl dX12_chair_63 ?_
        refine e_if_ge (tgt := 72) dX12_chair_65 (by decide) (fun c12 => ?_) (fun c12 => ?_)
        · replace h := h.1 c12
          refine e_aload_n dX12_chair_72 rfl rfl ?_
          obtain ⟨o13, h⟩ := h
          refine e_gA flX12_126 rfl rfl o13 dX12_chair_73 ?_
          refine e_iload_n dX12_chair_76 rfl rfl ?_
          obtain ⟨o14, h⟩ := h
          refine e_iald rfl o14 dX12_chair_77 ?_
          exact e_iret rfl trivial dX12_chair_78 ⟨_, rfl, h⟩
        · replace h := h.2 c12
          refine e_iconst (v := (-1)) dX12_chair_68 (by decide) ?_
          refine e_goto (tgt := 78) dX12_chair_69 (by decide) ?_
          exact e_iret rfl trivial dX12_chair_78 ⟨_, rfl, h⟩
      · replace h := h.2 c9
        refine e_aload_n dX12_chair_31 rfl rfl ?_
        obtain ⟨o15, h⟩ := h
        refine e_gA flX12_67 rfl rfl o15 dX12_chair_32 ?_
        refine e_iload_n dX12_chair_35 rfl rfl ?_
        obtain ⟨o16, h⟩ := h
        refine e_zald rfl o16 dX12_chair_36 ?_
        refine e_if_eq (tgt := 54) dX12_chair_37 (by decide) (fun c17 => ?_) (fun c17 => ?_)
        · replace h := h.1 c17
          refine e_iconst (v := (-1)) dX12_chair_54 (by decide) ?_
          exact e_iret rfl trivial dX12_chair_55 ⟨_, rfl, h⟩
        · replace h := h.2 c17
          refine e_aload_n dX12_chair_40 rfl rfl ?_
          obtain ⟨o18, h⟩ := h
          refine e_gA flX12_64 rfl rfl o18 dX12_chair_41 ?_
          refine e_bipush (v := 12) dX12_chair_44 (by decide) ?_
          refine e_iload_n dX12_chair_46 rfl rfl ?_
          refine e_imul dX12_chair_47 ?_
          refine e_iload_n dX12_chair_48 rfl rfl ?_
          refine e_iadd dX12_chair_49 ?_
          obtain ⟨o19, h⟩ := h
          refine e_iald rfl o19 dX12_chair_50 ?_
          refine e_goto (tgt := 55) dX12_chair_51 (by decide) ?_
          exact e_iret rfl trivial dX12_chair_55 ⟨_, rfl, h⟩
    · replace h := h.2 c8
      refine e_bipush (v := (-2)) dX12_chair_24 (by decide) ?_
      exact e_iret rfl trivial dX12_chair_26 ⟨_, rfl, h⟩
theorem w_X12_gaps (l : Launch) (p1 : Int32) (M : o_M) (q : Int32 → o_M → Prop) (h : K_X12_isService l [rV (some 60), iV p1] M (fun r2 M1 => ((r2 = 0 → q (-2) M1) ∧ (¬ r2 = 0 → K_X12_seats l [rV (some 60), iV p1] M1 (fun r5 M4 => q r5 M4))))) : K_X12_gaps l [rV (some 60), iV p1] M q := by
  refine o_ctr (ini := false) (by decide +kernel) rfl (fun z => by cases z) (Nat.le_of_ble_eq_true rfl) ?_
  show E_X12_gaps l q 0 [(0, rV (some 60)), (1, iV p1)] [] M 0 0
  refine e_aload_n dX12_gaps_0 rfl rfl ?_
  refine e_iload_n dX12_gaps_1 rfl rfl ?_
  refine e_callV (As := [iV p1]) (st := []) mt_X12_isService in_X12_isService lkX12_193 rfl rfl ⟨by decide, by decide⟩ (Nat.le_of_ble_eq_true rfl) ⟨by decide, by decide⟩ rfl rfl dX12_gaps_2 (Ctr.mono h (fun v M1 h => ?_))
  obtain ⟨r2, rfl, h⟩ := h
  show E_X12_gaps l q 5 [(0, rV (some 60)), (1, iV p1)] [iV r2] M1 0 0
  refine e_if_eq (tgt := 16) dX12_gaps_5 (by decide) (fun c3 => ?_) (fun c3 => ?_)
  · replace h := h.1 c3
    refine e_bipush (v := (-2)) dX12_gaps_16 (by decide) ?_
    exact e_iret rfl trivial dX12_gaps_18 ⟨_, rfl, h⟩
  · replace h := h.2 c3
    refine e_aload_n dX12_gaps_8 rfl rfl ?_
    refine e_iload_n dX12_gaps_9 rfl rfl ?_
    refine e_callV (As := [iV p1]) (st := []) mt_X12_seats in_X12_seats lkX12_327 rfl rfl ⟨by decide, by decide⟩ (Nat.le_of_ble_eq_true rfl) ⟨by decide, by decide⟩ rfl rfl dX12_gaps_10 (Ctr.mono h (fun v M4 h => ?_))
    obtain ⟨r5, rfl, h⟩ := h
    show E_X12_gaps l q 13 [(0, rV (some 60)), (1, iV p1)] [iV r5] M4 0 0
    refine e_goto (tgt := 18) dX12_gaps_13 (by decide) ?_
    exact e_iret rfl trivial dX12_gaps_18 ⟨_, rfl, h⟩
abbrev H_X12_seat_19 (l : Launch) (q : Int32 → o_M → Prop) (v1 : Int32) (v2 : Int32) (v3 : Int32) (M : o_M) : Prop := E_X12_seat l q 19 [(0, rV (some 60)), (1, iV v1), (2, iV v2), (3, iV v3)] [] M 0 0
theorem w_X12_seat (l : Launch) (p1 : Int32) (M : o_M) (q : Int32 → o_M → Prop) (h : K_X12_isService l [rV (some 60), iV p1] M (fun r2 M1 => ((¬ r2 = 0 → K_X12_seats l [rV (some 60), iV p1] M1 (fun r5 M4 => H_X12_seat_19 l q p1 r5 0 M4)) ∧ (r2 = 0 → q (-2) M1)))) : K_X12_seat l [rV (some 60), iV p1] M q := by
  refine o_ctr (ini := false) (by decide +kernel) rfl (fun z => by cases z) (Nat.le_of_ble_eq_true rfl) ?_
  show E_X12_seat l q 0 [(0, rV (some 60)), (1, iV p1)] [] M 0 0
  refine e_aload_n dX12_seat_0 rfl rfl ?_
  refine e_iload_n dX12_seat_1 rfl rfl ?_
  refine e_callV (As := [iV p1]) (st := []) mt_X12_isService in_X12_isService lkX12_193 rfl rfl ⟨by decide, by decide⟩ (Nat.le_of_ble_eq_true rfl) ⟨by decide, by decide⟩ rfl rfl dX12_seat_2 (Ctr.mono h (fun v M1 h => ?_))
  obtain ⟨r2, rfl, h⟩ := h
  show E_X12_seat l q 5 [(0, rV (some 60)), (1, iV p1)] [iV r2] M1 0 0
  refine e_if_ne (tgt := 11) dX12_seat_5 (by decide) (fun c3 => ?_) (fun c3 => ?_)
  · replace h := h.1 c3
    refine e_aload_n dX12_seat_11 rfl rfl ?_
    refine e_iload_n dX12_seat_12 rfl rfl ?_
    refine e_callV (As := [iV p1]) (st := []) mt_X12_seats in_X12_seats lkX12_327 rfl rfl ⟨by decide, by decide⟩ (Nat.le_of_ble_eq_true rfl) ⟨by decide, by decide⟩ rfl rfl dX12_seat_13 (Ctr.mono h (fun v M4 h => ?_))
    obtain ⟨r5, rfl, h⟩ := h
    show E_X12_seat l q 16 [(0, rV (some 60)), (1, iV p1)] [iV r5] M4 0 0
    refine e_istore_n (lv' := [(2, iV r5), (0, rV (some 60)), (1, iV p1)]) dX12_seat_16 rfl (by decide) rfl ?_
    refine e_iconst (v := 0) dX12_seat_17 (by decide) ?_
    refine e_istore_n (lv' := [(3, iV 0), (2, iV r5), (0, rV (some 60)), (1, iV p1)]) dX12_seat_18 rfl (by decide) rfl ?_
    exact e_lv (List.forall_mem_cons.mpr ⟨rfl, List.forall_mem_cons.mpr ⟨rfl, List.forall_mem_cons.mpr ⟨rfl, List.forall_mem_cons.mpr ⟨rfl, fun _ h => absurd h List.not_mem_nil⟩⟩⟩⟩) h
  · replace h := h.2 c3
    refine e_bipush (v := (-2)) dX12_seat_8 (by decide) ?_
    exact e_iret rfl trivial dX12_seat_10 ⟨_, rfl, h⟩
theorem w_X12_seat_19 (l : Launch) (q : Int32 → o_M → Prop) (v1 : Int32) (v2 : Int32) (v3 : Int32) (M : o_M) (h : ((12 ≤ v3 → (mR M 60 22 = some 83 ∧ (vp_in v1 (mN M 83) ∧ q v2 (sI M 83 v1.toNatClampNeg (vp_nar .boolean 1))))) ∧ (¬ 12 ≤ v3 → (mR M 60 21 = some 82 ∧ K_X12_chairs l [rV (some 60), iV v1, iV (-1)] M (fun r11 M10 => ((r11 ≤ v3 → (vp_in ((12 * v1) + v3) (mN M10 82) ∧ H_X12_seat_19 l q v1 v2 (v3 + 1) (sI M10 82 (((12 * v1) + v3).toNatClampNeg) (-1)))) ∧ (¬ r11 ≤ v3 → (mR M10 60 53 = some 114 ∧ (vp_in v3 (mN M10 114) ∧ (vp_in ((12 * v1) + v3) (mN M10 82) ∧ H_X12_seat_19 l q v1 v2 (v3 + 1) (sI M10 82 (((12 * v1) + v3).toNatClampNeg) (mI M10 114 v3.toNatClampNeg)))))))))))) : H_X12_seat_19 l q v1 v2 v3 M := by
  refine e_iload_n dX12_seat_19 rfl rfl ?_
  refine e_bipush (v := 12) dX12_seat_20 (by decide) ?_
  refine e_ic_ge (tgt := 62) dX12_seat_22 (by decide) (fun c6 => ?_) (fun c6 => ?_)
  · replace h := h.1 c6
    refine e_aload_n dX12_seat_62 rfl rfl ?_
    obtain ⟨o7, h⟩ := h
    refine e_gA flX12_67 rfl rfl o7 dX12_seat_63 ?_
    refine e_iload_n dX12_seat_66 rfl rfl ?_
    refine e_iconst (v := 1) dX12_seat_67 (by decide) ?_
    obtain ⟨o8, h⟩ := h
    refine e_zast rfl o8 dX12_seat_68 ?_
    refine e_iload_n dX12_seat_69 rfl rfl ?_
    exact e_iret rfl trivial dX12_seat_70 ⟨_, rfl, h⟩
  · replace h := h.2 c6
    refine e_aload_n dX12_seat_25 rfl rfl ?_
    obtain ⟨o9, h⟩ := h
    refine e_gA flX12_64 rfl rfl o9 dX12_seat_26 ?_
    refine e_bipush (v := 12) dX12_seat_29 (by decide) ?_
    refine e_iload_n dX12_seat_31 rfl rfl ?_
    refine e_imul dX12_seat_32 ?_
    refine e_iload_n dX12_seat_33 rfl rfl ?_
    refine e_iadd dX12_seat_34 ?_
    refine e_iload_n dX12_seat_35 rfl rfl ?_
    refine e_aload_n dX12_seat_36 rfl rfl ?_
    refine e_iload_n dX12_seat_37 rfl rfl ?_
    refine e_iconst (v := (-1)) dX12_seat_38 (by decide) ?_
    refine e_callV (As := [iV v1, iV (-1)]) (st := [iV v3, iV ((12 * v1) + v3), rV (some 82)]) mt_X12_chairs in_X12_chairs lkX12_196 rfl rfl ⟨by decide, by decide⟩ (Nat.le_of_ble_eq_true rfl) ⟨by decide, by decide⟩ rfl rfl dX12_seat_39 (Ctr.mono h (fun v M10 h => ?_))
    obtain ⟨r11, rfl, h⟩ := h
    show E_X12_seat l q 42 [(0, rV (some 60)), (1, iV v1), (2, iV v2), (3, iV v3)] [iV r11, iV v3, iV ((12 * v1) + v3), rV (some 82)] M10 0 0
    refine e_ic_ge (tgt := 54) dX12_seat_42 (by decide) (fun c12 => ?_) (fun c12 => ?_)
    · replace h := h.1 c12
      refine e_iconst (v := (-1)) dX12_seat_54 (by decide) ?_
      obtain ⟨o13, h⟩ := h
      refine e_iast rfl o13 dX12_seat_55 ?_
      refine e_iinc (v := 1) (lv' := [(3, iV (v3 + 1)), (0, rV (some 60)), (1, iV v1), (2, iV v2)]) rfl (by decide) (by decide) rfl dX12_seat_56 ?_
      refine e_goto (tgt := 19) dX12_seat_59 (by decide) ?_
      exact e_lv (List.forall_mem_cons.mpr ⟨rfl, List.forall_mem_cons.mpr ⟨rfl, List.forall_mem_cons.mpr ⟨rfl, List.forall_mem_cons.mpr ⟨rfl, fun _ h => absurd h List.not_mem_nil⟩⟩⟩⟩) h
    · replace h := h.2 c12
      refine e_aload_n dX12_seat_45 rfl rfl ?_
      obtain ⟨o14, h⟩ := h
      refine e_gA flX12_126 rfl rfl o14 dX12_seat_46 ?_
      refine e_iload_n dX12_seat_49 rfl rfl ?_
      obtain ⟨o15, h⟩ := h
      refine e_iald rfl o15 dX12_seat_50 ?_
      refine e_goto (tgt := 55) dX12_seat_51 (by decide) ?_
      obtain ⟨o16, h⟩ := h
      refine e_iast rfl o16 dX12_seat_55 ?_
      refine e_iinc (v := 1) (lv' := [(3, iV (v3 + 1)), (0, rV (some 60)), (1, iV v1), (2, iV v2)]) rfl (by decide) (by decide) rfl dX12_seat_56 ?_
      refine e_goto (tgt := 19) dX12_seat_59 (by decide) ?_
      exact e_lv (List.forall_mem_cons.mpr ⟨rfl, List.forall_mem_cons.mpr ⟨rfl, List.forall_mem_cons.mpr ⟨rfl, List.forall_mem_cons.mpr ⟨rfl, fun _ h => absurd h List.not_mem_nil⟩⟩⟩⟩) h
abbrev H_X12_both_4 (l : Launch) (d : Nat) (q : o_M → Prop) (M : o_M) : Prop := E_X12_both l d q 4 [(0, rV (some 60))] [] M 0 0
theorem w_X12_both (l : Launch) (d : Nat) (hd : 20 ≤ d) (M : o_M) (q : o_M → Prop) (h : K_X12_not l (d - 1) [rV (some 60)] M (fun M1 => H_X12_both_4 l d q M1)) : K_X12_both l d [rV (some 60)] M q := by
  refine o_ctr (ini := false) (by decide +kernel) rfl (fun z => by cases z) (Nat.le_of_ble_eq_true rfl) ?_
  show E_X12_both l d q 0 [(0, rV (some 60))] [] M 0 0
  refine e_aload_n dX12_both_0 rfl rfl ?_
  refine e_callV (As := []) (st := []) mt_X12_not in_X12_not lkX12_266 rfl rfl (o_roomd (by omega) (by decide)) (Nat.le_of_ble_eq_true rfl) ⟨Nat.le_of_ble_eq_true rfl, Nat.le_of_ble_eq_true rfl⟩ rfl rfl dX12_both_1 (Ctr.mono h (fun v M1 h => ?_))
  obtain ⟨rfl, h⟩ := h
  show E_X12_both l d q 4 [(0, rV (some 60))] [] M1 0 0
  exact e_lv (List.forall_mem_cons.mpr ⟨rfl, fun _ h => absurd h List.not_mem_nil⟩) h
theorem w_X12_both_4 (l : Launch) (d : Nat) (q : o_M → Prop) (hd : 20 ≤ d) (M : o_M) (h : K_X12_isWrong l [rV (some 60)] M (fun r3 M2 => ((¬ r3 = 0 → q M2) ∧ (r3 = 0 → ((¬ (mI M2 60 45) = 304 → q M2) ∧ ((mI M2 60 45) = 304 → K_X12_next l [rV (some 60)] M2 (fun M6 => K_X12_not l (d - 1) [rV (some 60)] M6 (fun M7 => K_X12_emit l [rV (some 60), iV 3, iV 0] M7 (fun M8 => H_X12_both_4 l d q M8))))))))) : H_X12_both_4 l d q M := by
  refine e_aload_n dX12_both_4 rfl rfl ?_
  refine e_callV (As := []) (st := []) mt_X12_isWrong in_X12_isWrong lkX12_236 rfl rfl (o_roomd (by omega) (by decide)) (Nat.le_of_ble_eq_true rfl) ⟨Nat.le_of_ble_eq_true rfl, Nat.le_of_ble_eq_true rfl⟩ rfl rfl dX12_both_5 (Ctr.mono h (fun v M2 h => ?_))
  obtain ⟨r3, rfl, h⟩ := h
  show E_X12_both l d q 8 [(0, rV (some 60))] [iV r3] M2 0 0
  refine e_if_ne (tgt := 38) dX12_both_8 (by decide) (fun c4 => ?_) (fun c4 => ?_)
  · replace h := h.1 c4
    exact e_ret rfl dX12_both_38 ⟨rfl, h⟩
  · replace h := h.2 c4
    refine e_aload_n dX12_both_11 rfl rfl ?_
    refine e_gI flX12_215 rfl rfl dX12_both_12 ?_
    refine e_sipush (v := 304) dX12_both_15 (by decide) ?_
    refine e_ic_ne (tgt := 38) dX12_both_18 (by decide) (fun c5 => ?_) (fun c5 => ?_)
    · replace h := h.1 c5
      exact e_ret rfl dX12_both_38 ⟨rfl, h⟩
    · replace h := h.2 c5
      refine e_aload_n dX12_both_21 rfl rfl ?_
      refine e_callV (As := []) (st := []) mt_X12_next in_X12_next lkX12_243 rfl rfl (o_roomd (by omega) (by decide)) (Nat.le_of_ble_eq_true rfl) ⟨Nat.le_of_ble_eq_true rfl, Nat.le_of_ble_eq_true rfl⟩ rfl rfl dX12_both_22 (Ctr.mono h (fun v M6 h => ?_))
      obtain ⟨rfl, h⟩ := h
      show E_X12_both l d q 25 [(0, rV (some 60))] [] M6 0 0
      refine e_aload_n dX12_both_25 rfl rfl ?_
      refine e_callV (As := []) (st := []) mt_X12_not in_X12_not lkX12_266 rfl rfl (o_roomd (by omega) (by decide)) (Nat.le_of_ble_eq_true rfl) ⟨Nat.le_of_ble_eq_true rfl, Nat.le_of_ble_eq_true rfl⟩ rfl rfl dX12_both_26 (Ctr.mono h (fun v M7 h => ?_))
      obtain ⟨rfl, h⟩ := h
      show E_X12_both l d q 29 [(0, rV (some 60))] [] M7 0 0
      refine e_aload_n dX12_both_29 rfl rfl ?_
      refine e_iconst (v := 3) dX12_both_30 (by decide) ?_
      refine e_iconst (v := 0) dX12_both_31 (by decide) ?_
      refine e_callV (As := [iV 3, iV 0]) (st := []) mt_X12_emit in_X12_emit lkX12_262 rfl rfl (o_roomd (by omega) (by decide)) (Nat.le_of_ble_eq_true rfl) ⟨Nat.le_of_ble_eq_true rfl, Nat.le_of_ble_eq_true rfl⟩ rfl rfl dX12_both_32 (Ctr.mono h (fun v M8 h => ?_))
      obtain ⟨rfl, h⟩ := h
      show E_X12_both l d q 35 [(0, rV (some 60))] [] M8 0 0
      refine e_goto (tgt := 4) dX12_both_35 (by decide) ?_
      exact e_lv (List.forall_mem_cons.mpr ⟨rfl, fun _ h => absurd h List.not_mem_nil⟩) h
abbrev H_X12_either_4 (l : Launch) (d : Nat) (q : o_M → Prop) (M : o_M) : Prop := E_X12_either l d q 4 [(0, rV (some 60))] [] M 0 0
theorem w_X12_either (l : Launch) (d : Nat) (hd : 20 ≤ d) (M : o_M) (q : o_M → Prop) (h : K_X12_both l (d - 1) [rV (some 60)] M (fun M1 => H_X12_either_4 l d q M1)) : K_X12_either l d [rV (some 60)] M q := by
  refine o_ctr (ini := false) (by decide +kernel) rfl (fun z => by cases z) (Nat.le_of_ble_eq_true rfl) ?_
  show E_X12_either l d q 0 [(0, rV (some 60))] [] M 0 0
  refine e_aload_n dX12_either_0 rfl rfl ?_
  refine e_callV (As := []) (st := []) mt_X12_both in_X12_both lkX12_259 rfl rfl (o_roomd (by omega) (by decide)) (Nat.le_of_ble_eq_true rfl) ⟨Nat.le_of_ble_eq_true rfl, Nat.le_of_ble_eq_true rfl⟩ rfl rfl dX12_either_1 (Ctr.mono h (fun v M1 h => ?_))
  obtain ⟨rfl, h⟩ := h
  show E_X12_either l d q 4 [(0, rV (some 60))] [] M1 0 0
  exact e_lv (List.forall_mem_cons.mpr ⟨rfl, fun _ h => absurd h List.not_mem_nil⟩) h
theorem w_X12_either_4 (l : Launch) (d : Nat) (q : o_M → Prop) (hd : 20 ≤ d) (M : o_M) (h : K_X12_isWrong l [rV (some 60)] M (fun r3 M2 => ((¬ r3 = 0 → q M2) ∧ (r3 = 0 → ((¬ (mI M2 60 45) = 303 → q M2) ∧ ((mI M2 60 45) = 303 → K_X12_next l [rV (some 60)] M2 (fun M6 => K_X12_both l (d - 1) [rV (some 60)] M6 (fun M7 => K_X12_emit l [rV (some 60), iV 2, iV 0] M7 (fun M8 => H_X12_either_4 l d q M8))))))))) : H_X12_either_4 l d q M := by
  refine e_aload_n dX12_either_4 rfl rfl ?_
  refine e_callV (As := []) (st := []) mt_X12_isWrong in_X12_isWrong lkX12_236 rfl rfl (o_roomd (by omega) (by decide)) (Nat.le_of_ble_eq_true rfl) ⟨Nat.le_of_ble_eq_true rfl, Nat.le_of_ble_eq_true rfl⟩ rfl rfl dX12_either_5 (Ctr.mono h (fun v M2 h => ?_))
  obtain ⟨r3, rfl, h⟩ := h
  show E_X12_either l d q 8 [(0, rV (some 60))] [iV r3] M2 0 0
  refine e_if_ne (tgt := 38) dX12_either_8 (by decide) (fun c4 => ?_) (fun c4 => ?_)
  · replace h := h.1 c4
    exact e_ret rfl dX12_either_38 ⟨rfl, h⟩
  · replace h := h.2 c4
    refine e_aload_n dX12_either_11 rfl rfl ?_
    refine e_gI flX12_215 rfl rfl dX12_either_12 ?_
    refine e_sipush (v := 303) dX12_either_15 (by decide) ?_
    refine e_ic_ne (tgt := 38) dX12_either_18 (by decide) (fun c5 => ?_) (fun c5 => ?_)
    · replace h := h.1 c5
      exact e_ret rfl dX12_either_38 ⟨rfl, h⟩
    · replace h := h.2 c5
      refine e_aload_n dX12_either_21 rfl rfl ?_
      refine e_callV (As := []) (st := []) mt_X12_next in_X12_next lkX12_243 rfl rfl (o_roomd (by omega) (by decide)) (Nat.le_of_ble_eq_true rfl) ⟨Nat.le_of_ble_eq_true rfl, Nat.le_of_ble_eq_true rfl⟩ rfl rfl dX12_either_22 (Ctr.mono h (fun v M6 h => ?_))
      obtain ⟨rfl, h⟩ := h
      show E_X12_either l d q 25 [(0, rV (some 60))] [] M6 0 0
      refine e_aload_n dX12_either_25 rfl rfl ?_
      refine e_callV (As := []) (st := []) mt_X12_both in_X12_both lkX12_259 rfl rfl (o_roomd (by omega) (by decide)) (Nat.le_of_ble_eq_true rfl) ⟨Nat.le_of_ble_eq_true rfl, Nat.le_of_ble_eq_true rfl⟩ rfl rfl dX12_either_26 (Ctr.mono h (fun v M7 h => ?_))
      obtain ⟨rfl, h⟩ := h
      show E_X12_either l d q 29 [(0, rV (some 60))] [] M7 0 0
      refine e_aload_n dX12_either_29 rfl rfl ?_
      refine e_iconst (v := 2) dX12_either_30 (by decide) ?_
      refine e_iconst (v := 0) dX12_either_31 (by decide) ?_
      refine e_callV (As := [iV 2, iV 0]) (st := []) mt_X12_emit in_X12_emit lkX12_262 rfl rfl (o_roomd (by omega) (by decide)) (Nat.le_of_ble_eq_true rfl) ⟨Nat.le_of_ble_eq_true rfl, Nat.le_of_ble_eq_true rfl⟩ rfl rfl dX12_either_32 (Ctr.mono h (fun v M8 h => ?_))
      obtain ⟨rfl, h⟩ := h
      show E_X12_either l d q 35 [(0, rV (some 60))] [] M8 0 0
      refine e_goto (tgt := 4) dX12_either_35 (by decide) ?_
      exact e_lv (List.forall_mem_cons.mpr ⟨rfl, fun _ h => absurd h List.not_mem_nil⟩) h
theorem w_X12_not (l : Launch) (d : Nat) (hd : 20 ≤ d) (M : o_M) (q : o_M → Prop) (h : K_X12_isWrong l [rV (some 60)] M (fun r2 M1 => ((r2 = 0 → ((¬ (mI M1 60 45) = 305 → K_X12_sum l (d - 1) [rV (some 60)] M1 (fun M5 => K_X12_isWrong l [rV (some 60)] M5 (fun r7 M6 => ((¬ r7 = 0 → q M6) ∧ (r7 = 0 → (((mI M6 60 45) = 60 → ((¬ (mI M6 60 45) = 60 → K_X12_next l [rV (some 60)] M6 (fun M11 => K_X12_sum l (d - 1) [rV (some 60)] M11 (fun M12 => K_X12_emit l [rV (some 60), iV 6, iV 0] M12 (fun M13 => q M13)))) ∧ ((mI M6 60 45) = 60 → K_X12_next l [rV (some 60)] M6 (fun M14 => K_X12_sum l (d - 1) [rV (some 60)] M14 (fun M15 => K_X12_emit l [rV (some 60), iV 5, iV 0] M15 (fun M16 => q M16)))))) ∧ (¬ (mI M6 60 45) = 60 → ((¬ (mI M6 60 45) = 61 → q M6) ∧ ((mI M6 60 45) = 61 → ((¬ (mI M6 60 45) = 60 → K_X12_next l [rV (some 60)] M6 (fun M19 => K_X12_sum l (d - 1) [rV (some 60)] M19 (fun M20 => K_X12_emit l [rV (some 60), iV 6, iV 0] M20 (fun M21 => q M21)))) ∧ ((mI M6 60 45) = 60 → K_X12_next l [rV (some 60)] M6 (fun M22 => K_X12_sum l (d - 1) [rV (some 60)] M22 (fun M23 => K_X12_emit l [rV (some 60), iV 5, iV 0] M23 (fun M24 => q M24)))))))))))))) ∧ ((mI M1 60 45) = 305 → K_X12_opens l [rV (some 60)] M1 (fun M25 => K_X12_not l (d - 1) [rV (some 60)] M25 (fun M26 => K_X12_emit l [rV (some 60), iV 4, iV 0] (sI M26 60 48 ((mI M26 60 48) - 1)) (fun M27 => q M27)))))) ∧ (¬ r2 = 0 → q M1)))) : K_X12_not l d [rV (some 60)] M q := by
  refine o_ctr (ini := false) (by decide +kernel) rfl (fun z => by cases z) (Nat.le_of_ble_eq_true rfl) ?_
  show E_X12_not l d q 0 [(0, rV (some 60))] [] M 0 0
  refine e_aload_n dX12_not_0 rfl rfl ?_
  refine e_callV (As := []) (st := []) mt_X12_isWrong in_X12_isWrong lkX12_236 rfl rfl (o_roomd (by omega) (by decide)) (Nat.le_of_ble_eq_true rfl) ⟨Nat.le_of_ble_eq_true rfl, Nat.le_of_ble_eq_true rfl⟩ rfl rfl dX12_not_1 (Ctr.mono h (fun v M1 h => ?_))
  obtain ⟨r2, rfl, h⟩ := h
  show E_X12_not l d q 4 [(0, rV (some 60))] [iV r2] M1 0 0
  refine e_if_eq (tgt := 8) dX12_not_4 (by decide) (fun c3 => ?_) (fun c3 => ?_)
  · replace h := h.1 c3
    refine e_aload_n dX12_not_8 rfl rfl ?_
    refine e_gI flX12_215 rfl rfl dX12_not_9 ?_
    refine e_sipush (v := 305) dX12_not_12 (by decide) ?_
    refine e_ic_ne (tgt := 43) dX12_not_15 (by decide) (fun c4 => ?_) (fun c4 => ?_)
    · replace h := h.1 c4
      refine e_aload_n dX12_not_43 rfl rfl ?_
      refine e_callV (As := []) (st := []) mt_X12_sum in_X12_sum lkX12_272 rfl rfl (o_roomd (by omega) (by decide)) (Nat.le_of_ble_eq_true rfl) ⟨Nat.le_of_ble_eq_true rfl, Nat.le_of_ble_eq_true rfl⟩ rfl rfl dX12_not_44 (Ctr.mono h (fun v M5 h => ?_))
      obtain ⟨rfl, h⟩ := h
      show E_X12_not l d q 47 [(0, rV (some 60))] [] M5 0 0
      refine e_aload_n dX12_not_47 rfl rfl ?_
      refine e_callV (As := []) (st := []) mt_X12_isWrong in_X12_isWrong lkX12_236 rfl rfl (o_roomd (by omega) (by decide)) (Nat.le_of_ble_eq_true rfl) ⟨Nat.le_of_ble_eq_true rfl, Nat.le_of_ble_eq_true rfl⟩ rfl rfl dX12_not_48 (Ctr.mono h (fun v M6 h => ?_))
      obtain ⟨r7, rfl, h⟩ := h
      show E_X12_not l d q 51 [(0, rV (some 60))] [iV r7] M6 0 0
      refine e_if_ne (tgt := 102) dX12_not_51 (by decide) (fun c8 => ?_) (fun c8 => ?_)
      · replace h := h.1 c8
        exact e_ret rfl dX12_not_102 ⟨rfl, h⟩
      · replace h := h.2 c8
        refine e_aload_n dX12_not_54 rfl rfl ?_
        refine e_gI flX12_215 rfl rfl dX12_not_55 ?_
        refine e_bipush (v := 60) dX12_not_58 (by decide) ?_
        refine e_ic_eq (tgt := 72) dX12_not_60 (by decide) (fun c9 => ?_) (fun c9 => ?_)
        · replace h := h.1 c9
          refine e_aload_n dX12_not_72 rfl rfl ?_
          refine e_gI flX12_215 rfl rfl dX12_not_73 ?_
          refine e_bipush (v := 60) dX12_not_76 (by decide) ?_
          refine e_ic_ne (tgt := 85) dX12_not_78 (by decide) (fun c10 => ?_) (fun c10 => ?_)
          · replace h := h.1 c10
            refine e_bipush (v := 6) dX12_not_85 (by decide) ?_
            refine e_istore_n (lv' := [(1, iV 6), (0, rV (some 60))]) dX12_not_87 rfl (by decide) rfl ?_
            refine e_aload_n dX12_not_88 rfl rfl ?_
            refine e_callV (As := []) (st := []) mt_X12_next in_X12_next lkX12_243 rfl rfl (o_roomd (by omega) (by decide)) (Nat.le_of_ble_eq_true rfl) ⟨Nat.le_of_ble_eq_true rfl, Nat.le_of_ble_eq_true rfl⟩ rfl rfl dX12_not_89 (Ctr.mono h (fun v M11 h => ?_))
            obtain ⟨rfl, h⟩ := h
            show E_X12_not l d q 92 [(1, iV 6), (0, rV (some 60))] [] M11 0 0
            refine e_aload_n dX12_not_92 rfl rfl ?_
            refine e_callV (As := []) (st := []) mt_X12_sum in_X12_sum lkX12_272 rfl rfl (o_roomd (by omega) (by decide)) (Nat.le_of_ble_eq_true rfl) ⟨Nat.le_of_ble_eq_true rfl, Nat.le_of_ble_eq_true rfl⟩ rfl rfl dX12_not_93 (Ctr.mono h (fun v M12 h => ?_))
            obtain ⟨rfl, h⟩ := h
            show E_X12_not l d q 96 [(1, iV 6), (0, rV (some 60))] [] M12 0 0
            refine e_aload_n dX12_not_96 rfl rfl ?_
            refine e_iload_n dX12_not_97 rfl rfl ?_
            refine e_iconst (v := 0) dX12_not_98 (by decide) ?_
            refine e_callV (As := [iV 6, iV 0]) (st := []) mt_X12_emit in_X12_emit lkX12_262 rfl rfl (o_roomd (by omega) (by decide)) (Nat.le_of_ble_eq_true rfl) ⟨Nat.le_of_ble_eq_true rfl, Nat.le_of_ble_eq_true rfl⟩ rfl rfl dX12_not_99 (Ctr.mono h (fun v M13 h => ?_))
            obtain ⟨rfl, h⟩ := h
            show E_X12_not l d q 102 [(1, iV 6), (0, rV (some 60))] [] M13 0 0
            exact e_ret rfl dX12_not_102 ⟨rfl, h⟩
          · replace h := h.2 c10
            refine e_iconst (v := 5) dX12_not_81 (by decide) ?_
            refine e_goto (tgt := 87) dX12_not_82 (by decide) ?_
            refine e_istore_n (lv' := [(1, iV 5), (0, rV (some 60))]) dX12_not_87 rfl (by decide) rfl ?_
            refine e_aload_n dX12_not_88 rfl rfl ?_
            refine e_callV (As := []) (st := []) mt_X12_next in_X12_next lkX12_243 rfl rfl (o_roomd (by omega) (by decide)) (Nat.le_of_ble_eq_true rfl) ⟨Nat.le_of_ble_eq_true rfl, Nat.le_of_ble_eq_true rfl⟩ rfl rfl dX12_not_89 (Ctr.mono h (fun v M14 h => ?_))
            obtain ⟨rfl, h⟩ := h
            show E_X12_not l d q 92 [(1, iV 5), (0, rV (some 60))] [] M14 0 0
            refine e_aload_n dX12_not_92 rfl rfl ?_
            refine e_callV (As := []) (st := []) mt_X12_sum in_X12_sum lkX12_272 rfl rfl (o_roomd (by omega) (by decide)) (Nat.le_of_ble_eq_true rfl) ⟨Nat.le_of_ble_eq_true rfl, Nat.le_of_ble_eq_true rfl⟩ rfl rfl dX12_not_93 (Ctr.mono h (fun v M15 h => ?_))
            obtain ⟨rfl, h⟩ := h
            show E_X12_not l d q 96 [(1, iV 5), (0, rV (some 60))] [] M15 0 0
            refine e_aload_n dX12_not_96 rfl rfl ?_
            refine e_iload_n dX12_not_97 rfl rfl ?_
            refine e_iconst (v := 0) dX12_not_98 (by decide) ?_
            refine e_callV (As := [iV 5, iV 0]) (st := []) mt_X12_emit in_X12_emit lkX12_262 rfl rfl (o_roomd (by omega) (by decide)) (Nat.le_of_ble_eq_true rfl) ⟨Nat.le_of_ble_eq_true rfl, Nat.le_of_ble_eq_true rfl⟩ rfl rfl dX12_not_99 (Ctr.mono h (fun v M16 h => ?_))
            obtain ⟨rfl, h⟩ := h
            show E_X12_not l d q 102 [(1, iV 5), (0, rV (some 60))] [] M16 0 0
            exact e_ret rfl dX12_not_102 ⟨rfl, h⟩
        · replace h := h.2 c9
          refine e_aload_n dX12_not_63 rfl rfl ?_
          refine e_gI flX12_215 rfl rfl dX12_not_64 ?_
          refine e_bipush (v := 61) dX12_not_67 (by decide) ?_
          refine e_ic_ne (tgt := 102) dX12_not_69 (by decide) (fun c17 => ?_) (fun c17 => ?_)
          · replace h := h.1 c17
            exact e_ret rfl dX12_not_102 ⟨rfl, h⟩
          · replace h := h.2 c17
            refine e_aload_n dX12_not_72 rfl rfl ?_
            refine e_gI flX12_215 rfl rfl dX12_not_73 ?_
            refine e_bipush (v := 60) dX12_not_76 (by decide) ?_
            refine e_ic_ne (tgt := 85) dX12_not_78 (by decide) (fun c18 => ?_) (fun c18 => ?_)
            · replace h := h.1 c18
              refine e_bipush (v := 6) dX12_not_85 (by decide) ?_
              refine e_istore_n (lv' := [(1, iV 6), (0, rV (some 60))]) dX12_not_87 rfl (by decide) rfl ?_
              refine e_aload_n dX12_not_88 rfl rfl ?_
              refine e_callV (As := []) (st := []) mt_X12_next in_X12_next lkX12_243 rfl rfl (o_roomd (by omega) (by decide)) (Nat.le_of_ble_eq_true rfl) ⟨Nat.le_of_ble_eq_true rfl, Nat.le_of_ble_eq_true rfl⟩ rfl rfl dX12_not_89 (Ctr.mono h (fun v M19 h => ?_))
              obtain ⟨rfl, h⟩ := h
              show E_X12_not l d q 92 [(1, iV 6), (0, rV (some 60))] [] M19 0 0
              refine e_aload_n dX12_not_92 rfl rfl ?_
              refine e_callV (As := []) (st := []) mt_X12_sum in_X12_sum lkX12_272 rfl rfl (o_roomd (by omega) (by decide)) (Nat.le_of_ble_eq_true rfl) ⟨Nat.le_of_ble_eq_true rfl, Nat.le_of_ble_eq_true rfl⟩ rfl rfl dX12_not_93 (Ctr.mono h (fun v M20 h => ?_))
              obtain ⟨rfl, h⟩ := h
              show E_X12_not l d q 96 [(1, iV 6), (0, rV (some 60))] [] M20 0 0
              refine e_aload_n dX12_not_96 rfl rfl ?_
              refine e_iload_n dX12_not_97 rfl rfl ?_
              refine e_iconst (v := 0) dX12_not_98 (by decide) ?_
              refine e_callV (As := [iV 6, iV 0]) (st := []) mt_X12_emit in_X12_emit lkX12_262 rfl rfl (o_roomd (by omega) (by decide)) (Nat.le_of_ble_eq_true rfl) ⟨Nat.le_of_ble_eq_true rfl, Nat.le_of_ble_eq_true rfl⟩ rfl rfl dX12_not_99 (Ctr.mono h (fun v M21 h => ?_))
              obtain ⟨rfl, h⟩ := h
              show E_X12_not l d q 102 [(1, iV 6), (0, rV (some 60))] [] M21 0 0
              exact e_ret rfl dX12_not_102 ⟨rfl, h⟩
            · replace h := h.2 c18
              refine e_iconst (v := 5) dX12_not_81 (by decide) ?_
              refine e_goto (tgt := 87) dX12_not_82 (by decide) ?_
              refine e_istore_n (lv' := [(1, iV 5), (0, rV (some 60))]) dX12_not_87 rfl (by decide) rfl ?_
              refine e_aload_n dX12_not_88 rfl rfl ?_
              refine e_callV (As := []) (st := []) mt_X12_next in_X12_next lkX12_243 rfl rfl (o_roomd (by omega) (by decide)) (Nat.le_of_ble_eq_true rfl) ⟨Nat.le_of_ble_eq_true rfl, Nat.le_of_ble_eq_true rfl⟩ rfl rfl dX12_not_89 (Ctr.mono h (fun v M22 h => ?_))
              obtain ⟨rfl, h⟩ := h
              show E_X12_not l d q 92 [(1, iV 5), (0, rV (some 60))] [] M22 0 0
              refine e_aload_n dX12_not_92 rfl rfl ?_
              refine e_callV (As := []) (st := []) mt_X12_sum in_X12_sum lkX12_272 rfl rfl (o_roomd (by omega) (by decide)) (Nat.le_of_ble_eq_true rfl) ⟨Nat.le_of_ble_eq_true rfl, Nat.le_of_ble_eq_true rfl⟩ rfl rfl dX12_not_93 (Ctr.mono h (fun v M23 h => ?_))
              obtain ⟨rfl, h⟩ := h
              show E_X12_not l d q 96 [(1, iV 5), (0, rV (some 60))] [] M23 0 0
              refine e_aload_n dX12_not_96 rfl rfl ?_
              refine e_iload_n dX12_not_97 rfl rfl ?_
              refine e_iconst (v := 0) dX12_not_98 (by decide) ?_
              refine e_callV (As := [iV 5, iV 0]) (st := []) mt_X12_emit in_X12_emit lkX12_262 rfl rfl (o_roomd (by omega) (by decide)) (Nat.le_of_ble_eq_true rfl) ⟨Nat.le_of_ble_eq_true rfl, Nat.le_of_ble_eq_true rfl⟩ rfl rfl dX12_not_99 (Ctr.mono h (fun v M24 h => ?_))
              obtain ⟨rfl, h⟩ := h
              show E_X12_not l d q 102 [(1, iV 5), (0, rV (some 60))] [] M24 0 0
              exact e_ret rfl dX12_not_102 ⟨rfl, h⟩
    · replace h := h.2 c4
      refine e_aload_n dX12_not_18 rfl rfl ?_
      refine e_callV (As := []) (st := []) mt_X12_opens in_X12_opens lkX12_269 rfl rfl (o_roomd (by omega) (by decide)) (Nat.le_of_ble_eq_true rfl) ⟨Nat.le_of_ble_eq_true rfl, Nat.le_of_ble_eq_true rfl⟩ rfl rfl dX12_not_19 (Ctr.mono h (fun v M25 h => ?_))
      obtain ⟨rfl, h⟩ := h
      show E_X12_not l d q 22 [(0, rV (some 60))] [] M25 0 0
      refine e_aload_n dX12_not_22 rfl rfl ?_
      refine e_callV (As := []) (st := []) mt_X12_not in_X12_not lkX12_266 rfl rfl (o_roomd (by omega) (by decide)) (Nat.le_of_ble_eq_true rfl) ⟨Nat.le_of_ble_eq_true rfl, Nat.le_of_ble_eq_true rfl⟩ rfl rfl dX12_not_23 (Ctr.mono h (fun v M26 h => ?_))
      obtain ⟨rfl, h⟩ := h
      show E_X12_not l d q 26 [(0, rV (some 60))] [] M26 0 0
      refine e_aload_n dX12_not_26 rfl rfl ?_
      refine e_dup rfl dX12_not_27 ?_
      refine e_gI flX12_246 rfl rfl dX12_not_28 ?_
      refine e_iconst (v := 1) dX12_not_31 (by decide) ?_
      refine e_isub dX12_not_32 ?_
      refine e_pI flX12_246 rfl (Or.inl rfl) rfl rfl rfl dX12_not_33 ?_
      refine e_aload_n dX12_not_36 rfl rfl ?_
      refine e_iconst (v := 4) dX12_not_37 (by decide) ?_
      refine e_iconst (v := 0) dX12_not_38 (by decide) ?_
      refine e_callV (As := [iV 4, iV 0]) (st := []) mt_X12_emit in_X12_emit lkX12_262 rfl rfl (o_roomd (by omega) (by decide)) (Nat.le_of_ble_eq_true rfl) ⟨Nat.le_of_ble_eq_true rfl, Nat.le_of_ble_eq_true rfl⟩ rfl rfl dX12_not_39 (Ctr.mono h (fun v M27 h => ?_))
      obtain ⟨rfl, h⟩ := h
      show E_X12_not l d q 42 [(0, rV (some 60))] [] M27 0 0
      exact e_ret rfl dX12_not_42 ⟨rfl, h⟩
  · replace h := h.2 c3
    exact e_ret rfl dX12_not_7 ⟨rfl, h⟩
theorem w_X12_one (l : Launch) (d : Nat) (hd : 20 ≤ d) (M : o_M) (q : o_M → Prop) (h : K_X12_isWrong l [rV (some 60)] M (fun r2 M1 => ((r2 = 0 → (((mI M1 60 45) = 1 → ((¬ (mI M1 60 45) = 1 → K_X12_emit l [rV (some 60), iV 1, iV (mI M1 60 46)] M1 (fun M6 => K_X12_next l [rV (some 60)] M6 (fun M7 => q M7))) ∧ ((mI M1 60 45) = 1 → K_X12_emit l [rV (some 60), iV 0, iV (mI M1 60 46)] M1 (fun M8 => K_X12_next l [rV (some 60)] M8 (fun M9 => q M9))))) ∧ (¬ (mI M1 60 45) = 1 → ((¬ (mI M1 60 45) = 3 → ((¬ (mI M1 60 45) = 45 → ((¬ (mI M1 60 45) = 40 → K_X12_cannot l [rV (some 60)] M1 (fun M13 => q M13)) ∧ ((mI M1 60 45) = 40 → K_X12_opens l [rV (some 60)] M1 (fun M14 => K_X12_either l (d - 1) [rV (some 60)] M14 (fun M15 => K_X12_need_ l [rV (some 60), iV 41] M15 (fun M16 => q (sI M16 60 48 ((mI M16 60 48) - 1)))))))) ∧ ((mI M1 60 45) = 45 → K_X12_opens l [rV (some 60)] M1 (fun M17 => K_X12_one l (d - 1) [rV (some 60)] M17 (fun M18 => K_X12_emit l [rV (some 60), iV 10, iV 0] (sI M18 60 48 ((mI M18 60 48) - 1)) (fun M19 => q M19)))))) ∧ ((mI M1 60 45) = 3 → ((¬ (mI M1 60 45) = 1 → K_X12_emit l [rV (some 60), iV 1, iV (mI M1 60 46)] M1 (fun M21 => K_X12_next l [rV (some 60)] M21 (fun M22 => q M22))) ∧ ((mI M1 60 45) = 1 → K_X12_emit l [rV (some 60), iV 0, iV (mI M1 60 46)] M1 (fun M23 => K_X12_next l [rV (some 60)] M23 (fun M24 => q M24))))))))) ∧ (¬ r2 = 0 → q M1)))) : K_X12_one l d [rV (some 60)] M q := by
  refine o_ctr (ini := false) (by decide +kernel) rfl (fun z => by cases z) (Nat.le_of_ble_eq_true rfl) ?_
  show E_X12_one l d q 0 [(0, rV (some 60))] [] M 0 0
  refine e_aload_n dX12_one_0 rfl rfl ?_
  refine e_callV (As := []) (st := []) mt_X12_isWrong in_X12_isWrong lkX12_236 rfl rfl (o_roomd (by omega) (by decide)) (Nat.le_of_ble_eq_true rfl) ⟨Nat.le_of_ble_eq_true rfl, Nat.le_of_ble_eq_true rfl⟩ rfl rfl dX12_one_1 (Ctr.mono h (fun v M1 h => ?_))
  obtain ⟨r2, rfl, h⟩ := h
  show E_X12_one l d q 4 [(0, rV (some 60))] [iV r2] M1 0 0
  refine e_if_eq (tgt := 8) dX12_one_4 (by decide) (fun c3 => ?_) (fun c3 => ?_)
  · replace h := h.1 c3
    refine e_aload_n dX12_one_8 rfl rfl ?_
    refine e_gI flX12_215 rfl rfl dX12_one_9 ?_
    refine e_iconst (v := 1) dX12_one_12 (by decide) ?_
    refine e_ic_eq (tgt := 24) dX12_one_13 (by decide) (fun c4 => ?_) (fun c4 => ?_)
    · replace h := h.1 c4
      refine e_aload_n dX12_one_24 rfl rfl ?_
      refine e_aload_n dX12_one_25 rfl rfl ?_
      refine e_gI flX12_215 rfl rfl dX12_one_26 ?_
      refine e_iconst (v := 1) dX12_one_29 (by decide) ?_
      refine e_ic_ne (tgt := 37) dX12_one_30 (by decide) (fun c5 => ?_) (fun c5 => ?_)
      · replace h := h.1 c5
        refine e_iconst (v := 1) dX12_one_37 (by decide) ?_
        refine e_aload_n dX12_one_38 rfl rfl ?_
        refine e_gI flX12_230 rfl rfl dX12_one_39 ?_
        refine e_callV (As := [iV 1, iV (mI M1 60 46)]) (st := []) mt_X12_emit in_X12_emit lkX12_262 rfl rfl (o_roomd (by omega) (by decide)) (Nat.le_of_ble_eq_true rfl) ⟨Nat.le_of_ble_eq_true rfl, Nat.le_of_ble_eq_true rfl⟩ rfl rfl dX12_one_42 (Ctr.mono h (fun v M6 h => ?_))
        obtain ⟨rfl, h⟩ := h
        show E_X12_one l d q 45 [(0, rV (some 60))] [] M6 0 0
        refine e_aload_n dX12_one_45 rfl rfl ?_
        refine e_callV (As := []) (st := []) mt_X12_next in_X12_next lkX12_243 rfl rfl (o_roomd (by omega) (by decide)) (Nat.le_of_ble_eq_true rfl) ⟨Nat.le_of_ble_eq_true rfl, Nat.le_of_ble_eq_true rfl⟩ rfl rfl dX12_one_46 (Ctr.mono h (fun v M7 h => ?_))
        obtain ⟨rfl, h⟩ := h
        show E_X12_one l d q 49 [(0, rV (some 60))] [] M7 0 0
        refine e_goto (tgt := 129) dX12_one_49 (by decide) ?_
        exact e_ret rfl dX12_one_129 ⟨rfl, h⟩
      · replace h := h.2 c5
        refine e_iconst (v := 0) dX12_one_33 (by decide) ?_
        refine e_goto (tgt := 38) dX12_one_34 (by decide) ?_
        refine e_aload_n dX12_one_38 rfl rfl ?_
        refine e_gI flX12_230 rfl rfl dX12_one_39 ?_
        refine e_callV (As := [iV 0, iV (mI M1 60 46)]) (st := []) mt_X12_emit in_X12_emit lkX12_262 rfl rfl (o_roomd (by omega) (by decide)) (Nat.le_of_ble_eq_true rfl) ⟨Nat.le_of_ble_eq_true rfl, Nat.le_of_ble_eq_true rfl⟩ rfl rfl dX12_one_42 (Ctr.mono h (fun v M8 h => ?_))
        obtain ⟨rfl, h⟩ := h
        show E_X12_one l d q 45 [(0, rV (some 60))] [] M8 0 0
        refine e_aload_n dX12_one_45 rfl rfl ?_
        refine e_callV (As := []) (st := []) mt_X12_next in_X12_next lkX12_243 rfl rfl (o_roomd (by omega) (by decide)) (Nat.le_of_ble_eq_true rfl) ⟨Nat.le_of_ble_eq_true rfl, Nat.le_of_ble_eq_true rfl⟩ rfl rfl dX12_one_46 (Ctr.mono h (fun v M9 h => ?_))
        obtain ⟨rfl, h⟩ := h
        show E_X12_one l d q 49 [(0, rV (some 60))] [] M9 0 0
        refine e_goto (tgt := 129) dX12_one_49 (by decide) ?_
        exact e_ret rfl dX12_one_129 ⟨rfl, h⟩
    · replace h := h.2 c4
      refine e_aload_n dX12_one_16 rfl rfl ?_
      refine e_gI flX12_215 rfl rfl dX12_one_17 ?_
      refine e_iconst (v := 3) dX12_one_20 (by decide) ?_
      refine e_ic_ne (tgt := 52) dX12_one_21 (by decide) (fun c10 => ?_) (fun c10 => ?_)
      · replace h := h.1 c10
        refine e_aload_n dX12_one_52 rfl rfl ?_
        refine e_gI flX12_215 rfl rfl dX12_one_53 ?_
        refine e_bipush (v := 45) dX12_one_56 (by decide) ?_
        refine e_ic_ne (tgt := 89) dX12_one_58 (by decide) (fun c11 => ?_) (fun c11 => ?_)
        · replace h := h.1 c11
          refine e_aload_n dX12_one_89 rfl rfl ?_
          refine e_gI flX12_215 rfl rfl dX12_one_90 ?_
          refine e_bipush (v := 40) dX12_one_93 (by decide) ?_
          refine e_ic_ne (tgt := 125) dX12_one_95 (by decide) (fun c12 => ?_) (fun c12 => ?_)
          · replace h := h.1 c12
            refine e_aload_n dX12_one_125 rfl rfl ?_
            refine e_callV (As := []) (st := []) mt_X12_cannot in_X12_cannot lkX12_240 rfl rfl (o_roomd (by omega) (by decide)) (Nat.le_of_ble_eq_true rfl) ⟨Nat.le_of_ble_eq_true rfl, Nat.le_of_ble_eq_true rfl⟩ rfl rfl dX12_one_126 (Ctr.mono h (fun v M13 h => ?_))
            obtain ⟨rfl, h⟩ := h
            show E_X12_one l d q 129 [(0, rV (some 60))] [] M13 0 0
            exact e_ret rfl dX12_one_129 ⟨rfl, h⟩
          · replace h := h.2 c12
            refine e_aload_n dX12_one_98 rfl rfl ?_
            refine e_callV (As := []) (st := []) mt_X12_opens in_X12_opens lkX12_269 rfl rfl (o_roomd (by omega) (by decide)) (Nat.le_of_ble_eq_true rfl) ⟨Nat.le_of_ble_eq_true rfl, Nat.le_of_ble_eq_true rfl⟩ rfl rfl dX12_one_99 (Ctr.mono h (fun v M14 h => ?_))
            obtain ⟨rfl, h⟩ := h
            show E_X12_one l d q 102 [(0, rV (some 60))] [] M14 0 0
            refine e_aload_n dX12_one_102 rfl rfl ?_
            refine e_callV (As := []) (st := []) mt_X12_either in_X12_either lkX12_256 rfl rfl (o_roomd (by omega) (by decide)) (Nat.le_of_ble_eq_true rfl) ⟨Nat.le_of_ble_eq_true rfl, Nat.le_of_ble_eq_true rfl⟩ rfl rfl dX12_one_103 (Ctr.mono h (fun v M15 h => ?_))
            obtain ⟨rfl, h⟩ := h
            show E_X12_one l d q 106 [(0, rV (some 60))] [] M15 0 0
            refine e_aload_n dX12_one_106 rfl rfl ?_
            refine e_bipush (v := 41) dX12_one_107 (by decide) ?_
            refine e_callV (As := [iV 41]) (st := []) mt_X12_need_ in_X12_need_ lkX12_254 rfl rfl (o_roomd (by omega) (by decide)) (Nat.le_of_ble_eq_true rfl) ⟨Nat.le_of_ble_eq_true rfl, Nat.le_of_ble_eq_true rfl⟩ rfl rfl dX12_one_109 (Ctr.mono h (fun v M16 h => ?_))
            obtain ⟨rfl, h⟩ := h
            show E_X12_one l d q 112 [(0, rV (some 60))] [] M16 0 0
            refine e_aload_n dX12_one_112 rfl rfl ?_
            refine e_dup rfl dX12_one_113 ?_
            refine e_gI flX12_246 rfl rfl dX12_one_114 ?_
            refine e_iconst (v := 1) dX12_one_117 (by decide) ?_
            refine e_isub dX12_one_118 ?_
            refine e_pI flX12_246 rfl (Or.inl rfl) rfl rfl rfl dX12_one_119 ?_
            refine e_goto (tgt := 129) dX12_one_122 (by decide) ?_
            exact e_ret rfl dX12_one_129 ⟨rfl, h⟩
        · replace h := h.2 c11
          refine e_aload_n dX12_one_61 rfl rfl ?_
          refine e_callV (As := []) (st := []) mt_X12_opens in_X12_opens lkX12_269 rfl rfl (o_roomd (by omega) (by decide)) (Nat.le_of_ble_eq_true rfl) ⟨Nat.le_of_ble_eq_true rfl, Nat.le_of_ble_eq_true rfl⟩ rfl rfl dX12_one_62 (Ctr.mono h (fun v M17 h => ?_))
          obtain ⟨rfl, h⟩ := h
          show E_X12_one l d q 65 [(0, rV (some 60))] [] M17 0 0
          refine e_aload_n dX12_one_65 rfl rfl ?_
          refine e_callV (As := []) (st := []) mt_X12_one in_X12_one lkX12_278 rfl rfl (o_roomd (by omega) (by decide)) (Nat.le_of_ble_eq_true rfl) ⟨Nat.le_of_ble_eq_true rfl, Nat.le_of_ble_eq_true rfl⟩ rfl rfl dX12_one_66 (Ctr.mono h (fun v M18 h => ?_))
          obtain ⟨rfl, h⟩ := h
          show E_X12_one l d q 69 [(0, rV (some 60))] [] M18 0 0
          refine e_aload_n dX12_one_69 rfl rfl ?_
          refine e_dup rfl dX12_one_70 ?_
          refine e_gI flX12_246 rfl rfl dX12_one_71 ?_
          refine e_iconst (v := 1) dX12_one_74 (by decide) ?_
          refine e_isub dX12_one_75 ?_
          refine e_pI flX12_246 rfl (Or.inl rfl) rfl rfl rfl dX12_one_76 ?_
          refine e_aload_n dX12_one_79 rfl rfl ?_
          refine e_bipush (v := 10) dX12_one_80 (by decide) ?_
          refine e_iconst (v := 0) dX12_one_82 (by decide) ?_
          refine e_callV (As := [iV 10, iV 0]) (st := []) mt_X12_emit in_X12_emit lkX12_262 rfl rfl (o_roomd (by omega) (by decide)) (Nat.le_of_ble_eq_true rfl) ⟨Nat.le_of_ble_eq_true rfl, Nat.le_of_ble_eq_true rfl⟩ rfl rfl dX12_one_83 (Ctr.mono h (fun v M19 h => ?_))
          obtain ⟨rfl, h⟩ := h
          show E_X12_one l d q 86 [(0, rV (some 60))] [] M19 0 0
          refine e_goto (tgt := 129) dX12_one_86 (by decide) ?_
          exact e_ret rfl dX12_one_129 ⟨rfl, h⟩
      · replace h := h.2 c10
        refine e_aload_n dX12_one_24 rfl rfl ?_
        refine e_aload_n dX12_one_25 rfl rfl ?_
        refine e_gI flX12_215 rfl rfl dX12_one_26 ?_
        refine e_iconst (v := 1) dX12_one_29 (by decide) ?_
        refine e_ic_ne (tgt := 37) dX12_one_30 (by decide) (fun c20 => ?_) (fun c20 => ?_)
        · replace h := h.1 c20
          refine e_iconst (v := 1) dX12_one_37 (by decide) ?_
          refine e_aload_n dX12_one_38 rfl rfl ?_
          refine e_gI flX12_230 rfl rfl dX12_one_39 ?_
          refine e_callV (As := [iV 1, iV (mI M1 60 46)]) (st := []) mt_X12_emit in_X12_emit lkX12_262 rfl rfl (o_roomd (by omega) (by decide)) (Nat.le_of_ble_eq_true rfl) ⟨Nat.le_of_ble_eq_true rfl, Nat.le_of_ble_eq_true rfl⟩ rfl rfl dX12_one_42 (Ctr.mono h (fun v M21 h => ?_))
          obtain ⟨rfl, h⟩ := h
          show E_X12_one l d q 45 [(0, rV (some 60))] [] M21 0 0
          refine e_aload_n dX12_one_45 rfl rfl ?_
          refine e_callV (As := []) (st := []) mt_X12_next in_X12_next lkX12_243 rfl rfl (o_roomd (by omega) (by decide)) (Nat.le_of_ble_eq_true rfl) ⟨Nat.le_of_ble_eq_true rfl, Nat.le_of_ble_eq_true rfl⟩ rfl rfl dX12_one_46 (Ctr.mono h (fun v M22 h => ?_))
          obtain ⟨rfl, h⟩ := h
          show E_X12_one l d q 49 [(0, rV (some 60))] [] M22 0 0
          refine e_goto (tgt := 129) dX12_one_49 (by decide) ?_
          exact e_ret rfl dX12_one_129 ⟨rfl, h⟩
        · replace h := h.2 c20
          refine e_iconst (v := 0) dX12_one_33 (by decide) ?_
          refine e_goto (tgt := 38) dX12_one_34 (by decide) ?_
          refine e_aload_n dX12_one_38 rfl rfl ?_
          refine e_gI flX12_230 rfl rfl dX12_one_39 ?_
          refine e_callV (As := [iV 0, iV (mI M1 60 46)]) (st := []) mt_X12_emit in_X12_emit lkX12_262 rfl rfl (o_roomd (by omega) (by decide)) (Nat.le_of_ble_eq_true rfl) ⟨Nat.le_of_ble_eq_true rfl, Nat.le_of_ble_eq_true rfl⟩ rfl rfl dX12_one_42 (Ctr.mono h (fun v M23 h => ?_))
          obtain ⟨rfl, h⟩ := h
          show E_X12_one l d q 45 [(0, rV (some 60))] [] M23 0 0
          refine e_aload_n dX12_one_45 rfl rfl ?_
          refine e_callV (As := []) (st := []) mt_X12_next in_X12_next lkX12_243 rfl rfl (o_roomd (by omega) (by decide)) (Nat.le_of_ble_eq_true rfl) ⟨Nat.le_of_ble_eq_true rfl, Nat.le_of_ble_eq_true rfl⟩ rfl rfl dX12_one_46 (Ctr.mono h (fun v M24 h => ?_))
          obtain ⟨rfl, h⟩ := h
          show E_X12_one l d q 49 [(0, rV (some 60))] [] M24 0 0
          refine e_goto (tgt := 129) dX12_one_49 (by decide) ?_
          exact e_ret rfl dX12_one_129 ⟨rfl, h⟩
  · replace h := h.2 c3
    exact e_ret rfl dX12_one_7 ⟨rfl, h⟩
abbrev H_X12_sum_4 (l : Launch) (d : Nat) (q : o_M → Prop) (M : o_M) : Prop := E_X12_sum l d q 4 [(0, rV (some 60))] [] M 0 0
theorem w_X12_sum (l : Launch) (d : Nat) (hd : 20 ≤ d) (M : o_M) (q : o_M → Prop) (h : K_X12_term l (d - 1) [rV (some 60)] M (fun M1 => H_X12_sum_4 l d q M1)) : K_X12_sum l d [rV (some 60)] M q := by
  refine o_ctr (ini := false) (by decide +kernel) rfl (fun z => by cases z) (Nat.le_of_ble_eq_true rfl) ?_
  show E_X12_sum l d q 0 [(0, rV (some 60))] [] M 0 0
  refine e_aload_n dX12_sum_0 rfl rfl ?_
  refine e_callV (As := []) (st := []) mt_X12_term in_X12_term lkX12_275 rfl rfl (o_roomd (by omega) (by decide)) (Nat.le_of_ble_eq_true rfl) ⟨Nat.le_of_ble_eq_true rfl, Nat.le_of_ble_eq_true rfl⟩ rfl rfl dX12_sum_1 (Ctr.mono h (fun v M1 h => ?_))
  obtain ⟨rfl, h⟩ := h
  show E_X12_sum l d q 4 [(0, rV (some 60))] [] M1 0 0
  exact e_lv (List.forall_mem_cons.mpr ⟨rfl, fun _ h => absurd h List.not_mem_nil⟩) h
theorem w_X12_sum_4 (l : Launch) (d : Nat) (q : o_M → Prop) (hd : 20 ≤ d) (M : o_M) (h : K_X12_isWrong l [rV (some 60)] M (fun r3 M2 => ((¬ r3 = 0 → q M2) ∧ (r3 = 0 → (((mI M2 60 45) = 43 → ((¬ (mI M2 60 45) = 43 → K_X12_next l [rV (some 60)] M2 (fun M7 => K_X12_term l (d - 1) [rV (some 60)] M7 (fun M8 => K_X12_emit l [rV (some 60), iV 8, iV 0] M8 (fun M9 => H_X12_sum_4 l d q M9)))) ∧ ((mI M2 60 45) = 43 → K_X12_next l [rV (some 60)] M2 (fun M10 => K_X12_term l (d - 1) [rV (some 60)] M10 (fun M11 => K_X12_emit l [rV (some 60), iV 7, iV 0] M11 (fun M12 => H_X12_sum_4 l d q M12)))))) ∧ (¬ (mI M2 60 45) = 43 → ((¬ (mI M2 60 45) = 45 → q M2) ∧ ((mI M2 60 45) = 45 → ((¬ (mI M2 60 45) = 43 → K_X12_next l [rV (some 60)] M2 (fun M15 => K_X12_term l (d - 1) [rV (some 60)] M15 (fun M16 => K_X12_emit l [rV (some 60), iV 8, iV 0] M16 (fun M17 => H_X12_sum_4 l d q M17)))) ∧ ((mI M2 60 45) = 43 → K_X12_next l [rV (some 60)] M2 (fun M18 => K_X12_term l (d - 1) [rV (some 60)] M18 (fun M19 => K_X12_emit l [rV (some 60), iV 7, iV 0] M19 (fun M20 => H_X12_sum_4 l d q M20))))))))))))) : H_X12_sum_4 l d q M := by
  refine e_aload_n dX12_sum_4 rfl rfl ?_
  refine e_callV (As := []) (st := []) mt_X12_isWrong in_X12_isWrong lkX12_236 rfl rfl (o_roomd (by omega) (by decide)) (Nat.le_of_ble_eq_true rfl) ⟨Nat.le_of_ble_eq_true rfl, Nat.le_of_ble_eq_true rfl⟩ rfl rfl dX12_sum_5 (Ctr.mono h (fun v M2 h => ?_))
  obtain ⟨r3, rfl, h⟩ := h
  show E_X12_sum l d q 8 [(0, rV (some 60))] [iV r3] M2 0 0
  refine e_if_ne (tgt := 63) dX12_sum_8 (by decide) (fun c4 => ?_) (fun c4 => ?_)
  · replace h := h.1 c4
    exact e_ret rfl dX12_sum_63 ⟨rfl, h⟩
  · replace h := h.2 c4
    refine e_aload_n dX12_sum_11 rfl rfl ?_
    refine e_gI flX12_215 rfl rfl dX12_sum_12 ?_
    refine e_bipush (v := 43) dX12_sum_15 (by decide) ?_
    refine e_ic_eq (tgt := 29) dX12_sum_17 (by decide) (fun c5 => ?_) (fun c5 => ?_)
    · replace h := h.1 c5
      refine e_aload_n dX12_sum_29 rfl rfl ?_
      refine e_gI flX12_215 rfl rfl dX12_sum_30 ?_
      refine e_bipush (v := 43) dX12_sum_33 (by decide) ?_
      refine e_ic_ne (tgt := 43) dX12_sum_35 (by decide) (fun c6 => ?_) (fun c6 => ?_)
      · replace h := h.1 c6
        refine e_bipush (v := 8) dX12_sum_43 (by decide) ?_
        refine e_istore_n (lv' := [(1, iV 8), (0, rV (some 60))]) dX12_sum_45 rfl (by decide) rfl ?_
        refine e_aload_n dX12_sum_46 rfl rfl ?_
        refine e_callV (As := []) (st := []) mt_X12_next in_X12_next lkX12_243 rfl rfl (o_roomd (by omega) (by decide)) (Nat.le_of_ble_eq_true rfl) ⟨Nat.le_of_ble_eq_true rfl, Nat.le_of_ble_eq_true rfl⟩ rfl rfl dX12_sum_47 (Ctr.mono h (fun v M7 h => ?_))
        obtain ⟨rfl, h⟩ := h
        show E_X12_sum l d q 50 [(1, iV 8), (0, rV (some 60))] [] M7 0 0
        refine e_aload_n dX12_sum_50 rfl rfl ?_
        refine e_callV (As := []) (st := []) mt_X12_term in_X12_term lkX12_275 rfl rfl (o_roomd (by omega) (by decide)) (Nat.le_of_ble_eq_true rfl) ⟨Nat.le_of_ble_eq_true rfl, Nat.le_of_ble_eq_true rfl⟩ rfl rfl dX12_sum_51 (Ctr.mono h (fun v M8 h => ?_))
        obtain ⟨rfl, h⟩ := h
        show E_X12_sum l d q 54 [(1, iV 8), (0, rV (some 60))] [] M8 0 0
        refine e_aload_n dX12_sum_54 rfl rfl ?_
        refine e_iload_n dX12_sum_55 rfl rfl ?_
        refine e_iconst (v := 0) dX12_sum_56 (by decide) ?_
        refine e_callV (As := [iV 8, iV 0]) (st := []) mt_X12_emit in_X12_emit lkX12_262 rfl rfl (o_roomd (by omega) (by decide)) (Nat.le_of_ble_eq_true rfl) ⟨Nat.le_of_ble_eq_true rfl, Nat.le_of_ble_eq_true rfl⟩ rfl rfl dX12_sum_57 (Ctr.mono h (fun v M9 h => ?_))
        obtain ⟨rfl, h⟩ := h
        show E_X12_sum l d q 60 [(1, iV 8), (0, rV (some 60))] [] M9 0 0
        refine e_goto (tgt := 4) dX12_sum_60 (by decide) ?_
        exact e_lv (List.forall_mem_cons.mpr ⟨rfl, fun _ h => absurd h List.not_mem_nil⟩) h
      · replace h := h.2 c6
        refine e_bipush (v := 7) dX12_sum_38 (by decide) ?_
        refine e_goto (tgt := 45) dX12_sum_40 (by decide) ?_
        refine e_istore_n (lv' := [(1, iV 7), (0, rV (some 60))]) dX12_sum_45 rfl (by decide) rfl ?_
        refine e_aload_n dX12_sum_46 rfl rfl ?_
        refine e_callV (As := []) (st := []) mt_X12_next in_X12_next lkX12_243 rfl rfl (o_roomd (by omega) (by decide)) (Nat.le_of_ble_eq_true rfl) ⟨Nat.le_of_ble_eq_true rfl, Nat.le_of_ble_eq_true rfl⟩ rfl rfl dX12_sum_47 (Ctr.mono h (fun v M10 h => ?_))
        obtain ⟨rfl, h⟩ := h
        show E_X12_sum l d q 50 [(1, iV 7), (0, rV (some 60))] [] M10 0 0
        refine e_aload_n dX12_sum_50 rfl rfl ?_
        refine e_callV (As := []) (st := []) mt_X12_term in_X12_term lkX12_275 rfl rfl (o_roomd (by omega) (by decide)) (Nat.le_of_ble_eq_true rfl) ⟨Nat.le_of_ble_eq_true rfl, Nat.le_of_ble_eq_true rfl⟩ rfl rfl dX12_sum_51 (Ctr.mono h (fun v M11 h => ?_))
        obtain ⟨rfl, h⟩ := h
        show E_X12_sum l d q 54 [(1, iV 7), (0, rV (some 60))] [] M11 0 0
        refine e_aload_n dX12_sum_54 rfl rfl ?_
        refine e_iload_n dX12_sum_55 rfl rfl ?_
        refine e_iconst (v := 0) dX12_sum_56 (by decide) ?_
        refine e_callV (As := [iV 7, iV 0]) (st := []) mt_X12_emit in_X12_emit lkX12_262 rfl rfl (o_roomd (by omega) (by decide)) (Nat.le_of_ble_eq_true rfl) ⟨Nat.le_of_ble_eq_true rfl, Nat.le_of_ble_eq_true rfl⟩ rfl rfl dX12_sum_57 (Ctr.mono h (fun v M12 h => ?_))
        obtain ⟨rfl, h⟩ := h
        show E_X12_sum l d q 60 [(1, iV 7), (0, rV (some 60))] [] M12 0 0
        refine e_goto (tgt := 4) dX12_sum_60 (by decide) ?_
        exact e_lv (List.forall_mem_cons.mpr ⟨rfl, fun _ h => absurd h List.not_mem_nil⟩) h
    · replace h := h.2 c5
      refine e_aload_n dX12_sum_20 rfl rfl ?_
      refine e_gI flX12_215 rfl rfl dX12_sum_21 ?_
      refine e_bipush (v := 45) dX12_sum_24 (by decide) ?_
      refine e_ic_ne (tgt := 63) dX12_sum_26 (by decide) (fun c13 => ?_) (fun c13 => ?_)
      · replace h := h.1 c13
        exact e_ret rfl dX12_sum_63 ⟨rfl, h⟩
      · replace h := h.2 c13
        refine e_aload_n dX12_sum_29 rfl rfl ?_
        refine e_gI flX12_215 rfl rfl dX12_sum_30 ?_
        refine e_bipush (v := 43) dX12_sum_33 (by decide) ?_
        refine e_ic_ne (tgt := 43) dX12_sum_35 (by decide) (fun c14 => ?_) (fun c14 => ?_)
        · replace h := h.1 c14
          refine e_bipush (v := 8) dX12_sum_43 (by decide) ?_
          refine e_istore_n (lv' := [(1, iV 8), (0, rV (some 60))]) dX12_sum_45 rfl (by decide) rfl ?_
          refine e_aload_n dX12_sum_46 rfl rfl ?_
          refine e_callV (As := []) (st := []) mt_X12_next in_X12_next lkX12_243 rfl rfl (o_roomd (by omega) (by decide)) (Nat.le_of_ble_eq_true rfl) ⟨Nat.le_of_ble_eq_true rfl, Nat.le_of_ble_eq_true rfl⟩ rfl rfl dX12_sum_47 (Ctr.mono h (fun v M15 h => ?_))
          obtain ⟨rfl, h⟩ := h
          show E_X12_sum l d q 50 [(1, iV 8), (0, rV (some 60))] [] M15 0 0
          refine e_aload_n dX12_sum_50 rfl rfl ?_
          refine e_callV (As := []) (st := []) mt_X12_term in_X12_term lkX12_275 rfl rfl (o_roomd (by omega) (by decide)) (Nat.le_of_ble_eq_true rfl) ⟨Nat.le_of_ble_eq_true rfl, Nat.le_of_ble_eq_true rfl⟩ rfl rfl dX12_sum_51 (Ctr.mono h (fun v M16 h => ?_))
          obtain ⟨rfl, h⟩ := h
          show E_X12_sum l d q 54 [(1, iV 8), (0, rV (some 60))] [] M16 0 0
          refine e_aload_n dX12_sum_54 rfl rfl ?_
          refine e_iload_n dX12_sum_55 rfl rfl ?_
          refine e_iconst (v := 0) dX12_sum_56 (by decide) ?_
          refine e_callV (As := [iV 8, iV 0]) (st := []) mt_X12_emit in_X12_emit lkX12_262 rfl rfl (o_roomd (by omega) (by decide)) (Nat.le_of_ble_eq_true rfl) ⟨Nat.le_of_ble_eq_true rfl, Nat.le_of_ble_eq_true rfl⟩ rfl rfl dX12_sum_57 (Ctr.mono h (fun v M17 h => ?_))
          obtain ⟨rfl, h⟩ := h
          show E_X12_sum l d q 60 [(1, iV 8), (0, rV (some 60))] [] M17 0 0
          refine e_goto (tgt := 4) dX12_sum_60 (by decide) ?_
          exact e_lv (List.forall_mem_cons.mpr ⟨rfl, fun _ h => absurd h List.not_mem_nil⟩) h
        · replace h := h.2 c14
          refine e_bipush (v := 7) dX12_sum_38 (by decide) ?_
          refine e_goto (tgt := 45) dX12_sum_40 (by decide) ?_
          refine e_istore_n (lv' := [(1, iV 7), (0, rV (some 60))]) dX12_sum_45 rfl (by decide) rfl ?_
          refine e_aload_n dX12_sum_46 rfl rfl ?_
          refine e_callV (As := []) (st := []) mt_X12_next in_X12_next lkX12_243 rfl rfl (o_roomd (by omega) (by decide)) (Nat.le_of_ble_eq_true rfl) ⟨Nat.le_of_ble_eq_true rfl, Nat.le_of_ble_eq_true rfl⟩ rfl rfl dX12_sum_47 (Ctr.mono h (fun v M18 h => ?_))
          obtain ⟨rfl, h⟩ := h
          show E_X12_sum l d q 50 [(1, iV 7), (0, rV (some 60))] [] M18 0 0
          refine e_aload_n dX12_sum_50 rfl rfl ?_
          refine e_callV (As := []) (st := []) mt_X12_term in_X12_term lkX12_275 rfl rfl (o_roomd (by omega) (by decide)) (Nat.le_of_ble_eq_true rfl) ⟨Nat.le_of_ble_eq_true rfl, Nat.le_of_ble_eq_true rfl⟩ rfl rfl dX12_sum_51 (Ctr.mono h (fun v M19 h => ?_))
          obtain ⟨rfl, h⟩ := h
          show E_X12_sum l d q 54 [(1, iV 7), (0, rV (some 60))] [] M19 0 0
          refine e_aload_n dX12_sum_54 rfl rfl ?_
          refine e_iload_n dX12_sum_55 rfl rfl ?_
          refine e_iconst (v := 0) dX12_sum_56 (by decide) ?_
          refine e_callV (As := [iV 7, iV 0]) (st := []) mt_X12_emit in_X12_emit lkX12_262 rfl rfl (o_roomd (by omega) (by decide)) (Nat.le_of_ble_eq_true rfl) ⟨Nat.le_of_ble_eq_true rfl, Nat.le_of_ble_eq_true rfl⟩ rfl rfl dX12_sum_57 (Ctr.mono h (fun v M20 h => ?_))
          obtain ⟨rfl, h⟩ := h
          show E_X12_sum l d q 60 [(1, iV 7), (0, rV (some 60))] [] M20 0 0
          refine e_goto (tgt := 4) dX12_sum_60 (by decide) ?_
          exact e_lv (List.forall_mem_cons.mpr ⟨rfl, fun _ h => absurd h List.not_mem_nil⟩) h
abbrev H_X12_term_4 (l : Launch) (d : Nat) (q : o_M → Prop) (M : o_M) : Prop := E_X12_term l d q 4 [(0, rV (some 60))] [] M 0 0
theorem w_X12_term (l : Launch) (d : Nat) (hd : 20 ≤ d) (M : o_M) (q : o_M → Prop) (h : K_X12_one l (d - 1) [rV (some 60)] M (fun M1 => H_X12_term_4 l d q M1)) : K_X12_term l d [rV (some 60)] M q := by
  refine o_ctr (ini := false) (by decide +kernel) rfl (fun z => by cases z) (Nat.le_of_ble_eq_true rfl) ?_
  show E_X12_term l d q 0 [(0, rV (some 60))] [] M 0 0
  refine e_aload_n dX12_term_0 rfl rfl ?_
  refine e_callV (As := []) (st := []) mt_X12_one in_X12_one lkX12_278 rfl rfl (o_roomd (by omega) (by decide)) (Nat.le_of_ble_eq_true rfl) ⟨Nat.le_of_ble_eq_true rfl, Nat.le_of_ble_eq_true rfl⟩ rfl rfl dX12_term_1 (Ctr.mono h (fun v M1 h => ?_))
  obtain ⟨rfl, h⟩ := h
  show E_X12_term l d q 4 [(0, rV (some 60))] [] M1 0 0
  exact e_lv (List.forall_mem_cons.mpr ⟨rfl, fun _ h => absurd h List.not_mem_nil⟩) h
theorem w_X12_term_4 (l : Launch) (d : Nat) (q : o_M → Prop) (hd : 20 ≤ d) (M : o_M) (h : K_X12_isWrong l [rV (some 60)] M (fun r3 M2 => ((¬ r3 = 0 → q M2) ∧ (r3 = 0 → ((¬ (mI M2 60 45) = 42 → q M2) ∧ ((mI M2 60 45) = 42 → K_X12_next l [rV (some 60)] M2 (fun M6 => K_X12_one l (d - 1) [rV (some 60)] M6 (fun M7 => K_X12_emit l [rV (some 60), iV 9, iV 0] M7 (fun M8 => H_X12_term_4 l d q M8))))))))) : H_X12_term_4 l d q M := by
  refine e_aload_n dX12_term_4 rfl rfl ?_
  refine e_callV (As := []) (st := []) mt_X12_isWrong in_X12_isWrong lkX12_236 rfl rfl (o_roomd (by omega) (by decide)) (Nat.le_of_ble_eq_true rfl) ⟨Nat.le_of_ble_eq_true rfl, Nat.le_of_ble_eq_true rfl⟩ rfl rfl dX12_term_5 (Ctr.mono h (fun v M2 h => ?_))
  obtain ⟨r3, rfl, h⟩ := h
  show E_X12_term l d q 8 [(0, rV (some 60))] [iV r3] M2 0 0
  refine e_if_ne (tgt := 38) dX12_term_8 (by decide) (fun c4 => ?_) (fun c4 => ?_)
  · replace h := h.1 c4
    exact e_ret rfl dX12_term_38 ⟨rfl, h⟩
  · replace h := h.2 c4
    refine e_aload_n dX12_term_11 rfl rfl ?_
    refine e_gI flX12_215 rfl rfl dX12_term_12 ?_
    refine e_bipush (v := 42) dX12_term_15 (by decide) ?_
    refine e_ic_ne (tgt := 38) dX12_term_17 (by decide) (fun c5 => ?_) (fun c5 => ?_)
    · replace h := h.1 c5
      exact e_ret rfl dX12_term_38 ⟨rfl, h⟩
    · replace h := h.2 c5
      refine e_aload_n dX12_term_20 rfl rfl ?_
      refine e_callV (As := []) (st := []) mt_X12_next in_X12_next lkX12_243 rfl rfl (o_roomd (by omega) (by decide)) (Nat.le_of_ble_eq_true rfl) ⟨Nat.le_of_ble_eq_true rfl, Nat.le_of_ble_eq_true rfl⟩ rfl rfl dX12_term_21 (Ctr.mono h (fun v M6 h => ?_))
      obtain ⟨rfl, h⟩ := h
      show E_X12_term l d q 24 [(0, rV (some 60))] [] M6 0 0
      refine e_aload_n dX12_term_24 rfl rfl ?_
      refine e_callV (As := []) (st := []) mt_X12_one in_X12_one lkX12_278 rfl rfl (o_roomd (by omega) (by decide)) (Nat.le_of_ble_eq_true rfl) ⟨Nat.le_of_ble_eq_true rfl, Nat.le_of_ble_eq_true rfl⟩ rfl rfl dX12_term_25 (Ctr.mono h (fun v M7 h => ?_))
      obtain ⟨rfl, h⟩ := h
      show E_X12_term l d q 28 [(0, rV (some 60))] [] M7 0 0
      refine e_aload_n dX12_term_28 rfl rfl ?_
      refine e_bipush (v := 9) dX12_term_29 (by decide) ?_
      refine e_iconst (v := 0) dX12_term_31 (by decide) ?_
      refine e_callV (As := [iV 9, iV 0]) (st := []) mt_X12_emit in_X12_emit lkX12_262 rfl rfl (o_roomd (by omega) (by decide)) (Nat.le_of_ble_eq_true rfl) ⟨Nat.le_of_ble_eq_true rfl, Nat.le_of_ble_eq_true rfl⟩ rfl rfl dX12_term_32 (Ctr.mono h (fun v M8 h => ?_))
      obtain ⟨rfl, h⟩ := h
      show E_X12_term l d q 35 [(0, rV (some 60))] [] M8 0 0
      refine e_goto (tgt := 4) dX12_term_35 (by decide) ?_
      exact e_lv (List.forall_mem_cons.mpr ⟨rfl, fun _ h => absurd h List.not_mem_nil⟩) h
theorem w_X12_told (l : Launch) (p1 : Int32) (M : o_M) (q : o_M → Prop) (h : K_X12_need_ l [rV (some 60), iV p1] M (fun M1 => K_X12_either l 100 [rV (some 60)] M1 (fun M2 => K_X12_need_ l [rV (some 60), iV 59] M2 (fun M3 => q M3)))) : K_X12_told l [rV (some 60), iV p1] M q := by
  refine o_ctr (ini := false) (by decide +kernel) rfl (fun z => by cases z) (Nat.le_of_ble_eq_true rfl) ?_
  show E_X12_told l q 0 [(0, rV (some 60)), (1, iV p1)] [] M 0 0
  refine e_aload_n dX12_told_0 rfl rfl ?_
  refine e_iload_n dX12_told_1 rfl rfl ?_
  refine e_callV (As := [iV p1]) (st := []) mt_X12_need_ in_X12_need_ lkX12_254 rfl rfl ⟨by decide, by decide⟩ (Nat.le_of_ble_eq_true rfl) ⟨by decide, by decide⟩ rfl rfl dX12_told_2 (Ctr.mono h (fun v M1 h => ?_))
  obtain ⟨rfl, h⟩ := h
  show E_X12_told l q 5 [(0, rV (some 60)), (1, iV p1)] [] M1 0 0
  refine e_aload_n dX12_told_5 rfl rfl ?_
  refine e_callV (As := []) (st := []) mt_X12_either in_X12_either lkX12_256 rfl rfl ⟨by decide, by decide⟩ (Nat.le_of_ble_eq_true rfl) ⟨by decide, by decide⟩ rfl rfl dX12_told_6 (Ctr.mono h (fun v M2 h => ?_))
  obtain ⟨rfl, h⟩ := h
  show E_X12_told l q 9 [(0, rV (some 60)), (1, iV p1)] [] M2 0 0
  refine e_aload_n dX12_told_9 rfl rfl ?_
  refine e_bipush (v := 59) dX12_told_10 (by decide) ?_
  refine e_callV (As := [iV 59]) (st := []) mt_X12_need_ in_X12_need_ lkX12_254 rfl rfl ⟨by decide, by decide⟩ (Nat.le_of_ble_eq_true rfl) ⟨by decide, by decide⟩ rfl rfl dX12_told_12 (Ctr.mono h (fun v M3 h => ?_))
  obtain ⟨rfl, h⟩ := h
  show E_X12_told l q 15 [(0, rV (some 60)), (1, iV p1)] [] M3 0 0
  exact e_ret rfl dX12_told_15 ⟨rfl, h⟩
abbrev H_X12_reads_36 (l : Launch) (q : o_M → Prop) (v1 : Int32) (M : o_M) : Prop := E_X12_reads l q 36 [(0, rV (some 60)), (1, iV v1)] [] M 0 0
theorem w_X12_reads (l : Launch) (p1 : Int32) (M : o_M) (q : o_M → Prop) (h : (mR (sI (sI (sI (sI (sI M 60 42 p1) 60 43 0) 60 47 (-1)) 60 48 0) 60 49 0) 60 30 = some 91 ∧ (vp_in p1 (mN (sI (sI (sI (sI (sI M 60 42 p1) 60 43 0) 60 47 (-1)) 60 48 0) 60 49 0) 91) ∧ K_X12_next l [rV (some 60)] (sI (sI (sI (sI (sI (sI M 60 42 p1) 60 43 0) 60 47 (-1)) 60 48 0) 60 49 0) 91 p1.toNatClampNeg 0) (fun M3 => H_X12_reads_36 l q p1 M3)))) : K_X12_reads l [rV (some 60), iV p1] M q := by
  refine o_ctr (ini := false) (by decide +kernel) rfl (fun z => by cases z) (Nat.le_of_ble_eq_true rfl) ?_
  show E_X12_reads l q 0 [(0, rV (some 60)), (1, iV p1)] [] M 0 0
  refine e_aload_n dX12_reads_0 rfl rfl ?_
  refine e_iload_n dX12_reads_1 rfl rfl ?_
  refine e_pI flX12_203 rfl (Or.inl rfl) rfl rfl rfl dX12_reads_2 ?_
  refine e_aload_n dX12_reads_5 rfl rfl ?_
  refine e_iconst (v := 0) dX12_reads_6 (by decide) ?_
  refine e_pI flX12_206 rfl (Or.inl rfl) rfl rfl rfl dX12_reads_7 ?_
  refine e_aload_n dX12_reads_10 rfl rfl ?_
  refine e_iconst (v := (-1)) dX12_reads_11 (by decide) ?_
  refine e_pI flX12_233 rfl (Or.inl rfl) rfl rfl rfl dX12_reads_12 ?_
  refine e_aload_n dX12_reads_15 rfl rfl ?_
  refine e_iconst (v := 0) dX12_reads_16 (by decide) ?_
  refine e_pI flX12_246 rfl (Or.inl rfl) rfl rfl rfl dX12_reads_17 ?_
  refine e_aload_n dX12_reads_20 rfl rfl ?_
  refine e_iconst (v := 0) dX12_reads_21 (by decide) ?_
  refine e_pI flX12_249 rfl (Or.inl rfl) rfl rfl rfl dX12_reads_22 ?_
  refine e_aload_n dX12_reads_25 rfl rfl ?_
  obtain ⟨o1, h⟩ := h
  refine e_gA flX12_86 rfl rfl o1 dX12_reads_26 ?_
  refine e_iload_n dX12_reads_29 rfl rfl ?_
  refine e_iconst (v := 0) dX12_reads_30 (by decide) ?_
  obtain ⟨o2, h⟩ := h
  refine e_iast rfl o2 dX12_reads_31 ?_
  refine e_aload_n dX12_reads_32 rfl rfl ?_
  refine e_callV (As := []) (st := []) mt_X12_next in_X12_next lkX12_243 rfl rfl ⟨by decide, by decide⟩ (Nat.le_of_ble_eq_true rfl) ⟨by decide, by decide⟩ rfl rfl dX12_reads_33 (Ctr.mono h (fun v M3 h => ?_))
  obtain ⟨rfl, h⟩ := h
  show E_X12_reads l q 36 [(0, rV (some 60)), (1, iV p1)] [] M3 0 0
  exact e_lv (List.forall_mem_cons.mpr ⟨rfl, List.forall_mem_cons.mpr ⟨rfl, fun _ h => absurd h List.not_mem_nil⟩⟩) h
theorem w_X12_reads_36 (l : Launch) (q : o_M → Prop) (v1 : Int32) (M : o_M) (h : K_X12_isWrong l [rV (some 60)] M (fun r5 M4 => ((¬ r5 = 0 → (mR M4 60 31 = some 92 ∧ (mR M4 60 30 = some 91 ∧ (vp_in v1 (mN M4 91) ∧ (vp_in ((11 * v1) + (mI M4 91 v1.toNatClampNeg)) (mN M4 92) ∧ K_X12_told l [rV (some 60), iV 301] (sI M4 92 (((11 * v1) + (mI M4 91 v1.toNatClampNeg)).toNatClampNeg) (mI M4 60 49)) (fun M11 => (mR M11 60 31 = some 92 ∧ (mR M11 60 30 = some 91 ∧ (vp_in v1 (mN M11 91) ∧ (vp_in (((11 * v1) + (mI M11 91 v1.toNatClampNeg)) + 1) (mN M11 92) ∧ K_X12_told l [rV (some 60), iV 302] (sI M11 92 ((((11 * v1) + (mI M11 91 v1.toNatClampNeg)) + 1).toNatClampNeg) (mI M11 60 49)) (fun M16 => (mR M16 60 31 = some 92 ∧ (mR M16 60 30 = some 91 ∧ (vp_in v1 (mN M16 91) ∧ (vp_in (((11 * v1) + (mI M16 91 v1.toNatClampNeg)) + 2) (mN M16 92) ∧ K_X12_need_ l [rV (some 60), iV 0] (sI M16 92 ((((11 * v1) + (mI M16 91 v1.toNatClampNeg)) + 2).toNatClampNeg) (mI M16 60 49)) (fun M21 => q M21)))))))))))))))) ∧ (r5 = 0 → ((¬ (mI M4 60 45) = 300 → (mR M4 60 31 = some 92 ∧ (mR M4 60 30 = some 91 ∧ (vp_in v1 (mN M4 91) ∧ (vp_in ((11 * v1) + (mI M4 91 v1.toNatClampNeg)) (mN M4 92) ∧ K_X12_told l [rV (some 60), iV 301] (sI M4 92 (((11 * v1) + (mI M4 91 v1.toNatClampNeg)).toNatClampNeg) (mI M4 60 49)) (fun M27 => (mR M27 60 31 = some 92 ∧ (mR M27 60 30 = some 91 ∧ (vp_in v1 (mN M27 91) ∧ (vp_in (((11 * v1) + (mI M27 91 v1.toNatClampNeg)) + 1) (mN M27 92) ∧ K_X12_told l [rV (some 60), iV 302] (sI M27 92 ((((11 * v1) + (mI M27 91 v1.toNatClampNeg)) + 1).toNatClampNeg) (mI M27 60 49)) (fun M32 => (mR M32 60 31 = some 92 ∧ (mR M32 60 30 = some 91 ∧ (vp_in v1 (mN M32 91) ∧ (vp_in (((11 * v1) + (mI M32 91 v1.toNatClampNeg)) + 2) (mN M32 92) ∧ K_X12_need_ l [rV (some 60), iV 0] (sI M32 92 ((((11 * v1) + (mI M32 91 v1.toNatClampNeg)) + 2).toNatClampNeg) (mI M32 60 49)) (fun M37 => q M37)))))))))))))))) ∧ ((mI M4 60 45) = 300 → (mR M4 60 30 = some 91 ∧ (vp_in v1 (mN M4 91) ∧ ((¬ (mI M4 91 v1.toNatClampNeg) = 8 → (mR M4 60 31 = some 92 ∧ (mR M4 60 30 = some 91 ∧ (vp_in v1 (mN M4 91) ∧ (vp_in ((11 * v1) + (mI M4 91 v1.toNatClampNeg)) (mN M4 92) ∧ (mR (sI M4 92 (((11 * v1) + (mI M4 91 v1.toNatClampNeg)).toNatClampNeg) (mI M4 60 49)) 60 30 = some 91 ∧ (vp_in v1 (mN (sI M4 92 (((11 * v1) + (mI M4 91 v1.toNatClampNeg)).toNatClampNeg) (mI M4 60 49)) 91) ∧ (vp_in v1 (mN (sI M4 92 (((11 * v1) + (mI M4 91 v1.toNatClampNeg)).toNatClampNeg) (mI M4 60 49)) 91) ∧ K_X12_told l [rV (some 60), iV 300] (sI (sI M4 92 (((11 * v1) + (mI M4 91 v1.toNatClampNeg)).toNatClampNeg) (mI M4 60 49)) 91 v1.toNatClampNeg ((mI (sI M4 92 (((11 * v1) + (mI M4 91 v1.toNatClampNeg)).toNatClampNeg) (mI M4 60 49)) 91 v1.toNatClampNeg) + 1)) (fun M48 => H_X12_reads_36 l q v1 M48))))))))) ∧ ((mI M4 91 v1.toNatClampNeg) = 8 → K_X12_cannot l [rV (some 60)] M4 (fun M49 => H_X12_reads_36 l q v1 M49))))))))))) : H_X12_reads_36 l q v1 M := by
  refine e_aload_n dX12_reads_36 rfl rfl ?_
  refine e_callV (As := []) (st := []) mt_X12_isWrong in_X12_isWrong lkX12_236 rfl rfl ⟨by decide, by decide⟩ (Nat.le_of_ble_eq_true rfl) ⟨by decide, by decide⟩ rfl rfl dX12_reads_37 (Ctr.mono h (fun v M4 h => ?_))
  obtain ⟨r5, rfl, h⟩ := h
  show E_X12_reads l q 40 [(0, rV (some 60)), (1, iV v1)] [iV r5] M4 0 0
  refine e_if_ne (tgt := 111) dX12_reads_40 (by decide) (fun c6 => ?_) (fun c6 => ?_)
  · replace h := h.1 c6
    refine e_aload_n dX12_reads_111 rfl rfl ?_
    obtain ⟨o7, h⟩ := h
    refine e_gA flX12_89 rfl rfl o7 dX12_reads_112 ?_
    refine e_bipush (v := 11) dX12_reads_115 (by decide) ?_
    refine e_iload_n dX12_reads_117 rfl rfl ?_
    refine e_imul dX12_reads_118 ?_
    refine e_aload_n dX12_reads_119 rfl rfl ?_
    obtain ⟨o8, h⟩ := h
    refine e_gA flX12_86 rfl rfl o8 dX12_reads_120 ?_
    refine e_iload_n dX12_reads_123 rfl rfl ?_
    obtain ⟨o9, h⟩ := h
    refine e_iald rfl o9 dX12_reads_124 ?_
    refine e_iadd dX12_reads_125 ?_
    refine e_aload_n dX12_reads_126 rfl rfl ?_
    refine e_gI flX12_249 rfl rfl dX12_reads_127 ?_
    obtain ⟨o10, h⟩ := h
    refine e_iast rfl o10 dX12_reads_130 ?_
    refine e_aload_n dX12_reads_131 rfl rfl ?_
    refine e_sipush (v := 301) dX12_reads_132 (by decide) ?_
    refine e_callV (As := [iV 301]) (st := []) mt_X12_told in_X12_told lkX12_252 rfl rfl ⟨by decide, by decide⟩ (Nat.le_of_ble_eq_true rfl) ⟨by decide, by decide⟩ rfl rfl dX12_reads_135 (Ctr.mono h (fun v M11 h => ?_))
    obtain ⟨rfl, h⟩ := h
    show E_X12_reads l q 138 [(0, rV (some 60)), (1, iV v1)] [] M11 0 0
    refine e_aload_n dX12_reads_138 rfl rfl ?_
    obtain ⟨o12, h⟩ := h
    refine e_gA flX12_89 rfl rfl o12 dX12_reads_139 ?_
    refine e_bipush (v := 11) dX12_reads_142 (by decide) ?_
    refine e_iload_n dX12_reads_144 rfl rfl ?_
    refine e_imul dX12_reads_145 ?_
    refine e_aload_n dX12_reads_146 rfl rfl ?_
    obtain ⟨o13, h⟩ := h
    refine e_gA flX12_86 rfl rfl o13 dX12_reads_147 ?_
    refine e_iload_n dX12_reads_150 rfl rfl ?_
    obtain ⟨o14, h⟩ := h
    refine e_iald rfl o14 dX12_reads_151 ?_
    refine e_iadd dX12_reads_152 ?_
    refine e_iconst (v := 1) dX12_reads_153 (by decide) ?_
    refine e_iadd dX12_reads_154 ?_
    refine e_aload_n dX12_reads_155 rfl rfl ?_
    refine e_gI flX12_249 rfl rfl dX12_reads_156 ?_
    obtain ⟨o15, h⟩ := h
    refine e_iast rfl o15 dX12_reads_159 ?_
    refine e_aload_n dX12_reads_160 rfl rfl ?_
    refine e_sipush (v := 302) dX12_reads_161 (by decide) ?_
    refine e_callV (As := [iV 302]) (st := []) mt_X12_told in_X12_told lkX12_252 rfl rfl ⟨by decide, by decide⟩ (Nat.le_of_ble_eq_true rfl) ⟨by decide, by decide⟩ rfl rfl dX12_reads_164 (Ctr.mono h (fun v M16 h => ?_))
    obtain ⟨rfl, h⟩ := h
    show E_X12_reads l q 167 [(0, rV (some 60)), (1, iV v1)] [] M16 0 0
    refine e_aload_n dX12_reads_167 rfl rfl ?_
    obtain ⟨o17, h⟩ := h
    refine e_gA flX12_89 rfl rfl o17 dX12_reads_168 ?_
    refine e_bipush (v := 11) dX12_reads_171 (by decide) ?_
    refine e_iload_n dX12_reads_173 rfl rfl ?_
    refine e_imul dX12_reads_174 ?_
    refine e_aload_n dX12_reads_175 rfl rfl ?_
    obtain ⟨o18, h⟩ := h
    refine e_gA flX12_86 rfl rfl o18 dX12_reads_176 ?_
    refine e_iload_n dX12_reads_179 rfl rfl ?_
    obtain ⟨o19, h⟩ := h
    refine e_iald rfl o19 dX12_reads_180 ?_
    refine e_iadd dX12_reads_181 ?_
    refine e_iconst (v := 2) dX12_reads_182 (by decide) ?_
    refine e_iadd dX12_reads_183 ?_
    refine e_aload_n dX12_reads_184 rfl rfl ?_
    refine e_gI flX12_249 rfl rfl dX12_reads_185 ?_
    obtain ⟨o20, h⟩ := h
    refine e_iast rfl o20 dX12_reads_188 ?_
    refine e_aload_n dX12_reads_189 rfl rfl ?_
    refine e_iconst (v := 0) dX12_reads_190 (by decide) ?_
    refine e_callV (As := [iV 0]) (st := []) mt_X12_need_ in_X12_need_ lkX12_254 rfl rfl ⟨by decide, by decide⟩ (Nat.le_of_ble_eq_true rfl) ⟨by decide, by decide⟩ rfl rfl dX12_reads_191 (Ctr.mono h (fun v M21 h => ?_))
    obtain ⟨rfl, h⟩ := h
    show E_X12_reads l q 194 [(0, rV (some 60)), (1, iV v1)] [] M21 0 0
    exact e_ret rfl dX12_reads_194 ⟨rfl, h⟩
  · replace h := h.2 c6
    refine e_aload_n dX12_reads_43 rfl rfl ?_
    refine e_gI flX12_215 rfl rfl dX12_reads_44 ?_
    refine e_sipush (v := 300) dX12_reads_47 (by decide) ?_
    refine e_ic_ne (tgt := 111) dX12_reads_50 (by decide) (fun c22 => ?_) (fun c22 => ?_)
    · replace h := h.1 c22
      refine e_aload_n dX12_reads_111 rfl rfl ?_
      obtain ⟨o23, h⟩ := h
      refine e_gA flX12_89 rfl rfl o23 dX12_reads_112 ?_
      refine e_bipush (v := 11) dX12_reads_115 (by decide) ?_
      refine e_iload_n dX12_reads_117 rfl rfl ?_
      refine e_imul dX12_reads_118 ?_
      refine e_aload_n dX12_reads_119 rfl rfl ?_
      obtain ⟨o24, h⟩ := h
      refine e_gA flX12_86 rfl rfl o24 dX12_reads_120 ?_
      refine e_iload_n dX12_reads_123 rfl rfl ?_
      obtain ⟨o25, h⟩ := h
      refine e_iald rfl o25 dX12_reads_124 ?_
      refine e_iadd dX12_reads_125 ?_
      refine e_aload_n dX12_reads_126 rfl rfl ?_
      refine e_gI flX12_249 rfl rfl dX12_reads_127 ?_
      obtain ⟨o26, h⟩ := h
      refine e_iast rfl o26 dX12_reads_130 ?_
      refine e_aload_n dX12_reads_131 rfl rfl ?_
      refine e_sipush (v := 301) dX12_reads_132 (by decide) ?_
      refine e_callV (As := [iV 301]) (st := []) mt_X12_told in_X12_told lkX12_252 rfl rfl ⟨by decide, by decide⟩ (Nat.le_of_ble_eq_true rfl) ⟨by decide, by decide⟩ rfl rfl dX12_reads_135 (Ctr.mono h (fun v M27 h => ?_))
      obtain ⟨rfl, h⟩ := h
      show E_X12_reads l q 138 [(0, rV (some 60)), (1, iV v1)] [] M27 0 0
      refine e_aload_n dX12_reads_138 rfl rfl ?_
      obtain ⟨o28, h⟩ := h
      refine e_gA flX12_89 rfl rfl o28 dX12_reads_139 ?_
      refine e_bipush (v := 11) dX12_reads_142 (by decide) ?_
      refine e_iload_n dX12_reads_144 rfl rfl ?_
      refine e_imul dX12_reads_145 ?_
      refine e_aload_n dX12_reads_146 rfl rfl ?_
      obtain ⟨o29, h⟩ := h
      refine e_gA flX12_86 rfl rfl o29 dX12_reads_147 ?_
      refine e_iload_n dX12_reads_150 rfl rfl ?_
      obtain ⟨o30, h⟩ := h
      refine e_iald rfl o30 dX12_reads_151 ?_
      refine e_iadd dX12_reads_152 ?_
      refine e_iconst (v := 1) dX12_reads_153 (by decide) ?_
      refine e_iadd dX12_reads_154 ?_
      refine e_aload_n dX12_reads_155 rfl rfl ?_
      refine e_gI flX12_249 rfl rfl dX12_reads_156 ?_
      obtain ⟨o31, h⟩ := h
      refine e_iast rfl o31 dX12_reads_159 ?_
      refine e_aload_n dX12_reads_160 rfl rfl ?_
      refine e_sipush (v := 302) dX12_reads_161 (by decide) ?_
      refine e_callV (As := [iV 302]) (st := []) mt_X12_told in_X12_told lkX12_252 rfl rfl ⟨by decide, by decide⟩ (Nat.le_of_ble_eq_true rfl) ⟨by decide, by decide⟩ rfl rfl dX12_reads_164 (Ctr.mono h (fun v M32 h => ?_))
      obtain ⟨rfl, h⟩ := h
      show E_X12_reads l q 167 [(0, rV (some 60)), (1, iV v1)] [] M32 0 0
      refine e_aload_n dX12_reads_167 rfl rfl ?_
      obtain ⟨o33, h⟩ := h
      refine e_gA flX12_89 rfl rfl o33 dX12_reads_168 ?_
      refine e_bipush (v := 11) dX12_reads_171 (by decide) ?_
      refine e_iload_n dX12_reads_173 rfl rfl ?_
      refine e_imul dX12_reads_174 ?_
      refine e_aload_n dX12_reads_175 rfl rfl ?_
      obtain ⟨o34, h⟩ := h
      refine e_gA flX12_86 rfl rfl o34 dX12_reads_176 ?_
      refine e_iload_n dX12_reads_179 rfl rfl ?_
      obtain ⟨o35, h⟩ := h
      refine e_iald rfl o35 dX12_reads_180 ?_
      refine e_iadd dX12_reads_181 ?_
      refine e_iconst (v := 2) dX12_reads_182 (by decide) ?_
      refine e_iadd dX12_reads_183 ?_
      refine e_aload_n dX12_reads_184 rfl rfl ?_
      refine e_gI flX12_249 rfl rfl dX12_reads_185 ?_
      obtain ⟨o36, h⟩ := h
      refine e_iast rfl o36 dX12_reads_188 ?_
      refine e_aload_n dX12_reads_189 rfl rfl ?_
      refine e_iconst (v := 0) dX12_reads_190 (by decide) ?_
      refine e_callV (As := [iV 0]) (st := []) mt_X12_need_ in_X12_need_ lkX12_254 rfl rfl ⟨by decide, by decide⟩ (Nat.le_of_ble_eq_true rfl) ⟨by decide, by decide⟩ rfl rfl dX12_reads_191 (Ctr.mono h (fun v M37 h => ?_))
      obtain ⟨rfl, h⟩ := h
      show E_X12_reads l q 194 [(0, rV (some 60)), (1, iV v1)] [] M37 0 0
      exact e_ret rfl dX12_reads_194 ⟨rfl, h⟩
    · replace h := h.2 c22
      refine e_aload_n dX12_reads_53 rfl rfl ?_
      obtain ⟨o38, h⟩ := h
      refine e_gA flX12_86 rfl rfl o38 dX12_reads_54 ?_
      refine e_iload_n dX12_reads_57 rfl rfl ?_
      obtain ⟨o39, h⟩ := h
      refine e_iald rfl o39 dX12_reads_58 ?_
      refine e_bipush (v := 8) dX12_reads_59 (by decide) ?_
      refine e_ic_ne (tgt := 71) dX12_reads_61 (by decide) (fun c40 => ?_) (fun c40 => ?_)
      · replace h := h.1 c40
        refine e_aload_n dX12_reads_71 rfl rfl ?_
        obtain ⟨o41, h⟩ := h
        refine e_gA flX12_89 rfl rfl o41 dX12_reads_72 ?_
        refine e_bipush (v := 11) dX12_reads_75 (by decide) ?_
        refine e_iload_n dX12_reads_77 rfl rfl ?_
        refine e_imul dX12_reads_78 ?_
        refine e_aload_n dX12_reads_79 rfl rfl ?_
        obtain ⟨o42, h⟩ := h
        refine e_gA flX12_86 rfl rfl o42 dX12_reads_80 ?_
        refine e_iload_n dX12_reads_83 rfl rfl ?_
        obtain ⟨o43, h⟩ := h
        refine e_iald rfl o43 dX12_reads_84 ?_
        refine e_iadd dX12_reads_85 ?_
        refine e_aload_n dX12_reads_86 rfl rfl ?_
        refine e_gI flX12_249 rfl rfl dX12_reads_87 ?_
        obtain ⟨o44, h⟩ := h
        refine e_iast rfl o44 dX12_reads_90 ?_
        refine e_aload_n dX12_reads_91 rfl rfl ?_
        obtain ⟨o45, h⟩ := h
        refine e_gA flX12_86 rfl rfl o45 dX12_reads_92 ?_
        refine e_iload_n dX12_reads_95 rfl rfl ?_
        refine e_dup2 rfl rfl dX12_reads_96 ?_
        obtain ⟨o46, h⟩ := h
        refine e_iald rfl o46 dX12_reads_97 ?_
        refine e_iconst (v := 1) dX12_reads_98 (by decide) ?_
        refine e_iadd dX12_reads_99 ?_
        obtain ⟨o47, h⟩ := h
        refine e_iast rfl o47 dX12_reads_100 ?_
        refine e_aload_n dX12_reads_101 rfl rfl ?_
        refine e_sipush (v := 300) dX12_reads_102 (by decide) ?_
        refine e_callV (As := [iV 300]) (st := []) mt_X12_told in_X12_told lkX12_252 rfl rfl ⟨by decide, by decide⟩ (Nat.le_of_ble_eq_true rfl) ⟨by decide, by decide⟩ rfl rfl dX12_reads_105 (Ctr.mono h (fun v M48 h => ?_))
        obtain ⟨rfl, h⟩ := h
        show E_X12_reads l q 108 [(0, rV (some 60)), (1, iV v1)] [] M48 0 0
        refine e_goto (tgt := 36) dX12_reads_108 (by decide) ?_
        exact e_lv (List.forall_mem_cons.mpr ⟨rfl, List.forall_mem_cons.mpr ⟨rfl, fun _ h => absurd h List.not_mem_nil⟩⟩) h
      · replace h := h.2 c40
        refine e_aload_n dX12_reads_64 rfl rfl ?_
        refine e_callV (As := []) (st := []) mt_X12_cannot in_X12_cannot lkX12_240 rfl rfl ⟨by decide, by decide⟩ (Nat.le_of_ble_eq_true rfl) ⟨by decide, by decide⟩ rfl rfl dX12_reads_65 (Ctr.mono h (fun v M49 h => ?_))
        obtain ⟨rfl, h⟩ := h
        show E_X12_reads l q 68 [(0, rV (some 60)), (1, iV v1)] [] M49 0 0
        refine e_goto (tgt := 36) dX12_reads_68 (by decide) ?_
        exact e_lv (List.forall_mem_cons.mpr ⟨rfl, List.forall_mem_cons.mpr ⟨rfl, fun _ h => absurd h List.not_mem_nil⟩⟩) h
abbrev H_X12_init_77 (l : Launch) (q : o_M → Prop) (M : o_M) : Prop := E_X12_init l q 77 [(0, rV (some 60))] [rV (some 60)] M 9 102
abbrev H_X12_init_159 (l : Launch) (q : o_M → Prop) (M : o_M) : Prop := E_X12_init l q 159 [(0, rV (some 60))] [rV (some 60)] M 19 1112
abbrev H_X12_init_243 (l : Launch) (q : o_M → Prop) (M : o_M) : Prop := E_X12_init l q 243 [(0, rV (some 60))] [rV (some 60)] M 29 11517
abbrev H_X12_init_307 (l : Launch) (q : o_M → Prop) (s0 : Int32) (M : o_M) : Prop := E_X12_init l q 307 [(0, rV (some 60))] [iV s0, rV (some 101), rV (some 101), rV (some 60)] M 34 13363
abbrev H_X12_init_367 (l : Launch) (q : o_M → Prop) (s0 : Int32) (M : o_M) : Prop := E_X12_init l q 367 [(0, rV (some 60))] [iV s0, rV (some 101), rV (some 101), rV (some 60)] M 34 13363
abbrev H_X12_init_427 (l : Launch) (q : o_M → Prop) (s0 : Int32) (M : o_M) : Prop := E_X12_init l q 427 [(0, rV (some 60))] [iV s0, rV (some 101), rV (some 101), rV (some 60)] M 34 13363
abbrev H_X12_init_482 (l : Launch) (q : o_M → Prop) (s0 : Int32) (M : o_M) : Prop := E_X12_init l q 482 [(0, rV (some 60))] [iV s0, rV (some 102), rV (some 102), rV (some 60)] M 35 13444
abbrev H_X12_init_541 (l : Launch) (q : o_M → Prop) (s0 : Int32) (M : o_M) : Prop := E_X12_init l q 541 [(0, rV (some 60))] [iV s0, rV (some 102), rV (some 102), rV (some 60)] M 35 13444
abbrev H_X12_init_599 (l : Launch) (q : o_M → Prop) (s0 : Int32) (M : o_M) : Prop := E_X12_init l q 599 [(0, rV (some 60))] [iV s0, rV (some 102), rV (some 102), rV (some 60)] M 35 13444
abbrev H_X12_init_657 (l : Launch) (q : o_M → Prop) (s0 : Int32) (M : o_M) : Prop := E_X12_init l q 657 [(0, rV (some 60))] [iV s0, rV (some 102), rV (some 102), rV (some 60)] M 35 13444
abbrev H_X12_init_715 (l : Launch) (q : o_M → Prop) (s0 : Int32) (M : o_M) : Prop := E_X12_init l q 715 [(0, rV (some 60))] [iV s0, rV (some 102), rV (some 102), rV (some 60)] M 35 13444
abbrev H_X12_init_773 (l : Launch) (q : o_M → Prop) (s0 : Int32) (M : o_M) : Prop := E_X12_init l q 773 [(0, rV (some 60))] [iV s0, rV (some 102), rV (some 102), rV (some 60)] M 35 13444
abbrev H_X12_init_831 (l : Launch) (q : o_M → Prop) (s0 : Int32) (M : o_M) : Prop := E_X12_init l q 831 [(0, rV (some 60))] [iV s0, rV (some 102), rV (some 102), rV (some 60)] M 35 13444
abbrev H_X12_init_889 (l : Launch) (q : o_M → Prop) (s0 : Int32) (M : o_M) : Prop := E_X12_init l q 889 [(0, rV (some 60))] [iV s0, rV (some 102), rV (some 102), rV (some 60)] M 35 13444
abbrev H_X12_init_959 (l : Launch) (q : o_M → Prop) (M : o_M) : Prop := E_X12_init l q 959 [(0, rV (some 60))] [rV (some 60)] M 40 27213
abbrev H_X12_init_982 (l : Launch) (q : o_M → Prop) (v1 : Int32) (M : o_M) : Prop := E_X12_init l q 982 [(0, rV (some 60)), (1, iV v1)] [] M 43 27229
abbrev H_X12_init_1027 (l : Launch) (q : o_M → Prop) (s0 : Int32) (M : o_M) : Prop := E_X12_init l q 1027 [(0, rV (some 60))] [iV s0, rV (some 60)] M 43 27229
theorem w_X12_init (l : Launch) (M : o_M) (q : o_M → Prop) (h : (62 ∉ mL M ∧ (63 ∉ mL (sR (nW M 62 12) 60 1 (some 62)) ∧ (64 ∉ mL (sR (nW (sR (nW M 62 12) 60 1 (some 62)) 63 12) 60 2 (some 63)) ∧ (65 ∉ mL (sR (nW (sR (nW (sR (nW M 62 12) 60 1 (some 62)) 63 12) 60 2 (some 63)) 64 12) 60 3 (some 64)) ∧ (66 ∉ mL (sR (nW (sR (nW (sR (nW (sR (nW M 62 12) 60 1 (some 62)) 63 12) 60 2 (some 63)) 64 12) 60 3 (some 64)) 65 12) 60 4 (some 65)) ∧ (67 ∉ mL (sR (nW (sR (nW (sR (nW (sR (nW (sR (nW M 62 12) 60 1 (some 62)) 63 12) 60 2 (some 63)) 64 12) 60 3 (some 64)) 65 12) 60 4 (some 65)) 66 12) 60 5 (some 66)) ∧ (69 ∉ mL (sR (nW (sR (nW (sR (nW (sR (nW (sR (nW (sR (nW M 62 12) 60 1 (some 62)) 63 12) 60 2 (some 63)) 64 12) 60 3 (some 64)) 65 12) 60 4 (some 65)) 66 12) 60 5 (some 66)) 67 12) 60 6 (some 67)) ∧ (70 ∉ mL (sR (nW (sR (nW (sR (nW (sR (nW (sR (nW (sR (nW (sR (nW M 62 12) 60 1 (some 62)) 63 12) 60 2 (some 63)) 64 12) 60 3 (some 64)) 65 12) 60 4 (some 65)) 66 12) 60 5 (some 66)) 67 12) 60 6 (some 67)) 69 10) 60 8 (some 69)) ∧ (71 ∉ mL (sR (nW (sR (nW (sR (nW (sR (nW (sR (nW (sR (nW (sR (nW (sR (nW M 62 12) 60 1 (some 62)) 63 12) 60 2 (some 63)) 64 12) 60 3 (some 64)) 65 12) 60 4 (some 65)) 66 12) 60 5 (some 66)) 67 12) 60 6 (some 67)) 69 10) 60 8 (some 69)) 70 10) 60 9 (some 70)) ∧ (∀ M10, M10 = sR (nW (sR (nW (sR (nW (sR (nW (sR (nW (sR (nW (sR (nW (sR (nW (sR (nW M 62 12) 60 1 (some 62)) 63 12) 60 2 (some 63)) 64 12) 60 3 (some 64)) 65 12) 60 4 (some 65)) 66 12) 60 5 (some 66)) 67 12) 60 6 (some 67)) 69 10) 60 8 (some 69)) 70 10) 60 9 (some 70)) 71 10) 60 10 (some 71) → H_X12_init_77 l q M10))))))))))) : K_X12_init l [rV (some 60)] M q := by
  refine o_ctr (ini := true) (by decide +kernel) rfl (fun z => rfl) (Nat.le_of_ble_eq_true rfl) ?_
  show E_X12_init l q 0 [(0, rV (some 60))] [] M 0 0
  refine e_aload_n dX12_init_0 rfl rfl ?_
  refine e_objI loX12_1 oi_1 oi_2 (by decide) (Nat.le_of_ble_eq_true rfl) (by decide) dX12_init_1 ?_
  refine e_aload_n dX12_init_4 rfl rfl ?_
  refine e_bipush (v := 12) dX12_init_5 (by decide) ?_
  obtain ⟨o1, h⟩ := h
  refine e_newa (N := 12) o1 rfl rfl rfl (by decide) ac_int (by decide) (by decide) (by decide) (by decide) (by decide) dX12_init_7 ?_
  refine e_pR flX12_7 rfl (Or.inr ⟨rfl, rfl, rfl, fnX12_7⟩) rfl dX12_init_9 ?_
  refine e_aload_n dX12_init_12 rfl rfl ?_
  refine e_bipush (v := 12) dX12_init_13 (by decide) ?_
  obtain ⟨o2, h⟩ := h
  refine e_newa (N := 12) o2 rfl rfl rfl (by decide) ac_int (by decide) (by decide) (by decide) (by decide) (by decide) dX12_init_15 ?_
  refine e_pR flX12_13 rfl (Or.inr ⟨rfl, rfl, rfl, fnX12_13⟩) rfl dX12_init_17 ?_
  refine e_aload_n dX12_init_20 rfl rfl ?_
  refine e_bipush (v := 12) dX12_init_21 (by decide) ?_
  obtain ⟨o3, h⟩ := h
  refine e_newa (N := 12) o3 rfl rfl rfl (by decide) ac_int (by decide) (by decide) (by decide) (by decide) (by decide) dX12_init_23 ?_
  refine e_pR flX12_16 rfl (Or.inr ⟨rfl, rfl, rfl, fnX12_16⟩) rfl dX12_init_25 ?_
  refine e_aload_n dX12_init_28 rfl rfl ?_
  refine e_bipush (v := 12) dX12_init_29 (by decide) ?_
  obtain ⟨o4, h⟩ := h
  refine e_newa (N := 12) o4 rfl rfl rfl (by decide) ac_int (by decide) (by decide) (by decide) (by decide) (by decide) dX12_init_31 ?_
  refine e_pR flX12_19 rfl (Or.inr ⟨rfl, rfl, rfl, fnX12_19⟩) rfl dX12_init_33 ?_
  refine e_aload_n dX12_init_36 rfl rfl ?_
  refine e_bipush (v := 12) dX12_init_37 (by decide) ?_
  obtain ⟨o5, h⟩ := h
  refine e_newa (N := 12) o5 rfl rfl rfl (by decide) ac_int (by decide) (by decide) (by decide) (by decide) (by decide) dX12_init_39 ?_
  refine e_pR flX12_22 rfl (Or.inr ⟨rfl, rfl, rfl, fnX12_22⟩) rfl dX12_init_41 ?_
  refine e_aload_n dX12_init_44 rfl rfl ?_
  refine e_bipush (v := 12) dX12_init_45 (by decide) ?_
  obtain ⟨o6, h⟩ := h
  refine e_newa (N := 12) o6 rfl rfl rfl (by decide) ac_int (by decide) (by decide) (by decide) (by decide) (by decide) dX12_init_47 ?_
  refine e_pR flX12_25 rfl (Or.inr ⟨rfl, rfl, rfl, fnX12_25⟩) rfl dX12_init_49 ?_
  refine e_aload_n dX12_init_52 rfl rfl ?_
  refine e_bipush (v := 10) dX12_init_53 (by decide) ?_
  obtain ⟨o7, h⟩ := h
  refine e_newa (N := 10) o7 rfl rfl rfl (by decide) ac_int (by decide) (by decide) (by decide) (by decide) (by decide) dX12_init_55 ?_
  refine e_pR flX12_28 rfl (Or.inr ⟨rfl, rfl, rfl, fnX12_28⟩) rfl dX12_init_57 ?_
  refine e_aload_n dX12_init_60 rfl rfl ?_
  refine e_bipush (v := 10) dX12_init_61 (by decide) ?_
  obtain ⟨o8, h⟩ := h
  refine e_newa (N := 10) o8 rfl rfl rfl (by decide) ac_int (by decide) (by decide) (by decide) (by decide) (by decide) dX12_init_63 ?_
  refine e_pR flX12_31 rfl (Or.inr ⟨rfl, rfl, rfl, fnX12_31⟩) rfl dX12_init_65 ?_
  refine e_aload_n dX12_init_68 rfl rfl ?_
  refine e_bipush (v := 10) dX12_init_69 (by decide) ?_
  obtain ⟨o9, h⟩ := h
  refine e_newa (N := 10) o9 rfl rfl rfl (by decide) ac_int (by decide) (by decide) (by decide) (by decide) (by decide) dX12_init_71 ?_
  refine e_pR flX12_34 rfl (Or.inr ⟨rfl, rfl, rfl, fnX12_34⟩) rfl dX12_init_73 ?_
  generalize hgM10 : sR (nW (sR (nW (sR (nW (sR (nW (sR (nW (sR (nW (sR (nW (sR (nW (sR (nW M 62 12) 60 1 (some 62)) 63 12) 60 2 (some 63)) 64 12) 60 3 (some 64)) 65 12) 60 4 (some 65)) 66 12) 60 5 (some 66)) 67 12) 60 6 (some 67)) 69 10) 60 8 (some 69)) 70 10) 60 9 (some 70)) 71 10) 60 10 (some 71) = M10
  replace h := h M10 hgM10.symm
  refine e_aload_n dX12_init_76 rfl rfl ?_
  exact e_lv (List.forall_mem_cons.mpr ⟨rfl, fun _ h => absurd h List.not_mem_nil⟩) h
theorem w_X12_init_77 (l : Launch) (q : o_M → Prop) (M : o_M) (h : (72 ∉ mL M ∧ (73 ∉ mL (sR (nW M 72 10) 60 11 (some 72)) ∧ (74 ∉ mL (sR (nW (sR (nW M 72 10) 60 11 (some 72)) 73 60) 60 12 (some 73)) ∧ (76 ∉ mL (sR (nW (sR (nW (sR (nW M 72 10) 60 11 (some 72)) 73 60) 60 12 (some 73)) 74 60) 60 13 (some 74)) ∧ (77 ∉ mL (sR (nW (sR (nW (sR (nW (sR (nW M 72 10) 60 11 (some 72)) 73 60) 60 12 (some 73)) 74 60) 60 13 (some 74)) 76 40) 60 15 (some 76)) ∧ (78 ∉ mL (sR (nW (sR (nW (sR (nW (sR (nW (sR (nW M 72 10) 60 11 (some 72)) 73 60) 60 12 (some 73)) 74 60) 60 13 (some 74)) 76 40) 60 15 (some 76)) 77 40) 60 16 (some 77)) ∧ (79 ∉ mL (sR (nW (sR (nW (sR (nW (sR (nW (sR (nW (sR (nW M 72 10) 60 11 (some 72)) 73 60) 60 12 (some 73)) 74 60) 60 13 (some 74)) 76 40) 60 15 (some 76)) 77 40) 60 16 (some 77)) 78 40) 60 17 (some 78)) ∧ (80 ∉ mL (sR (nW (sR (nW (sR (nW (sR (nW (sR (nW (sR (nW (sR (nW M 72 10) 60 11 (some 72)) 73 60) 60 12 (some 73)) 74 60) 60 13 (some 74)) 76 40) 60 15 (some 76)) 77 40) 60 16 (some 77)) 78 40) 60 17 (some 78)) 79 40) 60 18 (some 79)) ∧ (81 ∉ mL (sR (nW (sR (nW (sR (nW (sR (nW (sR (nW (sR (nW (sR (nW (sR (nW M 72 10) 60 11 (some 72)) 73 60) 60 12 (some 73)) 74 60) 60 13 (some 74)) 76 40) 60 15 (some 76)) 77 40) 60 16 (some 77)) 78 40) 60 17 (some 78)) 79 40) 60 18 (some 79)) 80 40) 60 19 (some 80)) ∧ (∀ M20, M20 = nW (sR (nW (sR (nW (sR (nW (sR (nW (sR (nW (sR (nW (sR (nW (sR (nW M 72 10) 60 11 (some 72)) 73 60) 60 12 (some 73)) 74 60) 60 13 (some 74)) 76 40) 60 15 (some 76)) 77 40) 60 16 (some 77)) 78 40) 60 17 (some 78)) 79 40) 60 18 (some 79)) 80 40) 60 19 (some 80)) 81 200 → (82 ∉ mL (sR M20 60 20 (some 81)) ∧ H_X12_init_159 l q (sR (nW (sR M20 60 20 (some 81)) 82 480) 60 21 (some 82)))))))))))))) : H_X12_init_77 l q M := by
  refine e_bipush (v := 10) dX12_init_77 (by decide) ?_
  obtain ⟨o11, h⟩ := h
  refine e_newa (N := 10) o11 rfl rfl rfl (by decide) ac_int (by decide) (by decide) (by decide) (by decide) (by decide) dX12_init_79 ?_
  refine e_pR flX12_37 rfl (Or.inr ⟨rfl, rfl, rfl, fnX12_37⟩) rfl dX12_init_81 ?_
  refine e_aload_n dX12_init_84 rfl rfl ?_
  refine e_bipush (v := 60) dX12_init_85 (by decide) ?_
  obtain ⟨o12, h⟩ := h
  refine e_newa (N := 60) o12 rfl rfl rfl (by decide) ac_int (by decide) (by decide) (by decide) (by decide) (by decide) dX12_init_87 ?_
  refine e_pR flX12_40 rfl (Or.inr ⟨rfl, rfl, rfl, fnX12_40⟩) rfl dX12_init_89 ?_
  refine e_aload_n dX12_init_92 rfl rfl ?_
  refine e_bipush (v := 60) dX12_init_93 (by decide) ?_
  obtain ⟨o13, h⟩ := h
  refine e_newa (N := 60) o13 rfl rfl rfl (by decide) ac_int (by decide) (by decide) (by decide) (by decide) (by decide) dX12_init_95 ?_
  refine e_pR flX12_43 rfl (Or.inr ⟨rfl, rfl, rfl, fnX12_43⟩) rfl dX12_init_97 ?_
  refine e_aload_n dX12_init_100 rfl rfl ?_
  refine e_bipush (v := 40) dX12_init_101 (by decide) ?_
  obtain ⟨o14, h⟩ := h
  refine e_newa (N := 40) o14 rfl rfl rfl (by decide) ac_int (by decide) (by decide) (by decide) (by decide) (by decide) dX12_init_103 ?_
  refine e_pR flX12_46 rfl (Or.inr ⟨rfl, rfl, rfl, fnX12_46⟩) rfl dX12_init_105 ?_
  refine e_aload_n dX12_init_108 rfl rfl ?_
  refine e_bipush (v := 40) dX12_init_109 (by decide) ?_
  obtain ⟨o15, h⟩ := h
  refine e_newa (N := 40) o15 rfl rfl rfl (by decide) ac_int (by decide) (by decide) (by decide) (by decide) (by decide) dX12_init_111 ?_
  refine e_pR flX12_49 rfl (Or.inr ⟨rfl, rfl, rfl, fnX12_49⟩) rfl dX12_init_113 ?_
  refine e_aload_n dX12_init_116 rfl rfl ?_
  refine e_bipush (v := 40) dX12_init_117 (by decide) ?_
  obtain ⟨o16, h⟩ := h
  refine e_newa (N := 40) o16 rfl rfl rfl (by decide) ac_int (by decide) (by decide) (by decide) (by decide) (by decide) dX12_init_119 ?_
  refine e_pR flX12_52 rfl (Or.inr ⟨rfl, rfl, rfl, fnX12_52⟩) rfl dX12_init_121 ?_
  refine e_aload_n dX12_init_124 rfl rfl ?_
  refine e_bipush (v := 40) dX12_init_125 (by decide) ?_
  obtain ⟨o17, h⟩ := h
  refine e_newa (N := 40) o17 rfl rfl rfl (by decide) ac_int (by decide) (by decide) (by decide) (by decide) (by decide) dX12_init_127 ?_
  refine e_pR flX12_55 rfl (Or.inr ⟨rfl, rfl, rfl, fnX12_55⟩) rfl dX12_init_129 ?_
  refine e_aload_n dX12_init_132 rfl rfl ?_
  refine e_bipush (v := 40) dX12_init_133 (by decide) ?_
  obtain ⟨o18, h⟩ := h
  refine e_newa (N := 40) o18 rfl rfl rfl (by decide) ac_int (by decide) (by decide) (by decide) (by decide) (by decide) dX12_init_135 ?_
  refine e_pR flX12_58 rfl (Or.inr ⟨rfl, rfl, rfl, fnX12_58⟩) rfl dX12_init_137 ?_
  refine e_aload_n dX12_init_140 rfl rfl ?_
  refine e_sipush (v := 200) dX12_init_141 (by decide) ?_
  obtain ⟨o19, h⟩ := h
  refine e_newa (N := 200) o19 rfl rfl rfl (by decide) ac_int (by decide) (by decide) (by decide) (by decide) (by decide) dX12_init_144 ?_
  generalize hgM20 : nW (sR (nW (sR (nW (sR (nW (sR (nW (sR (nW (sR (nW (sR (nW (sR (nW M 72 10) 60 11 (some 72)) 73 60) 60 12 (some 73)) 74 60) 60 13 (some 74)) 76 40) 60 15 (some 76)) 77 40) 60 16 (some 77)) 78 40) 60 17 (some 78)) 79 40) 60 18 (some 79)) 80 40) 60 19 (some 80)) 81 200 = M20
  replace h := h M20 hgM20.symm
  refine e_pR flX12_61 rfl (Or.inr ⟨rfl, rfl, rfl, fnX12_61⟩) rfl dX12_init_146 ?_
  refine e_aload_n dX12_init_149 rfl rfl ?_
  refine e_sipush (v := 480) dX12_init_150 (by decide) ?_
  obtain ⟨o21, h⟩ := h
  refine e_newa (N := 480) o21 rfl rfl rfl (by decide) ac_int (by decide) (by decide) (by decide) (by decide) (by decide) dX12_init_153 ?_
  refine e_pR flX12_64 rfl (Or.inr ⟨rfl, rfl, rfl, fnX12_64⟩) rfl dX12_init_155 ?_
  refine e_aload_n dX12_init_158 rfl rfl ?_
  exact e_lv (List.forall_mem_cons.mpr ⟨rfl, fun _ h => absurd h List.not_mem_nil⟩) h
theorem w_X12_init_159 (l : Launch) (q : o_M → Prop) (M : o_M) (h : (83 ∉ mL M ∧ (84 ∉ mL (sR (nW M 83 40) 60 22 (some 83)) ∧ (87 ∉ mL (sR (nW (sR (nW M 83 40) 60 22 (some 83)) 84 300) 60 23 (some 84)) ∧ (88 ∉ mL (sR (nW (sR (nW (sR (nW M 83 40) 60 22 (some 83)) 84 300) 60 23 (some 84)) 87 11) 60 26 (some 87)) ∧ (89 ∉ mL (sR (nW (sR (nW (sR (nW (sR (nW M 83 40) 60 22 (some 83)) 84 300) 60 23 (some 84)) 87 11) 60 26 (some 87)) 88 3300) 60 27 (some 88)) ∧ (90 ∉ mL (sR (nW (sR (nW (sR (nW (sR (nW (sR (nW M 83 40) 60 22 (some 83)) 84 300) 60 23 (some 84)) 87 11) 60 26 (some 87)) 88 3300) 60 27 (some 88)) 89 3300) 60 28 (some 89)) ∧ (91 ∉ mL (sR (nW (sR (nW (sR (nW (sR (nW (sR (nW (sR (nW M 83 40) 60 22 (some 83)) 84 300) 60 23 (some 84)) 87 11) 60 26 (some 87)) 88 3300) 60 27 (some 88)) 89 3300) 60 28 (some 89)) 90 3300) 60 29 (some 90)) ∧ (92 ∉ mL (sR (nW (sR (nW (sR (nW (sR (nW (sR (nW (sR (nW (sR (nW M 83 40) 60 22 (some 83)) 84 300) 60 23 (some 84)) 87 11) 60 26 (some 87)) 88 3300) 60 27 (some 88)) 89 3300) 60 28 (some 89)) 90 3300) 60 29 (some 90)) 91 11) 60 30 (some 91)) ∧ (∀ M30, M30 = sR (nW (sR (nW (sR (nW (sR (nW (sR (nW (sR (nW (sR (nW (sR (nW M 83 40) 60 22 (some 83)) 84 300) 60 23 (some 84)) 87 11) 60 26 (some 87)) 88 3300) 60 27 (some 88)) 89 3300) 60 28 (some 89)) 90 3300) 60 29 (some 90)) 91 11) 60 30 (some 91)) 92 121) 60 31 (some 92) → (93 ∉ mL M30 ∧ (94 ∉ mL (sR (nW M30 93 11) 60 32 (some 93)) ∧ H_X12_init_243 l q (sR (nW (sR (nW M30 93 11) 60 32 (some 93)) 94 11) 60 33 (some 94)))))))))))))) : H_X12_init_159 l q M := by
  refine e_bipush (v := 40) dX12_init_159 (by decide) ?_
  obtain ⟨o22, h⟩ := h
  refine e_newa (N := 40) o22 rfl rfl rfl (by decide) ac_boolean (by decide) (by decide) (by decide) (by decide) (by decide) dX12_init_161 ?_
  refine e_pR flX12_67 rfl (Or.inr ⟨rfl, rfl, rfl, fnX12_67⟩) rfl dX12_init_163 ?_
  refine e_aload_n dX12_init_166 rfl rfl ?_
  refine e_sipush (v := 300) dX12_init_167 (by decide) ?_
  obtain ⟨o23, h⟩ := h
  refine e_newa (N := 300) o23 rfl rfl rfl (by decide) ac_int (by decide) (by decide) (by decide) (by decide) (by decide) dX12_init_170 ?_
  refine e_pR flX12_71 rfl (Or.inr ⟨rfl, rfl, rfl, fnX12_71⟩) rfl dX12_init_172 ?_
  refine e_aload_n dX12_init_175 rfl rfl ?_
  refine e_bipush (v := 11) dX12_init_176 (by decide) ?_
  obtain ⟨o24, h⟩ := h
  refine e_newa (N := 11) o24 rfl rfl rfl (by decide) ac_int (by decide) (by decide) (by decide) (by decide) (by decide) dX12_init_178 ?_
  refine e_pR flX12_74 rfl (Or.inr ⟨rfl, rfl, rfl, fnX12_74⟩) rfl dX12_init_180 ?_
  refine e_aload_n dX12_init_183 rfl rfl ?_
  refine e_sipush (v := 3300) dX12_init_184 (by decide) ?_
  obtain ⟨o25, h⟩ := h
  refine e_newa (N := 3300) o25 rfl rfl rfl (by decide) ac_int (by decide) (by decide) (by decide) (by decide) (by decide) dX12_init_187 ?_
  refine e_pR flX12_77 rfl (Or.inr ⟨rfl, rfl, rfl, fnX12_77⟩) rfl dX12_init_189 ?_
  refine e_aload_n dX12_init_192 rfl rfl ?_
  refine e_sipush (v := 3300) dX12_init_193 (by decide) ?_
  obtain ⟨o26, h⟩ := h
  refine e_newa (N := 3300) o26 rfl rfl rfl (by decide) ac_int (by decide) (by decide) (by decide) (by decide) (by decide) dX12_init_196 ?_
  refine e_pR flX12_80 rfl (Or.inr ⟨rfl, rfl, rfl, fnX12_80⟩) rfl dX12_init_198 ?_
  refine e_aload_n dX12_init_201 rfl rfl ?_
  refine e_sipush (v := 3300) dX12_init_202 (by decide) ?_
  obtain ⟨o27, h⟩ := h
  refine e_newa (N := 3300) o27 rfl rfl rfl (by decide) ac_int (by decide) (by decide) (by decide) (by decide) (by decide) dX12_init_205 ?_
  refine e_pR flX12_83 rfl (Or.inr ⟨rfl, rfl, rfl, fnX12_83⟩) rfl dX12_init_207 ?_
  refine e_aload_n dX12_init_210 rfl rfl ?_
  refine e_bipush (v := 11) dX12_init_211 (by decide) ?_
  obtain ⟨o28, h⟩ := h
  refine e_newa (N := 11) o28 rfl rfl rfl (by decide) ac_int (by decide) (by decide) (by decide) (by decide) (by decide) dX12_init_213 ?_
  refine e_pR flX12_86 rfl (Or.inr ⟨rfl, rfl, rfl, fnX12_86⟩) rfl dX12_init_215 ?_
  refine e_aload_n dX12_init_218 rfl rfl ?_
  refine e_bipush (v := 121) dX12_init_219 (by decide) ?_
  obtain ⟨o29, h⟩ := h
  refine e_newa (N := 121) o29 rfl rfl rfl (by decide) ac_int (by decide) (by decide) (by decide) (by decide) (by decide) dX12_init_221 ?_
  refine e_pR flX12_89 rfl (Or.inr ⟨rfl, rfl, rfl, fnX12_89⟩) rfl dX12_init_223 ?_
  generalize hgM30 : sR (nW (sR (nW (sR (nW (sR (nW (sR (nW (sR (nW (sR (nW (sR (nW M 83 40) 60 22 (some 83)) 84 300) 60 23 (some 84)) 87 11) 60 26 (some 87)) 88 3300) 60 27 (some 88)) 89 3300) 60 28 (some 89)) 90 3300) 60 29 (some 90)) 91 11) 60 30 (some 91)) 92 121) 60 31 (some 92) = M30
  replace h := h M30 hgM30.symm
  refine e_aload_n dX12_init_226 rfl rfl ?_
  refine e_bipush (v := 11) dX12_init_227 (by decide) ?_
  obtain ⟨o31, h⟩ := h
  refine e_newa (N := 11) o31 rfl rfl rfl (by decide) ac_int (by decide) (by decide) (by decide) (by decide) (by decide) dX12_init_229 ?_
  refine e_pR flX12_92 rfl (Or.inr ⟨rfl, rfl, rfl, fnX12_92⟩) rfl dX12_init_231 ?_
  refine e_aload_n dX12_init_234 rfl rfl ?_
  refine e_bipush (v := 11) dX12_init_235 (by decide) ?_
  obtain ⟨o32, h⟩ := h
  refine e_newa (N := 11) o32 rfl rfl rfl (by decide) ac_int (by decide) (by decide) (by decide) (by decide) (by decide) dX12_init_237 ?_
  refine e_pR flX12_95 rfl (Or.inr ⟨rfl, rfl, rfl, fnX12_95⟩) rfl dX12_init_239 ?_
  refine e_aload_n dX12_init_242 rfl rfl ?_
  exact e_lv (List.forall_mem_cons.mpr ⟨rfl, fun _ h => absurd h List.not_mem_nil⟩) h
theorem w_X12_init_243 (l : Launch) (q : o_M → Prop) (M : o_M) (h : (96 ∉ mL M ∧ (97 ∉ mL (sR (nW M 96 6) 60 35 (some 96)) ∧ (98 ∉ mL (sR (nW (sR (nW M 96 6) 60 35 (some 96)) 97 6) 60 36 (some 97)) ∧ (99 ∉ mL (sR (nW (sR (nW (sR (nW M 96 6) 60 35 (some 96)) 97 6) 60 36 (some 97)) 98 6) 60 37 (some 98)) ∧ (101 ∉ mL (sR (nW (sR (nW (sR (nW (sR (nW M 96 6) 60 35 (some 96)) 97 6) 60 36 (some 97)) 98 6) 60 37 (some 98)) 99 1800) 60 38 (some 99)) ∧ (vp_in 0 (mN (nW (sR (nW (sR (nW (sR (nW (sR (nW M 96 6) 60 35 (some 96)) 97 6) 60 36 (some 97)) 98 6) 60 37 (some 98)) 99 1800) 60 38 (some 99)) 101 28) 101) ∧ (vp_in 1 (mN (sI (nW (sR (nW (sR (nW (sR (nW (sR (nW M 96 6) 60 35 (some 96)) 97 6) 60 36 (some 97)) 98 6) 60 37 (some 98)) 99 1800) 60 38 (some 99)) 101 28) 101 ((0 : Int32).toNatClampNeg) 99) 101) ∧ (vp_in 2 (mN (sI (sI (nW (sR (nW (sR (nW (sR (nW (sR (nW M 96 6) 60 35 (some 96)) 97 6) 60 36 (some 97)) 98 6) 60 37 (some 98)) 99 1800) 60 38 (some 99)) 101 28) 101 ((0 : Int32).toNatClampNeg) 99) 101 ((1 : Int32).toNatClampNeg) 111) 101) ∧ (vp_in 3 (mN (sI (sI (sI (nW (sR (nW (sR (nW (sR (nW (sR (nW M 96 6) 60 35 (some 96)) 97 6) 60 36 (some 97)) 98 6) 60 37 (some 98)) 99 1800) 60 38 (some 99)) 101 28) 101 ((0 : Int32).toNatClampNeg) 99) 101 ((1 : Int32).toNatClampNeg) 111) 101 ((2 : Int32).toNatClampNeg) 117) 101) ∧ (∀ M42, M42 = sI (sI (sI (sI (nW (sR (nW (sR (nW (sR (nW (sR (nW M 96 6) 60 35 (some 96)) 97 6) 60 36 (some 97)) 98 6) 60 37 (some 98)) 99 1800) 60 38 (some 99)) 101 28) 101 ((0 : Int32).toNatClampNeg) 99) 101 ((1 : Int32).toNatClampNeg) 111) 101 ((2 : Int32).toNatClampNeg) 117) 101 ((3 : Int32).toNatClampNeg) 110 → (vp_in 4 (mN M42 101) ∧ H_X12_init_307 l q 5 (sI M42 101 ((4 : Int32).toNatClampNeg) 116))))))))))))) : H_X12_init_243 l q M := by
  refine e_bipush (v := 6) dX12_init_243 (by decide) ?_
  obtain ⟨o33, h⟩ := h
  refine e_newa (N := 6) o33 rfl rfl rfl (by decide) ac_int (by decide) (by decide) (by decide) (by decide) (by decide) dX12_init_245 ?_
  refine e_pR flX12_98 rfl (Or.inr ⟨rfl, rfl, rfl, fnX12_98⟩) rfl dX12_init_247 ?_
  refine e_aload_n dX12_init_250 rfl rfl ?_
  refine e_bipush (v := 6) dX12_init_251 (by decide) ?_
  obtain ⟨o34, h⟩ := h
  refine e_newa (N := 6) o34 rfl rfl rfl (by decide) ac_int (by decide) (by decide) (by decide) (by decide) (by decide) dX12_init_253 ?_
  refine e_pR flX12_101 rfl (Or.inr ⟨rfl, rfl, rfl, fnX12_101⟩) rfl dX12_init_255 ?_
  refine e_aload_n dX12_init_258 rfl rfl ?_
  refine e_bipush (v := 6) dX12_init_259 (by decide) ?_
  obtain ⟨o35, h⟩ := h
  refine e_newa (N := 6) o35 rfl rfl rfl (by decide) ac_int (by decide) (by decide) (by decide) (by decide) (by decide) dX12_init_261 ?_
  refine e_pR flX12_104 rfl (Or.inr ⟨rfl, rfl, rfl, fnX12_104⟩) rfl dX12_init_263 ?_
  refine e_aload_n dX12_init_266 rfl rfl ?_
  refine e_sipush (v := 1800) dX12_init_267 (by decide) ?_
  obtain ⟨o36, h⟩ := h
  refine e_newa (N := 1800) o36 rfl rfl rfl (by decide) ac_long (by decide) (by decide) (by decide) (by decide) (by decide) dX12_init_270 ?_
  refine e_pR flX12_107 rfl (Or.inr ⟨rfl, rfl, rfl, fnX12_107⟩) rfl dX12_init_272 ?_
  refine e_aload_n dX12_init_275 rfl rfl ?_
  refine e_bipush (v := 28) dX12_init_276 (by decide) ?_
  obtain ⟨o37, h⟩ := h
  refine e_newa (N := 28) o37 rfl rfl rfl (by decide) ac_int (by decide) (by decide) (by decide) (by decide) (by decide) dX12_init_278 ?_
  refine e_dup rfl dX12_init_280 ?_
  refine e_iconst (v := 0) dX12_init_281 (by decide) ?_
  refine e_bipush (v := 99) dX12_init_282 (by decide) ?_
  obtain ⟨o38, h⟩ := h
  refine e_iast rfl o38 dX12_init_284 ?_
  refine e_dup rfl dX12_init_285 ?_
  refine e_iconst (v := 1) dX12_init_286 (by decide) ?_
  refine e_bipush (v := 111) dX12_init_287 (by decide) ?_
  obtain ⟨o39, h⟩ := h
  refine e_iast rfl o39 dX12_init_289 ?_
  refine e_dup rfl dX12_init_290 ?_
  refine e_iconst (v := 2) dX12_init_291 (by decide) ?_
  refine e_bipush (v := 117) dX12_init_292 (by decide) ?_
  obtain ⟨o40, h⟩ := h
  refine e_iast rfl o40 dX12_init_294 ?_
  refine e_dup rfl dX12_init_295 ?_
  refine e_iconst (v := 3) dX12_init_296 (by decide) ?_
  refine e_bipush (v := 110) dX12_init_297 (by decide) ?_
  obtain ⟨o41, h⟩ := h
  refine e_iast rfl o41 dX12_init_299 ?_
  generalize hgM42 : sI (sI (sI (sI (nW (sR (nW (sR (nW (sR (nW (sR (nW M 96 6) 60 35 (some 96)) 97 6) 60 36 (some 97)) 98 6) 60 37 (some 98)) 99 1800) 60 38 (some 99)) 101 28) 101 ((0 : Int32).toNatClampNeg) 99) 101 ((1 : Int32).toNatClampNeg) 111) 101 ((2 : Int32).toNatClampNeg) 117) 101 ((3 : Int32).toNatClampNeg) 110 = M42
  replace h := h M42 hgM42.symm
  refine e_dup rfl dX12_init_300 ?_
  refine e_iconst (v := 4) dX12_init_301 (by decide) ?_
  refine e_bipush (v := 116) dX12_init_302 (by decide) ?_
  obtain ⟨o43, h⟩ := h
  refine e_iast rfl o43 dX12_init_304 ?_
  refine e_dup rfl dX12_init_305 ?_
  refine e_iconst (v := 5) dX12_init_306 (by decide) ?_
  exact e_lv (List.forall_mem_cons.mpr ⟨rfl, fun _ h => absurd h List.not_mem_nil⟩) h
theorem w_X12_init_307 (l : Launch) (q : o_M → Prop) (s0 : Int32) (M : o_M) (h : (vp_in s0 (mN M 101) ∧ (vp_in 6 (mN (sI M 101 s0.toNatClampNeg 32) 101) ∧ (vp_in 7 (mN (sI (sI M 101 s0.toNatClampNeg 32) 101 ((6 : Int32).toNatClampNeg) 108) 101) ∧ (vp_in 8 (mN (sI (sI (sI M 101 s0.toNatClampNeg 32) 101 ((6 : Int32).toNatClampNeg) 108) 101 ((7 : Int32).toNatClampNeg) 111) 101) ∧ (vp_in 9 (mN (sI (sI (sI (sI M 101 s0.toNatClampNeg 32) 101 ((6 : Int32).toNatClampNeg) 108) 101 ((7 : Int32).toNatClampNeg) 111) 101 ((8 : Int32).toNatClampNeg) 110) 101) ∧ (vp_in 10 (mN (sI (sI (sI (sI (sI M 101 s0.toNatClampNeg 32) 101 ((6 : Int32).toNatClampNeg) 108) 101 ((7 : Int32).toNatClampNeg) 111) 101 ((8 : Int32).toNatClampNeg) 110) 101 ((9 : Int32).toNatClampNeg) 103) 101) ∧ (vp_in 11 (mN (sI (sI (sI (sI (sI (sI M 101 s0.toNatClampNeg 32) 101 ((6 : Int32).toNatClampNeg) 108) 101 ((7 : Int32).toNatClampNeg) 111) 101 ((8 : Int32).toNatClampNeg) 110) 101 ((9 : Int32).toNatClampNeg) 103) 101 ((10 : Int32).toNatClampNeg) 32) 101) ∧ (∀ M51, M51 = sI (sI (sI (sI (sI (sI (sI M 101 s0.toNatClampNeg 32) 101 ((6 : Int32).toNatClampNeg) 108) 101 ((7 : Int32).toNatClampNeg) 111) 101 ((8 : Int32).toNatClampNeg) 110) 101 ((9 : Int32).toNatClampNeg) 103) 101 ((10 : Int32).toNatClampNeg) 32) 101 ((11 : Int32).toNatClampNeg) 59 → (vp_in 12 (mN M51 101) ∧ (vp_in 13 (mN (sI M51 101 ((12 : Int32).toNatClampNeg) 32) 101) ∧ (vp_in 14 (mN (sI (sI M51 101 ((12 : Int32).toNatClampNeg) 32) 101 ((13 : Int32).toNatClampNeg) 112) 101) ∧ H_X12_init_367 l q 15 (sI (sI (sI M51 101 ((12 : Int32).toNatClampNeg) 32) 101 ((13 : Int32).toNatClampNeg) 112) 101 ((14 : Int32).toNatClampNeg) 97))))))))))))) : H_X12_init_307 l q s0 M := by
  refine e_bipush (v := 32) dX12_init_307 (by decide) ?_
  obtain ⟨o44, h⟩ := h
  refine e_iast rfl o44 dX12_init_309 ?_
  refine e_dup rfl dX12_init_310 ?_
  refine e_bipush (v := 6) dX12_init_311 (by decide) ?_
  refine e_bipush (v := 108) dX12_init_313 (by decide) ?_
  obtain ⟨o45, h⟩ := h
  refine e_iast rfl o45 dX12_init_315 ?_
  refine e_dup rfl dX12_init_316 ?_
  refine e_bipush (v := 7) dX12_init_317 (by decide) ?_
  refine e_bipush (v := 111) dX12_init_319 (by decide) ?_
  obtain ⟨o46, h⟩ := h
  refine e_iast rfl o46 dX12_init_321 ?_
  refine e_dup rfl dX12_init_322 ?_
  refine e_bipush (v := 8) dX12_init_323 (by decide) ?_
  refine e_bipush (v := 110) dX12_init_325 (by decide) ?_
  obtain ⟨o47, h⟩ := h
  refine e_iast rfl o47 dX12_init_327 ?_
  refine e_dup rfl dX12_init_328 ?_
  refine e_bipush (v := 9) dX12_init_329 (by decide) ?_
  refine e_bipush (v := 103) dX12_init_331 (by decide) ?_
  obtain ⟨o48, h⟩ := h
  refine e_iast rfl o48 dX12_init_333 ?_
  refine e_dup rfl dX12_init_334 ?_
  refine e_bipush (v := 10) dX12_init_335 (by decide) ?_
  refine e_bipush (v := 32) dX12_init_337 (by decide) ?_
  obtain ⟨o49, h⟩ := h
  refine e_iast rfl o49 dX12_init_339 ?_
  refine e_dup rfl dX12_init_340 ?_
  refine e_bipush (v := 11) dX12_init_341 (by decide) ?_
  refine e_bipush (v := 59) dX12_init_343 (by decide) ?_
  obtain ⟨o50, h⟩ := h
  refine e_iast rfl o50 dX12_init_345 ?_
  generalize hgM51 : sI (sI (sI (sI (sI (sI (sI M 101 s0.toNatClampNeg 32) 101 ((6 : Int32).toNatClampNeg) 108) 101 ((7 : Int32).toNatClampNeg) 111) 101 ((8 : Int32).toNatClampNeg) 110) 101 ((9 : Int32).toNatClampNeg) 103) 101 ((10 : Int32).toNatClampNeg) 32) 101 ((11 : Int32).toNatClampNeg) 59 = M51
  replace h := h M51 hgM51.symm
  refine e_dup rfl dX12_init_346 ?_
  refine e_bipush (v := 12) dX12_init_347 (by decide) ?_
  refine e_bipush (v := 32) dX12_init_349 (by decide) ?_
  obtain ⟨o52, h⟩ := h
  refine e_iast rfl o52 dX12_init_351 ?_
  refine e_dup rfl dX12_init_352 ?_
  refine e_bipush (v := 13) dX12_init_353 (by decide) ?_
  refine e_bipush (v := 112) dX12_init_355 (by decide) ?_
  obtain ⟨o53, h⟩ := h
  refine e_iast rfl o53 dX12_init_357 ?_
  refine e_dup rfl dX12_init_358 ?_
  refine e_bipush (v := 14) dX12_init_359 (by decide) ?_
  refine e_bipush (v := 97) dX12_init_361 (by decide) ?_
  obtain ⟨o54, h⟩ := h
  refine e_iast rfl o54 dX12_init_363 ?_
  refine e_dup rfl dX12_init_364 ?_
  refine e_bipush (v := 15) dX12_init_365 (by decide) ?_
  exact e_lv (List.forall_mem_cons.mpr ⟨rfl, fun _ h => absurd h List.not_mem_nil⟩) h
theorem w_X12_init_367 (l : Launch) (q : o_M → Prop) (s0 : Int32) (M : o_M) (h : (vp_in s0 (mN M 101) ∧ (vp_in 16 (mN (sI M 101 s0.toNatClampNeg 121) 101) ∧ (vp_in 17 (mN (sI (sI M 101 s0.toNatClampNeg 121) 101 ((16 : Int32).toNatClampNeg) 32) 101) ∧ (vp_in 18 (mN (sI (sI (sI M 101 s0.toNatClampNeg 121) 101 ((16 : Int32).toNatClampNeg) 32) 101 ((17 : Int32).toNatClampNeg) 108) 101) ∧ (vp_in 19 (mN (sI (sI (sI (sI M 101 s0.toNatClampNeg 121) 101 ((16 : Int32).toNatClampNeg) 32) 101 ((17 : Int32).toNatClampNeg) 108) 101 ((18 : Int32).toNatClampNeg) 111) 101) ∧ (vp_in 20 (mN (sI (sI (sI (sI (sI M 101 s0.toNatClampNeg 121) 101 ((16 : Int32).toNatClampNeg) 32) 101 ((17 : Int32).toNatClampNeg) 108) 101 ((18 : Int32).toNatClampNeg) 111) 101 ((19 : Int32).toNatClampNeg) 110) 101) ∧ (vp_in 21 (mN (sI (sI (sI (sI (sI (sI M 101 s0.toNatClampNeg 121) 101 ((16 : Int32).toNatClampNeg) 32) 101 ((17 : Int32).toNatClampNeg) 108) 101 ((18 : Int32).toNatClampNeg) 111) 101 ((19 : Int32).toNatClampNeg) 110) 101 ((20 : Int32).toNatClampNeg) 103) 101) ∧ (∀ M62, M62 = sI (sI (sI (sI (sI (sI (sI M 101 s0.toNatClampNeg 121) 101 ((16 : Int32).toNatClampNeg) 32) 101 ((17 : Int32).toNatClampNeg) 108) 101 ((18 : Int32).toNatClampNeg) 111) 101 ((19 : Int32).toNatClampNeg) 110) 101 ((20 : Int32).toNatClampNeg) 103) 101 ((21 : Int32).toNatClampNeg) 32 → (vp_in 22 (mN M62 101) ∧ (vp_in 23 (mN (sI M62 101 ((22 : Int32).toNatClampNeg) 42) 101) ∧ (vp_in 24 (mN (sI (sI M62 101 ((22 : Int32).toNatClampNeg) 42) 101 ((23 : Int32).toNatClampNeg) 32) 101) ∧ H_X12_init_427 l q 25 (sI (sI (sI M62 101 ((22 : Int32).toNatClampNeg) 42) 101 ((23 : Int32).toNatClampNeg) 32) 101 ((24 : Int32).toNatClampNeg) 49))))))))))))) : H_X12_init_367 l q s0 M := by
  refine e_bipush (v := 121) dX12_init_367 (by decide) ?_
  obtain ⟨o55, h⟩ := h
  refine e_iast rfl o55 dX12_init_369 ?_
  refine e_dup rfl dX12_init_370 ?_
  refine e_bipush (v := 16) dX12_init_371 (by decide) ?_
  refine e_bipush (v := 32) dX12_init_373 (by decide) ?_
  obtain ⟨o56, h⟩ := h
  refine e_iast rfl o56 dX12_init_375 ?_
  refine e_dup rfl dX12_init_376 ?_
  refine e_bipush (v := 17) dX12_init_377 (by decide) ?_
  refine e_bipush (v := 108) dX12_init_379 (by decide) ?_
  obtain ⟨o57, h⟩ := h
  refine e_iast rfl o57 dX12_init_381 ?_
  refine e_dup rfl dX12_init_382 ?_
  refine e_bipush (v := 18) dX12_init_383 (by decide) ?_
  refine e_bipush (v := 111) dX12_init_385 (by decide) ?_
  obtain ⟨o58, h⟩ := h
  refine e_iast rfl o58 dX12_init_387 ?_
  refine e_dup rfl dX12_init_388 ?_
  refine e_bipush (v := 19) dX12_init_389 (by decide) ?_
  refine e_bipush (v := 110) dX12_init_391 (by decide) ?_
  obtain ⟨o59, h⟩ := h
  refine e_iast rfl o59 dX12_init_393 ?_
  refine e_dup rfl dX12_init_394 ?_
  refine e_bipush (v := 20) dX12_init_395 (by decide) ?_
  refine e_bipush (v := 103) dX12_init_397 (by decide) ?_
  obtain ⟨o60, h⟩ := h
  refine e_iast rfl o60 dX12_init_399 ?_
  refine e_dup rfl dX12_init_400 ?_
  refine e_bipush (v := 21) dX12_init_401 (by decide) ?_
  refine e_bipush (v := 32) dX12_init_403 (by decide) ?_
  obtain ⟨o61, h⟩ := h
  refine e_iast rfl o61 dX12_init_405 ?_
  generalize hgM62 : sI (sI (sI (sI (sI (sI (sI M 101 s0.toNatClampNeg 121) 101 ((16 : Int32).toNatClampNeg) 32) 101 ((17 : Int32).toNatClampNeg) 108) 101 ((18 : Int32).toNatClampNeg) 111) 101 ((19 : Int32).toNatClampNeg) 110) 101 ((20 : Int32).toNatClampNeg) 103) 101 ((21 : Int32).toNatClampNeg) 32 = M62
  replace h := h M62 hgM62.symm
  refine e_dup rfl dX12_init_406 ?_
  refine e_bipush (v := 22) dX12_init_407 (by decide) ?_
  refine e_bipush (v := 42) dX12_init_409 (by decide) ?_
  obtain ⟨o63, h⟩ := h
  refine e_iast rfl o63 dX12_init_411 ?_
  refine e_dup rfl dX12_init_412 ?_
  refine e_bipush (v := 23) dX12_init_413 (by decide) ?_
  refine e_bipush (v := 32) dX12_init_415 (by decide) ?_
  obtain ⟨o64, h⟩ := h
  refine e_iast rfl o64 dX12_init_417 ?_
  refine e_dup rfl dX12_init_418 ?_
  refine e_bipush (v := 24) dX12_init_419 (by decide) ?_
  refine e_bipush (v := 49) dX12_init_421 (by decide) ?_
  obtain ⟨o65, h⟩ := h
  refine e_iast rfl o65 dX12_init_423 ?_
  refine e_dup rfl dX12_init_424 ?_
  refine e_bipush (v := 25) dX12_init_425 (by decide) ?_
  exact e_lv (List.forall_mem_cons.mpr ⟨rfl, fun _ h => absurd h List.not_mem_nil⟩) h
theorem w_X12_init_427 (l : Launch) (q : o_M → Prop) (s0 : Int32) (M : o_M) (h : (vp_in s0 (mN M 101) ∧ (vp_in 26 (mN (sI M 101 s0.toNatClampNeg 48) 101) ∧ (vp_in 27 (mN (sI (sI M 101 s0.toNatClampNeg 48) 101 ((26 : Int32).toNatClampNeg) 32) 101) ∧ (102 ∉ mL (sR (sI (sI (sI M 101 s0.toNatClampNeg 48) 101 ((26 : Int32).toNatClampNeg) 32) 101 ((27 : Int32).toNatClampNeg) 59) 60 40 (some 101)) ∧ (vp_in 0 (mN (nW (sR (sI (sI (sI M 101 s0.toNatClampNeg 48) 101 ((26 : Int32).toNatClampNeg) 32) 101 ((27 : Int32).toNatClampNeg) 59) 60 40 (some 101)) 102 81) 102) ∧ (vp_in 1 (mN (sI (nW (sR (sI (sI (sI M 101 s0.toNatClampNeg 48) 101 ((26 : Int32).toNatClampNeg) 32) 101 ((27 : Int32).toNatClampNeg) 59) 60 40 (some 101)) 102 81) 102 ((0 : Int32).toNatClampNeg) 107) 102) ∧ (vp_in 2 (mN (sI (sI (nW (sR (sI (sI (sI M 101 s0.toNatClampNeg 48) 101 ((26 : Int32).toNatClampNeg) 32) 101 ((27 : Int32).toNatClampNeg) 59) 60 40 (some 101)) 102 81) 102 ((0 : Int32).toNatClampNeg) 107) 102 ((1 : Int32).toNatClampNeg) 105) 102) ∧ (∀ M73, M73 = sI (sI (sI (nW (sR (sI (sI (sI M 101 s0.toNatClampNeg 48) 101 ((26 : Int32).toNatClampNeg) 32) 101 ((27 : Int32).toNatClampNeg) 59) 60 40 (some 101)) 102 81) 102 ((0 : Int32).toNatClampNeg) 107) 102 ((1 : Int32).toNatClampNeg) 105) 102 ((2 : Int32).toNatClampNeg) 110 → (vp_in 3 (mN M73 102) ∧ (vp_in 4 (mN (sI M73 102 ((3 : Int32).toNatClampNeg) 100) 102) ∧ (vp_in 5 (mN (sI (sI M73 102 ((3 : Int32).toNatClampNeg) 100) 102 ((4 : Int32).toNatClampNeg) 0) 102) ∧ H_X12_init_482 l q 6 (sI (sI (sI M73 102 ((3 : Int32).toNatClampNeg) 100) 102 ((4 : Int32).toNatClampNeg) 0) 102 ((5 : Int32).toNatClampNeg) 119))))))))))))) : H_X12_init_427 l q s0 M := by
  refine e_bipush (v := 48) dX12_init_427 (by decide) ?_
  obtain ⟨o66, h⟩ := h
  refine e_iast rfl o66 dX12_init_429 ?_
  refine e_dup rfl dX12_init_430 ?_
  refine e_bipush (v := 26) dX12_init_431 (by decide) ?_
  refine e_bipush (v := 32) dX12_init_433 (by decide) ?_
  obtain ⟨o67, h⟩ := h
  refine e_iast rfl o67 dX12_init_435 ?_
  refine e_dup rfl dX12_init_436 ?_
  refine e_bipush (v := 27) dX12_init_437 (by decide) ?_
  refine e_bipush (v := 59) dX12_init_439 (by decide) ?_
  obtain ⟨o68, h⟩ := h
  refine e_iast rfl o68 dX12_init_441 ?_
  refine e_pR flX12_111 rfl (Or.inr ⟨rfl, rfl, rfl, fnX12_111⟩) rfl dX12_init_442 ?_
  refine e_aload_n dX12_init_445 rfl rfl ?_
  refine e_bipush (v := 81) dX12_init_446 (by decide) ?_
  obtain ⟨o69, h⟩ := h
  refine e_newa (N := 81) o69 rfl rfl rfl (by decide) ac_int (by decide) (by decide) (by decide) (by decide) (by decide) dX12_init_448 ?_
  refine e_dup rfl dX12_init_450 ?_
  refine e_iconst (v := 0) dX12_init_451 (by decide) ?_
  refine e_bipush (v := 107) dX12_init_452 (by decide) ?_
  obtain ⟨o70, h⟩ := h
  refine e_iast rfl o70 dX12_init_454 ?_
  refine e_dup rfl dX12_init_455 ?_
  refine e_iconst (v := 1) dX12_init_456 (by decide) ?_
  refine e_bipush (v := 105) dX12_init_457 (by decide) ?_
  obtain ⟨o71, h⟩ := h
  refine e_iast rfl o71 dX12_init_459 ?_
  refine e_dup rfl dX12_init_460 ?_
  refine e_iconst (v := 2) dX12_init_461 (by decide) ?_
  refine e_bipush (v := 110) dX12_init_462 (by decide) ?_
  obtain ⟨o72, h⟩ := h
  refine e_iast rfl o72 dX12_init_464 ?_
  generalize hgM73 : sI (sI (sI (nW (sR (sI (sI (sI M 101 s0.toNatClampNeg 48) 101 ((26 : Int32).toNatClampNeg) 32) 101 ((27 : Int32).toNatClampNeg) 59) 60 40 (some 101)) 102 81) 102 ((0 : Int32).toNatClampNeg) 107) 102 ((1 : Int32).toNatClampNeg) 105) 102 ((2 : Int32).toNatClampNeg) 110 = M73
  replace h := h M73 hgM73.symm
  refine e_dup rfl dX12_init_465 ?_
  refine e_iconst (v := 3) dX12_init_466 (by decide) ?_
  refine e_bipush (v := 100) dX12_init_467 (by decide) ?_
  obtain ⟨o74, h⟩ := h
  refine e_iast rfl o74 dX12_init_469 ?_
  refine e_dup rfl dX12_init_470 ?_
  refine e_iconst (v := 4) dX12_init_471 (by decide) ?_
  refine e_iconst (v := 0) dX12_init_472 (by decide) ?_
  obtain ⟨o75, h⟩ := h
  refine e_iast rfl o75 dX12_init_473 ?_
  refine e_dup rfl dX12_init_474 ?_
  refine e_iconst (v := 5) dX12_init_475 (by decide) ?_
  refine e_bipush (v := 119) dX12_init_476 (by decide) ?_
  obtain ⟨o76, h⟩ := h
  refine e_iast rfl o76 dX12_init_478 ?_
  refine e_dup rfl dX12_init_479 ?_
  refine e_bipush (v := 6) dX12_init_480 (by decide) ?_
  exact e_lv (List.forall_mem_cons.mpr ⟨rfl, fun _ h => absurd h List.not_mem_nil⟩) h
theorem w_X12_init_482 (l : Launch) (q : o_M → Prop) (s0 : Int32) (M : o_M) (h : (vp_in s0 (mN M 102) ∧ (vp_in 7 (mN (sI M 102 s0.toNatClampNeg 101) 102) ∧ (vp_in 8 (mN (sI (sI M 102 s0.toNatClampNeg 101) 102 ((7 : Int32).toNatClampNeg) 101) 102) ∧ (vp_in 9 (mN (sI (sI (sI M 102 s0.toNatClampNeg 101) 102 ((7 : Int32).toNatClampNeg) 101) 102 ((8 : Int32).toNatClampNeg) 107) 102) ∧ (vp_in 10 (mN (sI (sI (sI (sI M 102 s0.toNatClampNeg 101) 102 ((7 : Int32).toNatClampNeg) 101) 102 ((8 : Int32).toNatClampNeg) 107) 102 ((9 : Int32).toNatClampNeg) 100) 102) ∧ (vp_in 11 (mN (sI (sI (sI (sI (sI M 102 s0.toNatClampNeg 101) 102 ((7 : Int32).toNatClampNeg) 101) 102 ((8 : Int32).toNatClampNeg) 107) 102 ((9 : Int32).toNatClampNeg) 100) 102 ((10 : Int32).toNatClampNeg) 97) 102) ∧ (vp_in 12 (mN (sI (sI (sI (sI (sI (sI M 102 s0.toNatClampNeg 101) 102 ((7 : Int32).toNatClampNeg) 101) 102 ((8 : Int32).toNatClampNeg) 107) 102 ((9 : Int32).toNatClampNeg) 100) 102 ((10 : Int32).toNatClampNeg) 97) 102 ((11 : Int32).toNatClampNeg) 121) 102) ∧ (∀ M84, M84 = sI (sI (sI (sI (sI (sI (sI M 102 s0.toNatClampNeg 101) 102 ((7 : Int32).toNatClampNeg) 101) 102 ((8 : Int32).toNatClampNeg) 107) 102 ((9 : Int32).toNatClampNeg) 100) 102 ((10 : Int32).toNatClampNeg) 97) 102 ((11 : Int32).toNatClampNeg) 121) 102 ((12 : Int32).toNatClampNeg) 0 → (vp_in 13 (mN M84 102) ∧ (vp_in 14 (mN (sI M84 102 ((13 : Int32).toNatClampNeg) 104) 102) ∧ (vp_in 15 (mN (sI (sI M84 102 ((13 : Int32).toNatClampNeg) 104) 102 ((14 : Int32).toNatClampNeg) 111) 102) ∧ H_X12_init_541 l q 16 (sI (sI (sI M84 102 ((13 : Int32).toNatClampNeg) 104) 102 ((14 : Int32).toNatClampNeg) 111) 102 ((15 : Int32).toNatClampNeg) 117))))))))))))) : H_X12_init_482 l q s0 M := by
  refine e_bipush (v := 101) dX12_init_482 (by decide) ?_
  obtain ⟨o77, h⟩ := h
  refine e_iast rfl o77 dX12_init_484 ?_
  refine e_dup rfl dX12_init_485 ?_
  refine e_bipush (v := 7) dX12_init_486 (by decide) ?_
  refine e_bipush (v := 101) dX12_init_488 (by decide) ?_
  obtain ⟨o78, h⟩ := h
  refine e_iast rfl o78 dX12_init_490 ?_
  refine e_dup rfl dX12_init_491 ?_
  refine e_bipush (v := 8) dX12_init_492 (by decide) ?_
  refine e_bipush (v := 107) dX12_init_494 (by decide) ?_
  obtain ⟨o79, h⟩ := h
  refine e_iast rfl o79 dX12_init_496 ?_
  refine e_dup rfl dX12_init_497 ?_
  refine e_bipush (v := 9) dX12_init_498 (by decide) ?_
  refine e_bipush (v := 100) dX12_init_500 (by decide) ?_
  obtain ⟨o80, h⟩ := h
  refine e_iast rfl o80 dX12_init_502 ?_
  refine e_dup rfl dX12_init_503 ?_
  refine e_bipush (v := 10) dX12_init_504 (by decide) ?_
  refine e_bipush (v := 97) dX12_init_506 (by decide) ?_
  obtain ⟨o81, h⟩ := h
  refine e_iast rfl o81 dX12_init_508 ?_
  refine e_dup rfl dX12_init_509 ?_
  refine e_bipush (v := 11) dX12_init_510 (by decide) ?_
  refine e_bipush (v := 121) dX12_init_512 (by decide) ?_
  obtain ⟨o82, h⟩ := h
  refine e_iast rfl o82 dX12_init_514 ?_
  refine e_dup rfl dX12_init_515 ?_
  refine e_bipush (v := 12) dX12_init_516 (by decide) ?_
  refine e_iconst (v := 0) dX12_init_518 (by decide) ?_
  obtain ⟨o83, h⟩ := h
  refine e_iast rfl o83 dX12_init_519 ?_
  generalize hgM84 : sI (sI (sI (sI (sI (sI (sI M 102 s0.toNatClampNeg 101) 102 ((7 : Int32).toNatClampNeg) 101) 102 ((8 : Int32).toNatClampNeg) 107) 102 ((9 : Int32).toNatClampNeg) 100) 102 ((10 : Int32).toNatClampNeg) 97) 102 ((11 : Int32).toNatClampNeg) 121) 102 ((12 : Int32).toNatClampNeg) 0 = M84
  replace h := h M84 hgM84.symm
  refine e_dup rfl dX12_init_520 ?_
  refine e_bipush (v := 13) dX12_init_521 (by decide) ?_
  refine e_bipush (v := 104) dX12_init_523 (by decide) ?_
  obtain ⟨o85, h⟩ := h
  refine e_iast rfl o85 dX12_init_525 ?_
  refine e_dup rfl dX12_init_526 ?_
  refine e_bipush (v := 14) dX12_init_527 (by decide) ?_
  refine e_bipush (v := 111) dX12_init_529 (by decide) ?_
  obtain ⟨o86, h⟩ := h
  refine e_iast rfl o86 dX12_init_531 ?_
  refine e_dup rfl dX12_init_532 ?_
  refine e_bipush (v := 15) dX12_init_533 (by decide) ?_
  refine e_bipush (v := 117) dX12_init_535 (by decide) ?_
  obtain ⟨o87, h⟩ := h
  refine e_iast rfl o87 dX12_init_537 ?_
  refine e_dup rfl dX12_init_538 ?_
  refine e_bipush (v := 16) dX12_init_539 (by decide) ?_
  exact e_lv (List.forall_mem_cons.mpr ⟨rfl, fun _ h => absurd h List.not_mem_nil⟩) h
theorem w_X12_init_541 (l : Launch) (q : o_M → Prop) (s0 : Int32) (M : o_M) (h : (vp_in s0 (mN M 102) ∧ (vp_in 17 (mN (sI M 102 s0.toNatClampNeg 114) 102) ∧ (vp_in 18 (mN (sI (sI M 102 s0.toNatClampNeg 114) 102 ((17 : Int32).toNatClampNeg) 0) 102) ∧ (vp_in 19 (mN (sI (sI (sI M 102 s0.toNatClampNeg 114) 102 ((17 : Int32).toNatClampNeg) 0) 102 ((18 : Int32).toNatClampNeg) 108) 102) ∧ (vp_in 20 (mN (sI (sI (sI (sI M 102 s0.toNatClampNeg 114) 102 ((17 : Int32).toNatClampNeg) 0) 102 ((18 : Int32).toNatClampNeg) 108) 102 ((19 : Int32).toNatClampNeg) 111) 102) ∧ (vp_in 21 (mN (sI (sI (sI (sI (sI M 102 s0.toNatClampNeg 114) 102 ((17 : Int32).toNatClampNeg) 0) 102 ((18 : Int32).toNatClampNeg) 108) 102 ((19 : Int32).toNatClampNeg) 111) 102 ((20 : Int32).toNatClampNeg) 110) 102) ∧ (vp_in 22 (mN (sI (sI (sI (sI (sI (sI M 102 s0.toNatClampNeg 114) 102 ((17 : Int32).toNatClampNeg) 0) 102 ((18 : Int32).toNatClampNeg) 108) 102 ((19 : Int32).toNatClampNeg) 111) 102 ((20 : Int32).toNatClampNeg) 110) 102 ((21 : Int32).toNatClampNeg) 103) 102) ∧ (∀ M95, M95 = sI (sI (sI (sI (sI (sI (sI M 102 s0.toNatClampNeg 114) 102 ((17 : Int32).toNatClampNeg) 0) 102 ((18 : Int32).toNatClampNeg) 108) 102 ((19 : Int32).toNatClampNeg) 111) 102 ((20 : Int32).toNatClampNeg) 110) 102 ((21 : Int32).toNatClampNeg) 103) 102 ((22 : Int32).toNatClampNeg) 0 → (vp_in 23 (mN M95 102) ∧ (vp_in 24 (mN (sI M95 102 ((23 : Int32).toNatClampNeg) 99) 102) ∧ (vp_in 25 (mN (sI (sI M95 102 ((23 : Int32).toNatClampNeg) 99) 102 ((24 : Int32).toNatClampNeg) 104) 102) ∧ H_X12_init_599 l q 26 (sI (sI (sI M95 102 ((23 : Int32).toNatClampNeg) 99) 102 ((24 : Int32).toNatClampNeg) 104) 102 ((25 : Int32).toNatClampNeg) 97))))))))))))) : H_X12_init_541 l q s0 M := by
  refine e_bipush (v := 114) dX12_init_541 (by decide) ?_
  obtain ⟨o88, h⟩ := h
  refine e_iast rfl o88 dX12_init_543 ?_
  refine e_dup rfl dX12_init_544 ?_
  refine e_bipush (v := 17) dX12_init_545 (by decide) ?_
  refine e_iconst (v := 0) dX12_init_547 (by decide) ?_
  obtain ⟨o89, h⟩ := h
  refine e_iast rfl o89 dX12_init_548 ?_
  refine e_dup rfl dX12_init_549 ?_
  refine e_bipush (v := 18) dX12_init_550 (by decide) ?_
  refine e_bipush (v := 108) dX12_init_552 (by decide) ?_
  obtain ⟨o90, h⟩ := h
  refine e_iast rfl o90 dX12_init_554 ?_
  refine e_dup rfl dX12_init_555 ?_
  refine e_bipush (v := 19) dX12_init_556 (by decide) ?_
  refine e_bipush (v := 111) dX12_init_558 (by decide) ?_
  obtain ⟨o91, h⟩ := h
  refine e_iast rfl o91 dX12_init_560 ?_
  refine e_dup rfl dX12_init_561 ?_
  refine e_bipush (v := 20) dX12_init_562 (by decide) ?_
  refine e_bipush (v := 110) dX12_init_564 (by decide) ?_
  obtain ⟨o92, h⟩ := h
  refine e_iast rfl o92 dX12_init_566 ?_
  refine e_dup rfl dX12_init_567 ?_
  refine e_bipush (v := 21) dX12_init_568 (by decide) ?_
  refine e_bipush (v := 103) dX12_init_570 (by decide) ?_
  obtain ⟨o93, h⟩ := h
  refine e_iast rfl o93 dX12_init_572 ?_
  refine e_dup rfl dX12_init_573 ?_
  refine e_bipush (v := 22) dX12_init_574 (by decide) ?_
  refine e_iconst (v := 0) dX12_init_576 (by decide) ?_
  obtain ⟨o94, h⟩ := h
  refine e_iast rfl o94 dX12_init_577 ?_
  generalize hgM95 : sI (sI (sI (sI (sI (sI (sI M 102 s0.toNatClampNeg 114) 102 ((17 : Int32).toNatClampNeg) 0) 102 ((18 : Int32).toNatClampNeg) 108) 102 ((19 : Int32).toNatClampNeg) 111) 102 ((20 : Int32).toNatClampNeg) 110) 102 ((21 : Int32).toNatClampNeg) 103) 102 ((22 : Int32).toNatClampNeg) 0 = M95
  replace h := h M95 hgM95.symm
  refine e_dup rfl dX12_init_578 ?_
  refine e_bipush (v := 23) dX12_init_579 (by decide) ?_
  refine e_bipush (v := 99) dX12_init_581 (by decide) ?_
  obtain ⟨o96, h⟩ := h
  refine e_iast rfl o96 dX12_init_583 ?_
  refine e_dup rfl dX12_init_584 ?_
  refine e_bipush (v := 24) dX12_init_585 (by decide) ?_
  refine e_bipush (v := 104) dX12_init_587 (by decide) ?_
  obtain ⟨o97, h⟩ := h
  refine e_iast rfl o97 dX12_init_589 ?_
  refine e_dup rfl dX12_init_590 ?_
  refine e_bipush (v := 25) dX12_init_591 (by decide) ?_
  refine e_bipush (v := 97) dX12_init_593 (by decide) ?_
  obtain ⟨o98, h⟩ := h
  refine e_iast rfl o98 dX12_init_595 ?_
  refine e_dup rfl dX12_init_596 ?_
  refine e_bipush (v := 26) dX12_init_597 (by decide) ?_
  exact e_lv (List.forall_mem_cons.mpr ⟨rfl, fun _ h => absurd h List.not_mem_nil⟩) h
theorem w_X12_init_599 (l : Launch) (q : o_M → Prop) (s0 : Int32) (M : o_M) (h : (vp_in s0 (mN M 102) ∧ (vp_in 27 (mN (sI M 102 s0.toNatClampNeg 105) 102) ∧ (vp_in 28 (mN (sI (sI M 102 s0.toNatClampNeg 105) 102 ((27 : Int32).toNatClampNeg) 114) 102) ∧ (vp_in 29 (mN (sI (sI (sI M 102 s0.toNatClampNeg 105) 102 ((27 : Int32).toNatClampNeg) 114) 102 ((28 : Int32).toNatClampNeg) 0) 102) ∧ (vp_in 30 (mN (sI (sI (sI (sI M 102 s0.toNatClampNeg 105) 102 ((27 : Int32).toNatClampNeg) 114) 102 ((28 : Int32).toNatClampNeg) 0) 102 ((29 : Int32).toNatClampNeg) 112) 102) ∧ (vp_in 31 (mN (sI (sI (sI (sI (sI M 102 s0.toNatClampNeg 105) 102 ((27 : Int32).toNatClampNeg) 114) 102 ((28 : Int32).toNatClampNeg) 0) 102 ((29 : Int32).toNatClampNeg) 112) 102 ((30 : Int32).toNatClampNeg) 111) 102) ∧ (vp_in 32 (mN (sI (sI (sI (sI (sI (sI M 102 s0.toNatClampNeg 105) 102 ((27 : Int32).toNatClampNeg) 114) 102 ((28 : Int32).toNatClampNeg) 0) 102 ((29 : Int32).toNatClampNeg) 112) 102 ((30 : Int32).toNatClampNeg) 111) 102 ((31 : Int32).toNatClampNeg) 115) 102) ∧ (∀ M106, M106 = sI (sI (sI (sI (sI (sI (sI M 102 s0.toNatClampNeg 105) 102 ((27 : Int32).toNatClampNeg) 114) 102 ((28 : Int32).toNatClampNeg) 0) 102 ((29 : Int32).toNatClampNeg) 112) 102 ((30 : Int32).toNatClampNeg) 111) 102 ((31 : Int32).toNatClampNeg) 115) 102 ((32 : Int32).toNatClampNeg) 116 → (vp_in 33 (mN M106 102) ∧ (vp_in 34 (mN (sI M106 102 ((33 : Int32).toNatClampNeg) 0) 102) ∧ (vp_in 35 (mN (sI (sI M106 102 ((33 : Int32).toNatClampNeg) 0) 102 ((34 : Int32).toNatClampNeg) 100) 102) ∧ H_X12_init_657 l q 36 (sI (sI (sI M106 102 ((33 : Int32).toNatClampNeg) 0) 102 ((34 : Int32).toNatClampNeg) 100) 102 ((35 : Int32).toNatClampNeg) 111))))))))))))) : H_X12_init_599 l q s0 M := by
  refine e_bipush (v := 105) dX12_init_599 (by decide) ?_
  obtain ⟨o99, h⟩ := h
  refine e_iast rfl o99 dX12_init_601 ?_
  refine e_dup rfl dX12_init_602 ?_
  refine e_bipush (v := 27) dX12_init_603 (by decide) ?_
  refine e_bipush (v := 114) dX12_init_605 (by decide) ?_
  obtain ⟨o100, h⟩ := h
  refine e_iast rfl o100 dX12_init_607 ?_
  refine e_dup rfl dX12_init_608 ?_
  refine e_bipush (v := 28) dX12_init_609 (by decide) ?_
  refine e_iconst (v := 0) dX12_init_611 (by decide) ?_
  obtain ⟨o101, h⟩ := h
  refine e_iast rfl o101 dX12_init_612 ?_
  refine e_dup rfl dX12_init_613 ?_
  refine e_bipush (v := 29) dX12_init_614 (by decide) ?_
  refine e_bipush (v := 112) dX12_init_616 (by decide) ?_
  obtain ⟨o102, h⟩ := h
  refine e_iast rfl o102 dX12_init_618 ?_
  refine e_dup rfl dX12_init_619 ?_
  refine e_bipush (v := 30) dX12_init_620 (by decide) ?_
  refine e_bipush (v := 111) dX12_init_622 (by decide) ?_
  obtain ⟨o103, h⟩ := h
  refine e_iast rfl o103 dX12_init_624 ?_
  refine e_dup rfl dX12_init_625 ?_
  refine e_bipush (v := 31) dX12_init_626 (by decide) ?_
  refine e_bipush (v := 115) dX12_init_628 (by decide) ?_
  obtain ⟨o104, h⟩ := h
  refine e_iast rfl o104 dX12_init_630 ?_
  refine e_dup rfl dX12_init_631 ?_
  refine e_bipush (v := 32) dX12_init_632 (by decide) ?_
  refine e_bipush (v := 116) dX12_init_634 (by decide) ?_
  obtain ⟨o105, h⟩ := h
  refine e_iast rfl o105 dX12_init_636 ?_
  generalize hgM106 : sI (sI (sI (sI (sI (sI (sI M 102 s0.toNatClampNeg 105) 102 ((27 : Int32).toNatClampNeg) 114) 102 ((28 : Int32).toNatClampNeg) 0) 102 ((29 : Int32).toNatClampNeg) 112) 102 ((30 : Int32).toNatClampNeg) 111) 102 ((31 : Int32).toNatClampNeg) 115) 102 ((32 : Int32).toNatClampNeg) 116 = M106
  replace h := h M106 hgM106.symm
  refine e_dup rfl dX12_init_637 ?_
  refine e_bipush (v := 33) dX12_init_638 (by decide) ?_
  refine e_iconst (v := 0) dX12_init_640 (by decide) ?_
  obtain ⟨o107, h⟩ := h
  refine e_iast rfl o107 dX12_init_641 ?_
  refine e_dup rfl dX12_init_642 ?_
  refine e_bipush (v := 34) dX12_init_643 (by decide) ?_
  refine e_bipush (v := 100) dX12_init_645 (by decide) ?_
  obtain ⟨o108, h⟩ := h
  refine e_iast rfl o108 dX12_init_647 ?_
  refine e_dup rfl dX12_init_648 ?_
  refine e_bipush (v := 35) dX12_init_649 (by decide) ?_
  refine e_bipush (v := 111) dX12_init_651 (by decide) ?_
  obtain ⟨o109, h⟩ := h
  refine e_iast rfl o109 dX12_init_653 ?_
  refine e_dup rfl dX12_init_654 ?_
  refine e_bipush (v := 36) dX12_init_655 (by decide) ?_
  exact e_lv (List.forall_mem_cons.mpr ⟨rfl, fun _ h => absurd h List.not_mem_nil⟩) h
theorem w_X12_init_657 (l : Launch) (q : o_M → Prop) (s0 : Int32) (M : o_M) (h : (vp_in s0 (mN M 102) ∧ (vp_in 37 (mN (sI M 102 s0.toNatClampNeg 117) 102) ∧ (vp_in 38 (mN (sI (sI M 102 s0.toNatClampNeg 117) 102 ((37 : Int32).toNatClampNeg) 98) 102) ∧ (vp_in 39 (mN (sI (sI (sI M 102 s0.toNatClampNeg 117) 102 ((37 : Int32).toNatClampNeg) 98) 102 ((38 : Int32).toNatClampNeg) 108) 102) ∧ (vp_in 40 (mN (sI (sI (sI (sI M 102 s0.toNatClampNeg 117) 102 ((37 : Int32).toNatClampNeg) 98) 102 ((38 : Int32).toNatClampNeg) 108) 102 ((39 : Int32).toNatClampNeg) 101) 102) ∧ (vp_in 41 (mN (sI (sI (sI (sI (sI M 102 s0.toNatClampNeg 117) 102 ((37 : Int32).toNatClampNeg) 98) 102 ((38 : Int32).toNatClampNeg) 108) 102 ((39 : Int32).toNatClampNeg) 101) 102 ((40 : Int32).toNatClampNeg) 0) 102) ∧ (vp_in 42 (mN (sI (sI (sI (sI (sI (sI M 102 s0.toNatClampNeg 117) 102 ((37 : Int32).toNatClampNeg) 98) 102 ((38 : Int32).toNatClampNeg) 108) 102 ((39 : Int32).toNatClampNeg) 101) 102 ((40 : Int32).toNatClampNeg) 0) 102 ((41 : Int32).toNatClampNeg) 100) 102) ∧ (∀ M117, M117 = sI (sI (sI (sI (sI (sI (sI M 102 s0.toNatClampNeg 117) 102 ((37 : Int32).toNatClampNeg) 98) 102 ((38 : Int32).toNatClampNeg) 108) 102 ((39 : Int32).toNatClampNeg) 101) 102 ((40 : Int32).toNatClampNeg) 0) 102 ((41 : Int32).toNatClampNeg) 100) 102 ((42 : Int32).toNatClampNeg) 101 → (vp_in 43 (mN M117 102) ∧ (vp_in 44 (mN (sI M117 102 ((43 : Int32).toNatClampNeg) 115) 102) ∧ (vp_in 45 (mN (sI (sI M117 102 ((43 : Int32).toNatClampNeg) 115) 102 ((44 : Int32).toNatClampNeg) 107) 102) ∧ H_X12_init_715 l q 46 (sI (sI (sI M117 102 ((43 : Int32).toNatClampNeg) 115) 102 ((44 : Int32).toNatClampNeg) 107) 102 ((45 : Int32).toNatClampNeg) 0))))))))))))) : H_X12_init_657 l q s0 M := by
  refine e_bipush (v := 117) dX12_init_657 (by decide) ?_
  obtain ⟨o110, h⟩ := h
  refine e_iast rfl o110 dX12_init_659 ?_
  refine e_dup rfl dX12_init_660 ?_
  refine e_bipush (v := 37) dX12_init_661 (by decide) ?_
  refine e_bipush (v := 98) dX12_init_663 (by decide) ?_
  obtain ⟨o111, h⟩ := h
  refine e_iast rfl o111 dX12_init_665 ?_
  refine e_dup rfl dX12_init_666 ?_
  refine e_bipush (v := 38) dX12_init_667 (by decide) ?_
  refine e_bipush (v := 108) dX12_init_669 (by decide) ?_
  obtain ⟨o112, h⟩ := h
  refine e_iast rfl o112 dX12_init_671 ?_
  refine e_dup rfl dX12_init_672 ?_
  refine e_bipush (v := 39) dX12_init_673 (by decide) ?_
  refine e_bipush (v := 101) dX12_init_675 (by decide) ?_
  obtain ⟨o113, h⟩ := h
  refine e_iast rfl o113 dX12_init_677 ?_
  refine e_dup rfl dX12_init_678 ?_
  refine e_bipush (v := 40) dX12_init_679 (by decide) ?_
  refine e_iconst (v := 0) dX12_init_681 (by decide) ?_
  obtain ⟨o114, h⟩ := h
  refine e_iast rfl o114 dX12_init_682 ?_
  refine e_dup rfl dX12_init_683 ?_
  refine e_bipush (v := 41) dX12_init_684 (by decide) ?_
  refine e_bipush (v := 100) dX12_init_686 (by decide) ?_
  obtain ⟨o115, h⟩ := h
  refine e_iast rfl o115 dX12_init_688 ?_
  refine e_dup rfl dX12_init_689 ?_
  refine e_bipush (v := 42) dX12_init_690 (by decide) ?_
  refine e_bipush (v := 101) dX12_init_692 (by decide) ?_
  obtain ⟨o116, h⟩ := h
  refine e_iast rfl o116 dX12_init_694 ?_
  generalize hgM117 : sI (sI (sI (sI (sI (sI (sI M 102 s0.toNatClampNeg 117) 102 ((37 : Int32).toNatClampNeg) 98) 102 ((38 : Int32).toNatClampNeg) 108) 102 ((39 : Int32).toNatClampNeg) 101) 102 ((40 : Int32).toNatClampNeg) 0) 102 ((41 : Int32).toNatClampNeg) 100) 102 ((42 : Int32).toNatClampNeg) 101 = M117
  replace h := h M117 hgM117.symm
  refine e_dup rfl dX12_init_695 ?_
  refine e_bipush (v := 43) dX12_init_696 (by decide) ?_
  refine e_bipush (v := 115) dX12_init_698 (by decide) ?_
  obtain ⟨o118, h⟩ := h
  refine e_iast rfl o118 dX12_init_700 ?_
  refine e_dup rfl dX12_init_701 ?_
  refine e_bipush (v := 44) dX12_init_702 (by decide) ?_
  refine e_bipush (v := 107) dX12_init_704 (by decide) ?_
  obtain ⟨o119, h⟩ := h
  refine e_iast rfl o119 dX12_init_706 ?_
  refine e_dup rfl dX12_init_707 ?_
  refine e_bipush (v := 45) dX12_init_708 (by decide) ?_
  refine e_iconst (v := 0) dX12_init_710 (by decide) ?_
  obtain ⟨o120, h⟩ := h
  refine e_iast rfl o120 dX12_init_711 ?_
  refine e_dup rfl dX12_init_712 ?_
  refine e_bipush (v := 46) dX12_init_713 (by decide) ?_
  exact e_lv (List.forall_mem_cons.mpr ⟨rfl, fun _ h => absurd h List.not_mem_nil⟩) h
theorem w_X12_init_715 (l : Launch) (q : o_M → Prop) (s0 : Int32) (M : o_M) (h : (vp_in s0 (mN M 102) ∧ (vp_in 47 (mN (sI M 102 s0.toNatClampNeg 119) 102) ∧ (vp_in 48 (mN (sI (sI M 102 s0.toNatClampNeg 119) 102 ((47 : Int32).toNatClampNeg) 101) 102) ∧ (vp_in 49 (mN (sI (sI (sI M 102 s0.toNatClampNeg 119) 102 ((47 : Int32).toNatClampNeg) 101) 102 ((48 : Int32).toNatClampNeg) 101) 102) ∧ (vp_in 50 (mN (sI (sI (sI (sI M 102 s0.toNatClampNeg 119) 102 ((47 : Int32).toNatClampNeg) 101) 102 ((48 : Int32).toNatClampNeg) 101) 102 ((49 : Int32).toNatClampNeg) 107) 102) ∧ (vp_in 51 (mN (sI (sI (sI (sI (sI M 102 s0.toNatClampNeg 119) 102 ((47 : Int32).toNatClampNeg) 101) 102 ((48 : Int32).toNatClampNeg) 101) 102 ((49 : Int32).toNatClampNeg) 107) 102 ((50 : Int32).toNatClampNeg) 0) 102) ∧ (vp_in 52 (mN (sI (sI (sI (sI (sI (sI M 102 s0.toNatClampNeg 119) 102 ((47 : Int32).toNatClampNeg) 101) 102 ((48 : Int32).toNatClampNeg) 101) 102 ((49 : Int32).toNatClampNeg) 107) 102 ((50 : Int32).toNatClampNeg) 0) 102 ((51 : Int32).toNatClampNeg) 114) 102) ∧ (∀ M128, M128 = sI (sI (sI (sI (sI (sI (sI M 102 s0.toNatClampNeg 119) 102 ((47 : Int32).toNatClampNeg) 101) 102 ((48 : Int32).toNatClampNeg) 101) 102 ((49 : Int32).toNatClampNeg) 107) 102 ((50 : Int32).toNatClampNeg) 0) 102 ((51 : Int32).toNatClampNeg) 114) 102 ((52 : Int32).toNatClampNeg) 101 → (vp_in 53 (mN M128 102) ∧ (vp_in 54 (mN (sI M128 102 ((53 : Int32).toNatClampNeg) 115) 102) ∧ (vp_in 55 (mN (sI (sI M128 102 ((53 : Int32).toNatClampNeg) 115) 102 ((54 : Int32).toNatClampNeg) 116) 102) ∧ H_X12_init_773 l q 56 (sI (sI (sI M128 102 ((53 : Int32).toNatClampNeg) 115) 102 ((54 : Int32).toNatClampNeg) 116) 102 ((55 : Int32).toNatClampNeg) 0))))))))))))) : H_X12_init_715 l q s0 M := by
  refine e_bipush (v := 119) dX12_init_715 (by decide) ?_
  obtain ⟨o121, h⟩ := h
  refine e_iast rfl o121 dX12_init_717 ?_
  refine e_dup rfl dX12_init_718 ?_
  refine e_bipush (v := 47) dX12_init_719 (by decide) ?_
  refine e_bipush (v := 101) dX12_init_721 (by decide) ?_
  obtain ⟨o122, h⟩ := h
  refine e_iast rfl o122 dX12_init_723 ?_
  refine e_dup rfl dX12_init_724 ?_
  refine e_bipush (v := 48) dX12_init_725 (by decide) ?_
  refine e_bipush (v := 101) dX12_init_727 (by decide) ?_
  obtain ⟨o123, h⟩ := h
  refine e_iast rfl o123 dX12_init_729 ?_
  refine e_dup rfl dX12_init_730 ?_
  refine e_bipush (v := 49) dX12_init_731 (by decide) ?_
  refine e_bipush (v := 107) dX12_init_733 (by decide) ?_
  obtain ⟨o124, h⟩ := h
  refine e_iast rfl o124 dX12_init_735 ?_
  refine e_dup rfl dX12_init_736 ?_
  refine e_bipush (v := 50) dX12_init_737 (by decide) ?_
  refine e_iconst (v := 0) dX12_init_739 (by decide) ?_
  obtain ⟨o125, h⟩ := h
  refine e_iast rfl o125 dX12_init_740 ?_
  refine e_dup rfl dX12_init_741 ?_
  refine e_bipush (v := 51) dX12_init_742 (by decide) ?_
  refine e_bipush (v := 114) dX12_init_744 (by decide) ?_
  obtain ⟨o126, h⟩ := h
  refine e_iast rfl o126 dX12_init_746 ?_
  refine e_dup rfl dX12_init_747 ?_
  refine e_bipush (v := 52) dX12_init_748 (by decide) ?_
  refine e_bipush (v := 101) dX12_init_750 (by decide) ?_
  obtain ⟨o127, h⟩ := h
  refine e_iast rfl o127 dX12_init_752 ?_
  generalize hgM128 : sI (sI (sI (sI (sI (sI (sI M 102 s0.toNatClampNeg 119) 102 ((47 : Int32).toNatClampNeg) 101) 102 ((48 : Int32).toNatClampNeg) 101) 102 ((49 : Int32).toNatClampNeg) 107) 102 ((50 : Int32).toNatClampNeg) 0) 102 ((51 : Int32).toNatClampNeg) 114) 102 ((52 : Int32).toNatClampNeg) 101 = M128
  replace h := h M128 hgM128.symm
  refine e_dup rfl dX12_init_753 ?_
  refine e_bipush (v := 53) dX12_init_754 (by decide) ?_
  refine e_bipush (v := 115) dX12_init_756 (by decide) ?_
  obtain ⟨o129, h⟩ := h
  refine e_iast rfl o129 dX12_init_758 ?_
  refine e_dup rfl dX12_init_759 ?_
  refine e_bipush (v := 54) dX12_init_760 (by decide) ?_
  refine e_bipush (v := 116) dX12_init_762 (by decide) ?_
  obtain ⟨o130, h⟩ := h
  refine e_iast rfl o130 dX12_init_764 ?_
  refine e_dup rfl dX12_init_765 ?_
  refine e_bipush (v := 55) dX12_init_766 (by decide) ?_
  refine e_iconst (v := 0) dX12_init_768 (by decide) ?_
  obtain ⟨o131, h⟩ := h
  refine e_iast rfl o131 dX12_init_769 ?_
  refine e_dup rfl dX12_init_770 ?_
  refine e_bipush (v := 56) dX12_init_771 (by decide) ?_
  exact e_lv (List.forall_mem_cons.mpr ⟨rfl, fun _ h => absurd h List.not_mem_nil⟩) h
theorem w_X12_init_773 (l : Launch) (q : o_M → Prop) (s0 : Int32) (M : o_M) (h : (vp_in s0 (mN M 102) ∧ (vp_in 57 (mN (sI M 102 s0.toNatClampNeg 98) 102) ∧ (vp_in 58 (mN (sI (sI M 102 s0.toNatClampNeg 98) 102 ((57 : Int32).toNatClampNeg) 97) 102) ∧ (vp_in 59 (mN (sI (sI (sI M 102 s0.toNatClampNeg 98) 102 ((57 : Int32).toNatClampNeg) 97) 102 ((58 : Int32).toNatClampNeg) 114) 102) ∧ (vp_in 60 (mN (sI (sI (sI (sI M 102 s0.toNatClampNeg 98) 102 ((57 : Int32).toNatClampNeg) 97) 102 ((58 : Int32).toNatClampNeg) 114) 102 ((59 : Int32).toNatClampNeg) 0) 102) ∧ (vp_in 61 (mN (sI (sI (sI (sI (sI M 102 s0.toNatClampNeg 98) 102 ((57 : Int32).toNatClampNeg) 97) 102 ((58 : Int32).toNatClampNeg) 114) 102 ((59 : Int32).toNatClampNeg) 0) 102 ((60 : Int32).toNatClampNeg) 99) 102) ∧ (vp_in 62 (mN (sI (sI (sI (sI (sI (sI M 102 s0.toNatClampNeg 98) 102 ((57 : Int32).toNatClampNeg) 97) 102 ((58 : Int32).toNatClampNeg) 114) 102 ((59 : Int32).toNatClampNeg) 0) 102 ((60 : Int32).toNatClampNeg) 99) 102 ((61 : Int32).toNatClampNeg) 111) 102) ∧ (∀ M139, M139 = sI (sI (sI (sI (sI (sI (sI M 102 s0.toNatClampNeg 98) 102 ((57 : Int32).toNatClampNeg) 97) 102 ((58 : Int32).toNatClampNeg) 114) 102 ((59 : Int32).toNatClampNeg) 0) 102 ((60 : Int32).toNatClampNeg) 99) 102 ((61 : Int32).toNatClampNeg) 111) 102 ((62 : Int32).toNatClampNeg) 117 → (vp_in 63 (mN M139 102) ∧ (vp_in 64 (mN (sI M139 102 ((63 : Int32).toNatClampNeg) 110) 102) ∧ (vp_in 65 (mN (sI (sI M139 102 ((63 : Int32).toNatClampNeg) 110) 102 ((64 : Int32).toNatClampNeg) 116) 102) ∧ H_X12_init_831 l q 66 (sI (sI (sI M139 102 ((63 : Int32).toNatClampNeg) 110) 102 ((64 : Int32).toNatClampNeg) 116) 102 ((65 : Int32).toNatClampNeg) 0))))))))))))) : H_X12_init_773 l q s0 M := by
  refine e_bipush (v := 98) dX12_init_773 (by decide) ?_
  obtain ⟨o132, h⟩ := h
  refine e_iast rfl o132 dX12_init_775 ?_
  refine e_dup rfl dX12_init_776 ?_
  refine e_bipush (v := 57) dX12_init_777 (by decide) ?_
  refine e_bipush (v := 97) dX12_init_779 (by decide) ?_
  obtain ⟨o133, h⟩ := h
  refine e_iast rfl o133 dX12_init_781 ?_
  refine e_dup rfl dX12_init_782 ?_
  refine e_bipush (v := 58) dX12_init_783 (by decide) ?_
  refine e_bipush (v := 114) dX12_init_785 (by decide) ?_
  obtain ⟨o134, h⟩ := h
  refine e_iast rfl o134 dX12_init_787 ?_
  refine e_dup rfl dX12_init_788 ?_
  refine e_bipush (v := 59) dX12_init_789 (by decide) ?_
  refine e_iconst (v := 0) dX12_init_791 (by decide) ?_
  obtain ⟨o135, h⟩ := h
  refine e_iast rfl o135 dX12_init_792 ?_
  refine e_dup rfl dX12_init_793 ?_
  refine e_bipush (v := 60) dX12_init_794 (by decide) ?_
  refine e_bipush (v := 99) dX12_init_796 (by decide) ?_
  obtain ⟨o136, h⟩ := h
  refine e_iast rfl o136 dX12_init_798 ?_
  refine e_dup rfl dX12_init_799 ?_
  refine e_bipush (v := 61) dX12_init_800 (by decide) ?_
  refine e_bipush (v := 111) dX12_init_802 (by decide) ?_
  obtain ⟨o137, h⟩ := h
  refine e_iast rfl o137 dX12_init_804 ?_
  refine e_dup rfl dX12_init_805 ?_
  refine e_bipush (v := 62) dX12_init_806 (by decide) ?_
  refine e_bipush (v := 117) dX12_init_808 (by decide) ?_
  obtain ⟨o138, h⟩ := h
  refine e_iast rfl o138 dX12_init_810 ?_
  generalize hgM139 : sI (sI (sI (sI (sI (sI (sI M 102 s0.toNatClampNeg 98) 102 ((57 : Int32).toNatClampNeg) 97) 102 ((58 : Int32).toNatClampNeg) 114) 102 ((59 : Int32).toNatClampNeg) 0) 102 ((60 : Int32).toNatClampNeg) 99) 102 ((61 : Int32).toNatClampNeg) 111) 102 ((62 : Int32).toNatClampNeg) 117 = M139
  replace h := h M139 hgM139.symm
  refine e_dup rfl dX12_init_811 ?_
  refine e_bipush (v := 63) dX12_init_812 (by decide) ?_
  refine e_bipush (v := 110) dX12_init_814 (by decide) ?_
  obtain ⟨o140, h⟩ := h
  refine e_iast rfl o140 dX12_init_816 ?_
  refine e_dup rfl dX12_init_817 ?_
  refine e_bipush (v := 64) dX12_init_818 (by decide) ?_
  refine e_bipush (v := 116) dX12_init_820 (by decide) ?_
  obtain ⟨o141, h⟩ := h
  refine e_iast rfl o141 dX12_init_822 ?_
  refine e_dup rfl dX12_init_823 ?_
  refine e_bipush (v := 65) dX12_init_824 (by decide) ?_
  refine e_iconst (v := 0) dX12_init_826 (by decide) ?_
  obtain ⟨o142, h⟩ := h
  refine e_iast rfl o142 dX12_init_827 ?_
  refine e_dup rfl dX12_init_828 ?_
  refine e_bipush (v := 66) dX12_init_829 (by decide) ?_
  exact e_lv (List.forall_mem_cons.mpr ⟨rfl, fun _ h => absurd h List.not_mem_nil⟩) h
theorem w_X12_init_831 (l : Launch) (q : o_M → Prop) (s0 : Int32) (M : o_M) (h : (vp_in s0 (mN M 102) ∧ (vp_in 67 (mN (sI M 102 s0.toNatClampNeg 112) 102) ∧ (vp_in 68 (mN (sI (sI M 102 s0.toNatClampNeg 112) 102 ((67 : Int32).toNatClampNeg) 97) 102) ∧ (vp_in 69 (mN (sI (sI (sI M 102 s0.toNatClampNeg 112) 102 ((67 : Int32).toNatClampNeg) 97) 102 ((68 : Int32).toNatClampNeg) 121) 102) ∧ (vp_in 70 (mN (sI (sI (sI (sI M 102 s0.toNatClampNeg 112) 102 ((67 : Int32).toNatClampNeg) 97) 102 ((68 : Int32).toNatClampNeg) 121) 102 ((69 : Int32).toNatClampNeg) 0) 102) ∧ (vp_in 71 (mN (sI (sI (sI (sI (sI M 102 s0.toNatClampNeg 112) 102 ((67 : Int32).toNatClampNeg) 97) 102 ((68 : Int32).toNatClampNeg) 121) 102 ((69 : Int32).toNatClampNeg) 0) 102 ((70 : Int32).toNatClampNeg) 111) 102) ∧ (vp_in 72 (mN (sI (sI (sI (sI (sI (sI M 102 s0.toNatClampNeg 112) 102 ((67 : Int32).toNatClampNeg) 97) 102 ((68 : Int32).toNatClampNeg) 121) 102 ((69 : Int32).toNatClampNeg) 0) 102 ((70 : Int32).toNatClampNeg) 111) 102 ((71 : Int32).toNatClampNeg) 114) 102) ∧ (∀ M150, M150 = sI (sI (sI (sI (sI (sI (sI M 102 s0.toNatClampNeg 112) 102 ((67 : Int32).toNatClampNeg) 97) 102 ((68 : Int32).toNatClampNeg) 121) 102 ((69 : Int32).toNatClampNeg) 0) 102 ((70 : Int32).toNatClampNeg) 111) 102 ((71 : Int32).toNatClampNeg) 114) 102 ((72 : Int32).toNatClampNeg) 0 → (vp_in 73 (mN M150 102) ∧ (vp_in 74 (mN (sI M150 102 ((73 : Int32).toNatClampNeg) 97) 102) ∧ (vp_in 75 (mN (sI (sI M150 102 ((73 : Int32).toNatClampNeg) 97) 102 ((74 : Int32).toNatClampNeg) 110) 102) ∧ H_X12_init_889 l q 76 (sI (sI (sI M150 102 ((73 : Int32).toNatClampNeg) 97) 102 ((74 : Int32).toNatClampNeg) 110) 102 ((75 : Int32).toNatClampNeg) 100))))))))))))) : H_X12_init_831 l q s0 M := by
  refine e_bipush (v := 112) dX12_init_831 (by decide) ?_
  obtain ⟨o143, h⟩ := h
  refine e_iast rfl o143 dX12_init_833 ?_
  refine e_dup rfl dX12_init_834 ?_
  refine e_bipush (v := 67) dX12_init_835 (by decide) ?_
  refine e_bipush (v := 97) dX12_init_837 (by decide) ?_
  obtain ⟨o144, h⟩ := h
  refine e_iast rfl o144 dX12_init_839 ?_
  refine e_dup rfl dX12_init_840 ?_
  refine e_bipush (v := 68) dX12_init_841 (by decide) ?_
  refine e_bipush (v := 121) dX12_init_843 (by decide) ?_
  obtain ⟨o145, h⟩ := h
  refine e_iast rfl o145 dX12_init_845 ?_
  refine e_dup rfl dX12_init_846 ?_
  refine e_bipush (v := 69) dX12_init_847 (by decide) ?_
  refine e_iconst (v := 0) dX12_init_849 (by decide) ?_
  obtain ⟨o146, h⟩ := h
  refine e_iast rfl o146 dX12_init_850 ?_
  refine e_dup rfl dX12_init_851 ?_
  refine e_bipush (v := 70) dX12_init_852 (by decide) ?_
  refine e_bipush (v := 111) dX12_init_854 (by decide) ?_
  obtain ⟨o147, h⟩ := h
  refine e_iast rfl o147 dX12_init_856 ?_
  refine e_dup rfl dX12_init_857 ?_
  refine e_bipush (v := 71) dX12_init_858 (by decide) ?_
  refine e_bipush (v := 114) dX12_init_860 (by decide) ?_
  obtain ⟨o148, h⟩ := h
  refine e_iast rfl o148 dX12_init_862 ?_
  refine e_dup rfl dX12_init_863 ?_
  refine e_bipush (v := 72) dX12_init_864 (by decide) ?_
  refine e_iconst (v := 0) dX12_init_866 (by decide) ?_
  obtain ⟨o149, h⟩ := h
  refine e_iast rfl o149 dX12_init_867 ?_
  generalize hgM150 : sI (sI (sI (sI (sI (sI (sI M 102 s0.toNatClampNeg 112) 102 ((67 : Int32).toNatClampNeg) 97) 102 ((68 : Int32).toNatClampNeg) 121) 102 ((69 : Int32).toNatClampNeg) 0) 102 ((70 : Int32).toNatClampNeg) 111) 102 ((71 : Int32).toNatClampNeg) 114) 102 ((72 : Int32).toNatClampNeg) 0 = M150
  replace h := h M150 hgM150.symm
  refine e_dup rfl dX12_init_868 ?_
  refine e_bipush (v := 73) dX12_init_869 (by decide) ?_
  refine e_bipush (v := 97) dX12_init_871 (by decide) ?_
  obtain ⟨o151, h⟩ := h
  refine e_iast rfl o151 dX12_init_873 ?_
  refine e_dup rfl dX12_init_874 ?_
  refine e_bipush (v := 74) dX12_init_875 (by decide) ?_
  refine e_bipush (v := 110) dX12_init_877 (by decide) ?_
  obtain ⟨o152, h⟩ := h
  refine e_iast rfl o152 dX12_init_879 ?_
  refine e_dup rfl dX12_init_880 ?_
  refine e_bipush (v := 75) dX12_init_881 (by decide) ?_
  refine e_bipush (v := 100) dX12_init_883 (by decide) ?_
  obtain ⟨o153, h⟩ := h
  refine e_iast rfl o153 dX12_init_885 ?_
  refine e_dup rfl dX12_init_886 ?_
  refine e_bipush (v := 76) dX12_init_887 (by decide) ?_
  exact e_lv (List.forall_mem_cons.mpr ⟨rfl, fun _ h => absurd h List.not_mem_nil⟩) h
theorem w_X12_init_889 (l : Launch) (q : o_M → Prop) (s0 : Int32) (M : o_M) (h : (vp_in s0 (mN M 102) ∧ (vp_in 77 (mN (sI M 102 s0.toNatClampNeg 0) 102) ∧ (vp_in 78 (mN (sI (sI M 102 s0.toNatClampNeg 0) 102 ((77 : Int32).toNatClampNeg) 110) 102) ∧ (vp_in 79 (mN (sI (sI (sI M 102 s0.toNatClampNeg 0) 102 ((77 : Int32).toNatClampNeg) 110) 102 ((78 : Int32).toNatClampNeg) 111) 102) ∧ (vp_in 80 (mN (sI (sI (sI (sI M 102 s0.toNatClampNeg 0) 102 ((77 : Int32).toNatClampNeg) 110) 102 ((78 : Int32).toNatClampNeg) 111) 102 ((79 : Int32).toNatClampNeg) 116) 102) ∧ (111 ∉ mL (sR (sI (sI (sI (sI (sI M 102 s0.toNatClampNeg 0) 102 ((77 : Int32).toNatClampNeg) 110) 102 ((78 : Int32).toNatClampNeg) 111) 102 ((79 : Int32).toNatClampNeg) 116) 102 ((80 : Int32).toNatClampNeg) 0) 60 41 (some 102)) ∧ (112 ∉ mL (sR (nW (sR (sI (sI (sI (sI (sI M 102 s0.toNatClampNeg 0) 102 ((77 : Int32).toNatClampNeg) 110) 102 ((78 : Int32).toNatClampNeg) 111) 102 ((79 : Int32).toNatClampNeg) 116) 102 ((80 : Int32).toNatClampNeg) 0) 60 41 (some 102)) 111 320) 60 50 (some 111)) ∧ (∀ M161, M161 = nW (sR (nW (sR (sI (sI (sI (sI (sI M 102 s0.toNatClampNeg 0) 102 ((77 : Int32).toNatClampNeg) 110) 102 ((78 : Int32).toNatClampNeg) 111) 102 ((79 : Int32).toNatClampNeg) 116) 102 ((80 : Int32).toNatClampNeg) 0) 60 41 (some 102)) 111 320) 60 50 (some 111)) 112 120 → (113 ∉ mL (sR M161 60 51 (some 112)) ∧ (114 ∉ mL (sR (nW (sR M161 60 51 (some 112)) 113 13312) 60 52 (some 113)) ∧ (115 ∉ mL (sR (nW (sR (nW (sR M161 60 51 (some 112)) 113 13312) 60 52 (some 113)) 114 12) 60 53 (some 114)) ∧ H_X12_init_959 l q (sR (nW (sR (nW (sR (nW (sR M161 60 51 (some 112)) 113 13312) 60 52 (some 113)) 114 12) 60 53 (some 114)) 115 5) 60 54 (some 115)))))))))))))) : H_X12_init_889 l q s0 M := by
  refine e_iconst (v := 0) dX12_init_889 (by decide) ?_
  obtain ⟨o154, h⟩ := h
  refine e_iast rfl o154 dX12_init_890 ?_
  refine e_dup rfl dX12_init_891 ?_
  refine e_bipush (v := 77) dX12_init_892 (by decide) ?_
  refine e_bipush (v := 110) dX12_init_894 (by decide) ?_
  obtain ⟨o155, h⟩ := h
  refine e_iast rfl o155 dX12_init_896 ?_
  refine e_dup rfl dX12_init_897 ?_
  refine e_bipush (v := 78) dX12_init_898 (by decide) ?_
  refine e_bipush (v := 111) dX12_init_900 (by decide) ?_
  obtain ⟨o156, h⟩ := h
  refine e_iast rfl o156 dX12_init_902 ?_
  refine e_dup rfl dX12_init_903 ?_
  refine e_bipush (v := 79) dX12_init_904 (by decide) ?_
  refine e_bipush (v := 116) dX12_init_906 (by decide) ?_
  obtain ⟨o157, h⟩ := h
  refine e_iast rfl o157 dX12_init_908 ?_
  refine e_dup rfl dX12_init_909 ?_
  refine e_bipush (v := 80) dX12_init_910 (by decide) ?_
  refine e_iconst (v := 0) dX12_init_912 (by decide) ?_
  obtain ⟨o158, h⟩ := h
  refine e_iast rfl o158 dX12_init_913 ?_
  refine e_pR flX12_114 rfl (Or.inr ⟨rfl, rfl, rfl, fnX12_114⟩) rfl dX12_init_914 ?_
  refine e_aload_n dX12_init_917 rfl rfl ?_
  refine e_sipush (v := 320) dX12_init_918 (by decide) ?_
  obtain ⟨o159, h⟩ := h
  refine e_newa (N := 320) o159 rfl rfl rfl (by decide) ac_long (by decide) (by decide) (by decide) (by decide) (by decide) dX12_init_921 ?_
  refine e_pR flX12_117 rfl (Or.inr ⟨rfl, rfl, rfl, fnX12_117⟩) rfl dX12_init_923 ?_
  refine e_aload_n dX12_init_926 rfl rfl ?_
  refine e_bipush (v := 120) dX12_init_927 (by decide) ?_
  obtain ⟨o160, h⟩ := h
  refine e_newa (N := 120) o160 rfl rfl rfl (by decide) ac_boolean (by decide) (by decide) (by decide) (by decide) (by decide) dX12_init_929 ?_
  generalize hgM161 : nW (sR (nW (sR (sI (sI (sI (sI (sI M 102 s0.toNatClampNeg 0) 102 ((77 : Int32).toNatClampNeg) 110) 102 ((78 : Int32).toNatClampNeg) 111) 102 ((79 : Int32).toNatClampNeg) 116) 102 ((80 : Int32).toNatClampNeg) 0) 60 41 (some 102)) 111 320) 60 50 (some 111)) 112 120 = M161
  replace h := h M161 hgM161.symm
  refine e_pR flX12_120 rfl (Or.inr ⟨rfl, rfl, rfl, fnX12_120⟩) rfl dX12_init_931 ?_
  refine e_aload_n dX12_init_934 rfl rfl ?_
  refine e_sipush (v := 13312) dX12_init_935 (by decide) ?_
  obtain ⟨o162, h⟩ := h
  refine e_newa (N := 13312) o162 rfl rfl rfl (by decide) ac_int (by decide) (by decide) (by decide) (by decide) (by decide) dX12_init_938 ?_
  refine e_pR flX12_123 rfl (Or.inr ⟨rfl, rfl, rfl, fnX12_123⟩) rfl dX12_init_940 ?_
  refine e_aload_n dX12_init_943 rfl rfl ?_
  refine e_bipush (v := 12) dX12_init_944 (by decide) ?_
  obtain ⟨o163, h⟩ := h
  refine e_newa (N := 12) o163 rfl rfl rfl (by decide) ac_int (by decide) (by decide) (by decide) (by decide) (by decide) dX12_init_946 ?_
  refine e_pR flX12_126 rfl (Or.inr ⟨rfl, rfl, rfl, fnX12_126⟩) rfl dX12_init_948 ?_
  refine e_aload_n dX12_init_951 rfl rfl ?_
  refine e_iconst (v := 5) dX12_init_952 (by decide) ?_
  obtain ⟨o164, h⟩ := h
  refine e_newa (N := 5) o164 rfl rfl rfl (by decide) ac_int (by decide) (by decide) (by decide) (by decide) (by decide) dX12_init_953 ?_
  refine e_pR flX12_129 rfl (Or.inr ⟨rfl, rfl, rfl, fnX12_129⟩) rfl dX12_init_955 ?_
  refine e_aload_n dX12_init_958 rfl rfl ?_
  exact e_lv (List.forall_mem_cons.mpr ⟨rfl, fun _ h => absurd h List.not_mem_nil⟩) h
theorem w_X12_init_959 (l : Launch) (q : o_M → Prop) (M : o_M) (h : (116 ∉ mL M ∧ (117 ∉ mL (sR (nW M 116 5) 60 55 (some 116)) ∧ (118 ∉ mL (sR (nW (sR (nW M 116 5) 60 55 (some 116)) 117 5) 60 56 (some 117)) ∧ H_X12_init_982 l q 0 (sR (nW (sR (nW (sR (nW M 116 5) 60 55 (some 116)) 117 5) 60 56 (some 117)) 118 6) 60 57 (some 118)))))) : H_X12_init_959 l q M := by
  refine e_iconst (v := 5) dX12_init_959 (by decide) ?_
  obtain ⟨o165, h⟩ := h
  refine e_newa (N := 5) o165 rfl rfl rfl (by decide) ac_int (by decide) (by decide) (by decide) (by decide) (by decide) dX12_init_960 ?_
  refine e_pR flX12_132 rfl (Or.inr ⟨rfl, rfl, rfl, fnX12_132⟩) rfl dX12_init_962 ?_
  refine e_aload_n dX12_init_965 rfl rfl ?_
  refine e_iconst (v := 5) dX12_init_966 (by decide) ?_
  obtain ⟨o166, h⟩ := h
  refine e_newa (N := 5) o166 rfl rfl rfl (by decide) ac_int (by decide) (by decide) (by decide) (by decide) (by decide) dX12_init_967 ?_
  refine e_pR flX12_135 rfl (Or.inr ⟨rfl, rfl, rfl, fnX12_135⟩) rfl dX12_init_969 ?_
  refine e_aload_n dX12_init_972 rfl rfl ?_
  refine e_bipush (v := 6) dX12_init_973 (by decide) ?_
  obtain ⟨o167, h⟩ := h
  refine e_newa (N := 6) o167 rfl rfl rfl (by decide) ac_int (by decide) (by decide) (by decide) (by decide) (by decide) dX12_init_975 ?_
  refine e_pR flX12_138 rfl (Or.inr ⟨rfl, rfl, rfl, fnX12_138⟩) rfl dX12_init_977 ?_
  refine e_iconst (v := 0) dX12_init_980 (by decide) ?_
  refine e_istore_n (lv' := [(1, iV 0), (0, rV (some 60))]) dX12_init_981 rfl (by decide) rfl ?_
  exact e_lv (List.forall_mem_cons.mpr ⟨rfl, List.forall_mem_cons.mpr ⟨rfl, fun _ h => absurd h List.not_mem_nil⟩⟩) h
theorem w_X12_init_982 (l : Launch) (q : o_M → Prop) (v1 : Int32) (M : o_M) (h : (mR M 60 40 = some 101 ∧ (((Int32.ofNat (mN M 101)) ≤ v1 → (mR M 60 26 = some 87 ∧ (mR M 60 40 = some 101 ∧ (vp_in 0 (mN M 87) ∧ K_X12_reads l [rV (some 60), iV 0] (sI M 87 ((0 : Int32).toNatClampNeg) (Int32.ofNat (mN M 101))) (fun M173 => H_X12_init_1027 l q 1 M173))))) ∧ (¬ (Int32.ofNat (mN M 101)) ≤ v1 → (mR M 60 27 = some 88 ∧ (mR M 60 40 = some 101 ∧ (vp_in v1 (mN M 101) ∧ (vp_in v1 (mN M 88) ∧ H_X12_init_982 l q (v1 + 1) (sI M 88 v1.toNatClampNeg (mI M 101 v1.toNatClampNeg)))))))))) : H_X12_init_982 l q v1 M := by
  refine e_iload_n dX12_init_982 rfl rfl ?_
  refine e_aload_n dX12_init_983 rfl rfl ?_
  obtain ⟨o168, h⟩ := h
  refine e_gA flX12_111 rfl rfl o168 dX12_init_984 ?_
  refine e_alen rfl (by decide) rfl dX12_init_987 ?_
  refine e_ic_ge (tgt := 1009) dX12_init_988 (by decide) (fun c169 => ?_) (fun c169 => ?_)
  · replace h := h.1 c169
    refine e_aload_n dX12_init_1009 rfl rfl ?_
    obtain ⟨o170, h⟩ := h
    refine e_gA flX12_74 rfl rfl o170 dX12_init_1010 ?_
    refine e_iconst (v := 0) dX12_init_1013 (by decide) ?_
    refine e_aload_n dX12_init_1014 rfl rfl ?_
    obtain ⟨o171, h⟩ := h
    refine e_gA flX12_111 rfl rfl o171 dX12_init_1015 ?_
    refine e_alen rfl (by decide) rfl dX12_init_1018 ?_
    obtain ⟨o172, h⟩ := h
    refine e_iast rfl o172 dX12_init_1019 ?_
    refine e_aload_n dX12_init_1020 rfl rfl ?_
    refine e_iconst (v := 0) dX12_init_1021 (by decide) ?_
    refine e_callV (As := [iV 0]) (st := []) mt_X12_reads in_X12_reads lkX12_141 rfl rfl ⟨by decide, by decide⟩ (Nat.le_of_ble_eq_true rfl) ⟨by decide, by decide⟩ rfl rfl dX12_init_1022 (Ctr.mono h (fun v M173 h => ?_))
    obtain ⟨rfl, h⟩ := h
    show E_X12_init l q 1025 [(0, rV (some 60)), (1, iV v1)] [] M173 43 27229
    refine e_aload_n dX12_init_1025 rfl rfl ?_
    refine e_iconst (v := 1) dX12_init_1026 (by decide) ?_
    exact e_lv (List.forall_mem_cons.mpr ⟨rfl, fun _ h => absurd h List.not_mem_nil⟩) h
  · replace h := h.2 c169
    refine e_aload_n dX12_init_991 rfl rfl ?_
    obtain ⟨o174, h⟩ := h
    refine e_gA flX12_77 rfl rfl o174 dX12_init_992 ?_
    refine e_iload_n dX12_init_995 rfl rfl ?_
    refine e_aload_n dX12_init_996 rfl rfl ?_
    obtain ⟨o175, h⟩ := h
    refine e_gA flX12_111 rfl rfl o175 dX12_init_997 ?_
    refine e_iload_n dX12_init_1000 rfl rfl ?_
    obtain ⟨o176, h⟩ := h
    refine e_iald rfl o176 dX12_init_1001 ?_
    obtain ⟨o177, h⟩ := h
    refine e_iast rfl o177 dX12_init_1002 ?_
    refine e_iinc (v := 1) (lv' := [(1, iV (v1 + 1)), (0, rV (some 60))]) rfl (by decide) (by decide) rfl dX12_init_1003 ?_
    refine e_goto (tgt := 982) dX12_init_1006 (by decide) ?_
    exact e_lv (List.forall_mem_cons.mpr ⟨rfl, List.forall_mem_cons.mpr ⟨rfl, fun _ h => absurd h List.not_mem_nil⟩⟩) h
theorem w_X12_init_1027 (l : Launch) (q : o_M → Prop) (s0 : Int32) (M : o_M) (h : q (sI (sI M 60 25 s0) 60 34 1)) : H_X12_init_1027 l q s0 M := by
  refine e_pI flX12_145 rfl (Or.inl rfl) rfl rfl rfl dX12_init_1027 ?_
  refine e_aload_n dX12_init_1030 rfl rfl ?_
  refine e_iconst (v := 1) dX12_init_1031 (by decide) ?_
  refine e_pI flX12_149 rfl (Or.inl rfl) rfl rfl rfl dX12_init_1032 ?_
  exact e_ret rfl dX12_init_1035 ⟨rfl, h⟩
