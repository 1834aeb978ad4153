/-! walks of methods (printed by program): X1_init X1_minutesBetween X1_nextOrder X2_hasLeave X2_init X3_emitToken X3_init X3_takeNumber X4_init X4_step X5_allow X5_begin X5_init X5_seatOneMore X6_ends X6_init X6_needWith X6_workAt X7_endOf X7_init X7_startOf X9_elementAt X9_holdsKind X9_init X0_choose X11_force X11_forgeDay X11_forgeLaid X11_forgePlace X11_inForce X11_isPuttable X11_isSpan X11_keepReadText X11_learn X11_played X11_player X11_playerTold -/
theorem dX1_init_0 : decode cX1_init 0 = .ok (.aload_n 0, 1) := by decide +kernel
theorem dX1_init_1 : decode cX1_init 1 = .ok (.invokespecial 3, 3) := by decide +kernel
theorem dX1_init_4 : decode cX1_init 4 = .ok (.aload_n 0, 1) := by decide +kernel
theorem dX1_init_5 : decode cX1_init 5 = .ok (.iconst 5, 1) := by decide +kernel
theorem dX1_init_6 : decode cX1_init 6 = .ok (.newarray .int, 2) := by decide +kernel
theorem dX1_init_8 : decode cX1_init 8 = .ok (.putfield 9, 3) := by decide +kernel
theorem dX1_init_11 : decode cX1_init 11 = .ok (.aload_n 0, 1) := by decide +kernel
theorem dX1_init_12 : decode cX1_init 12 = .ok (.iconst 5, 1) := by decide +kernel
theorem dX1_init_13 : decode cX1_init 13 = .ok (.newarray .int, 2) := by decide +kernel
theorem dX1_init_15 : decode cX1_init 15 = .ok (.putfield 15, 3) := by decide +kernel
theorem dX1_init_18 : decode cX1_init 18 = .ok (.aload_n 0, 1) := by decide +kernel
theorem dX1_init_19 : decode cX1_init 19 = .ok (.iconst 0, 1) := by decide +kernel
theorem dX1_init_20 : decode cX1_init 20 = .ok (.putfield 18, 3) := by decide +kernel
theorem dX1_init_23 : decode cX1_init 23 = .ok (.aload_n 0, 1) := by decide +kernel
theorem dX1_init_24 : decode cX1_init 24 = .ok (.iconst 0, 1) := by decide +kernel
theorem dX1_init_25 : decode cX1_init 25 = .ok (.putfield 22, 3) := by decide +kernel
theorem dX1_init_28 : decode cX1_init 28 = .ok (.return_, 1) := by decide +kernel
theorem dX1_minutesBetween_0 : decode cX1_minutesBetween 0 = .ok (.iconst 0, 1) := by decide +kernel
theorem dX1_minutesBetween_1 : decode cX1_minutesBetween 1 = .ok (.istore_n 3, 1) := by decide +kernel
theorem dX1_minutesBetween_2 : decode cX1_minutesBetween 2 = .ok (.iconst 0, 1) := by decide +kernel
theorem dX1_minutesBetween_3 : decode cX1_minutesBetween 3 = .ok (.istore 4, 2) := by decide +kernel
theorem dX1_minutesBetween_5 : decode cX1_minutesBetween 5 = .ok (.iconst 0, 1) := by decide +kernel
theorem dX1_minutesBetween_6 : decode cX1_minutesBetween 6 = .ok (.istore 5, 2) := by decide +kernel
theorem dX1_minutesBetween_8 : decode cX1_minutesBetween 8 = .ok (.iconst 0, 1) := by decide +kernel
theorem dX1_minutesBetween_9 : decode cX1_minutesBetween 9 = .ok (.istore 6, 2) := by decide +kernel
theorem dX1_minutesBetween_11 : decode cX1_minutesBetween 11 = .ok (.iload 6, 2) := by decide +kernel
theorem dX1_minutesBetween_13 : decode cX1_minutesBetween 13 = .ok (.aload_n 0, 1) := by decide +kernel
theorem dX1_minutesBetween_14 : decode cX1_minutesBetween 14 = .ok (.getfield 18, 3) := by decide +kernel
theorem dX1_minutesBetween_17 : decode cX1_minutesBetween 17 = .ok (.if_icmp .ge 58, 3) := by decide +kernel
theorem dX1_minutesBetween_20 : decode cX1_minutesBetween 20 = .ok (.aload_n 1, 1) := by decide +kernel
theorem dX1_minutesBetween_21 : decode cX1_minutesBetween 21 = .ok (.aload_n 0, 1) := by decide +kernel
theorem dX1_minutesBetween_22 : decode cX1_minutesBetween 22 = .ok (.getfield 9, 3) := by decide +kernel
theorem dX1_minutesBetween_25 : decode cX1_minutesBetween 25 = .ok (.iload 6, 2) := by decide +kernel
theorem dX1_minutesBetween_27 : decode cX1_minutesBetween 27 = .ok (.iaload, 1) := by decide +kernel
theorem dX1_minutesBetween_28 : decode cX1_minutesBetween 28 = .ok (.aaload, 1) := by decide +kernel
theorem dX1_minutesBetween_29 : decode cX1_minutesBetween 29 = .ok (.astore 7, 2) := by decide +kernel
theorem dX1_minutesBetween_31 : decode cX1_minutesBetween 31 = .ok (.aload 7, 2) := by decide +kernel
theorem dX1_minutesBetween_33 : decode cX1_minutesBetween 33 = .ok (.iload_n 2, 1) := by decide +kernel
theorem dX1_minutesBetween_34 : decode cX1_minutesBetween 34 = .ok (.invokevirtual 59, 3) := by decide +kernel
theorem dX1_minutesBetween_37 : decode cX1_minutesBetween 37 = .ok (.ifCond .le 18, 3) := by decide +kernel
theorem dX1_minutesBetween_40 : decode cX1_minutesBetween 40 = .ok (.iconst 1, 1) := by decide +kernel
theorem dX1_minutesBetween_41 : decode cX1_minutesBetween 41 = .ok (.istore_n 3, 1) := by decide +kernel
theorem dX1_minutesBetween_42 : decode cX1_minutesBetween 42 = .ok (.iload 4, 2) := by decide +kernel
theorem dX1_minutesBetween_44 : decode cX1_minutesBetween 44 = .ok (.iload 5, 2) := by decide +kernel
theorem dX1_minutesBetween_46 : decode cX1_minutesBetween 46 = .ok (.iadd, 1) := by decide +kernel
theorem dX1_minutesBetween_47 : decode cX1_minutesBetween 47 = .ok (.istore 4, 2) := by decide +kernel
theorem dX1_minutesBetween_49 : decode cX1_minutesBetween 49 = .ok (.iconst 0, 1) := by decide +kernel
theorem dX1_minutesBetween_50 : decode cX1_minutesBetween 50 = .ok (.istore 5, 2) := by decide +kernel
theorem dX1_minutesBetween_52 : decode cX1_minutesBetween 52 = .ok (.goto 17, 3) := by decide +kernel
theorem dX1_minutesBetween_55 : decode cX1_minutesBetween 55 = .ok (.iload_n 3, 1) := by decide +kernel
theorem dX1_minutesBetween_56 : decode cX1_minutesBetween 56 = .ok (.ifCond .eq 13, 3) := by decide +kernel
theorem dX1_minutesBetween_59 : decode cX1_minutesBetween 59 = .ok (.iload 5, 2) := by decide +kernel
theorem dX1_minutesBetween_61 : decode cX1_minutesBetween 61 = .ok (.aload 7, 2) := by decide +kernel
theorem dX1_minutesBetween_63 : decode cX1_minutesBetween 63 = .ok (.getfield 65, 3) := by decide +kernel
theorem dX1_minutesBetween_66 : decode cX1_minutesBetween 66 = .ok (.iadd, 1) := by decide +kernel
theorem dX1_minutesBetween_67 : decode cX1_minutesBetween 67 = .ok (.istore 5, 2) := by decide +kernel
theorem dX1_minutesBetween_69 : decode cX1_minutesBetween 69 = .ok (.iinc 6 1, 3) := by decide +kernel
theorem dX1_minutesBetween_72 : decode cX1_minutesBetween 72 = .ok (.goto (-61), 3) := by decide +kernel
theorem dX1_minutesBetween_75 : decode cX1_minutesBetween 75 = .ok (.iload 4, 2) := by decide +kernel
theorem dX1_minutesBetween_77 : decode cX1_minutesBetween 77 = .ok (.ireturn, 1) := by decide +kernel
theorem dX1_nextOrder_0 : decode cX1_nextOrder 0 = .ok (.aload_n 0, 1) := by decide +kernel
theorem dX1_nextOrder_1 : decode cX1_nextOrder 1 = .ok (.getfield 18, 3) := by decide +kernel
theorem dX1_nextOrder_4 : decode cX1_nextOrder 4 = .ok (.iconst 2, 1) := by decide +kernel
theorem dX1_nextOrder_5 : decode cX1_nextOrder 5 = .ok (.isub, 1) := by decide +kernel
theorem dX1_nextOrder_6 : decode cX1_nextOrder 6 = .ok (.istore_n 1, 1) := by decide +kernel
theorem dX1_nextOrder_7 : decode cX1_nextOrder 7 = .ok (.iload_n 1, 1) := by decide +kernel
theorem dX1_nextOrder_8 : decode cX1_nextOrder 8 = .ok (.ifCond .lt 26, 3) := by decide +kernel
theorem dX1_nextOrder_11 : decode cX1_nextOrder 11 = .ok (.aload_n 0, 1) := by decide +kernel
theorem dX1_nextOrder_12 : decode cX1_nextOrder 12 = .ok (.getfield 9, 3) := by decide +kernel
theorem dX1_nextOrder_15 : decode cX1_nextOrder 15 = .ok (.iload_n 1, 1) := by decide +kernel
theorem dX1_nextOrder_16 : decode cX1_nextOrder 16 = .ok (.iaload, 1) := by decide +kernel
theorem dX1_nextOrder_17 : decode cX1_nextOrder 17 = .ok (.aload_n 0, 1) := by decide +kernel
theorem dX1_nextOrder_18 : decode cX1_nextOrder 18 = .ok (.getfield 9, 3) := by decide +kernel
theorem dX1_nextOrder_21 : decode cX1_nextOrder 21 = .ok (.iload_n 1, 1) := by decide +kernel
theorem dX1_nextOrder_22 : decode cX1_nextOrder 22 = .ok (.iconst 1, 1) := by decide +kernel
theorem dX1_nextOrder_23 : decode cX1_nextOrder 23 = .ok (.iadd, 1) := by decide +kernel
theorem dX1_nextOrder_24 : decode cX1_nextOrder 24 = .ok (.iaload, 1) := by decide +kernel
theorem dX1_nextOrder_25 : decode cX1_nextOrder 25 = .ok (.if_icmp .le 9, 3) := by decide +kernel
theorem dX1_nextOrder_28 : decode cX1_nextOrder 28 = .ok (.iinc 1 (-1), 3) := by decide +kernel
theorem dX1_nextOrder_31 : decode cX1_nextOrder 31 = .ok (.goto (-24), 3) := by decide +kernel
theorem dX1_nextOrder_34 : decode cX1_nextOrder 34 = .ok (.iload_n 1, 1) := by decide +kernel
theorem dX1_nextOrder_35 : decode cX1_nextOrder 35 = .ok (.ifCond .ge 5, 3) := by decide +kernel
theorem dX1_nextOrder_38 : decode cX1_nextOrder 38 = .ok (.iconst 0, 1) := by decide +kernel
theorem dX1_nextOrder_39 : decode cX1_nextOrder 39 = .ok (.ireturn, 1) := by decide +kernel
theorem dX1_nextOrder_40 : decode cX1_nextOrder 40 = .ok (.aload_n 0, 1) := by decide +kernel
theorem dX1_nextOrder_41 : decode cX1_nextOrder 41 = .ok (.getfield 18, 3) := by decide +kernel
theorem dX1_nextOrder_44 : decode cX1_nextOrder 44 = .ok (.iconst 1, 1) := by decide +kernel
theorem dX1_nextOrder_45 : decode cX1_nextOrder 45 = .ok (.isub, 1) := by decide +kernel
theorem dX1_nextOrder_46 : decode cX1_nextOrder 46 = .ok (.istore_n 2, 1) := by decide +kernel
theorem dX1_nextOrder_47 : decode cX1_nextOrder 47 = .ok (.iload_n 2, 1) := by decide +kernel
theorem dX1_nextOrder_48 : decode cX1_nextOrder 48 = .ok (.iload_n 1, 1) := by decide +kernel
theorem dX1_nextOrder_49 : decode cX1_nextOrder 49 = .ok (.if_icmp .le 24, 3) := by decide +kernel
theorem dX1_nextOrder_52 : decode cX1_nextOrder 52 = .ok (.aload_n 0, 1) := by decide +kernel
theorem dX1_nextOrder_53 : decode cX1_nextOrder 53 = .ok (.getfield 9, 3) := by decide +kernel
theorem dX1_nextOrder_56 : decode cX1_nextOrder 56 = .ok (.iload_n 2, 1) := by decide +kernel
theorem dX1_nextOrder_57 : decode cX1_nextOrder 57 = .ok (.iaload, 1) := by decide +kernel
theorem dX1_nextOrder_58 : decode cX1_nextOrder 58 = .ok (.aload_n 0, 1) := by decide +kernel
theorem dX1_nextOrder_59 : decode cX1_nextOrder 59 = .ok (.getfield 9, 3) := by decide +kernel
theorem dX1_nextOrder_62 : decode cX1_nextOrder 62 = .ok (.iload_n 1, 1) := by decide +kernel
theorem dX1_nextOrder_63 : decode cX1_nextOrder 63 = .ok (.iaload, 1) := by decide +kernel
theorem dX1_nextOrder_64 : decode cX1_nextOrder 64 = .ok (.if_icmp .ge 9, 3) := by decide +kernel
theorem dX1_nextOrder_67 : decode cX1_nextOrder 67 = .ok (.iinc 2 (-1), 3) := by decide +kernel
theorem dX1_nextOrder_70 : decode cX1_nextOrder 70 = .ok (.goto (-23), 3) := by decide +kernel
theorem dX1_nextOrder_73 : decode cX1_nextOrder 73 = .ok (.aload_n 0, 1) := by decide +kernel
theorem dX1_nextOrder_74 : decode cX1_nextOrder 74 = .ok (.iload_n 1, 1) := by decide +kernel
theorem dX1_nextOrder_75 : decode cX1_nextOrder 75 = .ok (.iload_n 2, 1) := by decide +kernel
theorem dX1_nextOrder_76 : decode cX1_nextOrder 76 = .ok (.invokevirtual 68, 3) := by decide +kernel
theorem dX1_nextOrder_79 : decode cX1_nextOrder 79 = .ok (.iload_n 1, 1) := by decide +kernel
theorem dX1_nextOrder_80 : decode cX1_nextOrder 80 = .ok (.iconst 1, 1) := by decide +kernel
theorem dX1_nextOrder_81 : decode cX1_nextOrder 81 = .ok (.iadd, 1) := by decide +kernel
theorem dX1_nextOrder_82 : decode cX1_nextOrder 82 = .ok (.istore_n 3, 1) := by decide +kernel
theorem dX1_nextOrder_83 : decode cX1_nextOrder 83 = .ok (.aload_n 0, 1) := by decide +kernel
theorem dX1_nextOrder_84 : decode cX1_nextOrder 84 = .ok (.getfield 18, 3) := by decide +kernel
theorem dX1_nextOrder_87 : decode cX1_nextOrder 87 = .ok (.iconst 1, 1) := by decide +kernel
theorem dX1_nextOrder_88 : decode cX1_nextOrder 88 = .ok (.isub, 1) := by decide +kernel
theorem dX1_nextOrder_89 : decode cX1_nextOrder 89 = .ok (.istore 4, 2) := by decide +kernel
theorem dX1_nextOrder_91 : decode cX1_nextOrder 91 = .ok (.iload_n 3, 1) := by decide +kernel
theorem dX1_nextOrder_92 : decode cX1_nextOrder 92 = .ok (.iload 4, 2) := by decide +kernel
theorem dX1_nextOrder_94 : decode cX1_nextOrder 94 = .ok (.if_icmp .ge 19, 3) := by decide +kernel
theorem dX1_nextOrder_97 : decode cX1_nextOrder 97 = .ok (.aload_n 0, 1) := by decide +kernel
theorem dX1_nextOrder_98 : decode cX1_nextOrder 98 = .ok (.iload_n 3, 1) := by decide +kernel
theorem dX1_nextOrder_99 : decode cX1_nextOrder 99 = .ok (.iload 4, 2) := by decide +kernel
theorem dX1_nextOrder_101 : decode cX1_nextOrder 101 = .ok (.invokevirtual 68, 3) := by decide +kernel
theorem dX1_nextOrder_104 : decode cX1_nextOrder 104 = .ok (.iinc 3 1, 3) := by decide +kernel
theorem dX1_nextOrder_107 : decode cX1_nextOrder 107 = .ok (.iinc 4 (-1), 3) := by decide +kernel
theorem dX1_nextOrder_110 : decode cX1_nextOrder 110 = .ok (.goto (-19), 3) := by decide +kernel
theorem dX1_nextOrder_113 : decode cX1_nextOrder 113 = .ok (.iconst 1, 1) := by decide +kernel
theorem dX1_nextOrder_114 : decode cX1_nextOrder 114 = .ok (.ireturn, 1) := by decide +kernel
theorem dX2_hasLeave_0 : decode cX2_hasLeave 0 = .ok (.iconst 0, 1) := by decide +kernel
theorem dX2_hasLeave_1 : decode cX2_hasLeave 1 = .ok (.istore_n 2, 1) := by decide +kernel
theorem dX2_hasLeave_2 : decode cX2_hasLeave 2 = .ok (.iload_n 2, 1) := by decide +kernel
theorem dX2_hasLeave_3 : decode cX2_hasLeave 3 = .ok (.aload_n 0, 1) := by decide +kernel
theorem dX2_hasLeave_4 : decode cX2_hasLeave 4 = .ok (.getfield 18, 3) := by decide +kernel
theorem dX2_hasLeave_7 : decode cX2_hasLeave 7 = .ok (.if_icmp .ge 30, 3) := by decide +kernel
theorem dX2_hasLeave_10 : decode cX2_hasLeave 10 = .ok (.iload_n 1, 1) := by decide +kernel
theorem dX2_hasLeave_11 : decode cX2_hasLeave 11 = .ok (.aload_n 0, 1) := by decide +kernel
theorem dX2_hasLeave_12 : decode cX2_hasLeave 12 = .ok (.getfield 9, 3) := by decide +kernel
theorem dX2_hasLeave_15 : decode cX2_hasLeave 15 = .ok (.iload_n 2, 1) := by decide +kernel
theorem dX2_hasLeave_16 : decode cX2_hasLeave 16 = .ok (.iaload, 1) := by decide +kernel
theorem dX2_hasLeave_17 : decode cX2_hasLeave 17 = .ok (.aload_n 0, 1) := by decide +kernel
theorem dX2_hasLeave_18 : decode cX2_hasLeave 18 = .ok (.getfield 15, 3) := by decide +kernel
theorem dX2_hasLeave_21 : decode cX2_hasLeave 21 = .ok (.iload_n 2, 1) := by decide +kernel
theorem dX2_hasLeave_22 : decode cX2_hasLeave 22 = .ok (.iaload, 1) := by decide +kernel
theorem dX2_hasLeave_23 : decode cX2_hasLeave 23 = .ok (.invokestatic 31, 3) := by decide +kernel
theorem dX2_hasLeave_26 : decode cX2_hasLeave 26 = .ok (.ifCond .eq 5, 3) := by decide +kernel
theorem dX2_hasLeave_29 : decode cX2_hasLeave 29 = .ok (.iconst 1, 1) := by decide +kernel
theorem dX2_hasLeave_30 : decode cX2_hasLeave 30 = .ok (.ireturn, 1) := by decide +kernel
theorem dX2_hasLeave_31 : decode cX2_hasLeave 31 = .ok (.iinc 2 1, 3) := by decide +kernel
theorem dX2_hasLeave_34 : decode cX2_hasLeave 34 = .ok (.goto (-32), 3) := by decide +kernel
theorem dX2_hasLeave_37 : decode cX2_hasLeave 37 = .ok (.iconst 0, 1) := by decide +kernel
theorem dX2_hasLeave_38 : decode cX2_hasLeave 38 = .ok (.ireturn, 1) := by decide +kernel
theorem dX2_init_0 : decode cX2_init 0 = .ok (.aload_n 0, 1) := by decide +kernel
theorem dX2_init_1 : decode cX2_init 1 = .ok (.invokespecial 3, 3) := by decide +kernel
theorem dX2_init_4 : decode cX2_init 4 = .ok (.aload_n 0, 1) := by decide +kernel
theorem dX2_init_5 : decode cX2_init 5 = .ok (.bipush 6, 2) := by decide +kernel
theorem dX2_init_7 : decode cX2_init 7 = .ok (.newarray .int, 2) := by decide +kernel
theorem dX2_init_9 : decode cX2_init 9 = .ok (.putfield 9, 3) := by decide +kernel
theorem dX2_init_12 : decode cX2_init 12 = .ok (.aload_n 0, 1) := by decide +kernel
theorem dX2_init_13 : decode cX2_init 13 = .ok (.bipush 6, 2) := by decide +kernel
theorem dX2_init_15 : decode cX2_init 15 = .ok (.newarray .int, 2) := by decide +kernel
theorem dX2_init_17 : decode cX2_init 17 = .ok (.putfield 15, 3) := by decide +kernel
theorem dX2_init_20 : decode cX2_init 20 = .ok (.aload_n 0, 1) := by decide +kernel
theorem dX2_init_21 : decode cX2_init 21 = .ok (.iconst 0, 1) := by decide +kernel
theorem dX2_init_22 : decode cX2_init 22 = .ok (.putfield 18, 3) := by decide +kernel
theorem dX2_init_25 : decode cX2_init 25 = .ok (.aload_n 0, 1) := by decide +kernel
theorem dX2_init_26 : decode cX2_init 26 = .ok (.iload_n 1, 1) := by decide +kernel
theorem dX2_init_27 : decode cX2_init 27 = .ok (.putfield 22, 3) := by decide +kernel
theorem dX2_init_30 : decode cX2_init 30 = .ok (.aload_n 0, 1) := by decide +kernel
theorem dX2_init_31 : decode cX2_init 31 = .ok (.iload_n 2, 1) := by decide +kernel
theorem dX2_init_32 : decode cX2_init 32 = .ok (.putfield 25, 3) := by decide +kernel
theorem dX2_init_35 : decode cX2_init 35 = .ok (.aload_n 0, 1) := by decide +kernel
theorem dX2_init_36 : decode cX2_init 36 = .ok (.iload_n 3, 1) := by decide +kernel
theorem dX2_init_37 : decode cX2_init 37 = .ok (.putfield 28, 3) := by decide +kernel
theorem dX2_init_40 : decode cX2_init 40 = .ok (.return_, 1) := by decide +kernel
theorem dX3_emitToken_0 : decode cX3_emitToken 0 = .ok (.aload_n 0, 1) := by decide +kernel
theorem dX3_emitToken_1 : decode cX3_emitToken 1 = .ok (.iconst (-1), 1) := by decide +kernel
theorem dX3_emitToken_2 : decode cX3_emitToken 2 = .ok (.iload_n 1, 1) := by decide +kernel
theorem dX3_emitToken_3 : decode cX3_emitToken 3 = .ok (.isub, 1) := by decide +kernel
theorem dX3_emitToken_4 : decode cX3_emitToken 4 = .ok (.invokevirtual 87, 3) := by decide +kernel
theorem dX3_emitToken_7 : decode cX3_emitToken 7 = .ok (.return_, 1) := by decide +kernel
theorem dX3_init_0 : decode cX3_init 0 = .ok (.aload_n 0, 1) := by decide +kernel
theorem dX3_init_1 : decode cX3_init 1 = .ok (.invokespecial 3, 3) := by decide +kernel
theorem dX3_init_4 : decode cX3_init 4 = .ok (.aload_n 0, 1) := by decide +kernel
theorem dX3_init_5 : decode cX3_init 5 = .ok (.sipush 300, 3) := by decide +kernel
theorem dX3_init_8 : decode cX3_init 8 = .ok (.newarray .int, 2) := by decide +kernel
theorem dX3_init_10 : decode cX3_init 10 = .ok (.putfield 9, 3) := by decide +kernel
theorem dX3_init_13 : decode cX3_init 13 = .ok (.aload_n 0, 1) := by decide +kernel
theorem dX3_init_14 : decode cX3_init 14 = .ok (.bipush 10, 2) := by decide +kernel
theorem dX3_init_16 : decode cX3_init 16 = .ok (.newarray .int, 2) := by decide +kernel
theorem dX3_init_18 : decode cX3_init 18 = .ok (.putfield 15, 3) := by decide +kernel
theorem dX3_init_21 : decode cX3_init 21 = .ok (.aload_n 0, 1) := by decide +kernel
theorem dX3_init_22 : decode cX3_init 22 = .ok (.aconst_null, 1) := by decide +kernel
theorem dX3_init_23 : decode cX3_init 23 = .ok (.putfield 18, 3) := by decide +kernel
theorem dX3_init_26 : decode cX3_init 26 = .ok (.aload_n 0, 1) := by decide +kernel
theorem dX3_init_27 : decode cX3_init 27 = .ok (.iconst 0, 1) := by decide +kernel
theorem dX3_init_28 : decode cX3_init 28 = .ok (.putfield 22, 3) := by decide +kernel
theorem dX3_init_31 : decode cX3_init 31 = .ok (.aload_n 0, 1) := by decide +kernel
theorem dX3_init_32 : decode cX3_init 32 = .ok (.iconst 0, 1) := by decide +kernel
theorem dX3_init_33 : decode cX3_init 33 = .ok (.putfield 26, 3) := by decide +kernel
theorem dX3_init_36 : decode cX3_init 36 = .ok (.aload_n 0, 1) := by decide +kernel
theorem dX3_init_37 : decode cX3_init 37 = .ok (.iconst 0, 1) := by decide +kernel
theorem dX3_init_38 : decode cX3_init 38 = .ok (.putfield 29, 3) := by decide +kernel
theorem dX3_init_41 : decode cX3_init 41 = .ok (.aload_n 0, 1) := by decide +kernel
theorem dX3_init_42 : decode cX3_init 42 = .ok (.bipush 25, 2) := by decide +kernel
theorem dX3_init_44 : decode cX3_init 44 = .ok (.putfield 34, 3) := by decide +kernel
theorem dX3_init_47 : decode cX3_init 47 = .ok (.aload_n 0, 1) := by decide +kernel
theorem dX3_init_48 : decode cX3_init 48 = .ok (.iconst 0, 1) := by decide +kernel
theorem dX3_init_49 : decode cX3_init 49 = .ok (.putfield 37, 3) := by decide +kernel
theorem dX3_init_52 : decode cX3_init 52 = .ok (.aload_n 0, 1) := by decide +kernel
theorem dX3_init_53 : decode cX3_init 53 = .ok (.iconst 0, 1) := by decide +kernel
theorem dX3_init_54 : decode cX3_init 54 = .ok (.putfield 40, 3) := by decide +kernel
theorem dX3_init_57 : decode cX3_init 57 = .ok (.aload_n 0, 1) := by decide +kernel
theorem dX3_init_58 : decode cX3_init 58 = .ok (.iconst 0, 1) := by decide +kernel
theorem dX3_init_59 : decode cX3_init 59 = .ok (.putfield 43, 3) := by decide +kernel
theorem dX3_init_62 : decode cX3_init 62 = .ok (.aload_n 0, 1) := by decide +kernel
theorem dX3_init_63 : decode cX3_init 63 = .ok (.iconst 0, 1) := by decide +kernel
theorem dX3_init_64 : decode cX3_init 64 = .ok (.putfield 46, 3) := by decide +kernel
theorem dX3_init_67 : decode cX3_init 67 = .ok (.aload_n 0, 1) := by decide +kernel
theorem dX3_init_68 : decode cX3_init 68 = .ok (.iconst (-1), 1) := by decide +kernel
theorem dX3_init_69 : decode cX3_init 69 = .ok (.putfield 49, 3) := by decide +kernel
theorem dX3_init_72 : decode cX3_init 72 = .ok (.return_, 1) := by decide +kernel
theorem dX3_takeNumber_0 : decode cX3_takeNumber 0 = .ok (.aload_n 0, 1) := by decide +kernel
theorem dX3_takeNumber_1 : decode cX3_takeNumber 1 = .ok (.iconst 0, 1) := by decide +kernel
theorem dX3_takeNumber_2 : decode cX3_takeNumber 2 = .ok (.putfield 37, 3) := by decide +kernel
theorem dX3_takeNumber_5 : decode cX3_takeNumber 5 = .ok (.aload_n 0, 1) := by decide +kernel
theorem dX3_takeNumber_6 : decode cX3_takeNumber 6 = .ok (.getfield 43, 3) := by decide +kernel
theorem dX3_takeNumber_9 : decode cX3_takeNumber 9 = .ok (.aload_n 0, 1) := by decide +kernel
theorem dX3_takeNumber_10 : decode cX3_takeNumber 10 = .ok (.getfield 22, 3) := by decide +kernel
theorem dX3_takeNumber_13 : decode cX3_takeNumber 13 = .ok (.if_icmp .ge 55, 3) := by decide +kernel
theorem dX3_takeNumber_16 : decode cX3_takeNumber 16 = .ok (.aload_n 0, 1) := by decide +kernel
theorem dX3_takeNumber_17 : decode cX3_takeNumber 17 = .ok (.getfield 18, 3) := by decide +kernel
theorem dX3_takeNumber_20 : decode cX3_takeNumber 20 = .ok (.aload_n 0, 1) := by decide +kernel
theorem dX3_takeNumber_21 : decode cX3_takeNumber 21 = .ok (.getfield 43, 3) := by decide +kernel
theorem dX3_takeNumber_24 : decode cX3_takeNumber 24 = .ok (.baload, 1) := by decide +kernel
theorem dX3_takeNumber_25 : decode cX3_takeNumber 25 = .ok (.invokestatic 103, 3) := by decide +kernel
theorem dX3_takeNumber_28 : decode cX3_takeNumber 28 = .ok (.ifCond .eq 40, 3) := by decide +kernel
theorem dX3_takeNumber_31 : decode cX3_takeNumber 31 = .ok (.aload_n 0, 1) := by decide +kernel
theorem dX3_takeNumber_32 : decode cX3_takeNumber 32 = .ok (.bipush 10, 2) := by decide +kernel
theorem dX3_takeNumber_34 : decode cX3_takeNumber 34 = .ok (.aload_n 0, 1) := by decide +kernel
theorem dX3_takeNumber_35 : decode cX3_takeNumber 35 = .ok (.getfield 37, 3) := by decide +kernel
theorem dX3_takeNumber_38 : decode cX3_takeNumber 38 = .ok (.imul, 1) := by decide +kernel
theorem dX3_takeNumber_39 : decode cX3_takeNumber 39 = .ok (.aload_n 0, 1) := by decide +kernel
theorem dX3_takeNumber_40 : decode cX3_takeNumber 40 = .ok (.getfield 18, 3) := by decide +kernel
theorem dX3_takeNumber_43 : decode cX3_takeNumber 43 = .ok (.aload_n 0, 1) := by decide +kernel
theorem dX3_takeNumber_44 : decode cX3_takeNumber 44 = .ok (.getfield 43, 3) := by decide +kernel
theorem dX3_takeNumber_47 : decode cX3_takeNumber 47 = .ok (.baload, 1) := by decide +kernel
theorem dX3_takeNumber_48 : decode cX3_takeNumber 48 = .ok (.iadd, 1) := by decide +kernel
theorem dX3_takeNumber_49 : decode cX3_takeNumber 49 = .ok (.bipush 48, 2) := by decide +kernel
theorem dX3_takeNumber_51 : decode cX3_takeNumber 51 = .ok (.isub, 1) := by decide +kernel
theorem dX3_takeNumber_52 : decode cX3_takeNumber 52 = .ok (.putfield 37, 3) := by decide +kernel
theorem dX3_takeNumber_55 : decode cX3_takeNumber 55 = .ok (.aload_n 0, 1) := by decide +kernel
theorem dX3_takeNumber_56 : decode cX3_takeNumber 56 = .ok (.dup, 1) := by decide +kernel
theorem dX3_takeNumber_57 : decode cX3_takeNumber 57 = .ok (.getfield 43, 3) := by decide +kernel
theorem dX3_takeNumber_60 : decode cX3_takeNumber 60 = .ok (.iconst 1, 1) := by decide +kernel
theorem dX3_takeNumber_61 : decode cX3_takeNumber 61 = .ok (.iadd, 1) := by decide +kernel
theorem dX3_takeNumber_62 : decode cX3_takeNumber 62 = .ok (.putfield 43, 3) := by decide +kernel
theorem dX3_takeNumber_65 : decode cX3_takeNumber 65 = .ok (.goto (-60), 3) := by decide +kernel
theorem dX3_takeNumber_68 : decode cX3_takeNumber 68 = .ok (.aload_n 0, 1) := by decide +kernel
theorem dX3_takeNumber_69 : decode cX3_takeNumber 69 = .ok (.aload_n 0, 1) := by decide +kernel
theorem dX3_takeNumber_70 : decode cX3_takeNumber 70 = .ok (.getfield 43, 3) := by decide +kernel
theorem dX3_takeNumber_73 : decode cX3_takeNumber 73 = .ok (.aload_n 0, 1) := by decide +kernel
theorem dX3_takeNumber_74 : decode cX3_takeNumber 74 = .ok (.getfield 40, 3) := by decide +kernel
theorem dX3_takeNumber_77 : decode cX3_takeNumber 77 = .ok (.isub, 1) := by decide +kernel
theorem dX3_takeNumber_78 : decode cX3_takeNumber 78 = .ok (.iconst 5, 1) := by decide +kernel
theorem dX3_takeNumber_79 : decode cX3_takeNumber 79 = .ok (.if_icmp .le 8, 3) := by decide +kernel
theorem dX3_takeNumber_82 : decode cX3_takeNumber 82 = .ok (.bipush 26, 2) := by decide +kernel
theorem dX3_takeNumber_84 : decode cX3_takeNumber 84 = .ok (.goto 5, 3) := by decide +kernel
theorem dX3_takeNumber_87 : decode cX3_takeNumber 87 = .ok (.bipush 24, 2) := by decide +kernel
theorem dX3_takeNumber_89 : decode cX3_takeNumber 89 = .ok (.putfield 34, 3) := by decide +kernel
theorem dX3_takeNumber_92 : decode cX3_takeNumber 92 = .ok (.return_, 1) := by decide +kernel
theorem dX4_init_0 : decode cX4_init 0 = .ok (.aload_n 0, 1) := by decide +kernel
theorem dX4_init_1 : decode cX4_init 1 = .ok (.invokespecial 3, 3) := by decide +kernel
theorem dX4_init_4 : decode cX4_init 4 = .ok (.aload_n 0, 1) := by decide +kernel
theorem dX4_init_5 : decode cX4_init 5 = .ok (.bipush 10, 2) := by decide +kernel
theorem dX4_init_7 : decode cX4_init 7 = .ok (.newarray .long, 2) := by decide +kernel
theorem dX4_init_9 : decode cX4_init 9 = .ok (.putfield 11, 3) := by decide +kernel
theorem dX4_init_12 : decode cX4_init 12 = .ok (.aload_n 0, 1) := by decide +kernel
theorem dX4_init_13 : decode cX4_init 13 = .ok (.bipush 64, 2) := by decide +kernel
theorem dX4_init_15 : decode cX4_init 15 = .ok (.newarray .long, 2) := by decide +kernel
theorem dX4_init_17 : decode cX4_init 17 = .ok (.putfield 17, 3) := by decide +kernel
theorem dX4_init_20 : decode cX4_init 20 = .ok (.aload_n 0, 1) := by decide +kernel
theorem dX4_init_21 : decode cX4_init 21 = .ok (.iconst 0, 1) := by decide +kernel
theorem dX4_init_22 : decode cX4_init 22 = .ok (.putfield 20, 3) := by decide +kernel
theorem dX4_init_25 : decode cX4_init 25 = .ok (.return_, 1) := by decide +kernel
theorem dX4_step_0 : decode cX4_step 0 = .ok (.iconst (-1), 1) := by decide +kernel
theorem dX4_step_1 : decode cX4_step 1 = .ok (.iload_n 1, 1) := by decide +kernel
theorem dX4_step_2 : decode cX4_step 2 = .ok (.isub, 1) := by decide +kernel
theorem dX4_step_3 : decode cX4_step 3 = .ok (.istore_n 2, 1) := by decide +kernel
theorem dX4_step_4 : decode cX4_step 4 = .ok (.iload_n 1, 1) := by decide +kernel
theorem dX4_step_5 : decode cX4_step 5 = .ok (.ifCond .lt 12, 3) := by decide +kernel
theorem dX4_step_8 : decode cX4_step 8 = .ok (.aload_n 0, 1) := by decide +kernel
theorem dX4_step_9 : decode cX4_step 9 = .ok (.iload_n 1, 1) := by decide +kernel
theorem dX4_step_10 : decode cX4_step 10 = .ok (.i2l, 1) := by decide +kernel
theorem dX4_step_11 : decode cX4_step 11 = .ok (.invokevirtual 67, 3) := by decide +kernel
theorem dX4_step_14 : decode cX4_step 14 = .ok (.goto 85, 3) := by decide +kernel
theorem dX4_step_17 : decode cX4_step 17 = .ok (.iload_n 2, 1) := by decide +kernel
theorem dX4_step_18 : decode cX4_step 18 = .ok (.bipush 10, 2) := by decide +kernel
theorem dX4_step_20 : decode cX4_step 20 = .ok (.if_icmp .ge 16, 3) := by decide +kernel
theorem dX4_step_23 : decode cX4_step 23 = .ok (.aload_n 0, 1) := by decide +kernel
theorem dX4_step_24 : decode cX4_step 24 = .ok (.aload_n 0, 1) := by decide +kernel
theorem dX4_step_25 : decode cX4_step 25 = .ok (.getfield 11, 3) := by decide +kernel
theorem dX4_step_28 : decode cX4_step 28 = .ok (.iload_n 2, 1) := by decide +kernel
theorem dX4_step_29 : decode cX4_step 29 = .ok (.laload, 1) := by decide +kernel
theorem dX4_step_30 : decode cX4_step 30 = .ok (.invokevirtual 67, 3) := by decide +kernel
theorem dX4_step_33 : decode cX4_step 33 = .ok (.goto 66, 3) := by decide +kernel
theorem dX4_step_36 : decode cX4_step 36 = .ok (.iload_n 2, 1) := by decide +kernel
theorem dX4_step_37 : decode cX4_step 37 = .ok (.bipush 15, 2) := by decide +kernel
theorem dX4_step_39 : decode cX4_step 39 = .ok (.if_icmp .ne 24, 3) := by decide +kernel
theorem dX4_step_42 : decode cX4_step 42 = .ok (.aload_n 0, 1) := by decide +kernel
theorem dX4_step_43 : decode cX4_step 43 = .ok (.aload_n 0, 1) := by decide +kernel
theorem dX4_step_44 : decode cX4_step 44 = .ok (.invokevirtual 63, 3) := by decide +kernel
theorem dX4_step_47 : decode cX4_step 47 = .ok (.lconst 0, 1) := by decide +kernel
theorem dX4_step_48 : decode cX4_step 48 = .ok (.lcmp, 1) := by decide +kernel
theorem dX4_step_49 : decode cX4_step 49 = .ok (.ifCond .ne 7, 3) := by decide +kernel
theorem dX4_step_52 : decode cX4_step 52 = .ok (.lconst 1, 1) := by decide +kernel
theorem dX4_step_53 : decode cX4_step 53 = .ok (.goto 4, 3) := by decide +kernel
theorem dX4_step_56 : decode cX4_step 56 = .ok (.lconst 0, 1) := by decide +kernel
theorem dX4_step_57 : decode cX4_step 57 = .ok (.invokevirtual 67, 3) := by decide +kernel
theorem dX4_step_60 : decode cX4_step 60 = .ok (.goto 39, 3) := by decide +kernel
theorem dX4_step_63 : decode cX4_step 63 = .ok (.iload_n 2, 1) := by decide +kernel
theorem dX4_step_64 : decode cX4_step 64 = .ok (.bipush 27, 2) := by decide +kernel
theorem dX4_step_66 : decode cX4_step 66 = .ok (.if_icmp .ne 15, 3) := by decide +kernel
theorem dX4_step_69 : decode cX4_step 69 = .ok (.aload_n 0, 1) := by decide +kernel
theorem dX4_step_70 : decode cX4_step 70 = .ok (.aload_n 0, 1) := by decide +kernel
theorem dX4_step_71 : decode cX4_step 71 = .ok (.invokevirtual 63, 3) := by decide +kernel
theorem dX4_step_74 : decode cX4_step 74 = .ok (.lneg, 1) := by decide +kernel
theorem dX4_step_75 : decode cX4_step 75 = .ok (.invokevirtual 67, 3) := by decide +kernel
theorem dX4_step_78 : decode cX4_step 78 = .ok (.goto 21, 3) := by decide +kernel
theorem dX4_step_81 : decode cX4_step 81 = .ok (.aload_n 0, 1) := by decide +kernel
theorem dX4_step_82 : decode cX4_step 82 = .ok (.invokevirtual 63, 3) := by decide +kernel
theorem dX4_step_85 : decode cX4_step 85 = .ok (.lstore_n 3, 1) := by decide +kernel
theorem dX4_step_86 : decode cX4_step 86 = .ok (.aload_n 0, 1) := by decide +kernel
theorem dX4_step_87 : decode cX4_step 87 = .ok (.iload_n 2, 1) := by decide +kernel
theorem dX4_step_88 : decode cX4_step 88 = .ok (.aload_n 0, 1) := by decide +kernel
theorem dX4_step_89 : decode cX4_step 89 = .ok (.invokevirtual 63, 3) := by decide +kernel
theorem dX4_step_92 : decode cX4_step 92 = .ok (.lload_n 3, 1) := by decide +kernel
theorem dX4_step_93 : decode cX4_step 93 = .ok (.invokestatic 71, 3) := by decide +kernel
theorem dX4_step_96 : decode cX4_step 96 = .ok (.invokevirtual 67, 3) := by decide +kernel
theorem dX4_step_99 : decode cX4_step 99 = .ok (.return_, 1) := by decide +kernel
theorem dX5_allow_0 : decode cX5_allow 0 = .ok (.iload_n 1, 1) := by decide +kernel
theorem dX5_allow_1 : decode cX5_allow 1 = .ok (.iconst 0, 1) := by decide +kernel
theorem dX5_allow_2 : decode cX5_allow 2 = .ok (.aload_n 0, 1) := by decide +kernel
theorem dX5_allow_3 : decode cX5_allow 3 = .ok (.getfield 27, 3) := by decide +kernel
theorem dX5_allow_6 : decode cX5_allow 6 = .ok (.iconst 1, 1) := by decide +kernel
theorem dX5_allow_7 : decode cX5_allow 7 = .ok (.isub, 1) := by decide +kernel
theorem dX5_allow_8 : decode cX5_allow 8 = .ok (.invokestatic 46, 3) := by decide +kernel
theorem dX5_allow_11 : decode cX5_allow 11 = .ok (.ifCond .eq 10, 3) := by decide +kernel
theorem dX5_allow_14 : decode cX5_allow 14 = .ok (.aload_n 0, 1) := by decide +kernel
theorem dX5_allow_15 : decode cX5_allow 15 = .ok (.getfield 9, 3) := by decide +kernel
theorem dX5_allow_18 : decode cX5_allow 18 = .ok (.iload_n 1, 1) := by decide +kernel
theorem dX5_allow_19 : decode cX5_allow 19 = .ok (.iload_n 2, 1) := by decide +kernel
theorem dX5_allow_20 : decode cX5_allow 20 = .ok (.iastore, 1) := by decide +kernel
theorem dX5_allow_21 : decode cX5_allow 21 = .ok (.return_, 1) := by decide +kernel
theorem dX5_begin_0 : decode cX5_begin 0 = .ok (.aload_n 0, 1) := by decide +kernel
theorem dX5_begin_1 : decode cX5_begin 1 = .ok (.iload_n 1, 1) := by decide +kernel
theorem dX5_begin_2 : decode cX5_begin 2 = .ok (.bipush 12, 2) := by decide +kernel
theorem dX5_begin_4 : decode cX5_begin 4 = .ok (.invokestatic 34, 3) := by decide +kernel
theorem dX5_begin_7 : decode cX5_begin 7 = .ok (.putfield 27, 3) := by decide +kernel
theorem dX5_begin_10 : decode cX5_begin 10 = .ok (.aload_n 0, 1) := by decide +kernel
theorem dX5_begin_11 : decode cX5_begin 11 = .ok (.iconst 0, 1) := by decide +kernel
theorem dX5_begin_12 : decode cX5_begin 12 = .ok (.putfield 31, 3) := by decide +kernel
theorem dX5_begin_15 : decode cX5_begin 15 = .ok (.aload_n 0, 1) := by decide +kernel
theorem dX5_begin_16 : decode cX5_begin 16 = .ok (.getfield 9, 3) := by decide +kernel
theorem dX5_begin_19 : decode cX5_begin 19 = .ok (.iconst 0, 1) := by decide +kernel
theorem dX5_begin_20 : decode cX5_begin 20 = .ok (.invokestatic 40, 3) := by decide +kernel
theorem dX5_begin_23 : decode cX5_begin 23 = .ok (.aload_n 0, 1) := by decide +kernel
theorem dX5_begin_24 : decode cX5_begin 24 = .ok (.getfield 15, 3) := by decide +kernel
theorem dX5_begin_27 : decode cX5_begin 27 = .ok (.iconst (-1), 1) := by decide +kernel
theorem dX5_begin_28 : decode cX5_begin 28 = .ok (.invokestatic 40, 3) := by decide +kernel
theorem dX5_begin_31 : decode cX5_begin 31 = .ok (.aload_n 0, 1) := by decide +kernel
theorem dX5_begin_32 : decode cX5_begin 32 = .ok (.getfield 18, 3) := by decide +kernel
theorem dX5_begin_35 : decode cX5_begin 35 = .ok (.iconst (-1), 1) := by decide +kernel
theorem dX5_begin_36 : decode cX5_begin 36 = .ok (.invokestatic 40, 3) := by decide +kernel
theorem dX5_begin_39 : decode cX5_begin 39 = .ok (.return_, 1) := by decide +kernel
theorem dX5_init_0 : decode cX5_init 0 = .ok (.aload_n 0, 1) := by decide +kernel
theorem dX5_init_1 : decode cX5_init 1 = .ok (.invokespecial 3, 3) := by decide +kernel
theorem dX5_init_4 : decode cX5_init 4 = .ok (.aload_n 0, 1) := by decide +kernel
theorem dX5_init_5 : decode cX5_init 5 = .ok (.bipush 12, 2) := by decide +kernel
theorem dX5_init_7 : decode cX5_init 7 = .ok (.newarray .int, 2) := by decide +kernel
theorem dX5_init_9 : decode cX5_init 9 = .ok (.putfield 9, 3) := by decide +kernel
theorem dX5_init_12 : decode cX5_init 12 = .ok (.aload_n 0, 1) := by decide +kernel
theorem dX5_init_13 : decode cX5_init 13 = .ok (.bipush 12, 2) := by decide +kernel
theorem dX5_init_15 : decode cX5_init 15 = .ok (.newarray .int, 2) := by decide +kernel
theorem dX5_init_17 : decode cX5_init 17 = .ok (.putfield 15, 3) := by decide +kernel
theorem dX5_init_20 : decode cX5_init 20 = .ok (.aload_n 0, 1) := by decide +kernel
theorem dX5_init_21 : decode cX5_init 21 = .ok (.bipush 10, 2) := by decide +kernel
theorem dX5_init_23 : decode cX5_init 23 = .ok (.newarray .int, 2) := by decide +kernel
theorem dX5_init_25 : decode cX5_init 25 = .ok (.putfield 18, 3) := by decide +kernel
theorem dX5_init_28 : decode cX5_init 28 = .ok (.aload_n 0, 1) := by decide +kernel
theorem dX5_init_29 : decode cX5_init 29 = .ok (.bipush 12, 2) := by decide +kernel
theorem dX5_init_31 : decode cX5_init 31 = .ok (.newarray .int, 2) := by decide +kernel
theorem dX5_init_33 : decode cX5_init 33 = .ok (.putfield 21, 3) := by decide +kernel
theorem dX5_init_36 : decode cX5_init 36 = .ok (.aload_n 0, 1) := by decide +kernel
theorem dX5_init_37 : decode cX5_init 37 = .ok (.bipush 10, 2) := by decide +kernel
theorem dX5_init_39 : decode cX5_init 39 = .ok (.newarray .int, 2) := by decide +kernel
theorem dX5_init_41 : decode cX5_init 41 = .ok (.putfield 24, 3) := by decide +kernel
theorem dX5_init_44 : decode cX5_init 44 = .ok (.aload_n 0, 1) := by decide +kernel
theorem dX5_init_45 : decode cX5_init 45 = .ok (.iconst 0, 1) := by decide +kernel
theorem dX5_init_46 : decode cX5_init 46 = .ok (.putfield 27, 3) := by decide +kernel
theorem dX5_init_49 : decode cX5_init 49 = .ok (.aload_n 0, 1) := by decide +kernel
theorem dX5_init_50 : decode cX5_init 50 = .ok (.iconst 0, 1) := by decide +kernel
theorem dX5_init_51 : decode cX5_init 51 = .ok (.putfield 31, 3) := by decide +kernel
theorem dX5_init_54 : decode cX5_init 54 = .ok (.return_, 1) := by decide +kernel
theorem dX5_seatOneMore_0 : decode cX5_seatOneMore 0 = .ok (.aload_n 0, 1) := by decide +kernel
theorem dX5_seatOneMore_1 : decode cX5_seatOneMore 1 = .ok (.getfield 31, 3) := by decide +kernel
theorem dX5_seatOneMore_4 : decode cX5_seatOneMore 4 = .ok (.istore_n 2, 1) := by decide +kernel
theorem dX5_seatOneMore_5 : decode cX5_seatOneMore 5 = .ok (.iconst 0, 1) := by decide +kernel
theorem dX5_seatOneMore_6 : decode cX5_seatOneMore 6 = .ok (.istore_n 3, 1) := by decide +kernel
theorem dX5_seatOneMore_7 : decode cX5_seatOneMore 7 = .ok (.iload_n 1, 1) := by decide +kernel
theorem dX5_seatOneMore_8 : decode cX5_seatOneMore 8 = .ok (.istore 4, 2) := by decide +kernel
theorem dX5_seatOneMore_10 : decode cX5_seatOneMore 10 = .ok (.iload 4, 2) := by decide +kernel
theorem dX5_seatOneMore_12 : decode cX5_seatOneMore 12 = .ok (.aload_n 0, 1) := by decide +kernel
theorem dX5_seatOneMore_13 : decode cX5_seatOneMore 13 = .ok (.getfield 27, 3) := by decide +kernel
theorem dX5_seatOneMore_16 : decode cX5_seatOneMore 16 = .ok (.if_icmp .ge 31, 3) := by decide +kernel
theorem dX5_seatOneMore_19 : decode cX5_seatOneMore 19 = .ok (.aload_n 0, 1) := by decide +kernel
theorem dX5_seatOneMore_20 : decode cX5_seatOneMore 20 = .ok (.getfield 15, 3) := by decide +kernel
theorem dX5_seatOneMore_23 : decode cX5_seatOneMore 23 = .ok (.iload 4, 2) := by decide +kernel
theorem dX5_seatOneMore_25 : decode cX5_seatOneMore 25 = .ok (.iaload, 1) := by decide +kernel
theorem dX5_seatOneMore_26 : decode cX5_seatOneMore 26 = .ok (.iconst (-1), 1) := by decide +kernel
theorem dX5_seatOneMore_27 : decode cX5_seatOneMore 27 = .ok (.if_icmp .ne 14, 3) := by decide +kernel
theorem dX5_seatOneMore_30 : decode cX5_seatOneMore 30 = .ok (.aload_n 0, 1) := by decide +kernel
theorem dX5_seatOneMore_31 : decode cX5_seatOneMore 31 = .ok (.getfield 21, 3) := by decide +kernel
theorem dX5_seatOneMore_34 : decode cX5_seatOneMore 34 = .ok (.iload_n 3, 1) := by decide +kernel
theorem dX5_seatOneMore_35 : decode cX5_seatOneMore 35 = .ok (.iload 4, 2) := by decide +kernel
theorem dX5_seatOneMore_37 : decode cX5_seatOneMore 37 = .ok (.iastore, 1) := by decide +kernel
theorem dX5_seatOneMore_38 : decode cX5_seatOneMore 38 = .ok (.iinc 3 1, 3) := by decide +kernel
theorem dX5_seatOneMore_41 : decode cX5_seatOneMore 41 = .ok (.iinc 4 1, 3) := by decide +kernel
theorem dX5_seatOneMore_44 : decode cX5_seatOneMore 44 = .ok (.goto (-34), 3) := by decide +kernel
theorem dX5_seatOneMore_47 : decode cX5_seatOneMore 47 = .ok (.iconst 0, 1) := by decide +kernel
theorem dX5_seatOneMore_48 : decode cX5_seatOneMore 48 = .ok (.istore 4, 2) := by decide +kernel
theorem dX5_seatOneMore_50 : decode cX5_seatOneMore 50 = .ok (.iload 4, 2) := by decide +kernel
theorem dX5_seatOneMore_52 : decode cX5_seatOneMore 52 = .ok (.iload_n 3, 1) := by decide +kernel
theorem dX5_seatOneMore_53 : decode cX5_seatOneMore 53 = .ok (.if_icmp .ge 116, 3) := by decide +kernel
theorem dX5_seatOneMore_56 : decode cX5_seatOneMore 56 = .ok (.aload_n 0, 1) := by decide +kernel
theorem dX5_seatOneMore_57 : decode cX5_seatOneMore 57 = .ok (.getfield 9, 3) := by decide +kernel
theorem dX5_seatOneMore_60 : decode cX5_seatOneMore 60 = .ok (.aload_n 0, 1) := by decide +kernel
theorem dX5_seatOneMore_61 : decode cX5_seatOneMore 61 = .ok (.getfield 21, 3) := by decide +kernel
theorem dX5_seatOneMore_64 : decode cX5_seatOneMore 64 = .ok (.iload 4, 2) := by decide +kernel
theorem dX5_seatOneMore_66 : decode cX5_seatOneMore 66 = .ok (.iaload, 1) := by decide +kernel
theorem dX5_seatOneMore_67 : decode cX5_seatOneMore 67 = .ok (.iaload, 1) := by decide +kernel
theorem dX5_seatOneMore_68 : decode cX5_seatOneMore 68 = .ok (.iload_n 2, 1) := by decide +kernel
theorem dX5_seatOneMore_69 : decode cX5_seatOneMore 69 = .ok (.iconst (-1), 1) := by decide +kernel
theorem dX5_seatOneMore_70 : decode cX5_seatOneMore 70 = .ok (.ixor, 1) := by decide +kernel
theorem dX5_seatOneMore_71 : decode cX5_seatOneMore 71 = .ok (.iand, 1) := by decide +kernel
theorem dX5_seatOneMore_72 : decode cX5_seatOneMore 72 = .ok (.istore 5, 2) := by decide +kernel
theorem dX5_seatOneMore_74 : decode cX5_seatOneMore 74 = .ok (.iload_n 2, 1) := by decide +kernel
theorem dX5_seatOneMore_75 : decode cX5_seatOneMore 75 = .ok (.iload 5, 2) := by decide +kernel
theorem dX5_seatOneMore_77 : decode cX5_seatOneMore 77 = .ok (.ior, 1) := by decide +kernel
theorem dX5_seatOneMore_78 : decode cX5_seatOneMore 78 = .ok (.istore_n 2, 1) := by decide +kernel
theorem dX5_seatOneMore_79 : decode cX5_seatOneMore 79 = .ok (.iconst 0, 1) := by decide +kernel
theorem dX5_seatOneMore_80 : decode cX5_seatOneMore 80 = .ok (.istore 6, 2) := by decide +kernel
theorem dX5_seatOneMore_82 : decode cX5_seatOneMore 82 = .ok (.iload 6, 2) := by decide +kernel
theorem dX5_seatOneMore_84 : decode cX5_seatOneMore 84 = .ok (.bipush 10, 2) := by decide +kernel
theorem dX5_seatOneMore_86 : decode cX5_seatOneMore 86 = .ok (.if_icmp .ge 77, 3) := by decide +kernel
theorem dX5_seatOneMore_89 : decode cX5_seatOneMore 89 = .ok (.iload 5, 2) := by decide +kernel
theorem dX5_seatOneMore_91 : decode cX5_seatOneMore 91 = .ok (.iload 6, 2) := by decide +kernel
theorem dX5_seatOneMore_93 : decode cX5_seatOneMore 93 = .ok (.ishr, 1) := by decide +kernel
theorem dX5_seatOneMore_94 : decode cX5_seatOneMore 94 = .ok (.iconst 1, 1) := by decide +kernel
theorem dX5_seatOneMore_95 : decode cX5_seatOneMore 95 = .ok (.iand, 1) := by decide +kernel
theorem dX5_seatOneMore_96 : decode cX5_seatOneMore 96 = .ok (.ifCond .ne 6, 3) := by decide +kernel
theorem dX5_seatOneMore_99 : decode cX5_seatOneMore 99 = .ok (.goto 58, 3) := by decide +kernel
theorem dX5_seatOneMore_102 : decode cX5_seatOneMore 102 = .ok (.aload_n 0, 1) := by decide +kernel
theorem dX5_seatOneMore_103 : decode cX5_seatOneMore 103 = .ok (.getfield 24, 3) := by decide +kernel
theorem dX5_seatOneMore_106 : decode cX5_seatOneMore 106 = .ok (.iload 6, 2) := by decide +kernel
theorem dX5_seatOneMore_108 : decode cX5_seatOneMore 108 = .ok (.aload_n 0, 1) := by decide +kernel
theorem dX5_seatOneMore_109 : decode cX5_seatOneMore 109 = .ok (.getfield 21, 3) := by decide +kernel
theorem dX5_seatOneMore_112 : decode cX5_seatOneMore 112 = .ok (.iload 4, 2) := by decide +kernel
theorem dX5_seatOneMore_114 : decode cX5_seatOneMore 114 = .ok (.iaload, 1) := by decide +kernel
theorem dX5_seatOneMore_115 : decode cX5_seatOneMore 115 = .ok (.iastore, 1) := by decide +kernel
theorem dX5_seatOneMore_116 : decode cX5_seatOneMore 116 = .ok (.aload_n 0, 1) := by decide +kernel
theorem dX5_seatOneMore_117 : decode cX5_seatOneMore 117 = .ok (.getfield 18, 3) := by decide +kernel
theorem dX5_seatOneMore_120 : decode cX5_seatOneMore 120 = .ok (.iload 6, 2) := by decide +kernel
theorem dX5_seatOneMore_122 : decode cX5_seatOneMore 122 = .ok (.iaload, 1) := by decide +kernel
theorem dX5_seatOneMore_123 : decode cX5_seatOneMore 123 = .ok (.iconst (-1), 1) := by decide +kernel
theorem dX5_seatOneMore_124 : decode cX5_seatOneMore 124 = .ok (.if_icmp .ne 11, 3) := by decide +kernel
theorem dX5_seatOneMore_127 : decode cX5_seatOneMore 127 = .ok (.aload_n 0, 1) := by decide +kernel
theorem dX5_seatOneMore_128 : decode cX5_seatOneMore 128 = .ok (.iload 6, 2) := by decide +kernel
theorem dX5_seatOneMore_130 : decode cX5_seatOneMore 130 = .ok (.invokevirtual 58, 3) := by decide +kernel
theorem dX5_seatOneMore_133 : decode cX5_seatOneMore 133 = .ok (.iconst 1, 1) := by decide +kernel
theorem dX5_seatOneMore_134 : decode cX5_seatOneMore 134 = .ok (.ireturn, 1) := by decide +kernel
theorem dX5_seatOneMore_135 : decode cX5_seatOneMore 135 = .ok (.iload_n 3, 1) := by decide +kernel
theorem dX5_seatOneMore_136 : decode cX5_seatOneMore 136 = .ok (.bipush 12, 2) := by decide +kernel
theorem dX5_seatOneMore_138 : decode cX5_seatOneMore 138 = .ok (.if_icmp .ge 19, 3) := by decide +kernel
theorem dX5_seatOneMore_141 : decode cX5_seatOneMore 141 = .ok (.aload_n 0, 1) := by decide +kernel
theorem dX5_seatOneMore_142 : decode cX5_seatOneMore 142 = .ok (.getfield 21, 3) := by decide +kernel
theorem dX5_seatOneMore_145 : decode cX5_seatOneMore 145 = .ok (.iload_n 3, 1) := by decide +kernel
theorem dX5_seatOneMore_146 : decode cX5_seatOneMore 146 = .ok (.aload_n 0, 1) := by decide +kernel
theorem dX5_seatOneMore_147 : decode cX5_seatOneMore 147 = .ok (.getfield 18, 3) := by decide +kernel
theorem dX5_seatOneMore_150 : decode cX5_seatOneMore 150 = .ok (.iload 6, 2) := by decide +kernel
theorem dX5_seatOneMore_152 : decode cX5_seatOneMore 152 = .ok (.iaload, 1) := by decide +kernel
theorem dX5_seatOneMore_153 : decode cX5_seatOneMore 153 = .ok (.iastore, 1) := by decide +kernel
theorem dX5_seatOneMore_154 : decode cX5_seatOneMore 154 = .ok (.iinc 3 1, 3) := by decide +kernel
theorem dX5_seatOneMore_157 : decode cX5_seatOneMore 157 = .ok (.iinc 6 1, 3) := by decide +kernel
theorem dX5_seatOneMore_160 : decode cX5_seatOneMore 160 = .ok (.goto (-78), 3) := by decide +kernel
theorem dX5_seatOneMore_163 : decode cX5_seatOneMore 163 = .ok (.iinc 4 1, 3) := by decide +kernel
theorem dX5_seatOneMore_166 : decode cX5_seatOneMore 166 = .ok (.goto (-116), 3) := by decide +kernel
theorem dX5_seatOneMore_169 : decode cX5_seatOneMore 169 = .ok (.iconst 0, 1) := by decide +kernel
theorem dX5_seatOneMore_170 : decode cX5_seatOneMore 170 = .ok (.ireturn, 1) := by decide +kernel
theorem dX6_ends_0 : decode cX6_ends 0 = .ok (.aload_n 0, 1) := by decide +kernel
theorem dX6_ends_1 : decode cX6_ends 1 = .ok (.invokevirtual 50, 3) := by decide +kernel
theorem dX6_ends_4 : decode cX6_ends 4 = .ok (.aload_n 0, 1) := by decide +kernel
theorem dX6_ends_5 : decode cX6_ends 5 = .ok (.getfield 47, 3) := by decide +kernel
theorem dX6_ends_8 : decode cX6_ends 8 = .ok (.iadd, 1) := by decide +kernel
theorem dX6_ends_9 : decode cX6_ends 9 = .ok (.ireturn, 1) := by decide +kernel
theorem dX6_init_0 : decode cX6_init 0 = .ok (.aload_n 0, 1) := by decide +kernel
theorem dX6_init_1 : decode cX6_init 1 = .ok (.invokespecial 3, 3) := by decide +kernel
theorem dX6_init_4 : decode cX6_init 4 = .ok (.aload_n 0, 1) := by decide +kernel
theorem dX6_init_5 : decode cX6_init 5 = .ok (.iconst 5, 1) := by decide +kernel
theorem dX6_init_6 : decode cX6_init 6 = .ok (.newarray .int, 2) := by decide +kernel
theorem dX6_init_8 : decode cX6_init 8 = .ok (.putfield 9, 3) := by decide +kernel
theorem dX6_init_11 : decode cX6_init 11 = .ok (.aload_n 0, 1) := by decide +kernel
theorem dX6_init_12 : decode cX6_init 12 = .ok (.bipush 6, 2) := by decide +kernel
theorem dX6_init_14 : decode cX6_init 14 = .ok (.newarray .int, 2) := by decide +kernel
theorem dX6_init_16 : decode cX6_init 16 = .ok (.putfield 15, 3) := by decide +kernel
theorem dX6_init_19 : decode cX6_init 19 = .ok (.aload_n 0, 1) := by decide +kernel
theorem dX6_init_20 : decode cX6_init 20 = .ok (.bipush 12, 2) := by decide +kernel
theorem dX6_init_22 : decode cX6_init 22 = .ok (.newarray .int, 2) := by decide +kernel
theorem dX6_init_24 : decode cX6_init 24 = .ok (.putfield 18, 3) := by decide +kernel
theorem dX6_init_27 : decode cX6_init 27 = .ok (.aload_n 0, 1) := by decide +kernel
theorem dX6_init_28 : decode cX6_init 28 = .ok (.iconst 0, 1) := by decide +kernel
theorem dX6_init_29 : decode cX6_init 29 = .ok (.putfield 21, 3) := by decide +kernel
theorem dX6_init_32 : decode cX6_init 32 = .ok (.aload_n 0, 1) := by decide +kernel
theorem dX6_init_33 : decode cX6_init 33 = .ok (.iconst 0, 1) := by decide +kernel
theorem dX6_init_34 : decode cX6_init 34 = .ok (.putfield 25, 3) := by decide +kernel
theorem dX6_init_37 : decode cX6_init 37 = .ok (.aload_n 0, 1) := by decide +kernel
theorem dX6_init_38 : decode cX6_init 38 = .ok (.iconst 0, 1) := by decide +kernel
theorem dX6_init_39 : decode cX6_init 39 = .ok (.putfield 28, 3) := by decide +kernel
theorem dX6_init_42 : decode cX6_init 42 = .ok (.aload_n 0, 1) := by decide +kernel
theorem dX6_init_43 : decode cX6_init 43 = .ok (.iconst 0, 1) := by decide +kernel
theorem dX6_init_44 : decode cX6_init 44 = .ok (.putfield 31, 3) := by decide +kernel
theorem dX6_init_47 : decode cX6_init 47 = .ok (.aload_n 0, 1) := by decide +kernel
theorem dX6_init_48 : decode cX6_init 48 = .ok (.iconst 0, 1) := by decide +kernel
theorem dX6_init_49 : decode cX6_init 49 = .ok (.putfield 34, 3) := by decide +kernel
theorem dX6_init_52 : decode cX6_init 52 = .ok (.aload_n 0, 1) := by decide +kernel
theorem dX6_init_53 : decode cX6_init 53 = .ok (.iload_n 1, 1) := by decide +kernel
theorem dX6_init_54 : decode cX6_init 54 = .ok (.putfield 38, 3) := by decide +kernel
theorem dX6_init_57 : decode cX6_init 57 = .ok (.aload_n 0, 1) := by decide +kernel
theorem dX6_init_58 : decode cX6_init 58 = .ok (.iload_n 2, 1) := by decide +kernel
theorem dX6_init_59 : decode cX6_init 59 = .ok (.putfield 41, 3) := by decide +kernel
theorem dX6_init_62 : decode cX6_init 62 = .ok (.aload_n 0, 1) := by decide +kernel
theorem dX6_init_63 : decode cX6_init 63 = .ok (.iload_n 3, 1) := by decide +kernel
theorem dX6_init_64 : decode cX6_init 64 = .ok (.putfield 44, 3) := by decide +kernel
theorem dX6_init_67 : decode cX6_init 67 = .ok (.aload_n 0, 1) := by decide +kernel
theorem dX6_init_68 : decode cX6_init 68 = .ok (.iload 4, 2) := by decide +kernel
theorem dX6_init_70 : decode cX6_init 70 = .ok (.putfield 47, 3) := by decide +kernel
theorem dX6_init_73 : decode cX6_init 73 = .ok (.return_, 1) := by decide +kernel
theorem dX6_needWith_0 : decode cX6_needWith 0 = .ok (.aload_n 0, 1) := by decide +kernel
theorem dX6_needWith_1 : decode cX6_needWith 1 = .ok (.getfield 38, 3) := by decide +kernel
theorem dX6_needWith_4 : decode cX6_needWith 4 = .ok (.iconst 4, 1) := by decide +kernel
theorem dX6_needWith_5 : decode cX6_needWith 5 = .ok (.if_icmp .ne 7, 3) := by decide +kernel
theorem dX6_needWith_8 : decode cX6_needWith 8 = .ok (.iconst 1, 1) := by decide +kernel
theorem dX6_needWith_9 : decode cX6_needWith 9 = .ok (.goto 4, 3) := by decide +kernel
theorem dX6_needWith_12 : decode cX6_needWith 12 = .ok (.iconst 3, 1) := by decide +kernel
theorem dX6_needWith_13 : decode cX6_needWith 13 = .ok (.istore_n 3, 1) := by decide +kernel
theorem dX6_needWith_14 : decode cX6_needWith 14 = .ok (.aload_n 0, 1) := by decide +kernel
theorem dX6_needWith_15 : decode cX6_needWith 15 = .ok (.getfield 15, 3) := by decide +kernel
theorem dX6_needWith_18 : decode cX6_needWith 18 = .ok (.iload_n 2, 1) := by decide +kernel
theorem dX6_needWith_19 : decode cX6_needWith 19 = .ok (.iaload, 1) := by decide +kernel
theorem dX6_needWith_20 : decode cX6_needWith 20 = .ok (.iload_n 3, 1) := by decide +kernel
theorem dX6_needWith_21 : decode cX6_needWith 21 = .ok (.aload_n 1, 1) := by decide +kernel
theorem dX6_needWith_22 : decode cX6_needWith 22 = .ok (.iload_n 2, 1) := by decide +kernel
theorem dX6_needWith_23 : decode cX6_needWith 23 = .ok (.invokevirtual 64, 3) := by decide +kernel
theorem dX6_needWith_26 : decode cX6_needWith 26 = .ok (.invokestatic 70, 3) := by decide +kernel
theorem dX6_needWith_29 : decode cX6_needWith 29 = .ok (.invokestatic 76, 3) := by decide +kernel
theorem dX6_needWith_32 : decode cX6_needWith 32 = .ok (.ireturn, 1) := by decide +kernel
theorem dX6_workAt_0 : decode cX6_workAt 0 = .ok (.iload_n 1, 1) := by decide +kernel
theorem dX6_workAt_1 : decode cX6_workAt 1 = .ok (.iconst 0, 1) := by decide +kernel
theorem dX6_workAt_2 : decode cX6_workAt 2 = .ok (.aload_n 0, 1) := by decide +kernel
theorem dX6_workAt_3 : decode cX6_workAt 3 = .ok (.getfield 21, 3) := by decide +kernel
theorem dX6_workAt_6 : decode cX6_workAt 6 = .ok (.iconst 1, 1) := by decide +kernel
theorem dX6_workAt_7 : decode cX6_workAt 7 = .ok (.isub, 1) := by decide +kernel
theorem dX6_workAt_8 : decode cX6_workAt 8 = .ok (.invokestatic 60, 3) := by decide +kernel
theorem dX6_workAt_11 : decode cX6_workAt 11 = .ok (.ifCond .eq 12, 3) := by decide +kernel
theorem dX6_workAt_14 : decode cX6_workAt 14 = .ok (.aload_n 0, 1) := by decide +kernel
theorem dX6_workAt_15 : decode cX6_workAt 15 = .ok (.getfield 9, 3) := by decide +kernel
theorem dX6_workAt_18 : decode cX6_workAt 18 = .ok (.iload_n 1, 1) := by decide +kernel
theorem dX6_workAt_19 : decode cX6_workAt 19 = .ok (.iaload, 1) := by decide +kernel
theorem dX6_workAt_20 : decode cX6_workAt 20 = .ok (.goto 4, 3) := by decide +kernel
theorem dX6_workAt_23 : decode cX6_workAt 23 = .ok (.iconst (-1), 1) := by decide +kernel
theorem dX6_workAt_24 : decode cX6_workAt 24 = .ok (.ireturn, 1) := by decide +kernel
theorem dX7_endOf_0 : decode cX7_endOf 0 = .ok (.iload_n 1, 1) := by decide +kernel
theorem dX7_endOf_1 : decode cX7_endOf 1 = .ok (.iconst 0, 1) := by decide +kernel
theorem dX7_endOf_2 : decode cX7_endOf 2 = .ok (.aload_n 0, 1) := by decide +kernel
theorem dX7_endOf_3 : decode cX7_endOf 3 = .ok (.getfield 24, 3) := by decide +kernel
theorem dX7_endOf_6 : decode cX7_endOf 6 = .ok (.arraylength, 1) := by decide +kernel
theorem dX7_endOf_7 : decode cX7_endOf 7 = .ok (.iconst 1, 1) := by decide +kernel
theorem dX7_endOf_8 : decode cX7_endOf 8 = .ok (.isub, 1) := by decide +kernel
theorem dX7_endOf_9 : decode cX7_endOf 9 = .ok (.invokestatic 30, 3) := by decide +kernel
theorem dX7_endOf_12 : decode cX7_endOf 12 = .ok (.ifCond .eq 20, 3) := by decide +kernel
theorem dX7_endOf_15 : decode cX7_endOf 15 = .ok (.aload_n 0, 1) := by decide +kernel
theorem dX7_endOf_16 : decode cX7_endOf 16 = .ok (.getfield 24, 3) := by decide +kernel
theorem dX7_endOf_19 : decode cX7_endOf 19 = .ok (.iload_n 1, 1) := by decide +kernel
theorem dX7_endOf_20 : decode cX7_endOf 20 = .ok (.iaload, 1) := by decide +kernel
theorem dX7_endOf_21 : decode cX7_endOf 21 = .ok (.aload_n 0, 1) := by decide +kernel
theorem dX7_endOf_22 : decode cX7_endOf 22 = .ok (.getfield 20, 3) := by decide +kernel
theorem dX7_endOf_25 : decode cX7_endOf 25 = .ok (.arraylength, 1) := by decide +kernel
theorem dX7_endOf_26 : decode cX7_endOf 26 = .ok (.invokestatic 36, 3) := by decide +kernel
theorem dX7_endOf_29 : decode cX7_endOf 29 = .ok (.goto 4, 3) := by decide +kernel
theorem dX7_endOf_32 : decode cX7_endOf 32 = .ok (.iconst 0, 1) := by decide +kernel
theorem dX7_endOf_33 : decode cX7_endOf 33 = .ok (.ireturn, 1) := by decide +kernel
theorem dX7_init_0 : decode cX7_init 0 = .ok (.aload_n 0, 1) := by decide +kernel
theorem dX7_init_1 : decode cX7_init 1 = .ok (.invokespecial 1, 3) := by decide +kernel
theorem dX7_init_4 : decode cX7_init 4 = .ok (.aload_n 0, 1) := by decide +kernel
theorem dX7_init_5 : decode cX7_init 5 = .ok (.iconst 0, 1) := by decide +kernel
theorem dX7_init_6 : decode cX7_init 6 = .ok (.putfield 7, 3) := by decide +kernel
theorem dX7_init_9 : decode cX7_init 9 = .ok (.aload_n 0, 1) := by decide +kernel
theorem dX7_init_10 : decode cX7_init 10 = .ok (.iconst 0, 1) := by decide +kernel
theorem dX7_init_11 : decode cX7_init 11 = .ok (.putfield 13, 3) := by decide +kernel
theorem dX7_init_14 : decode cX7_init 14 = .ok (.aload_n 0, 1) := by decide +kernel
theorem dX7_init_15 : decode cX7_init 15 = .ok (.aload_n 1, 1) := by decide +kernel
theorem dX7_init_16 : decode cX7_init 16 = .ok (.putfield 16, 3) := by decide +kernel
theorem dX7_init_19 : decode cX7_init 19 = .ok (.aload_n 0, 1) := by decide +kernel
theorem dX7_init_20 : decode cX7_init 20 = .ok (.aload_n 2, 1) := by decide +kernel
theorem dX7_init_21 : decode cX7_init 21 = .ok (.putfield 20, 3) := by decide +kernel
theorem dX7_init_24 : decode cX7_init 24 = .ok (.aload_n 0, 1) := by decide +kernel
theorem dX7_init_25 : decode cX7_init 25 = .ok (.aload_n 3, 1) := by decide +kernel
theorem dX7_init_26 : decode cX7_init 26 = .ok (.putfield 24, 3) := by decide +kernel
theorem dX7_init_29 : decode cX7_init 29 = .ok (.aload_n 0, 1) := by decide +kernel
theorem dX7_init_30 : decode cX7_init 30 = .ok (.aload_n 3, 1) := by decide +kernel
theorem dX7_init_31 : decode cX7_init 31 = .ok (.arraylength, 1) := by decide +kernel
theorem dX7_init_32 : decode cX7_init 32 = .ok (.iconst 2, 1) := by decide +kernel
theorem dX7_init_33 : decode cX7_init 33 = .ok (.isub, 1) := by decide +kernel
theorem dX7_init_34 : decode cX7_init 34 = .ok (.putfield 27, 3) := by decide +kernel
theorem dX7_init_37 : decode cX7_init 37 = .ok (.return_, 1) := by decide +kernel
theorem dX7_startOf_0 : decode cX7_startOf 0 = .ok (.iload_n 1, 1) := by decide +kernel
theorem dX7_startOf_1 : decode cX7_startOf 1 = .ok (.iconst 1, 1) := by decide +kernel
theorem dX7_startOf_2 : decode cX7_startOf 2 = .ok (.aload_n 0, 1) := by decide +kernel
theorem dX7_startOf_3 : decode cX7_startOf 3 = .ok (.getfield 24, 3) := by decide +kernel
theorem dX7_startOf_6 : decode cX7_startOf 6 = .ok (.arraylength, 1) := by decide +kernel
theorem dX7_startOf_7 : decode cX7_startOf 7 = .ok (.invokestatic 30, 3) := by decide +kernel
theorem dX7_startOf_10 : decode cX7_startOf 10 = .ok (.ifCond .eq 14, 3) := by decide +kernel
theorem dX7_startOf_13 : decode cX7_startOf 13 = .ok (.aload_n 0, 1) := by decide +kernel
theorem dX7_startOf_14 : decode cX7_startOf 14 = .ok (.getfield 24, 3) := by decide +kernel
theorem dX7_startOf_17 : decode cX7_startOf 17 = .ok (.iload_n 1, 1) := by decide +kernel
theorem dX7_startOf_18 : decode cX7_startOf 18 = .ok (.iconst 1, 1) := by decide +kernel
theorem dX7_startOf_19 : decode cX7_startOf 19 = .ok (.isub, 1) := by decide +kernel
theorem dX7_startOf_20 : decode cX7_startOf 20 = .ok (.iaload, 1) := by decide +kernel
theorem dX7_startOf_21 : decode cX7_startOf 21 = .ok (.goto 4, 3) := by decide +kernel
theorem dX7_startOf_24 : decode cX7_startOf 24 = .ok (.iconst 0, 1) := by decide +kernel
theorem dX7_startOf_25 : decode cX7_startOf 25 = .ok (.ireturn, 1) := by decide +kernel
theorem dX9_elementAt_0 : decode cX9_elementAt 0 = .ok (.aload_n 0, 1) := by decide +kernel
theorem dX9_elementAt_1 : decode cX9_elementAt 1 = .ok (.getfield 30, 3) := by decide +kernel
theorem dX9_elementAt_4 : decode cX9_elementAt 4 = .ok (.iconst 2, 1) := by decide +kernel
theorem dX9_elementAt_5 : decode cX9_elementAt 5 = .ok (.if_icmp .ne 36, 3) := by decide +kernel
theorem dX9_elementAt_8 : decode cX9_elementAt 8 = .ok (.aload_n 0, 1) := by decide +kernel
theorem dX9_elementAt_9 : decode cX9_elementAt 9 = .ok (.getfield 19, 3) := by decide +kernel
theorem dX9_elementAt_12 : decode cX9_elementAt 12 = .ok (.ifnull 27, 3) := by decide +kernel
theorem dX9_elementAt_15 : decode cX9_elementAt 15 = .ok (.iload_n 1, 1) := by decide +kernel
theorem dX9_elementAt_16 : decode cX9_elementAt 16 = .ok (.iconst 0, 1) := by decide +kernel
theorem dX9_elementAt_17 : decode cX9_elementAt 17 = .ok (.aload_n 0, 1) := by decide +kernel
theorem dX9_elementAt_18 : decode cX9_elementAt 18 = .ok (.getfield 19, 3) := by decide +kernel
theorem dX9_elementAt_21 : decode cX9_elementAt 21 = .ok (.arraylength, 1) := by decide +kernel
theorem dX9_elementAt_22 : decode cX9_elementAt 22 = .ok (.iconst 1, 1) := by decide +kernel
theorem dX9_elementAt_23 : decode cX9_elementAt 23 = .ok (.isub, 1) := by decide +kernel
theorem dX9_elementAt_24 : decode cX9_elementAt 24 = .ok (.invokestatic 33, 3) := by decide +kernel
theorem dX9_elementAt_27 : decode cX9_elementAt 27 = .ok (.ifCond .eq 12, 3) := by decide +kernel
theorem dX9_elementAt_30 : decode cX9_elementAt 30 = .ok (.aload_n 0, 1) := by decide +kernel
theorem dX9_elementAt_31 : decode cX9_elementAt 31 = .ok (.getfield 19, 3) := by decide +kernel
theorem dX9_elementAt_34 : decode cX9_elementAt 34 = .ok (.iload_n 1, 1) := by decide +kernel
theorem dX9_elementAt_35 : decode cX9_elementAt 35 = .ok (.baload, 1) := by decide +kernel
theorem dX9_elementAt_36 : decode cX9_elementAt 36 = .ok (.goto 4, 3) := by decide +kernel
theorem dX9_elementAt_39 : decode cX9_elementAt 39 = .ok (.iconst 0, 1) := by decide +kernel
theorem dX9_elementAt_40 : decode cX9_elementAt 40 = .ok (.ireturn, 1) := by decide +kernel
theorem dX9_elementAt_41 : decode cX9_elementAt 41 = .ok (.aload_n 0, 1) := by decide +kernel
theorem dX9_elementAt_42 : decode cX9_elementAt 42 = .ok (.getfield 30, 3) := by decide +kernel
theorem dX9_elementAt_45 : decode cX9_elementAt 45 = .ok (.iconst 3, 1) := by decide +kernel
theorem dX9_elementAt_46 : decode cX9_elementAt 46 = .ok (.if_icmp .ne 30, 3) := by decide +kernel
theorem dX9_elementAt_49 : decode cX9_elementAt 49 = .ok (.iload_n 1, 1) := by decide +kernel
theorem dX9_elementAt_50 : decode cX9_elementAt 50 = .ok (.iconst 0, 1) := by decide +kernel
theorem dX9_elementAt_51 : decode cX9_elementAt 51 = .ok (.aload_n 0, 1) := by decide +kernel
theorem dX9_elementAt_52 : decode cX9_elementAt 52 = .ok (.getfield 9, 3) := by decide +kernel
theorem dX9_elementAt_55 : decode cX9_elementAt 55 = .ok (.arraylength, 1) := by decide +kernel
theorem dX9_elementAt_56 : decode cX9_elementAt 56 = .ok (.iconst 1, 1) := by decide +kernel
theorem dX9_elementAt_57 : decode cX9_elementAt 57 = .ok (.isub, 1) := by decide +kernel
theorem dX9_elementAt_58 : decode cX9_elementAt 58 = .ok (.invokestatic 33, 3) := by decide +kernel
theorem dX9_elementAt_61 : decode cX9_elementAt 61 = .ok (.ifCond .eq 13, 3) := by decide +kernel
theorem dX9_elementAt_64 : decode cX9_elementAt 64 = .ok (.aload_n 0, 1) := by decide +kernel
theorem dX9_elementAt_65 : decode cX9_elementAt 65 = .ok (.getfield 9, 3) := by decide +kernel
theorem dX9_elementAt_68 : decode cX9_elementAt 68 = .ok (.iload_n 1, 1) := by decide +kernel
theorem dX9_elementAt_69 : decode cX9_elementAt 69 = .ok (.laload, 1) := by decide +kernel
theorem dX9_elementAt_70 : decode cX9_elementAt 70 = .ok (.l2i, 1) := by decide +kernel
theorem dX9_elementAt_71 : decode cX9_elementAt 71 = .ok (.goto 4, 3) := by decide +kernel
theorem dX9_elementAt_74 : decode cX9_elementAt 74 = .ok (.iconst 0, 1) := by decide +kernel
theorem dX9_elementAt_75 : decode cX9_elementAt 75 = .ok (.ireturn, 1) := by decide +kernel
theorem dX9_elementAt_76 : decode cX9_elementAt 76 = .ok (.aload_n 0, 1) := by decide +kernel
theorem dX9_elementAt_77 : decode cX9_elementAt 77 = .ok (.getfield 23, 3) := by decide +kernel
theorem dX9_elementAt_80 : decode cX9_elementAt 80 = .ok (.iload_n 1, 1) := by decide +kernel
theorem dX9_elementAt_81 : decode cX9_elementAt 81 = .ok (.ishr, 1) := by decide +kernel
theorem dX9_elementAt_82 : decode cX9_elementAt 82 = .ok (.iconst 1, 1) := by decide +kernel
theorem dX9_elementAt_83 : decode cX9_elementAt 83 = .ok (.iand, 1) := by decide +kernel
theorem dX9_elementAt_84 : decode cX9_elementAt 84 = .ok (.ireturn, 1) := by decide +kernel
theorem dX9_holdsKind_0 : decode cX9_holdsKind 0 = .ok (.aload_n 0, 1) := by decide +kernel
theorem dX9_holdsKind_1 : decode cX9_holdsKind 1 = .ok (.getfield 30, 3) := by decide +kernel
theorem dX9_holdsKind_4 : decode cX9_holdsKind 4 = .ok (.iconst 1, 1) := by decide +kernel
theorem dX9_holdsKind_5 : decode cX9_holdsKind 5 = .ok (.if_icmp .ne 25, 3) := by decide +kernel
theorem dX9_holdsKind_8 : decode cX9_holdsKind 8 = .ok (.aload_n 0, 1) := by decide +kernel
theorem dX9_holdsKind_9 : decode cX9_holdsKind 9 = .ok (.getfield 15, 3) := by decide +kernel
theorem dX9_holdsKind_12 : decode cX9_holdsKind 12 = .ok (.ifnull 18, 3) := by decide +kernel
theorem dX9_holdsKind_15 : decode cX9_holdsKind 15 = .ok (.aload_n 0, 1) := by decide +kernel
theorem dX9_holdsKind_16 : decode cX9_holdsKind 16 = .ok (.getfield 15, 3) := by decide +kernel
theorem dX9_holdsKind_19 : decode cX9_holdsKind 19 = .ok (.iload_n 1, 1) := by decide +kernel
theorem dX9_holdsKind_20 : decode cX9_holdsKind 20 = .ok (.invokevirtual 37, 3) := by decide +kernel
theorem dX9_holdsKind_23 : decode cX9_holdsKind 23 = .ok (.ifCond .eq 7, 3) := by decide +kernel
theorem dX9_holdsKind_26 : decode cX9_holdsKind 26 = .ok (.iconst 1, 1) := by decide +kernel
theorem dX9_holdsKind_27 : decode cX9_holdsKind 27 = .ok (.goto 4, 3) := by decide +kernel
theorem dX9_holdsKind_30 : decode cX9_holdsKind 30 = .ok (.iconst 0, 1) := by decide +kernel
theorem dX9_holdsKind_31 : decode cX9_holdsKind 31 = .ok (.ireturn, 1) := by decide +kernel
theorem dX9_init_0 : decode cX9_init 0 = .ok (.aload_n 0, 1) := by decide +kernel
theorem dX9_init_1 : decode cX9_init 1 = .ok (.invokespecial 3, 3) := by decide +kernel
theorem dX9_init_4 : decode cX9_init 4 = .ok (.aload_n 0, 1) := by decide +kernel
theorem dX9_init_5 : decode cX9_init 5 = .ok (.bipush 10, 2) := by decide +kernel
theorem dX9_init_7 : decode cX9_init 7 = .ok (.newarray .long, 2) := by decide +kernel
theorem dX9_init_9 : decode cX9_init 9 = .ok (.putfield 9, 3) := by decide +kernel
theorem dX9_init_12 : decode cX9_init 12 = .ok (.aload_n 0, 1) := by decide +kernel
theorem dX9_init_13 : decode cX9_init 13 = .ok (.aconst_null, 1) := by decide +kernel
theorem dX9_init_14 : decode cX9_init 14 = .ok (.putfield 15, 3) := by decide +kernel
theorem dX9_init_17 : decode cX9_init 17 = .ok (.aload_n 0, 1) := by decide +kernel
theorem dX9_init_18 : decode cX9_init 18 = .ok (.aconst_null, 1) := by decide +kernel
theorem dX9_init_19 : decode cX9_init 19 = .ok (.putfield 19, 3) := by decide +kernel
theorem dX9_init_22 : decode cX9_init 22 = .ok (.aload_n 0, 1) := by decide +kernel
theorem dX9_init_23 : decode cX9_init 23 = .ok (.iconst 0, 1) := by decide +kernel
theorem dX9_init_24 : decode cX9_init 24 = .ok (.putfield 23, 3) := by decide +kernel
theorem dX9_init_27 : decode cX9_init 27 = .ok (.aload_n 0, 1) := by decide +kernel
theorem dX9_init_28 : decode cX9_init 28 = .ok (.iconst 0, 1) := by decide +kernel
theorem dX9_init_29 : decode cX9_init 29 = .ok (.putfield 27, 3) := by decide +kernel
theorem dX9_init_32 : decode cX9_init 32 = .ok (.aload_n 0, 1) := by decide +kernel
theorem dX9_init_33 : decode cX9_init 33 = .ok (.iconst 0, 1) := by decide +kernel
theorem dX9_init_34 : decode cX9_init 34 = .ok (.putfield 30, 3) := by decide +kernel
theorem dX9_init_37 : decode cX9_init 37 = .ok (.return_, 1) := by decide +kernel
theorem dX0_choose_0 : decode cX0_choose 0 = .ok (.ldc 28, 2) := by decide +kernel
theorem dX0_choose_2 : decode cX0_choose 2 = .ok (.istore_n 3, 1) := by decide +kernel
theorem dX0_choose_3 : decode cX0_choose 3 = .ok (.iload_n 2, 1) := by decide +kernel
theorem dX0_choose_4 : decode cX0_choose 4 = .ok (.aload_n 0, 1) := by decide +kernel
theorem dX0_choose_5 : decode cX0_choose 5 = .ok (.getfield 18, 3) := by decide +kernel
theorem dX0_choose_8 : decode cX0_choose 8 = .ok (.invokestatic 44, 3) := by decide +kernel
theorem dX0_choose_11 : decode cX0_choose 11 = .ok (.istore 4, 2) := by decide +kernel
theorem dX0_choose_13 : decode cX0_choose 13 = .ok (.iload_n 1, 1) := by decide +kernel
theorem dX0_choose_14 : decode cX0_choose 14 = .ok (.iconst 0, 1) := by decide +kernel
theorem dX0_choose_15 : decode cX0_choose 15 = .ok (.invokestatic 50, 3) := by decide +kernel
theorem dX0_choose_18 : decode cX0_choose 18 = .ok (.istore 5, 2) := by decide +kernel
theorem dX0_choose_20 : decode cX0_choose 20 = .ok (.iload 5, 2) := by decide +kernel
theorem dX0_choose_22 : decode cX0_choose 22 = .ok (.iload 4, 2) := by decide +kernel
theorem dX0_choose_24 : decode cX0_choose 24 = .ok (.if_icmp .gt 21, 3) := by decide +kernel
theorem dX0_choose_27 : decode cX0_choose 27 = .ok (.iload_n 3, 1) := by decide +kernel
theorem dX0_choose_28 : decode cX0_choose 28 = .ok (.aload_n 0, 1) := by decide +kernel
theorem dX0_choose_29 : decode cX0_choose 29 = .ok (.getfield 15, 3) := by decide +kernel
theorem dX0_choose_32 : decode cX0_choose 32 = .ok (.iload 5, 2) := by decide +kernel
theorem dX0_choose_34 : decode cX0_choose 34 = .ok (.iaload, 1) := by decide +kernel
theorem dX0_choose_35 : decode cX0_choose 35 = .ok (.invokestatic 44, 3) := by decide +kernel
theorem dX0_choose_38 : decode cX0_choose 38 = .ok (.istore_n 3, 1) := by decide +kernel
theorem dX0_choose_39 : decode cX0_choose 39 = .ok (.iinc 5 1, 3) := by decide +kernel
theorem dX0_choose_42 : decode cX0_choose 42 = .ok (.goto (-22), 3) := by decide +kernel
theorem dX0_choose_45 : decode cX0_choose 45 = .ok (.iload_n 3, 1) := by decide +kernel
theorem dX0_choose_46 : decode cX0_choose 46 = .ok (.ldc 28, 2) := by decide +kernel
theorem dX0_choose_48 : decode cX0_choose 48 = .ok (.if_icmp .ne 7, 3) := by decide +kernel
theorem dX0_choose_51 : decode cX0_choose 51 = .ok (.iconst (-1), 1) := by decide +kernel
theorem dX0_choose_52 : decode cX0_choose 52 = .ok (.goto 7, 3) := by decide +kernel
theorem dX0_choose_55 : decode cX0_choose 55 = .ok (.iload_n 3, 1) := by decide +kernel
theorem dX0_choose_56 : decode cX0_choose 56 = .ok (.invokestatic 53, 3) := by decide +kernel
theorem dX0_choose_59 : decode cX0_choose 59 = .ok (.ireturn, 1) := by decide +kernel
theorem dX11_force_0 : decode cX11_force 0 = .ok (.iload_n 1, 1) := by decide +kernel
theorem dX11_force_1 : decode cX11_force 1 = .ok (.iconst 0, 1) := by decide +kernel
theorem dX11_force_2 : decode cX11_force 2 = .ok (.aload_n 0, 1) := by decide +kernel
theorem dX11_force_3 : decode cX11_force 3 = .ok (.getfield 88, 3) := by decide +kernel
theorem dX11_force_6 : decode cX11_force 6 = .ok (.iconst 1, 1) := by decide +kernel
theorem dX11_force_7 : decode cX11_force 7 = .ok (.isub, 1) := by decide +kernel
theorem dX11_force_8 : decode cX11_force 8 = .ok (.invokestatic 124, 3) := by decide +kernel
theorem dX11_force_11 : decode cX11_force 11 = .ok (.ifCond .eq 10, 3) := by decide +kernel
theorem dX11_force_14 : decode cX11_force 14 = .ok (.iload_n 2, 1) := by decide +kernel
theorem dX11_force_15 : decode cX11_force 15 = .ok (.invokestatic 167, 3) := by decide +kernel
theorem dX11_force_18 : decode cX11_force 18 = .ok (.ifCond .ne 6, 3) := by decide +kernel
theorem dX11_force_21 : decode cX11_force 21 = .ok (.bipush (-2), 2) := by decide +kernel
theorem dX11_force_23 : decode cX11_force 23 = .ok (.ireturn, 1) := by decide +kernel
theorem dX11_force_24 : decode cX11_force 24 = .ok (.aload_n 0, 1) := by decide +kernel
theorem dX11_force_25 : decode cX11_force 25 = .ok (.iload_n 1, 1) := by decide +kernel
theorem dX11_force_26 : decode cX11_force 26 = .ok (.iload_n 2, 1) := by decide +kernel
theorem dX11_force_27 : decode cX11_force 27 = .ok (.invokevirtual 120, 3) := by decide +kernel
theorem dX11_force_30 : decode cX11_force 30 = .ok (.iconst 1, 1) := by decide +kernel
theorem dX11_force_31 : decode cX11_force 31 = .ok (.ireturn, 1) := by decide +kernel
theorem dX11_forgeDay_0 : decode cX11_forgeDay 0 = .ok (.aload_n 1, 1) := by decide +kernel
theorem dX11_forgeDay_1 : decode cX11_forgeDay 1 = .ok (.getfield 319, 3) := by decide +kernel
theorem dX11_forgeDay_4 : decode cX11_forgeDay 4 = .ok (.ifCond .ne 10, 3) := by decide +kernel
theorem dX11_forgeDay_7 : decode cX11_forgeDay 7 = .ok (.aload_n 0, 1) := by decide +kernel
theorem dX11_forgeDay_8 : decode cX11_forgeDay 8 = .ok (.bipush 10, 2) := by decide +kernel
theorem dX11_forgeDay_10 : decode cX11_forgeDay 10 = .ok (.invokevirtual 316, 3) := by decide +kernel
theorem dX11_forgeDay_13 : decode cX11_forgeDay 13 = .ok (.ireturn, 1) := by decide +kernel
theorem dX11_forgeDay_14 : decode cX11_forgeDay 14 = .ok (.aload_n 1, 1) := by decide +kernel
theorem dX11_forgeDay_15 : decode cX11_forgeDay 15 = .ok (.iload_n 2, 1) := by decide +kernel
theorem dX11_forgeDay_16 : decode cX11_forgeDay 16 = .ok (.invokevirtual 459, 3) := by decide +kernel
theorem dX11_forgeDay_19 : decode cX11_forgeDay 19 = .ok (.ifCond .ne 10, 3) := by decide +kernel
theorem dX11_forgeDay_22 : decode cX11_forgeDay 22 = .ok (.aload_n 0, 1) := by decide +kernel
theorem dX11_forgeDay_23 : decode cX11_forgeDay 23 = .ok (.bipush 11, 2) := by decide +kernel
theorem dX11_forgeDay_25 : decode cX11_forgeDay 25 = .ok (.invokevirtual 316, 3) := by decide +kernel
theorem dX11_forgeDay_28 : decode cX11_forgeDay 28 = .ok (.ireturn, 1) := by decide +kernel
theorem dX11_forgeDay_29 : decode cX11_forgeDay 29 = .ok (.aload_n 0, 1) := by decide +kernel
theorem dX11_forgeDay_30 : decode cX11_forgeDay 30 = .ok (.aload_n 1, 1) := by decide +kernel
theorem dX11_forgeDay_31 : decode cX11_forgeDay 31 = .ok (.getfield 322, 3) := by decide +kernel
theorem dX11_forgeDay_34 : decode cX11_forgeDay 34 = .ok (.getfield 221, 3) := by decide +kernel
theorem dX11_forgeDay_37 : decode cX11_forgeDay 37 = .ok (.invokevirtual 337, 3) := by decide +kernel
theorem dX11_forgeDay_40 : decode cX11_forgeDay 40 = .ok (.ireturn, 1) := by decide +kernel
theorem dX11_forgeLaid_0 : decode cX11_forgeLaid 0 = .ok (.aload_n 1, 1) := by decide +kernel
theorem dX11_forgeLaid_1 : decode cX11_forgeLaid 1 = .ok (.getfield 319, 3) := by decide +kernel
theorem dX11_forgeLaid_4 : decode cX11_forgeLaid 4 = .ok (.ifCond .ne 9, 3) := by decide +kernel
theorem dX11_forgeLaid_7 : decode cX11_forgeLaid 7 = .ok (.aload_n 0, 1) := by decide +kernel
theorem dX11_forgeLaid_8 : decode cX11_forgeLaid 8 = .ok (.iconst 0, 1) := by decide +kernel
theorem dX11_forgeLaid_9 : decode cX11_forgeLaid 9 = .ok (.invokevirtual 337, 3) := by decide +kernel
theorem dX11_forgeLaid_12 : decode cX11_forgeLaid 12 = .ok (.ireturn, 1) := by decide +kernel
theorem dX11_forgeLaid_13 : decode cX11_forgeLaid 13 = .ok (.aload_n 1, 1) := by decide +kernel
theorem dX11_forgeLaid_14 : decode cX11_forgeLaid 14 = .ok (.iconst 1, 1) := by decide +kernel
theorem dX11_forgeLaid_15 : decode cX11_forgeLaid 15 = .ok (.invokevirtual 459, 3) := by decide +kernel
theorem dX11_forgeLaid_18 : decode cX11_forgeLaid 18 = .ok (.ifCond .ne 10, 3) := by decide +kernel
theorem dX11_forgeLaid_21 : decode cX11_forgeLaid 21 = .ok (.aload_n 0, 1) := by decide +kernel
theorem dX11_forgeLaid_22 : decode cX11_forgeLaid 22 = .ok (.bipush 14, 2) := by decide +kernel
theorem dX11_forgeLaid_24 : decode cX11_forgeLaid 24 = .ok (.invokevirtual 316, 3) := by decide +kernel
theorem dX11_forgeLaid_27 : decode cX11_forgeLaid 27 = .ok (.ireturn, 1) := by decide +kernel
theorem dX11_forgeLaid_28 : decode cX11_forgeLaid 28 = .ok (.aload_n 0, 1) := by decide +kernel
theorem dX11_forgeLaid_29 : decode cX11_forgeLaid 29 = .ok (.aload_n 1, 1) := by decide +kernel
theorem dX11_forgeLaid_30 : decode cX11_forgeLaid 30 = .ok (.getfield 322, 3) := by decide +kernel
theorem dX11_forgeLaid_33 : decode cX11_forgeLaid 33 = .ok (.getfield 221, 3) := by decide +kernel
theorem dX11_forgeLaid_36 : decode cX11_forgeLaid 36 = .ok (.invokevirtual 337, 3) := by decide +kernel
theorem dX11_forgeLaid_39 : decode cX11_forgeLaid 39 = .ok (.ireturn, 1) := by decide +kernel
theorem dX11_forgePlace_0 : decode cX11_forgePlace 0 = .ok (.aload_n 1, 1) := by decide +kernel
theorem dX11_forgePlace_1 : decode cX11_forgePlace 1 = .ok (.getfield 319, 3) := by decide +kernel
theorem dX11_forgePlace_4 : decode cX11_forgePlace 4 = .ok (.ifCond .ne 10, 3) := by decide +kernel
theorem dX11_forgePlace_7 : decode cX11_forgePlace 7 = .ok (.aload_n 0, 1) := by decide +kernel
theorem dX11_forgePlace_8 : decode cX11_forgePlace 8 = .ok (.bipush 10, 2) := by decide +kernel
theorem dX11_forgePlace_10 : decode cX11_forgePlace 10 = .ok (.invokevirtual 316, 3) := by decide +kernel
theorem dX11_forgePlace_13 : decode cX11_forgePlace 13 = .ok (.ireturn, 1) := by decide +kernel
theorem dX11_forgePlace_14 : decode cX11_forgePlace 14 = .ok (.aload_n 1, 1) := by decide +kernel
theorem dX11_forgePlace_15 : decode cX11_forgePlace 15 = .ok (.getfield 319, 3) := by decide +kernel
theorem dX11_forgePlace_18 : decode cX11_forgePlace 18 = .ok (.iload_n 2, 1) := by decide +kernel
theorem dX11_forgePlace_19 : decode cX11_forgePlace 19 = .ok (.if_icmp .eq 10, 3) := by decide +kernel
theorem dX11_forgePlace_22 : decode cX11_forgePlace 22 = .ok (.aload_n 0, 1) := by decide +kernel
theorem dX11_forgePlace_23 : decode cX11_forgePlace 23 = .ok (.bipush 11, 2) := by decide +kernel
theorem dX11_forgePlace_25 : decode cX11_forgePlace 25 = .ok (.invokevirtual 316, 3) := by decide +kernel
theorem dX11_forgePlace_28 : decode cX11_forgePlace 28 = .ok (.ireturn, 1) := by decide +kernel
theorem dX11_forgePlace_29 : decode cX11_forgePlace 29 = .ok (.iload_n 3, 1) := by decide +kernel
theorem dX11_forgePlace_30 : decode cX11_forgePlace 30 = .ok (.iconst 0, 1) := by decide +kernel
theorem dX11_forgePlace_31 : decode cX11_forgePlace 31 = .ok (.aload_n 1, 1) := by decide +kernel
theorem dX11_forgePlace_32 : decode cX11_forgePlace 32 = .ok (.getfield 449, 3) := by decide +kernel
theorem dX11_forgePlace_35 : decode cX11_forgePlace 35 = .ok (.iconst 1, 1) := by decide +kernel
theorem dX11_forgePlace_36 : decode cX11_forgePlace 36 = .ok (.isub, 1) := by decide +kernel
theorem dX11_forgePlace_37 : decode cX11_forgePlace 37 = .ok (.invokestatic 124, 3) := by decide +kernel
theorem dX11_forgePlace_40 : decode cX11_forgePlace 40 = .ok (.ifCond .ne 10, 3) := by decide +kernel
theorem dX11_forgePlace_43 : decode cX11_forgePlace 43 = .ok (.aload_n 0, 1) := by decide +kernel
theorem dX11_forgePlace_44 : decode cX11_forgePlace 44 = .ok (.bipush 12, 2) := by decide +kernel
theorem dX11_forgePlace_46 : decode cX11_forgePlace 46 = .ok (.invokevirtual 316, 3) := by decide +kernel
theorem dX11_forgePlace_49 : decode cX11_forgePlace 49 = .ok (.ireturn, 1) := by decide +kernel
theorem dX11_forgePlace_50 : decode cX11_forgePlace 50 = .ok (.aload_n 0, 1) := by decide +kernel
theorem dX11_forgePlace_51 : decode cX11_forgePlace 51 = .ok (.aload_n 1, 1) := by decide +kernel
theorem dX11_forgePlace_52 : decode cX11_forgePlace 52 = .ok (.iload_n 3, 1) := by decide +kernel
theorem dX11_forgePlace_53 : decode cX11_forgePlace 53 = .ok (.invokevirtual 462, 3) := by decide +kernel
theorem dX11_forgePlace_56 : decode cX11_forgePlace 56 = .ok (.invokevirtual 337, 3) := by decide +kernel
theorem dX11_forgePlace_59 : decode cX11_forgePlace 59 = .ok (.ireturn, 1) := by decide +kernel
theorem dX11_inForce_0 : decode cX11_inForce 0 = .ok (.iload_n 1, 1) := by decide +kernel
theorem dX11_inForce_1 : decode cX11_inForce 1 = .ok (.invokestatic 167, 3) := by decide +kernel
theorem dX11_inForce_4 : decode cX11_inForce 4 = .ok (.ifCond .eq 11, 3) := by decide +kernel
theorem dX11_inForce_7 : decode cX11_inForce 7 = .ok (.aload_n 0, 1) := by decide +kernel
theorem dX11_inForce_8 : decode cX11_inForce 8 = .ok (.iload_n 1, 1) := by decide +kernel
theorem dX11_inForce_9 : decode cX11_inForce 9 = .ok (.invokevirtual 238, 3) := by decide +kernel
theorem dX11_inForce_12 : decode cX11_inForce 12 = .ok (.goto 5, 3) := by decide +kernel
theorem dX11_inForce_15 : decode cX11_inForce 15 = .ok (.bipush (-2), 2) := by decide +kernel
theorem dX11_inForce_17 : decode cX11_inForce 17 = .ok (.ireturn, 1) := by decide +kernel
theorem dX11_isPuttable_0 : decode cX11_isPuttable 0 = .ok (.iload_n 1, 1) := by decide +kernel
theorem dX11_isPuttable_1 : decode cX11_isPuttable 1 = .ok (.tableswitch 61 0 4 #[35, 37, 49, 54, 56], 35) := by decide +kernel
theorem dX11_isPuttable_36 : decode cX11_isPuttable 36 = .ok (.iconst 1, 1) := by decide +kernel
theorem dX11_isPuttable_37 : decode cX11_isPuttable 37 = .ok (.ireturn, 1) := by decide +kernel
theorem dX11_isPuttable_38 : decode cX11_isPuttable 38 = .ok (.iload_n 2, 1) := by decide +kernel
theorem dX11_isPuttable_39 : decode cX11_isPuttable 39 = .ok (.iconst 0, 1) := by decide +kernel
theorem dX11_isPuttable_40 : decode cX11_isPuttable 40 = .ok (.aload_n 0, 1) := by decide +kernel
theorem dX11_isPuttable_41 : decode cX11_isPuttable 41 = .ok (.getfield 85, 3) := by decide +kernel
theorem dX11_isPuttable_44 : decode cX11_isPuttable 44 = .ok (.iconst 1, 1) := by decide +kernel
theorem dX11_isPuttable_45 : decode cX11_isPuttable 45 = .ok (.isub, 1) := by decide +kernel
theorem dX11_isPuttable_46 : decode cX11_isPuttable 46 = .ok (.invokestatic 124, 3) := by decide +kernel
theorem dX11_isPuttable_49 : decode cX11_isPuttable 49 = .ok (.ireturn, 1) := by decide +kernel
theorem dX11_isPuttable_50 : decode cX11_isPuttable 50 = .ok (.iload_n 2, 1) := by decide +kernel
theorem dX11_isPuttable_51 : decode cX11_isPuttable 51 = .ok (.invokestatic 167, 3) := by decide +kernel
theorem dX11_isPuttable_54 : decode cX11_isPuttable 54 = .ok (.ireturn, 1) := by decide +kernel
theorem dX11_isPuttable_55 : decode cX11_isPuttable 55 = .ok (.iconst 1, 1) := by decide +kernel
theorem dX11_isPuttable_56 : decode cX11_isPuttable 56 = .ok (.ireturn, 1) := by decide +kernel
theorem dX11_isPuttable_57 : decode cX11_isPuttable 57 = .ok (.iload_n 2, 1) := by decide +kernel
theorem dX11_isPuttable_58 : decode cX11_isPuttable 58 = .ok (.invokestatic 167, 3) := by decide +kernel
theorem dX11_isPuttable_61 : decode cX11_isPuttable 61 = .ok (.ireturn, 1) := by decide +kernel
theorem dX11_isPuttable_62 : decode cX11_isPuttable 62 = .ok (.iconst 0, 1) := by decide +kernel
theorem dX11_isPuttable_63 : decode cX11_isPuttable 63 = .ok (.ireturn, 1) := by decide +kernel
theorem dX11_isSpan_0 : decode cX11_isSpan 0 = .ok (.iload_n 0, 1) := by decide +kernel
theorem dX11_isSpan_1 : decode cX11_isSpan 1 = .ok (.invokestatic 167, 3) := by decide +kernel
theorem dX11_isSpan_4 : decode cX11_isSpan 4 = .ok (.ifCond .eq 19, 3) := by decide +kernel
theorem dX11_isSpan_7 : decode cX11_isSpan 7 = .ok (.iload_n 1, 1) := by decide +kernel
theorem dX11_isSpan_8 : decode cX11_isSpan 8 = .ok (.invokestatic 167, 3) := by decide +kernel
theorem dX11_isSpan_11 : decode cX11_isSpan 11 = .ok (.ifCond .eq 12, 3) := by decide +kernel
theorem dX11_isSpan_14 : decode cX11_isSpan 14 = .ok (.iload_n 0, 1) := by decide +kernel
theorem dX11_isSpan_15 : decode cX11_isSpan 15 = .ok (.iload_n 1, 1) := by decide +kernel
theorem dX11_isSpan_16 : decode cX11_isSpan 16 = .ok (.if_icmp .gt 7, 3) := by decide +kernel
theorem dX11_isSpan_19 : decode cX11_isSpan 19 = .ok (.iconst 1, 1) := by decide +kernel
theorem dX11_isSpan_20 : decode cX11_isSpan 20 = .ok (.goto 4, 3) := by decide +kernel
theorem dX11_isSpan_23 : decode cX11_isSpan 23 = .ok (.iconst 0, 1) := by decide +kernel
theorem dX11_isSpan_24 : decode cX11_isSpan 24 = .ok (.ireturn, 1) := by decide +kernel
theorem dX11_keepReadText_0 : decode cX11_keepReadText 0 = .ok (.aload_n 0, 1) := by decide +kernel
theorem dX11_keepReadText_1 : decode cX11_keepReadText 1 = .ok (.getfield 39, 3) := by decide +kernel
theorem dX11_keepReadText_4 : decode cX11_keepReadText 4 = .ok (.aload_n 0, 1) := by decide +kernel
theorem dX11_keepReadText_5 : decode cX11_keepReadText 5 = .ok (.getfield 91, 3) := by decide +kernel
theorem dX11_keepReadText_8 : decode cX11_keepReadText 8 = .ok (.invokestatic 363, 3) := by decide +kernel
theorem dX11_keepReadText_11 : decode cX11_keepReadText 11 = .ok (.astore_n 1, 1) := by decide +kernel
theorem dX11_keepReadText_12 : decode cX11_keepReadText 12 = .ok (.aload_n 0, 1) := by decide +kernel
theorem dX11_keepReadText_13 : decode cX11_keepReadText 13 = .ok (.getfield 46, 3) := by decide +kernel
theorem dX11_keepReadText_16 : decode cX11_keepReadText 16 = .ok (.getfield 369, 3) := by decide +kernel
theorem dX11_keepReadText_19 : decode cX11_keepReadText 19 = .ok (.aload_n 0, 1) := by decide +kernel
theorem dX11_keepReadText_20 : decode cX11_keepReadText 20 = .ok (.getfield 46, 3) := by decide +kernel
theorem dX11_keepReadText_23 : decode cX11_keepReadText 23 = .ok (.getfield 372, 3) := by decide +kernel
theorem dX11_keepReadText_26 : decode cX11_keepReadText 26 = .ok (.invokestatic 375, 3) := by decide +kernel
theorem dX11_keepReadText_29 : decode cX11_keepReadText 29 = .ok (.astore_n 2, 1) := by decide +kernel
theorem dX11_keepReadText_30 : decode cX11_keepReadText 30 = .ok (.aload_n 0, 1) := by decide +kernel
theorem dX11_keepReadText_31 : decode cX11_keepReadText 31 = .ok (.getfield 46, 3) := by decide +kernel
theorem dX11_keepReadText_34 : decode cX11_keepReadText 34 = .ok (.getfield 378, 3) := by decide +kernel
theorem dX11_keepReadText_37 : decode cX11_keepReadText 37 = .ok (.aload_n 0, 1) := by decide +kernel
theorem dX11_keepReadText_38 : decode cX11_keepReadText 38 = .ok (.getfield 46, 3) := by decide +kernel
theorem dX11_keepReadText_41 : decode cX11_keepReadText 41 = .ok (.getfield 381, 3) := by decide +kernel
theorem dX11_keepReadText_44 : decode cX11_keepReadText 44 = .ok (.invokestatic 375, 3) := by decide +kernel
theorem dX11_keepReadText_47 : decode cX11_keepReadText 47 = .ok (.astore_n 3, 1) := by decide +kernel
theorem dX11_keepReadText_48 : decode cX11_keepReadText 48 = .ok (.aload_n 0, 1) := by decide +kernel
theorem dX11_keepReadText_49 : decode cX11_keepReadText 49 = .ok (.getfield 29, 3) := by decide +kernel
theorem dX11_keepReadText_52 : decode cX11_keepReadText 52 = .ok (.aload_n 0, 1) := by decide +kernel
theorem dX11_keepReadText_53 : decode cX11_keepReadText 53 = .ok (.getfield 88, 3) := by decide +kernel
theorem dX11_keepReadText_56 : decode cX11_keepReadText 56 = .ok (.new 27, 3) := by decide +kernel
theorem dX11_keepReadText_59 : decode cX11_keepReadText 59 = .ok (.dup, 1) := by decide +kernel
theorem dX11_keepReadText_60 : decode cX11_keepReadText 60 = .ok (.aload_n 1, 1) := by decide +kernel
theorem dX11_keepReadText_61 : decode cX11_keepReadText 61 = .ok (.aload_n 2, 1) := by decide +kernel
theorem dX11_keepReadText_62 : decode cX11_keepReadText 62 = .ok (.aload_n 3, 1) := by decide +kernel
theorem dX11_keepReadText_63 : decode cX11_keepReadText 63 = .ok (.invokespecial 384, 3) := by decide +kernel
theorem dX11_keepReadText_66 : decode cX11_keepReadText 66 = .ok (.aastore, 1) := by decide +kernel
theorem dX11_keepReadText_67 : decode cX11_keepReadText 67 = .ok (.aload_n 0, 1) := by decide +kernel
theorem dX11_keepReadText_68 : decode cX11_keepReadText 68 = .ok (.dup, 1) := by decide +kernel
theorem dX11_keepReadText_69 : decode cX11_keepReadText 69 = .ok (.getfield 88, 3) := by decide +kernel
theorem dX11_keepReadText_72 : decode cX11_keepReadText 72 = .ok (.iconst 1, 1) := by decide +kernel
theorem dX11_keepReadText_73 : decode cX11_keepReadText 73 = .ok (.iadd, 1) := by decide +kernel
theorem dX11_keepReadText_74 : decode cX11_keepReadText 74 = .ok (.putfield 88, 3) := by decide +kernel
theorem dX11_keepReadText_77 : decode cX11_keepReadText 77 = .ok (.return_, 1) := by decide +kernel
theorem dX11_learn_0 : decode cX11_learn 0 = .ok (.iconst 0, 1) := by decide +kernel
theorem dX11_learn_1 : decode cX11_learn 1 = .ok (.istore 4, 2) := by decide +kernel
theorem dX11_learn_3 : decode cX11_learn 3 = .ok (.bipush 99, 2) := by decide +kernel
theorem dX11_learn_5 : decode cX11_learn 5 = .ok (.istore 5, 2) := by decide +kernel
theorem dX11_learn_7 : decode cX11_learn 7 = .ok (.iconst 0, 1) := by decide +kernel
theorem dX11_learn_8 : decode cX11_learn 8 = .ok (.istore 6, 2) := by decide +kernel
theorem dX11_learn_10 : decode cX11_learn 10 = .ok (.iload 6, 2) := by decide +kernel
theorem dX11_learn_12 : decode cX11_learn 12 = .ok (.aload_n 0, 1) := by decide +kernel
theorem dX11_learn_13 : decode cX11_learn 13 = .ok (.getfield 85, 3) := by decide +kernel
theorem dX11_learn_16 : decode cX11_learn 16 = .ok (.if_icmp .ge 93, 3) := by decide +kernel
theorem dX11_learn_19 : decode cX11_learn 19 = .ok (.aload_n 0, 1) := by decide +kernel
theorem dX11_learn_20 : decode cX11_learn 20 = .ok (.getfield 23, 3) := by decide +kernel
theorem dX11_learn_23 : decode cX11_learn 23 = .ok (.iload 6, 2) := by decide +kernel
theorem dX11_learn_25 : decode cX11_learn 25 = .ok (.aaload, 1) := by decide +kernel
theorem dX11_learn_26 : decode cX11_learn 26 = .ok (.astore 7, 2) := by decide +kernel
theorem dX11_learn_28 : decode cX11_learn 28 = .ok (.aload 7, 2) := by decide +kernel
theorem dX11_learn_30 : decode cX11_learn 30 = .ok (.aload_n 1, 1) := by decide +kernel
theorem dX11_learn_31 : decode cX11_learn 31 = .ok (.if_acmp .eq 72, 3) := by decide +kernel
theorem dX11_learn_34 : decode cX11_learn 34 = .ok (.aload 7, 2) := by decide +kernel
theorem dX11_learn_36 : decode cX11_learn 36 = .ok (.iload_n 2, 1) := by decide +kernel
theorem dX11_learn_37 : decode cX11_learn 37 = .ok (.invokevirtual 360, 3) := by decide +kernel
theorem dX11_learn_40 : decode cX11_learn 40 = .ok (.ifCond .ne 6, 3) := by decide +kernel
theorem dX11_learn_43 : decode cX11_learn 43 = .ok (.goto 60, 3) := by decide +kernel
theorem dX11_learn_46 : decode cX11_learn 46 = .ok (.aload 7, 2) := by decide +kernel
theorem dX11_learn_48 : decode cX11_learn 48 = .ok (.getfield 221, 3) := by decide +kernel
theorem dX11_learn_51 : decode cX11_learn 51 = .ok (.bipush 7, 2) := by decide +kernel
theorem dX11_learn_53 : decode cX11_learn 53 = .ok (.idiv, 1) := by decide +kernel
theorem dX11_learn_54 : decode cX11_learn 54 = .ok (.aload_n 1, 1) := by decide +kernel
theorem dX11_learn_55 : decode cX11_learn 55 = .ok (.getfield 221, 3) := by decide +kernel
theorem dX11_learn_58 : decode cX11_learn 58 = .ok (.bipush 7, 2) := by decide +kernel
theorem dX11_learn_60 : decode cX11_learn 60 = .ok (.idiv, 1) := by decide +kernel
theorem dX11_learn_61 : decode cX11_learn 61 = .ok (.if_icmp .ne 13, 3) := by decide +kernel
theorem dX11_learn_64 : decode cX11_learn 64 = .ok (.iload 4, 2) := by decide +kernel
theorem dX11_learn_66 : decode cX11_learn 66 = .ok (.aload 7, 2) := by decide +kernel
theorem dX11_learn_68 : decode cX11_learn 68 = .ok (.getfield 227, 3) := by decide +kernel
theorem dX11_learn_71 : decode cX11_learn 71 = .ok (.iadd, 1) := by decide +kernel
theorem dX11_learn_72 : decode cX11_learn 72 = .ok (.istore 4, 2) := by decide +kernel
theorem dX11_learn_74 : decode cX11_learn 74 = .ok (.aload 7, 2) := by decide +kernel
theorem dX11_learn_76 : decode cX11_learn 76 = .ok (.invokevirtual 393, 3) := by decide +kernel
theorem dX11_learn_79 : decode cX11_learn 79 = .ok (.aload_n 1, 1) := by decide +kernel
theorem dX11_learn_80 : decode cX11_learn 80 = .ok (.invokevirtual 395, 3) := by decide +kernel
theorem dX11_learn_83 : decode cX11_learn 83 = .ok (.if_icmp .gt 20, 3) := by decide +kernel
theorem dX11_learn_86 : decode cX11_learn 86 = .ok (.iload 5, 2) := by decide +kernel
theorem dX11_learn_88 : decode cX11_learn 88 = .ok (.aload_n 1, 1) := by decide +kernel
theorem dX11_learn_89 : decode cX11_learn 89 = .ok (.invokevirtual 395, 3) := by decide +kernel
theorem dX11_learn_92 : decode cX11_learn 92 = .ok (.aload 7, 2) := by decide +kernel
theorem dX11_learn_94 : decode cX11_learn 94 = .ok (.invokevirtual 393, 3) := by decide +kernel
theorem dX11_learn_97 : decode cX11_learn 97 = .ok (.isub, 1) := by decide +kernel
theorem dX11_learn_98 : decode cX11_learn 98 = .ok (.invokestatic 398, 3) := by decide +kernel
theorem dX11_learn_101 : decode cX11_learn 101 = .ok (.istore 5, 2) := by decide +kernel
theorem dX11_learn_103 : decode cX11_learn 103 = .ok (.iinc 6 1, 3) := by decide +kernel
theorem dX11_learn_106 : decode cX11_learn 106 = .ok (.goto (-96), 3) := by decide +kernel
theorem dX11_learn_109 : decode cX11_learn 109 = .ok (.aload_n 0, 1) := by decide +kernel
theorem dX11_learn_110 : decode cX11_learn 110 = .ok (.getfield 53, 3) := by decide +kernel
theorem dX11_learn_113 : decode cX11_learn 113 = .ok (.aload_n 1, 1) := by decide +kernel
theorem dX11_learn_114 : decode cX11_learn 114 = .ok (.invokevirtual 401, 3) := by decide +kernel
theorem dX11_learn_117 : decode cX11_learn 117 = .ok (.aload_n 0, 1) := by decide +kernel
theorem dX11_learn_118 : decode cX11_learn 118 = .ok (.getfield 53, 3) := by decide +kernel
theorem dX11_learn_121 : decode cX11_learn 121 = .ok (.aload_n 0, 1) := by decide +kernel
theorem dX11_learn_122 : decode cX11_learn 122 = .ok (.getfield 17, 3) := by decide +kernel
theorem dX11_learn_125 : decode cX11_learn 125 = .ok (.iload_n 2, 1) := by decide +kernel
theorem dX11_learn_126 : decode cX11_learn 126 = .ok (.aaload, 1) := by decide +kernel
theorem dX11_learn_127 : decode cX11_learn 127 = .ok (.iload_n 3, 1) := by decide +kernel
theorem dX11_learn_128 : decode cX11_learn 128 = .ok (.invokevirtual 404, 3) := by decide +kernel
theorem dX11_learn_131 : decode cX11_learn 131 = .ok (.aload_n 0, 1) := by decide +kernel
theorem dX11_learn_132 : decode cX11_learn 132 = .ok (.getfield 53, 3) := by decide +kernel
theorem dX11_learn_135 : decode cX11_learn 135 = .ok (.iload 4, 2) := by decide +kernel
theorem dX11_learn_137 : decode cX11_learn 137 = .ok (.iload 5, 2) := by decide +kernel
theorem dX11_learn_139 : decode cX11_learn 139 = .ok (.invokevirtual 408, 3) := by decide +kernel
theorem dX11_learn_142 : decode cX11_learn 142 = .ok (.return_, 1) := by decide +kernel
theorem dX11_played_0 : decode cX11_played 0 = .ok (.aload_n 0, 1) := by decide +kernel
theorem dX11_played_1 : decode cX11_played 1 = .ok (.iload_n 1, 1) := by decide +kernel
theorem dX11_played_2 : decode cX11_played 2 = .ok (.invokevirtual 131, 3) := by decide +kernel
theorem dX11_played_5 : decode cX11_played 5 = .ok (.astore_n 3, 1) := by decide +kernel
theorem dX11_played_6 : decode cX11_played 6 = .ok (.aload_n 3, 1) := by decide +kernel
theorem dX11_played_7 : decode cX11_played 7 = .ok (.ifnull 10, 3) := by decide +kernel
theorem dX11_played_10 : decode cX11_played 10 = .ok (.iload_n 2, 1) := by decide +kernel
theorem dX11_played_11 : decode cX11_played 11 = .ok (.invokestatic 167, 3) := by decide +kernel
theorem dX11_played_14 : decode cX11_played 14 = .ok (.ifCond .ne 6, 3) := by decide +kernel
theorem dX11_played_17 : decode cX11_played 17 = .ok (.bipush (-2), 2) := by decide +kernel
theorem dX11_played_19 : decode cX11_played 19 = .ok (.ireturn, 1) := by decide +kernel
theorem dX11_played_20 : decode cX11_played 20 = .ok (.aload_n 3, 1) := by decide +kernel
theorem dX11_played_21 : decode cX11_played 21 = .ok (.iload_n 2, 1) := by decide +kernel
theorem dX11_played_22 : decode cX11_played 22 = .ok (.invokevirtual 202, 3) := by decide +kernel
theorem dX11_played_25 : decode cX11_played 25 = .ok (.ifCond .eq 7, 3) := by decide +kernel
theorem dX11_played_28 : decode cX11_played 28 = .ok (.iconst 1, 1) := by decide +kernel
theorem dX11_played_29 : decode cX11_played 29 = .ok (.goto 4, 3) := by decide +kernel
theorem dX11_played_32 : decode cX11_played 32 = .ok (.iconst 0, 1) := by decide +kernel
theorem dX11_played_33 : decode cX11_played 33 = .ok (.ireturn, 1) := by decide +kernel
theorem dX11_player_0 : decode cX11_player 0 = .ok (.iload_n 1, 1) := by decide +kernel
theorem dX11_player_1 : decode cX11_player 1 = .ok (.invokestatic 148, 3) := by decide +kernel
theorem dX11_player_4 : decode cX11_player 4 = .ok (.ifCond .eq 23, 3) := by decide +kernel
theorem dX11_player_7 : decode cX11_player 7 = .ok (.iload_n 2, 1) := by decide +kernel
theorem dX11_player_8 : decode cX11_player 8 = .ok (.iconst 0, 1) := by decide +kernel
theorem dX11_player_9 : decode cX11_player 9 = .ok (.bipush 63, 2) := by decide +kernel
theorem dX11_player_11 : decode cX11_player 11 = .ok (.invokestatic 124, 3) := by decide +kernel
theorem dX11_player_14 : decode cX11_player 14 = .ok (.ifCond .eq 13, 3) := by decide +kernel
theorem dX11_player_17 : decode cX11_player 17 = .ok (.iload_n 3, 1) := by decide +kernel
theorem dX11_player_18 : decode cX11_player 18 = .ok (.iconst 1, 1) := by decide +kernel
theorem dX11_player_19 : decode cX11_player 19 = .ok (.bipush 9, 2) := by decide +kernel
theorem dX11_player_21 : decode cX11_player 21 = .ok (.invokestatic 124, 3) := by decide +kernel
theorem dX11_player_24 : decode cX11_player 24 = .ok (.ifCond .ne 6, 3) := by decide +kernel
theorem dX11_player_27 : decode cX11_player 27 = .ok (.bipush (-2), 2) := by decide +kernel
theorem dX11_player_29 : decode cX11_player 29 = .ok (.ireturn, 1) := by decide +kernel
theorem dX11_player_30 : decode cX11_player 30 = .ok (.aload_n 0, 1) := by decide +kernel
theorem dX11_player_31 : decode cX11_player 31 = .ok (.getfield 82, 3) := by decide +kernel
theorem dX11_player_34 : decode cX11_player 34 = .ok (.bipush 10, 2) := by decide +kernel
theorem dX11_player_36 : decode cX11_player 36 = .ok (.if_icmp .lt 6, 3) := by decide +kernel
theorem dX11_player_39 : decode cX11_player 39 = .ok (.bipush (-4), 2) := by decide +kernel
theorem dX11_player_41 : decode cX11_player 41 = .ok (.ireturn, 1) := by decide +kernel
theorem dX11_player_42 : decode cX11_player 42 = .ok (.aload_n 0, 1) := by decide +kernel
theorem dX11_player_43 : decode cX11_player 43 = .ok (.getfield 17, 3) := by decide +kernel
theorem dX11_player_46 : decode cX11_player 46 = .ok (.aload_n 0, 1) := by decide +kernel
theorem dX11_player_47 : decode cX11_player 47 = .ok (.getfield 82, 3) := by decide +kernel
theorem dX11_player_50 : decode cX11_player 50 = .ok (.new 15, 3) := by decide +kernel
theorem dX11_player_53 : decode cX11_player 53 = .ok (.dup, 1) := by decide +kernel
theorem dX11_player_54 : decode cX11_player 54 = .ok (.iload_n 1, 1) := by decide +kernel
theorem dX11_player_55 : decode cX11_player 55 = .ok (.iload_n 2, 1) := by decide +kernel
theorem dX11_player_56 : decode cX11_player 56 = .ok (.iload_n 3, 1) := by decide +kernel
theorem dX11_player_57 : decode cX11_player 57 = .ok (.invokespecial 152, 3) := by decide +kernel
theorem dX11_player_60 : decode cX11_player 60 = .ok (.aastore, 1) := by decide +kernel
theorem dX11_player_61 : decode cX11_player 61 = .ok (.aload_n 0, 1) := by decide +kernel
theorem dX11_player_62 : decode cX11_player 62 = .ok (.dup, 1) := by decide +kernel
theorem dX11_player_63 : decode cX11_player 63 = .ok (.getfield 82, 3) := by decide +kernel
theorem dX11_player_66 : decode cX11_player 66 = .ok (.iconst 1, 1) := by decide +kernel
theorem dX11_player_67 : decode cX11_player 67 = .ok (.iadd, 1) := by decide +kernel
theorem dX11_player_68 : decode cX11_player 68 = .ok (.putfield 82, 3) := by decide +kernel
theorem dX11_player_71 : decode cX11_player 71 = .ok (.aload_n 0, 1) := by decide +kernel
theorem dX11_player_72 : decode cX11_player 72 = .ok (.getfield 82, 3) := by decide +kernel
theorem dX11_player_75 : decode cX11_player 75 = .ok (.iconst 1, 1) := by decide +kernel
theorem dX11_player_76 : decode cX11_player 76 = .ok (.isub, 1) := by decide +kernel
theorem dX11_player_77 : decode cX11_player 77 = .ok (.ireturn, 1) := by decide +kernel
theorem dX11_playerTold_0 : decode cX11_playerTold 0 = .ok (.aload_n 0, 1) := by decide +kernel
theorem dX11_playerTold_1 : decode cX11_playerTold 1 = .ok (.iload_n 1, 1) := by decide +kernel
theorem dX11_playerTold_2 : decode cX11_playerTold 2 = .ok (.invokevirtual 153, 3) := by decide +kernel
theorem dX11_playerTold_5 : decode cX11_playerTold 5 = .ok (.astore_n 3, 1) := by decide +kernel
theorem dX11_playerTold_6 : decode cX11_playerTold 6 = .ok (.aload_n 3, 1) := by decide +kernel
theorem dX11_playerTold_7 : decode cX11_playerTold 7 = .ok (.ifnonnull 6, 3) := by decide +kernel
theorem dX11_playerTold_10 : decode cX11_playerTold 10 = .ok (.bipush (-2), 2) := by decide +kernel
theorem dX11_playerTold_12 : decode cX11_playerTold 12 = .ok (.ireturn, 1) := by decide +kernel
theorem dX11_playerTold_13 : decode cX11_playerTold 13 = .ok (.iload_n 2, 1) := by decide +kernel
theorem dX11_playerTold_14 : decode cX11_playerTold 14 = .ok (.tableswitch 60 0 4 #[34, 39, 44, 49, 54], 34) := by decide +kernel
theorem dX11_playerTold_48 : decode cX11_playerTold 48 = .ok (.aload_n 3, 1) := by decide +kernel
theorem dX11_playerTold_49 : decode cX11_playerTold 49 = .ok (.getfield 205, 3) := by decide +kernel
theorem dX11_playerTold_52 : decode cX11_playerTold 52 = .ok (.ireturn, 1) := by decide +kernel
theorem dX11_playerTold_53 : decode cX11_playerTold 53 = .ok (.aload_n 3, 1) := by decide +kernel
theorem dX11_playerTold_54 : decode cX11_playerTold 54 = .ok (.getfield 208, 3) := by decide +kernel
theorem dX11_playerTold_57 : decode cX11_playerTold 57 = .ok (.ireturn, 1) := by decide +kernel
theorem dX11_playerTold_58 : decode cX11_playerTold 58 = .ok (.aload_n 3, 1) := by decide +kernel
theorem dX11_playerTold_59 : decode cX11_playerTold 59 = .ok (.getfield 211, 3) := by decide +kernel
theorem dX11_playerTold_62 : decode cX11_playerTold 62 = .ok (.ireturn, 1) := by decide +kernel
theorem dX11_playerTold_63 : decode cX11_playerTold 63 = .ok (.aload_n 3, 1) := by decide +kernel
theorem dX11_playerTold_64 : decode cX11_playerTold 64 = .ok (.getfield 157, 3) := by decide +kernel
theorem dX11_playerTold_67 : decode cX11_playerTold 67 = .ok (.ireturn, 1) := by decide +kernel
theorem dX11_playerTold_68 : decode cX11_playerTold 68 = .ok (.aload_n 0, 1) := by decide +kernel
theorem dX11_playerTold_69 : decode cX11_playerTold 69 = .ok (.iload_n 1, 1) := by decide +kernel
theorem dX11_playerTold_70 : decode cX11_playerTold 70 = .ok (.invokevirtual 214, 3) := by decide +kernel
theorem dX11_playerTold_73 : decode cX11_playerTold 73 = .ok (.ireturn, 1) := by decide +kernel
theorem dX11_playerTold_74 : decode cX11_playerTold 74 = .ok (.bipush (-2), 2) := by decide +kernel
theorem dX11_playerTold_76 : decode cX11_playerTold 76 = .ok (.ireturn, 1) := by decide +kernel
theorem w_X1_init (l : Launch) (M : o_M) (q : o_M → Prop) (h : (36 ∉ mL M ∧ (37 ∉ mL (sR (nW M 36 5) 35 0 (some 36)) ∧ q (sI (sI (sR (nW (sR (nW M 36 5) 35 0 (some 36)) 37 5) 35 1 (some 37)) 35 2 0) 35 3 0)))) : K_X1_init l [rV (some 35)] M q := by
  refine o_ctr (ini := true) (by decide +kernel) rfl (fun z => rfl) (Nat.le_of_ble_eq_true rfl) ?_
  show E_X1_init l q 0 [(0, rV (some 35))] [] M 0 0
  refine e_aload_n dX1_init_0 rfl rfl ?_
  refine e_objI loX1_3 oi_1 oi_2 (by decide) (Nat.le_of_ble_eq_true rfl) (by decide) dX1_init_1 ?_
  refine e_aload_n dX1_init_4 rfl rfl ?_
  refine e_iconst (v := 5) dX1_init_5 (by decide) ?_
  obtain ⟨o1, h⟩ := h
  refine e_newa (N := 5) o1 rfl rfl rfl (by decide) ac_int (by decide) (by decide) (by decide) (by decide) (by decide) dX1_init_6 ?_
  refine e_pR flX1_9 rfl (Or.inr ⟨rfl, rfl, rfl, fnX1_9⟩) rfl dX1_init_8 ?_
  refine e_aload_n dX1_init_11 rfl rfl ?_
  refine e_iconst (v := 5) dX1_init_12 (by decide) ?_
  obtain ⟨o2, h⟩ := h
  refine e_newa (N := 5) o2 rfl rfl rfl (by decide) ac_int (by decide) (by decide) (by decide) (by decide) (by decide) dX1_init_13 ?_
  refine e_pR flX1_15 rfl (Or.inr ⟨rfl, rfl, rfl, fnX1_15⟩) rfl dX1_init_15 ?_
  refine e_aload_n dX1_init_18 rfl rfl ?_
  refine e_iconst (v := 0) dX1_init_19 (by decide) ?_
  refine e_pI flX1_18 rfl (Or.inl rfl) rfl rfl rfl dX1_init_20 ?_
  refine e_aload_n dX1_init_23 rfl rfl ?_
  refine e_iconst (v := 0) dX1_init_24 (by decide) ?_
  refine e_pI flX1_22 rfl (Or.inl rfl) rfl rfl rfl dX1_init_25 ?_
  exact e_ret rfl dX1_init_28 ⟨rfl, h⟩
abbrev H_X1_minutesBetween_11 (l : Launch) (q : Int32 → o_M → Prop) (v2 : Int32) (v3 : Int32) (v4 : Int32) (v5 : Int32) (v6 : Int32) (M : o_M) : Prop := E_X1_minutesBetween l q 11 [(0, rV (some 35)), (1, rV (some 17)), (2, iV v2), (3, iV v3), (4, iV v4), (5, iV v5), (6, iV v6)] [] M 0 0
theorem w_X1_minutesBetween (l : Launch) (p2 : Int32) (M : o_M) (q : Int32 → o_M → Prop) (h : H_X1_minutesBetween_11 l q p2 0 0 0 0 M) : K_X1_minutesBetween l [rV (some 35), rV (some 17), iV p2] M q := by
  refine o_ctr (ini := false) (by decide +kernel) rfl (fun z => by cases z) (Nat.le_of_ble_eq_true rfl) ?_
  show E_X1_minutesBetween l q 0 [(0, rV (some 35)), (1, rV (some 17)), (2, iV p2)] [] M 0 0
  refine e_iconst (v := 0) dX1_minutesBetween_0 (by decide) ?_
  refine e_istore_n (lv' := [(3, iV 0), (0, rV (some 35)), (1, rV (some 17)), (2, iV p2)]) dX1_minutesBetween_1 rfl (by decide) rfl ?_
  refine e_iconst (v := 0) dX1_minutesBetween_2 (by decide) ?_
  refine e_istore (lv' := [(4, iV 0), (3, iV 0), (0, rV (some 35)), (1, rV (some 17)), (2, iV p2)]) (by decide) rfl dX1_minutesBetween_3 ?_
  refine e_iconst (v := 0) dX1_minutesBetween_5 (by decide) ?_
  refine e_istore (lv' := [(5, iV 0), (4, iV 0), (3, iV 0), (0, rV (some 35)), (1, rV (some 17)), (2, iV p2)]) (by decide) rfl dX1_minutesBetween_6 ?_
  refine e_iconst (v := 0) dX1_minutesBetween_8 (by decide) ?_
  refine e_istore (lv' := [(6, iV 0), (5, iV 0), (4, iV 0), (3, iV 0), (0, rV (some 35)), (1, rV (some 17)), (2, iV p2)]) (by decide) rfl dX1_minutesBetween_9 ?_
  exact e_lv (List.forall_mem_cons.mpr ⟨rfl, List.forall_mem_cons.mpr ⟨rfl, List.forall_mem_cons.mpr ⟨rfl, List.forall_mem_cons.mpr ⟨rfl, List.forall_mem_cons.mpr ⟨rfl, List.forall_mem_cons.mpr ⟨rfl, List.forall_mem_cons.mpr ⟨rfl, fun _ h => absurd h List.not_mem_nil⟩⟩⟩⟩⟩⟩⟩) h
theorem w_X1_minutesBetween_11 (l : Launch) (q : Int32 → o_M → Prop) (v2 : Int32) (v3 : Int32) (v4 : Int32) (v5 : Int32) (v6 : Int32) (M : o_M) (h : (((mI M 35 2) ≤ v6 → q v4 M) ∧ (¬ (mI M 35 2) ≤ v6 → (mR M 35 0 = some 36 ∧ (vp_in v6 (mN M 36) ∧ (vp_in (mI M 36 v6.toNatClampNeg) (mN M 17) ∧ (∃ b5, mR M 17 (mI M 36 v6.toNatClampNeg).toNatClampNeg = some b5 ∧ o_ty b5 = .inl 10 ∧ K_X10_needOf l [rV (some b5), iV v2] M (fun r9 M8 => ((r9 ≤ 0 → ((v3 = 0 → H_X1_minutesBetween_11 l q v2 v3 v4 v5 (v6 + 1) M8) ∧ (¬ v3 = 0 → H_X1_minutesBetween_11 l q v2 v3 v4 (v5 + (mI M8 b5 0)) (v6 + 1) M8))) ∧ (¬ r9 ≤ 0 → H_X1_minutesBetween_11 l q v2 1 (v4 + v5) 0 (v6 + 1) M8)))))))))) : H_X1_minutesBetween_11 l q v2 v3 v4 v5 v6 M := by
  refine e_iload rfl dX1_minutesBetween_11 ?_
  refine e_aload_n dX1_minutesBetween_13 rfl rfl ?_
  refine e_gI flX1_18 rfl rfl dX1_minutesBetween_14 ?_
  refine e_ic_ge (tgt := 75) dX1_minutesBetween_17 (by decide) (fun c1 => ?_) (fun c1 => ?_)
  · replace h := h.1 c1
    refine e_iload rfl dX1_minutesBetween_75 ?_
    exact e_iret rfl trivial dX1_minutesBetween_77 ⟨_, rfl, h⟩
  · replace h := h.2 c1
    refine e_aload_n dX1_minutesBetween_20 rfl rfl ?_
    refine e_aload_n dX1_minutesBetween_21 rfl rfl ?_
    obtain ⟨o2, h⟩ := h
    refine e_gA flX1_9 rfl rfl o2 dX1_minutesBetween_22 ?_
    refine e_iload rfl dX1_minutesBetween_25 ?_
    obtain ⟨o3, h⟩ := h
    refine e_iald rfl o3 dX1_minutesBetween_27 ?_
    obtain ⟨o4, h⟩ := h
    obtain ⟨b5, o6, o7, h⟩ := h
    refine e_aaldS rfl o4 o6 dX1_minutesBetween_28 ?_
    refine e_astore (lv' := [(7, rV (some b5)), (0, rV (some 35)), (1, rV (some 17)), (2, iV v2), (3, iV v3), (4, iV v4), (5, iV v5), (6, iV v6)]) (by decide) rfl dX1_minutesBetween_29 ?_
    refine e_aload rfl dX1_minutesBetween_31 ?_
    refine e_iload_n dX1_minutesBetween_33 rfl rfl ?_
    refine e_callV (As := [iV v2]) (st := []) mt_X10_needOf in_X10_needOf lkX1_59 rfl o7 ⟨by decide, by decide⟩ (Nat.le_of_ble_eq_true rfl) ⟨by decide, by decide⟩ rfl rfl dX1_minutesBetween_34 (Ctr.mono h (fun v M8 h => ?_))
    obtain ⟨r9, rfl, h⟩ := h
    show E_X1_minutesBetween l q 37 [(7, rV (some b5)), (0, rV (some 35)), (1, rV (some 17)), (2, iV v2), (3, iV v3), (4, iV v4), (5, iV v5), (6, iV v6)] [iV r9] M8 0 0
    refine e_if_le (tgt := 55) dX1_minutesBetween_37 (by decide) (fun c10 => ?_) (fun c10 => ?_)
    · replace h := h.1 c10
      refine e_iload_n dX1_minutesBetween_55 rfl rfl ?_
      refine e_if_eq (tgt := 69) dX1_minutesBetween_56 (by decide) (fun c11 => ?_) (fun c11 => ?_)
      · replace h := h.1 c11
        refine e_iinc (v := 1) (lv' := [(6, iV (v6 + 1)), (7, rV (some b5)), (0, rV (some 35)), (1, rV (some 17)), (2, iV v2), (3, iV v3), (4, iV v4), (5, iV v5)]) rfl (by decide) (by decide) rfl dX1_minutesBetween_69 ?_
        refine e_goto (tgt := 11) dX1_minutesBetween_72 (by decide) ?_
        exact e_lv (List.forall_mem_cons.mpr ⟨rfl, List.forall_mem_cons.mpr ⟨rfl, List.forall_mem_cons.mpr ⟨rfl, List.forall_mem_cons.mpr ⟨rfl, List.forall_mem_cons.mpr ⟨rfl, List.forall_mem_cons.mpr ⟨rfl, List.forall_mem_cons.mpr ⟨rfl, fun _ h => absurd h List.not_mem_nil⟩⟩⟩⟩⟩⟩⟩) h
      · replace h := h.2 c11
        refine e_iload rfl dX1_minutesBetween_59 ?_
        refine e_aload rfl dX1_minutesBetween_61 ?_
        refine e_gI flX1_65 o7 rfl dX1_minutesBetween_63 ?_
        refine e_iadd dX1_minutesBetween_66 ?_
        refine e_istore (lv' := [(5, iV (v5 + (mI M8 b5 0))), (7, rV (some b5)), (0, rV (some 35)), (1, rV (some 17)), (2, iV v2), (3, iV v3), (4, iV v4), (6, iV v6)]) (by decide) rfl dX1_minutesBetween_67 ?_
        refine e_iinc (v := 1) (lv' := [(6, iV (v6 + 1)), (5, iV (v5 + (mI M8 b5 0))), (7, rV (some b5)), (0, rV (some 35)), (1, rV (some 17)), (2, iV v2), (3, iV v3), (4, iV v4)]) rfl (by decide) (by decide) rfl dX1_minutesBetween_69 ?_
        refine e_goto (tgt := 11) dX1_minutesBetween_72 (by decide) ?_
        exact e_lv (List.forall_mem_cons.mpr ⟨rfl, List.forall_mem_cons.mpr ⟨rfl, List.forall_mem_cons.mpr ⟨rfl, List.forall_mem_cons.mpr ⟨rfl, List.forall_mem_cons.mpr ⟨rfl, List.forall_mem_cons.mpr ⟨rfl, List.forall_mem_cons.mpr ⟨rfl, fun _ h => absurd h List.not_mem_nil⟩⟩⟩⟩⟩⟩⟩) h
    · replace h := h.2 c10
      refine e_iconst (v := 1) dX1_minutesBetween_40 (by decide) ?_
      refine e_istore_n (lv' := [(3, iV 1), (7, rV (some b5)), (0, rV (some 35)), (1, rV (some 17)), (2, iV v2), (4, iV v4), (5, iV v5), (6, iV v6)]) dX1_minutesBetween_41 rfl (by decide) rfl ?_
      refine e_iload rfl dX1_minutesBetween_42 ?_
      refine e_iload rfl dX1_minutesBetween_44 ?_
      refine e_iadd dX1_minutesBetween_46 ?_
      refine e_istore (lv' := [(4, iV (v4 + v5)), (3, iV 1), (7, rV (some b5)), (0, rV (some 35)), (1, rV (some 17)), (2, iV v2), (5, iV v5), (6, iV v6)]) (by decide) rfl dX1_minutesBetween_47 ?_
      refine e_iconst (v := 0) dX1_minutesBetween_49 (by decide) ?_
      refine e_istore (lv' := [(5, iV 0), (4, iV (v4 + v5)), (3, iV 1), (7, rV (some b5)), (0, rV (some 35)), (1, rV (some 17)), (2, iV v2), (6, iV v6)]) (by decide) rfl dX1_minutesBetween_50 ?_
      refine e_goto (tgt := 69) dX1_minutesBetween_52 (by decide) ?_
      refine e_iinc (v := 1) (lv' := [(6, iV (v6 + 1)), (5, iV 0), (4, iV (v4 + v5)), (3, iV 1), (7, rV (some b5)), (0, rV (some 35)), (1, rV (some 17)), (2, iV v2)]) rfl (by decide) (by decide) rfl dX1_minutesBetween_69 ?_
      refine e_goto (tgt := 11) dX1_minutesBetween_72 (by decide) ?_
      exact e_lv (List.forall_mem_cons.mpr ⟨rfl, List.forall_mem_cons.mpr ⟨rfl, List.forall_mem_cons.mpr ⟨rfl, List.forall_mem_cons.mpr ⟨rfl, List.forall_mem_cons.mpr ⟨rfl, List.forall_mem_cons.mpr ⟨rfl, List.forall_mem_cons.mpr ⟨rfl, fun _ h => absurd h List.not_mem_nil⟩⟩⟩⟩⟩⟩⟩) h
abbrev H_X1_nextOrder_7 (l : Launch) (q : Int32 → o_M → Prop) (v1 : Int32) (M : o_M) : Prop := E_X1_nextOrder l q 7 [(0, rV (some 35)), (1, iV v1)] [] M 0 0
abbrev H_X1_nextOrder_47 (l : Launch) (q : Int32 → o_M → Prop) (v1 : Int32) (v2 : Int32) (M : o_M) : Prop := E_X1_nextOrder l q 47 [(0, rV (some 35)), (1, iV v1), (2, iV v2)] [] M 0 0
abbrev H_X1_nextOrder_91 (l : Launch) (q : Int32 → o_M → Prop) (v3 : Int32) (v4 : Int32) (M : o_M) : Prop := E_X1_nextOrder l q 91 [(0, rV (some 35)), (3, iV v3), (4, iV v4)] [] M 0 0
theorem w_X1_nextOrder (l : Launch) (M : o_M) (q : Int32 → o_M → Prop) (h : H_X1_nextOrder_7 l q ((mI M 35 2) - 2) M) : K_X1_nextOrder l [rV (some 35)] M q := by
  refine o_ctr (ini := false) (by decide +kernel) rfl (fun z => by cases z) (Nat.le_of_ble_eq_true rfl) ?_
  show E_X1_nextOrder l q 0 [(0, rV (some 35))] [] M 0 0
  refine e_aload_n dX1_nextOrder_0 rfl rfl ?_
  refine e_gI flX1_18 rfl rfl dX1_nextOrder_1 ?_
  refine e_iconst (v := 2) dX1_nextOrder_4 (by decide) ?_
  refine e_isub dX1_nextOrder_5 ?_
  refine e_istore_n (lv' := [(1, iV ((mI M 35 2) - 2)), (0, rV (some 35))]) dX1_nextOrder_6 rfl (by decide) rfl ?_
  exact e_lv (List.forall_mem_cons.mpr ⟨rfl, List.forall_mem_cons.mpr ⟨rfl, fun _ h => absurd h List.not_mem_nil⟩⟩) h
theorem w_X1_nextOrder_7 (l : Launch) (q : Int32 → o_M → Prop) (v1 : Int32) (M : o_M) (h : ((v1 < 0 → ((0 ≤ v1 → H_X1_nextOrder_47 l q v1 ((mI M 35 2) - 1) M) ∧ (¬ 0 ≤ v1 → q 0 M))) ∧ (¬ v1 < 0 → (mR M 35 0 = some 36 ∧ (vp_in v1 (mN M 36) ∧ (mR M 35 0 = some 36 ∧ (vp_in (v1 + 1) (mN M 36) ∧ (((mI M 36 v1.toNatClampNeg) ≤ (mI M 36 (v1 + 1).toNatClampNeg) → ((0 ≤ v1 → H_X1_nextOrder_47 l q v1 ((mI M 35 2) - 1) M) ∧ (¬ 0 ≤ v1 → q 0 M))) ∧ (¬ (mI M 36 v1.toNatClampNeg) ≤ (mI M 36 (v1 + 1).toNatClampNeg) → H_X1_nextOrder_7 l q (v1 + (-1)) M))))))))) : H_X1_nextOrder_7 l q v1 M := by
  refine e_iload_n dX1_nextOrder_7 rfl rfl ?_
  refine e_if_lt (tgt := 34) dX1_nextOrder_8 (by decide) (fun c1 => ?_) (fun c1 => ?_)
  · replace h := h.1 c1
    refine e_iload_n dX1_nextOrder_34 rfl rfl ?_
    refine e_if_ge (tgt := 40) dX1_nextOrder_35 (by decide) (fun c2 => ?_) (fun c2 => ?_)
    · replace h := h.1 c2
      refine e_aload_n dX1_nextOrder_40 rfl rfl ?_
      refine e_gI flX1_18 rfl rfl dX1_nextOrder_41 ?_
      refine e_iconst (v := 1) dX1_nextOrder_44 (by decide) ?_
      refine e_isub dX1_nextOrder_45 ?_
      refine e_istore_n (lv' := [(2, iV ((mI M 35 2) - 1)), (0, rV (some 35)), (1, iV v1)]) dX1_nextOrder_46 rfl (by decide) rfl ?_
      exact e_lv (List.forall_mem_cons.mpr ⟨rfl, List.forall_mem_cons.mpr ⟨rfl, List.forall_mem_cons.mpr ⟨rfl, fun _ h => absurd h List.not_mem_nil⟩⟩⟩) h
    · replace h := h.2 c2
      refine e_iconst (v := 0) dX1_nextOrder_38 (by decide) ?_
      exact e_iret rfl rb_0 dX1_nextOrder_39 ⟨_, rfl, h⟩
  · replace h := h.2 c1
    refine e_aload_n dX1_nextOrder_11 rfl rfl ?_
    obtain ⟨o3, h⟩ := h
    refine e_gA flX1_9 rfl rfl o3 dX1_nextOrder_12 ?_
    refine e_iload_n dX1_nextOrder_15 rfl rfl ?_
    obtain ⟨o4, h⟩ := h
    refine e_iald rfl o4 dX1_nextOrder_16 ?_
    refine e_aload_n dX1_nextOrder_17 rfl rfl ?_
    obtain ⟨o5, h⟩ := h
    refine e_gA flX1_9 rfl rfl o5 dX1_nextOrder_18 ?_
    refine e_iload_n dX1_nextOrder_21 rfl rfl ?_
    refine e_iconst (v := 1) dX1_nextOrder_22 (by decide) ?_
    refine e_iadd dX1_nextOrder_23 ?_
    obtain ⟨o6, h⟩ := h
    refine e_iald rfl o6 dX1_nextOrder_24 ?_
    refine e_ic_le (tgt := 34) dX1_nextOrder_25 (by decide) (fun c7 => ?_) (fun c7 => ?_)
    · replace h := h.1 c7
      refine e_iload_n dX1_nextOrder_34 rfl rfl ?_
      refine e_if_ge (tgt := 40) dX1_nextOrder_35 (by decide) (fun c8 => ?_) (fun c8 => ?_)
      · replace h := h.1 c8
        refine e_aload_n dX1_nextOrder_40 rfl rfl ?_
        refine e_gI flX1_18 rfl rfl dX1_nextOrder_41 ?_
        refine e_iconst (v := 1) dX1_nextOrder_44 (by decide) ?_
        refine e_isub dX1_nextOrder_45 ?_
        refine e_istore_n (lv' := [(2, iV ((mI M 35 2) - 1)), (0, rV (some 35)), (1, iV v1)]) dX1_nextOrder_46 rfl (by decide) rfl ?_
        exact e_lv (List.forall_mem_cons.mpr ⟨rfl, List.forall_mem_cons.mpr ⟨rfl, List.forall_mem_cons.mpr ⟨rfl, fun _ h => absurd h List.not_mem_nil⟩⟩⟩) h
      · replace h := h.2 c8
        refine e_iconst (v := 0) dX1_nextOrder_38 (by decide) ?_
        exact e_iret rfl rb_0 dX1_nextOrder_39 ⟨_, rfl, h⟩
    · replace h := h.2 c7
      refine e_iinc (v := (-1)) (lv' := [(1, iV (v1 + (-1))), (0, rV (some 35))]) rfl (by decide) (by decide) rfl dX1_nextOrder_28 ?_
      refine e_goto (tgt := 7) dX1_nextOrder_31 (by decide) ?_
      exact e_lv (List.forall_mem_cons.mpr ⟨rfl, List.forall_mem_cons.mpr ⟨rfl, fun _ h => absurd h List.not_mem_nil⟩⟩) h
theorem w_X1_nextOrder_47 (l : Launch) (q : Int32 → o_M → Prop) (v1 : Int32) (v2 : Int32) (M : o_M) (h : ((v2 ≤ v1 → K_X1_swap l [rV (some 35), iV v1, iV v2] M (fun M10 => H_X1_nextOrder_91 l q (v1 + 1) ((mI M10 35 2) - 1) M10)) ∧ (¬ v2 ≤ v1 → (mR M 35 0 = some 36 ∧ (vp_in v2 (mN M 36) ∧ (mR M 35 0 = some 36 ∧ (vp_in v1 (mN M 36) ∧ (((mI M 36 v1.toNatClampNeg) ≤ (mI M 36 v2.toNatClampNeg) → K_X1_swap l [rV (some 35), iV v1, iV v2] M (fun M16 => H_X1_nextOrder_91 l q (v1 + 1) ((mI M16 35 2) - 1) M16)) ∧ (¬ (mI M 36 v1.toNatClampNeg) ≤ (mI M 36 v2.toNatClampNeg) → H_X1_nextOrder_47 l q v1 (v2 + (-1)) M))))))))) : H_X1_nextOrder_47 l q v1 v2 M := by
  refine e_iload_n dX1_nextOrder_47 rfl rfl ?_
  refine e_iload_n dX1_nextOrder_48 rfl rfl ?_
  refine e_ic_le (tgt := 73) dX1_nextOrder_49 (by decide) (fun c9 => ?_) (fun c9 => ?_)
  · replace h := h.1 c9
    refine e_aload_n dX1_nextOrder_73 rfl rfl ?_
    refine e_iload_n dX1_nextOrder_74 rfl rfl ?_
    refine e_iload_n dX1_nextOrder_75 rfl rfl ?_
    refine e_callV (As := [iV v1, iV v2]) (st := []) mt_X1_swap in_X1_swap lkX1_68 rfl rfl ⟨by decide, by decide⟩ (Nat.le_of_ble_eq_true rfl) ⟨by decide, by decide⟩ rfl rfl dX1_nextOrder_76 (Ctr.mono h (fun v M10 h => ?_))
    obtain ⟨rfl, h⟩ := h
    show E_X1_nextOrder l q 79 [(0, rV (some 35)), (1, iV v1), (2, iV v2)] [] M10 0 0
    refine e_iload_n dX1_nextOrder_79 rfl rfl ?_
    refine e_iconst (v := 1) dX1_nextOrder_80 (by decide) ?_
    refine e_iadd dX1_nextOrder_81 ?_
    refine e_istore_n (lv' := [(3, iV (v1 + 1)), (0, rV (some 35)), (1, iV v1), (2, iV v2)]) dX1_nextOrder_82 rfl (by decide) rfl ?_
    refine e_aload_n dX1_nextOrder_83 rfl rfl ?_
    refine e_gI flX1_18 rfl rfl dX1_nextOrder_84 ?_
    refine e_iconst (v := 1) dX1_nextOrder_87 (by decide) ?_
    refine e_isub dX1_nextOrder_88 ?_
    refine e_istore (lv' := [(4, iV ((mI M10 35 2) - 1)), (3, iV (v1 + 1)), (0, rV (some 35)), (1, iV v1), (2, iV v2)]) (by decide) rfl dX1_nextOrder_89 ?_
    exact e_lv (List.forall_mem_cons.mpr ⟨rfl, List.forall_mem_cons.mpr ⟨rfl, List.forall_mem_cons.mpr ⟨rfl, fun _ h => absurd h List.not_mem_nil⟩⟩⟩) h
  · replace h := h.2 c9
    refine e_aload_n dX1_nextOrder_52 rfl rfl ?_
    obtain ⟨o11, h⟩ := h
    refine e_gA flX1_9 rfl rfl o11 dX1_nextOrder_53 ?_
    refine e_iload_n dX1_nextOrder_56 rfl rfl ?_
    obtain ⟨o12, h⟩ := h
    refine e_iald rfl o12 dX1_nextOrder_57 ?_
    refine e_aload_n dX1_nextOrder_58 rfl rfl ?_
    obtain ⟨o13, h⟩ := h
    refine e_gA flX1_9 rfl rfl o13 dX1_nextOrder_59 ?_
    refine e_iload_n dX1_nextOrder_62 rfl rfl ?_
    obtain ⟨o14, h⟩ := h
    refine e_iald rfl o14 dX1_nextOrder_63 ?_
    refine e_ic_ge (tgt := 73) dX1_nextOrder_64 (by decide) (fun c15 => ?_) (fun c15 => ?_)
    · replace h := h.1 c15
      refine e_aload_n dX1_nextOrder_73 rfl rfl ?_
      refine e_iload_n dX1_nextOrder_74 rfl rfl ?_
      refine e_iload_n dX1_nextOrder_75 rfl rfl ?_
      refine e_callV (As := [iV v1, iV v2]) (st := []) mt_X1_swap in_X1_swap lkX1_68 rfl rfl ⟨by decide, by decide⟩ (Nat.le_of_ble_eq_true rfl) ⟨by decide, by decide⟩ rfl rfl dX1_nextOrder_76 (Ctr.mono h (fun v M16 h => ?_))
      obtain ⟨rfl, h⟩ := h
      show E_X1_nextOrder l q 79 [(0, rV (some 35)), (1, iV v1), (2, iV v2)] [] M16 0 0
      refine e_iload_n dX1_nextOrder_79 rfl rfl ?_
      refine e_iconst (v := 1) dX1_nextOrder_80 (by decide) ?_
      refine e_iadd dX1_nextOrder_81 ?_
      refine e_istore_n (lv' := [(3, iV (v1 + 1)), (0, rV (some 35)), (1, iV v1), (2, iV v2)]) dX1_nextOrder_82 rfl (by decide) rfl ?_
      refine e_aload_n dX1_nextOrder_83 rfl rfl ?_
      refine e_gI flX1_18 rfl rfl dX1_nextOrder_84 ?_
      refine e_iconst (v := 1) dX1_nextOrder_87 (by decide) ?_
      refine e_isub dX1_nextOrder_88 ?_
      refine e_istore (lv' := [(4, iV ((mI M16 35 2) - 1)), (3, iV (v1 + 1)), (0, rV (some 35)), (1, iV v1), (2, iV v2)]) (by decide) rfl dX1_nextOrder_89 ?_
      exact e_lv (List.forall_mem_cons.mpr ⟨rfl, List.forall_mem_cons.mpr ⟨rfl, List.forall_mem_cons.mpr ⟨rfl, fun _ h => absurd h List.not_mem_nil⟩⟩⟩) h
    · replace h := h.2 c15
      refine e_iinc (v := (-1)) (lv' := [(2, iV (v2 + (-1))), (0, rV (some 35)), (1, iV v1)]) rfl (by decide) (by decide) rfl dX1_nextOrder_67 ?_
      refine e_goto (tgt := 47) dX1_nextOrder_70 (by decide) ?_
      exact e_lv (List.forall_mem_cons.mpr ⟨rfl, List.forall_mem_cons.mpr ⟨rfl, List.forall_mem_cons.mpr ⟨rfl, fun _ h => absurd h List.not_mem_nil⟩⟩⟩) h
theorem w_X1_nextOrder_91 (l : Launch) (q : Int32 → o_M → Prop) (v3 : Int32) (v4 : Int32) (M : o_M) (h : ((v4 ≤ v3 → q 1 M) ∧ (¬ v4 ≤ v3 → K_X1_swap l [rV (some 35), iV v3, iV v4] M (fun M18 => H_X1_nextOrder_91 l q (v3 + 1) (v4 + (-1)) M18)))) : H_X1_nextOrder_91 l q v3 v4 M := by
  refine e_iload_n dX1_nextOrder_91 rfl rfl ?_
  refine e_iload rfl dX1_nextOrder_92 ?_
  refine e_ic_ge (tgt := 113) dX1_nextOrder_94 (by decide) (fun c17 => ?_) (fun c17 => ?_)
  · replace h := h.1 c17
    refine e_iconst (v := 1) dX1_nextOrder_113 (by decide) ?_
    exact e_iret rfl rb_1 dX1_nextOrder_114 ⟨_, rfl, h⟩
  · replace h := h.2 c17
    refine e_aload_n dX1_nextOrder_97 rfl rfl ?_
    refine e_iload_n dX1_nextOrder_98 rfl rfl ?_
    refine e_iload rfl dX1_nextOrder_99 ?_
    refine e_callV (As := [iV v3, iV v4]) (st := []) mt_X1_swap in_X1_swap lkX1_68 rfl rfl ⟨by decide, by decide⟩ (Nat.le_of_ble_eq_true rfl) ⟨by decide, by decide⟩ rfl rfl dX1_nextOrder_101 (Ctr.mono h (fun v M18 h => ?_))
    obtain ⟨rfl, h⟩ := h
    show E_X1_nextOrder l q 104 [(0, rV (some 35)), (3, iV v3), (4, iV v4)] [] M18 0 0
    refine e_iinc (v := 1) (lv' := [(3, iV (v3 + 1)), (0, rV (some 35)), (4, iV v4)]) rfl (by decide) (by decide) rfl dX1_nextOrder_104 ?_
    refine e_iinc (v := (-1)) (lv' := [(4, iV (v4 + (-1))), (3, iV (v3 + 1)), (0, rV (some 35))]) rfl (by decide) (by decide) rfl dX1_nextOrder_107 ?_
    refine e_goto (tgt := 91) dX1_nextOrder_110 (by decide) ?_
    exact e_lv (List.forall_mem_cons.mpr ⟨rfl, List.forall_mem_cons.mpr ⟨rfl, List.forall_mem_cons.mpr ⟨rfl, fun _ h => absurd h List.not_mem_nil⟩⟩⟩) h
abbrev H_X2_hasLeave_2 (l : Launch) (q : Int32 → o_M → Prop) (a0 : Nat) (v1 : Int32) (v2 : Int32) (M : o_M) : Prop := E_X2_hasLeave l q 2 [(0, rV (some a0)), (1, iV v1), (2, iV v2)] [] M 0 0
theorem w_X2_hasLeave (l : Launch) (a0 : Nat) (p1 : Int32) (t0 : o_ty a0 = .inl 2) (M : o_M) (q : Int32 → o_M → Prop) (h : H_X2_hasLeave_2 l q a0 p1 0 M) : K_X2_hasLeave l [rV (some a0), iV p1] M q := by
  refine o_ctr (ini := false) (by decide +kernel) rfl (fun z => by cases z) (Nat.le_of_ble_eq_true rfl) ?_
  show E_X2_hasLeave l q 0 [(0, rV (some a0)), (1, iV p1)] [] M 0 0
  refine e_iconst (v := 0) dX2_hasLeave_0 (by decide) ?_
  refine e_istore_n (lv' := [(2, iV 0), (0, rV (some a0)), (1, iV p1)]) dX2_hasLeave_1 rfl (by decide) rfl ?_
  exact e_lv (List.forall_mem_cons.mpr ⟨rfl, List.forall_mem_cons.mpr ⟨rfl, List.forall_mem_cons.mpr ⟨rfl, fun _ h => absurd h List.not_mem_nil⟩⟩⟩) h
theorem w_X2_hasLeave_2 (l : Launch) (q : Int32 → o_M → Prop) (a0 : Nat) (t0 : o_ty a0 = .inl 2) (v1 : Int32) (v2 : Int32) (M : o_M) (h : (((mI M a0 5) ≤ v2 → q 0 M) ∧ (¬ (mI M a0 5) ≤ v2 → (mR M a0 3 = some (a0 + 1) ∧ (vp_in v2 (mN M (a0 + 1)) ∧ (mR M a0 4 = some (a0 + 2) ∧ (vp_in v2 (mN M (a0 + 2)) ∧ K_X11_isWithin l [iV v1, iV (mI M (a0 + 1) v2.toNatClampNeg), iV (mI M (a0 + 2) v2.toNatClampNeg)] M (fun r7 M6 => ((r7 = 0 → H_X2_hasLeave_2 l q a0 v1 (v2 + 1) M6) ∧ (¬ r7 = 0 → q 1 M6)))))))))) : H_X2_hasLeave_2 l q a0 v1 v2 M := by
  refine e_iload_n dX2_hasLeave_2 rfl rfl ?_
  refine e_aload_n dX2_hasLeave_3 rfl rfl ?_
  refine e_gI flX2_18 t0 rfl dX2_hasLeave_4 ?_
  refine e_ic_ge (tgt := 37) dX2_hasLeave_7 (by decide) (fun c1 => ?_) (fun c1 => ?_)
  · replace h := h.1 c1
    refine e_iconst (v := 0) dX2_hasLeave_37 (by decide) ?_
    exact e_iret rfl rb_0 dX2_hasLeave_38 ⟨_, rfl, h⟩
  · replace h := h.2 c1
    refine e_iload_n dX2_hasLeave_10 rfl rfl ?_
    refine e_aload_n dX2_hasLeave_11 rfl rfl ?_
    obtain ⟨o2, h⟩ := h
    refine e_gA flX2_9 t0 rfl o2 dX2_hasLeave_12 ?_
    refine e_iload_n dX2_hasLeave_15 rfl rfl ?_
    obtain ⟨o3, h⟩ := h
    refine e_iald ((o_sub2 t0).2.1) o3 dX2_hasLeave_16 ?_
    refine e_aload_n dX2_hasLeave_17 rfl rfl ?_
    obtain ⟨o4, h⟩ := h
    refine e_gA flX2_15 t0 rfl o4 dX2_hasLeave_18 ?_
    refine e_iload_n dX2_hasLeave_21 rfl rfl ?_
    obtain ⟨o5, h⟩ := h
    refine e_iald ((o_sub2 t0).2.2) o5 dX2_hasLeave_22 ?_
    refine e_callS (As := [iV v1, iV (mI M (a0 + 1) v2.toNatClampNeg), iV (mI M (a0 + 2) v2.toNatClampNeg)]) (st := []) mt_X11_isWithin is_X11_isWithin lkX2_31 ⟨by decide, by decide⟩ (Nat.le_of_ble_eq_true rfl) ⟨by decide, by decide⟩ rfl rfl dX2_hasLeave_23 (Ctr.mono h (fun v M6 h => ?_))
    obtain ⟨r7, rfl, h⟩ := h
    show E_X2_hasLeave l q 26 [(0, rV (some a0)), (1, iV v1), (2, iV v2)] [iV r7] M6 0 0
    refine e_if_eq (tgt := 31) dX2_hasLeave_26 (by decide) (fun c8 => ?_) (fun c8 => ?_)
    · replace h := h.1 c8
      refine e_iinc (v := 1) (lv' := [(2, iV (v2 + 1)), (0, rV (some a0)), (1, iV v1)]) rfl (by decide) (by decide) rfl dX2_hasLeave_31 ?_
      refine e_goto (tgt := 2) dX2_hasLeave_34 (by decide) ?_
      exact e_lv (List.forall_mem_cons.mpr ⟨rfl, List.forall_mem_cons.mpr ⟨rfl, List.forall_mem_cons.mpr ⟨rfl, fun _ h => absurd h List.not_mem_nil⟩⟩⟩) h
    · replace h := h.2 c8
      refine e_iconst (v := 1) dX2_hasLeave_29 (by decide) ?_
      exact e_iret rfl rb_1 dX2_hasLeave_30 ⟨_, rfl, h⟩
theorem w_X2_init (l : Launch) (a0 : Nat) (p1 : Int32) (p2 : Int32) (p3 : Int32) (t0 : o_ty a0 = .inl 2) (M : o_M) (q : o_M → Prop) (h : ((a0 + 1) ∉ mL M ∧ ((a0 + 2) ∉ mL (sR (nW M (a0 + 1) 6) a0 3 (some (a0 + 1))) ∧ q (sI (sI (sI (sI (sR (nW (sR (nW M (a0 + 1) 6) a0 3 (some (a0 + 1))) (a0 + 2) 6) a0 4 (some (a0 + 2))) a0 5 0) a0 0 p1) a0 1 p2) a0 2 p3)))) : K_X2_init l [rV (some a0), iV p1, iV p2, iV p3] M q := by
  refine o_ctr (ini := true) (by decide +kernel) rfl (fun z => rfl) (Nat.le_of_ble_eq_true rfl) ?_
  show E_X2_init l q 0 [(0, rV (some a0)), (1, iV p1), (2, iV p2), (3, iV p3)] [] M 0 0
  refine e_aload_n dX2_init_0 rfl rfl ?_
  refine e_objI loX2_3 oi_1 oi_2 (by decide) (Nat.le_of_ble_eq_true rfl) (by decide) dX2_init_1 ?_
  refine e_aload_n dX2_init_4 rfl rfl ?_
  refine e_bipush (v := 6) dX2_init_5 (by decide) ?_
  obtain ⟨o1, h⟩ := h
  refine e_newa (N := 6) o1 ((o_sub2 t0).2.1) rfl rfl (by decide) ac_int (by decide) (by decide) (by decide) (by decide) (by decide) dX2_init_7 ?_
  refine e_pR flX2_9 t0 (Or.inr ⟨rfl, rfl, rfl, fnX2_9⟩) rfl dX2_init_9 ?_
  refine e_aload_n dX2_init_12 rfl rfl ?_
  refine e_bipush (v := 6) dX2_init_13 (by decide) ?_
  obtain ⟨o2, h⟩ := h
  refine e_newa (N := 6) o2 ((o_sub2 t0).2.2) rfl rfl (by decide) ac_int (by decide) (by decide) (by decide) (by decide) (by decide) dX2_init_15 ?_
  refine e_pR flX2_15 t0 (Or.inr ⟨rfl, rfl, rfl, fnX2_15⟩) rfl dX2_init_17 ?_
  refine e_aload_n dX2_init_20 rfl rfl ?_
  refine e_iconst (v := 0) dX2_init_21 (by decide) ?_
  refine e_pI flX2_18 t0 (Or.inl rfl) rfl rfl rfl dX2_init_22 ?_
  refine e_aload_n dX2_init_25 rfl rfl ?_
  refine e_iload_n dX2_init_26 rfl rfl ?_
  refine e_pI flX2_22 t0 (Or.inr ⟨rfl, rfl, rfl, fnX2_22⟩) rfl rfl rfl dX2_init_27 ?_
  refine e_aload_n dX2_init_30 rfl rfl ?_
  refine e_iload_n dX2_init_31 rfl rfl ?_
  refine e_pI flX2_25 t0 (Or.inr ⟨rfl, rfl, rfl, fnX2_25⟩) rfl rfl rfl dX2_init_32 ?_
  refine e_aload_n dX2_init_35 rfl rfl ?_
  refine e_iload_n dX2_init_36 rfl rfl ?_
  refine e_pI flX2_28 t0 (Or.inr ⟨rfl, rfl, rfl, fnX2_28⟩) rfl rfl rfl dX2_init_37 ?_
  exact e_ret rfl dX2_init_40 ⟨rfl, h⟩
theorem w_X3_emitToken (l : Launch) (p1 : Int32) (M : o_M) (q : o_M → Prop) (h : K_X3_emit l [rV (some 23), iV ((-1) - p1)] M (fun M1 => q M1)) : K_X3_emitToken l [rV (some 23), iV p1] M q := by
  refine o_ctr (ini := false) (by decide +kernel) rfl (fun z => by cases z) (Nat.le_of_ble_eq_true rfl) ?_
  show E_X3_emitToken l q 0 [(0, rV (some 23)), (1, iV p1)] [] M 0 0
  refine e_aload_n dX3_emitToken_0 rfl rfl ?_
  refine e_iconst (v := (-1)) dX3_emitToken_1 (by decide) ?_
  refine e_iload_n dX3_emitToken_2 rfl rfl ?_
  refine e_isub dX3_emitToken_3 ?_
  refine e_callV (As := [iV ((-1) - p1)]) (st := []) mt_X3_emit in_X3_emit lkX3_87 rfl rfl ⟨by decide, by decide⟩ (Nat.le_of_ble_eq_true rfl) ⟨by decide, by decide⟩ rfl rfl dX3_emitToken_4 (Ctr.mono h (fun v M1 h => ?_))
  obtain ⟨rfl, h⟩ := h
  show E_X3_emitToken l q 7 [(0, rV (some 23)), (1, iV p1)] [] M1 0 0
  exact e_ret rfl dX3_emitToken_7 ⟨rfl, h⟩
theorem w_X3_init (l : Launch) (M : o_M) (q : o_M → Prop) (h : (24 ∉ mL M ∧ (25 ∉ mL (sR (nW M 24 300) 23 0 (some 24)) ∧ q (sI (sI (sI (sI (sI (sI (sI (sI (sI (sR (sR (nW (sR (nW M 24 300) 23 0 (some 24)) 25 10) 23 1 (some 25)) 23 2 none) 23 3 0) 23 4 0) 23 5 0) 23 6 25) 23 7 0) 23 8 0) 23 9 0) 23 10 0) 23 11 (-1))))) : K_X3_init l [rV (some 23)] M q := by
  refine o_ctr (ini := true) (by decide +kernel) rfl (fun z => rfl) (Nat.le_of_ble_eq_true rfl) ?_
  show E_X3_init l q 0 [(0, rV (some 23))] [] M 0 0
  refine e_aload_n dX3_init_0 rfl rfl ?_
  refine e_objI loX3_3 oi_1 oi_2 (by decide) (Nat.le_of_ble_eq_true rfl) (by decide) dX3_init_1 ?_
  refine e_aload_n dX3_init_4 rfl rfl ?_
  refine e_sipush (v := 300) dX3_init_5 (by decide) ?_
  obtain ⟨o1, h⟩ := h
  refine e_newa (N := 300) o1 rfl rfl rfl (by decide) ac_int (by decide) (by decide) (by decide) (by decide) (by decide) dX3_init_8 ?_
  refine e_pR flX3_9 rfl (Or.inr ⟨rfl, rfl, rfl, fnX3_9⟩) rfl dX3_init_10 ?_
  refine e_aload_n dX3_init_13 rfl rfl ?_
  refine e_bipush (v := 10) dX3_init_14 (by decide) ?_
  obtain ⟨o2, h⟩ := h
  refine e_newa (N := 10) o2 rfl rfl rfl (by decide) ac_int (by decide) (by decide) (by decide) (by decide) (by decide) dX3_init_16 ?_
  refine e_pR flX3_15 rfl (Or.inr ⟨rfl, rfl, rfl, fnX3_15⟩) rfl dX3_init_18 ?_
  refine e_aload_n dX3_init_21 rfl rfl ?_
  refine e_null dX3_init_22 ?_
  refine e_pR flX3_18 rfl (Or.inl rfl) rfl dX3_init_23 ?_
  refine e_aload_n dX3_init_26 rfl rfl ?_
  refine e_iconst (v := 0) dX3_init_27 (by decide) ?_
  refine e_pI flX3_22 rfl (Or.inl rfl) rfl rfl rfl dX3_init_28 ?_
  refine e_aload_n dX3_init_31 rfl rfl ?_
  refine e_iconst (v := 0) dX3_init_32 (by decide) ?_
  refine e_pI flX3_26 rfl (Or.inl rfl) rfl rfl rfl dX3_init_33 ?_
  refine e_aload_n dX3_init_36 rfl rfl ?_
  refine e_iconst (v := 0) dX3_init_37 (by decide) ?_
  refine e_pI flX3_29 rfl (Or.inl rfl) rfl rfl rfl dX3_init_38 ?_
  refine e_aload_n dX3_init_41 rfl rfl ?_
  refine e_bipush (v := 25) dX3_init_42 (by decide) ?_
  refine e_pI flX3_34 rfl (Or.inl rfl) rfl rfl rfl dX3_init_44 ?_
  refine e_aload_n dX3_init_47 rfl rfl ?_
  refine e_iconst (v := 0) dX3_init_48 (by decide) ?_
  refine e_pI flX3_37 rfl (Or.inl rfl) rfl rfl rfl dX3_init_49 ?_
  refine e_aload_n dX3_init_52 rfl rfl ?_
  refine e_iconst (v := 0) dX3_init_53 (by decide) ?_
  refine e_pI flX3_40 rfl (Or.inl rfl) rfl rfl rfl dX3_init_54 ?_
  refine e_aload_n dX3_init_57 rfl rfl ?_
  refine e_iconst (v := 0) dX3_init_58 (by decide) ?_
  refine e_pI flX3_43 rfl (Or.inl rfl) rfl rfl rfl dX3_init_59 ?_
  refine e_aload_n dX3_init_62 rfl rfl ?_
  refine e_iconst (v := 0) dX3_init_63 (by decide) ?_
  refine e_pI flX3_46 rfl (Or.inl rfl) rfl rfl rfl dX3_init_64 ?_
  refine e_aload_n dX3_init_67 rfl rfl ?_
  refine e_iconst (v := (-1)) dX3_init_68 (by decide) ?_
  refine e_pI flX3_49 rfl (Or.inl rfl) rfl rfl rfl dX3_init_69 ?_
  exact e_ret rfl dX3_init_72 ⟨rfl, h⟩
abbrev H_X3_takeNumber_5 (l : Launch) (q : o_M → Prop) (M : o_M) : Prop := E_X3_takeNumber l q 5 [(0, rV (some 23))] [] M 0 0
theorem w_X3_takeNumber (l : Launch) (M : o_M) (q : o_M → Prop) (h : H_X3_takeNumber_5 l q (sI M 23 7 0)) : K_X3_takeNumber l [rV (some 23)] M q := by
  refine o_ctr (ini := false) (by decide +kernel) rfl (fun z => by cases z) (Nat.le_of_ble_eq_true rfl) ?_
  show E_X3_takeNumber l q 0 [(0, rV (some 23))] [] M 0 0
  refine e_aload_n dX3_takeNumber_0 rfl rfl ?_
  refine e_iconst (v := 0) dX3_takeNumber_1 (by decide) ?_
  refine e_pI flX3_37 rfl (Or.inl rfl) rfl rfl rfl dX3_takeNumber_2 ?_
  exact e_lv (List.forall_mem_cons.mpr ⟨rfl, fun _ h => absurd h List.not_mem_nil⟩) h
theorem w_X3_takeNumber_5 (l : Launch) (q : o_M → Prop) (M : o_M) (h : (((mI M 23 3) ≤ (mI M 23 9) → ((((mI M 23 9) - (mI M 23 8)) ≤ 5 → q (sI M 23 6 24)) ∧ (¬ ((mI M 23 9) - (mI M 23 8)) ≤ 5 → q (sI M 23 6 26)))) ∧ (¬ (mI M 23 3) ≤ (mI M 23 9) → (mR M 23 2 = some 22 ∧ (vp_in (mI M 23 9) (mN M 22) ∧ K_X3_isDigit l [iV (mI M 22 (mI M 23 9).toNatClampNeg)] M (fun r6 M5 => ((r6 = 0 → ((((mI M5 23 9) - (mI M5 23 8)) ≤ 5 → q (sI M5 23 6 24)) ∧ (¬ ((mI M5 23 9) - (mI M5 23 8)) ≤ 5 → q (sI M5 23 6 26)))) ∧ (¬ r6 = 0 → (mR M5 23 2 = some 22 ∧ (vp_in (mI M5 23 9) (mN M5 22) ∧ H_X3_takeNumber_5 l q (sI (sI M5 23 7 (((10 * (mI M5 23 7)) + (mI M5 22 (mI M5 23 9).toNatClampNeg)) - 48)) 23 9 ((mI (sI M5 23 7 (((10 * (mI M5 23 7)) + (mI M5 22 (mI M5 23 9).toNatClampNeg)) - 48)) 23 9) + 1)))))))))))) : H_X3_takeNumber_5 l q M := by
  refine e_aload_n dX3_takeNumber_5 rfl rfl ?_
  refine e_gI flX3_43 rfl rfl dX3_takeNumber_6 ?_
  refine e_aload_n dX3_takeNumber_9 rfl rfl ?_
  refine e_gI flX3_22 rfl rfl dX3_takeNumber_10 ?_
  refine e_ic_ge (tgt := 68) dX3_takeNumber_13 (by decide) (fun c1 => ?_) (fun c1 => ?_)
  · replace h := h.1 c1
    refine e_aload_n dX3_takeNumber_68 rfl rfl ?_
    refine e_aload_n dX3_takeNumber_69 rfl rfl ?_
    refine e_gI flX3_43 rfl rfl dX3_takeNumber_70 ?_
    refine e_aload_n dX3_takeNumber_73 rfl rfl ?_
    refine e_gI flX3_40 rfl rfl dX3_takeNumber_74 ?_
    refine e_isub dX3_takeNumber_77 ?_
    refine e_iconst (v := 5) dX3_takeNumber_78 (by decide) ?_
    refine e_ic_le (tgt := 87) dX3_takeNumber_79 (by decide) (fun c2 => ?_) (fun c2 => ?_)
    · replace h := h.1 c2
      refine e_bipush (v := 24) dX3_takeNumber_87 (by decide) ?_
      refine e_pI flX3_34 rfl (Or.inl rfl) rfl rfl rfl dX3_takeNumber_89 ?_
      exact e_ret rfl dX3_takeNumber_92 ⟨rfl, h⟩
    · replace h := h.2 c2
      refine e_bipush (v := 26) dX3_takeNumber_82 (by decide) ?_
      refine e_goto (tgt := 89) dX3_takeNumber_84 (by decide) ?_
      refine e_pI flX3_34 rfl (Or.inl rfl) rfl rfl rfl dX3_takeNumber_89 ?_
      exact e_ret rfl dX3_takeNumber_92 ⟨rfl, h⟩
  · replace h := h.2 c1
    refine e_aload_n dX3_takeNumber_16 rfl rfl ?_
    obtain ⟨o3, h⟩ := h
    refine e_gA flX3_18 rfl rfl o3 dX3_takeNumber_17 ?_
    refine e_aload_n dX3_takeNumber_20 rfl rfl ?_
    refine e_gI flX3_43 rfl rfl dX3_takeNumber_21 ?_
    obtain ⟨o4, h⟩ := h
    refine e_bald rfl o4 dX3_takeNumber_24 ?_
    refine e_callS (As := [iV (mI M 22 (mI M 23 9).toNatClampNeg)]) (st := []) mt_X3_isDigit is_X3_isDigit lkX3_103 ⟨by decide, by decide⟩ (Nat.le_of_ble_eq_true rfl) ⟨by decide, by decide⟩ rfl rfl dX3_takeNumber_25 (Ctr.mono h (fun v M5 h => ?_))
    obtain ⟨r6, rfl, h⟩ := h
    show E_X3_takeNumber l q 28 [(0, rV (some 23))] [iV r6] M5 0 0
    refine e_if_eq (tgt := 68) dX3_takeNumber_28 (by decide) (fun c7 => ?_) (fun c7 => ?_)
    · replace h := h.1 c7
      refine e_aload_n dX3_takeNumber_68 rfl rfl ?_
      refine e_aload_n dX3_takeNumber_69 rfl rfl ?_
      refine e_gI flX3_43 rfl rfl dX3_takeNumber_70 ?_
      refine e_aload_n dX3_takeNumber_73 rfl rfl ?_
      refine e_gI flX3_40 rfl rfl dX3_takeNumber_74 ?_
      refine e_isub dX3_takeNumber_77 ?_
      refine e_iconst (v := 5) dX3_takeNumber_78 (by decide) ?_
      refine e_ic_le (tgt := 87) dX3_takeNumber_79 (by decide) (fun c8 => ?_) (fun c8 => ?_)
      · replace h := h.1 c8
        refine e_bipush (v := 24) dX3_takeNumber_87 (by decide) ?_
        refine e_pI flX3_34 rfl (Or.inl rfl) rfl rfl rfl dX3_takeNumber_89 ?_
        exact e_ret rfl dX3_takeNumber_92 ⟨rfl, h⟩
      · replace h := h.2 c8
        refine e_bipush (v := 26) dX3_takeNumber_82 (by decide) ?_
        refine e_goto (tgt := 89) dX3_takeNumber_84 (by decide) ?_
        refine e_pI flX3_34 rfl (Or.inl rfl) rfl rfl rfl dX3_takeNumber_89 ?_
        exact e_ret rfl dX3_takeNumber_92 ⟨rfl, h⟩
    · replace h := h.2 c7
      refine e_aload_n dX3_takeNumber_31 rfl rfl ?_
      refine e_bipush (v := 10) dX3_takeNumber_32 (by decide) ?_
      refine e_aload_n dX3_takeNumber_34 rfl rfl ?_
      refine e_gI flX3_37 rfl rfl dX3_takeNumber_35 ?_
      refine e_imul dX3_takeNumber_38 ?_
      refine e_aload_n dX3_takeNumber_39 rfl rfl ?_
      obtain ⟨o9, h⟩ := h
      refine e_gA flX3_18 rfl rfl o9 dX3_takeNumber_40 ?_
      refine e_aload_n dX3_takeNumber_43 rfl rfl ?_
      refine e_gI flX3_43 rfl rfl dX3_takeNumber_44 ?_
      obtain ⟨o10, h⟩ := h
      refine e_bald rfl o10 dX3_takeNumber_47 ?_
      refine e_iadd dX3_takeNumber_48 ?_
      refine e_bipush (v := 48) dX3_takeNumber_49 (by decide) ?_
      refine e_isub dX3_takeNumber_51 ?_
      refine e_pI flX3_37 rfl (Or.inl rfl) rfl rfl rfl dX3_takeNumber_52 ?_
      refine e_aload_n dX3_takeNumber_55 rfl rfl ?_
      refine e_dup rfl dX3_takeNumber_56 ?_
      refine e_gI flX3_43 rfl rfl dX3_takeNumber_57 ?_
      refine e_iconst (v := 1) dX3_takeNumber_60 (by decide) ?_
      refine e_iadd dX3_takeNumber_61 ?_
      refine e_pI flX3_43 rfl (Or.inl rfl) rfl rfl rfl dX3_takeNumber_62 ?_
      refine e_goto (tgt := 5) dX3_takeNumber_65 (by decide) ?_
      exact e_lv (List.forall_mem_cons.mpr ⟨rfl, fun _ h => absurd h List.not_mem_nil⟩) h
theorem w_X4_init (l : Launch) (M : o_M) (q : o_M → Prop) (h : (27 ∉ mL M ∧ (28 ∉ mL (sR (nW M 27 10) 26 0 (some 27)) ∧ q (sI (sR (nW (sR (nW M 27 10) 26 0 (some 27)) 28 64) 26 1 (some 28)) 26 2 0)))) : K_X4_init l [rV (some 26)] M q := by
  refine o_ctr (ini := true) (by decide +kernel) rfl (fun z => rfl) (Nat.le_of_ble_eq_true rfl) ?_
  show E_X4_init l q 0 [(0, rV (some 26))] [] M 0 0
  refine e_aload_n dX4_init_0 rfl rfl ?_
  refine e_objI loX4_3 oi_1 oi_2 (by decide) (Nat.le_of_ble_eq_true rfl) (by decide) dX4_init_1 ?_
  refine e_aload_n dX4_init_4 rfl rfl ?_
  refine e_bipush (v := 10) dX4_init_5 (by decide) ?_
  obtain ⟨o1, h⟩ := h
  refine e_newa (N := 10) o1 rfl rfl rfl (by decide) ac_long (by decide) (by decide) (by decide) (by decide) (by decide) dX4_init_7 ?_
  refine e_pR flX4_11 rfl (Or.inr ⟨rfl, rfl, rfl, fnX4_11⟩) rfl dX4_init_9 ?_
  refine e_aload_n dX4_init_12 rfl rfl ?_
  refine e_bipush (v := 64) dX4_init_13 (by decide) ?_
  obtain ⟨o2, h⟩ := h
  refine e_newa (N := 64) o2 rfl rfl rfl (by decide) ac_long (by decide) (by decide) (by decide) (by decide) (by decide) dX4_init_15 ?_
  refine e_pR flX4_17 rfl (Or.inr ⟨rfl, rfl, rfl, fnX4_17⟩) rfl dX4_init_17 ?_
  refine e_aload_n dX4_init_20 rfl rfl ?_
  refine e_iconst (v := 0) dX4_init_21 (by decide) ?_
  refine e_pI flX4_20 rfl (Or.inl rfl) rfl rfl rfl dX4_init_22 ?_
  exact e_ret rfl dX4_init_25 ⟨rfl, h⟩
theorem w_X4_step (l : Launch) (p1 : Int32) (M : o_M) (q : o_M → Prop) (h : ((p1 < 0 → ((10 ≤ ((-1) - p1) → ((¬ ((-1) - p1) = 15 → ((¬ ((-1) - p1) = 27 → K_X4_pop l [rV (some 26)] M (fun r6 M5 => K_X4_pop l [rV (some 26)] M5 (fun r8 M7 => K_X4_join l [iV ((-1) - p1), jV r8, jV r6] M7 (fun r10 M9 => K_X4_push l [rV (some 26), jV r10] M9 (fun M11 => q M11))))) ∧ (((-1) - p1) = 27 → K_X4_pop l [rV (some 26)] M (fun r13 M12 => K_X4_push l [rV (some 26), jV (-r13)] M12 (fun M14 => q M14))))) ∧ (((-1) - p1) = 15 → K_X4_pop l [rV (some 26)] M (fun r16 M15 => ((¬ (lg_cmp r16 0) = 0 → K_X4_push l [rV (some 26), jV 0] M15 (fun M18 => q M18)) ∧ ((lg_cmp r16 0) = 0 → K_X4_push l [rV (some 26), jV 1] M15 (fun M19 => q M19))))))) ∧ (¬ 10 ≤ ((-1) - p1) → (mR M 26 0 = some 27 ∧ (vp_in ((-1) - p1) (mN M 27) ∧ K_X4_push l [rV (some 26), jV (mJ M 27 ((-1) - p1).toNatClampNeg)] M (fun M22 => q M22)))))) ∧ (¬ p1 < 0 → K_X4_push l [rV (some 26), jV p1.toInt64] M (fun M23 => q M23)))) : K_X4_step l [rV (some 26), iV p1] M q := by
  refine o_ctr (ini := false) (by decide +kernel) rfl (fun z => by cases z) (Nat.le_of_ble_eq_true rfl) ?_
  show E_X4_step l q 0 [(0, rV (some 26)), (1, iV p1)] [] M 0 0
  refine e_iconst (v := (-1)) dX4_step_0 (by decide) ?_
  refine e_iload_n dX4_step_1 rfl rfl ?_
  refine e_isub dX4_step_2 ?_
  refine e_istore_n (lv' := [(2, iV ((-1) - p1)), (0, rV (some 26)), (1, iV p1)]) dX4_step_3 rfl (by decide) rfl ?_
  refine e_iload_n dX4_step_4 rfl rfl ?_
  refine e_if_lt (tgt := 17) dX4_step_5 (by decide) (fun c1 => ?_) (fun c1 => ?_)
  · replace h := h.1 c1
    refine e_iload_n dX4_step_17 rfl rfl ?_
    refine e_bipush (v := 10) dX4_step_18 (by decide) ?_
    refine e_ic_ge (tgt := 36) dX4_step_20 (by decide) (fun c2 => ?_) (fun c2 => ?_)
    · replace h := h.1 c2
      refine e_iload_n dX4_step_36 rfl rfl ?_
      refine e_bipush (v := 15) dX4_step_37 (by decide) ?_
      refine e_ic_ne (tgt := 63) dX4_step_39 (by decide) (fun c3 => ?_) (fun c3 => ?_)
      · replace h := h.1 c3
        refine e_iload_n dX4_step_63 rfl rfl ?_
        refine e_bipush (v := 27) dX4_step_64 (by decide) ?_
        refine e_ic_ne (tgt := 81) dX4_step_66 (by decide) (fun c4 => ?_) (fun c4 => ?_)
        · replace h := h.1 c4
          refine e_aload_n dX4_step_81 rfl rfl ?_
          refine e_callV (As := []) (st := []) mt_X4_pop in_X4_pop lkX4_63 rfl rfl ⟨by decide, by decide⟩ (Nat.le_of_ble_eq_true rfl) ⟨by decide, by decide⟩ rfl rfl dX4_step_82 (Ctr.mono h (fun v M5 h => ?_))
          obtain ⟨r6, rfl, h⟩ := h
          show E_X4_step l q 85 [(2, iV ((-1) - p1)), (0, rV (some 26)), (1, iV p1)] [jV r6] M5 0 0
          refine e_lstore_n (lv' := [(3, jV r6), (2, iV ((-1) - p1)), (0, rV (some 26)), (1, iV p1)]) dX4_step_85 rfl (by decide) rfl ?_
          refine e_aload_n dX4_step_86 rfl rfl ?_
          refine e_iload_n dX4_step_87 rfl rfl ?_
          refine e_aload_n dX4_step_88 rfl rfl ?_
          refine e_callV (As := []) (st := [iV ((-1) - p1), rV (some 26)]) mt_X4_pop in_X4_pop lkX4_63 rfl rfl ⟨by decide, by decide⟩ (Nat.le_of_ble_eq_true rfl) ⟨by decide, by decide⟩ rfl rfl dX4_step_89 (Ctr.mono h (fun v M7 h => ?_))
          obtain ⟨r8, rfl, h⟩ := h
          show E_X4_step l q 92 [(3, jV r6), (2, iV ((-1) - p1)), (0, rV (some 26)), (1, iV p1)] [jV r8, iV ((-1) - p1), rV (some 26)] M7 0 0
          refine e_lload_n dX4_step_92 rfl rfl ?_
          refine e_callS (As := [iV ((-1) - p1), jV r8, jV r6]) (st := [rV (some 26)]) mt_X4_join is_X4_join lkX4_71 ⟨by decide, by decide⟩ (Nat.le_of_ble_eq_true rfl) ⟨by decide, by decide⟩ rfl rfl dX4_step_93 (Ctr.mono h (fun v M9 h => ?_))
          obtain ⟨r10, rfl, h⟩ := h
          show E_X4_step l q 96 [(3, jV r6), (2, iV ((-1) - p1)), (0, rV (some 26)), (1, iV p1)] [jV r10, rV (some 26)] M9 0 0
          refine e_callV (As := [jV r10]) (st := []) mt_X4_push in_X4_push lkX4_67 rfl rfl ⟨by decide, by decide⟩ (Nat.le_of_ble_eq_true rfl) ⟨by decide, by decide⟩ rfl rfl dX4_step_96 (Ctr.mono h (fun v M11 h => ?_))
          obtain ⟨rfl, h⟩ := h
          show E_X4_step l q 99 [(3, jV r6), (2, iV ((-1) - p1)), (0, rV (some 26)), (1, iV p1)] [] M11 0 0
          exact e_ret rfl dX4_step_99 ⟨rfl, h⟩
        · replace h := h.2 c4
          refine e_aload_n dX4_step_69 rfl rfl ?_
          refine e_aload_n dX4_step_70 rfl rfl ?_
          refine e_callV (As := []) (st := [rV (some 26)]) mt_X4_pop in_X4_pop lkX4_63 rfl rfl ⟨by decide, by decide⟩ (Nat.le_of_ble_eq_true rfl) ⟨by decide, by decide⟩ rfl rfl dX4_step_71 (Ctr.mono h (fun v M12 h => ?_))
          obtain ⟨r13, rfl, h⟩ := h
          show E_X4_step l q 74 [(2, iV ((-1) - p1)), (0, rV (some 26)), (1, iV p1)] [jV r13, rV (some 26)] M12 0 0
          refine e_lneg dX4_step_74 ?_
          refine e_callV (As := [jV (-r13)]) (st := []) mt_X4_push in_X4_push lkX4_67 rfl rfl ⟨by decide, by decide⟩ (Nat.le_of_ble_eq_true rfl) ⟨by decide, by decide⟩ rfl rfl dX4_step_75 (Ctr.mono h (fun v M14 h => ?_))
          obtain ⟨rfl, h⟩ := h
          show E_X4_step l q 78 [(2, iV ((-1) - p1)), (0, rV (some 26)), (1, iV p1)] [] M14 0 0
          refine e_goto (tgt := 99) dX4_step_78 (by decide) ?_
          exact e_ret rfl dX4_step_99 ⟨rfl, h⟩
      · replace h := h.2 c3
        refine e_aload_n dX4_step_42 rfl rfl ?_
        refine e_aload_n dX4_step_43 rfl rfl ?_
        refine e_callV (As := []) (st := [rV (some 26)]) mt_X4_pop in_X4_pop lkX4_63 rfl rfl ⟨by decide, by decide⟩ (Nat.le_of_ble_eq_true rfl) ⟨by decide, by decide⟩ rfl rfl dX4_step_44 (Ctr.mono h (fun v M15 h => ?_))
        obtain ⟨r16, rfl, h⟩ := h
        show E_X4_step l q 47 [(2, iV ((-1) - p1)), (0, rV (some 26)), (1, iV p1)] [jV r16, rV (some 26)] M15 0 0
        refine e_lconst (v := 0) dX4_step_47 (by decide) ?_
        refine e_lcmp dX4_step_48 ?_
        refine e_if_ne (tgt := 56) dX4_step_49 (by decide) (fun c17 => ?_) (fun c17 => ?_)
        · replace h := h.1 c17
          refine e_lconst (v := 0) dX4_step_56 (by decide) ?_
          refine e_callV (As := [jV 0]) (st := []) mt_X4_push in_X4_push lkX4_67 rfl rfl ⟨by decide, by decide⟩ (Nat.le_of_ble_eq_true rfl) ⟨by decide, by decide⟩ rfl rfl dX4_step_57 (Ctr.mono h (fun v M18 h => ?_))
          obtain ⟨rfl, h⟩ := h
          show E_X4_step l q 60 [(2, iV ((-1) - p1)), (0, rV (some 26)), (1, iV p1)] [] M18 0 0
          refine e_goto (tgt := 99) dX4_step_60 (by decide) ?_
          exact e_ret rfl dX4_step_99 ⟨rfl, h⟩
        · replace h := h.2 c17
          refine e_lconst (v := 1) dX4_step_52 (by decide) ?_
          refine e_goto (tgt := 57) dX4_step_53 (by decide) ?_
          refine e_callV (As := [jV 1]) (st := []) mt_X4_push in_X4_push lkX4_67 rfl rfl ⟨by decide, by decide⟩ (Nat.le_of_ble_eq_true rfl) ⟨by decide, by decide⟩ rfl rfl dX4_step_57 (Ctr.mono h (fun v M19 h => ?_))
          obtain ⟨rfl, h⟩ := h
          show E_X4_step l q 60 [(2, iV ((-1) - p1)), (0, rV (some 26)), (1, iV p1)] [] M19 0 0
          refine e_goto (tgt := 99) dX4_step_60 (by decide) ?_
          exact e_ret rfl dX4_step_99 ⟨rfl, h⟩
    · replace h := h.2 c2
      refine e_aload_n dX4_step_23 rfl rfl ?_
      refine e_aload_n dX4_step_24 rfl rfl ?_
      obtain ⟨o20, h⟩ := h
      refine e_gA flX4_11 rfl rfl o20 dX4_step_25 ?_
      refine e_iload_n dX4_step_28 rfl rfl ?_
      obtain ⟨o21, h⟩ := h
      refine e_lald rfl o21 dX4_step_29 ?_
      refine e_callV (As := [jV (mJ M 27 ((-1) - p1).toNatClampNeg)]) (st := []) mt_X4_push in_X4_push lkX4_67 rfl rfl ⟨by decide, by decide⟩ (Nat.le_of_ble_eq_true rfl) ⟨by decide, by decide⟩ rfl rfl dX4_step_30 (Ctr.mono h (fun v M22 h => ?_))
      obtain ⟨rfl, h⟩ := h
      show E_X4_step l q 33 [(2, iV ((-1) - p1)), (0, rV (some 26)), (1, iV p1)] [] M22 0 0
      refine e_goto (tgt := 99) dX4_step_33 (by decide) ?_
      exact e_ret rfl dX4_step_99 ⟨rfl, h⟩
  · replace h := h.2 c1
    refine e_aload_n dX4_step_8 rfl rfl ?_
    refine e_iload_n dX4_step_9 rfl rfl ?_
    refine e_i2l dX4_step_10 ?_
    refine e_callV (As := [jV p1.toInt64]) (st := []) mt_X4_push in_X4_push lkX4_67 rfl rfl ⟨by decide, by decide⟩ (Nat.le_of_ble_eq_true rfl) ⟨by decide, by decide⟩ rfl rfl dX4_step_11 (Ctr.mono h (fun v M23 h => ?_))
    obtain ⟨rfl, h⟩ := h
    show E_X4_step l q 14 [(2, iV ((-1) - p1)), (0, rV (some 26)), (1, iV p1)] [] M23 0 0
    refine e_goto (tgt := 99) dX4_step_14 (by decide) ?_
    exact e_ret rfl dX4_step_99 ⟨rfl, h⟩
theorem w_X5_allow (l : Launch) (p1 : Int32) (p2 : Int32) (M : o_M) (q : o_M → Prop) (h : K_X11_isWithin l [iV p1, iV 0, iV ((mI M 29 5) - 1)] M (fun r2 M1 => ((r2 = 0 → q M1) ∧ (¬ r2 = 0 → (mR M1 29 0 = some 30 ∧ (vp_in p1 (mN M1 30) ∧ q (sI M1 30 p1.toNatClampNeg p2))))))) : K_X5_allow l [rV (some 29), iV p1, iV p2] M q := by
  refine o_ctr (ini := false) (by decide +kernel) rfl (fun z => by cases z) (Nat.le_of_ble_eq_true rfl) ?_
  show E_X5_allow l q 0 [(0, rV (some 29)), (1, iV p1), (2, iV p2)] [] M 0 0
  refine e_iload_n dX5_allow_0 rfl rfl ?_
  refine e_iconst (v := 0) dX5_allow_1 (by decide) ?_
  refine e_aload_n dX5_allow_2 rfl rfl ?_
  refine e_gI flX5_27 rfl rfl dX5_allow_3 ?_
  refine e_iconst (v := 1) dX5_allow_6 (by decide) ?_
  refine e_isub dX5_allow_7 ?_
  refine e_callS (As := [iV p1, iV 0, iV ((mI M 29 5) - 1)]) (st := []) mt_X11_isWithin is_X11_isWithin lkX5_46 ⟨by decide, by decide⟩ (Nat.le_of_ble_eq_true rfl) ⟨by decide, by decide⟩ rfl rfl dX5_allow_8 (Ctr.mono h (fun v M1 h => ?_))
  obtain ⟨r2, rfl, h⟩ := h
  show E_X5_allow l q 11 [(0, rV (some 29)), (1, iV p1), (2, iV p2)] [iV r2] M1 0 0
  refine e_if_eq (tgt := 21) dX5_allow_11 (by decide) (fun c3 => ?_) (fun c3 => ?_)
  · replace h := h.1 c3
    exact e_ret rfl dX5_allow_21 ⟨rfl, h⟩
  · replace h := h.2 c3
    refine e_aload_n dX5_allow_14 rfl rfl ?_
    obtain ⟨o4, h⟩ := h
    refine e_gA flX5_9 rfl rfl o4 dX5_allow_15 ?_
    refine e_iload_n dX5_allow_18 rfl rfl ?_
    refine e_iload_n dX5_allow_19 rfl rfl ?_
    obtain ⟨o5, h⟩ := h
    refine e_iast rfl o5 dX5_allow_20 ?_
    exact e_ret rfl dX5_allow_21 ⟨rfl, h⟩
theorem w_X5_begin (l : Launch) (p1 : Int32) (M : o_M) (q : o_M → Prop) (h : K_J9_min_7cf53 l [iV p1, iV 12] M (fun r2 M1 => (mR (sI (sI M1 29 5 r2) 29 6 0) 29 0 = some 30 ∧ K_J7_fill_53178 l [rV (some 30), iV 0] (sI (sI M1 29 5 r2) 29 6 0) (fun M4 => (mR M4 29 1 = some 31 ∧ K_J7_fill_53178 l [rV (some 31), iV (-1)] M4 (fun M6 => (mR M6 29 2 = some 32 ∧ K_J7_fill_53178 l [rV (some 32), iV (-1)] M6 (fun M8 => q M8)))))))) : K_X5_begin l [rV (some 29), iV p1] M q := by
  refine o_ctr (ini := false) (by decide +kernel) rfl (fun z => by cases z) (Nat.le_of_ble_eq_true rfl) ?_
  show E_X5_begin l q 0 [(0, rV (some 29)), (1, iV p1)] [] M 0 0
  refine e_aload_n dX5_begin_0 rfl rfl ?_
  refine e_iload_n dX5_begin_1 rfl rfl ?_
  refine e_bipush (v := 12) dX5_begin_2 (by decide) ?_
  refine e_callS (As := [iV p1, iV 12]) (st := [rV (some 29)]) mt_J9_min_7cf53 is_J9_min_7cf53 lkX5_34 ⟨by decide, by decide⟩ (Nat.le_of_ble_eq_true rfl) ⟨by decide, by decide⟩ rfl rfl dX5_begin_4 (Ctr.mono h (fun v M1 h => ?_))
  obtain ⟨r2, rfl, h⟩ := h
  show E_X5_begin l q 7 [(0, rV (some 29)), (1, iV p1)] [iV r2, rV (some 29)] M1 0 0
  refine e_pI flX5_27 rfl (Or.inl rfl) rfl rfl rfl dX5_begin_7 ?_
  refine e_aload_n dX5_begin_10 rfl rfl ?_
  refine e_iconst (v := 0) dX5_begin_11 (by decide) ?_
  refine e_pI flX5_31 rfl (Or.inl rfl) rfl rfl rfl dX5_begin_12 ?_
  refine e_aload_n dX5_begin_15 rfl rfl ?_
  obtain ⟨o3, h⟩ := h
  refine e_gA flX5_9 rfl rfl o3 dX5_begin_16 ?_
  refine e_iconst (v := 0) dX5_begin_19 (by decide) ?_
  refine e_callS (As := [rV (some 30), iV 0]) (st := []) mt_J7_fill_53178 is_J7_fill_53178 lkX5_40 ⟨by decide, by decide⟩ (Nat.le_of_ble_eq_true rfl) ⟨by decide, by decide⟩ rfl rfl dX5_begin_20 (Ctr.mono h (fun v M4 h => ?_))
  obtain ⟨rfl, h⟩ := h
  show E_X5_begin l q 23 [(0, rV (some 29)), (1, iV p1)] [] M4 0 0
  refine e_aload_n dX5_begin_23 rfl rfl ?_
  obtain ⟨o5, h⟩ := h
  refine e_gA flX5_15 rfl rfl o5 dX5_begin_24 ?_
  refine e_iconst (v := (-1)) dX5_begin_27 (by decide) ?_
  refine e_callS (As := [rV (some 31), iV (-1)]) (st := []) mt_J7_fill_53178 is_J7_fill_53178 lkX5_40 ⟨by decide, by decide⟩ (Nat.le_of_ble_eq_true rfl) ⟨by decide, by decide⟩ rfl rfl dX5_begin_28 (Ctr.mono h (fun v M6 h => ?_))
  obtain ⟨rfl, h⟩ := h
  show E_X5_begin l q 31 [(0, rV (some 29)), (1, iV p1)] [] M6 0 0
  refine e_aload_n dX5_begin_31 rfl rfl ?_
  obtain ⟨o7, h⟩ := h
  refine e_gA flX5_18 rfl rfl o7 dX5_begin_32 ?_
  refine e_iconst (v := (-1)) dX5_begin_35 (by decide) ?_
  refine e_callS (As := [rV (some 32), iV (-1)]) (st := []) mt_J7_fill_53178 is_J7_fill_53178 lkX5_40 ⟨by decide, by decide⟩ (Nat.le_of_ble_eq_true rfl) ⟨by decide, by decide⟩ rfl rfl dX5_begin_36 (Ctr.mono h (fun v M8 h => ?_))
  obtain ⟨rfl, h⟩ := h
  show E_X5_begin l q 39 [(0, rV (some 29)), (1, iV p1)] [] M8 0 0
  exact e_ret rfl dX5_begin_39 ⟨rfl, h⟩
theorem w_X5_init (l : Launch) (M : o_M) (q : o_M → Prop) (h : (30 ∉ mL M ∧ (31 ∉ mL (sR (nW M 30 12) 29 0 (some 30)) ∧ (32 ∉ mL (sR (nW (sR (nW M 30 12) 29 0 (some 30)) 31 12) 29 1 (some 31)) ∧ (33 ∉ mL (sR (nW (sR (nW (sR (nW M 30 12) 29 0 (some 30)) 31 12) 29 1 (some 31)) 32 10) 29 2 (some 32)) ∧ (34 ∉ mL (sR (nW (sR (nW (sR (nW (sR (nW M 30 12) 29 0 (some 30)) 31 12) 29 1 (some 31)) 32 10) 29 2 (some 32)) 33 12) 29 3 (some 33)) ∧ q (sI (sI (sR (nW (sR (nW (sR (nW (sR (nW (sR (nW M 30 12) 29 0 (some 30)) 31 12) 29 1 (some 31)) 32 10) 29 2 (some 32)) 33 12) 29 3 (some 33)) 34 10) 29 4 (some 34)) 29 5 0) 29 6 0))))))) : K_X5_init l [rV (some 29)] M q := by
  refine o_ctr (ini := true) (by decide +kernel) rfl (fun z => rfl) (Nat.le_of_ble_eq_true rfl) ?_
  show E_X5_init l q 0 [(0, rV (some 29))] [] M 0 0
  refine e_aload_n dX5_init_0 rfl rfl ?_
  refine e_objI loX5_3 oi_1 oi_2 (by decide) (Nat.le_of_ble_eq_true rfl) (by decide) dX5_init_1 ?_
  refine e_aload_n dX5_init_4 rfl rfl ?_
  refine e_bipush (v := 12) dX5_init_5 (by decide) ?_
  obtain ⟨o1, h⟩ := h
  refine e_newa (N := 12) o1 rfl rfl rfl (by decide) ac_int (by decide) (by decide) (by decide) (by decide) (by decide) dX5_init_7 ?_
  refine e_pR flX5_9 rfl (Or.inr ⟨rfl, rfl, rfl, fnX5_9⟩) rfl dX5_init_9 ?_
  refine e_aload_n dX5_init_12 rfl rfl ?_
  refine e_bipush (v := 12) dX5_init_13 (by decide) ?_
  obtain ⟨o2, h⟩ := h
  refine e_newa (N := 12) o2 rfl rfl rfl (by decide) ac_int (by decide) (by decide) (by decide) (by decide) (by decide) dX5_init_15 ?_
  refine e_pR flX5_15 rfl (Or.inr ⟨rfl, rfl, rfl, fnX5_15⟩) rfl dX5_init_17 ?_
  refine e_aload_n dX5_init_20 rfl rfl ?_
  refine e_bipush (v := 10) dX5_init_21 (by decide) ?_
  obtain ⟨o3, h⟩ := h
  refine e_newa (N := 10) o3 rfl rfl rfl (by decide) ac_int (by decide) (by decide) (by decide) (by decide) (by decide) dX5_init_23 ?_
  refine e_pR flX5_18 rfl (Or.inr ⟨rfl, rfl, rfl, fnX5_18⟩) rfl dX5_init_25 ?_
  refine e_aload_n dX5_init_28 rfl rfl ?_
  refine e_bipush (v := 12) dX5_init_29 (by decide) ?_
  obtain ⟨o4, h⟩ := h
  refine e_newa (N := 12) o4 rfl rfl rfl (by decide) ac_int (by decide) (by decide) (by decide) (by decide) (by decide) dX5_init_31 ?_
  refine e_pR flX5_21 rfl (Or.inr ⟨rfl, rfl, rfl, fnX5_21⟩) rfl dX5_init_33 ?_
  refine e_aload_n dX5_init_36 rfl rfl ?_
  refine e_bipush (v := 10) dX5_init_37 (by decide) ?_
  obtain ⟨o5, h⟩ := h
  refine e_newa (N := 10) o5 rfl rfl rfl (by decide) ac_int (by decide) (by decide) (by decide) (by decide) (by decide) dX5_init_39 ?_
  refine e_pR flX5_24 rfl (Or.inr ⟨rfl, rfl, rfl, fnX5_24⟩) rfl dX5_init_41 ?_
  refine e_aload_n dX5_init_44 rfl rfl ?_
  refine e_iconst (v := 0) dX5_init_45 (by decide) ?_
  refine e_pI flX5_27 rfl (Or.inl rfl) rfl rfl rfl dX5_init_46 ?_
  refine e_aload_n dX5_init_49 rfl rfl ?_
  refine e_iconst (v := 0) dX5_init_50 (by decide) ?_
  refine e_pI flX5_31 rfl (Or.inl rfl) rfl rfl rfl dX5_init_51 ?_
  exact e_ret rfl dX5_init_54 ⟨rfl, h⟩
abbrev H_X5_seatOneMore_10 (l : Launch) (q : Int32 → o_M → Prop) (v2 : Int32) (v3 : Int32) (v4 : Int32) (M : o_M) : Prop := E_X5_seatOneMore l q 10 [(0, rV (some 29)), (2, iV v2), (3, iV v3), (4, iV v4)] [] M 0 0
abbrev H_X5_seatOneMore_50 (l : Launch) (q : Int32 → o_M → Prop) (v2 : Int32) (v3 : Int32) (v4 : Int32) (M : o_M) : Prop := E_X5_seatOneMore l q 50 [(0, rV (some 29)), (2, iV v2), (3, iV v3), (4, iV v4)] [] M 0 0
abbrev H_X5_seatOneMore_82 (l : Launch) (q : Int32 → o_M → Prop) (v2 : Int32) (v3 : Int32) (v4 : Int32) (v5 : Int32) (v6 : Int32) (M : o_M) : Prop := E_X5_seatOneMore l q 82 [(0, rV (some 29)), (2, iV v2), (3, iV v3), (4, iV v4), (5, iV v5), (6, iV v6)] [] M 0 0
theorem w_X5_seatOneMore (l : Launch) (p1 : Int32) (M : o_M) (q : Int32 → o_M → Prop) (h : H_X5_seatOneMore_10 l q (mI M 29 6) 0 p1 M) : K_X5_seatOneMore l [rV (some 29), iV p1] M q := by
  refine o_ctr (ini := false) (by decide +kernel) rfl (fun z => by cases z) (Nat.le_of_ble_eq_true rfl) ?_
  show E_X5_seatOneMore l q 0 [(0, rV (some 29)), (1, iV p1)] [] M 0 0
  refine e_aload_n dX5_seatOneMore_0 rfl rfl ?_
  refine e_gI flX5_31 rfl rfl dX5_seatOneMore_1 ?_
  refine e_istore_n (lv' := [(2, iV (mI M 29 6)), (0, rV (some 29)), (1, iV p1)]) dX5_seatOneMore_4 rfl (by decide) rfl ?_
  refine e_iconst (v := 0) dX5_seatOneMore_5 (by decide) ?_
  refine e_istore_n (lv' := [(3, iV 0), (2, iV (mI M 29 6)), (0, rV (some 29)), (1, iV p1)]) dX5_seatOneMore_6 rfl (by decide) rfl ?_
  refine e_iload_n dX5_seatOneMore_7 rfl rfl ?_
  refine e_istore (lv' := [(4, iV p1), (3, iV 0), (2, iV (mI M 29 6)), (0, rV (some 29)), (1, iV p1)]) (by decide) rfl dX5_seatOneMore_8 ?_
  exact e_lv (List.forall_mem_cons.mpr ⟨rfl, List.forall_mem_cons.mpr ⟨rfl, List.forall_mem_cons.mpr ⟨rfl, List.forall_mem_cons.mpr ⟨rfl, fun _ h => absurd h List.not_mem_nil⟩⟩⟩⟩) h
theorem w_X5_seatOneMore_10 (l : Launch) (q : Int32 → o_M → Prop) (v2 : Int32) (v3 : Int32) (v4 : Int32) (M : o_M) (h : (((mI M 29 5) ≤ v4 → H_X5_seatOneMore_50 l q v2 v3 0 M) ∧ (¬ (mI M 29 5) ≤ v4 → (mR M 29 1 = some 31 ∧ (vp_in v4 (mN M 31) ∧ ((¬ (mI M 31 v4.toNatClampNeg) = (-1) → H_X5_seatOneMore_10 l q v2 v3 (v4 + 1) M) ∧ ((mI M 31 v4.toNatClampNeg) = (-1) → (mR M 29 3 = some 33 ∧ (vp_in v3 (mN M 33) ∧ H_X5_seatOneMore_10 l q v2 (v3 + 1) (v4 + 1) (sI M 33 v3.toNatClampNeg v4)))))))))) : H_X5_seatOneMore_10 l q v2 v3 v4 M := by
  refine e_iload rfl dX5_seatOneMore_10 ?_
  refine e_aload_n dX5_seatOneMore_12 rfl rfl ?_
  refine e_gI flX5_27 rfl rfl dX5_seatOneMore_13 ?_
  refine e_ic_ge (tgt := 47) dX5_seatOneMore_16 (by decide) (fun c1 => ?_) (fun c1 => ?_)
  · replace h := h.1 c1
    refine e_iconst (v := 0) dX5_seatOneMore_47 (by decide) ?_
    refine e_istore (lv' := [(4, iV 0), (0, rV (some 29)), (2, iV v2), (3, iV v3)]) (by decide) rfl dX5_seatOneMore_48 ?_
    exact e_lv (List.forall_mem_cons.mpr ⟨rfl, List.forall_mem_cons.mpr ⟨rfl, List.forall_mem_cons.mpr ⟨rfl, List.forall_mem_cons.mpr ⟨rfl, fun _ h => absurd h List.not_mem_nil⟩⟩⟩⟩) h
  · replace h := h.2 c1
    refine e_aload_n dX5_seatOneMore_19 rfl rfl ?_
    obtain ⟨o2, h⟩ := h
    refine e_gA flX5_15 rfl rfl o2 dX5_seatOneMore_20 ?_
    refine e_iload rfl dX5_seatOneMore_23 ?_
    obtain ⟨o3, h⟩ := h
    refine e_iald rfl o3 dX5_seatOneMore_25 ?_
    refine e_iconst (v := (-1)) dX5_seatOneMore_26 (by decide) ?_
    refine e_ic_ne (tgt := 41) dX5_seatOneMore_27 (by decide) (fun c4 => ?_) (fun c4 => ?_)
    · replace h := h.1 c4
      refine e_iinc (v := 1) (lv' := [(4, iV (v4 + 1)), (0, rV (some 29)), (2, iV v2), (3, iV v3)]) rfl (by decide) (by decide) rfl dX5_seatOneMore_41 ?_
      refine e_goto (tgt := 10) dX5_seatOneMore_44 (by decide) ?_
      exact e_lv (List.forall_mem_cons.mpr ⟨rfl, List.forall_mem_cons.mpr ⟨rfl, List.forall_mem_cons.mpr ⟨rfl, List.forall_mem_cons.mpr ⟨rfl, fun _ h => absurd h List.not_mem_nil⟩⟩⟩⟩) h
    · replace h := h.2 c4
      refine e_aload_n dX5_seatOneMore_30 rfl rfl ?_
      obtain ⟨o5, h⟩ := h
      refine e_gA flX5_21 rfl rfl o5 dX5_seatOneMore_31 ?_
      refine e_iload_n dX5_seatOneMore_34 rfl rfl ?_
      refine e_iload rfl dX5_seatOneMore_35 ?_
      obtain ⟨o6, h⟩ := h
      refine e_iast rfl o6 dX5_seatOneMore_37 ?_
      refine e_iinc (v := 1) (lv' := [(3, iV (v3 + 1)), (0, rV (some 29)), (2, iV v2), (4, iV v4)]) rfl (by decide) (by decide) rfl dX5_seatOneMore_38 ?_
      refine e_iinc (v := 1) (lv' := [(4, iV (v4 + 1)), (3, iV (v3 + 1)), (0, rV (some 29)), (2, iV v2)]) rfl (by decide) (by decide) rfl dX5_seatOneMore_41 ?_
      refine e_goto (tgt := 10) dX5_seatOneMore_44 (by decide) ?_
      exact e_lv (List.forall_mem_cons.mpr ⟨rfl, List.forall_mem_cons.mpr ⟨rfl, List.forall_mem_cons.mpr ⟨rfl, List.forall_mem_cons.mpr ⟨rfl, fun _ h => absurd h List.not_mem_nil⟩⟩⟩⟩) h
theorem w_X5_seatOneMore_50 (l : Launch) (q : Int32 → o_M → Prop) (v2 : Int32) (v3 : Int32) (v4 : Int32) (M : o_M) (h : ((v3 ≤ v4 → q 0 M) ∧ (¬ v3 ≤ v4 → (mR M 29 0 = some 30 ∧ (mR M 29 3 = some 33 ∧ (vp_in v4 (mN M 33) ∧ (vp_in (mI M 33 v4.toNatClampNeg) (mN M 30) ∧ H_X5_seatOneMore_82 l q (v2 ||| ((mI M 30 (mI M 33 v4.toNatClampNeg).toNatClampNeg) &&& (v2 ^^^ (-1)))) v3 v4 ((mI M 30 (mI M 33 v4.toNatClampNeg).toNatClampNeg) &&& (v2 ^^^ (-1))) 0 M))))))) : H_X5_seatOneMore_50 l q v2 v3 v4 M := by
  refine e_iload rfl dX5_seatOneMore_50 ?_
  refine e_iload_n dX5_seatOneMore_52 rfl rfl ?_
  refine e_ic_ge (tgt := 169) dX5_seatOneMore_53 (by decide) (fun c7 => ?_) (fun c7 => ?_)
  · replace h := h.1 c7
    refine e_iconst (v := 0) dX5_seatOneMore_169 (by decide) ?_
    exact e_iret rfl rb_0 dX5_seatOneMore_170 ⟨_, rfl, h⟩
  · replace h := h.2 c7
    refine e_aload_n dX5_seatOneMore_56 rfl rfl ?_
    obtain ⟨o8, h⟩ := h
    refine e_gA flX5_9 rfl rfl o8 dX5_seatOneMore_57 ?_
    refine e_aload_n dX5_seatOneMore_60 rfl rfl ?_
    obtain ⟨o9, h⟩ := h
    refine e_gA flX5_21 rfl rfl o9 dX5_seatOneMore_61 ?_
    refine e_iload rfl dX5_seatOneMore_64 ?_
    obtain ⟨o10, h⟩ := h
    refine e_iald rfl o10 dX5_seatOneMore_66 ?_
    obtain ⟨o11, h⟩ := h
    refine e_iald rfl o11 dX5_seatOneMore_67 ?_
    refine e_iload_n dX5_seatOneMore_68 rfl rfl ?_
    refine e_iconst (v := (-1)) dX5_seatOneMore_69 (by decide) ?_
    refine e_ixor dX5_seatOneMore_70 ?_
    refine e_iand dX5_seatOneMore_71 ?_
    refine e_istore (lv' := [(5, iV ((mI M 30 (mI M 33 v4.toNatClampNeg).toNatClampNeg) &&& (v2 ^^^ (-1)))), (0, rV (some 29)), (2, iV v2), (3, iV v3), (4, iV v4)]) (by decide) rfl dX5_seatOneMore_72 ?_
    refine e_iload_n dX5_seatOneMore_74 rfl rfl ?_
    refine e_iload rfl dX5_seatOneMore_75 ?_
    refine e_ior dX5_seatOneMore_77 ?_
    refine e_istore_n (lv' := [(2, iV (v2 ||| ((mI M 30 (mI M 33 v4.toNatClampNeg).toNatClampNeg) &&& (v2 ^^^ (-1))))), (5, iV ((mI M 30 (mI M 33 v4.toNatClampNeg).toNatClampNeg) &&& (v2 ^^^ (-1)))), (0, rV (some 29)), (3, iV v3), (4, iV v4)]) dX5_seatOneMore_78 rfl (by decide) rfl ?_
    refine e_iconst (v := 0) dX5_seatOneMore_79 (by decide) ?_
    refine e_istore (lv' := [(6, iV 0), (2, iV (v2 ||| ((mI M 30 (mI M 33 v4.toNatClampNeg).toNatClampNeg) &&& (v2 ^^^ (-1))))), (5, iV ((mI M 30 (mI M 33 v4.toNatClampNeg).toNatClampNeg) &&& (v2 ^^^ (-1)))), (0, rV (some 29)), (3, iV v3), (4, iV v4)]) (by decide) rfl dX5_seatOneMore_80 ?_
    exact e_lv (List.forall_mem_cons.mpr ⟨rfl, List.forall_mem_cons.mpr ⟨rfl, List.forall_mem_cons.mpr ⟨rfl, List.forall_mem_cons.mpr ⟨rfl, List.forall_mem_cons.mpr ⟨rfl, List.forall_mem_cons.mpr ⟨rfl, fun _ h => absurd h List.not_mem_nil⟩⟩⟩⟩⟩⟩) h
theorem w_X5_seatOneMore_82 (l : Launch) (q : Int32 → o_M → Prop) (v2 : Int32) (v3 : Int32) (v4 : Int32) (v5 : Int32) (v6 : Int32) (M : o_M) (h : ((10 ≤ v6 → H_X5_seatOneMore_50 l q v2 v3 (v4 + 1) M) ∧ (¬ 10 ≤ v6 → ((¬ ((v5 >>> (v6 &&& 31)) &&& 1) = 0 → (mR M 29 4 = some 34 ∧ (mR M 29 3 = some 33 ∧ (vp_in v4 (mN M 33) ∧ (vp_in v6 (mN M 34) ∧ (mR (sI M 34 v6.toNatClampNeg (mI M 33 v4.toNatClampNeg)) 29 2 = some 32 ∧ (vp_in v6 (mN (sI M 34 v6.toNatClampNeg (mI M 33 v4.toNatClampNeg)) 32) ∧ ((¬ (mI (sI M 34 v6.toNatClampNeg (mI M 33 v4.toNatClampNeg)) 32 v6.toNatClampNeg) = (-1) → ((12 ≤ v3 → H_X5_seatOneMore_82 l q v2 v3 v4 v5 (v6 + 1) (sI M 34 v6.toNatClampNeg (mI M 33 v4.toNatClampNeg))) ∧ (¬ 12 ≤ v3 → (mR (sI M 34 v6.toNatClampNeg (mI M 33 v4.toNatClampNeg)) 29 3 = some 33 ∧ (mR (sI M 34 v6.toNatClampNeg (mI M 33 v4.toNatClampNeg)) 29 2 = some 32 ∧ (vp_in v6 (mN (sI M 34 v6.toNatClampNeg (mI M 33 v4.toNatClampNeg)) 32) ∧ (vp_in v3 (mN (sI M 34 v6.toNatClampNeg (mI M 33 v4.toNatClampNeg)) 33) ∧ H_X5_seatOneMore_82 l q v2 (v3 + 1) v4 v5 (v6 + 1) (sI (sI M 34 v6.toNatClampNeg (mI M 33 v4.toNatClampNeg)) 33 v3.toNatClampNeg (mI (sI M 34 v6.toNatClampNeg (mI M 33 v4.toNatClampNeg)) 32 v6.toNatClampNeg))))))))) ∧ ((mI (sI M 34 v6.toNatClampNeg (mI M 33 v4.toNatClampNeg)) 32 v6.toNatClampNeg) = (-1) → K_X5_moveAlong l [rV (some 29), iV v6] (sI M 34 v6.toNatClampNeg (mI M 33 v4.toNatClampNeg)) (fun M26 => q 1 M26)))))))))) ∧ (((v5 >>> (v6 &&& 31)) &&& 1) = 0 → H_X5_seatOneMore_82 l q v2 v3 v4 v5 (v6 + 1) M))))) : H_X5_seatOneMore_82 l q v2 v3 v4 v5 v6 M := by
  refine e_iload rfl dX5_seatOneMore_82 ?_
  refine e_bipush (v := 10) dX5_seatOneMore_84 (by decide) ?_
  refine e_ic_ge (tgt := 163) dX5_seatOneMore_86 (by decide) (fun c12 => ?_) (fun c12 => ?_)
  · replace h := h.1 c12
    refine e_iinc (v := 1) (lv' := [(4, iV (v4 + 1)), (0, rV (some 29)), (2, iV v2), (3, iV v3), (5, iV v5), (6, iV v6)]) rfl (by decide) (by decide) rfl dX5_seatOneMore_163 ?_
    refine e_goto (tgt := 50) dX5_seatOneMore_166 (by decide) ?_
    exact e_lv (List.forall_mem_cons.mpr ⟨rfl, List.forall_mem_cons.mpr ⟨rfl, List.forall_mem_cons.mpr ⟨rfl, List.forall_mem_cons.mpr ⟨rfl, fun _ h => absurd h List.not_mem_nil⟩⟩⟩⟩) h
  · replace h := h.2 c12
    refine e_iload rfl dX5_seatOneMore_89 ?_
    refine e_iload rfl dX5_seatOneMore_91 ?_
    refine e_ishr dX5_seatOneMore_93 ?_
    refine e_iconst (v := 1) dX5_seatOneMore_94 (by decide) ?_
    refine e_iand dX5_seatOneMore_95 ?_
    refine e_if_ne (tgt := 102) dX5_seatOneMore_96 (by decide) (fun c13 => ?_) (fun c13 => ?_)
    · replace h := h.1 c13
      refine e_aload_n dX5_seatOneMore_102 rfl rfl ?_
      obtain ⟨o14, h⟩ := h
      refine e_gA flX5_24 rfl rfl o14 dX5_seatOneMore_103 ?_
      refine e_iload rfl dX5_seatOneMore_106 ?_
      refine e_aload_n dX5_seatOneMore_108 rfl rfl ?_
      obtain ⟨o15, h⟩ := h
      refine e_gA flX5_21 rfl rfl o15 dX5_seatOneMore_109 ?_
      refine e_iload rfl dX5_seatOneMore_112 ?_
      obtain ⟨o16, h⟩ := h
      refine e_iald rfl o16 dX5_seatOneMore_114 ?_
      obtain ⟨o17, h⟩ := h
      refine e_iast rfl o17 dX5_seatOneMore_115 ?_
      refine e_aload_n dX5_seatOneMore_116 rfl rfl ?_
      obtain ⟨o18, h⟩ := h
      refine e_gA flX5_18 rfl rfl o18 dX5_seatOneMore_117 ?_
      refine e_iload rfl dX5_seatOneMore_120 ?_
      obtain ⟨o19, h⟩ := h
      refine e_iald rfl o19 dX5_seatOneMore_122 ?_
      refine e_iconst (v := (-1)) dX5_seatOneMore_123 (by decide) ?_
      refine e_ic_ne (tgt := 135) dX5_seatOneMore_124 (by decide) (fun c20 => ?_) (fun c20 => ?_)
      · replace h := h.1 c20
        refine e_iload_n dX5_seatOneMore_135 rfl rfl ?_
        refine e_bipush (v := 12) dX5_seatOneMore_136 (by decide) ?_
        refine e_ic_ge (tgt := 157) dX5_seatOneMore_138 (by decide) (fun c21 => ?_) (fun c21 => ?_)
        · replace h := h.1 c21
          refine e_iinc (v := 1) (lv' := [(6, iV (v6 + 1)), (0, rV (some 29)), (2, iV v2), (3, iV v3), (4, iV v4), (5, iV v5)]) rfl (by decide) (by decide) rfl dX5_seatOneMore_157 ?_
          refine e_goto (tgt := 82) dX5_seatOneMore_160 (by decide) ?_
          exact e_lv (List.forall_mem_cons.mpr ⟨rfl, List.forall_mem_cons.mpr ⟨rfl, List.forall_mem_cons.mpr ⟨rfl, List.forall_mem_cons.mpr ⟨rfl, List.forall_mem_cons.mpr ⟨rfl, List.forall_mem_cons.mpr ⟨rfl, fun _ h => absurd h List.not_mem_nil⟩⟩⟩⟩⟩⟩) h
        · replace h := h.2 c21
          refine e_aload_n dX5_seatOneMore_141 rfl rfl ?_
          obtain ⟨o22, h⟩ := h
          refine e_gA flX5_21 rfl rfl o22 dX5_seatOneMore_142 ?_
          refine e_iload_n dX5_seatOneMore_145 rfl rfl ?_
          refine e_aload_n dX5_seatOneMore_146 rfl rfl ?_
          obtain ⟨o23, h⟩ := h
          refine e_gA flX5_18 rfl rfl o23 dX5_seatOneMore_147 ?_
          refine e_iload rfl dX5_seatOneMore_150 ?_
          obtain ⟨o24, h⟩ := h
          refine e_iald rfl o24 dX5_seatOneMore_152 ?_
          obtain ⟨o25, h⟩ := h
          refine e_iast rfl o25 dX5_seatOneMore_153 ?_
          refine e_iinc (v := 1) (lv' := [(3, iV (v3 + 1)), (0, rV (some 29)), (2, iV v2), (4, iV v4), (5, iV v5), (6, iV v6)]) rfl (by decide) (by decide) rfl dX5_seatOneMore_154 ?_
          refine e_iinc (v := 1) (lv' := [(6, iV (v6 + 1)), (3, iV (v3 + 1)), (0, rV (some 29)), (2, iV v2), (4, iV v4), (5, iV v5)]) rfl (by decide) (by decide) rfl dX5_seatOneMore_157 ?_
          refine e_goto (tgt := 82) dX5_seatOneMore_160 (by decide) ?_
          exact e_lv (List.forall_mem_cons.mpr ⟨rfl, List.forall_mem_cons.mpr ⟨rfl, List.forall_mem_cons.mpr ⟨rfl, List.forall_mem_cons.mpr ⟨rfl, List.forall_mem_cons.mpr ⟨rfl, List.forall_mem_cons.mpr ⟨rfl, fun _ h => absurd h List.not_mem_nil⟩⟩⟩⟩⟩⟩) h
      · replace h := h.2 c20
        refine e_aload_n dX5_seatOneMore_127 rfl rfl ?_
        refine e_iload rfl dX5_seatOneMore_128 ?_
        refine e_callV (As := [iV v6]) (st := []) mt_X5_moveAlong in_X5_moveAlong lkX5_58 rfl rfl ⟨by decide, by decide⟩ (Nat.le_of_ble_eq_true rfl) ⟨by decide, by decide⟩ rfl rfl dX5_seatOneMore_130 (Ctr.mono h (fun v M26 h => ?_))
        obtain ⟨rfl, h⟩ := h
        show E_X5_seatOneMore l q 133 [(0, rV (some 29)), (2, iV v2), (3, iV v3), (4, iV v4), (5, iV v5), (6, iV v6)] [] M26 0 0
        refine e_iconst (v := 1) dX5_seatOneMore_133 (by decide) ?_
        exact e_iret rfl rb_1 dX5_seatOneMore_134 ⟨_, rfl, h⟩
    · replace h := h.2 c13
      refine e_goto (tgt := 157) dX5_seatOneMore_99 (by decide) ?_
      refine e_iinc (v := 1) (lv' := [(6, iV (v6 + 1)), (0, rV (some 29)), (2, iV v2), (3, iV v3), (4, iV v4), (5, iV v5)]) rfl (by decide) (by decide) rfl dX5_seatOneMore_157 ?_
      refine e_goto (tgt := 82) dX5_seatOneMore_160 (by decide) ?_
      exact e_lv (List.forall_mem_cons.mpr ⟨rfl, List.forall_mem_cons.mpr ⟨rfl, List.forall_mem_cons.mpr ⟨rfl, List.forall_mem_cons.mpr ⟨rfl, List.forall_mem_cons.mpr ⟨rfl, List.forall_mem_cons.mpr ⟨rfl, fun _ h => absurd h List.not_mem_nil⟩⟩⟩⟩⟩⟩) h
theorem w_X6_ends (l : Launch) (a0 : Nat) (t0 : o_ty a0 = .inl 6) (M : o_M) (q : Int32 → o_M → Prop) (h : K_X6_begins l [rV (some a0)] M (fun r2 M1 => q (r2 + (mI M1 a0 3)) M1)) : K_X6_ends l [rV (some a0)] M q := by
  refine o_ctr (ini := false) (by decide +kernel) rfl (fun z => by cases z) (Nat.le_of_ble_eq_true rfl) ?_
  show E_X6_ends l q 0 [(0, rV (some a0))] [] M 0 0
  refine e_aload_n dX6_ends_0 rfl rfl ?_
  refine e_callV (As := []) (st := []) mt_X6_begins in_X6_begins lkX6_50 rfl t0 ⟨by decide, by decide⟩ (Nat.le_of_ble_eq_true rfl) ⟨by decide, by decide⟩ rfl rfl dX6_ends_1 (Ctr.mono h (fun v M1 h => ?_))
  obtain ⟨r2, rfl, h⟩ := h
  show E_X6_ends l q 4 [(0, rV (some a0))] [iV r2] M1 0 0
  refine e_aload_n dX6_ends_4 rfl rfl ?_
  refine e_gI flX6_47 t0 rfl dX6_ends_5 ?_
  refine e_iadd dX6_ends_8 ?_
  exact e_iret rfl trivial dX6_ends_9 ⟨_, rfl, h⟩
theorem w_X6_init (l : Launch) (a0 : Nat) (p1 : Int32) (p2 : Int32) (p3 : Int32) (p4 : Int32) (t0 : o_ty a0 = .inl 6) (M : o_M) (q : o_M → Prop) (h : ((a0 + 1) ∉ mL M ∧ ((a0 + 2) ∉ mL (sR (nW M (a0 + 1) 5) a0 4 (some (a0 + 1))) ∧ ((a0 + 3) ∉ mL (sR (nW (sR (nW M (a0 + 1) 5) a0 4 (some (a0 + 1))) (a0 + 2) 6) a0 5 (some (a0 + 2))) ∧ q (sI (sI (sI (sI (sI (sI (sI (sI (sI (sR (nW (sR (nW (sR (nW M (a0 + 1) 5) a0 4 (some (a0 + 1))) (a0 + 2) 6) a0 5 (some (a0 + 2))) (a0 + 3) 12) a0 6 (some (a0 + 3))) a0 7 0) a0 8 0) a0 9 0) a0 10 0) a0 11 0) a0 0 p1) a0 1 p2) a0 2 p3) a0 3 p4))))) : K_X6_init l [rV (some a0), iV p1, iV p2, iV p3, iV p4] M q := by
  refine o_ctr (ini := true) (by decide +kernel) rfl (fun z => rfl) (Nat.le_of_ble_eq_true rfl) ?_
  show E_X6_init l q 0 [(0, rV (some a0)), (1, iV p1), (2, iV p2), (3, iV p3), (4, iV p4)] [] M 0 0
  refine e_aload_n dX6_init_0 rfl rfl ?_
  refine e_objI loX6_3 oi_1 oi_2 (by decide) (Nat.le_of_ble_eq_true rfl) (by decide) dX6_init_1 ?_
  refine e_aload_n dX6_init_4 rfl rfl ?_
  refine e_iconst (v := 5) dX6_init_5 (by decide) ?_
  obtain ⟨o1, h⟩ := h
  refine e_newa (N := 5) o1 ((o_sub6 t0).2.1) rfl rfl (by decide) ac_int (by decide) (by decide) (by decide) (by decide) (by decide) dX6_init_6 ?_
  refine e_pR flX6_9 t0 (Or.inr ⟨rfl, rfl, rfl, fnX6_9⟩) rfl dX6_init_8 ?_
  refine e_aload_n dX6_init_11 rfl rfl ?_
  refine e_bipush (v := 6) dX6_init_12 (by decide) ?_
  obtain ⟨o2, h⟩ := h
  refine e_newa (N := 6) o2 ((o_sub6 t0).2.2.1) rfl rfl (by decide) ac_int (by decide) (by decide) (by decide) (by decide) (by decide) dX6_init_14 ?_
  refine e_pR flX6_15 t0 (Or.inr ⟨rfl, rfl, rfl, fnX6_15⟩) rfl dX6_init_16 ?_
  refine e_aload_n dX6_init_19 rfl rfl ?_
  refine e_bipush (v := 12) dX6_init_20 (by decide) ?_
  obtain ⟨o3, h⟩ := h
  refine e_newa (N := 12) o3 ((o_sub6 t0).2.2.2) rfl rfl (by decide) ac_int (by decide) (by decide) (by decide) (by decide) (by decide) dX6_init_22 ?_
  refine e_pR flX6_18 t0 (Or.inr ⟨rfl, rfl, rfl, fnX6_18⟩) rfl dX6_init_24 ?_
  refine e_aload_n dX6_init_27 rfl rfl ?_
  refine e_iconst (v := 0) dX6_init_28 (by decide) ?_
  refine e_pI flX6_21 t0 (Or.inl rfl) rfl rfl rfl dX6_init_29 ?_
  refine e_aload_n dX6_init_32 rfl rfl ?_
  refine e_iconst (v := 0) dX6_init_33 (by decide) ?_
  refine e_pI flX6_25 t0 (Or.inl rfl) rfl rfl rfl dX6_init_34 ?_
  refine e_aload_n dX6_init_37 rfl rfl ?_
  refine e_iconst (v := 0) dX6_init_38 (by decide) ?_
  refine e_pI flX6_28 t0 (Or.inl rfl) rfl rfl rfl dX6_init_39 ?_
  refine e_aload_n dX6_init_42 rfl rfl ?_
  refine e_iconst (v := 0) dX6_init_43 (by decide) ?_
  refine e_pI flX6_31 t0 (Or.inl rfl) rfl rfl rfl dX6_init_44 ?_
  refine e_aload_n dX6_init_47 rfl rfl ?_
  refine e_iconst (v := 0) dX6_init_48 (by decide) ?_
  refine e_pI flX6_34 t0 (Or.inl rfl) rfl (by decide) (by decide) dX6_init_49 ?_
  refine e_aload_n dX6_init_52 rfl rfl ?_
  refine e_iload_n dX6_init_53 rfl rfl ?_
  refine e_pI flX6_38 t0 (Or.inr ⟨rfl, rfl, rfl, fnX6_38⟩) rfl rfl rfl dX6_init_54 ?_
  refine e_aload_n dX6_init_57 rfl rfl ?_
  refine e_iload_n dX6_init_58 rfl rfl ?_
  refine e_pI flX6_41 t0 (Or.inr ⟨rfl, rfl, rfl, fnX6_41⟩) rfl rfl rfl dX6_init_59 ?_
  refine e_aload_n dX6_init_62 rfl rfl ?_
  refine e_iload_n dX6_init_63 rfl rfl ?_
  refine e_pI flX6_44 t0 (Or.inr ⟨rfl, rfl, rfl, fnX6_44⟩) rfl rfl rfl dX6_init_64 ?_
  refine e_aload_n dX6_init_67 rfl rfl ?_
  refine e_iload rfl dX6_init_68 ?_
  refine e_pI flX6_47 t0 (Or.inr ⟨rfl, rfl, rfl, fnX6_47⟩) rfl rfl rfl dX6_init_70 ?_
  exact e_ret rfl dX6_init_73 ⟨rfl, h⟩
theorem w_X6_needWith (l : Launch) (a0 : Nat) (a1 : Nat) (p2 : Int32) (t0 : o_ty a0 = .inl 6) (t1 : o_ty a1 = .inl 10) (M : o_M) (q : Int32 → o_M → Prop) (h : ((¬ (mI M a0 0) = 4 → (mR M a0 5 = some (a0 + 2) ∧ (vp_in p2 (mN M (a0 + 2)) ∧ K_X10_needOf l [rV (some a1), iV p2] M (fun r5 M4 => K_J9_min_7cf53 l [iV 3, iV r5] M4 (fun r7 M6 => K_J9_max_7cf53 l [iV (mI M (a0 + 2) p2.toNatClampNeg), iV r7] M6 (fun r9 M8 => q r9 M8)))))) ∧ ((mI M a0 0) = 4 → (mR M a0 5 = some (a0 + 2) ∧ (vp_in p2 (mN M (a0 + 2)) ∧ K_X10_needOf l [rV (some a1), iV p2] M (fun r13 M12 => K_J9_min_7cf53 l [iV 1, iV r13] M12 (fun r15 M14 => K_J9_max_7cf53 l [iV (mI M (a0 + 2) p2.toNatClampNeg), iV r15] M14 (fun r17 M16 => q r17 M16)))))))) : K_X6_needWith l [rV (some a0), rV (some a1), iV p2] M q := by
  refine o_ctr (ini := false) (by decide +kernel) rfl (fun z => by cases z) (Nat.le_of_ble_eq_true rfl) ?_
  show E_X6_needWith l q 0 [(0, rV (some a0)), (1, rV (some a1)), (2, iV p2)] [] M 0 0
  refine e_aload_n dX6_needWith_0 rfl rfl ?_
  refine e_gI flX6_38 t0 rfl dX6_needWith_1 ?_
  refine e_iconst (v := 4) dX6_needWith_4 (by decide) ?_
  refine e_ic_ne (tgt := 12) dX6_needWith_5 (by decide) (fun c1 => ?_) (fun c1 => ?_)
  · replace h := h.1 c1
    refine e_iconst (v := 3) dX6_needWith_12 (by decide) ?_
    refine e_istore_n (lv' := [(3, iV 3), (0, rV (some a0)), (1, rV (some a1)), (2, iV p2)]) dX6_needWith_13 rfl (by decide) rfl ?_
    refine e_aload_n dX6_needWith_14 rfl rfl ?_
    obtain ⟨o2, h⟩ := h
    refine e_gA flX6_15 t0 rfl o2 dX6_needWith_15 ?_
    refine e_iload_n dX6_needWith_18 rfl rfl ?_
    obtain ⟨o3, h⟩ := h
    refine e_iald ((o_sub6 t0).2.2.1) o3 dX6_needWith_19 ?_
    refine e_iload_n dX6_needWith_20 rfl rfl ?_
    refine e_aload_n dX6_needWith_21 rfl rfl ?_
    refine e_iload_n dX6_needWith_22 rfl rfl ?_
    refine e_callV (As := [iV p2]) (st := [iV 3, iV (mI M (a0 + 2) p2.toNatClampNeg)]) mt_X10_needOf in_X10_needOf lkX6_64 rfl t1 ⟨by decide, by decide⟩ (Nat.le_of_ble_eq_true rfl) ⟨by decide, by decide⟩ rfl rfl dX6_needWith_23 (Ctr.mono h (fun v M4 h => ?_))
    obtain ⟨r5, rfl, h⟩ := h
    show E_X6_needWith l q 26 [(3, iV 3), (0, rV (some a0)), (1, rV (some a1)), (2, iV p2)] [iV r5, iV 3, iV (mI M (a0 + 2) p2.toNatClampNeg)] M4 0 0
    refine e_callS (As := [iV 3, iV r5]) (st := [iV (mI M (a0 + 2) p2.toNatClampNeg)]) mt_J9_min_7cf53 is_J9_min_7cf53 lkX6_70 ⟨by decide, by decide⟩ (Nat.le_of_ble_eq_true rfl) ⟨by decide, by decide⟩ rfl rfl dX6_needWith_26 (Ctr.mono h (fun v M6 h => ?_))
    obtain ⟨r7, rfl, h⟩ := h
    show E_X6_needWith l q 29 [(3, iV 3), (0, rV (some a0)), (1, rV (some a1)), (2, iV p2)] [iV r7, iV (mI M (a0 + 2) p2.toNatClampNeg)] M6 0 0
    refine e_callS (As := [iV (mI M (a0 + 2) p2.toNatClampNeg), iV r7]) (st := []) mt_J9_max_7cf53 is_J9_max_7cf53 lkX6_76 ⟨by decide, by decide⟩ (Nat.le_of_ble_eq_true rfl) ⟨by decide, by decide⟩ rfl rfl dX6_needWith_29 (Ctr.mono h (fun v M8 h => ?_))
    obtain ⟨r9, rfl, h⟩ := h
    show E_X6_needWith l q 32 [(3, iV 3), (0, rV (some a0)), (1, rV (some a1)), (2, iV p2)] [iV r9] M8 0 0
    exact e_iret rfl trivial dX6_needWith_32 ⟨_, rfl, h⟩
  · replace h := h.2 c1
    refine e_iconst (v := 1) dX6_needWith_8 (by decide) ?_
    refine e_goto (tgt := 13) dX6_needWith_9 (by decide) ?_
    refine e_istore_n (lv' := [(3, iV 1), (0, rV (some a0)), (1, rV (some a1)), (2, iV p2)]) dX6_needWith_13 rfl (by decide) rfl ?_
    refine e_aload_n dX6_needWith_14 rfl rfl ?_
    obtain ⟨o10, h⟩ := h
    refine e_gA flX6_15 t0 rfl o10 dX6_needWith_15 ?_
    refine e_iload_n dX6_needWith_18 rfl rfl ?_
    obtain ⟨o11, h⟩ := h
    refine e_iald ((o_sub6 t0).2.2.1) o11 dX6_needWith_19 ?_
    refine e_iload_n dX6_needWith_20 rfl rfl ?_
    refine e_aload_n dX6_needWith_21 rfl rfl ?_
    refine e_iload_n dX6_needWith_22 rfl rfl ?_
    refine e_callV (As := [iV p2]) (st := [iV 1, iV (mI M (a0 + 2) p2.toNatClampNeg)]) mt_X10_needOf in_X10_needOf lkX6_64 rfl t1 ⟨by decide, by decide⟩ (Nat.le_of_ble_eq_true rfl) ⟨by decide, by decide⟩ rfl rfl dX6_needWith_23 (Ctr.mono h (fun v M12 h => ?_))
    obtain ⟨r13, rfl, h⟩ := h
    show E_X6_needWith l q 26 [(3, iV 1), (0, rV (some a0)), (1, rV (some a1)), (2, iV p2)] [iV r13, iV 1, iV (mI M (a0 + 2) p2.toNatClampNeg)] M12 0 0
    refine e_callS (As := [iV 1, iV r13]) (st := [iV (mI M (a0 + 2) p2.toNatClampNeg)]) mt_J9_min_7cf53 is_J9_min_7cf53 lkX6_70 ⟨by decide, by decide⟩ (Nat.le_of_ble_eq_true rfl) ⟨by decide, by decide⟩ rfl rfl dX6_needWith_26 (Ctr.mono h (fun v M14 h => ?_))
    obtain ⟨r15, rfl, h⟩ := h
    show E_X6_needWith l q 29 [(3, iV 1), (0, rV (some a0)), (1, rV (some a1)), (2, iV p2)] [iV r15, iV (mI M (a0 + 2) p2.toNatClampNeg)] M14 0 0
    refine e_callS (As := [iV (mI M (a0 + 2) p2.toNatClampNeg), iV r15]) (st := []) mt_J9_max_7cf53 is_J9_max_7cf53 lkX6_76 ⟨by decide, by decide⟩ (Nat.le_of_ble_eq_true rfl) ⟨by decide, by decide⟩ rfl rfl dX6_needWith_29 (Ctr.mono h (fun v M16 h => ?_))
    obtain ⟨r17, rfl, h⟩ := h
    show E_X6_needWith l q 32 [(3, iV 1), (0, rV (some a0)), (1, rV (some a1)), (2, iV p2)] [iV r17] M16 0 0
    exact e_iret rfl trivial dX6_needWith_32 ⟨_, rfl, h⟩
theorem w_X6_workAt (l : Launch) (a0 : Nat) (p1 : Int32) (t0 : o_ty a0 = .inl 6) (M : o_M) (q : Int32 → o_M → Prop) (h : K_X11_isWithin l [iV p1, iV 0, iV ((mI M a0 7) - 1)] M (fun r2 M1 => ((r2 = 0 → q (-1) M1) ∧ (¬ r2 = 0 → (mR M1 a0 4 = some (a0 + 1) ∧ (vp_in p1 (mN M1 (a0 + 1)) ∧ q (mI M1 (a0 + 1) p1.toNatClampNeg) M1)))))) : K_X6_workAt l [rV (some a0), iV p1] M q := by
  refine o_ctr (ini := false) (by decide +kernel) rfl (fun z => by cases z) (Nat.le_of_ble_eq_true rfl) ?_
  show E_X6_workAt l q 0 [(0, rV (some a0)), (1, iV p1)] [] M 0 0
  refine e_iload_n dX6_workAt_0 rfl rfl ?_
  refine e_iconst (v := 0) dX6_workAt_1 (by decide) ?_
  refine e_aload_n dX6_workAt_2 rfl rfl ?_
  refine e_gI flX6_21 t0 rfl dX6_workAt_3 ?_
  refine e_iconst (v := 1) dX6_workAt_6 (by decide) ?_
  refine e_isub dX6_workAt_7 ?_
  refine e_callS (As := [iV p1, iV 0, iV ((mI M a0 7) - 1)]) (st := []) mt_X11_isWithin is_X11_isWithin lkX6_60 ⟨by decide, by decide⟩ (Nat.le_of_ble_eq_true rfl) ⟨by decide, by decide⟩ rfl rfl dX6_workAt_8 (Ctr.mono h (fun v M1 h => ?_))
  obtain ⟨r2, rfl, h⟩ := h
  show E_X6_workAt l q 11 [(0, rV (some a0)), (1, iV p1)] [iV r2] M1 0 0
  refine e_if_eq (tgt := 23) dX6_workAt_11 (by decide) (fun c3 => ?_) (fun c3 => ?_)
  · replace h := h.1 c3
    refine e_iconst (v := (-1)) dX6_workAt_23 (by decide) ?_
    exact e_iret rfl trivial dX6_workAt_24 ⟨_, rfl, h⟩
  · replace h := h.2 c3
    refine e_aload_n dX6_workAt_14 rfl rfl ?_
    obtain ⟨o4, h⟩ := h
    refine e_gA flX6_9 t0 rfl o4 dX6_workAt_15 ?_
    refine e_iload_n dX6_workAt_18 rfl rfl ?_
    obtain ⟨o5, h⟩ := h
    refine e_iald ((o_sub6 t0).2.1) o5 dX6_workAt_19 ?_
    refine e_goto (tgt := 24) dX6_workAt_20 (by decide) ?_
    exact e_iret rfl trivial dX6_workAt_24 ⟨_, rfl, h⟩
theorem w_X7_endOf (l : Launch) (a0 : Nat) (p1 : Int32) (t0 : o_ty a0 = .inl 7) (M : o_M) (q : Int32 → o_M → Prop) (h : (mR M a0 2 = some (a0 + 3) ∧ K_X11_isWithin l [iV p1, iV 0, iV ((Int32.ofNat (mN M (a0 + 3))) - 1)] M (fun r3 M2 => ((r3 = 0 → q 0 M2) ∧ (¬ r3 = 0 → (mR M2 a0 2 = some (a0 + 3) ∧ (vp_in p1 (mN M2 (a0 + 3)) ∧ (mR M2 a0 1 = some (a0 + 2) ∧ K_J9_min_7cf53 l [iV (mI M2 (a0 + 3) p1.toNatClampNeg), iV (Int32.ofNat (mN M2 (a0 + 2)))] M2 (fun r9 M8 => q r9 M8))))))))) : K_X7_endOf l [rV (some a0), iV p1] M q := by
  refine o_ctr (ini := false) (by decide +kernel) rfl (fun z => by cases z) (Nat.le_of_ble_eq_true rfl) ?_
  show E_X7_endOf l q 0 [(0, rV (some a0)), (1, iV p1)] [] M 0 0
  refine e_iload_n dX7_endOf_0 rfl rfl ?_
  refine e_iconst (v := 0) dX7_endOf_1 (by decide) ?_
  refine e_aload_n dX7_endOf_2 rfl rfl ?_
  obtain ⟨o1, h⟩ := h
  refine e_gA flX7_24 t0 rfl o1 dX7_endOf_3 ?_
  refine e_alen ((o_sub7 t0).2.2.2) (by decide) rfl dX7_endOf_6 ?_
  refine e_iconst (v := 1) dX7_endOf_7 (by decide) ?_
  refine e_isub dX7_endOf_8 ?_
  refine e_callS (As := [iV p1, iV 0, iV ((Int32.ofNat (mN M (a0 + 3))) - 1)]) (st := []) mt_X11_isWithin is_X11_isWithin lkX7_30 ⟨by decide, by decide⟩ (Nat.le_of_ble_eq_true rfl) ⟨by decide, by decide⟩ rfl rfl dX7_endOf_9 (Ctr.mono h (fun v M2 h => ?_))
  obtain ⟨r3, rfl, h⟩ := h
  show E_X7_endOf l q 12 [(0, rV (some a0)), (1, iV p1)] [iV r3] M2 0 0
  refine e_if_eq (tgt := 32) dX7_endOf_12 (by decide) (fun c4 => ?_) (fun c4 => ?_)
  · replace h := h.1 c4
    refine e_iconst (v := 0) dX7_endOf_32 (by decide) ?_
    exact e_iret rfl trivial dX7_endOf_33 ⟨_, rfl, h⟩
  · replace h := h.2 c4
    refine e_aload_n dX7_endOf_15 rfl rfl ?_
    obtain ⟨o5, h⟩ := h
    refine e_gA flX7_24 t0 rfl o5 dX7_endOf_16 ?_
    refine e_iload_n dX7_endOf_19 rfl rfl ?_
    obtain ⟨o6, h⟩ := h
    refine e_iald ((o_sub7 t0).2.2.2) o6 dX7_endOf_20 ?_
    refine e_aload_n dX7_endOf_21 rfl rfl ?_
    obtain ⟨o7, h⟩ := h
    refine e_gA flX7_20 t0 rfl o7 dX7_endOf_22 ?_
    refine e_alen ((o_sub7 t0).2.2.1) (by decide) rfl dX7_endOf_25 ?_
    refine e_callS (As := [iV (mI M2 (a0 + 3) p1.toNatClampNeg), iV (Int32.ofNat (mN M2 (a0 + 2)))]) (st := []) mt_J9_min_7cf53 is_J9_min_7cf53 lkX7_36 ⟨by decide, by decide⟩ (Nat.le_of_ble_eq_true rfl) ⟨by decide, by decide⟩ rfl rfl dX7_endOf_26 (Ctr.mono h (fun v M8 h => ?_))
    obtain ⟨r9, rfl, h⟩ := h
    show E_X7_endOf l q 29 [(0, rV (some a0)), (1, iV p1)] [iV r9] M8 0 0
    refine e_goto (tgt := 33) dX7_endOf_29 (by decide) ?_
    exact e_iret rfl trivial dX7_endOf_33 ⟨_, rfl, h⟩
theorem w_X7_init (l : Launch) (a0 : Nat) (a1 : Nat) (a2 : Nat) (a3 : Nat) (t0 : o_ty a0 = .inl 7) (t1 : o_ty a1 = .inr .byte) (t2 : o_ty a2 = .inr .int) (t3 : o_ty a3 = .inr .int) (M : o_M) (q : o_M → Prop) (h : q (sI (sR (sR (sR (sI (sI M a0 4 0) a0 5 0) a0 0 (some a1)) a0 1 (some a2)) a0 2 (some a3)) a0 3 ((Int32.ofNat (mN (sR (sR (sR (sI (sI M a0 4 0) a0 5 0) a0 0 (some a1)) a0 1 (some a2)) a0 2 (some a3)) a3)) - 2))) : K_X7_init l [rV (some a0), rV (some a1), rV (some a2), rV (some a3)] M q := by
  refine o_ctr (ini := true) (by decide +kernel) rfl (fun z => rfl) (Nat.le_of_ble_eq_true rfl) ?_
  show E_X7_init l q 0 [(0, rV (some a0)), (1, rV (some a1)), (2, rV (some a2)), (3, rV (some a3))] [] M 0 0
  refine e_aload_n dX7_init_0 rfl rfl ?_
  refine e_objI loX7_1 oi_1 oi_2 (by decide) (Nat.le_of_ble_eq_true rfl) (by decide) dX7_init_1 ?_
  refine e_aload_n dX7_init_4 rfl rfl ?_
  refine e_iconst (v := 0) dX7_init_5 (by decide) ?_
  refine e_pI flX7_7 t0 (Or.inl rfl) rfl rfl rfl dX7_init_6 ?_
  refine e_aload_n dX7_init_9 rfl rfl ?_
  refine e_iconst (v := 0) dX7_init_10 (by decide) ?_
  refine e_pI flX7_13 t0 (Or.inl rfl) rfl rfl rfl dX7_init_11 ?_
  refine e_aload_n dX7_init_14 rfl rfl ?_
  refine e_aload_n dX7_init_15 rfl rfl ?_
  refine e_pR flX7_16 t0 (Or.inr ⟨rfl, rfl, rfl, fnX7_16⟩) rfl dX7_init_16 ?_
  refine e_aload_n dX7_init_19 rfl rfl ?_
  refine e_aload_n dX7_init_20 rfl rfl ?_
  refine e_pR flX7_20 t0 (Or.inr ⟨rfl, rfl, rfl, fnX7_20⟩) rfl dX7_init_21 ?_
  refine e_aload_n dX7_init_24 rfl rfl ?_
  refine e_aload_n dX7_init_25 rfl rfl ?_
  refine e_pR flX7_24 t0 (Or.inr ⟨rfl, rfl, rfl, fnX7_24⟩) rfl dX7_init_26 ?_
  refine e_aload_n dX7_init_29 rfl rfl ?_
  refine e_aload_n dX7_init_30 rfl rfl ?_
  refine e_alen t3 (by decide) rfl dX7_init_31 ?_
  refine e_iconst (v := 2) dX7_init_32 (by decide) ?_
  refine e_isub dX7_init_33 ?_
  refine e_pI flX7_27 t0 (Or.inr ⟨rfl, rfl, rfl, fnX7_27⟩) rfl rfl rfl dX7_init_34 ?_
  exact e_ret rfl dX7_init_37 ⟨rfl, h⟩
theorem w_X7_startOf (l : Launch) (a0 : Nat) (p1 : Int32) (t0 : o_ty a0 = .inl 7) (M : o_M) (q : Int32 → o_M → Prop) (h : (mR M a0 2 = some (a0 + 3) ∧ K_X11_isWithin l [iV p1, iV 1, iV (Int32.ofNat (mN M (a0 + 3)))] M (fun r3 M2 => ((r3 = 0 → q 0 M2) ∧ (¬ r3 = 0 → (mR M2 a0 2 = some (a0 + 3) ∧ (vp_in (p1 - 1) (mN M2 (a0 + 3)) ∧ q (mI M2 (a0 + 3) (p1 - 1).toNatClampNeg) M2))))))) : K_X7_startOf l [rV (some a0), iV p1] M q := by
  refine o_ctr (ini := false) (by decide +kernel) rfl (fun z => by cases z) (Nat.le_of_ble_eq_true rfl) ?_
  show E_X7_startOf l q 0 [(0, rV (some a0)), (1, iV p1)] [] M 0 0
  refine e_iload_n dX7_startOf_0 rfl rfl ?_
  refine e_iconst (v := 1) dX7_startOf_1 (by decide) ?_
  refine e_aload_n dX7_startOf_2 rfl rfl ?_
  obtain ⟨o1, h⟩ := h
  refine e_gA flX7_24 t0 rfl o1 dX7_startOf_3 ?_
  refine e_alen ((o_sub7 t0).2.2.2) (by decide) rfl dX7_startOf_6 ?_
  refine e_callS (As := [iV p1, iV 1, iV (Int32.ofNat (mN M (a0 + 3)))]) (st := []) mt_X11_isWithin is_X11_isWithin lkX7_30 ⟨by decide, by decide⟩ (Nat.le_of_ble_eq_true rfl) ⟨by decide, by decide⟩ rfl rfl dX7_startOf_7 (Ctr.mono h (fun v M2 h => ?_))
  obtain ⟨r3, rfl, h⟩ := h
  show E_X7_startOf l q 10 [(0, rV (some a0)), (1, iV p1)] [iV r3] M2 0 0
  refine e_if_eq (tgt := 24) dX7_startOf_10 (by decide) (fun c4 => ?_) (fun c4 => ?_)
  · replace h := h.1 c4
    refine e_iconst (v := 0) dX7_startOf_24 (by decide) ?_
    exact e_iret rfl trivial dX7_startOf_25 ⟨_, rfl, h⟩
  · replace h := h.2 c4
    refine e_aload_n dX7_startOf_13 rfl rfl ?_
    obtain ⟨o5, h⟩ := h
    refine e_gA flX7_24 t0 rfl o5 dX7_startOf_14 ?_
    refine e_iload_n dX7_startOf_17 rfl rfl ?_
    refine e_iconst (v := 1) dX7_startOf_18 (by decide) ?_
    refine e_isub dX7_startOf_19 ?_
    obtain ⟨o6, h⟩ := h
    refine e_iald ((o_sub7 t0).2.2.2) o6 dX7_startOf_20 ?_
    refine e_goto (tgt := 25) dX7_startOf_21 (by decide) ?_
    exact e_iret rfl trivial dX7_startOf_25 ⟨_, rfl, h⟩
theorem w_X9_elementAt (l : Launch) (a0 : Nat) (p1 : Int32) (t0 : o_ty a0 = .inl 9) (M : o_M) (q : Int32 → o_M → Prop) (h : ((¬ (mI M a0 5) = 2 → ((¬ (mI M a0 5) = 3 → q (((mI M a0 3) >>> (p1 &&& 31)) &&& 1) M) ∧ ((mI M a0 5) = 3 → (mR M a0 0 = some (a0 + 1) ∧ K_X11_isWithin l [iV p1, iV 0, iV ((Int32.ofNat (mN M (a0 + 1))) - 1)] M (fun r5 M4 => ((r5 = 0 → q 0 M4) ∧ (¬ r5 = 0 → (mR M4 a0 0 = some (a0 + 1) ∧ (vp_in p1 (mN M4 (a0 + 1)) ∧ q ((mJ M4 (a0 + 1) p1.toNatClampNeg).toInt32) M4))))))))) ∧ ((mI M a0 5) = 2 → ((mR M a0 2 = none → q 0 M) ∧ (∀ b9, mR M a0 2 = some b9 → o_ty b9 = .inr .byte ∧ K_X11_isWithin l [iV p1, iV 0, iV ((Int32.ofNat (mN M b9)) - 1)] M (fun r13 M12 => ((r13 = 0 → q 0 M12) ∧ (¬ r13 = 0 → (∃ b15, mR M12 a0 2 = some b15 ∧ o_ty b15 = .inr .byte ∧ (vp_in p1 (mN M12 b15) ∧ q (mI M12 b15 p1.toNatClampNeg) M12)))))))))) : K_X9_elementAt l [rV (some a0), iV p1] M q := by
  refine o_ctr (ini := false) (by decide +kernel) rfl (fun z => by cases z) (Nat.le_of_ble_eq_true rfl) ?_
  show E_X9_elementAt l q 0 [(0, rV (some a0)), (1, iV p1)] [] M 0 0
  refine e_aload_n dX9_elementAt_0 rfl rfl ?_
  refine e_gI flX9_30 t0 rfl dX9_elementAt_1 ?_
  refine e_iconst (v := 2) dX9_elementAt_4 (by decide) ?_
  refine e_ic_ne (tgt := 41) dX9_elementAt_5 (by decide) (fun c1 => ?_) (fun c1 => ?_)
  · replace h := h.1 c1
    refine e_aload_n dX9_elementAt_41 rfl rfl ?_
    refine e_gI flX9_30 t0 rfl dX9_elementAt_42 ?_
    refine e_iconst (v := 3) dX9_elementAt_45 (by decide) ?_
    refine e_ic_ne (tgt := 76) dX9_elementAt_46 (by decide) (fun c2 => ?_) (fun c2 => ?_)
    · replace h := h.1 c2
      refine e_aload_n dX9_elementAt_76 rfl rfl ?_
      refine e_gI flX9_23 t0 rfl dX9_elementAt_77 ?_
      refine e_iload_n dX9_elementAt_80 rfl rfl ?_
      refine e_ishr dX9_elementAt_81 ?_
      refine e_iconst (v := 1) dX9_elementAt_82 (by decide) ?_
      refine e_iand dX9_elementAt_83 ?_
      exact e_iret rfl trivial dX9_elementAt_84 ⟨_, rfl, h⟩
    · replace h := h.2 c2
      refine e_iload_n dX9_elementAt_49 rfl rfl ?_
      refine e_iconst (v := 0) dX9_elementAt_50 (by decide) ?_
      refine e_aload_n dX9_elementAt_51 rfl rfl ?_
      obtain ⟨o3, h⟩ := h
      refine e_gA flX9_9 t0 rfl o3 dX9_elementAt_52 ?_
      refine e_alen ((o_sub9 t0).2) (by decide) rfl dX9_elementAt_55 ?_
      refine e_iconst (v := 1) dX9_elementAt_56 (by decide) ?_
      refine e_isub dX9_elementAt_57 ?_
      refine e_callS (As := [iV p1, iV 0, iV ((Int32.ofNat (mN M (a0 + 1))) - 1)]) (st := []) mt_X11_isWithin is_X11_isWithin lkX9_33 ⟨by decide, by decide⟩ (Nat.le_of_ble_eq_true rfl) ⟨by decide, by decide⟩ rfl rfl dX9_elementAt_58 (Ctr.mono h (fun v M4 h => ?_))
      obtain ⟨r5, rfl, h⟩ := h
      show E_X9_elementAt l q 61 [(0, rV (some a0)), (1, iV p1)] [iV r5] M4 0 0
      refine e_if_eq (tgt := 74) dX9_elementAt_61 (by decide) (fun c6 => ?_) (fun c6 => ?_)
      · replace h := h.1 c6
        refine e_iconst (v := 0) dX9_elementAt_74 (by decide) ?_
        exact e_iret rfl trivial dX9_elementAt_75 ⟨_, rfl, h⟩
      · replace h := h.2 c6
        refine e_aload_n dX9_elementAt_64 rfl rfl ?_
        obtain ⟨o7, h⟩ := h
        refine e_gA flX9_9 t0 rfl o7 dX9_elementAt_65 ?_
        refine e_iload_n dX9_elementAt_68 rfl rfl ?_
        obtain ⟨o8, h⟩ := h
        refine e_lald ((o_sub9 t0).2) o8 dX9_elementAt_69 ?_
        refine e_l2i dX9_elementAt_70 ?_
        refine e_goto (tgt := 75) dX9_elementAt_71 (by decide) ?_
        exact e_iret rfl trivial dX9_elementAt_75 ⟨_, rfl, h⟩
  · replace h := h.2 c1
    refine e_aload_n dX9_elementAt_8 rfl rfl ?_
    refine e_gR flX9_19 t0 rfl dX9_elementAt_9 ?_
    refine e_ifnull (tgt := 39) dX9_elementAt_12 (by decide) (fun c10 => ?_) (fun b9 c10 => ?_)
    · replace h := h.1 c10
      refine e_eq (lv' := [(0, rV (some a0)), (1, iV p1)]) (st' := []) rfl (by first | rfl | rw [c10]) rfl ?_
      refine e_iconst (v := 0) dX9_elementAt_39 (by decide) ?_
      exact e_iret rfl trivial dX9_elementAt_40 ⟨_, rfl, h⟩
    · obtain ⟨t11, h⟩ := h.2 b9 c10
      refine e_eq (lv' := [(0, rV (some a0)), (1, iV p1)]) (st' := []) rfl (by first | rfl | rw [c10]) rfl ?_
      refine e_iload_n dX9_elementAt_15 rfl rfl ?_
      refine e_iconst (v := 0) dX9_elementAt_16 (by decide) ?_
      refine e_aload_n dX9_elementAt_17 rfl rfl ?_
      refine e_gA flX9_19 t0 rfl c10 dX9_elementAt_18 ?_
      refine e_alen t11 (by decide) rfl dX9_elementAt_21 ?_
      refine e_iconst (v := 1) dX9_elementAt_22 (by decide) ?_
      refine e_isub dX9_elementAt_23 ?_
      refine e_callS (As := [iV p1, iV 0, iV ((Int32.ofNat (mN M b9)) - 1)]) (st := []) mt_X11_isWithin is_X11_isWithin lkX9_33 ⟨by decide, by decide⟩ (Nat.le_of_ble_eq_true rfl) ⟨by decide, by decide⟩ rfl rfl dX9_elementAt_24 (Ctr.mono h (fun v M12 h => ?_))
      obtain ⟨r13, rfl, h⟩ := h
      show E_X9_elementAt l q 27 [(0, rV (some a0)), (1, iV p1)] [iV r13] M12 0 0
      refine e_if_eq (tgt := 39) dX9_elementAt_27 (by decide) (fun c14 => ?_) (fun c14 => ?_)
      · replace h := h.1 c14
        refine e_iconst (v := 0) dX9_elementAt_39 (by decide) ?_
        exact e_iret rfl trivial dX9_elementAt_40 ⟨_, rfl, h⟩
      · replace h := h.2 c14
        refine e_aload_n dX9_elementAt_30 rfl rfl ?_
        obtain ⟨b15, o16, o17, h⟩ := h
        refine e_gA flX9_19 t0 rfl o16 dX9_elementAt_31 ?_
        refine e_iload_n dX9_elementAt_34 rfl rfl ?_
        obtain ⟨o18, h⟩ := h
        refine e_bald o17 o18 dX9_elementAt_35 ?_
        refine e_goto (tgt := 40) dX9_elementAt_36 (by decide) ?_
        exact e_iret rfl trivial dX9_elementAt_40 ⟨_, rfl, h⟩
theorem w_X9_holdsKind (l : Launch) (a0 : Nat) (p1 : Int32) (t0 : o_ty a0 = .inl 9) (M : o_M) (q : Int32 → o_M → Prop) (h : ((¬ (mI M a0 5) = 1 → q 0 M) ∧ ((mI M a0 5) = 1 → ((mR M a0 1 = none → q 0 M) ∧ (∀ b2, mR M a0 1 = some b2 → o_ty b2 = .inl 6 ∧ K_X6_isOfKind l [rV (some b2), iV p1] M (fun r6 M5 => ((r6 = 0 → q 0 M5) ∧ (¬ r6 = 0 → q 1 M5)))))))) : K_X9_holdsKind l [rV (some a0), iV p1] M q := by
  refine o_ctr (ini := false) (by decide +kernel) rfl (fun z => by cases z) (Nat.le_of_ble_eq_true rfl) ?_
  show E_X9_holdsKind l q 0 [(0, rV (some a0)), (1, iV p1)] [] M 0 0
  refine e_aload_n dX9_holdsKind_0 rfl rfl ?_
  refine e_gI flX9_30 t0 rfl dX9_holdsKind_1 ?_
  refine e_iconst (v := 1) dX9_holdsKind_4 (by decide) ?_
  refine e_ic_ne (tgt := 30) dX9_holdsKind_5 (by decide) (fun c1 => ?_) (fun c1 => ?_)
  · replace h := h.1 c1
    refine e_iconst (v := 0) dX9_holdsKind_30 (by decide) ?_
    exact e_iret rfl rb_0 dX9_holdsKind_31 ⟨_, rfl, h⟩
  · replace h := h.2 c1
    refine e_aload_n dX9_holdsKind_8 rfl rfl ?_
    refine e_gR flX9_15 t0 rfl dX9_holdsKind_9 ?_
    refine e_ifnull (tgt := 30) dX9_holdsKind_12 (by decide) (fun c3 => ?_) (fun b2 c3 => ?_)
    · replace h := h.1 c3
      refine e_eq (lv' := [(0, rV (some a0)), (1, iV p1)]) (st' := []) rfl (by first | rfl | rw [c3]) rfl ?_
      refine e_iconst (v := 0) dX9_holdsKind_30 (by decide) ?_
      exact e_iret rfl rb_0 dX9_holdsKind_31 ⟨_, rfl, h⟩
    · obtain ⟨t4, h⟩ := h.2 b2 c3
      refine e_eq (lv' := [(0, rV (some a0)), (1, iV p1)]) (st' := []) rfl (by first | rfl | rw [c3]) rfl ?_
      refine e_aload_n dX9_holdsKind_15 rfl rfl ?_
      refine e_gA flX9_15 t0 rfl c3 dX9_holdsKind_16 ?_
      refine e_iload_n dX9_holdsKind_19 rfl rfl ?_
      refine e_callV (As := [iV p1]) (st := []) mt_X6_isOfKind in_X6_isOfKind lkX9_37 rfl t4 ⟨by decide, by decide⟩ (Nat.le_of_ble_eq_true rfl) ⟨by decide, by decide⟩ rfl rfl dX9_holdsKind_20 (Ctr.mono h (fun v M5 h => ?_))
      obtain ⟨r6, rfl, h⟩ := h
      show E_X9_holdsKind l q 23 [(0, rV (some a0)), (1, iV p1)] [iV r6] M5 0 0
      refine e_if_eq (tgt := 30) dX9_holdsKind_23 (by decide) (fun c7 => ?_) (fun c7 => ?_)
      · replace h := h.1 c7
        refine e_iconst (v := 0) dX9_holdsKind_30 (by decide) ?_
        exact e_iret rfl rb_0 dX9_holdsKind_31 ⟨_, rfl, h⟩
      · replace h := h.2 c7
        refine e_iconst (v := 1) dX9_holdsKind_26 (by decide) ?_
        refine e_goto (tgt := 31) dX9_holdsKind_27 (by decide) ?_
        exact e_iret rfl rb_1 dX9_holdsKind_31 ⟨_, rfl, h⟩
theorem w_X9_init (l : Launch) (a0 : Nat) (t0 : o_ty a0 = .inl 9) (M : o_M) (q : o_M → Prop) (h : ((a0 + 1) ∉ mL M ∧ q (sI (sI (sI (sR (sR (sR (nW M (a0 + 1) 10) a0 0 (some (a0 + 1))) a0 1 none) a0 2 none) a0 3 0) a0 4 0) a0 5 0))) : K_X9_init l [rV (some a0)] M q := by
  refine o_ctr (ini := true) (by decide +kernel) rfl (fun z => rfl) (Nat.le_of_ble_eq_true rfl) ?_
  show E_X9_init l q 0 [(0, rV (some a0))] [] M 0 0
  refine e_aload_n dX9_init_0 rfl rfl ?_
  refine e_objI loX9_3 oi_1 oi_2 (by decide) (Nat.le_of_ble_eq_true rfl) (by decide) dX9_init_1 ?_
  refine e_aload_n dX9_init_4 rfl rfl ?_
  refine e_bipush (v := 10) dX9_init_5 (by decide) ?_
  obtain ⟨o1, h⟩ := h
  refine e_newa (N := 10) o1 ((o_sub9 t0).2) rfl rfl (by decide) ac_long (by decide) (by decide) (by decide) (by decide) (by decide) dX9_init_7 ?_
  refine e_pR flX9_9 t0 (Or.inr ⟨rfl, rfl, rfl, fnX9_9⟩) rfl dX9_init_9 ?_
  refine e_aload_n dX9_init_12 rfl rfl ?_
  refine e_null dX9_init_13 ?_
  refine e_pR flX9_15 t0 (Or.inl rfl) rfl dX9_init_14 ?_
  refine e_aload_n dX9_init_17 rfl rfl ?_
  refine e_null dX9_init_18 ?_
  refine e_pR flX9_19 t0 (Or.inl rfl) rfl dX9_init_19 ?_
  refine e_aload_n dX9_init_22 rfl rfl ?_
  refine e_iconst (v := 0) dX9_init_23 (by decide) ?_
  refine e_pI flX9_23 t0 (Or.inl rfl) rfl rfl rfl dX9_init_24 ?_
  refine e_aload_n dX9_init_27 rfl rfl ?_
  refine e_iconst (v := 0) dX9_init_28 (by decide) ?_
  refine e_pI flX9_27 t0 (Or.inl rfl) rfl rfl rfl dX9_init_29 ?_
  refine e_aload_n dX9_init_32 rfl rfl ?_
  refine e_iconst (v := 0) dX9_init_33 (by decide) ?_
  refine e_pI flX9_30 t0 (Or.inl rfl) rfl rfl rfl dX9_init_34 ?_
  exact e_ret rfl dX9_init_37 ⟨rfl, h⟩
abbrev H_X0_choose_20 (l : Launch) (q : Int32 → o_M → Prop) (v3 : Int32) (v4 : Int32) (v5 : Int32) (M : o_M) : Prop := E_X0_choose l q 20 [(0, rV (some 38)), (3, iV v3), (4, iV v4), (5, iV v5)] [] M 0 0
theorem w_X0_choose (l : Launch) (p1 : Int32) (p2 : Int32) (M : o_M) (q : Int32 → o_M → Prop) (h : K_J9_min_7cf53 l [iV p2, iV (mI M 38 2)] M (fun r2 M1 => K_J9_max_7cf53 l [iV p1, iV 0] M1 (fun r4 M3 => H_X0_choose_20 l q 1073741824 r2 r4 M3))) : K_X0_choose l [rV (some 38), iV p1, iV p2] M q := by
  refine o_ctr (ini := false) (by decide +kernel) rfl (fun z => by cases z) (Nat.le_of_ble_eq_true rfl) ?_
  show E_X0_choose l q 0 [(0, rV (some 38)), (1, iV p1), (2, iV p2)] [] M 0 0
  refine e_ldc kcX0_28 dX0_choose_0 ?_
  refine e_istore_n (lv' := [(3, iV 1073741824), (0, rV (some 38)), (1, iV p1), (2, iV p2)]) dX0_choose_2 rfl (by decide) rfl ?_
  refine e_iload_n dX0_choose_3 rfl rfl ?_
  refine e_aload_n dX0_choose_4 rfl rfl ?_
  refine e_gI flX0_18 rfl rfl dX0_choose_5 ?_
  refine e_callS (As := [iV p2, iV (mI M 38 2)]) (st := []) mt_J9_min_7cf53 is_J9_min_7cf53 lkX0_44 ⟨by decide, by decide⟩ (Nat.le_of_ble_eq_true rfl) ⟨by decide, by decide⟩ rfl rfl dX0_choose_8 (Ctr.mono h (fun v M1 h => ?_))
  obtain ⟨r2, rfl, h⟩ := h
  show E_X0_choose l q 11 [(3, iV 1073741824), (0, rV (some 38)), (1, iV p1), (2, iV p2)] [iV r2] M1 0 0
  refine e_istore (lv' := [(4, iV r2), (3, iV 1073741824), (0, rV (some 38)), (1, iV p1), (2, iV p2)]) (by decide) rfl dX0_choose_11 ?_
  refine e_iload_n dX0_choose_13 rfl rfl ?_
  refine e_iconst (v := 0) dX0_choose_14 (by decide) ?_
  refine e_callS (As := [iV p1, iV 0]) (st := []) mt_J9_max_7cf53 is_J9_max_7cf53 lkX0_50 ⟨by decide, by decide⟩ (Nat.le_of_ble_eq_true rfl) ⟨by decide, by decide⟩ rfl rfl dX0_choose_15 (Ctr.mono h (fun v M3 h => ?_))
  obtain ⟨r4, rfl, h⟩ := h
  show E_X0_choose l q 18 [(4, iV r2), (3, iV 1073741824), (0, rV (some 38)), (1, iV p1), (2, iV p2)] [iV r4] M3 0 0
  refine e_istore (lv' := [(5, iV r4), (4, iV r2), (3, iV 1073741824), (0, rV (some 38)), (1, iV p1), (2, iV p2)]) (by decide) rfl dX0_choose_18 ?_
  exact e_lv (List.forall_mem_cons.mpr ⟨rfl, List.forall_mem_cons.mpr ⟨rfl, List.forall_mem_cons.mpr ⟨rfl, List.forall_mem_cons.mpr ⟨rfl, fun _ h => absurd h List.not_mem_nil⟩⟩⟩⟩) h
theorem w_X0_choose_20 (l : Launch) (q : Int32 → o_M → Prop) (v3 : Int32) (v4 : Int32) (v5 : Int32) (M : o_M) (h : ((v4 < v5 → ((¬ v3 = 1073741824 → K_X0_setOf l [iV v3] M (fun r8 M7 => q r8 M7)) ∧ (v3 = 1073741824 → q (-1) M))) ∧ (¬ v4 < v5 → (mR M 38 1 = some 40 ∧ (vp_in v5 (mN M 40) ∧ K_J9_min_7cf53 l [iV v3, iV (mI M 40 v5.toNatClampNeg)] M (fun r12 M11 => H_X0_choose_20 l q r12 v4 (v5 + 1) M11)))))) : H_X0_choose_20 l q v3 v4 v5 M := by
  refine e_iload rfl dX0_choose_20 ?_
  refine e_iload rfl dX0_choose_22 ?_
  refine e_ic_gt (tgt := 45) dX0_choose_24 (by decide) (fun c5 => ?_) (fun c5 => ?_)
  · replace h := h.1 c5
    refine e_iload_n dX0_choose_45 rfl rfl ?_
    refine e_ldc kcX0_28 dX0_choose_46 ?_
    refine e_ic_ne (tgt := 55) dX0_choose_48 (by decide) (fun c6 => ?_) (fun c6 => ?_)
    · replace h := h.1 c6
      refine e_iload_n dX0_choose_55 rfl rfl ?_
      refine e_callS (As := [iV v3]) (st := []) mt_X0_setOf is_X0_setOf lkX0_53 ⟨by decide, by decide⟩ (Nat.le_of_ble_eq_true rfl) ⟨by decide, by decide⟩ rfl rfl dX0_choose_56 (Ctr.mono h (fun v M7 h => ?_))
      obtain ⟨r8, rfl, h⟩ := h
      show E_X0_choose l q 59 [(0, rV (some 38)), (3, iV v3), (4, iV v4), (5, iV v5)] [iV r8] M7 0 0
      exact e_iret rfl trivial dX0_choose_59 ⟨_, rfl, h⟩
    · replace h := h.2 c6
      refine e_iconst (v := (-1)) dX0_choose_51 (by decide) ?_
      refine e_goto (tgt := 59) dX0_choose_52 (by decide) ?_
      exact e_iret rfl trivial dX0_choose_59 ⟨_, rfl, h⟩
  · replace h := h.2 c5
    refine e_iload_n dX0_choose_27 rfl rfl ?_
    refine e_aload_n dX0_choose_28 rfl rfl ?_
    obtain ⟨o9, h⟩ := h
    refine e_gA flX0_15 rfl rfl o9 dX0_choose_29 ?_
    refine e_iload rfl dX0_choose_32 ?_
    obtain ⟨o10, h⟩ := h
    refine e_iald rfl o10 dX0_choose_34 ?_
    refine e_callS (As := [iV v3, iV (mI M 40 v5.toNatClampNeg)]) (st := []) mt_J9_min_7cf53 is_J9_min_7cf53 lkX0_44 ⟨by decide, by decide⟩ (Nat.le_of_ble_eq_true rfl) ⟨by decide, by decide⟩ rfl rfl dX0_choose_35 (Ctr.mono h (fun v M11 h => ?_))
    obtain ⟨r12, rfl, h⟩ := h
    show E_X0_choose l q 38 [(0, rV (some 38)), (3, iV v3), (4, iV v4), (5, iV v5)] [iV r12] M11 0 0
    refine e_istore_n (lv' := [(3, iV r12), (0, rV (some 38)), (4, iV v4), (5, iV v5)]) dX0_choose_38 rfl (by decide) rfl ?_
    refine e_iinc (v := 1) (lv' := [(5, iV (v5 + 1)), (3, iV r12), (0, rV (some 38)), (4, iV v4)]) rfl (by decide) (by decide) rfl dX0_choose_39 ?_
    refine e_goto (tgt := 20) dX0_choose_42 (by decide) ?_
    exact e_lv (List.forall_mem_cons.mpr ⟨rfl, List.forall_mem_cons.mpr ⟨rfl, List.forall_mem_cons.mpr ⟨rfl, List.forall_mem_cons.mpr ⟨rfl, fun _ h => absurd h List.not_mem_nil⟩⟩⟩⟩) h
theorem w_X11_force (l : Launch) (p1 : Int32) (p2 : Int32) (M : o_M) (q : Int32 → o_M → Prop) (h : K_X11_isWithin l [iV p1, iV 0, iV ((mI M 16 14) - 1)] M (fun r2 M1 => ((r2 = 0 → q (-2) M1) ∧ (¬ r2 = 0 → K_X11_isDay l [iV p2] M1 (fun r5 M4 => ((¬ r5 = 0 → K_X11_tellForce l [rV (some 16), iV p1, iV p2] M4 (fun M7 => q 1 M7)) ∧ (r5 = 0 → q (-2) M4))))))) : K_X11_force l [rV (some 16), iV p1, iV p2] M q := by
  refine o_ctr (ini := false) (by decide +kernel) rfl (fun z => by cases z) (Nat.le_of_ble_eq_true rfl) ?_
  show E_X11_force l q 0 [(0, rV (some 16)), (1, iV p1), (2, iV p2)] [] M 0 0
  refine e_iload_n dX11_force_0 rfl rfl ?_
  refine e_iconst (v := 0) dX11_force_1 (by decide) ?_
  refine e_aload_n dX11_force_2 rfl rfl ?_
  refine e_gI flX11_88 rfl rfl dX11_force_3 ?_
  refine e_iconst (v := 1) dX11_force_6 (by decide) ?_
  refine e_isub dX11_force_7 ?_
  refine e_callS (As := [iV p1, iV 0, iV ((mI M 16 14) - 1)]) (st := []) mt_X11_isWithin is_X11_isWithin lkX11_124 ⟨by decide, by decide⟩ (Nat.le_of_ble_eq_true rfl) ⟨by decide, by decide⟩ rfl rfl dX11_force_8 (Ctr.mono h (fun v M1 h => ?_))
  obtain ⟨r2, rfl, h⟩ := h
  show E_X11_force l q 11 [(0, rV (some 16)), (1, iV p1), (2, iV p2)] [iV r2] M1 0 0
  refine e_if_eq (tgt := 21) dX11_force_11 (by decide) (fun c3 => ?_) (fun c3 => ?_)
  · replace h := h.1 c3
    refine e_bipush (v := (-2)) dX11_force_21 (by decide) ?_
    exact e_iret rfl trivial dX11_force_23 ⟨_, rfl, h⟩
  · replace h := h.2 c3
    refine e_iload_n dX11_force_14 rfl rfl ?_
    refine e_callS (As := [iV p2]) (st := []) mt_X11_isDay is_X11_isDay lkX11_167 ⟨by decide, by decide⟩ (Nat.le_of_ble_eq_true rfl) ⟨by decide, by decide⟩ rfl rfl dX11_force_15 (Ctr.mono h (fun v M4 h => ?_))
    obtain ⟨r5, rfl, h⟩ := h
    show E_X11_force l q 18 [(0, rV (some 16)), (1, iV p1), (2, iV p2)] [iV r5] M4 0 0
    refine e_if_ne (tgt := 24) dX11_force_18 (by decide) (fun c6 => ?_) (fun c6 => ?_)
    · replace h := h.1 c6
      refine e_aload_n dX11_force_24 rfl rfl ?_
      refine e_iload_n dX11_force_25 rfl rfl ?_
      refine e_iload_n dX11_force_26 rfl rfl ?_
      refine e_callV (As := [iV p1, iV p2]) (st := []) mt_X11_tellForce in_X11_tellForce lkX11_120 rfl rfl ⟨by decide, by decide⟩ (Nat.le_of_ble_eq_true rfl) ⟨by decide, by decide⟩ rfl rfl dX11_force_27 (Ctr.mono h (fun v M7 h => ?_))
      obtain ⟨rfl, h⟩ := h
      show E_X11_force l q 30 [(0, rV (some 16)), (1, iV p1), (2, iV p2)] [] M7 0 0
      refine e_iconst (v := 1) dX11_force_30 (by decide) ?_
      exact e_iret rfl trivial dX11_force_31 ⟨_, rfl, h⟩
    · replace h := h.2 c6
      refine e_bipush (v := (-2)) dX11_force_21 (by decide) ?_
      exact e_iret rfl trivial dX11_force_23 ⟨_, rfl, h⟩
theorem w_X11_forgeDay (l : Launch) (a1 : Nat) (p2 : Int32) (t1 : o_ty a1 = .inl 9) (M : o_M) (q : Int32 → o_M → Prop) (h : ((¬ (mI M a1 5) = 0 → K_X9_holdsKind l [rV (some a1), iV p2] M (fun r3 M2 => ((¬ r3 = 0 → (∃ b5, mR M2 a1 1 = some b5 ∧ o_ty b5 = .inl 6 ∧ K_X11_hostAnswers l [rV (some 16), iV (mI M2 b5 1)] M2 (fun r9 M8 => q r9 M8))) ∧ (r3 = 0 → K_X11_hostRefuses l [rV (some 16), iV 11] M2 (fun r11 M10 => q r11 M10))))) ∧ ((mI M a1 5) = 0 → K_X11_hostRefuses l [rV (some 16), iV 10] M (fun r13 M12 => q r13 M12)))) : K_X11_forgeDay l [rV (some 16), rV (some a1), iV p2] M q := by
  refine o_ctr (ini := false) (by decide +kernel) rfl (fun z => by cases z) (Nat.le_of_ble_eq_true rfl) ?_
  show E_X11_forgeDay l q 0 [(0, rV (some 16)), (1, rV (some a1)), (2, iV p2)] [] M 0 0
  refine e_aload_n dX11_forgeDay_0 rfl rfl ?_
  refine e_gI flX11_319 t1 rfl dX11_forgeDay_1 ?_
  refine e_if_ne (tgt := 14) dX11_forgeDay_4 (by decide) (fun c1 => ?_) (fun c1 => ?_)
  · replace h := h.1 c1
    refine e_aload_n dX11_forgeDay_14 rfl rfl ?_
    refine e_iload_n dX11_forgeDay_15 rfl rfl ?_
    refine e_callV (As := [iV p2]) (st := []) mt_X9_holdsKind in_X9_holdsKind lkX11_459 rfl t1 ⟨by decide, by decide⟩ (Nat.le_of_ble_eq_true rfl) ⟨by decide, by decide⟩ rfl rfl dX11_forgeDay_16 (Ctr.mono h (fun v M2 h => ?_))
    obtain ⟨r3, rfl, h⟩ := h
    show E_X11_forgeDay l q 19 [(0, rV (some 16)), (1, rV (some a1)), (2, iV p2)] [iV r3] M2 0 0
    refine e_if_ne (tgt := 29) dX11_forgeDay_19 (by decide) (fun c4 => ?_) (fun c4 => ?_)
    · replace h := h.1 c4
      refine e_aload_n dX11_forgeDay_29 rfl rfl ?_
      refine e_aload_n dX11_forgeDay_30 rfl rfl ?_
      obtain ⟨b5, o6, o7, h⟩ := h
      refine e_gA flX11_322 t1 rfl o6 dX11_forgeDay_31 ?_
      refine e_gI flX11_221 o7 rfl dX11_forgeDay_34 ?_
      refine e_callV (As := [iV (mI M2 b5 1)]) (st := []) mt_X11_hostAnswers in_X11_hostAnswers lkX11_337 rfl rfl ⟨by decide, by decide⟩ (Nat.le_of_ble_eq_true rfl) ⟨by decide, by decide⟩ rfl rfl dX11_forgeDay_37 (Ctr.mono h (fun v M8 h => ?_))
      obtain ⟨r9, rfl, h⟩ := h
      show E_X11_forgeDay l q 40 [(0, rV (some 16)), (1, rV (some a1)), (2, iV p2)] [iV r9] M8 0 0
      exact e_iret rfl trivial dX11_forgeDay_40 ⟨_, rfl, h⟩
    · replace h := h.2 c4
      refine e_aload_n dX11_forgeDay_22 rfl rfl ?_
      refine e_bipush (v := 11) dX11_forgeDay_23 (by decide) ?_
      refine e_callV (As := [iV 11]) (st := []) mt_X11_hostRefuses in_X11_hostRefuses lkX11_316 rfl rfl ⟨by decide, by decide⟩ (Nat.le_of_ble_eq_true rfl) ⟨by decide, by decide⟩ rfl rfl dX11_forgeDay_25 (Ctr.mono h (fun v M10 h => ?_))
      obtain ⟨r11, rfl, h⟩ := h
      show E_X11_forgeDay l q 28 [(0, rV (some 16)), (1, rV (some a1)), (2, iV p2)] [iV r11] M10 0 0
      exact e_iret rfl trivial dX11_forgeDay_28 ⟨_, rfl, h⟩
  · replace h := h.2 c1
    refine e_aload_n dX11_forgeDay_7 rfl rfl ?_
    refine e_bipush (v := 10) dX11_forgeDay_8 (by decide) ?_
    refine e_callV (As := [iV 10]) (st := []) mt_X11_hostRefuses in_X11_hostRefuses lkX11_316 rfl rfl ⟨by decide, by decide⟩ (Nat.le_of_ble_eq_true rfl) ⟨by decide, by decide⟩ rfl rfl dX11_forgeDay_10 (Ctr.mono h (fun v M12 h => ?_))
    obtain ⟨r13, rfl, h⟩ := h
    show E_X11_forgeDay l q 13 [(0, rV (some 16)), (1, rV (some a1)), (2, iV p2)] [iV r13] M12 0 0
    exact e_iret rfl trivial dX11_forgeDay_13 ⟨_, rfl, h⟩
theorem w_X11_forgeLaid (l : Launch) (a1 : Nat) (t1 : o_ty a1 = .inl 9) (M : o_M) (q : Int32 → o_M → Prop) (h : ((¬ (mI M a1 5) = 0 → K_X9_holdsKind l [rV (some a1), iV 1] M (fun r3 M2 => ((¬ r3 = 0 → (∃ b5, mR M2 a1 1 = some b5 ∧ o_ty b5 = .inl 6 ∧ K_X11_hostAnswers l [rV (some 16), iV (mI M2 b5 1)] M2 (fun r9 M8 => q r9 M8))) ∧ (r3 = 0 → K_X11_hostRefuses l [rV (some 16), iV 14] M2 (fun r11 M10 => q r11 M10))))) ∧ ((mI M a1 5) = 0 → K_X11_hostAnswers l [rV (some 16), iV 0] M (fun r13 M12 => q r13 M12)))) : K_X11_forgeLaid l [rV (some 16), rV (some a1)] M q := by
  refine o_ctr (ini := false) (by decide +kernel) rfl (fun z => by cases z) (Nat.le_of_ble_eq_true rfl) ?_
  show E_X11_forgeLaid l q 0 [(0, rV (some 16)), (1, rV (some a1))] [] M 0 0
  refine e_aload_n dX11_forgeLaid_0 rfl rfl ?_
  refine e_gI flX11_319 t1 rfl dX11_forgeLaid_1 ?_
  refine e_if_ne (tgt := 13) dX11_forgeLaid_4 (by decide) (fun c1 => ?_) (fun c1 => ?_)
  · replace h := h.1 c1
    refine e_aload_n dX11_forgeLaid_13 rfl rfl ?_
    refine e_iconst (v := 1) dX11_forgeLaid_14 (by decide) ?_
    refine e_callV (As := [iV 1]) (st := []) mt_X9_holdsKind in_X9_holdsKind lkX11_459 rfl t1 ⟨by decide, by decide⟩ (Nat.le_of_ble_eq_true rfl) ⟨by decide, by decide⟩ rfl rfl dX11_forgeLaid_15 (Ctr.mono h (fun v M2 h => ?_))
    obtain ⟨r3, rfl, h⟩ := h
    show E_X11_forgeLaid l q 18 [(0, rV (some 16)), (1, rV (some a1))] [iV r3] M2 0 0
    refine e_if_ne (tgt := 28) dX11_forgeLaid_18 (by decide) (fun c4 => ?_) (fun c4 => ?_)
    · replace h := h.1 c4
      refine e_aload_n dX11_forgeLaid_28 rfl rfl ?_
      refine e_aload_n dX11_forgeLaid_29 rfl rfl ?_
      obtain ⟨b5, o6, o7, h⟩ := h
      refine e_gA flX11_322 t1 rfl o6 dX11_forgeLaid_30 ?_
      refine e_gI flX11_221 o7 rfl dX11_forgeLaid_33 ?_
      refine e_callV (As := [iV (mI M2 b5 1)]) (st := []) mt_X11_hostAnswers in_X11_hostAnswers lkX11_337 rfl rfl ⟨by decide, by decide⟩ (Nat.le_of_ble_eq_true rfl) ⟨by decide, by decide⟩ rfl rfl dX11_forgeLaid_36 (Ctr.mono h (fun v M8 h => ?_))
      obtain ⟨r9, rfl, h⟩ := h
      show E_X11_forgeLaid l q 39 [(0, rV (some 16)), (1, rV (some a1))] [iV r9] M8 0 0
      exact e_iret rfl trivial dX11_forgeLaid_39 ⟨_, rfl, h⟩
    · replace h := h.2 c4
      refine e_aload_n dX11_forgeLaid_21 rfl rfl ?_
      refine e_bipush (v := 14) dX11_forgeLaid_22 (by decide) ?_
      refine e_callV (As := [iV 14]) (st := []) mt_X11_hostRefuses in_X11_hostRefuses lkX11_316 rfl rfl ⟨by decide, by decide⟩ (Nat.le_of_ble_eq_true rfl) ⟨by decide, by decide⟩ rfl rfl dX11_forgeLaid_24 (Ctr.mono h (fun v M10 h => ?_))
      obtain ⟨r11, rfl, h⟩ := h
      show E_X11_forgeLaid l q 27 [(0, rV (some 16)), (1, rV (some a1))] [iV r11] M10 0 0
      exact e_iret rfl trivial dX11_forgeLaid_27 ⟨_, rfl, h⟩
  · replace h := h.2 c1
    refine e_aload_n dX11_forgeLaid_7 rfl rfl ?_
    refine e_iconst (v := 0) dX11_forgeLaid_8 (by decide) ?_
    refine e_callV (As := [iV 0]) (st := []) mt_X11_hostAnswers in_X11_hostAnswers lkX11_337 rfl rfl ⟨by decide, by decide⟩ (Nat.le_of_ble_eq_true rfl) ⟨by decide, by decide⟩ rfl rfl dX11_forgeLaid_9 (Ctr.mono h (fun v M12 h => ?_))
    obtain ⟨r13, rfl, h⟩ := h
    show E_X11_forgeLaid l q 12 [(0, rV (some 16)), (1, rV (some a1))] [iV r13] M12 0 0
    exact e_iret rfl trivial dX11_forgeLaid_12 ⟨_, rfl, h⟩
theorem w_X11_forgePlace (l : Launch) (a1 : Nat) (p2 : Int32) (p3 : Int32) (t1 : o_ty a1 = .inl 9) (M : o_M) (q : Int32 → o_M → Prop) (h : ((¬ (mI M a1 5) = 0 → (((mI M a1 5) = p2 → K_X11_isWithin l [iV p3, iV 0, iV ((mI M a1 4) - 1)] M (fun r4 M3 => ((¬ r4 = 0 → K_X9_elementAt l [rV (some a1), iV p3] M3 (fun r7 M6 => K_X11_hostAnswers l [rV (some 16), iV r7] M6 (fun r9 M8 => q r9 M8))) ∧ (r4 = 0 → K_X11_hostRefuses l [rV (some 16), iV 12] M3 (fun r11 M10 => q r11 M10))))) ∧ (¬ (mI M a1 5) = p2 → K_X11_hostRefuses l [rV (some 16), iV 11] M (fun r13 M12 => q r13 M12)))) ∧ ((mI M a1 5) = 0 → K_X11_hostRefuses l [rV (some 16), iV 10] M (fun r15 M14 => q r15 M14)))) : K_X11_forgePlace l [rV (some 16), rV (some a1), iV p2, iV p3] M q := by
  refine o_ctr (ini := false) (by decide +kernel) rfl (fun z => by cases z) (Nat.le_of_ble_eq_true rfl) ?_
  show E_X11_forgePlace l q 0 [(0, rV (some 16)), (1, rV (some a1)), (2, iV p2), (3, iV p3)] [] M 0 0
  refine e_aload_n dX11_forgePlace_0 rfl rfl ?_
  refine e_gI flX11_319 t1 rfl dX11_forgePlace_1 ?_
  refine e_if_ne (tgt := 14) dX11_forgePlace_4 (by decide) (fun c1 => ?_) (fun c1 => ?_)
  · replace h := h.1 c1
    refine e_aload_n dX11_forgePlace_14 rfl rfl ?_
    refine e_gI flX11_319 t1 rfl dX11_forgePlace_15 ?_
    refine e_iload_n dX11_forgePlace_18 rfl rfl ?_
    refine e_ic_eq (tgt := 29) dX11_forgePlace_19 (by decide) (fun c2 => ?_) (fun c2 => ?_)
    · replace h := h.1 c2
      refine e_iload_n dX11_forgePlace_29 rfl rfl ?_
      refine e_iconst (v := 0) dX11_forgePlace_30 (by decide) ?_
      refine e_aload_n dX11_forgePlace_31 rfl rfl ?_
      refine e_gI flX11_449 t1 rfl dX11_forgePlace_32 ?_
      refine e_iconst (v := 1) dX11_forgePlace_35 (by decide) ?_
      refine e_isub dX11_forgePlace_36 ?_
      refine e_callS (As := [iV p3, iV 0, iV ((mI M a1 4) - 1)]) (st := []) mt_X11_isWithin is_X11_isWithin lkX11_124 ⟨by decide, by decide⟩ (Nat.le_of_ble_eq_true rfl) ⟨by decide, by decide⟩ rfl rfl dX11_forgePlace_37 (Ctr.mono h (fun v M3 h => ?_))
      obtain ⟨r4, rfl, h⟩ := h
      show E_X11_forgePlace l q 40 [(0, rV (some 16)), (1, rV (some a1)), (2, iV p2), (3, iV p3)] [iV r4] M3 0 0
      refine e_if_ne (tgt := 50) dX11_forgePlace_40 (by decide) (fun c5 => ?_) (fun c5 => ?_)
      · replace h := h.1 c5
        refine e_aload_n dX11_forgePlace_50 rfl rfl ?_
        refine e_aload_n dX11_forgePlace_51 rfl rfl ?_
        refine e_iload_n dX11_forgePlace_52 rfl rfl ?_
        refine e_callV (As := [iV p3]) (st := [rV (some 16)]) mt_X9_elementAt in_X9_elementAt lkX11_462 rfl t1 ⟨by decide, by decide⟩ (Nat.le_of_ble_eq_true rfl) ⟨by decide, by decide⟩ rfl rfl dX11_forgePlace_53 (Ctr.mono h (fun v M6 h => ?_))
        obtain ⟨r7, rfl, h⟩ := h
        show E_X11_forgePlace l q 56 [(0, rV (some 16)), (1, rV (some a1)), (2, iV p2), (3, iV p3)] [iV r7, rV (some 16)] M6 0 0
        refine e_callV (As := [iV r7]) (st := []) mt_X11_hostAnswers in_X11_hostAnswers lkX11_337 rfl rfl ⟨by decide, by decide⟩ (Nat.le_of_ble_eq_true rfl) ⟨by decide, by decide⟩ rfl rfl dX11_forgePlace_56 (Ctr.mono h (fun v M8 h => ?_))
        obtain ⟨r9, rfl, h⟩ := h
        show E_X11_forgePlace l q 59 [(0, rV (some 16)), (1, rV (some a1)), (2, iV p2), (3, iV p3)] [iV r9] M8 0 0
        exact e_iret rfl trivial dX11_forgePlace_59 ⟨_, rfl, h⟩
      · replace h := h.2 c5
        refine e_aload_n dX11_forgePlace_43 rfl rfl ?_
        refine e_bipush (v := 12) dX11_forgePlace_44 (by decide) ?_
        refine e_callV (As := [iV 12]) (st := []) mt_X11_hostRefuses in_X11_hostRefuses lkX11_316 rfl rfl ⟨by decide, by decide⟩ (Nat.le_of_ble_eq_true rfl) ⟨by decide, by decide⟩ rfl rfl dX11_forgePlace_46 (Ctr.mono h (fun v M10 h => ?_))
        obtain ⟨r11, rfl, h⟩ := h
        show E_X11_forgePlace l q 49 [(0, rV (some 16)), (1, rV (some a1)), (2, iV p2), (3, iV p3)] [iV r11] M10 0 0
        exact e_iret rfl trivial dX11_forgePlace_49 ⟨_, rfl, h⟩
    · replace h := h.2 c2
      refine e_aload_n dX11_forgePlace_22 rfl rfl ?_
      refine e_bipush (v := 11) dX11_forgePlace_23 (by decide) ?_
      refine e_callV (As := [iV 11]) (st := []) mt_X11_hostRefuses in_X11_hostRefuses lkX11_316 rfl rfl ⟨by decide, by decide⟩ (Nat.le_of_ble_eq_true rfl) ⟨by decide, by decide⟩ rfl rfl dX11_forgePlace_25 (Ctr.mono h (fun v M12 h => ?_))
      obtain ⟨r13, rfl, h⟩ := h
      show E_X11_forgePlace l q 28 [(0, rV (some 16)), (1, rV (some a1)), (2, iV p2), (3, iV p3)] [iV r13] M12 0 0
      exact e_iret rfl trivial dX11_forgePlace_28 ⟨_, rfl, h⟩
  · replace h := h.2 c1
    refine e_aload_n dX11_forgePlace_7 rfl rfl ?_
    refine e_bipush (v := 10) dX11_forgePlace_8 (by decide) ?_
    refine e_callV (As := [iV 10]) (st := []) mt_X11_hostRefuses in_X11_hostRefuses lkX11_316 rfl rfl ⟨by decide, by decide⟩ (Nat.le_of_ble_eq_true rfl) ⟨by decide, by decide⟩ rfl rfl dX11_forgePlace_10 (Ctr.mono h (fun v M14 h => ?_))
    obtain ⟨r15, rfl, h⟩ := h
    show E_X11_forgePlace l q 13 [(0, rV (some 16)), (1, rV (some a1)), (2, iV p2), (3, iV p3)] [iV r15] M14 0 0
    exact e_iret rfl trivial dX11_forgePlace_13 ⟨_, rfl, h⟩
theorem w_X11_inForce (l : Launch) (p1 : Int32) (M : o_M) (q : Int32 → o_M → Prop) (h : K_X11_isDay l [iV p1] M (fun r2 M1 => ((r2 = 0 → q (-2) M1) ∧ (¬ r2 = 0 → K_X11_findInForce l [rV (some 16), iV p1] M1 (fun r5 M4 => q r5 M4))))) : K_X11_inForce l [rV (some 16), iV p1] M q := by
  refine o_ctr (ini := false) (by decide +kernel) rfl (fun z => by cases z) (Nat.le_of_ble_eq_true rfl) ?_
  show E_X11_inForce l q 0 [(0, rV (some 16)), (1, iV p1)] [] M 0 0
  refine e_iload_n dX11_inForce_0 rfl rfl ?_
  refine e_callS (As := [iV p1]) (st := []) mt_X11_isDay is_X11_isDay lkX11_167 ⟨by decide, by decide⟩ (Nat.le_of_ble_eq_true rfl) ⟨by decide, by decide⟩ rfl rfl dX11_inForce_1 (Ctr.mono h (fun v M1 h => ?_))
  obtain ⟨r2, rfl, h⟩ := h
  show E_X11_inForce l q 4 [(0, rV (some 16)), (1, iV p1)] [iV r2] M1 0 0
  refine e_if_eq (tgt := 15) dX11_inForce_4 (by decide) (fun c3 => ?_) (fun c3 => ?_)
  · replace h := h.1 c3
    refine e_bipush (v := (-2)) dX11_inForce_15 (by decide) ?_
    exact e_iret rfl trivial dX11_inForce_17 ⟨_, rfl, h⟩
  · replace h := h.2 c3
    refine e_aload_n dX11_inForce_7 rfl rfl ?_
    refine e_iload_n dX11_inForce_8 rfl rfl ?_
    refine e_callV (As := [iV p1]) (st := []) mt_X11_findInForce in_X11_findInForce lkX11_238 rfl rfl ⟨by decide, by decide⟩ (Nat.le_of_ble_eq_true rfl) ⟨by decide, by decide⟩ rfl rfl dX11_inForce_9 (Ctr.mono h (fun v M4 h => ?_))
    obtain ⟨r5, rfl, h⟩ := h
    show E_X11_inForce l q 12 [(0, rV (some 16)), (1, iV p1)] [iV r5] M4 0 0
    refine e_goto (tgt := 17) dX11_inForce_12 (by decide) ?_
    exact e_iret rfl trivial dX11_inForce_17 ⟨_, rfl, h⟩
theorem w_X11_isPuttable (l : Launch) (p1 : Int32) (p2 : Int32) (M : o_M) (q : Int32 → o_M → Prop) (h : (((p1 < 0 ∨ 4 < p1) → q 0 M) ∧ (p1 = 0 → q 1 M) ∧ (p1 = 1 → K_X11_isWithin l [iV p2, iV 0, iV ((mI M 16 13) - 1)] M (fun r3 M2 => (narrow .boolean (.int r3) = .int r3 ∧ q r3 M2))) ∧ (p1 = 2 → K_X11_isDay l [iV p2] M (fun r6 M5 => (narrow .boolean (.int r6) = .int r6 ∧ q r6 M5))) ∧ (p1 = 3 → q 1 M) ∧ (p1 = 4 → K_X11_isDay l [iV p2] M (fun r9 M8 => (narrow .boolean (.int r9) = .int r9 ∧ q r9 M8))))) : K_X11_isPuttable l [rV (some 16), iV p1, iV p2] M q := by
  refine o_ctr (ini := false) (by decide +kernel) rfl (fun z => by cases z) (Nat.le_of_ble_eq_true rfl) ?_
  show E_X11_isPuttable l q 0 [(0, rV (some 16)), (1, iV p1), (2, iV p2)] [] M 0 0
  refine e_iload_n dX11_isPuttable_0 rfl rfl ?_
  rcases o_tab p1 0 4 (a := 0) (b := 4) (by decide) (by decide) with c1 | c1
  · replace h := h.1 c1
    refine e_tabOut (tgt := 62) dX11_isPuttable_1 (o_tabo (by decide) (by decide) c1) (by decide) ?_
    refine e_iconst (v := 0) dX11_isPuttable_62 (by decide) ?_
    exact e_iret rfl rb_0 dX11_isPuttable_63 ⟨_, rfl, h⟩
  · have h0 := h.2
    have e1 : p1.toInt = 0 ∨ p1.toInt = 1 ∨ p1.toInt = 2 ∨ p1.toInt = 3 ∨ p1.toInt = 4 := by omega
    clear h; rcases e1 with e1 | e1 | e1 | e1 | e1
    · have h := h0.1 (Int32.toInt_inj.mp e1)
      refine e_tabIn (tgt := 36) (off := 35) dX11_isPuttable_1 (by rw [e1]; decide) (by rw [e1]; decide) (by rw [e1]; rfl) (by decide) ?_
      refine e_iconst (v := 1) dX11_isPuttable_36 (by decide) ?_
      exact e_iret rfl rb_1 dX11_isPuttable_37 ⟨_, rfl, h⟩
    · have h := h0.2.1 (Int32.toInt_inj.mp e1)
      refine e_tabIn (tgt := 38) (off := 37) dX11_isPuttable_1 (by rw [e1]; decide) (by rw [e1]; decide) (by rw [e1]; rfl) (by decide) ?_
      refine e_iload_n dX11_isPuttable_38 rfl rfl ?_
      refine e_iconst (v := 0) dX11_isPuttable_39 (by decide) ?_
      refine e_aload_n dX11_isPuttable_40 rfl rfl ?_
      refine e_gI flX11_85 rfl rfl dX11_isPuttable_41 ?_
      refine e_iconst (v := 1) dX11_isPuttable_44 (by decide) ?_
      refine e_isub dX11_isPuttable_45 ?_
      refine e_callS (As := [iV p2, iV 0, iV ((mI M 16 13) - 1)]) (st := []) mt_X11_isWithin is_X11_isWithin lkX11_124 ⟨by decide, by decide⟩ (Nat.le_of_ble_eq_true rfl) ⟨by decide, by decide⟩ rfl rfl dX11_isPuttable_46 (Ctr.mono h (fun v M2 h => ?_))
      obtain ⟨r3, rfl, h⟩ := h
      show E_X11_isPuttable l q 49 [(0, rV (some 16)), (1, iV p1), (2, iV p2)] [iV r3] M2 0 0
      obtain ⟨o4, h⟩ := h
      exact e_iret rfl o4 dX11_isPuttable_49 ⟨_, rfl, h⟩
    · have h := h0.2.2.1 (Int32.toInt_inj.mp e1)
      refine e_tabIn (tgt := 50) (off := 49) dX11_isPuttable_1 (by rw [e1]; decide) (by rw [e1]; decide) (by rw [e1]; rfl) (by decide) ?_
      refine e_iload_n dX11_isPuttable_50 rfl rfl ?_
      refine e_callS (As := [iV p2]) (st := []) mt_X11_isDay is_X11_isDay lkX11_167 ⟨by decide, by decide⟩ (Nat.le_of_ble_eq_true rfl) ⟨by decide, by decide⟩ rfl rfl dX11_isPuttable_51 (Ctr.mono h (fun v M5 h => ?_))
      obtain ⟨r6, rfl, h⟩ := h
      show E_X11_isPuttable l q 54 [(0, rV (some 16)), (1, iV p1), (2, iV p2)] [iV r6] M5 0 0
      obtain ⟨o7, h⟩ := h
      exact e_iret rfl o7 dX11_isPuttable_54 ⟨_, rfl, h⟩
    · have h := h0.2.2.2.1 (Int32.toInt_inj.mp e1)
      refine e_tabIn (tgt := 55) (off := 54) dX11_isPuttable_1 (by rw [e1]; decide) (by rw [e1]; decide) (by rw [e1]; rfl) (by decide) ?_
      refine e_iconst (v := 1) dX11_isPuttable_55 (by decide) ?_
      exact e_iret rfl rb_1 dX11_isPuttable_56 ⟨_, rfl, h⟩
    · have h := h0.2.2.2.2 (Int32.toInt_inj.mp e1)
      refine e_tabIn (tgt := 57) (off := 56) dX11_isPuttable_1 (by rw [e1]; decide) (by rw [e1]; decide) (by rw [e1]; rfl) (by decide) ?_
      refine e_iload_n dX11_isPuttable_57 rfl rfl ?_
      refine e_callS (As := [iV p2]) (st := []) mt_X11_isDay is_X11_isDay lkX11_167 ⟨by decide, by decide⟩ (Nat.le_of_ble_eq_true rfl) ⟨by decide, by decide⟩ rfl rfl dX11_isPuttable_58 (Ctr.mono h (fun v M8 h => ?_))
      obtain ⟨r9, rfl, h⟩ := h
      show E_X11_isPuttable l q 61 [(0, rV (some 16)), (1, iV p1), (2, iV p2)] [iV r9] M8 0 0
      obtain ⟨o10, h⟩ := h
      exact e_iret rfl o10 dX11_isPuttable_61 ⟨_, rfl, h⟩
theorem w_X11_isSpan (l : Launch) (p0 : Int32) (p1 : Int32) (M : o_M) (q : Int32 → o_M → Prop) (h : K_X11_isDay l [iV p0] M (fun r2 M1 => ((r2 = 0 → q 0 M1) ∧ (¬ r2 = 0 → K_X11_isDay l [iV p1] M1 (fun r5 M4 => ((r5 = 0 → q 0 M4) ∧ (¬ r5 = 0 → ((p1 < p0 → q 0 M4) ∧ (¬ p1 < p0 → q 1 M4))))))))) : K_X11_isSpan l [iV p0, iV p1] M q := by
  refine o_ctr (ini := false) (by decide +kernel) rfl (fun z => by cases z) (Nat.le_of_ble_eq_true rfl) ?_
  show E_X11_isSpan l q 0 [(0, iV p0), (1, iV p1)] [] M 0 0
  refine e_iload_n dX11_isSpan_0 rfl rfl ?_
  refine e_callS (As := [iV p0]) (st := []) mt_X11_isDay is_X11_isDay lkX11_167 ⟨by decide, by decide⟩ (Nat.le_of_ble_eq_true rfl) ⟨by decide, by decide⟩ rfl rfl dX11_isSpan_1 (Ctr.mono h (fun v M1 h => ?_))
  obtain ⟨r2, rfl, h⟩ := h
  show E_X11_isSpan l q 4 [(0, iV p0), (1, iV p1)] [iV r2] M1 0 0
  refine e_if_eq (tgt := 23) dX11_isSpan_4 (by decide) (fun c3 => ?_) (fun c3 => ?_)
  · replace h := h.1 c3
    refine e_iconst (v := 0) dX11_isSpan_23 (by decide) ?_
    exact e_iret rfl rb_0 dX11_isSpan_24 ⟨_, rfl, h⟩
  · replace h := h.2 c3
    refine e_iload_n dX11_isSpan_7 rfl rfl ?_
    refine e_callS (As := [iV p1]) (st := []) mt_X11_isDay is_X11_isDay lkX11_167 ⟨by decide, by decide⟩ (Nat.le_of_ble_eq_true rfl) ⟨by decide, by decide⟩ rfl rfl dX11_isSpan_8 (Ctr.mono h (fun v M4 h => ?_))
    obtain ⟨r5, rfl, h⟩ := h
    show E_X11_isSpan l q 11 [(0, iV p0), (1, iV p1)] [iV r5] M4 0 0
    refine e_if_eq (tgt := 23) dX11_isSpan_11 (by decide) (fun c6 => ?_) (fun c6 => ?_)
    · replace h := h.1 c6
      refine e_iconst (v := 0) dX11_isSpan_23 (by decide) ?_
      exact e_iret rfl rb_0 dX11_isSpan_24 ⟨_, rfl, h⟩
    · replace h := h.2 c6
      refine e_iload_n dX11_isSpan_14 rfl rfl ?_
      refine e_iload_n dX11_isSpan_15 rfl rfl ?_
      refine e_ic_gt (tgt := 23) dX11_isSpan_16 (by decide) (fun c7 => ?_) (fun c7 => ?_)
      · replace h := h.1 c7
        refine e_iconst (v := 0) dX11_isSpan_23 (by decide) ?_
        exact e_iret rfl rb_0 dX11_isSpan_24 ⟨_, rfl, h⟩
      · replace h := h.2 c7
        refine e_iconst (v := 1) dX11_isSpan_19 (by decide) ?_
        refine e_goto (tgt := 24) dX11_isSpan_20 (by decide) ?_
        exact e_iret rfl rb_1 dX11_isSpan_24 ⟨_, rfl, h⟩
theorem w_X11_keepReadText (l : Launch) (M : o_M) (q : o_M → Prop) (h : (mR M 16 5 = some 22 ∧ K_J7_copyOf_9075b l [rV (some 22), iV (mI M 16 15)] M (fun r3 M2 => (mR M2 16 6 = some 23 ∧ (mR M2 23 0 = some 24 ∧ (mR M2 16 6 = some 23 ∧ K_J7_copyOf_59c91 l [rV (some 24), iV (mI M2 23 4)] M2 (fun r8 M7 => (mR M7 16 6 = some 23 ∧ (mR M7 23 1 = some 25 ∧ (mR M7 16 6 = some 23 ∧ K_J7_copyOf_59c91 l [rV (some 25), iV (mI M7 23 5)] M7 (fun r13 M12 => (mR M12 16 3 = some 20 ∧ (∃ b15, b15 ∉ mL M12 ∧ o_ty b15 = .inl 7 ∧ K_X7_init l [rV (some b15), rV r3, rV r8, rV r13] (nW M12 b15 0) (fun M18 => (vp_in (mI M12 16 14) (mN M18 20) ∧ q (sI (sR M18 20 ((mI M12 16 14).toNatClampNeg) (some b15)) 16 14 ((mI (sR M18 20 ((mI M12 16 14).toNatClampNeg) (some b15)) 16 14) + 1))))))))))))))))) : K_X11_keepReadText l [rV (some 16)] M q := by
  refine o_ctr (ini := false) (by decide +kernel) rfl (fun z => by cases z) (Nat.le_of_ble_eq_true rfl) ?_
  show E_X11_keepReadText l q 0 [(0, rV (some 16))] [] M 0 0
  refine e_aload_n dX11_keepReadText_0 rfl rfl ?_
  obtain ⟨o1, h⟩ := h
  refine e_gA flX11_39 rfl rfl o1 dX11_keepReadText_1 ?_
  refine e_aload_n dX11_keepReadText_4 rfl rfl ?_
  refine e_gI flX11_91 rfl rfl dX11_keepReadText_5 ?_
  refine e_callS (As := [rV (some 22), iV (mI M 16 15)]) (st := []) mt_J7_copyOf_9075b is_J7_copyOf_9075b lkX11_363 ⟨by decide, by decide⟩ (Nat.le_of_ble_eq_true rfl) ⟨by decide, by decide⟩ rfl rfl dX11_keepReadText_8 (Ctr.mono h (fun v M2 h => ?_))
  obtain ⟨r3, rfl, h⟩ := h
  show E_X11_keepReadText l q 11 [(0, rV (some 16))] [rV r3] M2 1 300
  refine e_astore_n (lv' := [(1, rV r3), (0, rV (some 16))]) dX11_keepReadText_11 rfl (by decide) rfl ?_
  refine e_aload_n dX11_keepReadText_12 rfl rfl ?_
  obtain ⟨o4, h⟩ := h
  refine e_gA flX11_46 rfl rfl o4 dX11_keepReadText_13 ?_
  obtain ⟨o5, h⟩ := h
  refine e_gA flX11_369 rfl rfl o5 dX11_keepReadText_16 ?_
  refine e_aload_n dX11_keepReadText_19 rfl rfl ?_
  obtain ⟨o6, h⟩ := h
  refine e_gA flX11_46 rfl rfl o6 dX11_keepReadText_20 ?_
  refine e_gI flX11_372 rfl rfl dX11_keepReadText_23 ?_
  refine e_callS (As := [rV (some 24), iV (mI M2 23 4)]) (st := []) mt_J7_copyOf_59c91 is_J7_copyOf_59c91 lkX11_375 ⟨by decide, by decide⟩ (Nat.le_of_ble_eq_true rfl) ⟨by decide, by decide⟩ rfl rfl dX11_keepReadText_26 (Ctr.mono h (fun v M7 h => ?_))
  obtain ⟨r8, rfl, h⟩ := h
  show E_X11_keepReadText l q 29 [(1, rV r3), (0, rV (some 16))] [rV r8] M7 2 600
  refine e_astore_n (lv' := [(2, rV r8), (1, rV r3), (0, rV (some 16))]) dX11_keepReadText_29 rfl (by decide) rfl ?_
  refine e_aload_n dX11_keepReadText_30 rfl rfl ?_
  obtain ⟨o9, h⟩ := h
  refine e_gA flX11_46 rfl rfl o9 dX11_keepReadText_31 ?_
  obtain ⟨o10, h⟩ := h
  refine e_gA flX11_378 rfl rfl o10 dX11_keepReadText_34 ?_
  refine e_aload_n dX11_keepReadText_37 rfl rfl ?_
  obtain ⟨o11, h⟩ := h
  refine e_gA flX11_46 rfl rfl o11 dX11_keepReadText_38 ?_
  refine e_gI flX11_381 rfl rfl dX11_keepReadText_41 ?_
  refine e_callS (As := [rV (some 25), iV (mI M7 23 5)]) (st := []) mt_J7_copyOf_59c91 is_J7_copyOf_59c91 lkX11_375 ⟨by decide, by decide⟩ (Nat.le_of_ble_eq_true rfl) ⟨by decide, by decide⟩ rfl rfl dX11_keepReadText_44 (Ctr.mono h (fun v M12 h => ?_))
  obtain ⟨r13, rfl, h⟩ := h
  show E_X11_keepReadText l q 47 [(2, rV r8), (1, rV r3), (0, rV (some 16))] [rV r13] M12 3 900
  refine e_astore_n (lv' := [(3, rV r13), (2, rV r8), (1, rV r3), (0, rV (some 16))]) dX11_keepReadText_47 rfl (by decide) rfl ?_
  refine e_aload_n dX11_keepReadText_48 rfl rfl ?_
  obtain ⟨o14, h⟩ := h
  refine e_gA flX11_29 rfl rfl o14 dX11_keepReadText_49 ?_
  refine e_aload_n dX11_keepReadText_52 rfl rfl ?_
  refine e_gI flX11_88 rfl rfl dX11_keepReadText_53 ?_
  obtain ⟨b15, o16, o17, h⟩ := h
  refine e_new o16 o17 rfl rfl iT7 tyX7_ok (by decide) clX11_27 itX7 izX7 (by decide) (by decide) dX11_keepReadText_56 ?_
  refine e_dup rfl dX11_keepReadText_59 ?_
  refine e_aload_n dX11_keepReadText_60 rfl rfl ?_
  refine e_aload_n dX11_keepReadText_61 rfl rfl ?_
  refine e_aload_n dX11_keepReadText_62 rfl rfl ?_
  refine e_callI (As := [rV r3, rV r8, rV r13]) (st := [rV (some b15), iV (mI M12 16 14), rV (some 20)]) mt_X7_init rfl ii_X7_init lkX11_384 ⟨by decide, by decide⟩ (Nat.le_of_ble_eq_true rfl) ⟨by decide, by decide⟩ rfl rfl dX11_keepReadText_63 (Ctr.mono h (fun v M18 h => ?_))
  obtain ⟨rfl, h⟩ := h
  show E_X11_keepReadText l q 66 [(3, rV r13), (2, rV r8), (1, rV r3), (0, rV (some 16))] [rV (some b15), iV (mI M12 16 14), rV (some 20)] M18 4 906
  obtain ⟨o19, h⟩ := h
  refine e_aast (r := (RX7, TX7, 6)) rfl o17 rfl o19 dX11_keepReadText_66 ?_
  refine e_aload_n dX11_keepReadText_67 rfl rfl ?_
  refine e_dup rfl dX11_keepReadText_68 ?_
  refine e_gI flX11_88 rfl rfl dX11_keepReadText_69 ?_
  refine e_iconst (v := 1) dX11_keepReadText_72 (by decide) ?_
  refine e_iadd dX11_keepReadText_73 ?_
  refine e_pI flX11_88 rfl (Or.inl rfl) rfl rfl rfl dX11_keepReadText_74 ?_
  exact e_ret rfl dX11_keepReadText_77 ⟨rfl, h⟩
abbrev H_X11_learn_10 (l : Launch) (q : o_M → Prop) (a1 : Nat) (v2 : Int32) (v3 : Int32) (v4 : Int32) (v5 : Int32) (v6 : Int32) (M : o_M) : Prop := E_X11_learn l q 10 [(0, rV (some 16)), (1, rV (some a1)), (2, iV v2), (3, iV v3), (4, iV v4), (5, iV v5), (6, iV v6)] [] M 0 0
theorem w_X11_learn (l : Launch) (a1 : Nat) (p2 : Int32) (p3 : Int32) (t1 : o_ty a1 = .inl 6) (M : o_M) (q : o_M → Prop) (h : H_X11_learn_10 l q a1 p2 p3 0 99 0 M) : K_X11_learn l [rV (some 16), rV (some a1), iV p2, iV p3] M q := by
  refine o_ctr (ini := false) (by decide +kernel) rfl (fun z => by cases z) (Nat.le_of_ble_eq_true rfl) ?_
  show E_X11_learn l q 0 [(0, rV (some 16)), (1, rV (some a1)), (2, iV p2), (3, iV p3)] [] M 0 0
  refine e_iconst (v := 0) dX11_learn_0 (by decide) ?_
  refine e_istore (lv' := [(4, iV 0), (0, rV (some 16)), (1, rV (some a1)), (2, iV p2), (3, iV p3)]) (by decide) rfl dX11_learn_1 ?_
  refine e_bipush (v := 99) dX11_learn_3 (by decide) ?_
  refine e_istore (lv' := [(5, iV 99), (4, iV 0), (0, rV (some 16)), (1, rV (some a1)), (2, iV p2), (3, iV p3)]) (by decide) rfl dX11_learn_5 ?_
  refine e_iconst (v := 0) dX11_learn_7 (by decide) ?_
  refine e_istore (lv' := [(6, iV 0), (5, iV 99), (4, iV 0), (0, rV (some 16)), (1, rV (some a1)), (2, iV p2), (3, iV p3)]) (by decide) rfl dX11_learn_8 ?_
  exact e_lv (List.forall_mem_cons.mpr ⟨rfl, List.forall_mem_cons.mpr ⟨rfl, List.forall_mem_cons.mpr ⟨rfl, List.forall_mem_cons.mpr ⟨rfl, List.forall_mem_cons.mpr ⟨rfl, List.forall_mem_cons.mpr ⟨rfl, List.forall_mem_cons.mpr ⟨rfl, fun _ h => absurd h List.not_mem_nil⟩⟩⟩⟩⟩⟩⟩) h
theorem w_X11_learn_10 (l : Launch) (q : o_M → Prop) (a1 : Nat) (t1 : o_ty a1 = .inl 6) (v2 : Int32) (v3 : Int32) (v4 : Int32) (v5 : Int32) (v6 : Int32) (M : o_M) (h : (((mI M 16 13) ≤ v6 → (mR M 16 7 = some 26 ∧ K_X4_learnService l [rV (some 26), rV (some a1)] M (fun M3 => (mR M3 16 7 = some 26 ∧ (mR M3 16 1 = some 18 ∧ (vp_in v2 (mN M3 18) ∧ (∃ b7, mR M3 18 v2.toNatClampNeg = some b7 ∧ o_ty b7 = .inl 2 ∧ K_X4_learnPlayer l [rV (some 26), rV (some b7), iV v3] M3 (fun M10 => (mR M10 16 7 = some 26 ∧ K_X4_learnSittings l [rV (some 26), iV v4, iV v5] M10 (fun M12 => q M12)))))))))) ∧ (¬ (mI M 16 13) ≤ v6 → (mR M 16 2 = some 19 ∧ (vp_in v6 (mN M 19) ∧ (∃ b15, mR M 19 v6.toNatClampNeg = some b15 ∧ o_ty b15 = .inl 6 ∧ ((b15 = a1 → H_X11_learn_10 l q a1 v2 v3 v4 v5 (v6 + 1) M) ∧ (¬ b15 = a1 → K_X6_sits l [rV (some b15), iV v2] M (fun r20 M19 => ((¬ r20 = 0 → ((¬ ((mI M19 b15 1) / 7) = ((mI M19 a1 1) / 7) → K_X6_ends l [rV (some b15)] M19 (fun r24 M23 => K_X6_begins l [rV (some a1)] M23 (fun r26 M25 => ((r26 < r24 → H_X11_learn_10 l q a1 v2 v3 v4 v5 (v6 + 1) M25) ∧ (¬ r26 < r24 → K_X6_begins l [rV (some a1)] M25 (fun r29 M28 => K_X6_ends l [rV (some b15)] M28 (fun r31 M30 => K_J9_min_7cf53 l [iV v5, iV (r29 - r31)] M30 (fun r33 M32 => H_X11_learn_10 l q a1 v2 v3 v4 r33 (v6 + 1) M32)))))))) ∧ (((mI M19 b15 1) / 7) = ((mI M19 a1 1) / 7) → K_X6_ends l [rV (some b15)] M19 (fun r35 M34 => K_X6_begins l [rV (some a1)] M34 (fun r37 M36 => ((r37 < r35 → H_X11_learn_10 l q a1 v2 v3 (v4 + (mI M19 b15 3)) v5 (v6 + 1) M36) ∧ (¬ r37 < r35 → K_X6_begins l [rV (some a1)] M36 (fun r40 M39 => K_X6_ends l [rV (some b15)] M39 (fun r42 M41 => K_J9_min_7cf53 l [iV v5, iV (r40 - r42)] M41 (fun r44 M43 => H_X11_learn_10 l q a1 v2 v3 (v4 + (mI M19 b15 3)) r44 (v6 + 1) M43)))))))))) ∧ (r20 = 0 → H_X11_learn_10 l q a1 v2 v3 v4 v5 (v6 + 1) M19))))))))))) : H_X11_learn_10 l q a1 v2 v3 v4 v5 v6 M := by
  refine e_iload rfl dX11_learn_10 ?_
  refine e_aload_n dX11_learn_12 rfl rfl ?_
  refine e_gI flX11_85 rfl rfl dX11_learn_13 ?_
  refine e_ic_ge (tgt := 109) dX11_learn_16 (by decide) (fun c1 => ?_) (fun c1 => ?_)
  · replace h := h.1 c1
    refine e_aload_n dX11_learn_109 rfl rfl ?_
    obtain ⟨o2, h⟩ := h
    refine e_gA flX11_53 rfl rfl o2 dX11_learn_110 ?_
    refine e_aload_n dX11_learn_113 rfl rfl ?_
    refine e_callV (As := [rV (some a1)]) (st := []) mt_X4_learnService in_X4_learnService lkX11_401 rfl rfl ⟨by decide, by decide⟩ (Nat.le_of_ble_eq_true rfl) ⟨by decide, by decide⟩ rfl rfl dX11_learn_114 (Ctr.mono h (fun v M3 h => ?_))
    obtain ⟨rfl, h⟩ := h
    show E_X11_learn l q 117 [(0, rV (some 16)), (1, rV (some a1)), (2, iV v2), (3, iV v3), (4, iV v4), (5, iV v5), (6, iV v6)] [] M3 0 0
    refine e_aload_n dX11_learn_117 rfl rfl ?_
    obtain ⟨o4, h⟩ := h
    refine e_gA flX11_53 rfl rfl o4 dX11_learn_118 ?_
    refine e_aload_n dX11_learn_121 rfl rfl ?_
    obtain ⟨o5, h⟩ := h
    refine e_gA flX11_17 rfl rfl o5 dX11_learn_122 ?_
    refine e_iload_n dX11_learn_125 rfl rfl ?_
    obtain ⟨o6, h⟩ := h
    obtain ⟨b7, o8, o9, h⟩ := h
    refine e_aaldS rfl o6 o8 dX11_learn_126 ?_
    refine e_iload_n dX11_learn_127 rfl rfl ?_
    refine e_callV (As := [rV (some b7), iV v3]) (st := []) mt_X4_learnPlayer in_X4_learnPlayer lkX11_404 rfl rfl ⟨by decide, by decide⟩ (Nat.le_of_ble_eq_true rfl) ⟨by decide, by decide⟩ rfl rfl dX11_learn_128 (Ctr.mono h (fun v M10 h => ?_))
    obtain ⟨rfl, h⟩ := h
    show E_X11_learn l q 131 [(0, rV (some 16)), (1, rV (some a1)), (2, iV v2), (3, iV v3), (4, iV v4), (5, iV v5), (6, iV v6)] [] M10 0 0
    refine e_aload_n dX11_learn_131 rfl rfl ?_
    obtain ⟨o11, h⟩ := h
    refine e_gA flX11_53 rfl rfl o11 dX11_learn_132 ?_
    refine e_iload rfl dX11_learn_135 ?_
    refine e_iload rfl dX11_learn_137 ?_
    refine e_callV (As := [iV v4, iV v5]) (st := []) mt_X4_learnSittings in_X4_learnSittings lkX11_408 rfl rfl ⟨by decide, by decide⟩ (Nat.le_of_ble_eq_true rfl) ⟨by decide, by decide⟩ rfl rfl dX11_learn_139 (Ctr.mono h (fun v M12 h => ?_))
    obtain ⟨rfl, h⟩ := h
    show E_X11_learn l q 142 [(0, rV (some 16)), (1, rV (some a1)), (2, iV v2), (3, iV v3), (4, iV v4), (5, iV v5), (6, iV v6)] [] M12 0 0
    exact e_ret rfl dX11_learn_142 ⟨rfl, h⟩
  · replace h := h.2 c1
    refine e_aload_n dX11_learn_19 rfl rfl ?_
    obtain ⟨o13, h⟩ := h
    refine e_gA flX11_23 rfl rfl o13 dX11_learn_20 ?_
    refine e_iload rfl dX11_learn_23 ?_
    obtain ⟨o14, h⟩ := h
    obtain ⟨b15, o16, o17, h⟩ := h
    refine e_aaldS rfl o14 o16 dX11_learn_25 ?_
    refine e_astore (lv' := [(7, rV (some b15)), (0, rV (some 16)), (1, rV (some a1)), (2, iV v2), (3, iV v3), (4, iV v4), (5, iV v5), (6, iV v6)]) (by decide) rfl dX11_learn_26 ?_
    refine e_aload rfl dX11_learn_28 ?_
    refine e_aload_n dX11_learn_30 rfl rfl ?_
    refine e_ac_eq (tgt := 103) (o_16o o17) (o_16o t1) dX11_learn_31 (by decide) (fun c18 => ?_) (fun c18 => ?_)
    · replace h := h.1 c18
      refine e_iinc (v := 1) (lv' := [(6, iV (v6 + 1)), (7, rV (some b15)), (0, rV (some 16)), (1, rV (some a1)), (2, iV v2), (3, iV v3), (4, iV v4), (5, iV v5)]) rfl (by decide) (by decide) rfl dX11_learn_103 ?_
      refine e_goto (tgt := 10) dX11_learn_106 (by decide) ?_
      exact e_lv (List.forall_mem_cons.mpr ⟨rfl, List.forall_mem_cons.mpr ⟨rfl, List.forall_mem_cons.mpr ⟨rfl, List.forall_mem_cons.mpr ⟨rfl, List.forall_mem_cons.mpr ⟨rfl, List.forall_mem_cons.mpr ⟨rfl, List.forall_mem_cons.mpr ⟨rfl, fun _ h => absurd h List.not_mem_nil⟩⟩⟩⟩⟩⟩⟩) h
    · replace h := h.2 c18
      refine e_aload rfl dX11_learn_34 ?_
      refine e_iload_n dX11_learn_36 rfl rfl ?_
      refine e_callV (As := [iV v2]) (st := []) mt_X6_sits in_X6_sits lkX11_360 rfl o17 ⟨by decide, by decide⟩ (Nat.le_of_ble_eq_true rfl) ⟨by decide, by decide⟩ rfl rfl dX11_learn_37 (Ctr.mono h (fun v M19 h => ?_))
      obtain ⟨r20, rfl, h⟩ := h
      show E_X11_learn l q 40 [(7, rV (some b15)), (0, rV (some 16)), (1, rV (some a1)), (2, iV v2), (3, iV v3), (4, iV v4), (5, iV v5), (6, iV v6)] [iV r20] M19 0 0
      refine e_if_ne (tgt := 46) dX11_learn_40 (by decide) (fun c21 => ?_) (fun c21 => ?_)
      · replace h := h.1 c21
        refine e_aload rfl dX11_learn_46 ?_
        refine e_gI flX11_221 o17 rfl dX11_learn_48 ?_
        refine e_bipush (v := 7) dX11_learn_51 (by decide) ?_
        refine e_idiv dX11_learn_53 (by decide) ?_
        refine e_aload_n dX11_learn_54 rfl rfl ?_
        refine e_gI flX11_221 t1 rfl dX11_learn_55 ?_
        refine e_bipush (v := 7) dX11_learn_58 (by decide) ?_
        refine e_idiv dX11_learn_60 (by decide) ?_
        refine e_ic_ne (tgt := 74) dX11_learn_61 (by decide) (fun c22 => ?_) (fun c22 => ?_)
        · replace h := h.1 c22
          refine e_aload rfl dX11_learn_74 ?_
          refine e_callV (As := []) (st := []) mt_X6_ends in_X6_ends lkX11_393 rfl o17 ⟨by decide, by decide⟩ (Nat.le_of_ble_eq_true rfl) ⟨by decide, by decide⟩ rfl rfl dX11_learn_76 (Ctr.mono h (fun v M23 h => ?_))
          obtain ⟨r24, rfl, h⟩ := h
          show E_X11_learn l q 79 [(7, rV (some b15)), (0, rV (some 16)), (1, rV (some a1)), (2, iV v2), (3, iV v3), (4, iV v4), (5, iV v5), (6, iV v6)] [iV r24] M23 0 0
          refine e_aload_n dX11_learn_79 rfl rfl ?_
          refine e_callV (As := []) (st := [iV r24]) mt_X6_begins in_X6_begins lkX11_395 rfl t1 ⟨by decide, by decide⟩ (Nat.le_of_ble_eq_true rfl) ⟨by decide, by decide⟩ rfl rfl dX11_learn_80 (Ctr.mono h (fun v M25 h => ?_))
          obtain ⟨r26, rfl, h⟩ := h
          show E_X11_learn l q 83 [(7, rV (some b15)), (0, rV (some 16)), (1, rV (some a1)), (2, iV v2), (3, iV v3), (4, iV v4), (5, iV v5), (6, iV v6)] [iV r26, iV r24] M25 0 0
          refine e_ic_gt (tgt := 103) dX11_learn_83 (by decide) (fun c27 => ?_) (fun c27 => ?_)
          · replace h := h.1 c27
            refine e_iinc (v := 1) (lv' := [(6, iV (v6 + 1)), (7, rV (some b15)), (0, rV (some 16)), (1, rV (some a1)), (2, iV v2), (3, iV v3), (4, iV v4), (5, iV v5)]) rfl (by decide) (by decide) rfl dX11_learn_103 ?_
            refine e_goto (tgt := 10) dX11_learn_106 (by decide) ?_
            exact e_lv (List.forall_mem_cons.mpr ⟨rfl, List.forall_mem_cons.mpr ⟨rfl, List.forall_mem_cons.mpr ⟨rfl, List.forall_mem_cons.mpr ⟨rfl, List.forall_mem_cons.mpr ⟨rfl, List.forall_mem_cons.mpr ⟨rfl, List.forall_mem_cons.mpr ⟨rfl, fun _ h => absurd h List.not_mem_nil⟩⟩⟩⟩⟩⟩⟩) h
          · replace h := h.2 c27
            refine e_iload rfl dX11_learn_86 ?_
            refine e_aload_n dX11_learn_88 rfl rfl ?_
            refine e_callV (As := []) (st := [iV v5]) mt_X6_begins in_X6_begins lkX11_395 rfl t1 ⟨by decide, by decide⟩ (Nat.le_of_ble_eq_true rfl) ⟨by decide, by decide⟩ rfl rfl dX11_learn_89 (Ctr.mono h (fun v M28 h => ?_))
            obtain ⟨r29, rfl, h⟩ := h
            show E_X11_learn l q 92 [(7, rV (some b15)), (0, rV (some 16)), (1, rV (some a1)), (2, iV v2), (3, iV v3), (4, iV v4), (5, iV v5), (6, iV v6)] [iV r29, iV v5] M28 0 0
            refine e_aload rfl dX11_learn_92 ?_
            refine e_callV (As := []) (st := [iV r29, iV v5]) mt_X6_ends in_X6_ends lkX11_393 rfl o17 ⟨by decide, by decide⟩ (Nat.le_of_ble_eq_true rfl) ⟨by decide, by decide⟩ rfl rfl dX11_learn_94 (Ctr.mono h (fun v M30 h => ?_))
            obtain ⟨r31, rfl, h⟩ := h
            show E_X11_learn l q 97 [(7, rV (some b15)), (0, rV (some 16)), (1, rV (some a1)), (2, iV v2), (3, iV v3), (4, iV v4), (5, iV v5), (6, iV v6)] [iV r31, iV r29, iV v5] M30 0 0
            refine e_isub dX11_learn_97 ?_
            refine e_callS (As := [iV v5, iV (r29 - r31)]) (st := []) mt_J9_min_7cf53 is_J9_min_7cf53 lkX11_398 ⟨by decide, by decide⟩ (Nat.le_of_ble_eq_true rfl) ⟨by decide, by decide⟩ rfl rfl dX11_learn_98 (Ctr.mono h (fun v M32 h => ?_))
            obtain ⟨r33, rfl, h⟩ := h
            show E_X11_learn l q 101 [(7, rV (some b15)), (0, rV (some 16)), (1, rV (some a1)), (2, iV v2), (3, iV v3), (4, iV v4), (5, iV v5), (6, iV v6)] [iV r33] M32 0 0
            refine e_istore (lv' := [(5, iV r33), (7, rV (some b15)), (0, rV (some 16)), (1, rV (some a1)), (2, iV v2), (3, iV v3), (4, iV v4), (6, iV v6)]) (by decide) rfl dX11_learn_101 ?_
            refine e_iinc (v := 1) (lv' := [(6, iV (v6 + 1)), (5, iV r33), (7, rV (some b15)), (0, rV (some 16)), (1, rV (some a1)), (2, iV v2), (3, iV v3), (4, iV v4)]) rfl (by decide) (by decide) rfl dX11_learn_103 ?_
            refine e_goto (tgt := 10) dX11_learn_106 (by decide) ?_
            exact e_lv (List.forall_mem_cons.mpr ⟨rfl, List.forall_mem_cons.mpr ⟨rfl, List.forall_mem_cons.mpr ⟨rfl, List.forall_mem_cons.mpr ⟨rfl, List.forall_mem_cons.mpr ⟨rfl, List.forall_mem_cons.mpr ⟨rfl, List.forall_mem_cons.mpr ⟨rfl, fun _ h => absurd h List.not_mem_nil⟩⟩⟩⟩⟩⟩⟩) h
        · replace h := h.2 c22
          refine e_iload rfl dX11_learn_64 ?_
          refine e_aload rfl dX11_learn_66 ?_
          refine e_gI flX11_227 o17 rfl dX11_learn_68 ?_
          refine e_iadd dX11_learn_71 ?_
          refine e_istore (lv' := [(4, iV (v4 + (mI M19 b15 3))), (7, rV (some b15)), (0, rV (some 16)), (1, rV (some a1)), (2, iV v2), (3, iV v3), (5, iV v5), (6, iV v6)]) (by decide) rfl dX11_learn_72 ?_
          refine e_aload rfl dX11_learn_74 ?_
          refine e_callV (As := []) (st := []) mt_X6_ends in_X6_ends lkX11_393 rfl o17 ⟨by decide, by decide⟩ (Nat.le_of_ble_eq_true rfl) ⟨by decide, by decide⟩ rfl rfl dX11_learn_76 (Ctr.mono h (fun v M34 h => ?_))
          obtain ⟨r35, rfl, h⟩ := h
          show E_X11_learn l q 79 [(4, iV (v4 + (mI M19 b15 3))), (7, rV (some b15)), (0, rV (some 16)), (1, rV (some a1)), (2, iV v2), (3, iV v3), (5, iV v5), (6, iV v6)] [iV r35] M34 0 0
          refine e_aload_n dX11_learn_79 rfl rfl ?_
          refine e_callV (As := []) (st := [iV r35]) mt_X6_begins in_X6_begins lkX11_395 rfl t1 ⟨by decide, by decide⟩ (Nat.le_of_ble_eq_true rfl) ⟨by decide, by decide⟩ rfl rfl dX11_learn_80 (Ctr.mono h (fun v M36 h => ?_))
          obtain ⟨r37, rfl, h⟩ := h
          show E_X11_learn l q 83 [(4, iV (v4 + (mI M19 b15 3))), (7, rV (some b15)), (0, rV (some 16)), (1, rV (some a1)), (2, iV v2), (3, iV v3), (5, iV v5), (6, iV v6)] [iV r37, iV r35] M36 0 0
          refine e_ic_gt (tgt := 103) dX11_learn_83 (by decide) (fun c38 => ?_) (fun c38 => ?_)
          · replace h := h.1 c38
            refine e_iinc (v := 1) (lv' := [(6, iV (v6 + 1)), (4, iV (v4 + (mI M19 b15 3))), (7, rV (some b15)), (0, rV (some 16)), (1, rV (some a1)), (2, iV v2), (3, iV v3), (5, iV v5)]) rfl (by decide) (by decide) rfl dX11_learn_103 ?_
            refine e_goto (tgt := 10) dX11_learn_106 (by decide) ?_
            exact e_lv (List.forall_mem_cons.mpr ⟨rfl, List.forall_mem_cons.mpr ⟨rfl, List.forall_mem_cons.mpr ⟨rfl, List.forall_mem_cons.mpr ⟨rfl, List.forall_mem_cons.mpr ⟨rfl, List.forall_mem_cons.mpr ⟨rfl, List.forall_mem_cons.mpr ⟨rfl, fun _ h => absurd h List.not_mem_nil⟩⟩⟩⟩⟩⟩⟩) h
          · replace h := h.2 c38
            refine e_iload rfl dX11_learn_86 ?_
            refine e_aload_n dX11_learn_88 rfl rfl ?_
            refine e_callV (As := []) (st := [iV v5]) mt_X6_begins in_X6_begins lkX11_395 rfl t1 ⟨by decide, by decide⟩ (Nat.le_of_ble_eq_true rfl) ⟨by decide, by decide⟩ rfl rfl dX11_learn_89 (Ctr.mono h (fun v M39 h => ?_))
            obtain ⟨r40, rfl, h⟩ := h
            show E_X11_learn l q 92 [(4, iV (v4 + (mI M19 b15 3))), (7, rV (some b15)), (0, rV (some 16)), (1, rV (some a1)), (2, iV v2), (3, iV v3), (5, iV v5), (6, iV v6)] [iV r40, iV v5] M39 0 0
            refine e_aload rfl dX11_learn_92 ?_
            refine e_callV (As := []) (st := [iV r40, iV v5]) mt_X6_ends in_X6_ends lkX11_393 rfl o17 ⟨by decide, by decide⟩ (Nat.le_of_ble_eq_true rfl) ⟨by decide, by decide⟩ rfl rfl dX11_learn_94 (Ctr.mono h (fun v M41 h => ?_))
            obtain ⟨r42, rfl, h⟩ := h
            show E_X11_learn l q 97 [(4, iV (v4 + (mI M19 b15 3))), (7, rV (some b15)), (0, rV (some 16)), (1, rV (some a1)), (2, iV v2), (3, iV v3), (5, iV v5), (6, iV v6)] [iV r42, iV r40, iV v5] M41 0 0
            refine e_isub dX11_learn_97 ?_
            refine e_callS (As := [iV v5, iV (r40 - r42)]) (st := []) mt_J9_min_7cf53 is_J9_min_7cf53 lkX11_398 ⟨by decide, by decide⟩ (Nat.le_of_ble_eq_true rfl) ⟨by decide, by decide⟩ rfl rfl dX11_learn_98 (Ctr.mono h (fun v M43 h => ?_))
            obtain ⟨r44, rfl, h⟩ := h
            show E_X11_learn l q 101 [(4, iV (v4 + (mI M19 b15 3))), (7, rV (some b15)), (0, rV (some 16)), (1, rV (some a1)), (2, iV v2), (3, iV v3), (5, iV v5), (6, iV v6)] [iV r44] M43 0 0
            refine e_istore (lv' := [(5, iV r44), (4, iV (v4 + (mI M19 b15 3))), (7, rV (some b15)), (0, rV (some 16)), (1, rV (some a1)), (2, iV v2), (3, iV v3), (6, iV v6)]) (by decide) rfl dX11_learn_101 ?_
            refine e_iinc (v := 1) (lv' := [(6, iV (v6 + 1)), (5, iV r44), (4, iV (v4 + (mI M19 b15 3))), (7, rV (some b15)), (0, rV (some 16)), (1, rV (some a1)), (2, iV v2), (3, iV v3)]) rfl (by decide) (by decide) rfl dX11_learn_103 ?_
            refine e_goto (tgt := 10) dX11_learn_106 (by decide) ?_
            exact e_lv (List.forall_mem_cons.mpr ⟨rfl, List.forall_mem_cons.mpr ⟨rfl, List.forall_mem_cons.mpr ⟨rfl, List.forall_mem_cons.mpr ⟨rfl, List.forall_mem_cons.mpr ⟨rfl, List.forall_mem_cons.mpr ⟨rfl, List.forall_mem_cons.mpr ⟨rfl, fun _ h => absurd h List.not_mem_nil⟩⟩⟩⟩⟩⟩⟩) h
      · replace h := h.2 c21
        refine e_goto (tgt := 103) dX11_learn_43 (by decide) ?_
        refine e_iinc (v := 1) (lv' := [(6, iV (v6 + 1)), (7, rV (some b15)), (0, rV (some 16)), (1, rV (some a1)), (2, iV v2), (3, iV v3), (4, iV v4), (5, iV v5)]) rfl (by decide) (by decide) rfl dX11_learn_103 ?_
        refine e_goto (tgt := 10) dX11_learn_106 (by decide) ?_
        exact e_lv (List.forall_mem_cons.mpr ⟨rfl, List.forall_mem_cons.mpr ⟨rfl, List.forall_mem_cons.mpr ⟨rfl, List.forall_mem_cons.mpr ⟨rfl, List.forall_mem_cons.mpr ⟨rfl, List.forall_mem_cons.mpr ⟨rfl, List.forall_mem_cons.mpr ⟨rfl, fun _ h => absurd h List.not_mem_nil⟩⟩⟩⟩⟩⟩⟩) h
theorem w_X11_played (l : Launch) (p1 : Int32) (p2 : Int32) (M : o_M) (q : Int32 → o_M → Prop) (h : K_X11_findWork l [rV (some 16), iV p1] M (fun r2 M1 => ((r2 = none → q (-2) M1) ∧ (∀ b3, r2 = some b3 → o_ty b3 = .inl 10 ∧ K_X11_isDay l [iV p2] M1 (fun r7 M6 => ((¬ r7 = 0 → K_X10_canBePlayed l [rV (some b3), iV p2] M6 (fun r10 M9 => ((r10 = 0 → q 0 M9) ∧ (¬ r10 = 0 → q 1 M9)))) ∧ (r7 = 0 → q (-2) M6))))))) : K_X11_played l [rV (some 16), iV p1, iV p2] M q := by
  refine o_ctr (ini := false) (by decide +kernel) rfl (fun z => by cases z) (Nat.le_of_ble_eq_true rfl) ?_
  show E_X11_played l q 0 [(0, rV (some 16)), (1, iV p1), (2, iV p2)] [] M 0 0
  refine e_aload_n dX11_played_0 rfl rfl ?_
  refine e_iload_n dX11_played_1 rfl rfl ?_
  refine e_callV (As := [iV p1]) (st := []) mt_X11_findWork in_X11_findWork lkX11_131 rfl rfl ⟨by decide, by decide⟩ (Nat.le_of_ble_eq_true rfl) ⟨by decide, by decide⟩ rfl rfl dX11_played_2 (Ctr.mono h (fun v M1 h => ?_))
  obtain ⟨r2, rfl, h⟩ := h
  show E_X11_played l q 5 [(0, rV (some 16)), (1, iV p1), (2, iV p2)] [rV r2] M1 0 0
  refine e_astore_n (lv' := [(3, rV r2), (0, rV (some 16)), (1, iV p1), (2, iV p2)]) dX11_played_5 rfl (by decide) rfl ?_
  refine e_aload_n dX11_played_6 rfl rfl ?_
  refine e_ifnull (tgt := 17) dX11_played_7 (by decide) (fun c4 => ?_) (fun b3 c4 => ?_)
  · replace h := h.1 c4
    refine e_eq (lv' := [(3, rV none), (0, rV (some 16)), (1, iV p1), (2, iV p2)]) (st' := []) (by rw [c4]) (by first | rfl | rw [c4]) rfl ?_
    refine e_bipush (v := (-2)) dX11_played_17 (by decide) ?_
    exact e_iret rfl trivial dX11_played_19 ⟨_, rfl, h⟩
  · obtain ⟨t5, h⟩ := h.2 b3 c4
    refine e_eq (lv' := [(3, rV (some b3)), (0, rV (some 16)), (1, iV p1), (2, iV p2)]) (st' := []) (by rw [c4]) (by first | rfl | rw [c4]) rfl ?_
    refine e_iload_n dX11_played_10 rfl rfl ?_
    refine e_callS (As := [iV p2]) (st := []) mt_X11_isDay is_X11_isDay lkX11_167 ⟨by decide, by decide⟩ (Nat.le_of_ble_eq_true rfl) ⟨by decide, by decide⟩ rfl rfl dX11_played_11 (Ctr.mono h (fun v M6 h => ?_))
    obtain ⟨r7, rfl, h⟩ := h
    show E_X11_played l q 14 [(3, rV (some b3)), (0, rV (some 16)), (1, iV p1), (2, iV p2)] [iV r7] M6 0 0
    refine e_if_ne (tgt := 20) dX11_played_14 (by decide) (fun c8 => ?_) (fun c8 => ?_)
    · replace h := h.1 c8
      refine e_aload_n dX11_played_20 rfl rfl ?_
      refine e_iload_n dX11_played_21 rfl rfl ?_
      refine e_callV (As := [iV p2]) (st := []) mt_X10_canBePlayed in_X10_canBePlayed lkX11_202 rfl t5 ⟨by decide, by decide⟩ (Nat.le_of_ble_eq_true rfl) ⟨by decide, by decide⟩ rfl rfl dX11_played_22 (Ctr.mono h (fun v M9 h => ?_))
      obtain ⟨r10, rfl, h⟩ := h
      show E_X11_played l q 25 [(3, rV (some b3)), (0, rV (some 16)), (1, iV p1), (2, iV p2)] [iV r10] M9 0 0
      refine e_if_eq (tgt := 32) dX11_played_25 (by decide) (fun c11 => ?_) (fun c11 => ?_)
      · replace h := h.1 c11
        refine e_iconst (v := 0) dX11_played_32 (by decide) ?_
        exact e_iret rfl trivial dX11_played_33 ⟨_, rfl, h⟩
      · replace h := h.2 c11
        refine e_iconst (v := 1) dX11_played_28 (by decide) ?_
        refine e_goto (tgt := 33) dX11_played_29 (by decide) ?_
        exact e_iret rfl trivial dX11_played_33 ⟨_, rfl, h⟩
    · replace h := h.2 c8
      refine e_bipush (v := (-2)) dX11_played_17 (by decide) ?_
      exact e_iret rfl trivial dX11_played_19 ⟨_, rfl, h⟩
theorem w_X11_player (l : Launch) (p1 : Int32) (p2 : Int32) (p3 : Int32) (M : o_M) (q : Int32 → o_M → Prop) (h : K_X11_isInstrument l [iV p1] M (fun r2 M1 => ((r2 = 0 → q (-2) M1) ∧ (¬ r2 = 0 → K_X11_isWithin l [iV p2, iV 0, iV 63] M1 (fun r5 M4 => ((r5 = 0 → q (-2) M4) ∧ (¬ r5 = 0 → K_X11_isWithin l [iV p3, iV 1, iV 9] M4 (fun r8 M7 => ((¬ r8 = 0 → (((mI M7 16 12) < 10 → (mR M7 16 1 = some 18 ∧ (∃ b12, b12 ∉ mL M7 ∧ o_ty b12 = .inl 2 ∧ K_X2_init l [rV (some b12), iV p1, iV p2, iV p3] (nW M7 b12 0) (fun M15 => (vp_in (mI M7 16 12) (mN M15 18) ∧ q ((mI (sI (sR M15 18 ((mI M7 16 12).toNatClampNeg) (some b12)) 16 12 ((mI (sR M15 18 ((mI M7 16 12).toNatClampNeg) (some b12)) 16 12) + 1)) 16 12) - 1) (sI (sR M15 18 ((mI M7 16 12).toNatClampNeg) (some b12)) 16 12 ((mI (sR M15 18 ((mI M7 16 12).toNatClampNeg) (some b12)) 16 12) + 1))))))) ∧ (¬ (mI M7 16 12) < 10 → q (-4) M7))) ∧ (r8 = 0 → q (-2) M7)))))))))) : K_X11_player l [rV (some 16), iV p1, iV p2, iV p3] M q := by
  refine o_ctr (ini := false) (by decide +kernel) rfl (fun z => by cases z) (Nat.le_of_ble_eq_true rfl) ?_
  show E_X11_player l q 0 [(0, rV (some 16)), (1, iV p1), (2, iV p2), (3, iV p3)] [] M 0 0
  refine e_iload_n dX11_player_0 rfl rfl ?_
  refine e_callS (As := [iV p1]) (st := []) mt_X11_isInstrument is_X11_isInstrument lkX11_148 ⟨by decide, by decide⟩ (Nat.le_of_ble_eq_true rfl) ⟨by decide, by decide⟩ rfl rfl dX11_player_1 (Ctr.mono h (fun v M1 h => ?_))
  obtain ⟨r2, rfl, h⟩ := h
  show E_X11_player l q 4 [(0, rV (some 16)), (1, iV p1), (2, iV p2), (3, iV p3)] [iV r2] M1 0 0
  refine e_if_eq (tgt := 27) dX11_player_4 (by decide) (fun c3 => ?_) (fun c3 => ?_)
  · replace h := h.1 c3
    refine e_bipush (v := (-2)) dX11_player_27 (by decide) ?_
    refine e_widen (k' := 3) (n' := 18) (by decide) (by decide) ?_
    exact e_iret rfl trivial dX11_player_29 ⟨_, rfl, h⟩
  · replace h := h.2 c3
    refine e_iload_n dX11_player_7 rfl rfl ?_
    refine e_iconst (v := 0) dX11_player_8 (by decide) ?_
    refine e_bipush (v := 63) dX11_player_9 (by decide) ?_
    refine e_callS (As := [iV p2, iV 0, iV 63]) (st := []) mt_X11_isWithin is_X11_isWithin lkX11_124 ⟨by decide, by decide⟩ (Nat.le_of_ble_eq_true rfl) ⟨by decide, by decide⟩ rfl rfl dX11_player_11 (Ctr.mono h (fun v M4 h => ?_))
    obtain ⟨r5, rfl, h⟩ := h
    show E_X11_player l q 14 [(0, rV (some 16)), (1, iV p1), (2, iV p2), (3, iV p3)] [iV r5] M4 0 0
    refine e_if_eq (tgt := 27) dX11_player_14 (by decide) (fun c6 => ?_) (fun c6 => ?_)
    · replace h := h.1 c6
      refine e_bipush (v := (-2)) dX11_player_27 (by decide) ?_
      refine e_widen (k' := 3) (n' := 18) (by decide) (by decide) ?_
      exact e_iret rfl trivial dX11_player_29 ⟨_, rfl, h⟩
    · replace h := h.2 c6
      refine e_iload_n dX11_player_17 rfl rfl ?_
      refine e_iconst (v := 1) dX11_player_18 (by decide) ?_
      refine e_bipush (v := 9) dX11_player_19 (by decide) ?_
      refine e_callS (As := [iV p3, iV 1, iV 9]) (st := []) mt_X11_isWithin is_X11_isWithin lkX11_124 ⟨by decide, by decide⟩ (Nat.le_of_ble_eq_true rfl) ⟨by decide, by decide⟩ rfl rfl dX11_player_21 (Ctr.mono h (fun v M7 h => ?_))
      obtain ⟨r8, rfl, h⟩ := h
      show E_X11_player l q 24 [(0, rV (some 16)), (1, iV p1), (2, iV p2), (3, iV p3)] [iV r8] M7 0 0
      refine e_if_ne (tgt := 30) dX11_player_24 (by decide) (fun c9 => ?_) (fun c9 => ?_)
      · replace h := h.1 c9
        refine e_aload_n dX11_player_30 rfl rfl ?_
        refine e_gI flX11_82 rfl rfl dX11_player_31 ?_
        refine e_bipush (v := 10) dX11_player_34 (by decide) ?_
        refine e_ic_lt (tgt := 42) dX11_player_36 (by decide) (fun c10 => ?_) (fun c10 => ?_)
        · replace h := h.1 c10
          refine e_aload_n dX11_player_42 rfl rfl ?_
          obtain ⟨o11, h⟩ := h
          refine e_gA flX11_17 rfl rfl o11 dX11_player_43 ?_
          refine e_aload_n dX11_player_46 rfl rfl ?_
          refine e_gI flX11_82 rfl rfl dX11_player_47 ?_
          obtain ⟨b12, o13, o14, h⟩ := h
          refine e_new o13 o14 rfl rfl iT2 tyX2_ok (by decide) clX11_15 itX2 izX2 (by decide) (by decide) dX11_player_50 ?_
          refine e_dup rfl dX11_player_53 ?_
          refine e_iload_n dX11_player_54 rfl rfl ?_
          refine e_iload_n dX11_player_55 rfl rfl ?_
          refine e_iload_n dX11_player_56 rfl rfl ?_
          refine e_callI (As := [iV p1, iV p2, iV p3]) (st := [rV (some b12), iV (mI M7 16 12), rV (some 18)]) mt_X2_init rfl ii_X2_init lkX11_152 ⟨by decide, by decide⟩ (Nat.le_of_ble_eq_true rfl) ⟨by decide, by decide⟩ rfl rfl dX11_player_57 (Ctr.mono h (fun v M15 h => ?_))
          obtain ⟨rfl, h⟩ := h
          show E_X11_player l q 60 [(0, rV (some 16)), (1, iV p1), (2, iV p2), (3, iV p3)] [rV (some b12), iV (mI M7 16 12), rV (some 18)] M15 3 18
          obtain ⟨o16, h⟩ := h
          refine e_aast (r := (RX2, TX2, 6)) rfl o14 rfl o16 dX11_player_60 ?_
          refine e_aload_n dX11_player_61 rfl rfl ?_
          refine e_dup rfl dX11_player_62 ?_
          refine e_gI flX11_82 rfl rfl dX11_player_63 ?_
          refine e_iconst (v := 1) dX11_player_66 (by decide) ?_
          refine e_iadd dX11_player_67 ?_
          refine e_pI flX11_82 rfl (Or.inl rfl) rfl rfl rfl dX11_player_68 ?_
          refine e_aload_n dX11_player_71 rfl rfl ?_
          refine e_gI flX11_82 rfl rfl dX11_player_72 ?_
          refine e_iconst (v := 1) dX11_player_75 (by decide) ?_
          refine e_isub dX11_player_76 ?_
          exact e_iret rfl trivial dX11_player_77 ⟨_, rfl, h⟩
        · replace h := h.2 c10
          refine e_bipush (v := (-4)) dX11_player_39 (by decide) ?_
          refine e_widen (k' := 3) (n' := 18) (by decide) (by decide) ?_
          exact e_iret rfl trivial dX11_player_41 ⟨_, rfl, h⟩
      · replace h := h.2 c9
        refine e_bipush (v := (-2)) dX11_player_27 (by decide) ?_
        refine e_widen (k' := 3) (n' := 18) (by decide) (by decide) ?_
        exact e_iret rfl trivial dX11_player_29 ⟨_, rfl, h⟩
theorem w_X11_playerTold (l : Launch) (p1 : Int32) (p2 : Int32) (M : o_M) (q : Int32 → o_M → Prop) (h : K_X11_findPlayer l [rV (some 16), iV p1] M (fun r2 M1 => ((r2 = none → q (-2) M1) ∧ (∀ b3, r2 = some b3 → o_ty b3 = .inl 2 ∧ (((p2 < 0 ∨ 4 < p2) → q (-2) M1) ∧ (p2 = 0 → q (mI M1 b3 0) M1) ∧ (p2 = 1 → q (mI M1 b3 1) M1) ∧ (p2 = 2 → q (mI M1 b3 2) M1) ∧ (p2 = 3 → q (mI M1 b3 5) M1) ∧ (p2 = 4 → K_X11_countSittings l [rV (some 16), iV p1] M1 (fun r8 M7 => q r8 M7))))))) : K_X11_playerTold l [rV (some 16), iV p1, iV p2] M q := by
  refine o_ctr (ini := false) (by decide +kernel) rfl (fun z => by cases z) (Nat.le_of_ble_eq_true rfl) ?_
  show E_X11_playerTold l q 0 [(0, rV (some 16)), (1, iV p1), (2, iV p2)] [] M 0 0
  refine e_aload_n dX11_playerTold_0 rfl rfl ?_
  refine e_iload_n dX11_playerTold_1 rfl rfl ?_
  refine e_callV (As := [iV p1]) (st := []) mt_X11_findPlayer in_X11_findPlayer lkX11_153 rfl rfl ⟨by decide, by decide⟩ (Nat.le_of_ble_eq_true rfl) ⟨by decide, by decide⟩ rfl rfl dX11_playerTold_2 (Ctr.mono h (fun v M1 h => ?_))
  obtain ⟨r2, rfl, h⟩ := h
  show E_X11_playerTold l q 5 [(0, rV (some 16)), (1, iV p1), (2, iV p2)] [rV r2] M1 0 0
  refine e_astore_n (lv' := [(3, rV r2), (0, rV (some 16)), (1, iV p1), (2, iV p2)]) dX11_playerTold_5 rfl (by decide) rfl ?_
  refine e_aload_n dX11_playerTold_6 rfl rfl ?_
  refine e_ifnonnull (tgt := 13) dX11_playerTold_7 (by decide) (fun b3 c4 => ?_) (fun c4 => ?_)
  · obtain ⟨t5, h⟩ := h.2 b3 c4
    refine e_eq (lv' := [(3, rV (some b3)), (0, rV (some 16)), (1, iV p1), (2, iV p2)]) (st' := []) (by rw [c4]) (by first | rfl | rw [c4]) rfl ?_
    refine e_iload_n dX11_playerTold_13 rfl rfl ?_
    rcases o_tab p2 0 4 (a := 0) (b := 4) (by decide) (by decide) with c6 | c6
    · replace h := h.1 c6
      refine e_tabOut (tgt := 74) dX11_playerTold_14 (o_tabo (by decide) (by decide) c6) (by decide) ?_
      refine e_bipush (v := (-2)) dX11_playerTold_74 (by decide) ?_
      exact e_iret rfl trivial dX11_playerTold_76 ⟨_, rfl, h⟩
    · have h0 := h.2
      have e1 : p2.toInt = 0 ∨ p2.toInt = 1 ∨ p2.toInt = 2 ∨ p2.toInt = 3 ∨ p2.toInt = 4 := by omega
      clear h; rcases e1 with e1 | e1 | e1 | e1 | e1
      · have h := h0.1 (Int32.toInt_inj.mp e1)
        refine e_tabIn (tgt := 48) (off := 34) dX11_playerTold_14 (by rw [e1]; decide) (by rw [e1]; decide) (by rw [e1]; rfl) (by decide) ?_
        refine e_aload_n dX11_playerTold_48 rfl rfl ?_
        refine e_gI flX11_205 t5 rfl dX11_playerTold_49 ?_
        exact e_iret rfl trivial dX11_playerTold_52 ⟨_, rfl, h⟩
      · have h := h0.2.1 (Int32.toInt_inj.mp e1)
        refine e_tabIn (tgt := 53) (off := 39) dX11_playerTold_14 (by rw [e1]; decide) (by rw [e1]; decide) (by rw [e1]; rfl) (by decide) ?_
        refine e_aload_n dX11_playerTold_53 rfl rfl ?_
        refine e_gI flX11_208 t5 rfl dX11_playerTold_54 ?_
        exact e_iret rfl trivial dX11_playerTold_57 ⟨_, rfl, h⟩
      · have h := h0.2.2.1 (Int32.toInt_inj.mp e1)
        refine e_tabIn (tgt := 58) (off := 44) dX11_playerTold_14 (by rw [e1]; decide) (by rw [e1]; decide) (by rw [e1]; rfl) (by decide) ?_
        refine e_aload_n dX11_playerTold_58 rfl rfl ?_
        refine e_gI flX11_211 t5 rfl dX11_playerTold_59 ?_
        exact e_iret rfl trivial dX11_playerTold_62 ⟨_, rfl, h⟩
      · have h := h0.2.2.2.1 (Int32.toInt_inj.mp e1)
        refine e_tabIn (tgt := 63) (off := 49) dX11_playerTold_14 (by rw [e1]; decide) (by rw [e1]; decide) (by rw [e1]; rfl) (by decide) ?_
        refine e_aload_n dX11_playerTold_63 rfl rfl ?_
        refine e_gI flX11_157 t5 rfl dX11_playerTold_64 ?_
        exact e_iret rfl trivial dX11_playerTold_67 ⟨_, rfl, h⟩
      · have h := h0.2.2.2.2 (Int32.toInt_inj.mp e1)
        refine e_tabIn (tgt := 68) (off := 54) dX11_playerTold_14 (by rw [e1]; decide) (by rw [e1]; decide) (by rw [e1]; rfl) (by decide) ?_
        refine e_aload_n dX11_playerTold_68 rfl rfl ?_
        refine e_iload_n dX11_playerTold_69 rfl rfl ?_
        refine e_callV (As := [iV p1]) (st := []) mt_X11_countSittings in_X11_countSittings lkX11_214 rfl rfl ⟨by decide, by decide⟩ (Nat.le_of_ble_eq_true rfl) ⟨by decide, by decide⟩ rfl rfl dX11_playerTold_70 (Ctr.mono h (fun v M7 h => ?_))
        obtain ⟨r8, rfl, h⟩ := h
        show E_X11_playerTold l q 73 [(3, rV (some b3)), (0, rV (some 16)), (1, iV p1), (2, iV p2)] [iV r8] M7 0 0
        exact e_iret rfl trivial dX11_playerTold_73 ⟨_, rfl, h⟩
  · replace h := h.1 c4
    refine e_eq (lv' := [(3, rV none), (0, rV (some 16)), (1, iV p1), (2, iV p2)]) (st' := []) (by rw [c4]) (by first | rfl | rw [c4]) rfl ?_
    refine e_bipush (v := (-2)) dX11_playerTold_10 (by decide) ?_
    exact e_iret rfl trivial dX11_playerTold_12 ⟨_, rfl, h⟩
