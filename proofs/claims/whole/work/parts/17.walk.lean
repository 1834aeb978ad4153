/-! walks of methods (printed by program): X0_addPost X0_bitOf X10_needOf X11_countSeated X11_countSeatedGaps X11_findInForce X11_hostAnswers X11_hostRefuses X11_isWithin X11_status X11_tellForce X1_begin X1_swap X2_addLeave X2_plays X3_emit X3_fail X3_isBlank X3_isDigit X3_isLetter X4_join X4_learnPlayer X4_learnService X4_learnSittings X4_pop X4_push X5_countGaps X5_moveAlong X6_begins X6_hasWork X6_instrumentOf X6_isOfKind X6_sitDown X6_sits X6_standUp X0_addWork X0_begin X0_init X0_setOf X10_canBePlayed X10_init X11_count X11_countSittings X11_feed X11_findPlayer X11_findService X11_findWork X11_forgeCopy X11_isDay X11_isInstrument X11_price X11_putBytes -/
theorem dX0_addPost_0 : decode cX0_addPost 0 = .ok (.aload_n 0, 1) := by decide +kernel
theorem dX0_addPost_1 : decode cX0_addPost 1 = .ok (.getfield 9, 3) := by decide +kernel
theorem dX0_addPost_4 : decode cX0_addPost 4 = .ok (.iload_n 1, 1) := by decide +kernel
theorem dX0_addPost_5 : decode cX0_addPost 5 = .ok (.dup2, 1) := by decide +kernel
theorem dX0_addPost_6 : decode cX0_addPost 6 = .ok (.iaload, 1) := by decide +kernel
theorem dX0_addPost_7 : decode cX0_addPost 7 = .ok (.iconst 1, 1) := by decide +kernel
theorem dX0_addPost_8 : decode cX0_addPost 8 = .ok (.iadd, 1) := by decide +kernel
theorem dX0_addPost_9 : decode cX0_addPost 9 = .ok (.iastore, 1) := by decide +kernel
theorem dX0_addPost_10 : decode cX0_addPost 10 = .ok (.return_, 1) := by decide +kernel
theorem dX0_bitOf_0 : decode cX0_bitOf 0 = .ok (.iconst 1, 1) := by decide +kernel
theorem dX0_bitOf_1 : decode cX0_bitOf 1 = .ok (.bipush 11, 2) := by decide +kernel
theorem dX0_bitOf_3 : decode cX0_bitOf 3 = .ok (.iload_n 0, 1) := by decide +kernel
theorem dX0_bitOf_4 : decode cX0_bitOf 4 = .ok (.isub, 1) := by decide +kernel
theorem dX0_bitOf_5 : decode cX0_bitOf 5 = .ok (.ishl, 1) := by decide +kernel
theorem dX0_bitOf_6 : decode cX0_bitOf 6 = .ok (.ireturn, 1) := by decide +kernel
theorem dX10_needOf_0 : decode cX10_needOf 0 = .ok (.aload_n 0, 1) := by decide +kernel
theorem dX10_needOf_1 : decode cX10_needOf 1 = .ok (.getfield 27, 3) := by decide +kernel
theorem dX10_needOf_4 : decode cX10_needOf 4 = .ok (.iconst 2, 1) := by decide +kernel
theorem dX10_needOf_5 : decode cX10_needOf 5 = .ok (.iload_n 1, 1) := by decide +kernel
theorem dX10_needOf_6 : decode cX10_needOf 6 = .ok (.imul, 1) := by decide +kernel
theorem dX10_needOf_7 : decode cX10_needOf 7 = .ok (.ishr, 1) := by decide +kernel
theorem dX10_needOf_8 : decode cX10_needOf 8 = .ok (.iconst 3, 1) := by decide +kernel
theorem dX10_needOf_9 : decode cX10_needOf 9 = .ok (.iand, 1) := by decide +kernel
theorem dX10_needOf_10 : decode cX10_needOf 10 = .ok (.ireturn, 1) := by decide +kernel
theorem dX11_countSeated_0 : decode cX11_countSeated 0 = .ok (.iconst 0, 1) := by decide +kernel
theorem dX11_countSeated_1 : decode cX11_countSeated 1 = .ok (.istore_n 1, 1) := by decide +kernel
theorem dX11_countSeated_2 : decode cX11_countSeated 2 = .ok (.iconst 0, 1) := by decide +kernel
theorem dX11_countSeated_3 : decode cX11_countSeated 3 = .ok (.istore_n 2, 1) := by decide +kernel
theorem dX11_countSeated_4 : decode cX11_countSeated 4 = .ok (.iload_n 2, 1) := by decide +kernel
theorem dX11_countSeated_5 : decode cX11_countSeated 5 = .ok (.aload_n 0, 1) := by decide +kernel
theorem dX11_countSeated_6 : decode cX11_countSeated 6 = .ok (.getfield 85, 3) := by decide +kernel
theorem dX11_countSeated_9 : decode cX11_countSeated 9 = .ok (.if_icmp .ge 24, 3) := by decide +kernel
theorem dX11_countSeated_12 : decode cX11_countSeated 12 = .ok (.aload_n 0, 1) := by decide +kernel
theorem dX11_countSeated_13 : decode cX11_countSeated 13 = .ok (.getfield 23, 3) := by decide +kernel
theorem dX11_countSeated_16 : decode cX11_countSeated 16 = .ok (.iload_n 2, 1) := by decide +kernel
theorem dX11_countSeated_17 : decode cX11_countSeated 17 = .ok (.aaload, 1) := by decide +kernel
theorem dX11_countSeated_18 : decode cX11_countSeated 18 = .ok (.getfield 177, 3) := by decide +kernel
theorem dX11_countSeated_21 : decode cX11_countSeated 21 = .ok (.ifCond .eq 6, 3) := by decide +kernel
theorem dX11_countSeated_24 : decode cX11_countSeated 24 = .ok (.iinc 1 1, 3) := by decide +kernel
theorem dX11_countSeated_27 : decode cX11_countSeated 27 = .ok (.iinc 2 1, 3) := by decide +kernel
theorem dX11_countSeated_30 : decode cX11_countSeated 30 = .ok (.goto (-26), 3) := by decide +kernel
theorem dX11_countSeated_33 : decode cX11_countSeated 33 = .ok (.iload_n 1, 1) := by decide +kernel
theorem dX11_countSeated_34 : decode cX11_countSeated 34 = .ok (.ireturn, 1) := by decide +kernel
theorem dX11_countSeatedGaps_0 : decode cX11_countSeatedGaps 0 = .ok (.iconst 0, 1) := by decide +kernel
theorem dX11_countSeatedGaps_1 : decode cX11_countSeatedGaps 1 = .ok (.istore_n 1, 1) := by decide +kernel
theorem dX11_countSeatedGaps_2 : decode cX11_countSeatedGaps 2 = .ok (.iconst 0, 1) := by decide +kernel
theorem dX11_countSeatedGaps_3 : decode cX11_countSeatedGaps 3 = .ok (.istore_n 2, 1) := by decide +kernel
theorem dX11_countSeatedGaps_4 : decode cX11_countSeatedGaps 4 = .ok (.iload_n 2, 1) := by decide +kernel
theorem dX11_countSeatedGaps_5 : decode cX11_countSeatedGaps 5 = .ok (.aload_n 0, 1) := by decide +kernel
theorem dX11_countSeatedGaps_6 : decode cX11_countSeatedGaps 6 = .ok (.getfield 85, 3) := by decide +kernel
theorem dX11_countSeatedGaps_9 : decode cX11_countSeatedGaps 9 = .ok (.if_icmp .ge 33, 3) := by decide +kernel
theorem dX11_countSeatedGaps_12 : decode cX11_countSeatedGaps 12 = .ok (.aload_n 0, 1) := by decide +kernel
theorem dX11_countSeatedGaps_13 : decode cX11_countSeatedGaps 13 = .ok (.getfield 23, 3) := by decide +kernel
theorem dX11_countSeatedGaps_16 : decode cX11_countSeatedGaps 16 = .ok (.iload_n 2, 1) := by decide +kernel
theorem dX11_countSeatedGaps_17 : decode cX11_countSeatedGaps 17 = .ok (.aaload, 1) := by decide +kernel
theorem dX11_countSeatedGaps_18 : decode cX11_countSeatedGaps 18 = .ok (.getfield 177, 3) := by decide +kernel
theorem dX11_countSeatedGaps_21 : decode cX11_countSeatedGaps 21 = .ok (.ifCond .eq 15, 3) := by decide +kernel
theorem dX11_countSeatedGaps_24 : decode cX11_countSeatedGaps 24 = .ok (.iload_n 1, 1) := by decide +kernel
theorem dX11_countSeatedGaps_25 : decode cX11_countSeatedGaps 25 = .ok (.aload_n 0, 1) := by decide +kernel
theorem dX11_countSeatedGaps_26 : decode cX11_countSeatedGaps 26 = .ok (.getfield 23, 3) := by decide +kernel
theorem dX11_countSeatedGaps_29 : decode cX11_countSeatedGaps 29 = .ok (.iload_n 2, 1) := by decide +kernel
theorem dX11_countSeatedGaps_30 : decode cX11_countSeatedGaps 30 = .ok (.aaload, 1) := by decide +kernel
theorem dX11_countSeatedGaps_31 : decode cX11_countSeatedGaps 31 = .ok (.getfield 232, 3) := by decide +kernel
theorem dX11_countSeatedGaps_34 : decode cX11_countSeatedGaps 34 = .ok (.iadd, 1) := by decide +kernel
theorem dX11_countSeatedGaps_35 : decode cX11_countSeatedGaps 35 = .ok (.istore_n 1, 1) := by decide +kernel
theorem dX11_countSeatedGaps_36 : decode cX11_countSeatedGaps 36 = .ok (.iinc 2 1, 3) := by decide +kernel
theorem dX11_countSeatedGaps_39 : decode cX11_countSeatedGaps 39 = .ok (.goto (-35), 3) := by decide +kernel
theorem dX11_countSeatedGaps_42 : decode cX11_countSeatedGaps 42 = .ok (.iload_n 1, 1) := by decide +kernel
theorem dX11_countSeatedGaps_43 : decode cX11_countSeatedGaps 43 = .ok (.ireturn, 1) := by decide +kernel
theorem dX11_findInForce_0 : decode cX11_findInForce 0 = .ok (.iconst 0, 1) := by decide +kernel
theorem dX11_findInForce_1 : decode cX11_findInForce 1 = .ok (.istore_n 2, 1) := by decide +kernel
theorem dX11_findInForce_2 : decode cX11_findInForce 2 = .ok (.iconst 0, 1) := by decide +kernel
theorem dX11_findInForce_3 : decode cX11_findInForce 3 = .ok (.istore_n 3, 1) := by decide +kernel
theorem dX11_findInForce_4 : decode cX11_findInForce 4 = .ok (.iconst 0, 1) := by decide +kernel
theorem dX11_findInForce_5 : decode cX11_findInForce 5 = .ok (.istore 4, 2) := by decide +kernel
theorem dX11_findInForce_7 : decode cX11_findInForce 7 = .ok (.iload 4, 2) := by decide +kernel
theorem dX11_findInForce_9 : decode cX11_findInForce 9 = .ok (.aload_n 0, 1) := by decide +kernel
theorem dX11_findInForce_10 : decode cX11_findInForce 10 = .ok (.getfield 88, 3) := by decide +kernel
theorem dX11_findInForce_13 : decode cX11_findInForce 13 = .ok (.if_icmp .ge 45, 3) := by decide +kernel
theorem dX11_findInForce_16 : decode cX11_findInForce 16 = .ok (.aload_n 0, 1) := by decide +kernel
theorem dX11_findInForce_17 : decode cX11_findInForce 17 = .ok (.getfield 29, 3) := by decide +kernel
theorem dX11_findInForce_20 : decode cX11_findInForce 20 = .ok (.iload 4, 2) := by decide +kernel
theorem dX11_findInForce_22 : decode cX11_findInForce 22 = .ok (.aaload, 1) := by decide +kernel
theorem dX11_findInForce_23 : decode cX11_findInForce 23 = .ok (.astore 5, 2) := by decide +kernel
theorem dX11_findInForce_25 : decode cX11_findInForce 25 = .ok (.aload 5, 2) := by decide +kernel
theorem dX11_findInForce_27 : decode cX11_findInForce 27 = .ok (.getfield 390, 3) := by decide +kernel
theorem dX11_findInForce_30 : decode cX11_findInForce 30 = .ok (.iload_n 3, 1) := by decide +kernel
theorem dX11_findInForce_31 : decode cX11_findInForce 31 = .ok (.if_icmp .le 21, 3) := by decide +kernel
theorem dX11_findInForce_34 : decode cX11_findInForce 34 = .ok (.aload 5, 2) := by decide +kernel
theorem dX11_findInForce_36 : decode cX11_findInForce 36 = .ok (.getfield 387, 3) := by decide +kernel
theorem dX11_findInForce_39 : decode cX11_findInForce 39 = .ok (.iload_n 1, 1) := by decide +kernel
theorem dX11_findInForce_40 : decode cX11_findInForce 40 = .ok (.if_icmp .gt 12, 3) := by decide +kernel
theorem dX11_findInForce_43 : decode cX11_findInForce 43 = .ok (.iload 4, 2) := by decide +kernel
theorem dX11_findInForce_45 : decode cX11_findInForce 45 = .ok (.istore_n 2, 1) := by decide +kernel
theorem dX11_findInForce_46 : decode cX11_findInForce 46 = .ok (.aload 5, 2) := by decide +kernel
theorem dX11_findInForce_48 : decode cX11_findInForce 48 = .ok (.getfield 390, 3) := by decide +kernel
theorem dX11_findInForce_51 : decode cX11_findInForce 51 = .ok (.istore_n 3, 1) := by decide +kernel
theorem dX11_findInForce_52 : decode cX11_findInForce 52 = .ok (.iinc 4 1, 3) := by decide +kernel
theorem dX11_findInForce_55 : decode cX11_findInForce 55 = .ok (.goto (-48), 3) := by decide +kernel
theorem dX11_findInForce_58 : decode cX11_findInForce 58 = .ok (.iload_n 2, 1) := by decide +kernel
theorem dX11_findInForce_59 : decode cX11_findInForce 59 = .ok (.ireturn, 1) := by decide +kernel
theorem dX11_hostAnswers_0 : decode cX11_hostAnswers 0 = .ok (.aload_n 0, 1) := by decide +kernel
theorem dX11_hostAnswers_1 : decode cX11_hostAnswers 1 = .ok (.iconst 0, 1) := by decide +kernel
theorem dX11_hostAnswers_2 : decode cX11_hostAnswers 2 = .ok (.putfield 97, 3) := by decide +kernel
theorem dX11_hostAnswers_5 : decode cX11_hostAnswers 5 = .ok (.iload_n 1, 1) := by decide +kernel
theorem dX11_hostAnswers_6 : decode cX11_hostAnswers 6 = .ok (.ireturn, 1) := by decide +kernel
theorem dX11_hostRefuses_0 : decode cX11_hostRefuses 0 = .ok (.aload_n 0, 1) := by decide +kernel
theorem dX11_hostRefuses_1 : decode cX11_hostRefuses 1 = .ok (.iload_n 1, 1) := by decide +kernel
theorem dX11_hostRefuses_2 : decode cX11_hostRefuses 2 = .ok (.putfield 97, 3) := by decide +kernel
theorem dX11_hostRefuses_5 : decode cX11_hostRefuses 5 = .ok (.iconst (-1), 1) := by decide +kernel
theorem dX11_hostRefuses_6 : decode cX11_hostRefuses 6 = .ok (.ireturn, 1) := by decide +kernel
theorem dX11_isWithin_0 : decode cX11_isWithin 0 = .ok (.iload_n 0, 1) := by decide +kernel
theorem dX11_isWithin_1 : decode cX11_isWithin 1 = .ok (.iload_n 1, 1) := by decide +kernel
theorem dX11_isWithin_2 : decode cX11_isWithin 2 = .ok (.if_icmp .lt 12, 3) := by decide +kernel
theorem dX11_isWithin_5 : decode cX11_isWithin 5 = .ok (.iload_n 0, 1) := by decide +kernel
theorem dX11_isWithin_6 : decode cX11_isWithin 6 = .ok (.iload_n 2, 1) := by decide +kernel
theorem dX11_isWithin_7 : decode cX11_isWithin 7 = .ok (.if_icmp .gt 7, 3) := by decide +kernel
theorem dX11_isWithin_10 : decode cX11_isWithin 10 = .ok (.iconst 1, 1) := by decide +kernel
theorem dX11_isWithin_11 : decode cX11_isWithin 11 = .ok (.goto 4, 3) := by decide +kernel
theorem dX11_isWithin_14 : decode cX11_isWithin 14 = .ok (.iconst 0, 1) := by decide +kernel
theorem dX11_isWithin_15 : decode cX11_isWithin 15 = .ok (.ireturn, 1) := by decide +kernel
theorem dX11_status_0 : decode cX11_status 0 = .ok (.aload_n 0, 1) := by decide +kernel
theorem dX11_status_1 : decode cX11_status 1 = .ok (.getfield 97, 3) := by decide +kernel
theorem dX11_status_4 : decode cX11_status 4 = .ok (.ireturn, 1) := by decide +kernel
theorem dX11_tellForce_0 : decode cX11_tellForce 0 = .ok (.aload_n 0, 1) := by decide +kernel
theorem dX11_tellForce_1 : decode cX11_tellForce 1 = .ok (.dup, 1) := by decide +kernel
theorem dX11_tellForce_2 : decode cX11_tellForce 2 = .ok (.getfield 94, 3) := by decide +kernel
theorem dX11_tellForce_5 : decode cX11_tellForce 5 = .ok (.iconst 1, 1) := by decide +kernel
theorem dX11_tellForce_6 : decode cX11_tellForce 6 = .ok (.iadd, 1) := by decide +kernel
theorem dX11_tellForce_7 : decode cX11_tellForce 7 = .ok (.putfield 94, 3) := by decide +kernel
theorem dX11_tellForce_10 : decode cX11_tellForce 10 = .ok (.aload_n 0, 1) := by decide +kernel
theorem dX11_tellForce_11 : decode cX11_tellForce 11 = .ok (.getfield 29, 3) := by decide +kernel
theorem dX11_tellForce_14 : decode cX11_tellForce 14 = .ok (.iload_n 1, 1) := by decide +kernel
theorem dX11_tellForce_15 : decode cX11_tellForce 15 = .ok (.aaload, 1) := by decide +kernel
theorem dX11_tellForce_16 : decode cX11_tellForce 16 = .ok (.iload_n 2, 1) := by decide +kernel
theorem dX11_tellForce_17 : decode cX11_tellForce 17 = .ok (.putfield 387, 3) := by decide +kernel
theorem dX11_tellForce_20 : decode cX11_tellForce 20 = .ok (.aload_n 0, 1) := by decide +kernel
theorem dX11_tellForce_21 : decode cX11_tellForce 21 = .ok (.getfield 29, 3) := by decide +kernel
theorem dX11_tellForce_24 : decode cX11_tellForce 24 = .ok (.iload_n 1, 1) := by decide +kernel
theorem dX11_tellForce_25 : decode cX11_tellForce 25 = .ok (.aaload, 1) := by decide +kernel
theorem dX11_tellForce_26 : decode cX11_tellForce 26 = .ok (.aload_n 0, 1) := by decide +kernel
theorem dX11_tellForce_27 : decode cX11_tellForce 27 = .ok (.getfield 94, 3) := by decide +kernel
theorem dX11_tellForce_30 : decode cX11_tellForce 30 = .ok (.putfield 390, 3) := by decide +kernel
theorem dX11_tellForce_33 : decode cX11_tellForce 33 = .ok (.return_, 1) := by decide +kernel
theorem dX1_begin_0 : decode cX1_begin 0 = .ok (.aload_n 0, 1) := by decide +kernel
theorem dX1_begin_1 : decode cX1_begin 1 = .ok (.aload_n 1, 1) := by decide +kernel
theorem dX1_begin_2 : decode cX1_begin 2 = .ok (.getfield 44, 3) := by decide +kernel
theorem dX1_begin_5 : decode cX1_begin 5 = .ok (.putfield 18, 3) := by decide +kernel
theorem dX1_begin_8 : decode cX1_begin 8 = .ok (.iconst 0, 1) := by decide +kernel
theorem dX1_begin_9 : decode cX1_begin 9 = .ok (.istore_n 2, 1) := by decide +kernel
theorem dX1_begin_10 : decode cX1_begin 10 = .ok (.iload_n 2, 1) := by decide +kernel
theorem dX1_begin_11 : decode cX1_begin 11 = .ok (.aload_n 0, 1) := by decide +kernel
theorem dX1_begin_12 : decode cX1_begin 12 = .ok (.getfield 18, 3) := by decide +kernel
theorem dX1_begin_15 : decode cX1_begin 15 = .ok (.if_icmp .ge 76, 3) := by decide +kernel
theorem dX1_begin_18 : decode cX1_begin 18 = .ok (.iload_n 2, 1) := by decide +kernel
theorem dX1_begin_19 : decode cX1_begin 19 = .ok (.istore_n 3, 1) := by decide +kernel
theorem dX1_begin_20 : decode cX1_begin 20 = .ok (.iload_n 2, 1) := by decide +kernel
theorem dX1_begin_21 : decode cX1_begin 21 = .ok (.istore 4, 2) := by decide +kernel
theorem dX1_begin_23 : decode cX1_begin 23 = .ok (.iload 4, 2) := by decide +kernel
theorem dX1_begin_25 : decode cX1_begin 25 = .ok (.ifCond .le 48, 3) := by decide +kernel
theorem dX1_begin_28 : decode cX1_begin 28 = .ok (.aload_n 0, 1) := by decide +kernel
theorem dX1_begin_29 : decode cX1_begin 29 = .ok (.getfield 9, 3) := by decide +kernel
theorem dX1_begin_32 : decode cX1_begin 32 = .ok (.iload 4, 2) := by decide +kernel
theorem dX1_begin_34 : decode cX1_begin 34 = .ok (.iconst 1, 1) := by decide +kernel
theorem dX1_begin_35 : decode cX1_begin 35 = .ok (.isub, 1) := by decide +kernel
theorem dX1_begin_36 : decode cX1_begin 36 = .ok (.iaload, 1) := by decide +kernel
theorem dX1_begin_37 : decode cX1_begin 37 = .ok (.aload_n 1, 1) := by decide +kernel
theorem dX1_begin_38 : decode cX1_begin 38 = .ok (.getfield 49, 3) := by decide +kernel
theorem dX1_begin_41 : decode cX1_begin 41 = .ok (.iload_n 2, 1) := by decide +kernel
theorem dX1_begin_42 : decode cX1_begin 42 = .ok (.iaload, 1) := by decide +kernel
theorem dX1_begin_43 : decode cX1_begin 43 = .ok (.if_icmp .le 30, 3) := by decide +kernel
theorem dX1_begin_46 : decode cX1_begin 46 = .ok (.aload_n 0, 1) := by decide +kernel
theorem dX1_begin_47 : decode cX1_begin 47 = .ok (.getfield 9, 3) := by decide +kernel
theorem dX1_begin_50 : decode cX1_begin 50 = .ok (.iload 4, 2) := by decide +kernel
theorem dX1_begin_52 : decode cX1_begin 52 = .ok (.aload_n 0, 1) := by decide +kernel
theorem dX1_begin_53 : decode cX1_begin 53 = .ok (.getfield 9, 3) := by decide +kernel
theorem dX1_begin_56 : decode cX1_begin 56 = .ok (.iload 4, 2) := by decide +kernel
theorem dX1_begin_58 : decode cX1_begin 58 = .ok (.iconst 1, 1) := by decide +kernel
theorem dX1_begin_59 : decode cX1_begin 59 = .ok (.isub, 1) := by decide +kernel
theorem dX1_begin_60 : decode cX1_begin 60 = .ok (.iaload, 1) := by decide +kernel
theorem dX1_begin_61 : decode cX1_begin 61 = .ok (.iastore, 1) := by decide +kernel
theorem dX1_begin_62 : decode cX1_begin 62 = .ok (.iload 4, 2) := by decide +kernel
theorem dX1_begin_64 : decode cX1_begin 64 = .ok (.iconst 1, 1) := by decide +kernel
theorem dX1_begin_65 : decode cX1_begin 65 = .ok (.isub, 1) := by decide +kernel
theorem dX1_begin_66 : decode cX1_begin 66 = .ok (.istore_n 3, 1) := by decide +kernel
theorem dX1_begin_67 : decode cX1_begin 67 = .ok (.iinc 4 (-1), 3) := by decide +kernel
theorem dX1_begin_70 : decode cX1_begin 70 = .ok (.goto (-47), 3) := by decide +kernel
theorem dX1_begin_73 : decode cX1_begin 73 = .ok (.aload_n 0, 1) := by decide +kernel
theorem dX1_begin_74 : decode cX1_begin 74 = .ok (.getfield 9, 3) := by decide +kernel
theorem dX1_begin_77 : decode cX1_begin 77 = .ok (.iload_n 3, 1) := by decide +kernel
theorem dX1_begin_78 : decode cX1_begin 78 = .ok (.aload_n 1, 1) := by decide +kernel
theorem dX1_begin_79 : decode cX1_begin 79 = .ok (.getfield 49, 3) := by decide +kernel
theorem dX1_begin_82 : decode cX1_begin 82 = .ok (.iload_n 2, 1) := by decide +kernel
theorem dX1_begin_83 : decode cX1_begin 83 = .ok (.iaload, 1) := by decide +kernel
theorem dX1_begin_84 : decode cX1_begin 84 = .ok (.iastore, 1) := by decide +kernel
theorem dX1_begin_85 : decode cX1_begin 85 = .ok (.iinc 2 1, 3) := by decide +kernel
theorem dX1_begin_88 : decode cX1_begin 88 = .ok (.goto (-78), 3) := by decide +kernel
theorem dX1_begin_91 : decode cX1_begin 91 = .ok (.return_, 1) := by decide +kernel
theorem dX1_swap_0 : decode cX1_swap 0 = .ok (.aload_n 0, 1) := by decide +kernel
theorem dX1_swap_1 : decode cX1_swap 1 = .ok (.getfield 9, 3) := by decide +kernel
theorem dX1_swap_4 : decode cX1_swap 4 = .ok (.iload_n 1, 1) := by decide +kernel
theorem dX1_swap_5 : decode cX1_swap 5 = .ok (.iaload, 1) := by decide +kernel
theorem dX1_swap_6 : decode cX1_swap 6 = .ok (.istore_n 3, 1) := by decide +kernel
theorem dX1_swap_7 : decode cX1_swap 7 = .ok (.aload_n 0, 1) := by decide +kernel
theorem dX1_swap_8 : decode cX1_swap 8 = .ok (.getfield 9, 3) := by decide +kernel
theorem dX1_swap_11 : decode cX1_swap 11 = .ok (.iload_n 1, 1) := by decide +kernel
theorem dX1_swap_12 : decode cX1_swap 12 = .ok (.aload_n 0, 1) := by decide +kernel
theorem dX1_swap_13 : decode cX1_swap 13 = .ok (.getfield 9, 3) := by decide +kernel
theorem dX1_swap_16 : decode cX1_swap 16 = .ok (.iload_n 2, 1) := by decide +kernel
theorem dX1_swap_17 : decode cX1_swap 17 = .ok (.iaload, 1) := by decide +kernel
theorem dX1_swap_18 : decode cX1_swap 18 = .ok (.iastore, 1) := by decide +kernel
theorem dX1_swap_19 : decode cX1_swap 19 = .ok (.aload_n 0, 1) := by decide +kernel
theorem dX1_swap_20 : decode cX1_swap 20 = .ok (.getfield 9, 3) := by decide +kernel
theorem dX1_swap_23 : decode cX1_swap 23 = .ok (.iload_n 2, 1) := by decide +kernel
theorem dX1_swap_24 : decode cX1_swap 24 = .ok (.iload_n 3, 1) := by decide +kernel
theorem dX1_swap_25 : decode cX1_swap 25 = .ok (.iastore, 1) := by decide +kernel
theorem dX1_swap_26 : decode cX1_swap 26 = .ok (.return_, 1) := by decide +kernel
theorem dX2_addLeave_0 : decode cX2_addLeave 0 = .ok (.aload_n 0, 1) := by decide +kernel
theorem dX2_addLeave_1 : decode cX2_addLeave 1 = .ok (.getfield 18, 3) := by decide +kernel
theorem dX2_addLeave_4 : decode cX2_addLeave 4 = .ok (.bipush 6, 2) := by decide +kernel
theorem dX2_addLeave_6 : decode cX2_addLeave 6 = .ok (.if_icmp .ge 33, 3) := by decide +kernel
theorem dX2_addLeave_9 : decode cX2_addLeave 9 = .ok (.aload_n 0, 1) := by decide +kernel
theorem dX2_addLeave_10 : decode cX2_addLeave 10 = .ok (.getfield 9, 3) := by decide +kernel
theorem dX2_addLeave_13 : decode cX2_addLeave 13 = .ok (.aload_n 0, 1) := by decide +kernel
theorem dX2_addLeave_14 : decode cX2_addLeave 14 = .ok (.getfield 18, 3) := by decide +kernel
theorem dX2_addLeave_17 : decode cX2_addLeave 17 = .ok (.iload_n 1, 1) := by decide +kernel
theorem dX2_addLeave_18 : decode cX2_addLeave 18 = .ok (.iastore, 1) := by decide +kernel
theorem dX2_addLeave_19 : decode cX2_addLeave 19 = .ok (.aload_n 0, 1) := by decide +kernel
theorem dX2_addLeave_20 : decode cX2_addLeave 20 = .ok (.getfield 15, 3) := by decide +kernel
theorem dX2_addLeave_23 : decode cX2_addLeave 23 = .ok (.aload_n 0, 1) := by decide +kernel
theorem dX2_addLeave_24 : decode cX2_addLeave 24 = .ok (.getfield 18, 3) := by decide +kernel
theorem dX2_addLeave_27 : decode cX2_addLeave 27 = .ok (.iload_n 2, 1) := by decide +kernel
theorem dX2_addLeave_28 : decode cX2_addLeave 28 = .ok (.iastore, 1) := by decide +kernel
theorem dX2_addLeave_29 : decode cX2_addLeave 29 = .ok (.aload_n 0, 1) := by decide +kernel
theorem dX2_addLeave_30 : decode cX2_addLeave 30 = .ok (.dup, 1) := by decide +kernel
theorem dX2_addLeave_31 : decode cX2_addLeave 31 = .ok (.getfield 18, 3) := by decide +kernel
theorem dX2_addLeave_34 : decode cX2_addLeave 34 = .ok (.iconst 1, 1) := by decide +kernel
theorem dX2_addLeave_35 : decode cX2_addLeave 35 = .ok (.iadd, 1) := by decide +kernel
theorem dX2_addLeave_36 : decode cX2_addLeave 36 = .ok (.putfield 18, 3) := by decide +kernel
theorem dX2_addLeave_39 : decode cX2_addLeave 39 = .ok (.return_, 1) := by decide +kernel
theorem dX2_plays_0 : decode cX2_plays 0 = .ok (.iload_n 1, 1) := by decide +kernel
theorem dX2_plays_1 : decode cX2_plays 1 = .ok (.aload_n 0, 1) := by decide +kernel
theorem dX2_plays_2 : decode cX2_plays 2 = .ok (.getfield 22, 3) := by decide +kernel
theorem dX2_plays_5 : decode cX2_plays 5 = .ok (.if_icmp .eq 15, 3) := by decide +kernel
theorem dX2_plays_8 : decode cX2_plays 8 = .ok (.aload_n 0, 1) := by decide +kernel
theorem dX2_plays_9 : decode cX2_plays 9 = .ok (.getfield 25, 3) := by decide +kernel
theorem dX2_plays_12 : decode cX2_plays 12 = .ok (.iload_n 1, 1) := by decide +kernel
theorem dX2_plays_13 : decode cX2_plays 13 = .ok (.ishr, 1) := by decide +kernel
theorem dX2_plays_14 : decode cX2_plays 14 = .ok (.iconst 1, 1) := by decide +kernel
theorem dX2_plays_15 : decode cX2_plays 15 = .ok (.iand, 1) := by decide +kernel
theorem dX2_plays_16 : decode cX2_plays 16 = .ok (.iconst 1, 1) := by decide +kernel
theorem dX2_plays_17 : decode cX2_plays 17 = .ok (.if_icmp .ne 7, 3) := by decide +kernel
theorem dX2_plays_20 : decode cX2_plays 20 = .ok (.iconst 1, 1) := by decide +kernel
theorem dX2_plays_21 : decode cX2_plays 21 = .ok (.goto 4, 3) := by decide +kernel
theorem dX2_plays_24 : decode cX2_plays 24 = .ok (.iconst 0, 1) := by decide +kernel
theorem dX2_plays_25 : decode cX2_plays 25 = .ok (.ireturn, 1) := by decide +kernel
theorem dX3_emit_0 : decode cX3_emit 0 = .ok (.aload_n 0, 1) := by decide +kernel
theorem dX3_emit_1 : decode cX3_emit 1 = .ok (.getfield 26, 3) := by decide +kernel
theorem dX3_emit_4 : decode cX3_emit 4 = .ok (.aload_n 0, 1) := by decide +kernel
theorem dX3_emit_5 : decode cX3_emit 5 = .ok (.getfield 9, 3) := by decide +kernel
theorem dX3_emit_8 : decode cX3_emit 8 = .ok (.arraylength, 1) := by decide +kernel
theorem dX3_emit_9 : decode cX3_emit 9 = .ok (.if_icmp .ge 23, 3) := by decide +kernel
theorem dX3_emit_12 : decode cX3_emit 12 = .ok (.aload_n 0, 1) := by decide +kernel
theorem dX3_emit_13 : decode cX3_emit 13 = .ok (.getfield 9, 3) := by decide +kernel
theorem dX3_emit_16 : decode cX3_emit 16 = .ok (.aload_n 0, 1) := by decide +kernel
theorem dX3_emit_17 : decode cX3_emit 17 = .ok (.getfield 26, 3) := by decide +kernel
theorem dX3_emit_20 : decode cX3_emit 20 = .ok (.iload_n 1, 1) := by decide +kernel
theorem dX3_emit_21 : decode cX3_emit 21 = .ok (.iastore, 1) := by decide +kernel
theorem dX3_emit_22 : decode cX3_emit 22 = .ok (.aload_n 0, 1) := by decide +kernel
theorem dX3_emit_23 : decode cX3_emit 23 = .ok (.dup, 1) := by decide +kernel
theorem dX3_emit_24 : decode cX3_emit 24 = .ok (.getfield 26, 3) := by decide +kernel
theorem dX3_emit_27 : decode cX3_emit 27 = .ok (.iconst 1, 1) := by decide +kernel
theorem dX3_emit_28 : decode cX3_emit 28 = .ok (.iadd, 1) := by decide +kernel
theorem dX3_emit_29 : decode cX3_emit 29 = .ok (.putfield 26, 3) := by decide +kernel
theorem dX3_emit_32 : decode cX3_emit 32 = .ok (.return_, 1) := by decide +kernel
theorem dX3_fail_0 : decode cX3_fail 0 = .ok (.aload_n 0, 1) := by decide +kernel
theorem dX3_fail_1 : decode cX3_fail 1 = .ok (.getfield 49, 3) := by decide +kernel
theorem dX3_fail_4 : decode cX3_fail 4 = .ok (.iconst (-1), 1) := by decide +kernel
theorem dX3_fail_5 : decode cX3_fail 5 = .ok (.if_icmp .ne 11, 3) := by decide +kernel
theorem dX3_fail_8 : decode cX3_fail 8 = .ok (.aload_n 0, 1) := by decide +kernel
theorem dX3_fail_9 : decode cX3_fail 9 = .ok (.aload_n 0, 1) := by decide +kernel
theorem dX3_fail_10 : decode cX3_fail 10 = .ok (.getfield 40, 3) := by decide +kernel
theorem dX3_fail_13 : decode cX3_fail 13 = .ok (.putfield 49, 3) := by decide +kernel
theorem dX3_fail_16 : decode cX3_fail 16 = .ok (.aload_n 0, 1) := by decide +kernel
theorem dX3_fail_17 : decode cX3_fail 17 = .ok (.bipush 26, 2) := by decide +kernel
theorem dX3_fail_19 : decode cX3_fail 19 = .ok (.putfield 34, 3) := by decide +kernel
theorem dX3_fail_22 : decode cX3_fail 22 = .ok (.return_, 1) := by decide +kernel
theorem dX3_isBlank_0 : decode cX3_isBlank 0 = .ok (.iload_n 0, 1) := by decide +kernel
theorem dX3_isBlank_1 : decode cX3_isBlank 1 = .ok (.bipush 32, 2) := by decide +kernel
theorem dX3_isBlank_3 : decode cX3_isBlank 3 = .ok (.if_icmp .eq 9, 3) := by decide +kernel
theorem dX3_isBlank_6 : decode cX3_isBlank 6 = .ok (.iload_n 0, 1) := by decide +kernel
theorem dX3_isBlank_7 : decode cX3_isBlank 7 = .ok (.bipush 10, 2) := by decide +kernel
theorem dX3_isBlank_9 : decode cX3_isBlank 9 = .ok (.if_icmp .ne 7, 3) := by decide +kernel
theorem dX3_isBlank_12 : decode cX3_isBlank 12 = .ok (.iconst 1, 1) := by decide +kernel
theorem dX3_isBlank_13 : decode cX3_isBlank 13 = .ok (.goto 4, 3) := by decide +kernel
theorem dX3_isBlank_16 : decode cX3_isBlank 16 = .ok (.iconst 0, 1) := by decide +kernel
theorem dX3_isBlank_17 : decode cX3_isBlank 17 = .ok (.ireturn, 1) := by decide +kernel
theorem dX3_isDigit_0 : decode cX3_isDigit 0 = .ok (.iload_n 0, 1) := by decide +kernel
theorem dX3_isDigit_1 : decode cX3_isDigit 1 = .ok (.bipush 48, 2) := by decide +kernel
theorem dX3_isDigit_3 : decode cX3_isDigit 3 = .ok (.if_icmp .lt 13, 3) := by decide +kernel
theorem dX3_isDigit_6 : decode cX3_isDigit 6 = .ok (.iload_n 0, 1) := by decide +kernel
theorem dX3_isDigit_7 : decode cX3_isDigit 7 = .ok (.bipush 57, 2) := by decide +kernel
theorem dX3_isDigit_9 : decode cX3_isDigit 9 = .ok (.if_icmp .gt 7, 3) := by decide +kernel
theorem dX3_isDigit_12 : decode cX3_isDigit 12 = .ok (.iconst 1, 1) := by decide +kernel
theorem dX3_isDigit_13 : decode cX3_isDigit 13 = .ok (.goto 4, 3) := by decide +kernel
theorem dX3_isDigit_16 : decode cX3_isDigit 16 = .ok (.iconst 0, 1) := by decide +kernel
theorem dX3_isDigit_17 : decode cX3_isDigit 17 = .ok (.ireturn, 1) := by decide +kernel
theorem dX3_isLetter_0 : decode cX3_isLetter 0 = .ok (.iload_n 0, 1) := by decide +kernel
theorem dX3_isLetter_1 : decode cX3_isLetter 1 = .ok (.bipush 97, 2) := by decide +kernel
theorem dX3_isLetter_3 : decode cX3_isLetter 3 = .ok (.if_icmp .lt 13, 3) := by decide +kernel
theorem dX3_isLetter_6 : decode cX3_isLetter 6 = .ok (.iload_n 0, 1) := by decide +kernel
theorem dX3_isLetter_7 : decode cX3_isLetter 7 = .ok (.bipush 122, 2) := by decide +kernel
theorem dX3_isLetter_9 : decode cX3_isLetter 9 = .ok (.if_icmp .gt 7, 3) := by decide +kernel
theorem dX3_isLetter_12 : decode cX3_isLetter 12 = .ok (.iconst 1, 1) := by decide +kernel
theorem dX3_isLetter_13 : decode cX3_isLetter 13 = .ok (.goto 4, 3) := by decide +kernel
theorem dX3_isLetter_16 : decode cX3_isLetter 16 = .ok (.iconst 0, 1) := by decide +kernel
theorem dX3_isLetter_17 : decode cX3_isLetter 17 = .ok (.ireturn, 1) := by decide +kernel
theorem dX4_join_0 : decode cX4_join 0 = .ok (.iload_n 0, 1) := by decide +kernel
theorem dX4_join_1 : decode cX4_join 1 = .ok (.tableswitch 127 13 23 #[59, 77, 127, 127, 127, 127, 119, 123, 127, 95, 107], 59) := by decide +kernel
theorem dX4_join_60 : decode cX4_join 60 = .ok (.lload_n 1, 1) := by decide +kernel
theorem dX4_join_61 : decode cX4_join 61 = .ok (.lconst 0, 1) := by decide +kernel
theorem dX4_join_62 : decode cX4_join 62 = .ok (.lcmp, 1) := by decide +kernel
theorem dX4_join_63 : decode cX4_join 63 = .ok (.ifCond .ne 9, 3) := by decide +kernel
theorem dX4_join_66 : decode cX4_join 66 = .ok (.lload_n 3, 1) := by decide +kernel
theorem dX4_join_67 : decode cX4_join 67 = .ok (.lconst 0, 1) := by decide +kernel
theorem dX4_join_68 : decode cX4_join 68 = .ok (.lcmp, 1) := by decide +kernel
theorem dX4_join_69 : decode cX4_join 69 = .ok (.ifCond .eq 7, 3) := by decide +kernel
theorem dX4_join_72 : decode cX4_join 72 = .ok (.lconst 1, 1) := by decide +kernel
theorem dX4_join_73 : decode cX4_join 73 = .ok (.goto 4, 3) := by decide +kernel
theorem dX4_join_76 : decode cX4_join 76 = .ok (.lconst 0, 1) := by decide +kernel
theorem dX4_join_77 : decode cX4_join 77 = .ok (.lreturn, 1) := by decide +kernel
theorem dX4_join_78 : decode cX4_join 78 = .ok (.lload_n 1, 1) := by decide +kernel
theorem dX4_join_79 : decode cX4_join 79 = .ok (.lconst 0, 1) := by decide +kernel
theorem dX4_join_80 : decode cX4_join 80 = .ok (.lcmp, 1) := by decide +kernel
theorem dX4_join_81 : decode cX4_join 81 = .ok (.ifCond .eq 13, 3) := by decide +kernel
theorem dX4_join_84 : decode cX4_join 84 = .ok (.lload_n 3, 1) := by decide +kernel
theorem dX4_join_85 : decode cX4_join 85 = .ok (.lconst 0, 1) := by decide +kernel
theorem dX4_join_86 : decode cX4_join 86 = .ok (.lcmp, 1) := by decide +kernel
theorem dX4_join_87 : decode cX4_join 87 = .ok (.ifCond .eq 7, 3) := by decide +kernel
theorem dX4_join_90 : decode cX4_join 90 = .ok (.lconst 1, 1) := by decide +kernel
theorem dX4_join_91 : decode cX4_join 91 = .ok (.goto 4, 3) := by decide +kernel
theorem dX4_join_94 : decode cX4_join 94 = .ok (.lconst 0, 1) := by decide +kernel
theorem dX4_join_95 : decode cX4_join 95 = .ok (.lreturn, 1) := by decide +kernel
theorem dX4_join_96 : decode cX4_join 96 = .ok (.lload_n 1, 1) := by decide +kernel
theorem dX4_join_97 : decode cX4_join 97 = .ok (.lload_n 3, 1) := by decide +kernel
theorem dX4_join_98 : decode cX4_join 98 = .ok (.lcmp, 1) := by decide +kernel
theorem dX4_join_99 : decode cX4_join 99 = .ok (.ifCond .ge 7, 3) := by decide +kernel
theorem dX4_join_102 : decode cX4_join 102 = .ok (.lconst 1, 1) := by decide +kernel
theorem dX4_join_103 : decode cX4_join 103 = .ok (.goto 4, 3) := by decide +kernel
theorem dX4_join_106 : decode cX4_join 106 = .ok (.lconst 0, 1) := by decide +kernel
theorem dX4_join_107 : decode cX4_join 107 = .ok (.lreturn, 1) := by decide +kernel
theorem dX4_join_108 : decode cX4_join 108 = .ok (.lload_n 1, 1) := by decide +kernel
theorem dX4_join_109 : decode cX4_join 109 = .ok (.lload_n 3, 1) := by decide +kernel
theorem dX4_join_110 : decode cX4_join 110 = .ok (.lcmp, 1) := by decide +kernel
theorem dX4_join_111 : decode cX4_join 111 = .ok (.ifCond .ne 7, 3) := by decide +kernel
theorem dX4_join_114 : decode cX4_join 114 = .ok (.lconst 1, 1) := by decide +kernel
theorem dX4_join_115 : decode cX4_join 115 = .ok (.goto 4, 3) := by decide +kernel
theorem dX4_join_118 : decode cX4_join 118 = .ok (.lconst 0, 1) := by decide +kernel
theorem dX4_join_119 : decode cX4_join 119 = .ok (.lreturn, 1) := by decide +kernel
theorem dX4_join_120 : decode cX4_join 120 = .ok (.lload_n 1, 1) := by decide +kernel
theorem dX4_join_121 : decode cX4_join 121 = .ok (.lload_n 3, 1) := by decide +kernel
theorem dX4_join_122 : decode cX4_join 122 = .ok (.ladd, 1) := by decide +kernel
theorem dX4_join_123 : decode cX4_join 123 = .ok (.lreturn, 1) := by decide +kernel
theorem dX4_join_124 : decode cX4_join 124 = .ok (.lload_n 1, 1) := by decide +kernel
theorem dX4_join_125 : decode cX4_join 125 = .ok (.lload_n 3, 1) := by decide +kernel
theorem dX4_join_126 : decode cX4_join 126 = .ok (.lsub, 1) := by decide +kernel
theorem dX4_join_127 : decode cX4_join 127 = .ok (.lreturn, 1) := by decide +kernel
theorem dX4_join_128 : decode cX4_join 128 = .ok (.lload_n 1, 1) := by decide +kernel
theorem dX4_join_129 : decode cX4_join 129 = .ok (.lload_n 3, 1) := by decide +kernel
theorem dX4_join_130 : decode cX4_join 130 = .ok (.lmul, 1) := by decide +kernel
theorem dX4_join_131 : decode cX4_join 131 = .ok (.lreturn, 1) := by decide +kernel
theorem dX4_learnPlayer_0 : decode cX4_learnPlayer 0 = .ok (.aload_n 0, 1) := by decide +kernel
theorem dX4_learnPlayer_1 : decode cX4_learnPlayer 1 = .ok (.getfield 11, 3) := by decide +kernel
theorem dX4_learnPlayer_4 : decode cX4_learnPlayer 4 = .ok (.iconst 4, 1) := by decide +kernel
theorem dX4_learnPlayer_5 : decode cX4_learnPlayer 5 = .ok (.iload_n 2, 1) := by decide +kernel
theorem dX4_learnPlayer_6 : decode cX4_learnPlayer 6 = .ok (.i2l, 1) := by decide +kernel
theorem dX4_learnPlayer_7 : decode cX4_learnPlayer 7 = .ok (.lastore, 1) := by decide +kernel
theorem dX4_learnPlayer_8 : decode cX4_learnPlayer 8 = .ok (.aload_n 0, 1) := by decide +kernel
theorem dX4_learnPlayer_9 : decode cX4_learnPlayer 9 = .ok (.getfield 11, 3) := by decide +kernel
theorem dX4_learnPlayer_12 : decode cX4_learnPlayer 12 = .ok (.iconst 5, 1) := by decide +kernel
theorem dX4_learnPlayer_13 : decode cX4_learnPlayer 13 = .ok (.aload_n 1, 1) := by decide +kernel
theorem dX4_learnPlayer_14 : decode cX4_learnPlayer 14 = .ok (.getfield 38, 3) := by decide +kernel
theorem dX4_learnPlayer_17 : decode cX4_learnPlayer 17 = .ok (.i2l, 1) := by decide +kernel
theorem dX4_learnPlayer_18 : decode cX4_learnPlayer 18 = .ok (.lastore, 1) := by decide +kernel
theorem dX4_learnPlayer_19 : decode cX4_learnPlayer 19 = .ok (.aload_n 0, 1) := by decide +kernel
theorem dX4_learnPlayer_20 : decode cX4_learnPlayer 20 = .ok (.getfield 11, 3) := by decide +kernel
theorem dX4_learnPlayer_23 : decode cX4_learnPlayer 23 = .ok (.bipush 6, 2) := by decide +kernel
theorem dX4_learnPlayer_25 : decode cX4_learnPlayer 25 = .ok (.iload_n 2, 1) := by decide +kernel
theorem dX4_learnPlayer_26 : decode cX4_learnPlayer 26 = .ok (.aload_n 1, 1) := by decide +kernel
theorem dX4_learnPlayer_27 : decode cX4_learnPlayer 27 = .ok (.getfield 38, 3) := by decide +kernel
theorem dX4_learnPlayer_30 : decode cX4_learnPlayer 30 = .ok (.if_icmp .ne 7, 3) := by decide +kernel
theorem dX4_learnPlayer_33 : decode cX4_learnPlayer 33 = .ok (.lconst 0, 1) := by decide +kernel
theorem dX4_learnPlayer_34 : decode cX4_learnPlayer 34 = .ok (.goto 4, 3) := by decide +kernel
theorem dX4_learnPlayer_37 : decode cX4_learnPlayer 37 = .ok (.lconst 1, 1) := by decide +kernel
theorem dX4_learnPlayer_38 : decode cX4_learnPlayer 38 = .ok (.lastore, 1) := by decide +kernel
theorem dX4_learnPlayer_39 : decode cX4_learnPlayer 39 = .ok (.aload_n 0, 1) := by decide +kernel
theorem dX4_learnPlayer_40 : decode cX4_learnPlayer 40 = .ok (.getfield 11, 3) := by decide +kernel
theorem dX4_learnPlayer_43 : decode cX4_learnPlayer 43 = .ok (.bipush 7, 2) := by decide +kernel
theorem dX4_learnPlayer_45 : decode cX4_learnPlayer 45 = .ok (.aload_n 1, 1) := by decide +kernel
theorem dX4_learnPlayer_46 : decode cX4_learnPlayer 46 = .ok (.getfield 43, 3) := by decide +kernel
theorem dX4_learnPlayer_49 : decode cX4_learnPlayer 49 = .ok (.i2l, 1) := by decide +kernel
theorem dX4_learnPlayer_50 : decode cX4_learnPlayer 50 = .ok (.lastore, 1) := by decide +kernel
theorem dX4_learnPlayer_51 : decode cX4_learnPlayer 51 = .ok (.return_, 1) := by decide +kernel
theorem dX4_learnService_0 : decode cX4_learnService 0 = .ok (.aload_n 0, 1) := by decide +kernel
theorem dX4_learnService_1 : decode cX4_learnService 1 = .ok (.getfield 11, 3) := by decide +kernel
theorem dX4_learnService_4 : decode cX4_learnService 4 = .ok (.iconst 0, 1) := by decide +kernel
theorem dX4_learnService_5 : decode cX4_learnService 5 = .ok (.aload_n 1, 1) := by decide +kernel
theorem dX4_learnService_6 : decode cX4_learnService 6 = .ok (.getfield 24, 3) := by decide +kernel
theorem dX4_learnService_9 : decode cX4_learnService 9 = .ok (.i2l, 1) := by decide +kernel
theorem dX4_learnService_10 : decode cX4_learnService 10 = .ok (.lastore, 1) := by decide +kernel
theorem dX4_learnService_11 : decode cX4_learnService 11 = .ok (.aload_n 0, 1) := by decide +kernel
theorem dX4_learnService_12 : decode cX4_learnService 12 = .ok (.getfield 11, 3) := by decide +kernel
theorem dX4_learnService_15 : decode cX4_learnService 15 = .ok (.iconst 1, 1) := by decide +kernel
theorem dX4_learnService_16 : decode cX4_learnService 16 = .ok (.aload_n 1, 1) := by decide +kernel
theorem dX4_learnService_17 : decode cX4_learnService 17 = .ok (.getfield 29, 3) := by decide +kernel
theorem dX4_learnService_20 : decode cX4_learnService 20 = .ok (.bipush 7, 2) := by decide +kernel
theorem dX4_learnService_22 : decode cX4_learnService 22 = .ok (.irem, 1) := by decide +kernel
theorem dX4_learnService_23 : decode cX4_learnService 23 = .ok (.i2l, 1) := by decide +kernel
theorem dX4_learnService_24 : decode cX4_learnService 24 = .ok (.lastore, 1) := by decide +kernel
theorem dX4_learnService_25 : decode cX4_learnService 25 = .ok (.aload_n 0, 1) := by decide +kernel
theorem dX4_learnService_26 : decode cX4_learnService 26 = .ok (.getfield 11, 3) := by decide +kernel
theorem dX4_learnService_29 : decode cX4_learnService 29 = .ok (.iconst 2, 1) := by decide +kernel
theorem dX4_learnService_30 : decode cX4_learnService 30 = .ok (.aload_n 1, 1) := by decide +kernel
theorem dX4_learnService_31 : decode cX4_learnService 31 = .ok (.getfield 32, 3) := by decide +kernel
theorem dX4_learnService_34 : decode cX4_learnService 34 = .ok (.i2l, 1) := by decide +kernel
theorem dX4_learnService_35 : decode cX4_learnService 35 = .ok (.lastore, 1) := by decide +kernel
theorem dX4_learnService_36 : decode cX4_learnService 36 = .ok (.aload_n 0, 1) := by decide +kernel
theorem dX4_learnService_37 : decode cX4_learnService 37 = .ok (.getfield 11, 3) := by decide +kernel
theorem dX4_learnService_40 : decode cX4_learnService 40 = .ok (.iconst 3, 1) := by decide +kernel
theorem dX4_learnService_41 : decode cX4_learnService 41 = .ok (.aload_n 1, 1) := by decide +kernel
theorem dX4_learnService_42 : decode cX4_learnService 42 = .ok (.getfield 35, 3) := by decide +kernel
theorem dX4_learnService_45 : decode cX4_learnService 45 = .ok (.i2l, 1) := by decide +kernel
theorem dX4_learnService_46 : decode cX4_learnService 46 = .ok (.lastore, 1) := by decide +kernel
theorem dX4_learnService_47 : decode cX4_learnService 47 = .ok (.return_, 1) := by decide +kernel
theorem dX4_learnSittings_0 : decode cX4_learnSittings 0 = .ok (.aload_n 0, 1) := by decide +kernel
theorem dX4_learnSittings_1 : decode cX4_learnSittings 1 = .ok (.getfield 11, 3) := by decide +kernel
theorem dX4_learnSittings_4 : decode cX4_learnSittings 4 = .ok (.bipush 8, 2) := by decide +kernel
theorem dX4_learnSittings_6 : decode cX4_learnSittings 6 = .ok (.iload_n 1, 1) := by decide +kernel
theorem dX4_learnSittings_7 : decode cX4_learnSittings 7 = .ok (.i2l, 1) := by decide +kernel
theorem dX4_learnSittings_8 : decode cX4_learnSittings 8 = .ok (.lastore, 1) := by decide +kernel
theorem dX4_learnSittings_9 : decode cX4_learnSittings 9 = .ok (.aload_n 0, 1) := by decide +kernel
theorem dX4_learnSittings_10 : decode cX4_learnSittings 10 = .ok (.getfield 11, 3) := by decide +kernel
theorem dX4_learnSittings_13 : decode cX4_learnSittings 13 = .ok (.bipush 9, 2) := by decide +kernel
theorem dX4_learnSittings_15 : decode cX4_learnSittings 15 = .ok (.iload_n 2, 1) := by decide +kernel
theorem dX4_learnSittings_16 : decode cX4_learnSittings 16 = .ok (.i2l, 1) := by decide +kernel
theorem dX4_learnSittings_17 : decode cX4_learnSittings 17 = .ok (.lastore, 1) := by decide +kernel
theorem dX4_learnSittings_18 : decode cX4_learnSittings 18 = .ok (.return_, 1) := by decide +kernel
theorem dX4_pop_0 : decode cX4_pop 0 = .ok (.aload_n 0, 1) := by decide +kernel
theorem dX4_pop_1 : decode cX4_pop 1 = .ok (.getfield 20, 3) := by decide +kernel
theorem dX4_pop_4 : decode cX4_pop 4 = .ok (.ifCond .gt 5, 3) := by decide +kernel
theorem dX4_pop_7 : decode cX4_pop 7 = .ok (.lconst 0, 1) := by decide +kernel
theorem dX4_pop_8 : decode cX4_pop 8 = .ok (.lreturn, 1) := by decide +kernel
theorem dX4_pop_9 : decode cX4_pop 9 = .ok (.aload_n 0, 1) := by decide +kernel
theorem dX4_pop_10 : decode cX4_pop 10 = .ok (.dup, 1) := by decide +kernel
theorem dX4_pop_11 : decode cX4_pop 11 = .ok (.getfield 20, 3) := by decide +kernel
theorem dX4_pop_14 : decode cX4_pop 14 = .ok (.iconst 1, 1) := by decide +kernel
theorem dX4_pop_15 : decode cX4_pop 15 = .ok (.isub, 1) := by decide +kernel
theorem dX4_pop_16 : decode cX4_pop 16 = .ok (.putfield 20, 3) := by decide +kernel
theorem dX4_pop_19 : decode cX4_pop 19 = .ok (.aload_n 0, 1) := by decide +kernel
theorem dX4_pop_20 : decode cX4_pop 20 = .ok (.getfield 17, 3) := by decide +kernel
theorem dX4_pop_23 : decode cX4_pop 23 = .ok (.aload_n 0, 1) := by decide +kernel
theorem dX4_pop_24 : decode cX4_pop 24 = .ok (.getfield 20, 3) := by decide +kernel
theorem dX4_pop_27 : decode cX4_pop 27 = .ok (.laload, 1) := by decide +kernel
theorem dX4_pop_28 : decode cX4_pop 28 = .ok (.lreturn, 1) := by decide +kernel
theorem dX4_push_0 : decode cX4_push 0 = .ok (.aload_n 0, 1) := by decide +kernel
theorem dX4_push_1 : decode cX4_push 1 = .ok (.getfield 20, 3) := by decide +kernel
theorem dX4_push_4 : decode cX4_push 4 = .ok (.bipush 64, 2) := by decide +kernel
theorem dX4_push_6 : decode cX4_push 6 = .ok (.if_icmp .ge 23, 3) := by decide +kernel
theorem dX4_push_9 : decode cX4_push 9 = .ok (.aload_n 0, 1) := by decide +kernel
theorem dX4_push_10 : decode cX4_push 10 = .ok (.getfield 17, 3) := by decide +kernel
theorem dX4_push_13 : decode cX4_push 13 = .ok (.aload_n 0, 1) := by decide +kernel
theorem dX4_push_14 : decode cX4_push 14 = .ok (.getfield 20, 3) := by decide +kernel
theorem dX4_push_17 : decode cX4_push 17 = .ok (.lload_n 1, 1) := by decide +kernel
theorem dX4_push_18 : decode cX4_push 18 = .ok (.lastore, 1) := by decide +kernel
theorem dX4_push_19 : decode cX4_push 19 = .ok (.aload_n 0, 1) := by decide +kernel
theorem dX4_push_20 : decode cX4_push 20 = .ok (.dup, 1) := by decide +kernel
theorem dX4_push_21 : decode cX4_push 21 = .ok (.getfield 20, 3) := by decide +kernel
theorem dX4_push_24 : decode cX4_push 24 = .ok (.iconst 1, 1) := by decide +kernel
theorem dX4_push_25 : decode cX4_push 25 = .ok (.iadd, 1) := by decide +kernel
theorem dX4_push_26 : decode cX4_push 26 = .ok (.putfield 20, 3) := by decide +kernel
theorem dX4_push_29 : decode cX4_push 29 = .ok (.return_, 1) := by decide +kernel
theorem dX5_countGaps_0 : decode cX5_countGaps 0 = .ok (.iconst 0, 1) := by decide +kernel
theorem dX5_countGaps_1 : decode cX5_countGaps 1 = .ok (.istore_n 1, 1) := by decide +kernel
theorem dX5_countGaps_2 : decode cX5_countGaps 2 = .ok (.iconst 0, 1) := by decide +kernel
theorem dX5_countGaps_3 : decode cX5_countGaps 3 = .ok (.istore_n 2, 1) := by decide +kernel
theorem dX5_countGaps_4 : decode cX5_countGaps 4 = .ok (.iload_n 2, 1) := by decide +kernel
theorem dX5_countGaps_5 : decode cX5_countGaps 5 = .ok (.aload_n 0, 1) := by decide +kernel
theorem dX5_countGaps_6 : decode cX5_countGaps 6 = .ok (.getfield 27, 3) := by decide +kernel
theorem dX5_countGaps_9 : decode cX5_countGaps 9 = .ok (.if_icmp .ge 22, 3) := by decide +kernel
theorem dX5_countGaps_12 : decode cX5_countGaps 12 = .ok (.aload_n 0, 1) := by decide +kernel
theorem dX5_countGaps_13 : decode cX5_countGaps 13 = .ok (.getfield 15, 3) := by decide +kernel
theorem dX5_countGaps_16 : decode cX5_countGaps 16 = .ok (.iload_n 2, 1) := by decide +kernel
theorem dX5_countGaps_17 : decode cX5_countGaps 17 = .ok (.iaload, 1) := by decide +kernel
theorem dX5_countGaps_18 : decode cX5_countGaps 18 = .ok (.iconst (-1), 1) := by decide +kernel
theorem dX5_countGaps_19 : decode cX5_countGaps 19 = .ok (.if_icmp .ne 6, 3) := by decide +kernel
theorem dX5_countGaps_22 : decode cX5_countGaps 22 = .ok (.iinc 1 1, 3) := by decide +kernel
theorem dX5_countGaps_25 : decode cX5_countGaps 25 = .ok (.iinc 2 1, 3) := by decide +kernel
theorem dX5_countGaps_28 : decode cX5_countGaps 28 = .ok (.goto (-24), 3) := by decide +kernel
theorem dX5_countGaps_31 : decode cX5_countGaps 31 = .ok (.iload_n 1, 1) := by decide +kernel
theorem dX5_countGaps_32 : decode cX5_countGaps 32 = .ok (.ireturn, 1) := by decide +kernel
theorem dX5_moveAlong_0 : decode cX5_moveAlong 0 = .ok (.iload_n 1, 1) := by decide +kernel
theorem dX5_moveAlong_1 : decode cX5_moveAlong 1 = .ok (.istore_n 2, 1) := by decide +kernel
theorem dX5_moveAlong_2 : decode cX5_moveAlong 2 = .ok (.iconst 0, 1) := by decide +kernel
theorem dX5_moveAlong_3 : decode cX5_moveAlong 3 = .ok (.istore_n 3, 1) := by decide +kernel
theorem dX5_moveAlong_4 : decode cX5_moveAlong 4 = .ok (.iload_n 3, 1) := by decide +kernel
theorem dX5_moveAlong_5 : decode cX5_moveAlong 5 = .ok (.bipush 10, 2) := by decide +kernel
theorem dX5_moveAlong_7 : decode cX5_moveAlong 7 = .ok (.if_icmp .ge 50, 3) := by decide +kernel
theorem dX5_moveAlong_10 : decode cX5_moveAlong 10 = .ok (.iload_n 2, 1) := by decide +kernel
theorem dX5_moveAlong_11 : decode cX5_moveAlong 11 = .ok (.iconst (-1), 1) := by decide +kernel
theorem dX5_moveAlong_12 : decode cX5_moveAlong 12 = .ok (.if_icmp .eq 45, 3) := by decide +kernel
theorem dX5_moveAlong_15 : decode cX5_moveAlong 15 = .ok (.aload_n 0, 1) := by decide +kernel
theorem dX5_moveAlong_16 : decode cX5_moveAlong 16 = .ok (.getfield 24, 3) := by decide +kernel
theorem dX5_moveAlong_19 : decode cX5_moveAlong 19 = .ok (.iload_n 2, 1) := by decide +kernel
theorem dX5_moveAlong_20 : decode cX5_moveAlong 20 = .ok (.iaload, 1) := by decide +kernel
theorem dX5_moveAlong_21 : decode cX5_moveAlong 21 = .ok (.istore 4, 2) := by decide +kernel
theorem dX5_moveAlong_23 : decode cX5_moveAlong 23 = .ok (.aload_n 0, 1) := by decide +kernel
theorem dX5_moveAlong_24 : decode cX5_moveAlong 24 = .ok (.getfield 15, 3) := by decide +kernel
theorem dX5_moveAlong_27 : decode cX5_moveAlong 27 = .ok (.iload 4, 2) := by decide +kernel
theorem dX5_moveAlong_29 : decode cX5_moveAlong 29 = .ok (.iaload, 1) := by decide +kernel
theorem dX5_moveAlong_30 : decode cX5_moveAlong 30 = .ok (.istore 5, 2) := by decide +kernel
theorem dX5_moveAlong_32 : decode cX5_moveAlong 32 = .ok (.aload_n 0, 1) := by decide +kernel
theorem dX5_moveAlong_33 : decode cX5_moveAlong 33 = .ok (.getfield 15, 3) := by decide +kernel
theorem dX5_moveAlong_36 : decode cX5_moveAlong 36 = .ok (.iload 4, 2) := by decide +kernel
theorem dX5_moveAlong_38 : decode cX5_moveAlong 38 = .ok (.iload_n 2, 1) := by decide +kernel
theorem dX5_moveAlong_39 : decode cX5_moveAlong 39 = .ok (.iastore, 1) := by decide +kernel
theorem dX5_moveAlong_40 : decode cX5_moveAlong 40 = .ok (.aload_n 0, 1) := by decide +kernel
theorem dX5_moveAlong_41 : decode cX5_moveAlong 41 = .ok (.getfield 18, 3) := by decide +kernel
theorem dX5_moveAlong_44 : decode cX5_moveAlong 44 = .ok (.iload_n 2, 1) := by decide +kernel
theorem dX5_moveAlong_45 : decode cX5_moveAlong 45 = .ok (.iload 4, 2) := by decide +kernel
theorem dX5_moveAlong_47 : decode cX5_moveAlong 47 = .ok (.iastore, 1) := by decide +kernel
theorem dX5_moveAlong_48 : decode cX5_moveAlong 48 = .ok (.iload 5, 2) := by decide +kernel
theorem dX5_moveAlong_50 : decode cX5_moveAlong 50 = .ok (.istore_n 2, 1) := by decide +kernel
theorem dX5_moveAlong_51 : decode cX5_moveAlong 51 = .ok (.iinc 3 1, 3) := by decide +kernel
theorem dX5_moveAlong_54 : decode cX5_moveAlong 54 = .ok (.goto (-50), 3) := by decide +kernel
theorem dX5_moveAlong_57 : decode cX5_moveAlong 57 = .ok (.return_, 1) := by decide +kernel
theorem dX6_begins_0 : decode cX6_begins 0 = .ok (.bipush 24, 2) := by decide +kernel
theorem dX6_begins_2 : decode cX6_begins 2 = .ok (.aload_n 0, 1) := by decide +kernel
theorem dX6_begins_3 : decode cX6_begins 3 = .ok (.getfield 41, 3) := by decide +kernel
theorem dX6_begins_6 : decode cX6_begins 6 = .ok (.imul, 1) := by decide +kernel
theorem dX6_begins_7 : decode cX6_begins 7 = .ok (.aload_n 0, 1) := by decide +kernel
theorem dX6_begins_8 : decode cX6_begins 8 = .ok (.getfield 44, 3) := by decide +kernel
theorem dX6_begins_11 : decode cX6_begins 11 = .ok (.iadd, 1) := by decide +kernel
theorem dX6_begins_12 : decode cX6_begins 12 = .ok (.ireturn, 1) := by decide +kernel
theorem dX6_hasWork_0 : decode cX6_hasWork 0 = .ok (.iconst 0, 1) := by decide +kernel
theorem dX6_hasWork_1 : decode cX6_hasWork 1 = .ok (.istore_n 2, 1) := by decide +kernel
theorem dX6_hasWork_2 : decode cX6_hasWork 2 = .ok (.iload_n 2, 1) := by decide +kernel
theorem dX6_hasWork_3 : decode cX6_hasWork 3 = .ok (.aload_n 0, 1) := by decide +kernel
theorem dX6_hasWork_4 : decode cX6_hasWork 4 = .ok (.getfield 21, 3) := by decide +kernel
theorem dX6_hasWork_7 : decode cX6_hasWork 7 = .ok (.if_icmp .ge 21, 3) := by decide +kernel
theorem dX6_hasWork_10 : decode cX6_hasWork 10 = .ok (.aload_n 0, 1) := by decide +kernel
theorem dX6_hasWork_11 : decode cX6_hasWork 11 = .ok (.getfield 9, 3) := by decide +kernel
theorem dX6_hasWork_14 : decode cX6_hasWork 14 = .ok (.iload_n 2, 1) := by decide +kernel
theorem dX6_hasWork_15 : decode cX6_hasWork 15 = .ok (.iaload, 1) := by decide +kernel
theorem dX6_hasWork_16 : decode cX6_hasWork 16 = .ok (.iload_n 1, 1) := by decide +kernel
theorem dX6_hasWork_17 : decode cX6_hasWork 17 = .ok (.if_icmp .ne 5, 3) := by decide +kernel
theorem dX6_hasWork_20 : decode cX6_hasWork 20 = .ok (.iconst 1, 1) := by decide +kernel
theorem dX6_hasWork_21 : decode cX6_hasWork 21 = .ok (.ireturn, 1) := by decide +kernel
theorem dX6_hasWork_22 : decode cX6_hasWork 22 = .ok (.iinc 2 1, 3) := by decide +kernel
theorem dX6_hasWork_25 : decode cX6_hasWork 25 = .ok (.goto (-23), 3) := by decide +kernel
theorem dX6_hasWork_28 : decode cX6_hasWork 28 = .ok (.iconst 0, 1) := by decide +kernel
theorem dX6_hasWork_29 : decode cX6_hasWork 29 = .ok (.ireturn, 1) := by decide +kernel
theorem dX6_instrumentOf_0 : decode cX6_instrumentOf 0 = .ok (.iconst 0, 1) := by decide +kernel
theorem dX6_instrumentOf_1 : decode cX6_instrumentOf 1 = .ok (.istore_n 2, 1) := by decide +kernel
theorem dX6_instrumentOf_2 : decode cX6_instrumentOf 2 = .ok (.iconst 0, 1) := by decide +kernel
theorem dX6_instrumentOf_3 : decode cX6_instrumentOf 3 = .ok (.istore_n 3, 1) := by decide +kernel
theorem dX6_instrumentOf_4 : decode cX6_instrumentOf 4 = .ok (.iload_n 3, 1) := by decide +kernel
theorem dX6_instrumentOf_5 : decode cX6_instrumentOf 5 = .ok (.bipush 6, 2) := by decide +kernel
theorem dX6_instrumentOf_7 : decode cX6_instrumentOf 7 = .ok (.if_icmp .ge 44, 3) := by decide +kernel
theorem dX6_instrumentOf_10 : decode cX6_instrumentOf 10 = .ok (.iconst 0, 1) := by decide +kernel
theorem dX6_instrumentOf_11 : decode cX6_instrumentOf 11 = .ok (.istore 4, 2) := by decide +kernel
theorem dX6_instrumentOf_13 : decode cX6_instrumentOf 13 = .ok (.iload 4, 2) := by decide +kernel
theorem dX6_instrumentOf_15 : decode cX6_instrumentOf 15 = .ok (.aload_n 0, 1) := by decide +kernel
theorem dX6_instrumentOf_16 : decode cX6_instrumentOf 16 = .ok (.getfield 15, 3) := by decide +kernel
theorem dX6_instrumentOf_19 : decode cX6_instrumentOf 19 = .ok (.iload_n 3, 1) := by decide +kernel
theorem dX6_instrumentOf_20 : decode cX6_instrumentOf 20 = .ok (.iaload, 1) := by decide +kernel
theorem dX6_instrumentOf_21 : decode cX6_instrumentOf 21 = .ok (.if_icmp .ge 24, 3) := by decide +kernel
theorem dX6_instrumentOf_24 : decode cX6_instrumentOf 24 = .ok (.aload_n 0, 1) := by decide +kernel
theorem dX6_instrumentOf_25 : decode cX6_instrumentOf 25 = .ok (.getfield 18, 3) := by decide +kernel
theorem dX6_instrumentOf_28 : decode cX6_instrumentOf 28 = .ok (.iload_n 2, 1) := by decide +kernel
theorem dX6_instrumentOf_29 : decode cX6_instrumentOf 29 = .ok (.iaload, 1) := by decide +kernel
theorem dX6_instrumentOf_30 : decode cX6_instrumentOf 30 = .ok (.iload_n 1, 1) := by decide +kernel
theorem dX6_instrumentOf_31 : decode cX6_instrumentOf 31 = .ok (.if_icmp .ne 5, 3) := by decide +kernel
theorem dX6_instrumentOf_34 : decode cX6_instrumentOf 34 = .ok (.iload_n 3, 1) := by decide +kernel
theorem dX6_instrumentOf_35 : decode cX6_instrumentOf 35 = .ok (.ireturn, 1) := by decide +kernel
theorem dX6_instrumentOf_36 : decode cX6_instrumentOf 36 = .ok (.iinc 2 1, 3) := by decide +kernel
theorem dX6_instrumentOf_39 : decode cX6_instrumentOf 39 = .ok (.iinc 4 1, 3) := by decide +kernel
theorem dX6_instrumentOf_42 : decode cX6_instrumentOf 42 = .ok (.goto (-29), 3) := by decide +kernel
theorem dX6_instrumentOf_45 : decode cX6_instrumentOf 45 = .ok (.iinc 3 1, 3) := by decide +kernel
theorem dX6_instrumentOf_48 : decode cX6_instrumentOf 48 = .ok (.goto (-44), 3) := by decide +kernel
theorem dX6_instrumentOf_51 : decode cX6_instrumentOf 51 = .ok (.iconst 0, 1) := by decide +kernel
theorem dX6_instrumentOf_52 : decode cX6_instrumentOf 52 = .ok (.ireturn, 1) := by decide +kernel
theorem dX6_isOfKind_0 : decode cX6_isOfKind 0 = .ok (.aload_n 0, 1) := by decide +kernel
theorem dX6_isOfKind_1 : decode cX6_isOfKind 1 = .ok (.getfield 38, 3) := by decide +kernel
theorem dX6_isOfKind_4 : decode cX6_isOfKind 4 = .ok (.istore_n 2, 1) := by decide +kernel
theorem dX6_isOfKind_5 : decode cX6_isOfKind 5 = .ok (.iconst 0, 1) := by decide +kernel
theorem dX6_isOfKind_6 : decode cX6_isOfKind 6 = .ok (.istore_n 3, 1) := by decide +kernel
theorem dX6_isOfKind_7 : decode cX6_isOfKind 7 = .ok (.iload_n 3, 1) := by decide +kernel
theorem dX6_isOfKind_8 : decode cX6_isOfKind 8 = .ok (.getstatic 57, 3) := by decide +kernel
theorem dX6_isOfKind_11 : decode cX6_isOfKind 11 = .ok (.arraylength, 1) := by decide +kernel
theorem dX6_isOfKind_12 : decode cX6_isOfKind 12 = .ok (.if_icmp .ge 27, 3) := by decide +kernel
theorem dX6_isOfKind_15 : decode cX6_isOfKind 15 = .ok (.iload_n 2, 1) := by decide +kernel
theorem dX6_isOfKind_16 : decode cX6_isOfKind 16 = .ok (.iconst (-1), 1) := by decide +kernel
theorem dX6_isOfKind_17 : decode cX6_isOfKind 17 = .ok (.if_icmp .eq 22, 3) := by decide +kernel
theorem dX6_isOfKind_20 : decode cX6_isOfKind 20 = .ok (.iload_n 2, 1) := by decide +kernel
theorem dX6_isOfKind_21 : decode cX6_isOfKind 21 = .ok (.iload_n 1, 1) := by decide +kernel
theorem dX6_isOfKind_22 : decode cX6_isOfKind 22 = .ok (.if_icmp .ne 5, 3) := by decide +kernel
theorem dX6_isOfKind_25 : decode cX6_isOfKind 25 = .ok (.iconst 1, 1) := by decide +kernel
theorem dX6_isOfKind_26 : decode cX6_isOfKind 26 = .ok (.ireturn, 1) := by decide +kernel
theorem dX6_isOfKind_27 : decode cX6_isOfKind 27 = .ok (.getstatic 57, 3) := by decide +kernel
theorem dX6_isOfKind_30 : decode cX6_isOfKind 30 = .ok (.iload_n 2, 1) := by decide +kernel
theorem dX6_isOfKind_31 : decode cX6_isOfKind 31 = .ok (.iaload, 1) := by decide +kernel
theorem dX6_isOfKind_32 : decode cX6_isOfKind 32 = .ok (.istore_n 2, 1) := by decide +kernel
theorem dX6_isOfKind_33 : decode cX6_isOfKind 33 = .ok (.iinc 3 1, 3) := by decide +kernel
theorem dX6_isOfKind_36 : decode cX6_isOfKind 36 = .ok (.goto (-29), 3) := by decide +kernel
theorem dX6_isOfKind_39 : decode cX6_isOfKind 39 = .ok (.iconst 0, 1) := by decide +kernel
theorem dX6_isOfKind_40 : decode cX6_isOfKind 40 = .ok (.ireturn, 1) := by decide +kernel
theorem dX6_sitDown_0 : decode cX6_sitDown 0 = .ok (.aload_n 0, 1) := by decide +kernel
theorem dX6_sitDown_1 : decode cX6_sitDown 1 = .ok (.iconst 0, 1) := by decide +kernel
theorem dX6_sitDown_2 : decode cX6_sitDown 2 = .ok (.putfield 31, 3) := by decide +kernel
theorem dX6_sitDown_5 : decode cX6_sitDown 5 = .ok (.iconst 0, 1) := by decide +kernel
theorem dX6_sitDown_6 : decode cX6_sitDown 6 = .ok (.istore_n 3, 1) := by decide +kernel
theorem dX6_sitDown_7 : decode cX6_sitDown 7 = .ok (.iload_n 3, 1) := by decide +kernel
theorem dX6_sitDown_8 : decode cX6_sitDown 8 = .ok (.aload_n 0, 1) := by decide +kernel
theorem dX6_sitDown_9 : decode cX6_sitDown 9 = .ok (.getfield 25, 3) := by decide +kernel
theorem dX6_sitDown_12 : decode cX6_sitDown 12 = .ok (.if_icmp .ge 39, 3) := by decide +kernel
theorem dX6_sitDown_15 : decode cX6_sitDown 15 = .ok (.aload_n 0, 1) := by decide +kernel
theorem dX6_sitDown_16 : decode cX6_sitDown 16 = .ok (.getfield 18, 3) := by decide +kernel
theorem dX6_sitDown_19 : decode cX6_sitDown 19 = .ok (.iload_n 3, 1) := by decide +kernel
theorem dX6_sitDown_20 : decode cX6_sitDown 20 = .ok (.aload_n 1, 1) := by decide +kernel
theorem dX6_sitDown_21 : decode cX6_sitDown 21 = .ok (.iload_n 3, 1) := by decide +kernel
theorem dX6_sitDown_22 : decode cX6_sitDown 22 = .ok (.iaload, 1) := by decide +kernel
theorem dX6_sitDown_23 : decode cX6_sitDown 23 = .ok (.iastore, 1) := by decide +kernel
theorem dX6_sitDown_24 : decode cX6_sitDown 24 = .ok (.aload_n 1, 1) := by decide +kernel
theorem dX6_sitDown_25 : decode cX6_sitDown 25 = .ok (.iload_n 3, 1) := by decide +kernel
theorem dX6_sitDown_26 : decode cX6_sitDown 26 = .ok (.iaload, 1) := by decide +kernel
theorem dX6_sitDown_27 : decode cX6_sitDown 27 = .ok (.iconst (-1), 1) := by decide +kernel
theorem dX6_sitDown_28 : decode cX6_sitDown 28 = .ok (.if_icmp .eq 17, 3) := by decide +kernel
theorem dX6_sitDown_31 : decode cX6_sitDown 31 = .ok (.aload_n 0, 1) := by decide +kernel
theorem dX6_sitDown_32 : decode cX6_sitDown 32 = .ok (.dup, 1) := by decide +kernel
theorem dX6_sitDown_33 : decode cX6_sitDown 33 = .ok (.getfield 31, 3) := by decide +kernel
theorem dX6_sitDown_36 : decode cX6_sitDown 36 = .ok (.iconst 1, 1) := by decide +kernel
theorem dX6_sitDown_37 : decode cX6_sitDown 37 = .ok (.aload_n 1, 1) := by decide +kernel
theorem dX6_sitDown_38 : decode cX6_sitDown 38 = .ok (.iload_n 3, 1) := by decide +kernel
theorem dX6_sitDown_39 : decode cX6_sitDown 39 = .ok (.iaload, 1) := by decide +kernel
theorem dX6_sitDown_40 : decode cX6_sitDown 40 = .ok (.ishl, 1) := by decide +kernel
theorem dX6_sitDown_41 : decode cX6_sitDown 41 = .ok (.ior, 1) := by decide +kernel
theorem dX6_sitDown_42 : decode cX6_sitDown 42 = .ok (.putfield 31, 3) := by decide +kernel
theorem dX6_sitDown_45 : decode cX6_sitDown 45 = .ok (.iinc 3 1, 3) := by decide +kernel
theorem dX6_sitDown_48 : decode cX6_sitDown 48 = .ok (.goto (-41), 3) := by decide +kernel
theorem dX6_sitDown_51 : decode cX6_sitDown 51 = .ok (.aload_n 0, 1) := by decide +kernel
theorem dX6_sitDown_52 : decode cX6_sitDown 52 = .ok (.iload_n 2, 1) := by decide +kernel
theorem dX6_sitDown_53 : decode cX6_sitDown 53 = .ok (.putfield 28, 3) := by decide +kernel
theorem dX6_sitDown_56 : decode cX6_sitDown 56 = .ok (.aload_n 0, 1) := by decide +kernel
theorem dX6_sitDown_57 : decode cX6_sitDown 57 = .ok (.iconst 1, 1) := by decide +kernel
theorem dX6_sitDown_58 : decode cX6_sitDown 58 = .ok (.putfield 34, 3) := by decide +kernel
theorem dX6_sitDown_61 : decode cX6_sitDown 61 = .ok (.return_, 1) := by decide +kernel
theorem dX6_sits_0 : decode cX6_sits 0 = .ok (.aload_n 0, 1) := by decide +kernel
theorem dX6_sits_1 : decode cX6_sits 1 = .ok (.getfield 31, 3) := by decide +kernel
theorem dX6_sits_4 : decode cX6_sits 4 = .ok (.iload_n 1, 1) := by decide +kernel
theorem dX6_sits_5 : decode cX6_sits 5 = .ok (.ishr, 1) := by decide +kernel
theorem dX6_sits_6 : decode cX6_sits 6 = .ok (.iconst 1, 1) := by decide +kernel
theorem dX6_sits_7 : decode cX6_sits 7 = .ok (.iand, 1) := by decide +kernel
theorem dX6_sits_8 : decode cX6_sits 8 = .ok (.iconst 1, 1) := by decide +kernel
theorem dX6_sits_9 : decode cX6_sits 9 = .ok (.if_icmp .ne 7, 3) := by decide +kernel
theorem dX6_sits_12 : decode cX6_sits 12 = .ok (.iconst 1, 1) := by decide +kernel
theorem dX6_sits_13 : decode cX6_sits 13 = .ok (.goto 4, 3) := by decide +kernel
theorem dX6_sits_16 : decode cX6_sits 16 = .ok (.iconst 0, 1) := by decide +kernel
theorem dX6_sits_17 : decode cX6_sits 17 = .ok (.ireturn, 1) := by decide +kernel
theorem dX6_standUp_0 : decode cX6_standUp 0 = .ok (.aload_n 0, 1) := by decide +kernel
theorem dX6_standUp_1 : decode cX6_standUp 1 = .ok (.iconst 0, 1) := by decide +kernel
theorem dX6_standUp_2 : decode cX6_standUp 2 = .ok (.putfield 31, 3) := by decide +kernel
theorem dX6_standUp_5 : decode cX6_standUp 5 = .ok (.aload_n 0, 1) := by decide +kernel
theorem dX6_standUp_6 : decode cX6_standUp 6 = .ok (.iconst 0, 1) := by decide +kernel
theorem dX6_standUp_7 : decode cX6_standUp 7 = .ok (.putfield 28, 3) := by decide +kernel
theorem dX6_standUp_10 : decode cX6_standUp 10 = .ok (.aload_n 0, 1) := by decide +kernel
theorem dX6_standUp_11 : decode cX6_standUp 11 = .ok (.iconst 0, 1) := by decide +kernel
theorem dX6_standUp_12 : decode cX6_standUp 12 = .ok (.putfield 34, 3) := by decide +kernel
theorem dX6_standUp_15 : decode cX6_standUp 15 = .ok (.return_, 1) := by decide +kernel
theorem dX0_addWork_0 : decode cX0_addWork 0 = .ok (.iconst 0, 1) := by decide +kernel
theorem dX0_addWork_1 : decode cX0_addWork 1 = .ok (.istore_n 3, 1) := by decide +kernel
theorem dX0_addWork_2 : decode cX0_addWork 2 = .ok (.iload_n 3, 1) := by decide +kernel
theorem dX0_addWork_3 : decode cX0_addWork 3 = .ok (.bipush 6, 2) := by decide +kernel
theorem dX0_addWork_5 : decode cX0_addWork 5 = .ok (.if_icmp .ge 24, 3) := by decide +kernel
theorem dX0_addWork_8 : decode cX0_addWork 8 = .ok (.aload_n 2, 1) := by decide +kernel
theorem dX0_addWork_9 : decode cX0_addWork 9 = .ok (.iload_n 3, 1) := by decide +kernel
theorem dX0_addWork_10 : decode cX0_addWork 10 = .ok (.invokevirtual 29, 3) := by decide +kernel
theorem dX0_addWork_13 : decode cX0_addWork 13 = .ok (.aload_n 0, 1) := by decide +kernel
theorem dX0_addWork_14 : decode cX0_addWork 14 = .ok (.getfield 9, 3) := by decide +kernel
theorem dX0_addWork_17 : decode cX0_addWork 17 = .ok (.iload_n 3, 1) := by decide +kernel
theorem dX0_addWork_18 : decode cX0_addWork 18 = .ok (.iaload, 1) := by decide +kernel
theorem dX0_addWork_19 : decode cX0_addWork 19 = .ok (.if_icmp .le 4, 3) := by decide +kernel
theorem dX0_addWork_22 : decode cX0_addWork 22 = .ok (.return_, 1) := by decide +kernel
theorem dX0_addWork_23 : decode cX0_addWork 23 = .ok (.iinc 3 1, 3) := by decide +kernel
theorem dX0_addWork_26 : decode cX0_addWork 26 = .ok (.goto (-24), 3) := by decide +kernel
theorem dX0_addWork_29 : decode cX0_addWork 29 = .ok (.aload_n 2, 1) := by decide +kernel
theorem dX0_addWork_30 : decode cX0_addWork 30 = .ok (.getfield 35, 3) := by decide +kernel
theorem dX0_addWork_33 : decode cX0_addWork 33 = .ok (.sipush 4096, 3) := by decide +kernel
theorem dX0_addWork_36 : decode cX0_addWork 36 = .ok (.imul, 1) := by decide +kernel
theorem dX0_addWork_37 : decode cX0_addWork 37 = .ok (.iload_n 1, 1) := by decide +kernel
theorem dX0_addWork_38 : decode cX0_addWork 38 = .ok (.invokestatic 38, 3) := by decide +kernel
theorem dX0_addWork_41 : decode cX0_addWork 41 = .ok (.isub, 1) := by decide +kernel
theorem dX0_addWork_42 : decode cX0_addWork 42 = .ok (.istore_n 3, 1) := by decide +kernel
theorem dX0_addWork_43 : decode cX0_addWork 43 = .ok (.aload_n 0, 1) := by decide +kernel
theorem dX0_addWork_44 : decode cX0_addWork 44 = .ok (.aload_n 0, 1) := by decide +kernel
theorem dX0_addWork_45 : decode cX0_addWork 45 = .ok (.getfield 18, 3) := by decide +kernel
theorem dX0_addWork_48 : decode cX0_addWork 48 = .ok (.aload_n 2, 1) := by decide +kernel
theorem dX0_addWork_49 : decode cX0_addWork 49 = .ok (.getfield 41, 3) := by decide +kernel
theorem dX0_addWork_52 : decode cX0_addWork 52 = .ok (.iadd, 1) := by decide +kernel
theorem dX0_addWork_53 : decode cX0_addWork 53 = .ok (.aload_n 0, 1) := by decide +kernel
theorem dX0_addWork_54 : decode cX0_addWork 54 = .ok (.getfield 15, 3) := by decide +kernel
theorem dX0_addWork_57 : decode cX0_addWork 57 = .ok (.arraylength, 1) := by decide +kernel
theorem dX0_addWork_58 : decode cX0_addWork 58 = .ok (.iconst 1, 1) := by decide +kernel
theorem dX0_addWork_59 : decode cX0_addWork 59 = .ok (.isub, 1) := by decide +kernel
theorem dX0_addWork_60 : decode cX0_addWork 60 = .ok (.invokestatic 44, 3) := by decide +kernel
theorem dX0_addWork_63 : decode cX0_addWork 63 = .ok (.putfield 18, 3) := by decide +kernel
theorem dX0_addWork_66 : decode cX0_addWork 66 = .ok (.aload_n 0, 1) := by decide +kernel
theorem dX0_addWork_67 : decode cX0_addWork 67 = .ok (.getfield 18, 3) := by decide +kernel
theorem dX0_addWork_70 : decode cX0_addWork 70 = .ok (.istore 4, 2) := by decide +kernel
theorem dX0_addWork_72 : decode cX0_addWork 72 = .ok (.iload 4, 2) := by decide +kernel
theorem dX0_addWork_74 : decode cX0_addWork 74 = .ok (.aload_n 2, 1) := by decide +kernel
theorem dX0_addWork_75 : decode cX0_addWork 75 = .ok (.getfield 41, 3) := by decide +kernel
theorem dX0_addWork_78 : decode cX0_addWork 78 = .ok (.if_icmp .lt 51, 3) := by decide +kernel
theorem dX0_addWork_81 : decode cX0_addWork 81 = .ok (.aload_n 0, 1) := by decide +kernel
theorem dX0_addWork_82 : decode cX0_addWork 82 = .ok (.getfield 15, 3) := by decide +kernel
theorem dX0_addWork_85 : decode cX0_addWork 85 = .ok (.iload 4, 2) := by decide +kernel
theorem dX0_addWork_87 : decode cX0_addWork 87 = .ok (.aload_n 2, 1) := by decide +kernel
theorem dX0_addWork_88 : decode cX0_addWork 88 = .ok (.getfield 41, 3) := by decide +kernel
theorem dX0_addWork_91 : decode cX0_addWork 91 = .ok (.isub, 1) := by decide +kernel
theorem dX0_addWork_92 : decode cX0_addWork 92 = .ok (.iaload, 1) := by decide +kernel
theorem dX0_addWork_93 : decode cX0_addWork 93 = .ok (.istore 5, 2) := by decide +kernel
theorem dX0_addWork_95 : decode cX0_addWork 95 = .ok (.iload 5, 2) := by decide +kernel
theorem dX0_addWork_97 : decode cX0_addWork 97 = .ok (.ldc 28, 2) := by decide +kernel
theorem dX0_addWork_99 : decode cX0_addWork 99 = .ok (.if_icmp .eq 24, 3) := by decide +kernel
theorem dX0_addWork_102 : decode cX0_addWork 102 = .ok (.aload_n 0, 1) := by decide +kernel
theorem dX0_addWork_103 : decode cX0_addWork 103 = .ok (.getfield 15, 3) := by decide +kernel
theorem dX0_addWork_106 : decode cX0_addWork 106 = .ok (.iload 4, 2) := by decide +kernel
theorem dX0_addWork_108 : decode cX0_addWork 108 = .ok (.aload_n 0, 1) := by decide +kernel
theorem dX0_addWork_109 : decode cX0_addWork 109 = .ok (.getfield 15, 3) := by decide +kernel
theorem dX0_addWork_112 : decode cX0_addWork 112 = .ok (.iload 4, 2) := by decide +kernel
theorem dX0_addWork_114 : decode cX0_addWork 114 = .ok (.iaload, 1) := by decide +kernel
theorem dX0_addWork_115 : decode cX0_addWork 115 = .ok (.iload 5, 2) := by decide +kernel
theorem dX0_addWork_117 : decode cX0_addWork 117 = .ok (.iload_n 3, 1) := by decide +kernel
theorem dX0_addWork_118 : decode cX0_addWork 118 = .ok (.iadd, 1) := by decide +kernel
theorem dX0_addWork_119 : decode cX0_addWork 119 = .ok (.invokestatic 44, 3) := by decide +kernel
theorem dX0_addWork_122 : decode cX0_addWork 122 = .ok (.iastore, 1) := by decide +kernel
theorem dX0_addWork_123 : decode cX0_addWork 123 = .ok (.iinc 4 (-1), 3) := by decide +kernel
theorem dX0_addWork_126 : decode cX0_addWork 126 = .ok (.goto (-54), 3) := by decide +kernel
theorem dX0_addWork_129 : decode cX0_addWork 129 = .ok (.return_, 1) := by decide +kernel
theorem dX0_begin_0 : decode cX0_begin 0 = .ok (.aload_n 0, 1) := by decide +kernel
theorem dX0_begin_1 : decode cX0_begin 1 = .ok (.getfield 9, 3) := by decide +kernel
theorem dX0_begin_4 : decode cX0_begin 4 = .ok (.iconst 0, 1) := by decide +kernel
theorem dX0_begin_5 : decode cX0_begin 5 = .ok (.invokestatic 22, 3) := by decide +kernel
theorem dX0_begin_8 : decode cX0_begin 8 = .ok (.aload_n 0, 1) := by decide +kernel
theorem dX0_begin_9 : decode cX0_begin 9 = .ok (.getfield 15, 3) := by decide +kernel
theorem dX0_begin_12 : decode cX0_begin 12 = .ok (.ldc 28, 2) := by decide +kernel
theorem dX0_begin_14 : decode cX0_begin 14 = .ok (.invokestatic 22, 3) := by decide +kernel
theorem dX0_begin_17 : decode cX0_begin 17 = .ok (.aload_n 0, 1) := by decide +kernel
theorem dX0_begin_18 : decode cX0_begin 18 = .ok (.getfield 15, 3) := by decide +kernel
theorem dX0_begin_21 : decode cX0_begin 21 = .ok (.iconst 0, 1) := by decide +kernel
theorem dX0_begin_22 : decode cX0_begin 22 = .ok (.iconst 0, 1) := by decide +kernel
theorem dX0_begin_23 : decode cX0_begin 23 = .ok (.iastore, 1) := by decide +kernel
theorem dX0_begin_24 : decode cX0_begin 24 = .ok (.aload_n 0, 1) := by decide +kernel
theorem dX0_begin_25 : decode cX0_begin 25 = .ok (.iconst 0, 1) := by decide +kernel
theorem dX0_begin_26 : decode cX0_begin 26 = .ok (.putfield 18, 3) := by decide +kernel
theorem dX0_begin_29 : decode cX0_begin 29 = .ok (.return_, 1) := by decide +kernel
theorem dX0_init_0 : decode cX0_init 0 = .ok (.aload_n 0, 1) := by decide +kernel
theorem dX0_init_1 : decode cX0_init 1 = .ok (.invokespecial 3, 3) := by decide +kernel
theorem dX0_init_4 : decode cX0_init 4 = .ok (.aload_n 0, 1) := by decide +kernel
theorem dX0_init_5 : decode cX0_init 5 = .ok (.bipush 6, 2) := by decide +kernel
theorem dX0_init_7 : decode cX0_init 7 = .ok (.newarray .int, 2) := by decide +kernel
theorem dX0_init_9 : decode cX0_init 9 = .ok (.putfield 9, 3) := by decide +kernel
theorem dX0_init_12 : decode cX0_init 12 = .ok (.aload_n 0, 1) := by decide +kernel
theorem dX0_init_13 : decode cX0_init 13 = .ok (.sipush 1081, 3) := by decide +kernel
theorem dX0_init_16 : decode cX0_init 16 = .ok (.newarray .int, 2) := by decide +kernel
theorem dX0_init_18 : decode cX0_init 18 = .ok (.putfield 15, 3) := by decide +kernel
theorem dX0_init_21 : decode cX0_init 21 = .ok (.aload_n 0, 1) := by decide +kernel
theorem dX0_init_22 : decode cX0_init 22 = .ok (.iconst 0, 1) := by decide +kernel
theorem dX0_init_23 : decode cX0_init 23 = .ok (.putfield 18, 3) := by decide +kernel
theorem dX0_init_26 : decode cX0_init 26 = .ok (.return_, 1) := by decide +kernel
theorem dX0_setOf_0 : decode cX0_setOf 0 = .ok (.iload_n 0, 1) := by decide +kernel
theorem dX0_setOf_1 : decode cX0_setOf 1 = .ok (.ineg, 1) := by decide +kernel
theorem dX0_setOf_2 : decode cX0_setOf 2 = .ok (.sipush 4095, 3) := by decide +kernel
theorem dX0_setOf_5 : decode cX0_setOf 5 = .ok (.iand, 1) := by decide +kernel
theorem dX0_setOf_6 : decode cX0_setOf 6 = .ok (.istore_n 1, 1) := by decide +kernel
theorem dX0_setOf_7 : decode cX0_setOf 7 = .ok (.iconst 0, 1) := by decide +kernel
theorem dX0_setOf_8 : decode cX0_setOf 8 = .ok (.istore_n 2, 1) := by decide +kernel
theorem dX0_setOf_9 : decode cX0_setOf 9 = .ok (.iconst 0, 1) := by decide +kernel
theorem dX0_setOf_10 : decode cX0_setOf 10 = .ok (.istore_n 3, 1) := by decide +kernel
theorem dX0_setOf_11 : decode cX0_setOf 11 = .ok (.iload_n 3, 1) := by decide +kernel
theorem dX0_setOf_12 : decode cX0_setOf 12 = .ok (.bipush 12, 2) := by decide +kernel
theorem dX0_setOf_14 : decode cX0_setOf 14 = .ok (.if_icmp .ge 24, 3) := by decide +kernel
theorem dX0_setOf_17 : decode cX0_setOf 17 = .ok (.iload_n 1, 1) := by decide +kernel
theorem dX0_setOf_18 : decode cX0_setOf 18 = .ok (.iload_n 3, 1) := by decide +kernel
theorem dX0_setOf_19 : decode cX0_setOf 19 = .ok (.invokestatic 38, 3) := by decide +kernel
theorem dX0_setOf_22 : decode cX0_setOf 22 = .ok (.iand, 1) := by decide +kernel
theorem dX0_setOf_23 : decode cX0_setOf 23 = .ok (.ifCond .eq 9, 3) := by decide +kernel
theorem dX0_setOf_26 : decode cX0_setOf 26 = .ok (.iload_n 2, 1) := by decide +kernel
theorem dX0_setOf_27 : decode cX0_setOf 27 = .ok (.iconst 1, 1) := by decide +kernel
theorem dX0_setOf_28 : decode cX0_setOf 28 = .ok (.iload_n 3, 1) := by decide +kernel
theorem dX0_setOf_29 : decode cX0_setOf 29 = .ok (.ishl, 1) := by decide +kernel
theorem dX0_setOf_30 : decode cX0_setOf 30 = .ok (.ior, 1) := by decide +kernel
theorem dX0_setOf_31 : decode cX0_setOf 31 = .ok (.istore_n 2, 1) := by decide +kernel
theorem dX0_setOf_32 : decode cX0_setOf 32 = .ok (.iinc 3 1, 3) := by decide +kernel
theorem dX0_setOf_35 : decode cX0_setOf 35 = .ok (.goto (-24), 3) := by decide +kernel
theorem dX0_setOf_38 : decode cX0_setOf 38 = .ok (.iload_n 2, 1) := by decide +kernel
theorem dX0_setOf_39 : decode cX0_setOf 39 = .ok (.ireturn, 1) := by decide +kernel
theorem dX10_canBePlayed_0 : decode cX10_canBePlayed 0 = .ok (.aload_n 0, 1) := by decide +kernel
theorem dX10_canBePlayed_1 : decode cX10_canBePlayed 1 = .ok (.getfield 9, 3) := by decide +kernel
theorem dX10_canBePlayed_4 : decode cX10_canBePlayed 4 = .ok (.ifCond .eq 26, 3) := by decide +kernel
theorem dX10_canBePlayed_7 : decode cX10_canBePlayed 7 = .ok (.aload_n 0, 1) := by decide +kernel
theorem dX10_canBePlayed_8 : decode cX10_canBePlayed 8 = .ok (.getfield 9, 3) := by decide +kernel
theorem dX10_canBePlayed_11 : decode cX10_canBePlayed 11 = .ok (.iconst 1, 1) := by decide +kernel
theorem dX10_canBePlayed_12 : decode cX10_canBePlayed 12 = .ok (.if_icmp .ne 22, 3) := by decide +kernel
theorem dX10_canBePlayed_15 : decode cX10_canBePlayed 15 = .ok (.iload_n 1, 1) := by decide +kernel
theorem dX10_canBePlayed_16 : decode cX10_canBePlayed 16 = .ok (.aload_n 0, 1) := by decide +kernel
theorem dX10_canBePlayed_17 : decode cX10_canBePlayed 17 = .ok (.getfield 15, 3) := by decide +kernel
theorem dX10_canBePlayed_20 : decode cX10_canBePlayed 20 = .ok (.aload_n 0, 1) := by decide +kernel
theorem dX10_canBePlayed_21 : decode cX10_canBePlayed 21 = .ok (.getfield 18, 3) := by decide +kernel
theorem dX10_canBePlayed_24 : decode cX10_canBePlayed 24 = .ok (.invokestatic 30, 3) := by decide +kernel
theorem dX10_canBePlayed_27 : decode cX10_canBePlayed 27 = .ok (.ifCond .eq 7, 3) := by decide +kernel
theorem dX10_canBePlayed_30 : decode cX10_canBePlayed 30 = .ok (.iconst 1, 1) := by decide +kernel
theorem dX10_canBePlayed_31 : decode cX10_canBePlayed 31 = .ok (.goto 4, 3) := by decide +kernel
theorem dX10_canBePlayed_34 : decode cX10_canBePlayed 34 = .ok (.iconst 0, 1) := by decide +kernel
theorem dX10_canBePlayed_35 : decode cX10_canBePlayed 35 = .ok (.ireturn, 1) := by decide +kernel
theorem dX10_init_0 : decode cX10_init 0 = .ok (.aload_n 0, 1) := by decide +kernel
theorem dX10_init_1 : decode cX10_init 1 = .ok (.invokespecial 3, 3) := by decide +kernel
theorem dX10_init_4 : decode cX10_init 4 = .ok (.aload_n 0, 1) := by decide +kernel
theorem dX10_init_5 : decode cX10_init 5 = .ok (.iconst 0, 1) := by decide +kernel
theorem dX10_init_6 : decode cX10_init 6 = .ok (.putfield 9, 3) := by decide +kernel
theorem dX10_init_9 : decode cX10_init 9 = .ok (.aload_n 0, 1) := by decide +kernel
theorem dX10_init_10 : decode cX10_init 10 = .ok (.iconst (-1), 1) := by decide +kernel
theorem dX10_init_11 : decode cX10_init 11 = .ok (.putfield 15, 3) := by decide +kernel
theorem dX10_init_14 : decode cX10_init 14 = .ok (.aload_n 0, 1) := by decide +kernel
theorem dX10_init_15 : decode cX10_init 15 = .ok (.iconst (-1), 1) := by decide +kernel
theorem dX10_init_16 : decode cX10_init 16 = .ok (.putfield 18, 3) := by decide +kernel
theorem dX10_init_19 : decode cX10_init 19 = .ok (.aload_n 0, 1) := by decide +kernel
theorem dX10_init_20 : decode cX10_init 20 = .ok (.iload_n 1, 1) := by decide +kernel
theorem dX10_init_21 : decode cX10_init 21 = .ok (.putfield 21, 3) := by decide +kernel
theorem dX10_init_24 : decode cX10_init 24 = .ok (.aload_n 0, 1) := by decide +kernel
theorem dX10_init_25 : decode cX10_init 25 = .ok (.iload_n 2, 1) := by decide +kernel
theorem dX10_init_26 : decode cX10_init 26 = .ok (.putfield 24, 3) := by decide +kernel
theorem dX10_init_29 : decode cX10_init 29 = .ok (.aload_n 0, 1) := by decide +kernel
theorem dX10_init_30 : decode cX10_init 30 = .ok (.iload_n 3, 1) := by decide +kernel
theorem dX10_init_31 : decode cX10_init 31 = .ok (.putfield 27, 3) := by decide +kernel
theorem dX10_init_34 : decode cX10_init 34 = .ok (.return_, 1) := by decide +kernel
theorem dX11_count_0 : decode cX11_count 0 = .ok (.iload_n 1, 1) := by decide +kernel
theorem dX11_count_1 : decode cX11_count 1 = .ok (.tableswitch 78 0 6 #[43, 48, 53, 58, 63, 68, 73], 43) := by decide +kernel
theorem dX11_count_44 : decode cX11_count 44 = .ok (.aload_n 0, 1) := by decide +kernel
theorem dX11_count_45 : decode cX11_count 45 = .ok (.getfield 78, 3) := by decide +kernel
theorem dX11_count_48 : decode cX11_count 48 = .ok (.ireturn, 1) := by decide +kernel
theorem dX11_count_49 : decode cX11_count 49 = .ok (.aload_n 0, 1) := by decide +kernel
theorem dX11_count_50 : decode cX11_count 50 = .ok (.getfield 82, 3) := by decide +kernel
theorem dX11_count_53 : decode cX11_count 53 = .ok (.ireturn, 1) := by decide +kernel
theorem dX11_count_54 : decode cX11_count 54 = .ok (.aload_n 0, 1) := by decide +kernel
theorem dX11_count_55 : decode cX11_count 55 = .ok (.getfield 85, 3) := by decide +kernel
theorem dX11_count_58 : decode cX11_count 58 = .ok (.ireturn, 1) := by decide +kernel
theorem dX11_count_59 : decode cX11_count 59 = .ok (.aload_n 0, 1) := by decide +kernel
theorem dX11_count_60 : decode cX11_count 60 = .ok (.getfield 88, 3) := by decide +kernel
theorem dX11_count_63 : decode cX11_count 63 = .ok (.ireturn, 1) := by decide +kernel
theorem dX11_count_64 : decode cX11_count 64 = .ok (.aload_n 0, 1) := by decide +kernel
theorem dX11_count_65 : decode cX11_count 65 = .ok (.getfield 91, 3) := by decide +kernel
theorem dX11_count_68 : decode cX11_count 68 = .ok (.ireturn, 1) := by decide +kernel
theorem dX11_count_69 : decode cX11_count 69 = .ok (.aload_n 0, 1) := by decide +kernel
theorem dX11_count_70 : decode cX11_count 70 = .ok (.invokevirtual 307, 3) := by decide +kernel
theorem dX11_count_73 : decode cX11_count 73 = .ok (.ireturn, 1) := by decide +kernel
theorem dX11_count_74 : decode cX11_count 74 = .ok (.aload_n 0, 1) := by decide +kernel
theorem dX11_count_75 : decode cX11_count 75 = .ok (.invokevirtual 310, 3) := by decide +kernel
theorem dX11_count_78 : decode cX11_count 78 = .ok (.ireturn, 1) := by decide +kernel
theorem dX11_count_79 : decode cX11_count 79 = .ok (.bipush (-2), 2) := by decide +kernel
theorem dX11_count_81 : decode cX11_count 81 = .ok (.ireturn, 1) := by decide +kernel
theorem dX11_countSittings_0 : decode cX11_countSittings 0 = .ok (.iconst 0, 1) := by decide +kernel
theorem dX11_countSittings_1 : decode cX11_countSittings 1 = .ok (.istore_n 2, 1) := by decide +kernel
theorem dX11_countSittings_2 : decode cX11_countSittings 2 = .ok (.iconst 0, 1) := by decide +kernel
theorem dX11_countSittings_3 : decode cX11_countSittings 3 = .ok (.istore_n 3, 1) := by decide +kernel
theorem dX11_countSittings_4 : decode cX11_countSittings 4 = .ok (.iload_n 3, 1) := by decide +kernel
theorem dX11_countSittings_5 : decode cX11_countSittings 5 = .ok (.aload_n 0, 1) := by decide +kernel
theorem dX11_countSittings_6 : decode cX11_countSittings 6 = .ok (.getfield 85, 3) := by decide +kernel
theorem dX11_countSittings_9 : decode cX11_countSittings 9 = .ok (.if_icmp .ge 25, 3) := by decide +kernel
theorem dX11_countSittings_12 : decode cX11_countSittings 12 = .ok (.aload_n 0, 1) := by decide +kernel
theorem dX11_countSittings_13 : decode cX11_countSittings 13 = .ok (.getfield 23, 3) := by decide +kernel
theorem dX11_countSittings_16 : decode cX11_countSittings 16 = .ok (.iload_n 3, 1) := by decide +kernel
theorem dX11_countSittings_17 : decode cX11_countSittings 17 = .ok (.aaload, 1) := by decide +kernel
theorem dX11_countSittings_18 : decode cX11_countSittings 18 = .ok (.iload_n 1, 1) := by decide +kernel
theorem dX11_countSittings_19 : decode cX11_countSittings 19 = .ok (.invokevirtual 360, 3) := by decide +kernel
theorem dX11_countSittings_22 : decode cX11_countSittings 22 = .ok (.ifCond .eq 6, 3) := by decide +kernel
theorem dX11_countSittings_25 : decode cX11_countSittings 25 = .ok (.iinc 2 1, 3) := by decide +kernel
theorem dX11_countSittings_28 : decode cX11_countSittings 28 = .ok (.iinc 3 1, 3) := by decide +kernel
theorem dX11_countSittings_31 : decode cX11_countSittings 31 = .ok (.goto (-27), 3) := by decide +kernel
theorem dX11_countSittings_34 : decode cX11_countSittings 34 = .ok (.iload_n 2, 1) := by decide +kernel
theorem dX11_countSittings_35 : decode cX11_countSittings 35 = .ok (.ireturn, 1) := by decide +kernel
theorem dX11_feed_0 : decode cX11_feed 0 = .ok (.iload_n 1, 1) := by decide +kernel
theorem dX11_feed_1 : decode cX11_feed 1 = .ok (.iconst 1, 1) := by decide +kernel
theorem dX11_feed_2 : decode cX11_feed 2 = .ok (.bipush 8, 2) := by decide +kernel
theorem dX11_feed_4 : decode cX11_feed 4 = .ok (.invokestatic 124, 3) := by decide +kernel
theorem dX11_feed_7 : decode cX11_feed 7 = .ok (.ifCond .ne 6, 3) := by decide +kernel
theorem dX11_feed_10 : decode cX11_feed 10 = .ok (.bipush (-2), 2) := by decide +kernel
theorem dX11_feed_12 : decode cX11_feed 12 = .ok (.ireturn, 1) := by decide +kernel
theorem dX11_feed_13 : decode cX11_feed 13 = .ok (.aload_n 0, 1) := by decide +kernel
theorem dX11_feed_14 : decode cX11_feed 14 = .ok (.getfield 91, 3) := by decide +kernel
theorem dX11_feed_17 : decode cX11_feed 17 = .ok (.iload_n 1, 1) := by decide +kernel
theorem dX11_feed_18 : decode cX11_feed 18 = .ok (.iadd, 1) := by decide +kernel
theorem dX11_feed_19 : decode cX11_feed 19 = .ok (.sipush 300, 3) := by decide +kernel
theorem dX11_feed_22 : decode cX11_feed 22 = .ok (.if_icmp .le 6, 3) := by decide +kernel
theorem dX11_feed_25 : decode cX11_feed 25 = .ok (.bipush (-4), 2) := by decide +kernel
theorem dX11_feed_27 : decode cX11_feed 27 = .ok (.ireturn, 1) := by decide +kernel
theorem dX11_feed_28 : decode cX11_feed 28 = .ok (.iconst 0, 1) := by decide +kernel
theorem dX11_feed_29 : decode cX11_feed 29 = .ok (.istore 4, 2) := by decide +kernel
theorem dX11_feed_31 : decode cX11_feed 31 = .ok (.iload 4, 2) := by decide +kernel
theorem dX11_feed_33 : decode cX11_feed 33 = .ok (.iload_n 1, 1) := by decide +kernel
theorem dX11_feed_34 : decode cX11_feed 34 = .ok (.if_icmp .ge 30, 3) := by decide +kernel
theorem dX11_feed_37 : decode cX11_feed 37 = .ok (.aload_n 0, 1) := by decide +kernel
theorem dX11_feed_38 : decode cX11_feed 38 = .ok (.getfield 39, 3) := by decide +kernel
theorem dX11_feed_41 : decode cX11_feed 41 = .ok (.aload_n 0, 1) := by decide +kernel
theorem dX11_feed_42 : decode cX11_feed 42 = .ok (.getfield 91, 3) := by decide +kernel
theorem dX11_feed_45 : decode cX11_feed 45 = .ok (.iload 4, 2) := by decide +kernel
theorem dX11_feed_47 : decode cX11_feed 47 = .ok (.iadd, 1) := by decide +kernel
theorem dX11_feed_48 : decode cX11_feed 48 = .ok (.lload_n 2, 1) := by decide +kernel
theorem dX11_feed_49 : decode cX11_feed 49 = .ok (.bipush 8, 2) := by decide +kernel
theorem dX11_feed_51 : decode cX11_feed 51 = .ok (.iload 4, 2) := by decide +kernel
theorem dX11_feed_53 : decode cX11_feed 53 = .ok (.imul, 1) := by decide +kernel
theorem dX11_feed_54 : decode cX11_feed 54 = .ok (.lshr, 1) := by decide +kernel
theorem dX11_feed_55 : decode cX11_feed 55 = .ok (.l2i, 1) := by decide +kernel
theorem dX11_feed_56 : decode cX11_feed 56 = .ok (.i2b, 1) := by decide +kernel
theorem dX11_feed_57 : decode cX11_feed 57 = .ok (.bastore, 1) := by decide +kernel
theorem dX11_feed_58 : decode cX11_feed 58 = .ok (.iinc 4 1, 3) := by decide +kernel
theorem dX11_feed_61 : decode cX11_feed 61 = .ok (.goto (-30), 3) := by decide +kernel
theorem dX11_feed_64 : decode cX11_feed 64 = .ok (.aload_n 0, 1) := by decide +kernel
theorem dX11_feed_65 : decode cX11_feed 65 = .ok (.dup, 1) := by decide +kernel
theorem dX11_feed_66 : decode cX11_feed 66 = .ok (.getfield 91, 3) := by decide +kernel
theorem dX11_feed_69 : decode cX11_feed 69 = .ok (.iload_n 1, 1) := by decide +kernel
theorem dX11_feed_70 : decode cX11_feed 70 = .ok (.iadd, 1) := by decide +kernel
theorem dX11_feed_71 : decode cX11_feed 71 = .ok (.putfield 91, 3) := by decide +kernel
theorem dX11_feed_74 : decode cX11_feed 74 = .ok (.aload_n 0, 1) := by decide +kernel
theorem dX11_feed_75 : decode cX11_feed 75 = .ok (.getfield 91, 3) := by decide +kernel
theorem dX11_feed_78 : decode cX11_feed 78 = .ok (.ireturn, 1) := by decide +kernel
theorem dX11_findPlayer_0 : decode cX11_findPlayer 0 = .ok (.iload_n 1, 1) := by decide +kernel
theorem dX11_findPlayer_1 : decode cX11_findPlayer 1 = .ok (.iconst 0, 1) := by decide +kernel
theorem dX11_findPlayer_2 : decode cX11_findPlayer 2 = .ok (.aload_n 0, 1) := by decide +kernel
theorem dX11_findPlayer_3 : decode cX11_findPlayer 3 = .ok (.getfield 82, 3) := by decide +kernel
theorem dX11_findPlayer_6 : decode cX11_findPlayer 6 = .ok (.iconst 1, 1) := by decide +kernel
theorem dX11_findPlayer_7 : decode cX11_findPlayer 7 = .ok (.isub, 1) := by decide +kernel
theorem dX11_findPlayer_8 : decode cX11_findPlayer 8 = .ok (.invokestatic 124, 3) := by decide +kernel
theorem dX11_findPlayer_11 : decode cX11_findPlayer 11 = .ok (.ifCond .eq 12, 3) := by decide +kernel
theorem dX11_findPlayer_14 : decode cX11_findPlayer 14 = .ok (.aload_n 0, 1) := by decide +kernel
theorem dX11_findPlayer_15 : decode cX11_findPlayer 15 = .ok (.getfield 17, 3) := by decide +kernel
theorem dX11_findPlayer_18 : decode cX11_findPlayer 18 = .ok (.iload_n 1, 1) := by decide +kernel
theorem dX11_findPlayer_19 : decode cX11_findPlayer 19 = .ok (.aaload, 1) := by decide +kernel
theorem dX11_findPlayer_20 : decode cX11_findPlayer 20 = .ok (.goto 4, 3) := by decide +kernel
theorem dX11_findPlayer_23 : decode cX11_findPlayer 23 = .ok (.aconst_null, 1) := by decide +kernel
theorem dX11_findPlayer_24 : decode cX11_findPlayer 24 = .ok (.areturn, 1) := by decide +kernel
theorem dX11_findService_0 : decode cX11_findService 0 = .ok (.iload_n 1, 1) := by decide +kernel
theorem dX11_findService_1 : decode cX11_findService 1 = .ok (.iconst 0, 1) := by decide +kernel
theorem dX11_findService_2 : decode cX11_findService 2 = .ok (.aload_n 0, 1) := by decide +kernel
theorem dX11_findService_3 : decode cX11_findService 3 = .ok (.getfield 85, 3) := by decide +kernel
theorem dX11_findService_6 : decode cX11_findService 6 = .ok (.iconst 1, 1) := by decide +kernel
theorem dX11_findService_7 : decode cX11_findService 7 = .ok (.isub, 1) := by decide +kernel
theorem dX11_findService_8 : decode cX11_findService 8 = .ok (.invokestatic 124, 3) := by decide +kernel
theorem dX11_findService_11 : decode cX11_findService 11 = .ok (.ifCond .eq 12, 3) := by decide +kernel
theorem dX11_findService_14 : decode cX11_findService 14 = .ok (.aload_n 0, 1) := by decide +kernel
theorem dX11_findService_15 : decode cX11_findService 15 = .ok (.getfield 23, 3) := by decide +kernel
theorem dX11_findService_18 : decode cX11_findService 18 = .ok (.iload_n 1, 1) := by decide +kernel
theorem dX11_findService_19 : decode cX11_findService 19 = .ok (.aaload, 1) := by decide +kernel
theorem dX11_findService_20 : decode cX11_findService 20 = .ok (.goto 4, 3) := by decide +kernel
theorem dX11_findService_23 : decode cX11_findService 23 = .ok (.aconst_null, 1) := by decide +kernel
theorem dX11_findService_24 : decode cX11_findService 24 = .ok (.areturn, 1) := by decide +kernel
theorem dX11_findWork_0 : decode cX11_findWork 0 = .ok (.iload_n 1, 1) := by decide +kernel
theorem dX11_findWork_1 : decode cX11_findWork 1 = .ok (.iconst 0, 1) := by decide +kernel
theorem dX11_findWork_2 : decode cX11_findWork 2 = .ok (.aload_n 0, 1) := by decide +kernel
theorem dX11_findWork_3 : decode cX11_findWork 3 = .ok (.getfield 78, 3) := by decide +kernel
theorem dX11_findWork_6 : decode cX11_findWork 6 = .ok (.iconst 1, 1) := by decide +kernel
theorem dX11_findWork_7 : decode cX11_findWork 7 = .ok (.isub, 1) := by decide +kernel
theorem dX11_findWork_8 : decode cX11_findWork 8 = .ok (.invokestatic 124, 3) := by decide +kernel
theorem dX11_findWork_11 : decode cX11_findWork 11 = .ok (.ifCond .eq 12, 3) := by decide +kernel
theorem dX11_findWork_14 : decode cX11_findWork 14 = .ok (.aload_n 0, 1) := by decide +kernel
theorem dX11_findWork_15 : decode cX11_findWork 15 = .ok (.getfield 11, 3) := by decide +kernel
theorem dX11_findWork_18 : decode cX11_findWork 18 = .ok (.iload_n 1, 1) := by decide +kernel
theorem dX11_findWork_19 : decode cX11_findWork 19 = .ok (.aaload, 1) := by decide +kernel
theorem dX11_findWork_20 : decode cX11_findWork 20 = .ok (.goto 4, 3) := by decide +kernel
theorem dX11_findWork_23 : decode cX11_findWork 23 = .ok (.aconst_null, 1) := by decide +kernel
theorem dX11_findWork_24 : decode cX11_findWork 24 = .ok (.areturn, 1) := by decide +kernel
theorem dX11_forgeCopy_0 : decode cX11_forgeCopy 0 = .ok (.aload_n 1, 1) := by decide +kernel
theorem dX11_forgeCopy_1 : decode cX11_forgeCopy 1 = .ok (.getfield 319, 3) := by decide +kernel
theorem dX11_forgeCopy_4 : decode cX11_forgeCopy 4 = .ok (.ifCond .ne 10, 3) := by decide +kernel
theorem dX11_forgeCopy_7 : decode cX11_forgeCopy 7 = .ok (.aload_n 0, 1) := by decide +kernel
theorem dX11_forgeCopy_8 : decode cX11_forgeCopy 8 = .ok (.bipush 10, 2) := by decide +kernel
theorem dX11_forgeCopy_10 : decode cX11_forgeCopy 10 = .ok (.invokevirtual 316, 3) := by decide +kernel
theorem dX11_forgeCopy_13 : decode cX11_forgeCopy 13 = .ok (.ireturn, 1) := by decide +kernel
theorem dX11_forgeCopy_14 : decode cX11_forgeCopy 14 = .ok (.aload_n 1, 1) := by decide +kernel
theorem dX11_forgeCopy_15 : decode cX11_forgeCopy 15 = .ok (.getfield 319, 3) := by decide +kernel
theorem dX11_forgeCopy_18 : decode cX11_forgeCopy 18 = .ok (.iconst 3, 1) := by decide +kernel
theorem dX11_forgeCopy_19 : decode cX11_forgeCopy 19 = .ok (.if_icmp .eq 10, 3) := by decide +kernel
theorem dX11_forgeCopy_22 : decode cX11_forgeCopy 22 = .ok (.aload_n 0, 1) := by decide +kernel
theorem dX11_forgeCopy_23 : decode cX11_forgeCopy 23 = .ok (.bipush 11, 2) := by decide +kernel
theorem dX11_forgeCopy_25 : decode cX11_forgeCopy 25 = .ok (.invokevirtual 316, 3) := by decide +kernel
theorem dX11_forgeCopy_28 : decode cX11_forgeCopy 28 = .ok (.ireturn, 1) := by decide +kernel
theorem dX11_forgeCopy_29 : decode cX11_forgeCopy 29 = .ok (.iload_n 2, 1) := by decide +kernel
theorem dX11_forgeCopy_30 : decode cX11_forgeCopy 30 = .ok (.ifCond .lt 20, 3) := by decide +kernel
theorem dX11_forgeCopy_33 : decode cX11_forgeCopy 33 = .ok (.iconst 1, 1) := by decide +kernel
theorem dX11_forgeCopy_34 : decode cX11_forgeCopy 34 = .ok (.iload_n 2, 1) := by decide +kernel
theorem dX11_forgeCopy_35 : decode cX11_forgeCopy 35 = .ok (.iadd, 1) := by decide +kernel
theorem dX11_forgeCopy_36 : decode cX11_forgeCopy 36 = .ok (.aload_n 1, 1) := by decide +kernel
theorem dX11_forgeCopy_37 : decode cX11_forgeCopy 37 = .ok (.getfield 449, 3) := by decide +kernel
theorem dX11_forgeCopy_40 : decode cX11_forgeCopy 40 = .ok (.if_icmp .gt 10, 3) := by decide +kernel
theorem dX11_forgeCopy_43 : decode cX11_forgeCopy 43 = .ok (.iload_n 2, 1) := by decide +kernel
theorem dX11_forgeCopy_44 : decode cX11_forgeCopy 44 = .ok (.iload_n 2, 1) := by decide +kernel
theorem dX11_forgeCopy_45 : decode cX11_forgeCopy 45 = .ok (.iadd, 1) := by decide +kernel
theorem dX11_forgeCopy_46 : decode cX11_forgeCopy 46 = .ok (.iconst 5, 1) := by decide +kernel
theorem dX11_forgeCopy_47 : decode cX11_forgeCopy 47 = .ok (.if_icmp .le 10, 3) := by decide +kernel
theorem dX11_forgeCopy_50 : decode cX11_forgeCopy 50 = .ok (.aload_n 0, 1) := by decide +kernel
theorem dX11_forgeCopy_51 : decode cX11_forgeCopy 51 = .ok (.bipush 12, 2) := by decide +kernel
theorem dX11_forgeCopy_53 : decode cX11_forgeCopy 53 = .ok (.invokevirtual 316, 3) := by decide +kernel
theorem dX11_forgeCopy_56 : decode cX11_forgeCopy 56 = .ok (.ireturn, 1) := by decide +kernel
theorem dX11_forgeCopy_57 : decode cX11_forgeCopy 57 = .ok (.lconst 0, 1) := by decide +kernel
theorem dX11_forgeCopy_58 : decode cX11_forgeCopy 58 = .ok (.lstore_n 3, 1) := by decide +kernel
theorem dX11_forgeCopy_59 : decode cX11_forgeCopy 59 = .ok (.iconst 1, 1) := by decide +kernel
theorem dX11_forgeCopy_60 : decode cX11_forgeCopy 60 = .ok (.istore 5, 2) := by decide +kernel
theorem dX11_forgeCopy_62 : decode cX11_forgeCopy 62 = .ok (.iload 5, 2) := by decide +kernel
theorem dX11_forgeCopy_64 : decode cX11_forgeCopy 64 = .ok (.iload_n 2, 1) := by decide +kernel
theorem dX11_forgeCopy_65 : decode cX11_forgeCopy 65 = .ok (.if_icmp .gt 19, 3) := by decide +kernel
theorem dX11_forgeCopy_68 : decode cX11_forgeCopy 68 = .ok (.lload_n 3, 1) := by decide +kernel
theorem dX11_forgeCopy_69 : decode cX11_forgeCopy 69 = .ok (.aload_n 1, 1) := by decide +kernel
theorem dX11_forgeCopy_70 : decode cX11_forgeCopy 70 = .ok (.getfield 452, 3) := by decide +kernel
theorem dX11_forgeCopy_73 : decode cX11_forgeCopy 73 = .ok (.iload 5, 2) := by decide +kernel
theorem dX11_forgeCopy_75 : decode cX11_forgeCopy 75 = .ok (.laload, 1) := by decide +kernel
theorem dX11_forgeCopy_76 : decode cX11_forgeCopy 76 = .ok (.ladd, 1) := by decide +kernel
theorem dX11_forgeCopy_77 : decode cX11_forgeCopy 77 = .ok (.lstore_n 3, 1) := by decide +kernel
theorem dX11_forgeCopy_78 : decode cX11_forgeCopy 78 = .ok (.iinc 5 1, 3) := by decide +kernel
theorem dX11_forgeCopy_81 : decode cX11_forgeCopy 81 = .ok (.goto (-19), 3) := by decide +kernel
theorem dX11_forgeCopy_84 : decode cX11_forgeCopy 84 = .ok (.aload_n 0, 1) := by decide +kernel
theorem dX11_forgeCopy_85 : decode cX11_forgeCopy 85 = .ok (.lload_n 3, 1) := by decide +kernel
theorem dX11_forgeCopy_86 : decode cX11_forgeCopy 86 = .ok (.l2i, 1) := by decide +kernel
theorem dX11_forgeCopy_87 : decode cX11_forgeCopy 87 = .ok (.invokevirtual 337, 3) := by decide +kernel
theorem dX11_forgeCopy_90 : decode cX11_forgeCopy 90 = .ok (.ireturn, 1) := by decide +kernel
theorem dX11_isDay_0 : decode cX11_isDay 0 = .ok (.iload_n 0, 1) := by decide +kernel
theorem dX11_isDay_1 : decode cX11_isDay 1 = .ok (.iconst 0, 1) := by decide +kernel
theorem dX11_isDay_2 : decode cX11_isDay 2 = .ok (.sipush 400, 3) := by decide +kernel
theorem dX11_isDay_5 : decode cX11_isDay 5 = .ok (.invokestatic 124, 3) := by decide +kernel
theorem dX11_isDay_8 : decode cX11_isDay 8 = .ok (.ireturn, 1) := by decide +kernel
theorem dX11_isInstrument_0 : decode cX11_isInstrument 0 = .ok (.iload_n 0, 1) := by decide +kernel
theorem dX11_isInstrument_1 : decode cX11_isInstrument 1 = .ok (.iconst 0, 1) := by decide +kernel
theorem dX11_isInstrument_2 : decode cX11_isInstrument 2 = .ok (.iconst 5, 1) := by decide +kernel
theorem dX11_isInstrument_3 : decode cX11_isInstrument 3 = .ok (.invokestatic 124, 3) := by decide +kernel
theorem dX11_isInstrument_6 : decode cX11_isInstrument 6 = .ok (.ireturn, 1) := by decide +kernel
theorem dX11_price_0 : decode cX11_price 0 = .ok (.iload_n 1, 1) := by decide +kernel
theorem dX11_price_1 : decode cX11_price 1 = .ok (.iconst 0, 1) := by decide +kernel
theorem dX11_price_2 : decode cX11_price 2 = .ok (.iconst 1, 1) := by decide +kernel
theorem dX11_price_3 : decode cX11_price 3 = .ok (.aload_n 0, 1) := by decide +kernel
theorem dX11_price_4 : decode cX11_price 4 = .ok (.getfield 78, 3) := by decide +kernel
theorem dX11_price_7 : decode cX11_price 7 = .ok (.ishl, 1) := by decide +kernel
theorem dX11_price_8 : decode cX11_price 8 = .ok (.iconst 1, 1) := by decide +kernel
theorem dX11_price_9 : decode cX11_price 9 = .ok (.isub, 1) := by decide +kernel
theorem dX11_price_10 : decode cX11_price 10 = .ok (.invokestatic 124, 3) := by decide +kernel
theorem dX11_price_13 : decode cX11_price 13 = .ok (.ifCond .ne 6, 3) := by decide +kernel
theorem dX11_price_16 : decode cX11_price 16 = .ok (.bipush (-2), 2) := by decide +kernel
theorem dX11_price_18 : decode cX11_price 18 = .ok (.ireturn, 1) := by decide +kernel
theorem dX11_price_19 : decode cX11_price 19 = .ok (.iconst 0, 1) := by decide +kernel
theorem dX11_price_20 : decode cX11_price 20 = .ok (.istore_n 2, 1) := by decide +kernel
theorem dX11_price_21 : decode cX11_price 21 = .ok (.iconst 0, 1) := by decide +kernel
theorem dX11_price_22 : decode cX11_price 22 = .ok (.istore_n 3, 1) := by decide +kernel
theorem dX11_price_23 : decode cX11_price 23 = .ok (.iload_n 3, 1) := by decide +kernel
theorem dX11_price_24 : decode cX11_price 24 = .ok (.aload_n 0, 1) := by decide +kernel
theorem dX11_price_25 : decode cX11_price 25 = .ok (.getfield 78, 3) := by decide +kernel
theorem dX11_price_28 : decode cX11_price 28 = .ok (.if_icmp .ge 30, 3) := by decide +kernel
theorem dX11_price_31 : decode cX11_price 31 = .ok (.iload_n 1, 1) := by decide +kernel
theorem dX11_price_32 : decode cX11_price 32 = .ok (.iload_n 3, 1) := by decide +kernel
theorem dX11_price_33 : decode cX11_price 33 = .ok (.ishr, 1) := by decide +kernel
theorem dX11_price_34 : decode cX11_price 34 = .ok (.iconst 1, 1) := by decide +kernel
theorem dX11_price_35 : decode cX11_price 35 = .ok (.iand, 1) := by decide +kernel
theorem dX11_price_36 : decode cX11_price 36 = .ok (.iconst 1, 1) := by decide +kernel
theorem dX11_price_37 : decode cX11_price 37 = .ok (.if_icmp .ne 15, 3) := by decide +kernel
theorem dX11_price_40 : decode cX11_price 40 = .ok (.iload_n 2, 1) := by decide +kernel
theorem dX11_price_41 : decode cX11_price 41 = .ok (.aload_n 0, 1) := by decide +kernel
theorem dX11_price_42 : decode cX11_price 42 = .ok (.getfield 11, 3) := by decide +kernel
theorem dX11_price_45 : decode cX11_price 45 = .ok (.iload_n 3, 1) := by decide +kernel
theorem dX11_price_46 : decode cX11_price 46 = .ok (.aaload, 1) := by decide +kernel
theorem dX11_price_47 : decode cX11_price 47 = .ok (.getfield 196, 3) := by decide +kernel
theorem dX11_price_50 : decode cX11_price 50 = .ok (.iadd, 1) := by decide +kernel
theorem dX11_price_51 : decode cX11_price 51 = .ok (.istore_n 2, 1) := by decide +kernel
theorem dX11_price_52 : decode cX11_price 52 = .ok (.iinc 3 1, 3) := by decide +kernel
theorem dX11_price_55 : decode cX11_price 55 = .ok (.goto (-32), 3) := by decide +kernel
theorem dX11_price_58 : decode cX11_price 58 = .ok (.iload_n 2, 1) := by decide +kernel
theorem dX11_price_59 : decode cX11_price 59 = .ok (.ireturn, 1) := by decide +kernel
theorem dX11_putBytes_0 : decode cX11_putBytes 0 = .ok (.aload_n 1, 1) := by decide +kernel
theorem dX11_putBytes_1 : decode cX11_putBytes 1 = .ok (.aload_n 0, 1) := by decide +kernel
theorem dX11_putBytes_2 : decode cX11_putBytes 2 = .ok (.getfield 29, 3) := by decide +kernel
theorem dX11_putBytes_5 : decode cX11_putBytes 5 = .ok (.aload_n 0, 1) := by decide +kernel
theorem dX11_putBytes_6 : decode cX11_putBytes 6 = .ok (.iload_n 2, 1) := by decide +kernel
theorem dX11_putBytes_7 : decode cX11_putBytes 7 = .ok (.invokevirtual 238, 3) := by decide +kernel
theorem dX11_putBytes_10 : decode cX11_putBytes 10 = .ok (.aaload, 1) := by decide +kernel
theorem dX11_putBytes_11 : decode cX11_putBytes 11 = .ok (.getfield 445, 3) := by decide +kernel
theorem dX11_putBytes_14 : decode cX11_putBytes 14 = .ok (.putfield 448, 3) := by decide +kernel
theorem dX11_putBytes_17 : decode cX11_putBytes 17 = .ok (.aload_n 1, 1) := by decide +kernel
theorem dX11_putBytes_18 : decode cX11_putBytes 18 = .ok (.aload_n 1, 1) := by decide +kernel
theorem dX11_putBytes_19 : decode cX11_putBytes 19 = .ok (.getfield 448, 3) := by decide +kernel
theorem dX11_putBytes_22 : decode cX11_putBytes 22 = .ok (.arraylength, 1) := by decide +kernel
theorem dX11_putBytes_23 : decode cX11_putBytes 23 = .ok (.putfield 449, 3) := by decide +kernel
theorem dX11_putBytes_26 : decode cX11_putBytes 26 = .ok (.return_, 1) := by decide +kernel
theorem w_X0_addPost (l : Launch) (p1 : Int32) (M : o_M) (q : o_M → Prop) (h : (mR M 38 0 = some 39 ∧ (vp_in p1 (mN M 39) ∧ (vp_in p1 (mN M 39) ∧ q (sI M 39 p1.toNatClampNeg ((mI M 39 p1.toNatClampNeg) + 1)))))) : K_X0_addPost l [rV (some 38), iV p1] M q := by
  refine o_ctr (ini := false) (by decide +kernel) rfl (fun z => by cases z) (Nat.le_of_ble_eq_true rfl) ?_
  show E_X0_addPost l q 0 [(0, rV (some 38)), (1, iV p1)] [] M 0 0
  refine e_aload_n dX0_addPost_0 rfl rfl ?_
  obtain ⟨o1, h⟩ := h
  refine e_gA flX0_9 rfl rfl o1 dX0_addPost_1 ?_
  refine e_iload_n dX0_addPost_4 rfl rfl ?_
  refine e_dup2 rfl rfl dX0_addPost_5 ?_
  obtain ⟨o2, h⟩ := h
  refine e_iald rfl o2 dX0_addPost_6 ?_
  refine e_iconst (v := 1) dX0_addPost_7 (by decide) ?_
  refine e_iadd dX0_addPost_8 ?_
  obtain ⟨o3, h⟩ := h
  refine e_iast rfl o3 dX0_addPost_9 ?_
  exact e_ret rfl dX0_addPost_10 ⟨rfl, h⟩
theorem w_X0_bitOf (l : Launch) (p0 : Int32) (M : o_M) (q : Int32 → o_M → Prop) (h : q ((1 : Int32) <<< ((11 - p0) &&& 31)) M) : K_X0_bitOf l [iV p0] M q := by
  refine o_ctr (ini := false) (by decide +kernel) rfl (fun z => by cases z) (Nat.le_of_ble_eq_true rfl) ?_
  show E_X0_bitOf l q 0 [(0, iV p0)] [] M 0 0
  refine e_iconst (v := 1) dX0_bitOf_0 (by decide) ?_
  refine e_bipush (v := 11) dX0_bitOf_1 (by decide) ?_
  refine e_iload_n dX0_bitOf_3 rfl rfl ?_
  refine e_isub dX0_bitOf_4 ?_
  refine e_ishl dX0_bitOf_5 ?_
  exact e_iret rfl trivial dX0_bitOf_6 ⟨_, rfl, h⟩
theorem w_X10_needOf (l : Launch) (a0 : Nat) (p1 : Int32) (t0 : o_ty a0 = .inl 10) (M : o_M) (q : Int32 → o_M → Prop) (h : q (((mI M a0 2) >>> ((2 * p1) &&& 31)) &&& 3) M) : K_X10_needOf l [rV (some a0), iV p1] M q := by
  refine o_ctr (ini := false) (by decide +kernel) rfl (fun z => by cases z) (Nat.le_of_ble_eq_true rfl) ?_
  show E_X10_needOf l q 0 [(0, rV (some a0)), (1, iV p1)] [] M 0 0
  refine e_aload_n dX10_needOf_0 rfl rfl ?_
  refine e_gI flX10_27 t0 rfl dX10_needOf_1 ?_
  refine e_iconst (v := 2) dX10_needOf_4 (by decide) ?_
  refine e_iload_n dX10_needOf_5 rfl rfl ?_
  refine e_imul dX10_needOf_6 ?_
  refine e_ishr dX10_needOf_7 ?_
  refine e_iconst (v := 3) dX10_needOf_8 (by decide) ?_
  refine e_iand dX10_needOf_9 ?_
  exact e_iret rfl trivial dX10_needOf_10 ⟨_, rfl, h⟩
abbrev H_X11_countSeated_4 (l : Launch) (q : Int32 → o_M → Prop) (v1 : Int32) (v2 : Int32) (M : o_M) : Prop := E_X11_countSeated l q 4 [(0, rV (some 16)), (1, iV v1), (2, iV v2)] [] M 0 0
theorem w_X11_countSeated (l : Launch) (M : o_M) (q : Int32 → o_M → Prop) (h : H_X11_countSeated_4 l q 0 0 M) : K_X11_countSeated l [rV (some 16)] M q := by
  refine o_ctr (ini := false) (by decide +kernel) rfl (fun z => by cases z) (Nat.le_of_ble_eq_true rfl) ?_
  show E_X11_countSeated l q 0 [(0, rV (some 16))] [] M 0 0
  refine e_iconst (v := 0) dX11_countSeated_0 (by decide) ?_
  refine e_istore_n (lv' := [(1, iV 0), (0, rV (some 16))]) dX11_countSeated_1 rfl (by decide) rfl ?_
  refine e_iconst (v := 0) dX11_countSeated_2 (by decide) ?_
  refine e_istore_n (lv' := [(2, iV 0), (1, iV 0), (0, rV (some 16))]) dX11_countSeated_3 rfl (by decide) rfl ?_
  exact e_lv (List.forall_mem_cons.mpr ⟨rfl, List.forall_mem_cons.mpr ⟨rfl, List.forall_mem_cons.mpr ⟨rfl, fun _ h => absurd h List.not_mem_nil⟩⟩⟩) h
theorem w_X11_countSeated_4 (l : Launch) (q : Int32 → o_M → Prop) (v1 : Int32) (v2 : Int32) (M : o_M) (h : (((mI M 16 13) ≤ v2 → q v1 M) ∧ (¬ (mI M 16 13) ≤ v2 → (mR M 16 2 = some 19 ∧ (vp_in v2 (mN M 19) ∧ (∃ b4, mR M 19 v2.toNatClampNeg = some b4 ∧ o_ty b4 = .inl 6 ∧ (((mI M b4 11) = 0 → H_X11_countSeated_4 l q v1 (v2 + 1) M) ∧ (¬ (mI M b4 11) = 0 → H_X11_countSeated_4 l q (v1 + 1) (v2 + 1) M)))))))) : H_X11_countSeated_4 l q v1 v2 M := by
  refine e_iload_n dX11_countSeated_4 rfl rfl ?_
  refine e_aload_n dX11_countSeated_5 rfl rfl ?_
  refine e_gI flX11_85 rfl rfl dX11_countSeated_6 ?_
  refine e_ic_ge (tgt := 33) dX11_countSeated_9 (by decide) (fun c1 => ?_) (fun c1 => ?_)
  · replace h := h.1 c1
    refine e_iload_n dX11_countSeated_33 rfl rfl ?_
    exact e_iret rfl trivial dX11_countSeated_34 ⟨_, rfl, h⟩
  · replace h := h.2 c1
    refine e_aload_n dX11_countSeated_12 rfl rfl ?_
    obtain ⟨o2, h⟩ := h
    refine e_gA flX11_23 rfl rfl o2 dX11_countSeated_13 ?_
    refine e_iload_n dX11_countSeated_16 rfl rfl ?_
    obtain ⟨o3, h⟩ := h
    obtain ⟨b4, o5, o6, h⟩ := h
    refine e_aaldS rfl o3 o5 dX11_countSeated_17 ?_
    refine e_gI flX11_177 o6 rfl dX11_countSeated_18 ?_
    refine e_if_eq (tgt := 27) dX11_countSeated_21 (by decide) (fun c7 => ?_) (fun c7 => ?_)
    · replace h := h.1 c7
      refine e_iinc (v := 1) (lv' := [(2, iV (v2 + 1)), (0, rV (some 16)), (1, iV v1)]) rfl (by decide) (by decide) rfl dX11_countSeated_27 ?_
      refine e_goto (tgt := 4) dX11_countSeated_30 (by decide) ?_
      exact e_lv (List.forall_mem_cons.mpr ⟨rfl, List.forall_mem_cons.mpr ⟨rfl, List.forall_mem_cons.mpr ⟨rfl, fun _ h => absurd h List.not_mem_nil⟩⟩⟩) h
    · replace h := h.2 c7
      refine e_iinc (v := 1) (lv' := [(1, iV (v1 + 1)), (0, rV (some 16)), (2, iV v2)]) rfl (by decide) (by decide) rfl dX11_countSeated_24 ?_
      refine e_iinc (v := 1) (lv' := [(2, iV (v2 + 1)), (1, iV (v1 + 1)), (0, rV (some 16))]) rfl (by decide) (by decide) rfl dX11_countSeated_27 ?_
      refine e_goto (tgt := 4) dX11_countSeated_30 (by decide) ?_
      exact e_lv (List.forall_mem_cons.mpr ⟨rfl, List.forall_mem_cons.mpr ⟨rfl, List.forall_mem_cons.mpr ⟨rfl, fun _ h => absurd h List.not_mem_nil⟩⟩⟩) h
abbrev H_X11_countSeatedGaps_4 (l : Launch) (q : Int32 → o_M → Prop) (v1 : Int32) (v2 : Int32) (M : o_M) : Prop := E_X11_countSeatedGaps l q 4 [(0, rV (some 16)), (1, iV v1), (2, iV v2)] [] M 0 0
theorem w_X11_countSeatedGaps (l : Launch) (M : o_M) (q : Int32 → o_M → Prop) (h : H_X11_countSeatedGaps_4 l q 0 0 M) : K_X11_countSeatedGaps l [rV (some 16)] M q := by
  refine o_ctr (ini := false) (by decide +kernel) rfl (fun z => by cases z) (Nat.le_of_ble_eq_true rfl) ?_
  show E_X11_countSeatedGaps l q 0 [(0, rV (some 16))] [] M 0 0
  refine e_iconst (v := 0) dX11_countSeatedGaps_0 (by decide) ?_
  refine e_istore_n (lv' := [(1, iV 0), (0, rV (some 16))]) dX11_countSeatedGaps_1 rfl (by decide) rfl ?_
  refine e_iconst (v := 0) dX11_countSeatedGaps_2 (by decide) ?_
  refine e_istore_n (lv' := [(2, iV 0), (1, iV 0), (0, rV (some 16))]) dX11_countSeatedGaps_3 rfl (by decide) rfl ?_
  exact e_lv (List.forall_mem_cons.mpr ⟨rfl, List.forall_mem_cons.mpr ⟨rfl, List.forall_mem_cons.mpr ⟨rfl, fun _ h => absurd h List.not_mem_nil⟩⟩⟩) h
theorem w_X11_countSeatedGaps_4 (l : Launch) (q : Int32 → o_M → Prop) (v1 : Int32) (v2 : Int32) (M : o_M) (h : (((mI M 16 13) ≤ v2 → q v1 M) ∧ (¬ (mI M 16 13) ≤ v2 → (mR M 16 2 = some 19 ∧ (vp_in v2 (mN M 19) ∧ (∃ b4, mR M 19 v2.toNatClampNeg = some b4 ∧ o_ty b4 = .inl 6 ∧ (((mI M b4 11) = 0 → H_X11_countSeatedGaps_4 l q v1 (v2 + 1) M) ∧ (¬ (mI M b4 11) = 0 → (mR M 16 2 = some 19 ∧ (vp_in v2 (mN M 19) ∧ (∃ b10, mR M 19 v2.toNatClampNeg = some b10 ∧ o_ty b10 = .inl 6 ∧ H_X11_countSeatedGaps_4 l q (v1 + (mI M b10 9)) (v2 + 1) M))))))))))) : H_X11_countSeatedGaps_4 l q v1 v2 M := by
  refine e_iload_n dX11_countSeatedGaps_4 rfl rfl ?_
  refine e_aload_n dX11_countSeatedGaps_5 rfl rfl ?_
  refine e_gI flX11_85 rfl rfl dX11_countSeatedGaps_6 ?_
  refine e_ic_ge (tgt := 42) dX11_countSeatedGaps_9 (by decide) (fun c1 => ?_) (fun c1 => ?_)
  · replace h := h.1 c1
    refine e_iload_n dX11_countSeatedGaps_42 rfl rfl ?_
    exact e_iret rfl trivial dX11_countSeatedGaps_43 ⟨_, rfl, h⟩
  · replace h := h.2 c1
    refine e_aload_n dX11_countSeatedGaps_12 rfl rfl ?_
    obtain ⟨o2, h⟩ := h
    refine e_gA flX11_23 rfl rfl o2 dX11_countSeatedGaps_13 ?_
    refine e_iload_n dX11_countSeatedGaps_16 rfl rfl ?_
    obtain ⟨o3, h⟩ := h
    obtain ⟨b4, o5, o6, h⟩ := h
    refine e_aaldS rfl o3 o5 dX11_countSeatedGaps_17 ?_
    refine e_gI flX11_177 o6 rfl dX11_countSeatedGaps_18 ?_
    refine e_if_eq (tgt := 36) dX11_countSeatedGaps_21 (by decide) (fun c7 => ?_) (fun c7 => ?_)
    · replace h := h.1 c7
      refine e_iinc (v := 1) (lv' := [(2, iV (v2 + 1)), (0, rV (some 16)), (1, iV v1)]) rfl (by decide) (by decide) rfl dX11_countSeatedGaps_36 ?_
      refine e_goto (tgt := 4) dX11_countSeatedGaps_39 (by decide) ?_
      exact e_lv (List.forall_mem_cons.mpr ⟨rfl, List.forall_mem_cons.mpr ⟨rfl, List.forall_mem_cons.mpr ⟨rfl, fun _ h => absurd h List.not_mem_nil⟩⟩⟩) h
    · replace h := h.2 c7
      refine e_iload_n dX11_countSeatedGaps_24 rfl rfl ?_
      refine e_aload_n dX11_countSeatedGaps_25 rfl rfl ?_
      obtain ⟨o8, h⟩ := h
      refine e_gA flX11_23 rfl rfl o8 dX11_countSeatedGaps_26 ?_
      refine e_iload_n dX11_countSeatedGaps_29 rfl rfl ?_
      obtain ⟨o9, h⟩ := h
      obtain ⟨b10, o11, o12, h⟩ := h
      refine e_aaldS rfl o9 o11 dX11_countSeatedGaps_30 ?_
      refine e_gI flX11_232 o12 rfl dX11_countSeatedGaps_31 ?_
      refine e_iadd dX11_countSeatedGaps_34 ?_
      refine e_istore_n (lv' := [(1, iV (v1 + (mI M b10 9))), (0, rV (some 16)), (2, iV v2)]) dX11_countSeatedGaps_35 rfl (by decide) rfl ?_
      refine e_iinc (v := 1) (lv' := [(2, iV (v2 + 1)), (1, iV (v1 + (mI M b10 9))), (0, rV (some 16))]) rfl (by decide) (by decide) rfl dX11_countSeatedGaps_36 ?_
      refine e_goto (tgt := 4) dX11_countSeatedGaps_39 (by decide) ?_
      exact e_lv (List.forall_mem_cons.mpr ⟨rfl, List.forall_mem_cons.mpr ⟨rfl, List.forall_mem_cons.mpr ⟨rfl, fun _ h => absurd h List.not_mem_nil⟩⟩⟩) h
abbrev H_X11_findInForce_7 (l : Launch) (q : Int32 → o_M → Prop) (v1 : Int32) (v2 : Int32) (v3 : Int32) (v4 : Int32) (M : o_M) : Prop := E_X11_findInForce l q 7 [(0, rV (some 16)), (1, iV v1), (2, iV v2), (3, iV v3), (4, iV v4)] [] M 0 0
theorem w_X11_findInForce (l : Launch) (p1 : Int32) (M : o_M) (q : Int32 → o_M → Prop) (h : H_X11_findInForce_7 l q p1 0 0 0 M) : K_X11_findInForce l [rV (some 16), iV p1] M q := by
  refine o_ctr (ini := false) (by decide +kernel) rfl (fun z => by cases z) (Nat.le_of_ble_eq_true rfl) ?_
  show E_X11_findInForce l q 0 [(0, rV (some 16)), (1, iV p1)] [] M 0 0
  refine e_iconst (v := 0) dX11_findInForce_0 (by decide) ?_
  refine e_istore_n (lv' := [(2, iV 0), (0, rV (some 16)), (1, iV p1)]) dX11_findInForce_1 rfl (by decide) rfl ?_
  refine e_iconst (v := 0) dX11_findInForce_2 (by decide) ?_
  refine e_istore_n (lv' := [(3, iV 0), (2, iV 0), (0, rV (some 16)), (1, iV p1)]) dX11_findInForce_3 rfl (by decide) rfl ?_
  refine e_iconst (v := 0) dX11_findInForce_4 (by decide) ?_
  refine e_istore (lv' := [(4, iV 0), (3, iV 0), (2, iV 0), (0, rV (some 16)), (1, iV p1)]) (by decide) rfl dX11_findInForce_5 ?_
  exact e_lv (List.forall_mem_cons.mpr ⟨rfl, List.forall_mem_cons.mpr ⟨rfl, List.forall_mem_cons.mpr ⟨rfl, List.forall_mem_cons.mpr ⟨rfl, List.forall_mem_cons.mpr ⟨rfl, fun _ h => absurd h List.not_mem_nil⟩⟩⟩⟩⟩) h
theorem w_X11_findInForce_7 (l : Launch) (q : Int32 → o_M → Prop) (v1 : Int32) (v2 : Int32) (v3 : Int32) (v4 : Int32) (M : o_M) (h : (((mI M 16 14) ≤ v4 → q v2 M) ∧ (¬ (mI M 16 14) ≤ v4 → (mR M 16 3 = some 20 ∧ (vp_in v4 (mN M 20) ∧ (∃ b4, mR M 20 v4.toNatClampNeg = some b4 ∧ o_ty b4 = .inl 7 ∧ (((mI M b4 5) ≤ v3 → H_X11_findInForce_7 l q v1 v2 v3 (v4 + 1) M) ∧ (¬ (mI M b4 5) ≤ v3 → ((v1 < (mI M b4 4) → H_X11_findInForce_7 l q v1 v2 v3 (v4 + 1) M) ∧ (¬ v1 < (mI M b4 4) → H_X11_findInForce_7 l q v1 v4 (mI M b4 5) (v4 + 1) M)))))))))) : H_X11_findInForce_7 l q v1 v2 v3 v4 M := by
  refine e_iload rfl dX11_findInForce_7 ?_
  refine e_aload_n dX11_findInForce_9 rfl rfl ?_
  refine e_gI flX11_88 rfl rfl dX11_findInForce_10 ?_
  refine e_ic_ge (tgt := 58) dX11_findInForce_13 (by decide) (fun c1 => ?_) (fun c1 => ?_)
  · replace h := h.1 c1
    refine e_iload_n dX11_findInForce_58 rfl rfl ?_
    exact e_iret rfl trivial dX11_findInForce_59 ⟨_, rfl, h⟩
  · replace h := h.2 c1
    refine e_aload_n dX11_findInForce_16 rfl rfl ?_
    obtain ⟨o2, h⟩ := h
    refine e_gA flX11_29 rfl rfl o2 dX11_findInForce_17 ?_
    refine e_iload rfl dX11_findInForce_20 ?_
    obtain ⟨o3, h⟩ := h
    obtain ⟨b4, o5, o6, h⟩ := h
    refine e_aaldS rfl o3 o5 dX11_findInForce_22 ?_
    refine e_astore (lv' := [(5, rV (some b4)), (0, rV (some 16)), (1, iV v1), (2, iV v2), (3, iV v3), (4, iV v4)]) (by decide) rfl dX11_findInForce_23 ?_
    refine e_aload rfl dX11_findInForce_25 ?_
    refine e_gI flX11_390 o6 rfl dX11_findInForce_27 ?_
    refine e_iload_n dX11_findInForce_30 rfl rfl ?_
    refine e_ic_le (tgt := 52) dX11_findInForce_31 (by decide) (fun c7 => ?_) (fun c7 => ?_)
    · replace h := h.1 c7
      refine e_iinc (v := 1) (lv' := [(4, iV (v4 + 1)), (5, rV (some b4)), (0, rV (some 16)), (1, iV v1), (2, iV v2), (3, iV v3)]) rfl (by decide) (by decide) rfl dX11_findInForce_52 ?_
      refine e_goto (tgt := 7) dX11_findInForce_55 (by decide) ?_
      exact e_lv (List.forall_mem_cons.mpr ⟨rfl, List.forall_mem_cons.mpr ⟨rfl, List.forall_mem_cons.mpr ⟨rfl, List.forall_mem_cons.mpr ⟨rfl, List.forall_mem_cons.mpr ⟨rfl, fun _ h => absurd h List.not_mem_nil⟩⟩⟩⟩⟩) h
    · replace h := h.2 c7
      refine e_aload rfl dX11_findInForce_34 ?_
      refine e_gI flX11_387 o6 rfl dX11_findInForce_36 ?_
      refine e_iload_n dX11_findInForce_39 rfl rfl ?_
      refine e_ic_gt (tgt := 52) dX11_findInForce_40 (by decide) (fun c8 => ?_) (fun c8 => ?_)
      · replace h := h.1 c8
        refine e_iinc (v := 1) (lv' := [(4, iV (v4 + 1)), (5, rV (some b4)), (0, rV (some 16)), (1, iV v1), (2, iV v2), (3, iV v3)]) rfl (by decide) (by decide) rfl dX11_findInForce_52 ?_
        refine e_goto (tgt := 7) dX11_findInForce_55 (by decide) ?_
        exact e_lv (List.forall_mem_cons.mpr ⟨rfl, List.forall_mem_cons.mpr ⟨rfl, List.forall_mem_cons.mpr ⟨rfl, List.forall_mem_cons.mpr ⟨rfl, List.forall_mem_cons.mpr ⟨rfl, fun _ h => absurd h List.not_mem_nil⟩⟩⟩⟩⟩) h
      · replace h := h.2 c8
        refine e_iload rfl dX11_findInForce_43 ?_
        refine e_istore_n (lv' := [(2, iV v4), (5, rV (some b4)), (0, rV (some 16)), (1, iV v1), (3, iV v3), (4, iV v4)]) dX11_findInForce_45 rfl (by decide) rfl ?_
        refine e_aload rfl dX11_findInForce_46 ?_
        refine e_gI flX11_390 o6 rfl dX11_findInForce_48 ?_
        refine e_istore_n (lv' := [(3, iV (mI M b4 5)), (2, iV v4), (5, rV (some b4)), (0, rV (some 16)), (1, iV v1), (4, iV v4)]) dX11_findInForce_51 rfl (by decide) rfl ?_
        refine e_iinc (v := 1) (lv' := [(4, iV (v4 + 1)), (3, iV (mI M b4 5)), (2, iV v4), (5, rV (some b4)), (0, rV (some 16)), (1, iV v1)]) rfl (by decide) (by decide) rfl dX11_findInForce_52 ?_
        refine e_goto (tgt := 7) dX11_findInForce_55 (by decide) ?_
        exact e_lv (List.forall_mem_cons.mpr ⟨rfl, List.forall_mem_cons.mpr ⟨rfl, List.forall_mem_cons.mpr ⟨rfl, List.forall_mem_cons.mpr ⟨rfl, List.forall_mem_cons.mpr ⟨rfl, fun _ h => absurd h List.not_mem_nil⟩⟩⟩⟩⟩) h
theorem w_X11_hostAnswers (l : Launch) (p1 : Int32) (M : o_M) (q : Int32 → o_M → Prop) (h : q p1 (sI M 16 17 0)) : K_X11_hostAnswers l [rV (some 16), iV p1] M q := by
  refine o_ctr (ini := false) (by decide +kernel) rfl (fun z => by cases z) (Nat.le_of_ble_eq_true rfl) ?_
  show E_X11_hostAnswers l q 0 [(0, rV (some 16)), (1, iV p1)] [] M 0 0
  refine e_aload_n dX11_hostAnswers_0 rfl rfl ?_
  refine e_iconst (v := 0) dX11_hostAnswers_1 (by decide) ?_
  refine e_pI flX11_97 rfl (Or.inl rfl) rfl rfl rfl dX11_hostAnswers_2 ?_
  refine e_iload_n dX11_hostAnswers_5 rfl rfl ?_
  exact e_iret rfl trivial dX11_hostAnswers_6 ⟨_, rfl, h⟩
theorem w_X11_hostRefuses (l : Launch) (p1 : Int32) (M : o_M) (q : Int32 → o_M → Prop) (h : q (-1) (sI M 16 17 p1)) : K_X11_hostRefuses l [rV (some 16), iV p1] M q := by
  refine o_ctr (ini := false) (by decide +kernel) rfl (fun z => by cases z) (Nat.le_of_ble_eq_true rfl) ?_
  show E_X11_hostRefuses l q 0 [(0, rV (some 16)), (1, iV p1)] [] M 0 0
  refine e_aload_n dX11_hostRefuses_0 rfl rfl ?_
  refine e_iload_n dX11_hostRefuses_1 rfl rfl ?_
  refine e_pI flX11_97 rfl (Or.inl rfl) rfl rfl rfl dX11_hostRefuses_2 ?_
  refine e_iconst (v := (-1)) dX11_hostRefuses_5 (by decide) ?_
  exact e_iret rfl trivial dX11_hostRefuses_6 ⟨_, rfl, h⟩
theorem w_X11_isWithin (l : Launch) (p0 : Int32) (p1 : Int32) (p2 : Int32) (M : o_M) (q : Int32 → o_M → Prop) (h : ((p0 < p1 → q 0 M) ∧ (¬ p0 < p1 → ((p2 < p0 → q 0 M) ∧ (¬ p2 < p0 → q 1 M))))) : K_X11_isWithin l [iV p0, iV p1, iV p2] M q := by
  refine o_ctr (ini := false) (by decide +kernel) rfl (fun z => by cases z) (Nat.le_of_ble_eq_true rfl) ?_
  show E_X11_isWithin l q 0 [(0, iV p0), (1, iV p1), (2, iV p2)] [] M 0 0
  refine e_iload_n dX11_isWithin_0 rfl rfl ?_
  refine e_iload_n dX11_isWithin_1 rfl rfl ?_
  refine e_ic_lt (tgt := 14) dX11_isWithin_2 (by decide) (fun c1 => ?_) (fun c1 => ?_)
  · replace h := h.1 c1
    refine e_iconst (v := 0) dX11_isWithin_14 (by decide) ?_
    exact e_iret rfl rb_0 dX11_isWithin_15 ⟨_, rfl, h⟩
  · replace h := h.2 c1
    refine e_iload_n dX11_isWithin_5 rfl rfl ?_
    refine e_iload_n dX11_isWithin_6 rfl rfl ?_
    refine e_ic_gt (tgt := 14) dX11_isWithin_7 (by decide) (fun c2 => ?_) (fun c2 => ?_)
    · replace h := h.1 c2
      refine e_iconst (v := 0) dX11_isWithin_14 (by decide) ?_
      exact e_iret rfl rb_0 dX11_isWithin_15 ⟨_, rfl, h⟩
    · replace h := h.2 c2
      refine e_iconst (v := 1) dX11_isWithin_10 (by decide) ?_
      refine e_goto (tgt := 15) dX11_isWithin_11 (by decide) ?_
      exact e_iret rfl rb_1 dX11_isWithin_15 ⟨_, rfl, h⟩
theorem w_X11_status (l : Launch) (M : o_M) (q : Int32 → o_M → Prop) (h : q (mI M 16 17) M) : K_X11_status l [rV (some 16)] M q := by
  refine o_ctr (ini := false) (by decide +kernel) rfl (fun z => by cases z) (Nat.le_of_ble_eq_true rfl) ?_
  show E_X11_status l q 0 [(0, rV (some 16))] [] M 0 0
  refine e_aload_n dX11_status_0 rfl rfl ?_
  refine e_gI flX11_97 rfl rfl dX11_status_1 ?_
  exact e_iret rfl trivial dX11_status_4 ⟨_, rfl, h⟩
theorem w_X11_tellForce (l : Launch) (p1 : Int32) (p2 : Int32) (M : o_M) (q : o_M → Prop) (h : (mR (sI M 16 16 ((mI M 16 16) + 1)) 16 3 = some 20 ∧ (vp_in p1 (mN (sI M 16 16 ((mI M 16 16) + 1)) 20) ∧ (∃ b3, mR (sI M 16 16 ((mI M 16 16) + 1)) 20 p1.toNatClampNeg = some b3 ∧ o_ty b3 = .inl 7 ∧ (mR (sI (sI M 16 16 ((mI M 16 16) + 1)) b3 4 p2) 16 3 = some 20 ∧ (vp_in p1 (mN (sI (sI M 16 16 ((mI M 16 16) + 1)) b3 4 p2) 20) ∧ (∃ b8, mR (sI (sI M 16 16 ((mI M 16 16) + 1)) b3 4 p2) 20 p1.toNatClampNeg = some b8 ∧ o_ty b8 = .inl 7 ∧ q (sI (sI (sI M 16 16 ((mI M 16 16) + 1)) b3 4 p2) b8 5 (mI (sI (sI M 16 16 ((mI M 16 16) + 1)) b3 4 p2) 16 16))))))))) : K_X11_tellForce l [rV (some 16), iV p1, iV p2] M q := by
  refine o_ctr (ini := false) (by decide +kernel) rfl (fun z => by cases z) (Nat.le_of_ble_eq_true rfl) ?_
  show E_X11_tellForce l q 0 [(0, rV (some 16)), (1, iV p1), (2, iV p2)] [] M 0 0
  refine e_aload_n dX11_tellForce_0 rfl rfl ?_
  refine e_dup rfl dX11_tellForce_1 ?_
  refine e_gI flX11_94 rfl rfl dX11_tellForce_2 ?_
  refine e_iconst (v := 1) dX11_tellForce_5 (by decide) ?_
  refine e_iadd dX11_tellForce_6 ?_
  refine e_pI flX11_94 rfl (Or.inl rfl) rfl rfl rfl dX11_tellForce_7 ?_
  refine e_aload_n dX11_tellForce_10 rfl rfl ?_
  obtain ⟨o1, h⟩ := h
  refine e_gA flX11_29 rfl rfl o1 dX11_tellForce_11 ?_
  refine e_iload_n dX11_tellForce_14 rfl rfl ?_
  obtain ⟨o2, h⟩ := h
  obtain ⟨b3, o4, o5, h⟩ := h
  refine e_aaldS rfl o2 o4 dX11_tellForce_15 ?_
  refine e_iload_n dX11_tellForce_16 rfl rfl ?_
  refine e_pI flX11_387 o5 (Or.inl rfl) rfl rfl rfl dX11_tellForce_17 ?_
  refine e_aload_n dX11_tellForce_20 rfl rfl ?_
  obtain ⟨o6, h⟩ := h
  refine e_gA flX11_29 rfl rfl o6 dX11_tellForce_21 ?_
  refine e_iload_n dX11_tellForce_24 rfl rfl ?_
  obtain ⟨o7, h⟩ := h
  obtain ⟨b8, o9, o10, h⟩ := h
  refine e_aaldS rfl o7 o9 dX11_tellForce_25 ?_
  refine e_aload_n dX11_tellForce_26 rfl rfl ?_
  refine e_gI flX11_94 rfl rfl dX11_tellForce_27 ?_
  refine e_pI flX11_390 o10 (Or.inl rfl) rfl rfl rfl dX11_tellForce_30 ?_
  exact e_ret rfl dX11_tellForce_33 ⟨rfl, h⟩
abbrev H_X1_begin_10 (l : Launch) (q : o_M → Prop) (a1 : Nat) (v2 : Int32) (M : o_M) : Prop := E_X1_begin l q 10 [(0, rV (some 35)), (1, rV (some a1)), (2, iV v2)] [] M 0 0
abbrev H_X1_begin_23 (l : Launch) (q : o_M → Prop) (a1 : Nat) (v2 : Int32) (v3 : Int32) (v4 : Int32) (M : o_M) : Prop := E_X1_begin l q 23 [(0, rV (some 35)), (1, rV (some a1)), (2, iV v2), (3, iV v3), (4, iV v4)] [] M 0 0
theorem w_X1_begin (l : Launch) (a1 : Nat) (t1 : o_ty a1 = .inl 6) (M : o_M) (q : o_M → Prop) (h : H_X1_begin_10 l q a1 0 (sI M 35 2 (mI M a1 7))) : K_X1_begin l [rV (some 35), rV (some a1)] M q := by
  refine o_ctr (ini := false) (by decide +kernel) rfl (fun z => by cases z) (Nat.le_of_ble_eq_true rfl) ?_
  show E_X1_begin l q 0 [(0, rV (some 35)), (1, rV (some a1))] [] M 0 0
  refine e_aload_n dX1_begin_0 rfl rfl ?_
  refine e_aload_n dX1_begin_1 rfl rfl ?_
  refine e_gI flX1_44 t1 rfl dX1_begin_2 ?_
  refine e_pI flX1_18 rfl (Or.inl rfl) rfl rfl rfl dX1_begin_5 ?_
  refine e_iconst (v := 0) dX1_begin_8 (by decide) ?_
  refine e_istore_n (lv' := [(2, iV 0), (0, rV (some 35)), (1, rV (some a1))]) dX1_begin_9 rfl (by decide) rfl ?_
  exact e_lv (List.forall_mem_cons.mpr ⟨rfl, List.forall_mem_cons.mpr ⟨rfl, List.forall_mem_cons.mpr ⟨rfl, fun _ h => absurd h List.not_mem_nil⟩⟩⟩) h
theorem w_X1_begin_10 (l : Launch) (q : o_M → Prop) (a1 : Nat) (t1 : o_ty a1 = .inl 6) (v2 : Int32) (M : o_M) (h : (((mI M 35 2) ≤ v2 → q M) ∧ (¬ (mI M 35 2) ≤ v2 → H_X1_begin_23 l q a1 v2 v2 v2 M))) : H_X1_begin_10 l q a1 v2 M := by
  refine e_iload_n dX1_begin_10 rfl rfl ?_
  refine e_aload_n dX1_begin_11 rfl rfl ?_
  refine e_gI flX1_18 rfl rfl dX1_begin_12 ?_
  refine e_ic_ge (tgt := 91) dX1_begin_15 (by decide) (fun c1 => ?_) (fun c1 => ?_)
  · replace h := h.1 c1
    exact e_ret rfl dX1_begin_91 ⟨rfl, h⟩
  · replace h := h.2 c1
    refine e_iload_n dX1_begin_18 rfl rfl ?_
    refine e_istore_n (lv' := [(3, iV v2), (0, rV (some 35)), (1, rV (some a1)), (2, iV v2)]) dX1_begin_19 rfl (by decide) rfl ?_
    refine e_iload_n dX1_begin_20 rfl rfl ?_
    refine e_istore (lv' := [(4, iV v2), (3, iV v2), (0, rV (some 35)), (1, rV (some a1)), (2, iV v2)]) (by decide) rfl dX1_begin_21 ?_
    exact e_lv (List.forall_mem_cons.mpr ⟨rfl, List.forall_mem_cons.mpr ⟨rfl, List.forall_mem_cons.mpr ⟨rfl, List.forall_mem_cons.mpr ⟨rfl, List.forall_mem_cons.mpr ⟨rfl, fun _ h => absurd h List.not_mem_nil⟩⟩⟩⟩⟩) h
theorem w_X1_begin_23 (l : Launch) (q : o_M → Prop) (a1 : Nat) (t1 : o_ty a1 = .inl 6) (v2 : Int32) (v3 : Int32) (v4 : Int32) (M : o_M) (h : ((v4 ≤ 0 → (mR M 35 0 = some 36 ∧ (mR M a1 4 = some (a1 + 1) ∧ (vp_in v2 (mN M (a1 + 1)) ∧ (vp_in v3 (mN M 36) ∧ H_X1_begin_10 l q a1 (v2 + 1) (sI M 36 v3.toNatClampNeg (mI M (a1 + 1) v2.toNatClampNeg))))))) ∧ (¬ v4 ≤ 0 → (mR M 35 0 = some 36 ∧ (vp_in (v4 - 1) (mN M 36) ∧ (mR M a1 4 = some (a1 + 1) ∧ (vp_in v2 (mN M (a1 + 1)) ∧ (((mI M 36 (v4 - 1).toNatClampNeg) ≤ (mI M (a1 + 1) v2.toNatClampNeg) → (mR M 35 0 = some 36 ∧ (mR M a1 4 = some (a1 + 1) ∧ (vp_in v2 (mN M (a1 + 1)) ∧ (vp_in v3 (mN M 36) ∧ H_X1_begin_10 l q a1 (v2 + 1) (sI M 36 v3.toNatClampNeg (mI M (a1 + 1) v2.toNatClampNeg))))))) ∧ (¬ (mI M 36 (v4 - 1).toNatClampNeg) ≤ (mI M (a1 + 1) v2.toNatClampNeg) → (mR M 35 0 = some 36 ∧ (mR M 35 0 = some 36 ∧ (vp_in (v4 - 1) (mN M 36) ∧ (vp_in v4 (mN M 36) ∧ H_X1_begin_23 l q a1 v2 (v4 - 1) (v4 + (-1)) (sI M 36 v4.toNatClampNeg (mI M 36 (v4 - 1).toNatClampNeg))))))))))))))) : H_X1_begin_23 l q a1 v2 v3 v4 M := by
  refine e_iload rfl dX1_begin_23 ?_
  refine e_if_le (tgt := 73) dX1_begin_25 (by decide) (fun c2 => ?_) (fun c2 => ?_)
  · replace h := h.1 c2
    refine e_aload_n dX1_begin_73 rfl rfl ?_
    obtain ⟨o3, h⟩ := h
    refine e_gA flX1_9 rfl rfl o3 dX1_begin_74 ?_
    refine e_iload_n dX1_begin_77 rfl rfl ?_
    refine e_aload_n dX1_begin_78 rfl rfl ?_
    obtain ⟨o4, h⟩ := h
    refine e_gA flX1_49 t1 rfl o4 dX1_begin_79 ?_
    refine e_iload_n dX1_begin_82 rfl rfl ?_
    obtain ⟨o5, h⟩ := h
    refine e_iald ((o_sub6 t1).2.1) o5 dX1_begin_83 ?_
    obtain ⟨o6, h⟩ := h
    refine e_iast rfl o6 dX1_begin_84 ?_
    refine e_iinc (v := 1) (lv' := [(2, iV (v2 + 1)), (0, rV (some 35)), (1, rV (some a1)), (3, iV v3), (4, iV v4)]) rfl (by decide) (by decide) rfl dX1_begin_85 ?_
    refine e_goto (tgt := 10) dX1_begin_88 (by decide) ?_
    exact e_lv (List.forall_mem_cons.mpr ⟨rfl, List.forall_mem_cons.mpr ⟨rfl, List.forall_mem_cons.mpr ⟨rfl, fun _ h => absurd h List.not_mem_nil⟩⟩⟩) h
  · replace h := h.2 c2
    refine e_aload_n dX1_begin_28 rfl rfl ?_
    obtain ⟨o7, h⟩ := h
    refine e_gA flX1_9 rfl rfl o7 dX1_begin_29 ?_
    refine e_iload rfl dX1_begin_32 ?_
    refine e_iconst (v := 1) dX1_begin_34 (by decide) ?_
    refine e_isub dX1_begin_35 ?_
    obtain ⟨o8, h⟩ := h
    refine e_iald rfl o8 dX1_begin_36 ?_
    refine e_aload_n dX1_begin_37 rfl rfl ?_
    obtain ⟨o9, h⟩ := h
    refine e_gA flX1_49 t1 rfl o9 dX1_begin_38 ?_
    refine e_iload_n dX1_begin_41 rfl rfl ?_
    obtain ⟨o10, h⟩ := h
    refine e_iald ((o_sub6 t1).2.1) o10 dX1_begin_42 ?_
    refine e_ic_le (tgt := 73) dX1_begin_43 (by decide) (fun c11 => ?_) (fun c11 => ?_)
    · replace h := h.1 c11
      refine e_aload_n dX1_begin_73 rfl rfl ?_
      obtain ⟨o12, h⟩ := h
      refine e_gA flX1_9 rfl rfl o12 dX1_begin_74 ?_
      refine e_iload_n dX1_begin_77 rfl rfl ?_
      refine e_aload_n dX1_begin_78 rfl rfl ?_
      obtain ⟨o13, h⟩ := h
      refine e_gA flX1_49 t1 rfl o13 dX1_begin_79 ?_
      refine e_iload_n dX1_begin_82 rfl rfl ?_
      obtain ⟨o14, h⟩ := h
      refine e_iald ((o_sub6 t1).2.1) o14 dX1_begin_83 ?_
      obtain ⟨o15, h⟩ := h
      refine e_iast rfl o15 dX1_begin_84 ?_
      refine e_iinc (v := 1) (lv' := [(2, iV (v2 + 1)), (0, rV (some 35)), (1, rV (some a1)), (3, iV v3), (4, iV v4)]) rfl (by decide) (by decide) rfl dX1_begin_85 ?_
      refine e_goto (tgt := 10) dX1_begin_88 (by decide) ?_
      exact e_lv (List.forall_mem_cons.mpr ⟨rfl, List.forall_mem_cons.mpr ⟨rfl, List.forall_mem_cons.mpr ⟨rfl, fun _ h => absurd h List.not_mem_nil⟩⟩⟩) h
    · replace h := h.2 c11
      refine e_aload_n dX1_begin_46 rfl rfl ?_
      obtain ⟨o16, h⟩ := h
      refine e_gA flX1_9 rfl rfl o16 dX1_begin_47 ?_
      refine e_iload rfl dX1_begin_50 ?_
      refine e_aload_n dX1_begin_52 rfl rfl ?_
      obtain ⟨o17, h⟩ := h
      refine e_gA flX1_9 rfl rfl o17 dX1_begin_53 ?_
      refine e_iload rfl dX1_begin_56 ?_
      refine e_iconst (v := 1) dX1_begin_58 (by decide) ?_
      refine e_isub dX1_begin_59 ?_
      obtain ⟨o18, h⟩ := h
      refine e_iald rfl o18 dX1_begin_60 ?_
      obtain ⟨o19, h⟩ := h
      refine e_iast rfl o19 dX1_begin_61 ?_
      refine e_iload rfl dX1_begin_62 ?_
      refine e_iconst (v := 1) dX1_begin_64 (by decide) ?_
      refine e_isub dX1_begin_65 ?_
      refine e_istore_n (lv' := [(3, iV (v4 - 1)), (0, rV (some 35)), (1, rV (some a1)), (2, iV v2), (4, iV v4)]) dX1_begin_66 rfl (by decide) rfl ?_
      refine e_iinc (v := (-1)) (lv' := [(4, iV (v4 + (-1))), (3, iV (v4 - 1)), (0, rV (some 35)), (1, rV (some a1)), (2, iV v2)]) rfl (by decide) (by decide) rfl dX1_begin_67 ?_
      refine e_goto (tgt := 23) dX1_begin_70 (by decide) ?_
      exact e_lv (List.forall_mem_cons.mpr ⟨rfl, List.forall_mem_cons.mpr ⟨rfl, List.forall_mem_cons.mpr ⟨rfl, List.forall_mem_cons.mpr ⟨rfl, List.forall_mem_cons.mpr ⟨rfl, fun _ h => absurd h List.not_mem_nil⟩⟩⟩⟩⟩) h
theorem w_X1_swap (l : Launch) (p1 : Int32) (p2 : Int32) (M : o_M) (q : o_M → Prop) (h : (mR M 35 0 = some 36 ∧ (vp_in p1 (mN M 36) ∧ (mR M 35 0 = some 36 ∧ (mR M 35 0 = some 36 ∧ (vp_in p2 (mN M 36) ∧ (vp_in p1 (mN M 36) ∧ (mR (sI M 36 p1.toNatClampNeg (mI M 36 p2.toNatClampNeg)) 35 0 = some 36 ∧ (vp_in p2 (mN (sI M 36 p1.toNatClampNeg (mI M 36 p2.toNatClampNeg)) 36) ∧ q (sI (sI M 36 p1.toNatClampNeg (mI M 36 p2.toNatClampNeg)) 36 p2.toNatClampNeg (mI M 36 p1.toNatClampNeg))))))))))) : K_X1_swap l [rV (some 35), iV p1, iV p2] M q := by
  refine o_ctr (ini := false) (by decide +kernel) rfl (fun z => by cases z) (Nat.le_of_ble_eq_true rfl) ?_
  show E_X1_swap l q 0 [(0, rV (some 35)), (1, iV p1), (2, iV p2)] [] M 0 0
  refine e_aload_n dX1_swap_0 rfl rfl ?_
  obtain ⟨o1, h⟩ := h
  refine e_gA flX1_9 rfl rfl o1 dX1_swap_1 ?_
  refine e_iload_n dX1_swap_4 rfl rfl ?_
  obtain ⟨o2, h⟩ := h
  refine e_iald rfl o2 dX1_swap_5 ?_
  refine e_istore_n (lv' := [(3, iV (mI M 36 p1.toNatClampNeg)), (0, rV (some 35)), (1, iV p1), (2, iV p2)]) dX1_swap_6 rfl (by decide) rfl ?_
  refine e_aload_n dX1_swap_7 rfl rfl ?_
  obtain ⟨o3, h⟩ := h
  refine e_gA flX1_9 rfl rfl o3 dX1_swap_8 ?_
  refine e_iload_n dX1_swap_11 rfl rfl ?_
  refine e_aload_n dX1_swap_12 rfl rfl ?_
  obtain ⟨o4, h⟩ := h
  refine e_gA flX1_9 rfl rfl o4 dX1_swap_13 ?_
  refine e_iload_n dX1_swap_16 rfl rfl ?_
  obtain ⟨o5, h⟩ := h
  refine e_iald rfl o5 dX1_swap_17 ?_
  obtain ⟨o6, h⟩ := h
  refine e_iast rfl o6 dX1_swap_18 ?_
  refine e_aload_n dX1_swap_19 rfl rfl ?_
  obtain ⟨o7, h⟩ := h
  refine e_gA flX1_9 rfl rfl o7 dX1_swap_20 ?_
  refine e_iload_n dX1_swap_23 rfl rfl ?_
  refine e_iload_n dX1_swap_24 rfl rfl ?_
  obtain ⟨o8, h⟩ := h
  refine e_iast rfl o8 dX1_swap_25 ?_
  exact e_ret rfl dX1_swap_26 ⟨rfl, h⟩
theorem w_X2_addLeave (l : Launch) (a0 : Nat) (p1 : Int32) (p2 : Int32) (t0 : o_ty a0 = .inl 2) (M : o_M) (q : o_M → Prop) (h : ((6 ≤ (mI M a0 5) → q M) ∧ (¬ 6 ≤ (mI M a0 5) → (mR M a0 3 = some (a0 + 1) ∧ (vp_in (mI M a0 5) (mN M (a0 + 1)) ∧ (mR (sI M (a0 + 1) ((mI M a0 5).toNatClampNeg) p1) a0 4 = some (a0 + 2) ∧ (vp_in (mI (sI M (a0 + 1) ((mI M a0 5).toNatClampNeg) p1) a0 5) (mN (sI M (a0 + 1) ((mI M a0 5).toNatClampNeg) p1) (a0 + 2)) ∧ (∀ M6, M6 = sI (sI (sI M (a0 + 1) ((mI M a0 5).toNatClampNeg) p1) (a0 + 2) ((mI (sI M (a0 + 1) ((mI M a0 5).toNatClampNeg) p1) a0 5).toNatClampNeg) p2) a0 5 ((mI (sI (sI M (a0 + 1) ((mI M a0 5).toNatClampNeg) p1) (a0 + 2) ((mI (sI M (a0 + 1) ((mI M a0 5).toNatClampNeg) p1) a0 5).toNatClampNeg) p2) a0 5) + 1) → q M6)))))))) : K_X2_addLeave l [rV (some a0), iV p1, iV p2] M q := by
  refine o_ctr (ini := false) (by decide +kernel) rfl (fun z => by cases z) (Nat.le_of_ble_eq_true rfl) ?_
  show E_X2_addLeave l q 0 [(0, rV (some a0)), (1, iV p1), (2, iV p2)] [] M 0 0
  refine e_aload_n dX2_addLeave_0 rfl rfl ?_
  refine e_gI flX2_18 t0 rfl dX2_addLeave_1 ?_
  refine e_bipush (v := 6) dX2_addLeave_4 (by decide) ?_
  refine e_ic_ge (tgt := 39) dX2_addLeave_6 (by decide) (fun c1 => ?_) (fun c1 => ?_)
  · replace h := h.1 c1
    exact e_ret rfl dX2_addLeave_39 ⟨rfl, h⟩
  · replace h := h.2 c1
    refine e_aload_n dX2_addLeave_9 rfl rfl ?_
    obtain ⟨o2, h⟩ := h
    refine e_gA flX2_9 t0 rfl o2 dX2_addLeave_10 ?_
    refine e_aload_n dX2_addLeave_13 rfl rfl ?_
    refine e_gI flX2_18 t0 rfl dX2_addLeave_14 ?_
    refine e_iload_n dX2_addLeave_17 rfl rfl ?_
    obtain ⟨o3, h⟩ := h
    refine e_iast ((o_sub2 t0).2.1) o3 dX2_addLeave_18 ?_
    refine e_aload_n dX2_addLeave_19 rfl rfl ?_
    obtain ⟨o4, h⟩ := h
    refine e_gA flX2_15 t0 rfl o4 dX2_addLeave_20 ?_
    refine e_aload_n dX2_addLeave_23 rfl rfl ?_
    refine e_gI flX2_18 t0 rfl dX2_addLeave_24 ?_
    refine e_iload_n dX2_addLeave_27 rfl rfl ?_
    obtain ⟨o5, h⟩ := h
    refine e_iast ((o_sub2 t0).2.2) o5 dX2_addLeave_28 ?_
    refine e_aload_n dX2_addLeave_29 rfl rfl ?_
    refine e_dup rfl dX2_addLeave_30 ?_
    refine e_gI flX2_18 t0 rfl dX2_addLeave_31 ?_
    refine e_iconst (v := 1) dX2_addLeave_34 (by decide) ?_
    refine e_iadd dX2_addLeave_35 ?_
    refine e_pI flX2_18 t0 (Or.inl rfl) rfl rfl rfl dX2_addLeave_36 ?_
    generalize hgM6 : sI (sI (sI M (a0 + 1) ((mI M a0 5).toNatClampNeg) p1) (a0 + 2) ((mI (sI M (a0 + 1) ((mI M a0 5).toNatClampNeg) p1) a0 5).toNatClampNeg) p2) a0 5 ((mI (sI (sI M (a0 + 1) ((mI M a0 5).toNatClampNeg) p1) (a0 + 2) ((mI (sI M (a0 + 1) ((mI M a0 5).toNatClampNeg) p1) a0 5).toNatClampNeg) p2) a0 5) + 1) = M6
    replace h := h M6 hgM6.symm
    exact e_ret rfl dX2_addLeave_39 ⟨rfl, h⟩
theorem w_X2_plays (l : Launch) (a0 : Nat) (p1 : Int32) (t0 : o_ty a0 = .inl 2) (M : o_M) (q : Int32 → o_M → Prop) (h : ((p1 = (mI M a0 0) → q 1 M) ∧ (¬ p1 = (mI M a0 0) → ((¬ (((mI M a0 1) >>> (p1 &&& 31)) &&& 1) = 1 → q 0 M) ∧ ((((mI M a0 1) >>> (p1 &&& 31)) &&& 1) = 1 → q 1 M))))) : K_X2_plays l [rV (some a0), iV p1] M q := by
  refine o_ctr (ini := false) (by decide +kernel) rfl (fun z => by cases z) (Nat.le_of_ble_eq_true rfl) ?_
  show E_X2_plays l q 0 [(0, rV (some a0)), (1, iV p1)] [] M 0 0
  refine e_iload_n dX2_plays_0 rfl rfl ?_
  refine e_aload_n dX2_plays_1 rfl rfl ?_
  refine e_gI flX2_22 t0 rfl dX2_plays_2 ?_
  refine e_ic_eq (tgt := 20) dX2_plays_5 (by decide) (fun c1 => ?_) (fun c1 => ?_)
  · replace h := h.1 c1
    refine e_iconst (v := 1) dX2_plays_20 (by decide) ?_
    refine e_goto (tgt := 25) dX2_plays_21 (by decide) ?_
    exact e_iret rfl rb_1 dX2_plays_25 ⟨_, rfl, h⟩
  · replace h := h.2 c1
    refine e_aload_n dX2_plays_8 rfl rfl ?_
    refine e_gI flX2_25 t0 rfl dX2_plays_9 ?_
    refine e_iload_n dX2_plays_12 rfl rfl ?_
    refine e_ishr dX2_plays_13 ?_
    refine e_iconst (v := 1) dX2_plays_14 (by decide) ?_
    refine e_iand dX2_plays_15 ?_
    refine e_iconst (v := 1) dX2_plays_16 (by decide) ?_
    refine e_ic_ne (tgt := 24) dX2_plays_17 (by decide) (fun c2 => ?_) (fun c2 => ?_)
    · replace h := h.1 c2
      refine e_iconst (v := 0) dX2_plays_24 (by decide) ?_
      exact e_iret rfl rb_0 dX2_plays_25 ⟨_, rfl, h⟩
    · replace h := h.2 c2
      refine e_iconst (v := 1) dX2_plays_20 (by decide) ?_
      refine e_goto (tgt := 25) dX2_plays_21 (by decide) ?_
      exact e_iret rfl rb_1 dX2_plays_25 ⟨_, rfl, h⟩
theorem w_X3_emit (l : Launch) (p1 : Int32) (M : o_M) (q : o_M → Prop) (h : (mR M 23 0 = some 24 ∧ (((Int32.ofNat (mN M 24)) ≤ (mI M 23 4) → q M) ∧ (¬ (Int32.ofNat (mN M 24)) ≤ (mI M 23 4) → (mR M 23 0 = some 24 ∧ (vp_in (mI M 23 4) (mN M 24) ∧ q (sI (sI M 24 ((mI M 23 4).toNatClampNeg) p1) 23 4 ((mI (sI M 24 ((mI M 23 4).toNatClampNeg) p1) 23 4) + 1)))))))) : K_X3_emit l [rV (some 23), iV p1] M q := by
  refine o_ctr (ini := false) (by decide +kernel) rfl (fun z => by cases z) (Nat.le_of_ble_eq_true rfl) ?_
  show E_X3_emit l q 0 [(0, rV (some 23)), (1, iV p1)] [] M 0 0
  refine e_aload_n dX3_emit_0 rfl rfl ?_
  refine e_gI flX3_26 rfl rfl dX3_emit_1 ?_
  refine e_aload_n dX3_emit_4 rfl rfl ?_
  obtain ⟨o1, h⟩ := h
  refine e_gA flX3_9 rfl rfl o1 dX3_emit_5 ?_
  refine e_alen rfl (by decide) rfl dX3_emit_8 ?_
  refine e_ic_ge (tgt := 32) dX3_emit_9 (by decide) (fun c2 => ?_) (fun c2 => ?_)
  · replace h := h.1 c2
    exact e_ret rfl dX3_emit_32 ⟨rfl, h⟩
  · replace h := h.2 c2
    refine e_aload_n dX3_emit_12 rfl rfl ?_
    obtain ⟨o3, h⟩ := h
    refine e_gA flX3_9 rfl rfl o3 dX3_emit_13 ?_
    refine e_aload_n dX3_emit_16 rfl rfl ?_
    refine e_gI flX3_26 rfl rfl dX3_emit_17 ?_
    refine e_iload_n dX3_emit_20 rfl rfl ?_
    obtain ⟨o4, h⟩ := h
    refine e_iast rfl o4 dX3_emit_21 ?_
    refine e_aload_n dX3_emit_22 rfl rfl ?_
    refine e_dup rfl dX3_emit_23 ?_
    refine e_gI flX3_26 rfl rfl dX3_emit_24 ?_
    refine e_iconst (v := 1) dX3_emit_27 (by decide) ?_
    refine e_iadd dX3_emit_28 ?_
    refine e_pI flX3_26 rfl (Or.inl rfl) rfl rfl rfl dX3_emit_29 ?_
    exact e_ret rfl dX3_emit_32 ⟨rfl, h⟩
theorem w_X3_fail (l : Launch) (M : o_M) (q : o_M → Prop) (h : ((¬ (mI M 23 11) = (-1) → q (sI M 23 6 26)) ∧ ((mI M 23 11) = (-1) → q (sI (sI M 23 11 (mI M 23 8)) 23 6 26)))) : K_X3_fail l [rV (some 23)] M q := by
  refine o_ctr (ini := false) (by decide +kernel) rfl (fun z => by cases z) (Nat.le_of_ble_eq_true rfl) ?_
  show E_X3_fail l q 0 [(0, rV (some 23))] [] M 0 0
  refine e_aload_n dX3_fail_0 rfl rfl ?_
  refine e_gI flX3_49 rfl rfl dX3_fail_1 ?_
  refine e_iconst (v := (-1)) dX3_fail_4 (by decide) ?_
  refine e_ic_ne (tgt := 16) dX3_fail_5 (by decide) (fun c1 => ?_) (fun c1 => ?_)
  · replace h := h.1 c1
    refine e_aload_n dX3_fail_16 rfl rfl ?_
    refine e_bipush (v := 26) dX3_fail_17 (by decide) ?_
    refine e_pI flX3_34 rfl (Or.inl rfl) rfl rfl rfl dX3_fail_19 ?_
    exact e_ret rfl dX3_fail_22 ⟨rfl, h⟩
  · replace h := h.2 c1
    refine e_aload_n dX3_fail_8 rfl rfl ?_
    refine e_aload_n dX3_fail_9 rfl rfl ?_
    refine e_gI flX3_40 rfl rfl dX3_fail_10 ?_
    refine e_pI flX3_49 rfl (Or.inl rfl) rfl rfl rfl dX3_fail_13 ?_
    refine e_aload_n dX3_fail_16 rfl rfl ?_
    refine e_bipush (v := 26) dX3_fail_17 (by decide) ?_
    refine e_pI flX3_34 rfl (Or.inl rfl) rfl rfl rfl dX3_fail_19 ?_
    exact e_ret rfl dX3_fail_22 ⟨rfl, h⟩
theorem w_X3_isBlank (l : Launch) (p0 : Int32) (M : o_M) (q : Int32 → o_M → Prop) (h : ((p0 = 32 → q 1 M) ∧ (¬ p0 = 32 → ((¬ p0 = 10 → q 0 M) ∧ (p0 = 10 → q 1 M))))) : K_X3_isBlank l [iV p0] M q := by
  refine o_ctr (ini := false) (by decide +kernel) rfl (fun z => by cases z) (Nat.le_of_ble_eq_true rfl) ?_
  show E_X3_isBlank l q 0 [(0, iV p0)] [] M 0 0
  refine e_iload_n dX3_isBlank_0 rfl rfl ?_
  refine e_bipush (v := 32) dX3_isBlank_1 (by decide) ?_
  refine e_ic_eq (tgt := 12) dX3_isBlank_3 (by decide) (fun c1 => ?_) (fun c1 => ?_)
  · replace h := h.1 c1
    refine e_iconst (v := 1) dX3_isBlank_12 (by decide) ?_
    refine e_goto (tgt := 17) dX3_isBlank_13 (by decide) ?_
    exact e_iret rfl rb_1 dX3_isBlank_17 ⟨_, rfl, h⟩
  · replace h := h.2 c1
    refine e_iload_n dX3_isBlank_6 rfl rfl ?_
    refine e_bipush (v := 10) dX3_isBlank_7 (by decide) ?_
    refine e_ic_ne (tgt := 16) dX3_isBlank_9 (by decide) (fun c2 => ?_) (fun c2 => ?_)
    · replace h := h.1 c2
      refine e_iconst (v := 0) dX3_isBlank_16 (by decide) ?_
      exact e_iret rfl rb_0 dX3_isBlank_17 ⟨_, rfl, h⟩
    · replace h := h.2 c2
      refine e_iconst (v := 1) dX3_isBlank_12 (by decide) ?_
      refine e_goto (tgt := 17) dX3_isBlank_13 (by decide) ?_
      exact e_iret rfl rb_1 dX3_isBlank_17 ⟨_, rfl, h⟩
theorem w_X3_isDigit (l : Launch) (p0 : Int32) (M : o_M) (q : Int32 → o_M → Prop) (h : ((p0 < 48 → q 0 M) ∧ (¬ p0 < 48 → ((57 < p0 → q 0 M) ∧ (¬ 57 < p0 → q 1 M))))) : K_X3_isDigit l [iV p0] M q := by
  refine o_ctr (ini := false) (by decide +kernel) rfl (fun z => by cases z) (Nat.le_of_ble_eq_true rfl) ?_
  show E_X3_isDigit l q 0 [(0, iV p0)] [] M 0 0
  refine e_iload_n dX3_isDigit_0 rfl rfl ?_
  refine e_bipush (v := 48) dX3_isDigit_1 (by decide) ?_
  refine e_ic_lt (tgt := 16) dX3_isDigit_3 (by decide) (fun c1 => ?_) (fun c1 => ?_)
  · replace h := h.1 c1
    refine e_iconst (v := 0) dX3_isDigit_16 (by decide) ?_
    exact e_iret rfl rb_0 dX3_isDigit_17 ⟨_, rfl, h⟩
  · replace h := h.2 c1
    refine e_iload_n dX3_isDigit_6 rfl rfl ?_
    refine e_bipush (v := 57) dX3_isDigit_7 (by decide) ?_
    refine e_ic_gt (tgt := 16) dX3_isDigit_9 (by decide) (fun c2 => ?_) (fun c2 => ?_)
    · replace h := h.1 c2
      refine e_iconst (v := 0) dX3_isDigit_16 (by decide) ?_
      exact e_iret rfl rb_0 dX3_isDigit_17 ⟨_, rfl, h⟩
    · replace h := h.2 c2
      refine e_iconst (v := 1) dX3_isDigit_12 (by decide) ?_
      refine e_goto (tgt := 17) dX3_isDigit_13 (by decide) ?_
      exact e_iret rfl rb_1 dX3_isDigit_17 ⟨_, rfl, h⟩
theorem w_X3_isLetter (l : Launch) (p0 : Int32) (M : o_M) (q : Int32 → o_M → Prop) (h : ((p0 < 97 → q 0 M) ∧ (¬ p0 < 97 → ((122 < p0 → q 0 M) ∧ (¬ 122 < p0 → q 1 M))))) : K_X3_isLetter l [iV p0] M q := by
  refine o_ctr (ini := false) (by decide +kernel) rfl (fun z => by cases z) (Nat.le_of_ble_eq_true rfl) ?_
  show E_X3_isLetter l q 0 [(0, iV p0)] [] M 0 0
  refine e_iload_n dX3_isLetter_0 rfl rfl ?_
  refine e_bipush (v := 97) dX3_isLetter_1 (by decide) ?_
  refine e_ic_lt (tgt := 16) dX3_isLetter_3 (by decide) (fun c1 => ?_) (fun c1 => ?_)
  · replace h := h.1 c1
    refine e_iconst (v := 0) dX3_isLetter_16 (by decide) ?_
    exact e_iret rfl rb_0 dX3_isLetter_17 ⟨_, rfl, h⟩
  · replace h := h.2 c1
    refine e_iload_n dX3_isLetter_6 rfl rfl ?_
    refine e_bipush (v := 122) dX3_isLetter_7 (by decide) ?_
    refine e_ic_gt (tgt := 16) dX3_isLetter_9 (by decide) (fun c2 => ?_) (fun c2 => ?_)
    · replace h := h.1 c2
      refine e_iconst (v := 0) dX3_isLetter_16 (by decide) ?_
      exact e_iret rfl rb_0 dX3_isLetter_17 ⟨_, rfl, h⟩
    · replace h := h.2 c2
      refine e_iconst (v := 1) dX3_isLetter_12 (by decide) ?_
      refine e_goto (tgt := 17) dX3_isLetter_13 (by decide) ?_
      exact e_iret rfl rb_1 dX3_isLetter_17 ⟨_, rfl, h⟩
theorem w_X4_join (l : Launch) (p0 : Int32) (p1 : Int64) (p2 : Int64) (M : o_M) (q : Int64 → o_M → Prop) (h : (((p0 < 13 ∨ 23 < p0) → q (p1 * p2) M) ∧ (p0 = 13 → ((¬ (lg_cmp p1 0) = 0 → q 1 M) ∧ ((lg_cmp p1 0) = 0 → (((lg_cmp p2 0) = 0 → q 0 M) ∧ (¬ (lg_cmp p2 0) = 0 → q 1 M))))) ∧ (p0 = 14 → (((lg_cmp p1 0) = 0 → q 0 M) ∧ (¬ (lg_cmp p1 0) = 0 → (((lg_cmp p2 0) = 0 → q 0 M) ∧ (¬ (lg_cmp p2 0) = 0 → q 1 M))))) ∧ (p0 = 15 → q (p1 * p2) M) ∧ (p0 = 16 → q (p1 * p2) M) ∧ (p0 = 17 → q (p1 * p2) M) ∧ (p0 = 18 → q (p1 * p2) M) ∧ (p0 = 19 → q (p1 + p2) M) ∧ (p0 = 20 → q (p1 - p2) M) ∧ (p0 = 21 → q (p1 * p2) M) ∧ (p0 = 22 → ((0 ≤ (lg_cmp p1 p2) → q 0 M) ∧ (¬ 0 ≤ (lg_cmp p1 p2) → q 1 M))) ∧ (p0 = 23 → ((¬ (lg_cmp p1 p2) = 0 → q 0 M) ∧ ((lg_cmp p1 p2) = 0 → q 1 M))))) : K_X4_join l [iV p0, jV p1, jV p2] M q := by
  refine o_ctr (ini := false) (by decide +kernel) rfl (fun z => by cases z) (Nat.le_of_ble_eq_true rfl) ?_
  show E_X4_join l q 0 [(0, iV p0), (1, jV p1), (3, jV p2)] [] M 0 0
  refine e_iload_n dX4_join_0 rfl rfl ?_
  rcases o_tab p0 13 23 (a := 13) (b := 23) (by decide) (by decide) with c1 | c1
  · replace h := h.1 c1
    refine e_tabOut (tgt := 128) dX4_join_1 (o_tabo (by decide) (by decide) c1) (by decide) ?_
    refine e_lload_n dX4_join_128 rfl rfl ?_
    refine e_lload_n dX4_join_129 rfl rfl ?_
    refine e_lmul dX4_join_130 ?_
    exact e_lret rfl trivial dX4_join_131 ⟨_, rfl, h⟩
  · have h0 := h.2
    have e1 : p0.toInt = 13 ∨ p0.toInt = 14 ∨ p0.toInt = 15 ∨ p0.toInt = 16 ∨ p0.toInt = 17 ∨ p0.toInt = 18 ∨ p0.toInt = 19 ∨ p0.toInt = 20 ∨ p0.toInt = 21 ∨ p0.toInt = 22 ∨ p0.toInt = 23 := by omega
    clear h; rcases e1 with e1 | e1 | e1 | e1 | e1 | e1 | e1 | e1 | e1 | e1 | e1
    · have h := h0.1 (Int32.toInt_inj.mp e1)
      refine e_tabIn (tgt := 60) (off := 59) dX4_join_1 (by rw [e1]; decide) (by rw [e1]; decide) (by rw [e1]; rfl) (by decide) ?_
      refine e_lload_n dX4_join_60 rfl rfl ?_
      refine e_lconst (v := 0) dX4_join_61 (by decide) ?_
      refine e_lcmp dX4_join_62 ?_
      refine e_if_ne (tgt := 72) dX4_join_63 (by decide) (fun c2 => ?_) (fun c2 => ?_)
      · replace h := h.1 c2
        refine e_lconst (v := 1) dX4_join_72 (by decide) ?_
        refine e_goto (tgt := 77) dX4_join_73 (by decide) ?_
        exact e_lret rfl trivial dX4_join_77 ⟨_, rfl, h⟩
      · replace h := h.2 c2
        refine e_lload_n dX4_join_66 rfl rfl ?_
        refine e_lconst (v := 0) dX4_join_67 (by decide) ?_
        refine e_lcmp dX4_join_68 ?_
        refine e_if_eq (tgt := 76) dX4_join_69 (by decide) (fun c3 => ?_) (fun c3 => ?_)
        · replace h := h.1 c3
          refine e_lconst (v := 0) dX4_join_76 (by decide) ?_
          exact e_lret rfl trivial dX4_join_77 ⟨_, rfl, h⟩
        · replace h := h.2 c3
          refine e_lconst (v := 1) dX4_join_72 (by decide) ?_
          refine e_goto (tgt := 77) dX4_join_73 (by decide) ?_
          exact e_lret rfl trivial dX4_join_77 ⟨_, rfl, h⟩
    · have h := h0.2.1 (Int32.toInt_inj.mp e1)
      refine e_tabIn (tgt := 78) (off := 77) dX4_join_1 (by rw [e1]; decide) (by rw [e1]; decide) (by rw [e1]; rfl) (by decide) ?_
      refine e_lload_n dX4_join_78 rfl rfl ?_
      refine e_lconst (v := 0) dX4_join_79 (by decide) ?_
      refine e_lcmp dX4_join_80 ?_
      refine e_if_eq (tgt := 94) dX4_join_81 (by decide) (fun c4 => ?_) (fun c4 => ?_)
      · replace h := h.1 c4
        refine e_lconst (v := 0) dX4_join_94 (by decide) ?_
        exact e_lret rfl trivial dX4_join_95 ⟨_, rfl, h⟩
      · replace h := h.2 c4
        refine e_lload_n dX4_join_84 rfl rfl ?_
        refine e_lconst (v := 0) dX4_join_85 (by decide) ?_
        refine e_lcmp dX4_join_86 ?_
        refine e_if_eq (tgt := 94) dX4_join_87 (by decide) (fun c5 => ?_) (fun c5 => ?_)
        · replace h := h.1 c5
          refine e_lconst (v := 0) dX4_join_94 (by decide) ?_
          exact e_lret rfl trivial dX4_join_95 ⟨_, rfl, h⟩
        · replace h := h.2 c5
          refine e_lconst (v := 1) dX4_join_90 (by decide) ?_
          refine e_goto (tgt := 95) dX4_join_91 (by decide) ?_
          exact e_lret rfl trivial dX4_join_95 ⟨_, rfl, h⟩
    · have h := h0.2.2.1 (Int32.toInt_inj.mp e1)
      refine e_tabIn (tgt := 128) (off := 127) dX4_join_1 (by rw [e1]; decide) (by rw [e1]; decide) (by rw [e1]; rfl) (by decide) ?_
      refine e_lload_n dX4_join_128 rfl rfl ?_
      refine e_lload_n dX4_join_129 rfl rfl ?_
      refine e_lmul dX4_join_130 ?_
      exact e_lret rfl trivial dX4_join_131 ⟨_, rfl, h⟩
    · have h := h0.2.2.2.1 (Int32.toInt_inj.mp e1)
      refine e_tabIn (tgt := 128) (off := 127) dX4_join_1 (by rw [e1]; decide) (by rw [e1]; decide) (by rw [e1]; rfl) (by decide) ?_
      refine e_lload_n dX4_join_128 rfl rfl ?_
      refine e_lload_n dX4_join_129 rfl rfl ?_
      refine e_lmul dX4_join_130 ?_
      exact e_lret rfl trivial dX4_join_131 ⟨_, rfl, h⟩
    · have h := h0.2.2.2.2.1 (Int32.toInt_inj.mp e1)
      refine e_tabIn (tgt := 128) (off := 127) dX4_join_1 (by rw [e1]; decide) (by rw [e1]; decide) (by rw [e1]; rfl) (by decide) ?_
      refine e_lload_n dX4_join_128 rfl rfl ?_
      refine e_lload_n dX4_join_129 rfl rfl ?_
      refine e_lmul dX4_join_130 ?_
      exact e_lret rfl trivial dX4_join_131 ⟨_, rfl, h⟩
    · have h := h0.2.2.2.2.2.1 (Int32.toInt_inj.mp e1)
      refine e_tabIn (tgt := 128) (off := 127) dX4_join_1 (by rw [e1]; decide) (by rw [e1]; decide) (by rw [e1]; rfl) (by decide) ?_
      refine e_lload_n dX4_join_128 rfl rfl ?_
      refine e_lload_n dX4_join_129 rfl rfl ?_
      refine e_lmul dX4_join_130 ?_
      exact e_lret rfl trivial dX4_join_131 ⟨_, rfl, h⟩
    · have h := h0.2.2.2.2.2.2.1 (Int32.toInt_inj.mp e1)
      refine e_tabIn (tgt := 120) (off := 119) dX4_join_1 (by rw [e1]; decide) (by rw [e1]; decide) (by rw [e1]; rfl) (by decide) ?_
      refine e_lload_n dX4_join_120 rfl rfl ?_
      refine e_lload_n dX4_join_121 rfl rfl ?_
      refine e_ladd dX4_join_122 ?_
      exact e_lret rfl trivial dX4_join_123 ⟨_, rfl, h⟩
    · have h := h0.2.2.2.2.2.2.2.1 (Int32.toInt_inj.mp e1)
      refine e_tabIn (tgt := 124) (off := 123) dX4_join_1 (by rw [e1]; decide) (by rw [e1]; decide) (by rw [e1]; rfl) (by decide) ?_
      refine e_lload_n dX4_join_124 rfl rfl ?_
      refine e_lload_n dX4_join_125 rfl rfl ?_
      refine e_lsub dX4_join_126 ?_
      exact e_lret rfl trivial dX4_join_127 ⟨_, rfl, h⟩
    · have h := h0.2.2.2.2.2.2.2.2.1 (Int32.toInt_inj.mp e1)
      refine e_tabIn (tgt := 128) (off := 127) dX4_join_1 (by rw [e1]; decide) (by rw [e1]; decide) (by rw [e1]; rfl) (by decide) ?_
      refine e_lload_n dX4_join_128 rfl rfl ?_
      refine e_lload_n dX4_join_129 rfl rfl ?_
      refine e_lmul dX4_join_130 ?_
      exact e_lret rfl trivial dX4_join_131 ⟨_, rfl, h⟩
    · have h := h0.2.2.2.2.2.2.2.2.2.1 (Int32.toInt_inj.mp e1)
      refine e_tabIn (tgt := 96) (off := 95) dX4_join_1 (by rw [e1]; decide) (by rw [e1]; decide) (by rw [e1]; rfl) (by decide) ?_
      refine e_lload_n dX4_join_96 rfl rfl ?_
      refine e_lload_n dX4_join_97 rfl rfl ?_
      refine e_lcmp dX4_join_98 ?_
      refine e_if_ge (tgt := 106) dX4_join_99 (by decide) (fun c6 => ?_) (fun c6 => ?_)
      · replace h := h.1 c6
        refine e_lconst (v := 0) dX4_join_106 (by decide) ?_
        exact e_lret rfl trivial dX4_join_107 ⟨_, rfl, h⟩
      · replace h := h.2 c6
        refine e_lconst (v := 1) dX4_join_102 (by decide) ?_
        refine e_goto (tgt := 107) dX4_join_103 (by decide) ?_
        exact e_lret rfl trivial dX4_join_107 ⟨_, rfl, h⟩
    · have h := h0.2.2.2.2.2.2.2.2.2.2 (Int32.toInt_inj.mp e1)
      refine e_tabIn (tgt := 108) (off := 107) dX4_join_1 (by rw [e1]; decide) (by rw [e1]; decide) (by rw [e1]; rfl) (by decide) ?_
      refine e_lload_n dX4_join_108 rfl rfl ?_
      refine e_lload_n dX4_join_109 rfl rfl ?_
      refine e_lcmp dX4_join_110 ?_
      refine e_if_ne (tgt := 118) dX4_join_111 (by decide) (fun c7 => ?_) (fun c7 => ?_)
      · replace h := h.1 c7
        refine e_lconst (v := 0) dX4_join_118 (by decide) ?_
        exact e_lret rfl trivial dX4_join_119 ⟨_, rfl, h⟩
      · replace h := h.2 c7
        refine e_lconst (v := 1) dX4_join_114 (by decide) ?_
        refine e_goto (tgt := 119) dX4_join_115 (by decide) ?_
        exact e_lret rfl trivial dX4_join_119 ⟨_, rfl, h⟩
theorem w_X4_learnPlayer (l : Launch) (a1 : Nat) (p2 : Int32) (t1 : o_ty a1 = .inl 2) (M : o_M) (q : o_M → Prop) (h : (mR M 26 0 = some 27 ∧ (vp_in 4 (mN M 27) ∧ (mR (sJ M 27 ((4 : Int32).toNatClampNeg) p2.toInt64) 26 0 = some 27 ∧ (vp_in 5 (mN (sJ M 27 ((4 : Int32).toNatClampNeg) p2.toInt64) 27) ∧ (mR (sJ (sJ M 27 ((4 : Int32).toNatClampNeg) p2.toInt64) 27 ((5 : Int32).toNatClampNeg) ((mI (sJ M 27 ((4 : Int32).toNatClampNeg) p2.toInt64) a1 0).toInt64)) 26 0 = some 27 ∧ ((¬ p2 = (mI (sJ (sJ M 27 ((4 : Int32).toNatClampNeg) p2.toInt64) 27 ((5 : Int32).toNatClampNeg) ((mI (sJ M 27 ((4 : Int32).toNatClampNeg) p2.toInt64) a1 0).toInt64)) a1 0) → (vp_in 6 (mN (sJ (sJ M 27 ((4 : Int32).toNatClampNeg) p2.toInt64) 27 ((5 : Int32).toNatClampNeg) ((mI (sJ M 27 ((4 : Int32).toNatClampNeg) p2.toInt64) a1 0).toInt64)) 27) ∧ (mR (sJ (sJ (sJ M 27 ((4 : Int32).toNatClampNeg) p2.toInt64) 27 ((5 : Int32).toNatClampNeg) ((mI (sJ M 27 ((4 : Int32).toNatClampNeg) p2.toInt64) a1 0).toInt64)) 27 ((6 : Int32).toNatClampNeg) 1) 26 0 = some 27 ∧ (vp_in 7 (mN (sJ (sJ (sJ M 27 ((4 : Int32).toNatClampNeg) p2.toInt64) 27 ((5 : Int32).toNatClampNeg) ((mI (sJ M 27 ((4 : Int32).toNatClampNeg) p2.toInt64) a1 0).toInt64)) 27 ((6 : Int32).toNatClampNeg) 1) 27) ∧ (∀ M10, M10 = sJ (sJ (sJ (sJ M 27 ((4 : Int32).toNatClampNeg) p2.toInt64) 27 ((5 : Int32).toNatClampNeg) ((mI (sJ M 27 ((4 : Int32).toNatClampNeg) p2.toInt64) a1 0).toInt64)) 27 ((6 : Int32).toNatClampNeg) 1) 27 ((7 : Int32).toNatClampNeg) ((mI (sJ (sJ (sJ M 27 ((4 : Int32).toNatClampNeg) p2.toInt64) 27 ((5 : Int32).toNatClampNeg) ((mI (sJ M 27 ((4 : Int32).toNatClampNeg) p2.toInt64) a1 0).toInt64)) 27 ((6 : Int32).toNatClampNeg) 1) a1 2).toInt64) → q M10))))) ∧ (p2 = (mI (sJ (sJ M 27 ((4 : Int32).toNatClampNeg) p2.toInt64) 27 ((5 : Int32).toNatClampNeg) ((mI (sJ M 27 ((4 : Int32).toNatClampNeg) p2.toInt64) a1 0).toInt64)) a1 0) → (vp_in 6 (mN (sJ (sJ M 27 ((4 : Int32).toNatClampNeg) p2.toInt64) 27 ((5 : Int32).toNatClampNeg) ((mI (sJ M 27 ((4 : Int32).toNatClampNeg) p2.toInt64) a1 0).toInt64)) 27) ∧ (mR (sJ (sJ (sJ M 27 ((4 : Int32).toNatClampNeg) p2.toInt64) 27 ((5 : Int32).toNatClampNeg) ((mI (sJ M 27 ((4 : Int32).toNatClampNeg) p2.toInt64) a1 0).toInt64)) 27 ((6 : Int32).toNatClampNeg) 0) 26 0 = some 27 ∧ (vp_in 7 (mN (sJ (sJ (sJ M 27 ((4 : Int32).toNatClampNeg) p2.toInt64) 27 ((5 : Int32).toNatClampNeg) ((mI (sJ M 27 ((4 : Int32).toNatClampNeg) p2.toInt64) a1 0).toInt64)) 27 ((6 : Int32).toNatClampNeg) 0) 27) ∧ (∀ M14, M14 = sJ (sJ (sJ (sJ M 27 ((4 : Int32).toNatClampNeg) p2.toInt64) 27 ((5 : Int32).toNatClampNeg) ((mI (sJ M 27 ((4 : Int32).toNatClampNeg) p2.toInt64) a1 0).toInt64)) 27 ((6 : Int32).toNatClampNeg) 0) 27 ((7 : Int32).toNatClampNeg) ((mI (sJ (sJ (sJ M 27 ((4 : Int32).toNatClampNeg) p2.toInt64) 27 ((5 : Int32).toNatClampNeg) ((mI (sJ M 27 ((4 : Int32).toNatClampNeg) p2.toInt64) a1 0).toInt64)) 27 ((6 : Int32).toNatClampNeg) 0) a1 2).toInt64) → q M14)))))))))))) : K_X4_learnPlayer l [rV (some 26), rV (some a1), iV p2] M q := by
  refine o_ctr (ini := false) (by decide +kernel) rfl (fun z => by cases z) (Nat.le_of_ble_eq_true rfl) ?_
  show E_X4_learnPlayer l q 0 [(0, rV (some 26)), (1, rV (some a1)), (2, iV p2)] [] M 0 0
  refine e_aload_n dX4_learnPlayer_0 rfl rfl ?_
  obtain ⟨o1, h⟩ := h
  refine e_gA flX4_11 rfl rfl o1 dX4_learnPlayer_1 ?_
  refine e_iconst (v := 4) dX4_learnPlayer_4 (by decide) ?_
  refine e_iload_n dX4_learnPlayer_5 rfl rfl ?_
  refine e_i2l dX4_learnPlayer_6 ?_
  obtain ⟨o2, h⟩ := h
  refine e_last rfl o2 dX4_learnPlayer_7 ?_
  refine e_aload_n dX4_learnPlayer_8 rfl rfl ?_
  obtain ⟨o3, h⟩ := h
  refine e_gA flX4_11 rfl rfl o3 dX4_learnPlayer_9 ?_
  refine e_iconst (v := 5) dX4_learnPlayer_12 (by decide) ?_
  refine e_aload_n dX4_learnPlayer_13 rfl rfl ?_
  refine e_gI flX4_38 t1 rfl dX4_learnPlayer_14 ?_
  refine e_i2l dX4_learnPlayer_17 ?_
  obtain ⟨o4, h⟩ := h
  refine e_last rfl o4 dX4_learnPlayer_18 ?_
  refine e_aload_n dX4_learnPlayer_19 rfl rfl ?_
  obtain ⟨o5, h⟩ := h
  refine e_gA flX4_11 rfl rfl o5 dX4_learnPlayer_20 ?_
  refine e_bipush (v := 6) dX4_learnPlayer_23 (by decide) ?_
  refine e_iload_n dX4_learnPlayer_25 rfl rfl ?_
  refine e_aload_n dX4_learnPlayer_26 rfl rfl ?_
  refine e_gI flX4_38 t1 rfl dX4_learnPlayer_27 ?_
  refine e_ic_ne (tgt := 37) dX4_learnPlayer_30 (by decide) (fun c6 => ?_) (fun c6 => ?_)
  · replace h := h.1 c6
    refine e_lconst (v := 1) dX4_learnPlayer_37 (by decide) ?_
    obtain ⟨o7, h⟩ := h
    refine e_last rfl o7 dX4_learnPlayer_38 ?_
    refine e_aload_n dX4_learnPlayer_39 rfl rfl ?_
    obtain ⟨o8, h⟩ := h
    refine e_gA flX4_11 rfl rfl o8 dX4_learnPlayer_40 ?_
    refine e_bipush (v := 7) dX4_learnPlayer_43 (by decide) ?_
    refine e_aload_n dX4_learnPlayer_45 rfl rfl ?_
    refine e_gI flX4_43 t1 rfl dX4_learnPlayer_46 ?_
    refine e_i2l dX4_learnPlayer_49 ?_
    obtain ⟨o9, h⟩ := h
    refine e_last rfl o9 dX4_learnPlayer_50 ?_
    generalize hgM10 : sJ (sJ (sJ (sJ M 27 ((4 : Int32).toNatClampNeg) p2.toInt64) 27 ((5 : Int32).toNatClampNeg) ((mI (sJ M 27 ((4 : Int32).toNatClampNeg) p2.toInt64) a1 0).toInt64)) 27 ((6 : Int32).toNatClampNeg) 1) 27 ((7 : Int32).toNatClampNeg) ((mI (sJ (sJ (sJ M 27 ((4 : Int32).toNatClampNeg) p2.toInt64) 27 ((5 : Int32).toNatClampNeg) ((mI (sJ M 27 ((4 : Int32).toNatClampNeg) p2.toInt64) a1 0).toInt64)) 27 ((6 : Int32).toNatClampNeg) 1) a1 2).toInt64) = M10
    replace h := h M10 hgM10.symm
    exact e_ret rfl dX4_learnPlayer_51 ⟨rfl, h⟩
  · replace h := h.2 c6
    refine e_lconst (v := 0) dX4_learnPlayer_33 (by decide) ?_
    refine e_goto (tgt := 38) dX4_learnPlayer_34 (by decide) ?_
    obtain ⟨o11, h⟩ := h
    refine e_last rfl o11 dX4_learnPlayer_38 ?_
    refine e_aload_n dX4_learnPlayer_39 rfl rfl ?_
    obtain ⟨o12, h⟩ := h
    refine e_gA flX4_11 rfl rfl o12 dX4_learnPlayer_40 ?_
    refine e_bipush (v := 7) dX4_learnPlayer_43 (by decide) ?_
    refine e_aload_n dX4_learnPlayer_45 rfl rfl ?_
    refine e_gI flX4_43 t1 rfl dX4_learnPlayer_46 ?_
    refine e_i2l dX4_learnPlayer_49 ?_
    obtain ⟨o13, h⟩ := h
    refine e_last rfl o13 dX4_learnPlayer_50 ?_
    generalize hgM14 : sJ (sJ (sJ (sJ M 27 ((4 : Int32).toNatClampNeg) p2.toInt64) 27 ((5 : Int32).toNatClampNeg) ((mI (sJ M 27 ((4 : Int32).toNatClampNeg) p2.toInt64) a1 0).toInt64)) 27 ((6 : Int32).toNatClampNeg) 0) 27 ((7 : Int32).toNatClampNeg) ((mI (sJ (sJ (sJ M 27 ((4 : Int32).toNatClampNeg) p2.toInt64) 27 ((5 : Int32).toNatClampNeg) ((mI (sJ M 27 ((4 : Int32).toNatClampNeg) p2.toInt64) a1 0).toInt64)) 27 ((6 : Int32).toNatClampNeg) 0) a1 2).toInt64) = M14
    replace h := h M14 hgM14.symm
    exact e_ret rfl dX4_learnPlayer_51 ⟨rfl, h⟩
theorem w_X4_learnService (l : Launch) (a1 : Nat) (t1 : o_ty a1 = .inl 6) (M : o_M) (q : o_M → Prop) (h : (mR M 26 0 = some 27 ∧ (vp_in 0 (mN M 27) ∧ (mR (sJ M 27 ((0 : Int32).toNatClampNeg) ((mI M a1 0).toInt64)) 26 0 = some 27 ∧ (vp_in 1 (mN (sJ M 27 ((0 : Int32).toNatClampNeg) ((mI M a1 0).toInt64)) 27) ∧ (mR (sJ (sJ M 27 ((0 : Int32).toNatClampNeg) ((mI M a1 0).toInt64)) 27 ((1 : Int32).toNatClampNeg) (((mI (sJ M 27 ((0 : Int32).toNatClampNeg) ((mI M a1 0).toInt64)) a1 1) - (mI (sJ M 27 ((0 : Int32).toNatClampNeg) ((mI M a1 0).toInt64)) a1 1) / 7 * 7).toInt64)) 26 0 = some 27 ∧ (vp_in 2 (mN (sJ (sJ M 27 ((0 : Int32).toNatClampNeg) ((mI M a1 0).toInt64)) 27 ((1 : Int32).toNatClampNeg) (((mI (sJ M 27 ((0 : Int32).toNatClampNeg) ((mI M a1 0).toInt64)) a1 1) - (mI (sJ M 27 ((0 : Int32).toNatClampNeg) ((mI M a1 0).toInt64)) a1 1) / 7 * 7).toInt64)) 27) ∧ (∀ M7, M7 = sJ (sJ (sJ M 27 ((0 : Int32).toNatClampNeg) ((mI M a1 0).toInt64)) 27 ((1 : Int32).toNatClampNeg) (((mI (sJ M 27 ((0 : Int32).toNatClampNeg) ((mI M a1 0).toInt64)) a1 1) - (mI (sJ M 27 ((0 : Int32).toNatClampNeg) ((mI M a1 0).toInt64)) a1 1) / 7 * 7).toInt64)) 27 ((2 : Int32).toNatClampNeg) ((mI (sJ (sJ M 27 ((0 : Int32).toNatClampNeg) ((mI M a1 0).toInt64)) 27 ((1 : Int32).toNatClampNeg) (((mI (sJ M 27 ((0 : Int32).toNatClampNeg) ((mI M a1 0).toInt64)) a1 1) - (mI (sJ M 27 ((0 : Int32).toNatClampNeg) ((mI M a1 0).toInt64)) a1 1) / 7 * 7).toInt64)) a1 2).toInt64) → (mR M7 26 0 = some 27 ∧ (vp_in 3 (mN M7 27) ∧ q (sJ M7 27 ((3 : Int32).toNatClampNeg) ((mI M7 a1 3).toInt64)))))))))))) : K_X4_learnService l [rV (some 26), rV (some a1)] M q := by
  refine o_ctr (ini := false) (by decide +kernel) rfl (fun z => by cases z) (Nat.le_of_ble_eq_true rfl) ?_
  show E_X4_learnService l q 0 [(0, rV (some 26)), (1, rV (some a1))] [] M 0 0
  refine e_aload_n dX4_learnService_0 rfl rfl ?_
  obtain ⟨o1, h⟩ := h
  refine e_gA flX4_11 rfl rfl o1 dX4_learnService_1 ?_
  refine e_iconst (v := 0) dX4_learnService_4 (by decide) ?_
  refine e_aload_n dX4_learnService_5 rfl rfl ?_
  refine e_gI flX4_24 t1 rfl dX4_learnService_6 ?_
  refine e_i2l dX4_learnService_9 ?_
  obtain ⟨o2, h⟩ := h
  refine e_last rfl o2 dX4_learnService_10 ?_
  refine e_aload_n dX4_learnService_11 rfl rfl ?_
  obtain ⟨o3, h⟩ := h
  refine e_gA flX4_11 rfl rfl o3 dX4_learnService_12 ?_
  refine e_iconst (v := 1) dX4_learnService_15 (by decide) ?_
  refine e_aload_n dX4_learnService_16 rfl rfl ?_
  refine e_gI flX4_29 t1 rfl dX4_learnService_17 ?_
  refine e_bipush (v := 7) dX4_learnService_20 (by decide) ?_
  refine e_irem dX4_learnService_22 (by decide) ?_
  refine e_i2l dX4_learnService_23 ?_
  obtain ⟨o4, h⟩ := h
  refine e_last rfl o4 dX4_learnService_24 ?_
  refine e_aload_n dX4_learnService_25 rfl rfl ?_
  obtain ⟨o5, h⟩ := h
  refine e_gA flX4_11 rfl rfl o5 dX4_learnService_26 ?_
  refine e_iconst (v := 2) dX4_learnService_29 (by decide) ?_
  refine e_aload_n dX4_learnService_30 rfl rfl ?_
  refine e_gI flX4_32 t1 rfl dX4_learnService_31 ?_
  refine e_i2l dX4_learnService_34 ?_
  obtain ⟨o6, h⟩ := h
  refine e_last rfl o6 dX4_learnService_35 ?_
  generalize hgM7 : sJ (sJ (sJ M 27 ((0 : Int32).toNatClampNeg) ((mI M a1 0).toInt64)) 27 ((1 : Int32).toNatClampNeg) (((mI (sJ M 27 ((0 : Int32).toNatClampNeg) ((mI M a1 0).toInt64)) a1 1) - (mI (sJ M 27 ((0 : Int32).toNatClampNeg) ((mI M a1 0).toInt64)) a1 1) / 7 * 7).toInt64)) 27 ((2 : Int32).toNatClampNeg) ((mI (sJ (sJ M 27 ((0 : Int32).toNatClampNeg) ((mI M a1 0).toInt64)) 27 ((1 : Int32).toNatClampNeg) (((mI (sJ M 27 ((0 : Int32).toNatClampNeg) ((mI M a1 0).toInt64)) a1 1) - (mI (sJ M 27 ((0 : Int32).toNatClampNeg) ((mI M a1 0).toInt64)) a1 1) / 7 * 7).toInt64)) a1 2).toInt64) = M7
  replace h := h M7 hgM7.symm
  refine e_aload_n dX4_learnService_36 rfl rfl ?_
  obtain ⟨o8, h⟩ := h
  refine e_gA flX4_11 rfl rfl o8 dX4_learnService_37 ?_
  refine e_iconst (v := 3) dX4_learnService_40 (by decide) ?_
  refine e_aload_n dX4_learnService_41 rfl rfl ?_
  refine e_gI flX4_35 t1 rfl dX4_learnService_42 ?_
  refine e_i2l dX4_learnService_45 ?_
  obtain ⟨o9, h⟩ := h
  refine e_last rfl o9 dX4_learnService_46 ?_
  exact e_ret rfl dX4_learnService_47 ⟨rfl, h⟩
theorem w_X4_learnSittings (l : Launch) (p1 : Int32) (p2 : Int32) (M : o_M) (q : o_M → Prop) (h : (mR M 26 0 = some 27 ∧ (vp_in 8 (mN M 27) ∧ (mR (sJ M 27 ((8 : Int32).toNatClampNeg) p1.toInt64) 26 0 = some 27 ∧ (vp_in 9 (mN (sJ M 27 ((8 : Int32).toNatClampNeg) p1.toInt64) 27) ∧ q (sJ (sJ M 27 ((8 : Int32).toNatClampNeg) p1.toInt64) 27 ((9 : Int32).toNatClampNeg) p2.toInt64)))))) : K_X4_learnSittings l [rV (some 26), iV p1, iV p2] M q := by
  refine o_ctr (ini := false) (by decide +kernel) rfl (fun z => by cases z) (Nat.le_of_ble_eq_true rfl) ?_
  show E_X4_learnSittings l q 0 [(0, rV (some 26)), (1, iV p1), (2, iV p2)] [] M 0 0
  refine e_aload_n dX4_learnSittings_0 rfl rfl ?_
  obtain ⟨o1, h⟩ := h
  refine e_gA flX4_11 rfl rfl o1 dX4_learnSittings_1 ?_
  refine e_bipush (v := 8) dX4_learnSittings_4 (by decide) ?_
  refine e_iload_n dX4_learnSittings_6 rfl rfl ?_
  refine e_i2l dX4_learnSittings_7 ?_
  obtain ⟨o2, h⟩ := h
  refine e_last rfl o2 dX4_learnSittings_8 ?_
  refine e_aload_n dX4_learnSittings_9 rfl rfl ?_
  obtain ⟨o3, h⟩ := h
  refine e_gA flX4_11 rfl rfl o3 dX4_learnSittings_10 ?_
  refine e_bipush (v := 9) dX4_learnSittings_13 (by decide) ?_
  refine e_iload_n dX4_learnSittings_15 rfl rfl ?_
  refine e_i2l dX4_learnSittings_16 ?_
  obtain ⟨o4, h⟩ := h
  refine e_last rfl o4 dX4_learnSittings_17 ?_
  exact e_ret rfl dX4_learnSittings_18 ⟨rfl, h⟩
theorem w_X4_pop (l : Launch) (M : o_M) (q : Int64 → o_M → Prop) (h : ((0 < (mI M 26 2) → (mR (sI M 26 2 ((mI M 26 2) - 1)) 26 1 = some 28 ∧ (vp_in (mI (sI M 26 2 ((mI M 26 2) - 1)) 26 2) (mN (sI M 26 2 ((mI M 26 2) - 1)) 28) ∧ q (mJ (sI M 26 2 ((mI M 26 2) - 1)) 28 (mI (sI M 26 2 ((mI M 26 2) - 1)) 26 2).toNatClampNeg) (sI M 26 2 ((mI M 26 2) - 1))))) ∧ (¬ 0 < (mI M 26 2) → q 0 M))) : K_X4_pop l [rV (some 26)] M q := by
  refine o_ctr (ini := false) (by decide +kernel) rfl (fun z => by cases z) (Nat.le_of_ble_eq_true rfl) ?_
  show E_X4_pop l q 0 [(0, rV (some 26))] [] M 0 0
  refine e_aload_n dX4_pop_0 rfl rfl ?_
  refine e_gI flX4_20 rfl rfl dX4_pop_1 ?_
  refine e_if_gt (tgt := 9) dX4_pop_4 (by decide) (fun c1 => ?_) (fun c1 => ?_)
  · replace h := h.1 c1
    refine e_aload_n dX4_pop_9 rfl rfl ?_
    refine e_dup rfl dX4_pop_10 ?_
    refine e_gI flX4_20 rfl rfl dX4_pop_11 ?_
    refine e_iconst (v := 1) dX4_pop_14 (by decide) ?_
    refine e_isub dX4_pop_15 ?_
    refine e_pI flX4_20 rfl (Or.inl rfl) rfl rfl rfl dX4_pop_16 ?_
    refine e_aload_n dX4_pop_19 rfl rfl ?_
    obtain ⟨o2, h⟩ := h
    refine e_gA flX4_17 rfl rfl o2 dX4_pop_20 ?_
    refine e_aload_n dX4_pop_23 rfl rfl ?_
    refine e_gI flX4_20 rfl rfl dX4_pop_24 ?_
    obtain ⟨o3, h⟩ := h
    refine e_lald rfl o3 dX4_pop_27 ?_
    exact e_lret rfl trivial dX4_pop_28 ⟨_, rfl, h⟩
  · replace h := h.2 c1
    refine e_lconst (v := 0) dX4_pop_7 (by decide) ?_
    exact e_lret rfl trivial dX4_pop_8 ⟨_, rfl, h⟩
theorem w_X4_push (l : Launch) (p1 : Int64) (M : o_M) (q : o_M → Prop) (h : ((64 ≤ (mI M 26 2) → q M) ∧ (¬ 64 ≤ (mI M 26 2) → (mR M 26 1 = some 28 ∧ (vp_in (mI M 26 2) (mN M 28) ∧ q (sI (sJ M 28 ((mI M 26 2).toNatClampNeg) p1) 26 2 ((mI (sJ M 28 ((mI M 26 2).toNatClampNeg) p1) 26 2) + 1))))))) : K_X4_push l [rV (some 26), jV p1] M q := by
  refine o_ctr (ini := false) (by decide +kernel) rfl (fun z => by cases z) (Nat.le_of_ble_eq_true rfl) ?_
  show E_X4_push l q 0 [(0, rV (some 26)), (1, jV p1)] [] M 0 0
  refine e_aload_n dX4_push_0 rfl rfl ?_
  refine e_gI flX4_20 rfl rfl dX4_push_1 ?_
  refine e_bipush (v := 64) dX4_push_4 (by decide) ?_
  refine e_ic_ge (tgt := 29) dX4_push_6 (by decide) (fun c1 => ?_) (fun c1 => ?_)
  · replace h := h.1 c1
    exact e_ret rfl dX4_push_29 ⟨rfl, h⟩
  · replace h := h.2 c1
    refine e_aload_n dX4_push_9 rfl rfl ?_
    obtain ⟨o2, h⟩ := h
    refine e_gA flX4_17 rfl rfl o2 dX4_push_10 ?_
    refine e_aload_n dX4_push_13 rfl rfl ?_
    refine e_gI flX4_20 rfl rfl dX4_push_14 ?_
    refine e_lload_n dX4_push_17 rfl rfl ?_
    obtain ⟨o3, h⟩ := h
    refine e_last rfl o3 dX4_push_18 ?_
    refine e_aload_n dX4_push_19 rfl rfl ?_
    refine e_dup rfl dX4_push_20 ?_
    refine e_gI flX4_20 rfl rfl dX4_push_21 ?_
    refine e_iconst (v := 1) dX4_push_24 (by decide) ?_
    refine e_iadd dX4_push_25 ?_
    refine e_pI flX4_20 rfl (Or.inl rfl) rfl rfl rfl dX4_push_26 ?_
    exact e_ret rfl dX4_push_29 ⟨rfl, h⟩
abbrev H_X5_countGaps_4 (l : Launch) (q : Int32 → o_M → Prop) (v1 : Int32) (v2 : Int32) (M : o_M) : Prop := E_X5_countGaps l q 4 [(0, rV (some 29)), (1, iV v1), (2, iV v2)] [] M 0 0
theorem w_X5_countGaps (l : Launch) (M : o_M) (q : Int32 → o_M → Prop) (h : H_X5_countGaps_4 l q 0 0 M) : K_X5_countGaps l [rV (some 29)] M q := by
  refine o_ctr (ini := false) (by decide +kernel) rfl (fun z => by cases z) (Nat.le_of_ble_eq_true rfl) ?_
  show E_X5_countGaps l q 0 [(0, rV (some 29))] [] M 0 0
  refine e_iconst (v := 0) dX5_countGaps_0 (by decide) ?_
  refine e_istore_n (lv' := [(1, iV 0), (0, rV (some 29))]) dX5_countGaps_1 rfl (by decide) rfl ?_
  refine e_iconst (v := 0) dX5_countGaps_2 (by decide) ?_
  refine e_istore_n (lv' := [(2, iV 0), (1, iV 0), (0, rV (some 29))]) dX5_countGaps_3 rfl (by decide) rfl ?_
  exact e_lv (List.forall_mem_cons.mpr ⟨rfl, List.forall_mem_cons.mpr ⟨rfl, List.forall_mem_cons.mpr ⟨rfl, fun _ h => absurd h List.not_mem_nil⟩⟩⟩) h
theorem w_X5_countGaps_4 (l : Launch) (q : Int32 → o_M → Prop) (v1 : Int32) (v2 : Int32) (M : o_M) (h : (((mI M 29 5) ≤ v2 → q v1 M) ∧ (¬ (mI M 29 5) ≤ v2 → (mR M 29 1 = some 31 ∧ (vp_in v2 (mN M 31) ∧ ((¬ (mI M 31 v2.toNatClampNeg) = (-1) → H_X5_countGaps_4 l q v1 (v2 + 1) M) ∧ ((mI M 31 v2.toNatClampNeg) = (-1) → H_X5_countGaps_4 l q (v1 + 1) (v2 + 1) M))))))) : H_X5_countGaps_4 l q v1 v2 M := by
  refine e_iload_n dX5_countGaps_4 rfl rfl ?_
  refine e_aload_n dX5_countGaps_5 rfl rfl ?_
  refine e_gI flX5_27 rfl rfl dX5_countGaps_6 ?_
  refine e_ic_ge (tgt := 31) dX5_countGaps_9 (by decide) (fun c1 => ?_) (fun c1 => ?_)
  · replace h := h.1 c1
    refine e_iload_n dX5_countGaps_31 rfl rfl ?_
    exact e_iret rfl trivial dX5_countGaps_32 ⟨_, rfl, h⟩
  · replace h := h.2 c1
    refine e_aload_n dX5_countGaps_12 rfl rfl ?_
    obtain ⟨o2, h⟩ := h
    refine e_gA flX5_15 rfl rfl o2 dX5_countGaps_13 ?_
    refine e_iload_n dX5_countGaps_16 rfl rfl ?_
    obtain ⟨o3, h⟩ := h
    refine e_iald rfl o3 dX5_countGaps_17 ?_
    refine e_iconst (v := (-1)) dX5_countGaps_18 (by decide) ?_
    refine e_ic_ne (tgt := 25) dX5_countGaps_19 (by decide) (fun c4 => ?_) (fun c4 => ?_)
    · replace h := h.1 c4
      refine e_iinc (v := 1) (lv' := [(2, iV (v2 + 1)), (0, rV (some 29)), (1, iV v1)]) rfl (by decide) (by decide) rfl dX5_countGaps_25 ?_
      refine e_goto (tgt := 4) dX5_countGaps_28 (by decide) ?_
      exact e_lv (List.forall_mem_cons.mpr ⟨rfl, List.forall_mem_cons.mpr ⟨rfl, List.forall_mem_cons.mpr ⟨rfl, fun _ h => absurd h List.not_mem_nil⟩⟩⟩) h
    · replace h := h.2 c4
      refine e_iinc (v := 1) (lv' := [(1, iV (v1 + 1)), (0, rV (some 29)), (2, iV v2)]) rfl (by decide) (by decide) rfl dX5_countGaps_22 ?_
      refine e_iinc (v := 1) (lv' := [(2, iV (v2 + 1)), (1, iV (v1 + 1)), (0, rV (some 29))]) rfl (by decide) (by decide) rfl dX5_countGaps_25 ?_
      refine e_goto (tgt := 4) dX5_countGaps_28 (by decide) ?_
      exact e_lv (List.forall_mem_cons.mpr ⟨rfl, List.forall_mem_cons.mpr ⟨rfl, List.forall_mem_cons.mpr ⟨rfl, fun _ h => absurd h List.not_mem_nil⟩⟩⟩) h
abbrev H_X5_moveAlong_4 (l : Launch) (q : o_M → Prop) (v2 : Int32) (v3 : Int32) (M : o_M) : Prop := E_X5_moveAlong l q 4 [(0, rV (some 29)), (2, iV v2), (3, iV v3)] [] M 0 0
theorem w_X5_moveAlong (l : Launch) (p1 : Int32) (M : o_M) (q : o_M → Prop) (h : H_X5_moveAlong_4 l q p1 0 M) : K_X5_moveAlong l [rV (some 29), iV p1] M q := by
  refine o_ctr (ini := false) (by decide +kernel) rfl (fun z => by cases z) (Nat.le_of_ble_eq_true rfl) ?_
  show E_X5_moveAlong l q 0 [(0, rV (some 29)), (1, iV p1)] [] M 0 0
  refine e_iload_n dX5_moveAlong_0 rfl rfl ?_
  refine e_istore_n (lv' := [(2, iV p1), (0, rV (some 29)), (1, iV p1)]) dX5_moveAlong_1 rfl (by decide) rfl ?_
  refine e_iconst (v := 0) dX5_moveAlong_2 (by decide) ?_
  refine e_istore_n (lv' := [(3, iV 0), (2, iV p1), (0, rV (some 29)), (1, iV p1)]) dX5_moveAlong_3 rfl (by decide) rfl ?_
  exact e_lv (List.forall_mem_cons.mpr ⟨rfl, List.forall_mem_cons.mpr ⟨rfl, List.forall_mem_cons.mpr ⟨rfl, fun _ h => absurd h List.not_mem_nil⟩⟩⟩) h
theorem w_X5_moveAlong_4 (l : Launch) (q : o_M → Prop) (v2 : Int32) (v3 : Int32) (M : o_M) (h : ((10 ≤ v3 → q M) ∧ (¬ 10 ≤ v3 → ((v2 = (-1) → q M) ∧ (¬ v2 = (-1) → (mR M 29 4 = some 34 ∧ (vp_in v2 (mN M 34) ∧ (mR M 29 1 = some 31 ∧ (vp_in (mI M 34 v2.toNatClampNeg) (mN M 31) ∧ (mR M 29 1 = some 31 ∧ (vp_in (mI M 34 v2.toNatClampNeg) (mN M 31) ∧ (mR (sI M 31 ((mI M 34 v2.toNatClampNeg).toNatClampNeg) v2) 29 2 = some 32 ∧ (vp_in v2 (mN (sI M 31 ((mI M 34 v2.toNatClampNeg).toNatClampNeg) v2) 32) ∧ H_X5_moveAlong_4 l q (mI M 31 (mI M 34 v2.toNatClampNeg).toNatClampNeg) (v3 + 1) (sI (sI M 31 ((mI M 34 v2.toNatClampNeg).toNatClampNeg) v2) 32 v2.toNatClampNeg (mI M 34 v2.toNatClampNeg))))))))))))))) : H_X5_moveAlong_4 l q v2 v3 M := by
  refine e_iload_n dX5_moveAlong_4 rfl rfl ?_
  refine e_bipush (v := 10) dX5_moveAlong_5 (by decide) ?_
  refine e_ic_ge (tgt := 57) dX5_moveAlong_7 (by decide) (fun c1 => ?_) (fun c1 => ?_)
  · replace h := h.1 c1
    exact e_ret rfl dX5_moveAlong_57 ⟨rfl, h⟩
  · replace h := h.2 c1
    refine e_iload_n dX5_moveAlong_10 rfl rfl ?_
    refine e_iconst (v := (-1)) dX5_moveAlong_11 (by decide) ?_
    refine e_ic_eq (tgt := 57) dX5_moveAlong_12 (by decide) (fun c2 => ?_) (fun c2 => ?_)
    · replace h := h.1 c2
      exact e_ret rfl dX5_moveAlong_57 ⟨rfl, h⟩
    · replace h := h.2 c2
      refine e_aload_n dX5_moveAlong_15 rfl rfl ?_
      obtain ⟨o3, h⟩ := h
      refine e_gA flX5_24 rfl rfl o3 dX5_moveAlong_16 ?_
      refine e_iload_n dX5_moveAlong_19 rfl rfl ?_
      obtain ⟨o4, h⟩ := h
      refine e_iald rfl o4 dX5_moveAlong_20 ?_
      refine e_istore (lv' := [(4, iV (mI M 34 v2.toNatClampNeg)), (0, rV (some 29)), (2, iV v2), (3, iV v3)]) (by decide) rfl dX5_moveAlong_21 ?_
      refine e_aload_n dX5_moveAlong_23 rfl rfl ?_
      obtain ⟨o5, h⟩ := h
      refine e_gA flX5_15 rfl rfl o5 dX5_moveAlong_24 ?_
      refine e_iload rfl dX5_moveAlong_27 ?_
      obtain ⟨o6, h⟩ := h
      refine e_iald rfl o6 dX5_moveAlong_29 ?_
      refine e_istore (lv' := [(5, iV (mI M 31 (mI M 34 v2.toNatClampNeg).toNatClampNeg)), (4, iV (mI M 34 v2.toNatClampNeg)), (0, rV (some 29)), (2, iV v2), (3, iV v3)]) (by decide) rfl dX5_moveAlong_30 ?_
      refine e_aload_n dX5_moveAlong_32 rfl rfl ?_
      obtain ⟨o7, h⟩ := h
      refine e_gA flX5_15 rfl rfl o7 dX5_moveAlong_33 ?_
      refine e_iload rfl dX5_moveAlong_36 ?_
      refine e_iload_n dX5_moveAlong_38 rfl rfl ?_
      obtain ⟨o8, h⟩ := h
      refine e_iast rfl o8 dX5_moveAlong_39 ?_
      refine e_aload_n dX5_moveAlong_40 rfl rfl ?_
      obtain ⟨o9, h⟩ := h
      refine e_gA flX5_18 rfl rfl o9 dX5_moveAlong_41 ?_
      refine e_iload_n dX5_moveAlong_44 rfl rfl ?_
      refine e_iload rfl dX5_moveAlong_45 ?_
      obtain ⟨o10, h⟩ := h
      refine e_iast rfl o10 dX5_moveAlong_47 ?_
      refine e_iload rfl dX5_moveAlong_48 ?_
      refine e_istore_n (lv' := [(2, iV (mI M 31 (mI M 34 v2.toNatClampNeg).toNatClampNeg)), (5, iV (mI M 31 (mI M 34 v2.toNatClampNeg).toNatClampNeg)), (4, iV (mI M 34 v2.toNatClampNeg)), (0, rV (some 29)), (3, iV v3)]) dX5_moveAlong_50 rfl (by decide) rfl ?_
      refine e_iinc (v := 1) (lv' := [(3, iV (v3 + 1)), (2, iV (mI M 31 (mI M 34 v2.toNatClampNeg).toNatClampNeg)), (5, iV (mI M 31 (mI M 34 v2.toNatClampNeg).toNatClampNeg)), (4, iV (mI M 34 v2.toNatClampNeg)), (0, rV (some 29))]) rfl (by decide) (by decide) rfl dX5_moveAlong_51 ?_
      refine e_goto (tgt := 4) dX5_moveAlong_54 (by decide) ?_
      exact e_lv (List.forall_mem_cons.mpr ⟨rfl, List.forall_mem_cons.mpr ⟨rfl, List.forall_mem_cons.mpr ⟨rfl, fun _ h => absurd h List.not_mem_nil⟩⟩⟩) h
theorem w_X6_begins (l : Launch) (a0 : Nat) (t0 : o_ty a0 = .inl 6) (M : o_M) (q : Int32 → o_M → Prop) (h : q ((24 * (mI M a0 1)) + (mI M a0 2)) M) : K_X6_begins l [rV (some a0)] M q := by
  refine o_ctr (ini := false) (by decide +kernel) rfl (fun z => by cases z) (Nat.le_of_ble_eq_true rfl) ?_
  show E_X6_begins l q 0 [(0, rV (some a0))] [] M 0 0
  refine e_bipush (v := 24) dX6_begins_0 (by decide) ?_
  refine e_aload_n dX6_begins_2 rfl rfl ?_
  refine e_gI flX6_41 t0 rfl dX6_begins_3 ?_
  refine e_imul dX6_begins_6 ?_
  refine e_aload_n dX6_begins_7 rfl rfl ?_
  refine e_gI flX6_44 t0 rfl dX6_begins_8 ?_
  refine e_iadd dX6_begins_11 ?_
  exact e_iret rfl trivial dX6_begins_12 ⟨_, rfl, h⟩
abbrev H_X6_hasWork_2 (l : Launch) (q : Int32 → o_M → Prop) (a0 : Nat) (v1 : Int32) (v2 : Int32) (M : o_M) : Prop := E_X6_hasWork l q 2 [(0, rV (some a0)), (1, iV v1), (2, iV v2)] [] M 0 0
theorem w_X6_hasWork (l : Launch) (a0 : Nat) (p1 : Int32) (t0 : o_ty a0 = .inl 6) (M : o_M) (q : Int32 → o_M → Prop) (h : H_X6_hasWork_2 l q a0 p1 0 M) : K_X6_hasWork l [rV (some a0), iV p1] M q := by
  refine o_ctr (ini := false) (by decide +kernel) rfl (fun z => by cases z) (Nat.le_of_ble_eq_true rfl) ?_
  show E_X6_hasWork l q 0 [(0, rV (some a0)), (1, iV p1)] [] M 0 0
  refine e_iconst (v := 0) dX6_hasWork_0 (by decide) ?_
  refine e_istore_n (lv' := [(2, iV 0), (0, rV (some a0)), (1, iV p1)]) dX6_hasWork_1 rfl (by decide) rfl ?_
  exact e_lv (List.forall_mem_cons.mpr ⟨rfl, List.forall_mem_cons.mpr ⟨rfl, List.forall_mem_cons.mpr ⟨rfl, fun _ h => absurd h List.not_mem_nil⟩⟩⟩) h
theorem w_X6_hasWork_2 (l : Launch) (q : Int32 → o_M → Prop) (a0 : Nat) (t0 : o_ty a0 = .inl 6) (v1 : Int32) (v2 : Int32) (M : o_M) (h : (((mI M a0 7) ≤ v2 → q 0 M) ∧ (¬ (mI M a0 7) ≤ v2 → (mR M a0 4 = some (a0 + 1) ∧ (vp_in v2 (mN M (a0 + 1)) ∧ ((¬ (mI M (a0 + 1) v2.toNatClampNeg) = v1 → H_X6_hasWork_2 l q a0 v1 (v2 + 1) M) ∧ ((mI M (a0 + 1) v2.toNatClampNeg) = v1 → q 1 M))))))) : H_X6_hasWork_2 l q a0 v1 v2 M := by
  refine e_iload_n dX6_hasWork_2 rfl rfl ?_
  refine e_aload_n dX6_hasWork_3 rfl rfl ?_
  refine e_gI flX6_21 t0 rfl dX6_hasWork_4 ?_
  refine e_ic_ge (tgt := 28) dX6_hasWork_7 (by decide) (fun c1 => ?_) (fun c1 => ?_)
  · replace h := h.1 c1
    refine e_iconst (v := 0) dX6_hasWork_28 (by decide) ?_
    exact e_iret rfl rb_0 dX6_hasWork_29 ⟨_, rfl, h⟩
  · replace h := h.2 c1
    refine e_aload_n dX6_hasWork_10 rfl rfl ?_
    obtain ⟨o2, h⟩ := h
    refine e_gA flX6_9 t0 rfl o2 dX6_hasWork_11 ?_
    refine e_iload_n dX6_hasWork_14 rfl rfl ?_
    obtain ⟨o3, h⟩ := h
    refine e_iald ((o_sub6 t0).2.1) o3 dX6_hasWork_15 ?_
    refine e_iload_n dX6_hasWork_16 rfl rfl ?_
    refine e_ic_ne (tgt := 22) dX6_hasWork_17 (by decide) (fun c4 => ?_) (fun c4 => ?_)
    · replace h := h.1 c4
      refine e_iinc (v := 1) (lv' := [(2, iV (v2 + 1)), (0, rV (some a0)), (1, iV v1)]) rfl (by decide) (by decide) rfl dX6_hasWork_22 ?_
      refine e_goto (tgt := 2) dX6_hasWork_25 (by decide) ?_
      exact e_lv (List.forall_mem_cons.mpr ⟨rfl, List.forall_mem_cons.mpr ⟨rfl, List.forall_mem_cons.mpr ⟨rfl, fun _ h => absurd h List.not_mem_nil⟩⟩⟩) h
    · replace h := h.2 c4
      refine e_iconst (v := 1) dX6_hasWork_20 (by decide) ?_
      exact e_iret rfl rb_1 dX6_hasWork_21 ⟨_, rfl, h⟩
abbrev H_X6_instrumentOf_4 (l : Launch) (q : Int32 → o_M → Prop) (a0 : Nat) (v1 : Int32) (v2 : Int32) (v3 : Int32) (M : o_M) : Prop := E_X6_instrumentOf l q 4 [(0, rV (some a0)), (1, iV v1), (2, iV v2), (3, iV v3)] [] M 0 0
abbrev H_X6_instrumentOf_13 (l : Launch) (q : Int32 → o_M → Prop) (a0 : Nat) (v1 : Int32) (v2 : Int32) (v3 : Int32) (v4 : Int32) (M : o_M) : Prop := E_X6_instrumentOf l q 13 [(0, rV (some a0)), (1, iV v1), (2, iV v2), (3, iV v3), (4, iV v4)] [] M 0 0
theorem w_X6_instrumentOf (l : Launch) (a0 : Nat) (p1 : Int32) (t0 : o_ty a0 = .inl 6) (M : o_M) (q : Int32 → o_M → Prop) (h : H_X6_instrumentOf_4 l q a0 p1 0 0 M) : K_X6_instrumentOf l [rV (some a0), iV p1] M q := by
  refine o_ctr (ini := false) (by decide +kernel) rfl (fun z => by cases z) (Nat.le_of_ble_eq_true rfl) ?_
  show E_X6_instrumentOf l q 0 [(0, rV (some a0)), (1, iV p1)] [] M 0 0
  refine e_iconst (v := 0) dX6_instrumentOf_0 (by decide) ?_
  refine e_istore_n (lv' := [(2, iV 0), (0, rV (some a0)), (1, iV p1)]) dX6_instrumentOf_1 rfl (by decide) rfl ?_
  refine e_iconst (v := 0) dX6_instrumentOf_2 (by decide) ?_
  refine e_istore_n (lv' := [(3, iV 0), (2, iV 0), (0, rV (some a0)), (1, iV p1)]) dX6_instrumentOf_3 rfl (by decide) rfl ?_
  exact e_lv (List.forall_mem_cons.mpr ⟨rfl, List.forall_mem_cons.mpr ⟨rfl, List.forall_mem_cons.mpr ⟨rfl, List.forall_mem_cons.mpr ⟨rfl, fun _ h => absurd h List.not_mem_nil⟩⟩⟩⟩) h
theorem w_X6_instrumentOf_4 (l : Launch) (q : Int32 → o_M → Prop) (a0 : Nat) (t0 : o_ty a0 = .inl 6) (v1 : Int32) (v2 : Int32) (v3 : Int32) (M : o_M) (h : ((6 ≤ v3 → q 0 M) ∧ (¬ 6 ≤ v3 → H_X6_instrumentOf_13 l q a0 v1 v2 v3 0 M))) : H_X6_instrumentOf_4 l q a0 v1 v2 v3 M := by
  refine e_iload_n dX6_instrumentOf_4 rfl rfl ?_
  refine e_bipush (v := 6) dX6_instrumentOf_5 (by decide) ?_
  refine e_ic_ge (tgt := 51) dX6_instrumentOf_7 (by decide) (fun c1 => ?_) (fun c1 => ?_)
  · replace h := h.1 c1
    refine e_iconst (v := 0) dX6_instrumentOf_51 (by decide) ?_
    exact e_iret rfl trivial dX6_instrumentOf_52 ⟨_, rfl, h⟩
  · replace h := h.2 c1
    refine e_iconst (v := 0) dX6_instrumentOf_10 (by decide) ?_
    refine e_istore (lv' := [(4, iV 0), (0, rV (some a0)), (1, iV v1), (2, iV v2), (3, iV v3)]) (by decide) rfl dX6_instrumentOf_11 ?_
    exact e_lv (List.forall_mem_cons.mpr ⟨rfl, List.forall_mem_cons.mpr ⟨rfl, List.forall_mem_cons.mpr ⟨rfl, List.forall_mem_cons.mpr ⟨rfl, List.forall_mem_cons.mpr ⟨rfl, fun _ h => absurd h List.not_mem_nil⟩⟩⟩⟩⟩) h
theorem w_X6_instrumentOf_13 (l : Launch) (q : Int32 → o_M → Prop) (a0 : Nat) (t0 : o_ty a0 = .inl 6) (v1 : Int32) (v2 : Int32) (v3 : Int32) (v4 : Int32) (M : o_M) (h : (mR M a0 5 = some (a0 + 2) ∧ (vp_in v3 (mN M (a0 + 2)) ∧ (((mI M (a0 + 2) v3.toNatClampNeg) ≤ v4 → H_X6_instrumentOf_4 l q a0 v1 v2 (v3 + 1) M) ∧ (¬ (mI M (a0 + 2) v3.toNatClampNeg) ≤ v4 → (mR M a0 6 = some (a0 + 3) ∧ (vp_in v2 (mN M (a0 + 3)) ∧ ((¬ (mI M (a0 + 3) v2.toNatClampNeg) = v1 → H_X6_instrumentOf_13 l q a0 v1 (v2 + 1) v3 (v4 + 1) M) ∧ ((mI M (a0 + 3) v2.toNatClampNeg) = v1 → q v3 M))))))))) : H_X6_instrumentOf_13 l q a0 v1 v2 v3 v4 M := by
  refine e_iload rfl dX6_instrumentOf_13 ?_
  refine e_aload_n dX6_instrumentOf_15 rfl rfl ?_
  obtain ⟨o2, h⟩ := h
  refine e_gA flX6_15 t0 rfl o2 dX6_instrumentOf_16 ?_
  refine e_iload_n dX6_instrumentOf_19 rfl rfl ?_
  obtain ⟨o3, h⟩ := h
  refine e_iald ((o_sub6 t0).2.2.1) o3 dX6_instrumentOf_20 ?_
  refine e_ic_ge (tgt := 45) dX6_instrumentOf_21 (by decide) (fun c4 => ?_) (fun c4 => ?_)
  · replace h := h.1 c4
    refine e_iinc (v := 1) (lv' := [(3, iV (v3 + 1)), (0, rV (some a0)), (1, iV v1), (2, iV v2), (4, iV v4)]) rfl (by decide) (by decide) rfl dX6_instrumentOf_45 ?_
    refine e_goto (tgt := 4) dX6_instrumentOf_48 (by decide) ?_
    exact e_lv (List.forall_mem_cons.mpr ⟨rfl, List.forall_mem_cons.mpr ⟨rfl, List.forall_mem_cons.mpr ⟨rfl, List.forall_mem_cons.mpr ⟨rfl, fun _ h => absurd h List.not_mem_nil⟩⟩⟩⟩) h
  · replace h := h.2 c4
    refine e_aload_n dX6_instrumentOf_24 rfl rfl ?_
    obtain ⟨o5, h⟩ := h
    refine e_gA flX6_18 t0 rfl o5 dX6_instrumentOf_25 ?_
    refine e_iload_n dX6_instrumentOf_28 rfl rfl ?_
    obtain ⟨o6, h⟩ := h
    refine e_iald ((o_sub6 t0).2.2.2) o6 dX6_instrumentOf_29 ?_
    refine e_iload_n dX6_instrumentOf_30 rfl rfl ?_
    refine e_ic_ne (tgt := 36) dX6_instrumentOf_31 (by decide) (fun c7 => ?_) (fun c7 => ?_)
    · replace h := h.1 c7
      refine e_iinc (v := 1) (lv' := [(2, iV (v2 + 1)), (0, rV (some a0)), (1, iV v1), (3, iV v3), (4, iV v4)]) rfl (by decide) (by decide) rfl dX6_instrumentOf_36 ?_
      refine e_iinc (v := 1) (lv' := [(4, iV (v4 + 1)), (2, iV (v2 + 1)), (0, rV (some a0)), (1, iV v1), (3, iV v3)]) rfl (by decide) (by decide) rfl dX6_instrumentOf_39 ?_
      refine e_goto (tgt := 13) dX6_instrumentOf_42 (by decide) ?_
      exact e_lv (List.forall_mem_cons.mpr ⟨rfl, List.forall_mem_cons.mpr ⟨rfl, List.forall_mem_cons.mpr ⟨rfl, List.forall_mem_cons.mpr ⟨rfl, List.forall_mem_cons.mpr ⟨rfl, fun _ h => absurd h List.not_mem_nil⟩⟩⟩⟩⟩) h
    · replace h := h.2 c7
      refine e_iload_n dX6_instrumentOf_34 rfl rfl ?_
      exact e_iret rfl trivial dX6_instrumentOf_35 ⟨_, rfl, h⟩
abbrev H_X6_isOfKind_7 (l : Launch) (q : Int32 → o_M → Prop) (v1 : Int32) (v2 : Int32) (v3 : Int32) (M : o_M) : Prop := E_X6_isOfKind l q 7 [(1, iV v1), (2, iV v2), (3, iV v3)] [] M 0 0
theorem w_X6_isOfKind (l : Launch) (a0 : Nat) (p1 : Int32) (t0 : o_ty a0 = .inl 6) (M : o_M) (q : Int32 → o_M → Prop) (h : H_X6_isOfKind_7 l q p1 (mI M a0 0) 0 M) : K_X6_isOfKind l [rV (some a0), iV p1] M q := by
  refine o_ctr (ini := false) (by decide +kernel) rfl (fun z => by cases z) (Nat.le_of_ble_eq_true rfl) ?_
  show E_X6_isOfKind l q 0 [(0, rV (some a0)), (1, iV p1)] [] M 0 0
  refine e_aload_n dX6_isOfKind_0 rfl rfl ?_
  refine e_gI flX6_38 t0 rfl dX6_isOfKind_1 ?_
  refine e_istore_n (lv' := [(2, iV (mI M a0 0)), (0, rV (some a0)), (1, iV p1)]) dX6_isOfKind_4 rfl (by decide) rfl ?_
  refine e_iconst (v := 0) dX6_isOfKind_5 (by decide) ?_
  refine e_istore_n (lv' := [(3, iV 0), (2, iV (mI M a0 0)), (0, rV (some a0)), (1, iV p1)]) dX6_isOfKind_6 rfl (by decide) rfl ?_
  exact e_lv (List.forall_mem_cons.mpr ⟨rfl, List.forall_mem_cons.mpr ⟨rfl, List.forall_mem_cons.mpr ⟨rfl, fun _ h => absurd h List.not_mem_nil⟩⟩⟩) h
theorem w_X6_isOfKind_7 (l : Launch) (q : Int32 → o_M → Prop) (v1 : Int32) (v2 : Int32) (v3 : Int32) (M : o_M) (h : ((6 ≤ v3 → q 0 M) ∧ (¬ 6 ≤ v3 → ((v2 = (-1) → q 0 M) ∧ (¬ v2 = (-1) → ((¬ v2 = v1 → (vp_in v2 6 ∧ H_X6_isOfKind_7 l q v1 (o_kI v2.toNatClampNeg) (v3 + 1) M)) ∧ (v2 = v1 → q 1 M))))))) : H_X6_isOfKind_7 l q v1 v2 v3 M := by
  refine e_iload_n dX6_isOfKind_7 rfl rfl ?_
  refine e_kindN kaN dX6_isOfKind_8 ?_
  refine e_klen dX6_isOfKind_11 ?_
  refine e_ic_ge (tgt := 39) dX6_isOfKind_12 (by decide) (fun c1 => ?_) (fun c1 => ?_)
  · replace h := h.1 c1
    refine e_iconst (v := 0) dX6_isOfKind_39 (by decide) ?_
    exact e_iret rfl rb_0 dX6_isOfKind_40 ⟨_, rfl, h⟩
  · replace h := h.2 c1
    refine e_iload_n dX6_isOfKind_15 rfl rfl ?_
    refine e_iconst (v := (-1)) dX6_isOfKind_16 (by decide) ?_
    refine e_ic_eq (tgt := 39) dX6_isOfKind_17 (by decide) (fun c2 => ?_) (fun c2 => ?_)
    · replace h := h.1 c2
      refine e_iconst (v := 0) dX6_isOfKind_39 (by decide) ?_
      exact e_iret rfl rb_0 dX6_isOfKind_40 ⟨_, rfl, h⟩
    · replace h := h.2 c2
      refine e_iload_n dX6_isOfKind_20 rfl rfl ?_
      refine e_iload_n dX6_isOfKind_21 rfl rfl ?_
      refine e_ic_ne (tgt := 27) dX6_isOfKind_22 (by decide) (fun c3 => ?_) (fun c3 => ?_)
      · replace h := h.1 c3
        refine e_kindN kaN dX6_isOfKind_27 ?_
        refine e_iload_n dX6_isOfKind_30 rfl rfl ?_
        obtain ⟨o4, h⟩ := h
        refine e_kald o4 dX6_isOfKind_31 ?_
        refine e_istore_n (lv' := [(2, iV (o_kI v2.toNatClampNeg)), (1, iV v1), (3, iV v3)]) dX6_isOfKind_32 rfl (by decide) rfl ?_
        refine e_iinc (v := 1) (lv' := [(3, iV (v3 + 1)), (2, iV (o_kI v2.toNatClampNeg)), (1, iV v1)]) rfl (by decide) (by decide) rfl dX6_isOfKind_33 ?_
        refine e_goto (tgt := 7) dX6_isOfKind_36 (by decide) ?_
        exact e_lv (List.forall_mem_cons.mpr ⟨rfl, List.forall_mem_cons.mpr ⟨rfl, List.forall_mem_cons.mpr ⟨rfl, fun _ h => absurd h List.not_mem_nil⟩⟩⟩) h
      · replace h := h.2 c3
        refine e_iconst (v := 1) dX6_isOfKind_25 (by decide) ?_
        exact e_iret rfl rb_1 dX6_isOfKind_26 ⟨_, rfl, h⟩
abbrev H_X6_sitDown_7 (l : Launch) (q : o_M → Prop) (a0 : Nat) (v2 : Int32) (v3 : Int32) (M : o_M) : Prop := E_X6_sitDown l q 7 [(0, rV (some a0)), (1, rV (some 31)), (2, iV v2), (3, iV v3)] [] M 0 0
theorem w_X6_sitDown (l : Launch) (a0 : Nat) (p2 : Int32) (t0 : o_ty a0 = .inl 6) (M : o_M) (q : o_M → Prop) (h : H_X6_sitDown_7 l q a0 p2 0 (sI M a0 10 0)) : K_X6_sitDown l [rV (some a0), rV (some 31), iV p2] M q := by
  refine o_ctr (ini := false) (by decide +kernel) rfl (fun z => by cases z) (Nat.le_of_ble_eq_true rfl) ?_
  show E_X6_sitDown l q 0 [(0, rV (some a0)), (1, rV (some 31)), (2, iV p2)] [] M 0 0
  refine e_aload_n dX6_sitDown_0 rfl rfl ?_
  refine e_iconst (v := 0) dX6_sitDown_1 (by decide) ?_
  refine e_pI flX6_31 t0 (Or.inl rfl) rfl rfl rfl dX6_sitDown_2 ?_
  refine e_iconst (v := 0) dX6_sitDown_5 (by decide) ?_
  refine e_istore_n (lv' := [(3, iV 0), (0, rV (some a0)), (1, rV (some 31)), (2, iV p2)]) dX6_sitDown_6 rfl (by decide) rfl ?_
  exact e_lv (List.forall_mem_cons.mpr ⟨rfl, List.forall_mem_cons.mpr ⟨rfl, List.forall_mem_cons.mpr ⟨rfl, List.forall_mem_cons.mpr ⟨rfl, fun _ h => absurd h List.not_mem_nil⟩⟩⟩⟩) h
theorem w_X6_sitDown_7 (l : Launch) (q : o_M → Prop) (a0 : Nat) (t0 : o_ty a0 = .inl 6) (v2 : Int32) (v3 : Int32) (M : o_M) (h : (((mI M a0 8) ≤ v3 → q (sI (sI M a0 9 v2) a0 11 1)) ∧ (¬ (mI M a0 8) ≤ v3 → (mR M a0 6 = some (a0 + 3) ∧ (vp_in v3 (mN M 31) ∧ (vp_in v3 (mN M (a0 + 3)) ∧ (vp_in v3 (mN (sI M (a0 + 3) v3.toNatClampNeg (mI M 31 v3.toNatClampNeg)) 31) ∧ (((mI (sI M (a0 + 3) v3.toNatClampNeg (mI M 31 v3.toNatClampNeg)) 31 v3.toNatClampNeg) = (-1) → H_X6_sitDown_7 l q a0 v2 (v3 + 1) (sI M (a0 + 3) v3.toNatClampNeg (mI M 31 v3.toNatClampNeg))) ∧ (¬ (mI (sI M (a0 + 3) v3.toNatClampNeg (mI M 31 v3.toNatClampNeg)) 31 v3.toNatClampNeg) = (-1) → (vp_in v3 (mN (sI M (a0 + 3) v3.toNatClampNeg (mI M 31 v3.toNatClampNeg)) 31) ∧ H_X6_sitDown_7 l q a0 v2 (v3 + 1) (sI (sI M (a0 + 3) v3.toNatClampNeg (mI M 31 v3.toNatClampNeg)) a0 10 ((mI (sI M (a0 + 3) v3.toNatClampNeg (mI M 31 v3.toNatClampNeg)) a0 10) ||| ((1 : Int32) <<< ((mI (sI M (a0 + 3) v3.toNatClampNeg (mI M 31 v3.toNatClampNeg)) 31 v3.toNatClampNeg) &&& 31)))))))))))))) : H_X6_sitDown_7 l q a0 v2 v3 M := by
  refine e_iload_n dX6_sitDown_7 rfl rfl ?_
  refine e_aload_n dX6_sitDown_8 rfl rfl ?_
  refine e_gI flX6_25 t0 rfl dX6_sitDown_9 ?_
  refine e_ic_ge (tgt := 51) dX6_sitDown_12 (by decide) (fun c1 => ?_) (fun c1 => ?_)
  · replace h := h.1 c1
    refine e_aload_n dX6_sitDown_51 rfl rfl ?_
    refine e_iload_n dX6_sitDown_52 rfl rfl ?_
    refine e_pI flX6_28 t0 (Or.inl rfl) rfl rfl rfl dX6_sitDown_53 ?_
    refine e_aload_n dX6_sitDown_56 rfl rfl ?_
    refine e_iconst (v := 1) dX6_sitDown_57 (by decide) ?_
    refine e_pI flX6_34 t0 (Or.inl rfl) rfl (by decide) (by decide) dX6_sitDown_58 ?_
    exact e_ret rfl dX6_sitDown_61 ⟨rfl, h⟩
  · replace h := h.2 c1
    refine e_aload_n dX6_sitDown_15 rfl rfl ?_
    obtain ⟨o2, h⟩ := h
    refine e_gA flX6_18 t0 rfl o2 dX6_sitDown_16 ?_
    refine e_iload_n dX6_sitDown_19 rfl rfl ?_
    refine e_aload_n dX6_sitDown_20 rfl rfl ?_
    refine e_iload_n dX6_sitDown_21 rfl rfl ?_
    obtain ⟨o3, h⟩ := h
    refine e_iald rfl o3 dX6_sitDown_22 ?_
    obtain ⟨o4, h⟩ := h
    refine e_iast ((o_sub6 t0).2.2.2) o4 dX6_sitDown_23 ?_
    refine e_aload_n dX6_sitDown_24 rfl rfl ?_
    refine e_iload_n dX6_sitDown_25 rfl rfl ?_
    obtain ⟨o5, h⟩ := h
    refine e_iald rfl o5 dX6_sitDown_26 ?_
    refine e_iconst (v := (-1)) dX6_sitDown_27 (by decide) ?_
    refine e_ic_eq (tgt := 45) dX6_sitDown_28 (by decide) (fun c6 => ?_) (fun c6 => ?_)
    · replace h := h.1 c6
      refine e_iinc (v := 1) (lv' := [(3, iV (v3 + 1)), (0, rV (some a0)), (1, rV (some 31)), (2, iV v2)]) rfl (by decide) (by decide) rfl dX6_sitDown_45 ?_
      refine e_goto (tgt := 7) dX6_sitDown_48 (by decide) ?_
      exact e_lv (List.forall_mem_cons.mpr ⟨rfl, List.forall_mem_cons.mpr ⟨rfl, List.forall_mem_cons.mpr ⟨rfl, List.forall_mem_cons.mpr ⟨rfl, fun _ h => absurd h List.not_mem_nil⟩⟩⟩⟩) h
    · replace h := h.2 c6
      refine e_aload_n dX6_sitDown_31 rfl rfl ?_
      refine e_dup rfl dX6_sitDown_32 ?_
      refine e_gI flX6_31 t0 rfl dX6_sitDown_33 ?_
      refine e_iconst (v := 1) dX6_sitDown_36 (by decide) ?_
      refine e_aload_n dX6_sitDown_37 rfl rfl ?_
      refine e_iload_n dX6_sitDown_38 rfl rfl ?_
      obtain ⟨o7, h⟩ := h
      refine e_iald rfl o7 dX6_sitDown_39 ?_
      refine e_ishl dX6_sitDown_40 ?_
      refine e_ior dX6_sitDown_41 ?_
      refine e_pI flX6_31 t0 (Or.inl rfl) rfl rfl rfl dX6_sitDown_42 ?_
      refine e_iinc (v := 1) (lv' := [(3, iV (v3 + 1)), (0, rV (some a0)), (1, rV (some 31)), (2, iV v2)]) rfl (by decide) (by decide) rfl dX6_sitDown_45 ?_
      refine e_goto (tgt := 7) dX6_sitDown_48 (by decide) ?_
      exact e_lv (List.forall_mem_cons.mpr ⟨rfl, List.forall_mem_cons.mpr ⟨rfl, List.forall_mem_cons.mpr ⟨rfl, List.forall_mem_cons.mpr ⟨rfl, fun _ h => absurd h List.not_mem_nil⟩⟩⟩⟩) h
theorem w_X6_sits (l : Launch) (a0 : Nat) (p1 : Int32) (t0 : o_ty a0 = .inl 6) (M : o_M) (q : Int32 → o_M → Prop) (h : ((¬ (((mI M a0 10) >>> (p1 &&& 31)) &&& 1) = 1 → q 0 M) ∧ ((((mI M a0 10) >>> (p1 &&& 31)) &&& 1) = 1 → q 1 M))) : K_X6_sits l [rV (some a0), iV p1] M q := by
  refine o_ctr (ini := false) (by decide +kernel) rfl (fun z => by cases z) (Nat.le_of_ble_eq_true rfl) ?_
  show E_X6_sits l q 0 [(0, rV (some a0)), (1, iV p1)] [] M 0 0
  refine e_aload_n dX6_sits_0 rfl rfl ?_
  refine e_gI flX6_31 t0 rfl dX6_sits_1 ?_
  refine e_iload_n dX6_sits_4 rfl rfl ?_
  refine e_ishr dX6_sits_5 ?_
  refine e_iconst (v := 1) dX6_sits_6 (by decide) ?_
  refine e_iand dX6_sits_7 ?_
  refine e_iconst (v := 1) dX6_sits_8 (by decide) ?_
  refine e_ic_ne (tgt := 16) dX6_sits_9 (by decide) (fun c1 => ?_) (fun c1 => ?_)
  · replace h := h.1 c1
    refine e_iconst (v := 0) dX6_sits_16 (by decide) ?_
    exact e_iret rfl rb_0 dX6_sits_17 ⟨_, rfl, h⟩
  · replace h := h.2 c1
    refine e_iconst (v := 1) dX6_sits_12 (by decide) ?_
    refine e_goto (tgt := 17) dX6_sits_13 (by decide) ?_
    exact e_iret rfl rb_1 dX6_sits_17 ⟨_, rfl, h⟩
theorem w_X6_standUp (l : Launch) (a0 : Nat) (t0 : o_ty a0 = .inl 6) (M : o_M) (q : o_M → Prop) (h : q (sI (sI (sI M a0 10 0) a0 9 0) a0 11 0)) : K_X6_standUp l [rV (some a0)] M q := by
  refine o_ctr (ini := false) (by decide +kernel) rfl (fun z => by cases z) (Nat.le_of_ble_eq_true rfl) ?_
  show E_X6_standUp l q 0 [(0, rV (some a0))] [] M 0 0
  refine e_aload_n dX6_standUp_0 rfl rfl ?_
  refine e_iconst (v := 0) dX6_standUp_1 (by decide) ?_
  refine e_pI flX6_31 t0 (Or.inl rfl) rfl rfl rfl dX6_standUp_2 ?_
  refine e_aload_n dX6_standUp_5 rfl rfl ?_
  refine e_iconst (v := 0) dX6_standUp_6 (by decide) ?_
  refine e_pI flX6_28 t0 (Or.inl rfl) rfl rfl rfl dX6_standUp_7 ?_
  refine e_aload_n dX6_standUp_10 rfl rfl ?_
  refine e_iconst (v := 0) dX6_standUp_11 (by decide) ?_
  refine e_pI flX6_34 t0 (Or.inl rfl) rfl (by decide) (by decide) dX6_standUp_12 ?_
  exact e_ret rfl dX6_standUp_15 ⟨rfl, h⟩
abbrev H_X0_addWork_2 (l : Launch) (q : o_M → Prop) (a2 : Nat) (v1 : Int32) (v3 : Int32) (M : o_M) : Prop := E_X0_addWork l q 2 [(0, rV (some 38)), (1, iV v1), (2, rV (some a2)), (3, iV v3)] [] M 0 0
abbrev H_X0_addWork_72 (l : Launch) (q : o_M → Prop) (a2 : Nat) (v3 : Int32) (v4 : Int32) (M : o_M) : Prop := E_X0_addWork l q 72 [(0, rV (some 38)), (2, rV (some a2)), (3, iV v3), (4, iV v4)] [] M 0 0
theorem w_X0_addWork (l : Launch) (p1 : Int32) (a2 : Nat) (t2 : o_ty a2 = .inl 10) (M : o_M) (q : o_M → Prop) (h : H_X0_addWork_2 l q a2 p1 0 M) : K_X0_addWork l [rV (some 38), iV p1, rV (some a2)] M q := by
  refine o_ctr (ini := false) (by decide +kernel) rfl (fun z => by cases z) (Nat.le_of_ble_eq_true rfl) ?_
  show E_X0_addWork l q 0 [(0, rV (some 38)), (1, iV p1), (2, rV (some a2))] [] M 0 0
  refine e_iconst (v := 0) dX0_addWork_0 (by decide) ?_
  refine e_istore_n (lv' := [(3, iV 0), (0, rV (some 38)), (1, iV p1), (2, rV (some a2))]) dX0_addWork_1 rfl (by decide) rfl ?_
  exact e_lv (List.forall_mem_cons.mpr ⟨rfl, List.forall_mem_cons.mpr ⟨rfl, List.forall_mem_cons.mpr ⟨rfl, List.forall_mem_cons.mpr ⟨rfl, fun _ h => absurd h List.not_mem_nil⟩⟩⟩⟩) h
theorem w_X0_addWork_2 (l : Launch) (q : o_M → Prop) (a2 : Nat) (t2 : o_ty a2 = .inl 10) (v1 : Int32) (v3 : Int32) (M : o_M) (h : ((6 ≤ v3 → K_X0_bitOf l [iV v1] M (fun r3 M2 => (mR M2 38 1 = some 40 ∧ K_J9_min_7cf53 l [iV ((mI M2 38 2) + (mI M2 a2 0)), iV ((Int32.ofNat (mN M2 40)) - 1)] M2 (fun r6 M5 => H_X0_addWork_72 l q a2 (((mI M a2 1) * 4096) - r3) (mI (sI M5 38 2 r6) 38 2) (sI M5 38 2 r6))))) ∧ (¬ 6 ≤ v3 → K_X10_needOf l [rV (some a2), iV v3] M (fun r8 M7 => (mR M7 38 0 = some 39 ∧ (vp_in v3 (mN M7 39) ∧ ((r8 ≤ (mI M7 39 v3.toNatClampNeg) → H_X0_addWork_2 l q a2 v1 (v3 + 1) M7) ∧ (¬ r8 ≤ (mI M7 39 v3.toNatClampNeg) → q M7)))))))) : H_X0_addWork_2 l q a2 v1 v3 M := by
  refine e_iload_n dX0_addWork_2 rfl rfl ?_
  refine e_bipush (v := 6) dX0_addWork_3 (by decide) ?_
  refine e_ic_ge (tgt := 29) dX0_addWork_5 (by decide) (fun c1 => ?_) (fun c1 => ?_)
  · replace h := h.1 c1
    refine e_aload_n dX0_addWork_29 rfl rfl ?_
    refine e_gI flX0_35 t2 rfl dX0_addWork_30 ?_
    refine e_sipush (v := 4096) dX0_addWork_33 (by decide) ?_
    refine e_imul dX0_addWork_36 ?_
    refine e_iload_n dX0_addWork_37 rfl rfl ?_
    refine e_callS (As := [iV v1]) (st := [iV ((mI M a2 1) * 4096)]) mt_X0_bitOf is_X0_bitOf lkX0_38 ⟨by decide, by decide⟩ (Nat.le_of_ble_eq_true rfl) ⟨by decide, by decide⟩ rfl rfl dX0_addWork_38 (Ctr.mono h (fun v M2 h => ?_))
    obtain ⟨r3, rfl, h⟩ := h
    show E_X0_addWork l q 41 [(0, rV (some 38)), (1, iV v1), (2, rV (some a2)), (3, iV v3)] [iV r3, iV ((mI M a2 1) * 4096)] M2 0 0
    refine e_isub dX0_addWork_41 ?_
    refine e_istore_n (lv' := [(3, iV (((mI M a2 1) * 4096) - r3)), (0, rV (some 38)), (1, iV v1), (2, rV (some a2))]) dX0_addWork_42 rfl (by decide) rfl ?_
    refine e_aload_n dX0_addWork_43 rfl rfl ?_
    refine e_aload_n dX0_addWork_44 rfl rfl ?_
    refine e_gI flX0_18 rfl rfl dX0_addWork_45 ?_
    refine e_aload_n dX0_addWork_48 rfl rfl ?_
    refine e_gI flX0_41 t2 rfl dX0_addWork_49 ?_
    refine e_iadd dX0_addWork_52 ?_
    refine e_aload_n dX0_addWork_53 rfl rfl ?_
    obtain ⟨o4, h⟩ := h
    refine e_gA flX0_15 rfl rfl o4 dX0_addWork_54 ?_
    refine e_alen rfl (by decide) rfl dX0_addWork_57 ?_
    refine e_iconst (v := 1) dX0_addWork_58 (by decide) ?_
    refine e_isub dX0_addWork_59 ?_
    refine e_callS (As := [iV ((mI M2 38 2) + (mI M2 a2 0)), iV ((Int32.ofNat (mN M2 40)) - 1)]) (st := [rV (some 38)]) mt_J9_min_7cf53 is_J9_min_7cf53 lkX0_44 ⟨by decide, by decide⟩ (Nat.le_of_ble_eq_true rfl) ⟨by decide, by decide⟩ rfl rfl dX0_addWork_60 (Ctr.mono h (fun v M5 h => ?_))
    obtain ⟨r6, rfl, h⟩ := h
    show E_X0_addWork l q 63 [(3, iV (((mI M a2 1) * 4096) - r3)), (0, rV (some 38)), (1, iV v1), (2, rV (some a2))] [iV r6, rV (some 38)] M5 0 0
    refine e_pI flX0_18 rfl (Or.inl rfl) rfl rfl rfl dX0_addWork_63 ?_
    refine e_aload_n dX0_addWork_66 rfl rfl ?_
    refine e_gI flX0_18 rfl rfl dX0_addWork_67 ?_
    refine e_istore (lv' := [(4, iV (mI (sI M5 38 2 r6) 38 2)), (3, iV (((mI M a2 1) * 4096) - r3)), (0, rV (some 38)), (1, iV v1), (2, rV (some a2))]) (by decide) rfl dX0_addWork_70 ?_
    exact e_lv (List.forall_mem_cons.mpr ⟨rfl, List.forall_mem_cons.mpr ⟨rfl, List.forall_mem_cons.mpr ⟨rfl, List.forall_mem_cons.mpr ⟨rfl, fun _ h => absurd h List.not_mem_nil⟩⟩⟩⟩) h
  · replace h := h.2 c1
    refine e_aload_n dX0_addWork_8 rfl rfl ?_
    refine e_iload_n dX0_addWork_9 rfl rfl ?_
    refine e_callV (As := [iV v3]) (st := []) mt_X10_needOf in_X10_needOf lkX0_29 rfl t2 ⟨by decide, by decide⟩ (Nat.le_of_ble_eq_true rfl) ⟨by decide, by decide⟩ rfl rfl dX0_addWork_10 (Ctr.mono h (fun v M7 h => ?_))
    obtain ⟨r8, rfl, h⟩ := h
    show E_X0_addWork l q 13 [(0, rV (some 38)), (1, iV v1), (2, rV (some a2)), (3, iV v3)] [iV r8] M7 0 0
    refine e_aload_n dX0_addWork_13 rfl rfl ?_
    obtain ⟨o9, h⟩ := h
    refine e_gA flX0_9 rfl rfl o9 dX0_addWork_14 ?_
    refine e_iload_n dX0_addWork_17 rfl rfl ?_
    obtain ⟨o10, h⟩ := h
    refine e_iald rfl o10 dX0_addWork_18 ?_
    refine e_ic_le (tgt := 23) dX0_addWork_19 (by decide) (fun c11 => ?_) (fun c11 => ?_)
    · replace h := h.1 c11
      refine e_iinc (v := 1) (lv' := [(3, iV (v3 + 1)), (0, rV (some 38)), (1, iV v1), (2, rV (some a2))]) rfl (by decide) (by decide) rfl dX0_addWork_23 ?_
      refine e_goto (tgt := 2) dX0_addWork_26 (by decide) ?_
      exact e_lv (List.forall_mem_cons.mpr ⟨rfl, List.forall_mem_cons.mpr ⟨rfl, List.forall_mem_cons.mpr ⟨rfl, List.forall_mem_cons.mpr ⟨rfl, fun _ h => absurd h List.not_mem_nil⟩⟩⟩⟩) h
    · replace h := h.2 c11
      exact e_ret rfl dX0_addWork_22 ⟨rfl, h⟩
theorem w_X0_addWork_72 (l : Launch) (q : o_M → Prop) (a2 : Nat) (t2 : o_ty a2 = .inl 10) (v3 : Int32) (v4 : Int32) (M : o_M) (h : ((v4 < (mI M a2 0) → q M) ∧ (¬ v4 < (mI M a2 0) → (mR M 38 1 = some 40 ∧ (vp_in (v4 - (mI M a2 0)) (mN M 40) ∧ (((mI M 40 (v4 - (mI M a2 0)).toNatClampNeg) = 1073741824 → H_X0_addWork_72 l q a2 v3 (v4 + (-1)) M) ∧ (¬ (mI M 40 (v4 - (mI M a2 0)).toNatClampNeg) = 1073741824 → (mR M 38 1 = some 40 ∧ (mR M 38 1 = some 40 ∧ (vp_in v4 (mN M 40) ∧ K_J9_min_7cf53 l [iV (mI M 40 v4.toNatClampNeg), iV ((mI M 40 (v4 - (mI M a2 0)).toNatClampNeg) + v3)] M (fun r20 M19 => (vp_in v4 (mN M19 40) ∧ H_X0_addWork_72 l q a2 v3 (v4 + (-1)) (sI M19 40 v4.toNatClampNeg r20))))))))))))) : H_X0_addWork_72 l q a2 v3 v4 M := by
  refine e_iload rfl dX0_addWork_72 ?_
  refine e_aload_n dX0_addWork_74 rfl rfl ?_
  refine e_gI flX0_41 t2 rfl dX0_addWork_75 ?_
  refine e_ic_lt (tgt := 129) dX0_addWork_78 (by decide) (fun c12 => ?_) (fun c12 => ?_)
  · replace h := h.1 c12
    exact e_ret rfl dX0_addWork_129 ⟨rfl, h⟩
  · replace h := h.2 c12
    refine e_aload_n dX0_addWork_81 rfl rfl ?_
    obtain ⟨o13, h⟩ := h
    refine e_gA flX0_15 rfl rfl o13 dX0_addWork_82 ?_
    refine e_iload rfl dX0_addWork_85 ?_
    refine e_aload_n dX0_addWork_87 rfl rfl ?_
    refine e_gI flX0_41 t2 rfl dX0_addWork_88 ?_
    refine e_isub dX0_addWork_91 ?_
    obtain ⟨o14, h⟩ := h
    refine e_iald rfl o14 dX0_addWork_92 ?_
    refine e_istore (lv' := [(5, iV (mI M 40 (v4 - (mI M a2 0)).toNatClampNeg)), (0, rV (some 38)), (2, rV (some a2)), (3, iV v3), (4, iV v4)]) (by decide) rfl dX0_addWork_93 ?_
    refine e_iload rfl dX0_addWork_95 ?_
    refine e_ldc kcX0_28 dX0_addWork_97 ?_
    refine e_ic_eq (tgt := 123) dX0_addWork_99 (by decide) (fun c15 => ?_) (fun c15 => ?_)
    · replace h := h.1 c15
      refine e_iinc (v := (-1)) (lv' := [(4, iV (v4 + (-1))), (5, iV (mI M 40 (v4 - (mI M a2 0)).toNatClampNeg)), (0, rV (some 38)), (2, rV (some a2)), (3, iV v3)]) rfl (by decide) (by decide) rfl dX0_addWork_123 ?_
      refine e_goto (tgt := 72) dX0_addWork_126 (by decide) ?_
      exact e_lv (List.forall_mem_cons.mpr ⟨rfl, List.forall_mem_cons.mpr ⟨rfl, List.forall_mem_cons.mpr ⟨rfl, List.forall_mem_cons.mpr ⟨rfl, fun _ h => absurd h List.not_mem_nil⟩⟩⟩⟩) h
    · replace h := h.2 c15
      refine e_aload_n dX0_addWork_102 rfl rfl ?_
      obtain ⟨o16, h⟩ := h
      refine e_gA flX0_15 rfl rfl o16 dX0_addWork_103 ?_
      refine e_iload rfl dX0_addWork_106 ?_
      refine e_aload_n dX0_addWork_108 rfl rfl ?_
      obtain ⟨o17, h⟩ := h
      refine e_gA flX0_15 rfl rfl o17 dX0_addWork_109 ?_
      refine e_iload rfl dX0_addWork_112 ?_
      obtain ⟨o18, h⟩ := h
      refine e_iald rfl o18 dX0_addWork_114 ?_
      refine e_iload rfl dX0_addWork_115 ?_
      refine e_iload_n dX0_addWork_117 rfl rfl ?_
      refine e_iadd dX0_addWork_118 ?_
      refine e_callS (As := [iV (mI M 40 v4.toNatClampNeg), iV ((mI M 40 (v4 - (mI M a2 0)).toNatClampNeg) + v3)]) (st := [iV v4, rV (some 40)]) mt_J9_min_7cf53 is_J9_min_7cf53 lkX0_44 ⟨by decide, by decide⟩ (Nat.le_of_ble_eq_true rfl) ⟨by decide, by decide⟩ rfl rfl dX0_addWork_119 (Ctr.mono h (fun v M19 h => ?_))
      obtain ⟨r20, rfl, h⟩ := h
      show E_X0_addWork l q 122 [(5, iV (mI M 40 (v4 - (mI M a2 0)).toNatClampNeg)), (0, rV (some 38)), (2, rV (some a2)), (3, iV v3), (4, iV v4)] [iV r20, iV v4, rV (some 40)] M19 0 0
      obtain ⟨o21, h⟩ := h
      refine e_iast rfl o21 dX0_addWork_122 ?_
      refine e_iinc (v := (-1)) (lv' := [(4, iV (v4 + (-1))), (5, iV (mI M 40 (v4 - (mI M a2 0)).toNatClampNeg)), (0, rV (some 38)), (2, rV (some a2)), (3, iV v3)]) rfl (by decide) (by decide) rfl dX0_addWork_123 ?_
      refine e_goto (tgt := 72) dX0_addWork_126 (by decide) ?_
      exact e_lv (List.forall_mem_cons.mpr ⟨rfl, List.forall_mem_cons.mpr ⟨rfl, List.forall_mem_cons.mpr ⟨rfl, List.forall_mem_cons.mpr ⟨rfl, fun _ h => absurd h List.not_mem_nil⟩⟩⟩⟩) h
theorem w_X0_begin (l : Launch) (M : o_M) (q : o_M → Prop) (h : (mR M 38 0 = some 39 ∧ K_J7_fill_53178 l [rV (some 39), iV 0] M (fun M2 => (mR M2 38 1 = some 40 ∧ K_J7_fill_53178 l [rV (some 40), iV 1073741824] M2 (fun M4 => (mR M4 38 1 = some 40 ∧ (vp_in 0 (mN M4 40) ∧ q (sI (sI M4 40 ((0 : Int32).toNatClampNeg) 0) 38 2 0)))))))) : K_X0_begin l [rV (some 38)] M q := by
  refine o_ctr (ini := false) (by decide +kernel) rfl (fun z => by cases z) (Nat.le_of_ble_eq_true rfl) ?_
  show E_X0_begin l q 0 [(0, rV (some 38))] [] M 0 0
  refine e_aload_n dX0_begin_0 rfl rfl ?_
  obtain ⟨o1, h⟩ := h
  refine e_gA flX0_9 rfl rfl o1 dX0_begin_1 ?_
  refine e_iconst (v := 0) dX0_begin_4 (by decide) ?_
  refine e_callS (As := [rV (some 39), iV 0]) (st := []) mt_J7_fill_53178 is_J7_fill_53178 lkX0_22 ⟨by decide, by decide⟩ (Nat.le_of_ble_eq_true rfl) ⟨by decide, by decide⟩ rfl rfl dX0_begin_5 (Ctr.mono h (fun v M2 h => ?_))
  obtain ⟨rfl, h⟩ := h
  show E_X0_begin l q 8 [(0, rV (some 38))] [] M2 0 0
  refine e_aload_n dX0_begin_8 rfl rfl ?_
  obtain ⟨o3, h⟩ := h
  refine e_gA flX0_15 rfl rfl o3 dX0_begin_9 ?_
  refine e_ldc kcX0_28 dX0_begin_12 ?_
  refine e_callS (As := [rV (some 40), iV 1073741824]) (st := []) mt_J7_fill_53178 is_J7_fill_53178 lkX0_22 ⟨by decide, by decide⟩ (Nat.le_of_ble_eq_true rfl) ⟨by decide, by decide⟩ rfl rfl dX0_begin_14 (Ctr.mono h (fun v M4 h => ?_))
  obtain ⟨rfl, h⟩ := h
  show E_X0_begin l q 17 [(0, rV (some 38))] [] M4 0 0
  refine e_aload_n dX0_begin_17 rfl rfl ?_
  obtain ⟨o5, h⟩ := h
  refine e_gA flX0_15 rfl rfl o5 dX0_begin_18 ?_
  refine e_iconst (v := 0) dX0_begin_21 (by decide) ?_
  refine e_iconst (v := 0) dX0_begin_22 (by decide) ?_
  obtain ⟨o6, h⟩ := h
  refine e_iast rfl o6 dX0_begin_23 ?_
  refine e_aload_n dX0_begin_24 rfl rfl ?_
  refine e_iconst (v := 0) dX0_begin_25 (by decide) ?_
  refine e_pI flX0_18 rfl (Or.inl rfl) rfl rfl rfl dX0_begin_26 ?_
  exact e_ret rfl dX0_begin_29 ⟨rfl, h⟩
theorem w_X0_init (l : Launch) (M : o_M) (q : o_M → Prop) (h : (39 ∉ mL M ∧ (40 ∉ mL (sR (nW M 39 6) 38 0 (some 39)) ∧ q (sI (sR (nW (sR (nW M 39 6) 38 0 (some 39)) 40 1081) 38 1 (some 40)) 38 2 0)))) : K_X0_init l [rV (some 38)] M q := by
  refine o_ctr (ini := true) (by decide +kernel) rfl (fun z => rfl) (Nat.le_of_ble_eq_true rfl) ?_
  show E_X0_init l q 0 [(0, rV (some 38))] [] M 0 0
  refine e_aload_n dX0_init_0 rfl rfl ?_
  refine e_objI loX0_3 oi_1 oi_2 (by decide) (Nat.le_of_ble_eq_true rfl) (by decide) dX0_init_1 ?_
  refine e_aload_n dX0_init_4 rfl rfl ?_
  refine e_bipush (v := 6) dX0_init_5 (by decide) ?_
  obtain ⟨o1, h⟩ := h
  refine e_newa (N := 6) o1 rfl rfl rfl (by decide) ac_int (by decide) (by decide) (by decide) (by decide) (by decide) dX0_init_7 ?_
  refine e_pR flX0_9 rfl (Or.inr ⟨rfl, rfl, rfl, fnX0_9⟩) rfl dX0_init_9 ?_
  refine e_aload_n dX0_init_12 rfl rfl ?_
  refine e_sipush (v := 1081) dX0_init_13 (by decide) ?_
  obtain ⟨o2, h⟩ := h
  refine e_newa (N := 1081) o2 rfl rfl rfl (by decide) ac_int (by decide) (by decide) (by decide) (by decide) (by decide) dX0_init_16 ?_
  refine e_pR flX0_15 rfl (Or.inr ⟨rfl, rfl, rfl, fnX0_15⟩) rfl dX0_init_18 ?_
  refine e_aload_n dX0_init_21 rfl rfl ?_
  refine e_iconst (v := 0) dX0_init_22 (by decide) ?_
  refine e_pI flX0_18 rfl (Or.inl rfl) rfl rfl rfl dX0_init_23 ?_
  exact e_ret rfl dX0_init_26 ⟨rfl, h⟩
abbrev H_X0_setOf_11 (l : Launch) (q : Int32 → o_M → Prop) (v1 : Int32) (v2 : Int32) (v3 : Int32) (M : o_M) : Prop := E_X0_setOf l q 11 [(1, iV v1), (2, iV v2), (3, iV v3)] [] M 0 0
theorem w_X0_setOf (l : Launch) (p0 : Int32) (M : o_M) (q : Int32 → o_M → Prop) (h : H_X0_setOf_11 l q ((-p0) &&& 4095) 0 0 M) : K_X0_setOf l [iV p0] M q := by
  refine o_ctr (ini := false) (by decide +kernel) rfl (fun z => by cases z) (Nat.le_of_ble_eq_true rfl) ?_
  show E_X0_setOf l q 0 [(0, iV p0)] [] M 0 0
  refine e_iload_n dX0_setOf_0 rfl rfl ?_
  refine e_ineg dX0_setOf_1 ?_
  refine e_sipush (v := 4095) dX0_setOf_2 (by decide) ?_
  refine e_iand dX0_setOf_5 ?_
  refine e_istore_n (lv' := [(1, iV ((-p0) &&& 4095)), (0, iV p0)]) dX0_setOf_6 rfl (by decide) rfl ?_
  refine e_iconst (v := 0) dX0_setOf_7 (by decide) ?_
  refine e_istore_n (lv' := [(2, iV 0), (1, iV ((-p0) &&& 4095)), (0, iV p0)]) dX0_setOf_8 rfl (by decide) rfl ?_
  refine e_iconst (v := 0) dX0_setOf_9 (by decide) ?_
  refine e_istore_n (lv' := [(3, iV 0), (2, iV 0), (1, iV ((-p0) &&& 4095)), (0, iV p0)]) dX0_setOf_10 rfl (by decide) rfl ?_
  exact e_lv (List.forall_mem_cons.mpr ⟨rfl, List.forall_mem_cons.mpr ⟨rfl, List.forall_mem_cons.mpr ⟨rfl, fun _ h => absurd h List.not_mem_nil⟩⟩⟩) h
theorem w_X0_setOf_11 (l : Launch) (q : Int32 → o_M → Prop) (v1 : Int32) (v2 : Int32) (v3 : Int32) (M : o_M) (h : ((12 ≤ v3 → q v2 M) ∧ (¬ 12 ≤ v3 → K_X0_bitOf l [iV v3] M (fun r3 M2 => (((v1 &&& r3) = 0 → H_X0_setOf_11 l q v1 v2 (v3 + 1) M2) ∧ (¬ (v1 &&& r3) = 0 → H_X0_setOf_11 l q v1 (v2 ||| ((1 : Int32) <<< (v3 &&& 31))) (v3 + 1) M2)))))) : H_X0_setOf_11 l q v1 v2 v3 M := by
  refine e_iload_n dX0_setOf_11 rfl rfl ?_
  refine e_bipush (v := 12) dX0_setOf_12 (by decide) ?_
  refine e_ic_ge (tgt := 38) dX0_setOf_14 (by decide) (fun c1 => ?_) (fun c1 => ?_)
  · replace h := h.1 c1
    refine e_iload_n dX0_setOf_38 rfl rfl ?_
    exact e_iret rfl trivial dX0_setOf_39 ⟨_, rfl, h⟩
  · replace h := h.2 c1
    refine e_iload_n dX0_setOf_17 rfl rfl ?_
    refine e_iload_n dX0_setOf_18 rfl rfl ?_
    refine e_callS (As := [iV v3]) (st := [iV v1]) mt_X0_bitOf is_X0_bitOf lkX0_38 ⟨by decide, by decide⟩ (Nat.le_of_ble_eq_true rfl) ⟨by decide, by decide⟩ rfl rfl dX0_setOf_19 (Ctr.mono h (fun v M2 h => ?_))
    obtain ⟨r3, rfl, h⟩ := h
    show E_X0_setOf l q 22 [(1, iV v1), (2, iV v2), (3, iV v3)] [iV r3, iV v1] M2 0 0
    refine e_iand dX0_setOf_22 ?_
    refine e_if_eq (tgt := 32) dX0_setOf_23 (by decide) (fun c4 => ?_) (fun c4 => ?_)
    · replace h := h.1 c4
      refine e_iinc (v := 1) (lv' := [(3, iV (v3 + 1)), (1, iV v1), (2, iV v2)]) rfl (by decide) (by decide) rfl dX0_setOf_32 ?_
      refine e_goto (tgt := 11) dX0_setOf_35 (by decide) ?_
      exact e_lv (List.forall_mem_cons.mpr ⟨rfl, List.forall_mem_cons.mpr ⟨rfl, List.forall_mem_cons.mpr ⟨rfl, fun _ h => absurd h List.not_mem_nil⟩⟩⟩) h
    · replace h := h.2 c4
      refine e_iload_n dX0_setOf_26 rfl rfl ?_
      refine e_iconst (v := 1) dX0_setOf_27 (by decide) ?_
      refine e_iload_n dX0_setOf_28 rfl rfl ?_
      refine e_ishl dX0_setOf_29 ?_
      refine e_ior dX0_setOf_30 ?_
      refine e_istore_n (lv' := [(2, iV (v2 ||| ((1 : Int32) <<< (v3 &&& 31)))), (1, iV v1), (3, iV v3)]) dX0_setOf_31 rfl (by decide) rfl ?_
      refine e_iinc (v := 1) (lv' := [(3, iV (v3 + 1)), (2, iV (v2 ||| ((1 : Int32) <<< (v3 &&& 31)))), (1, iV v1)]) rfl (by decide) (by decide) rfl dX0_setOf_32 ?_
      refine e_goto (tgt := 11) dX0_setOf_35 (by decide) ?_
      exact e_lv (List.forall_mem_cons.mpr ⟨rfl, List.forall_mem_cons.mpr ⟨rfl, List.forall_mem_cons.mpr ⟨rfl, fun _ h => absurd h List.not_mem_nil⟩⟩⟩) h
theorem w_X10_canBePlayed (l : Launch) (a0 : Nat) (p1 : Int32) (t0 : o_ty a0 = .inl 10) (M : o_M) (q : Int32 → o_M → Prop) (h : (((mI M a0 3) = 0 → q 1 M) ∧ (¬ (mI M a0 3) = 0 → ((¬ (mI M a0 3) = 1 → q 0 M) ∧ ((mI M a0 3) = 1 → K_X11_isWithin l [iV p1, iV (mI M a0 4), iV (mI M a0 5)] M (fun r4 M3 => ((r4 = 0 → q 0 M3) ∧ (¬ r4 = 0 → q 1 M3)))))))) : K_X10_canBePlayed l [rV (some a0), iV p1] M q := by
  refine o_ctr (ini := false) (by decide +kernel) rfl (fun z => by cases z) (Nat.le_of_ble_eq_true rfl) ?_
  show E_X10_canBePlayed l q 0 [(0, rV (some a0)), (1, iV p1)] [] M 0 0
  refine e_aload_n dX10_canBePlayed_0 rfl rfl ?_
  refine e_gI flX10_9 t0 rfl dX10_canBePlayed_1 ?_
  refine e_if_eq (tgt := 30) dX10_canBePlayed_4 (by decide) (fun c1 => ?_) (fun c1 => ?_)
  · replace h := h.1 c1
    refine e_iconst (v := 1) dX10_canBePlayed_30 (by decide) ?_
    refine e_goto (tgt := 35) dX10_canBePlayed_31 (by decide) ?_
    exact e_iret rfl rb_1 dX10_canBePlayed_35 ⟨_, rfl, h⟩
  · replace h := h.2 c1
    refine e_aload_n dX10_canBePlayed_7 rfl rfl ?_
    refine e_gI flX10_9 t0 rfl dX10_canBePlayed_8 ?_
    refine e_iconst (v := 1) dX10_canBePlayed_11 (by decide) ?_
    refine e_ic_ne (tgt := 34) dX10_canBePlayed_12 (by decide) (fun c2 => ?_) (fun c2 => ?_)
    · replace h := h.1 c2
      refine e_iconst (v := 0) dX10_canBePlayed_34 (by decide) ?_
      exact e_iret rfl rb_0 dX10_canBePlayed_35 ⟨_, rfl, h⟩
    · replace h := h.2 c2
      refine e_iload_n dX10_canBePlayed_15 rfl rfl ?_
      refine e_aload_n dX10_canBePlayed_16 rfl rfl ?_
      refine e_gI flX10_15 t0 rfl dX10_canBePlayed_17 ?_
      refine e_aload_n dX10_canBePlayed_20 rfl rfl ?_
      refine e_gI flX10_18 t0 rfl dX10_canBePlayed_21 ?_
      refine e_callS (As := [iV p1, iV (mI M a0 4), iV (mI M a0 5)]) (st := []) mt_X11_isWithin is_X11_isWithin lkX10_30 ⟨by decide, by decide⟩ (Nat.le_of_ble_eq_true rfl) ⟨by decide, by decide⟩ rfl rfl dX10_canBePlayed_24 (Ctr.mono h (fun v M3 h => ?_))
      obtain ⟨r4, rfl, h⟩ := h
      show E_X10_canBePlayed l q 27 [(0, rV (some a0)), (1, iV p1)] [iV r4] M3 0 0
      refine e_if_eq (tgt := 34) dX10_canBePlayed_27 (by decide) (fun c5 => ?_) (fun c5 => ?_)
      · replace h := h.1 c5
        refine e_iconst (v := 0) dX10_canBePlayed_34 (by decide) ?_
        exact e_iret rfl rb_0 dX10_canBePlayed_35 ⟨_, rfl, h⟩
      · replace h := h.2 c5
        refine e_iconst (v := 1) dX10_canBePlayed_30 (by decide) ?_
        refine e_goto (tgt := 35) dX10_canBePlayed_31 (by decide) ?_
        exact e_iret rfl rb_1 dX10_canBePlayed_35 ⟨_, rfl, h⟩
theorem w_X10_init (l : Launch) (a0 : Nat) (p1 : Int32) (p2 : Int32) (p3 : Int32) (t0 : o_ty a0 = .inl 10) (M : o_M) (q : o_M → Prop) (h : q (sI (sI (sI (sI (sI (sI M a0 3 0) a0 4 (-1)) a0 5 (-1)) a0 0 p1) a0 1 p2) a0 2 p3)) : K_X10_init l [rV (some a0), iV p1, iV p2, iV p3] M q := by
  refine o_ctr (ini := true) (by decide +kernel) rfl (fun z => rfl) (Nat.le_of_ble_eq_true rfl) ?_
  show E_X10_init l q 0 [(0, rV (some a0)), (1, iV p1), (2, iV p2), (3, iV p3)] [] M 0 0
  refine e_aload_n dX10_init_0 rfl rfl ?_
  refine e_objI loX10_3 oi_1 oi_2 (by decide) (Nat.le_of_ble_eq_true rfl) (by decide) dX10_init_1 ?_
  refine e_aload_n dX10_init_4 rfl rfl ?_
  refine e_iconst (v := 0) dX10_init_5 (by decide) ?_
  refine e_pI flX10_9 t0 (Or.inl rfl) rfl rfl rfl dX10_init_6 ?_
  refine e_aload_n dX10_init_9 rfl rfl ?_
  refine e_iconst (v := (-1)) dX10_init_10 (by decide) ?_
  refine e_pI flX10_15 t0 (Or.inl rfl) rfl rfl rfl dX10_init_11 ?_
  refine e_aload_n dX10_init_14 rfl rfl ?_
  refine e_iconst (v := (-1)) dX10_init_15 (by decide) ?_
  refine e_pI flX10_18 t0 (Or.inl rfl) rfl rfl rfl dX10_init_16 ?_
  refine e_aload_n dX10_init_19 rfl rfl ?_
  refine e_iload_n dX10_init_20 rfl rfl ?_
  refine e_pI flX10_21 t0 (Or.inr ⟨rfl, rfl, rfl, fnX10_21⟩) rfl rfl rfl dX10_init_21 ?_
  refine e_aload_n dX10_init_24 rfl rfl ?_
  refine e_iload_n dX10_init_25 rfl rfl ?_
  refine e_pI flX10_24 t0 (Or.inr ⟨rfl, rfl, rfl, fnX10_24⟩) rfl rfl rfl dX10_init_26 ?_
  refine e_aload_n dX10_init_29 rfl rfl ?_
  refine e_iload_n dX10_init_30 rfl rfl ?_
  refine e_pI flX10_27 t0 (Or.inr ⟨rfl, rfl, rfl, fnX10_27⟩) rfl rfl rfl dX10_init_31 ?_
  exact e_ret rfl dX10_init_34 ⟨rfl, h⟩
theorem w_X11_count (l : Launch) (p1 : Int32) (M : o_M) (q : Int32 → o_M → Prop) (h : (((p1 < 0 ∨ 6 < p1) → q (-2) M) ∧ (p1 = 0 → q (mI M 16 11) M) ∧ (p1 = 1 → q (mI M 16 12) M) ∧ (p1 = 2 → q (mI M 16 13) M) ∧ (p1 = 3 → q (mI M 16 14) M) ∧ (p1 = 4 → q (mI M 16 15) M) ∧ (p1 = 5 → K_X11_countSeated l [rV (some 16)] M (fun r3 M2 => q r3 M2)) ∧ (p1 = 6 → K_X11_countSeatedGaps l [rV (some 16)] M (fun r5 M4 => q r5 M4)))) : K_X11_count l [rV (some 16), iV p1] M q := by
  refine o_ctr (ini := false) (by decide +kernel) rfl (fun z => by cases z) (Nat.le_of_ble_eq_true rfl) ?_
  show E_X11_count l q 0 [(0, rV (some 16)), (1, iV p1)] [] M 0 0
  refine e_iload_n dX11_count_0 rfl rfl ?_
  rcases o_tab p1 0 6 (a := 0) (b := 6) (by decide) (by decide) with c1 | c1
  · replace h := h.1 c1
    refine e_tabOut (tgt := 79) dX11_count_1 (o_tabo (by decide) (by decide) c1) (by decide) ?_
    refine e_bipush (v := (-2)) dX11_count_79 (by decide) ?_
    exact e_iret rfl trivial dX11_count_81 ⟨_, rfl, h⟩
  · have h0 := h.2
    have e1 : p1.toInt = 0 ∨ p1.toInt = 1 ∨ p1.toInt = 2 ∨ p1.toInt = 3 ∨ p1.toInt = 4 ∨ p1.toInt = 5 ∨ p1.toInt = 6 := by omega
    clear h; rcases e1 with e1 | e1 | e1 | e1 | e1 | e1 | e1
    · have h := h0.1 (Int32.toInt_inj.mp e1)
      refine e_tabIn (tgt := 44) (off := 43) dX11_count_1 (by rw [e1]; decide) (by rw [e1]; decide) (by rw [e1]; rfl) (by decide) ?_
      refine e_aload_n dX11_count_44 rfl rfl ?_
      refine e_gI flX11_78 rfl rfl dX11_count_45 ?_
      exact e_iret rfl trivial dX11_count_48 ⟨_, rfl, h⟩
    · have h := h0.2.1 (Int32.toInt_inj.mp e1)
      refine e_tabIn (tgt := 49) (off := 48) dX11_count_1 (by rw [e1]; decide) (by rw [e1]; decide) (by rw [e1]; rfl) (by decide) ?_
      refine e_aload_n dX11_count_49 rfl rfl ?_
      refine e_gI flX11_82 rfl rfl dX11_count_50 ?_
      exact e_iret rfl trivial dX11_count_53 ⟨_, rfl, h⟩
    · have h := h0.2.2.1 (Int32.toInt_inj.mp e1)
      refine e_tabIn (tgt := 54) (off := 53) dX11_count_1 (by rw [e1]; decide) (by rw [e1]; decide) (by rw [e1]; rfl) (by decide) ?_
      refine e_aload_n dX11_count_54 rfl rfl ?_
      refine e_gI flX11_85 rfl rfl dX11_count_55 ?_
      exact e_iret rfl trivial dX11_count_58 ⟨_, rfl, h⟩
    · have h := h0.2.2.2.1 (Int32.toInt_inj.mp e1)
      refine e_tabIn (tgt := 59) (off := 58) dX11_count_1 (by rw [e1]; decide) (by rw [e1]; decide) (by rw [e1]; rfl) (by decide) ?_
      refine e_aload_n dX11_count_59 rfl rfl ?_
      refine e_gI flX11_88 rfl rfl dX11_count_60 ?_
      exact e_iret rfl trivial dX11_count_63 ⟨_, rfl, h⟩
    · have h := h0.2.2.2.2.1 (Int32.toInt_inj.mp e1)
      refine e_tabIn (tgt := 64) (off := 63) dX11_count_1 (by rw [e1]; decide) (by rw [e1]; decide) (by rw [e1]; rfl) (by decide) ?_
      refine e_aload_n dX11_count_64 rfl rfl ?_
      refine e_gI flX11_91 rfl rfl dX11_count_65 ?_
      exact e_iret rfl trivial dX11_count_68 ⟨_, rfl, h⟩
    · have h := h0.2.2.2.2.2.1 (Int32.toInt_inj.mp e1)
      refine e_tabIn (tgt := 69) (off := 68) dX11_count_1 (by rw [e1]; decide) (by rw [e1]; decide) (by rw [e1]; rfl) (by decide) ?_
      refine e_aload_n dX11_count_69 rfl rfl ?_
      refine e_callV (As := []) (st := []) mt_X11_countSeated in_X11_countSeated lkX11_307 rfl rfl ⟨by decide, by decide⟩ (Nat.le_of_ble_eq_true rfl) ⟨by decide, by decide⟩ rfl rfl dX11_count_70 (Ctr.mono h (fun v M2 h => ?_))
      obtain ⟨r3, rfl, h⟩ := h
      show E_X11_count l q 73 [(0, rV (some 16)), (1, iV p1)] [iV r3] M2 0 0
      exact e_iret rfl trivial dX11_count_73 ⟨_, rfl, h⟩
    · have h := h0.2.2.2.2.2.2 (Int32.toInt_inj.mp e1)
      refine e_tabIn (tgt := 74) (off := 73) dX11_count_1 (by rw [e1]; decide) (by rw [e1]; decide) (by rw [e1]; rfl) (by decide) ?_
      refine e_aload_n dX11_count_74 rfl rfl ?_
      refine e_callV (As := []) (st := []) mt_X11_countSeatedGaps in_X11_countSeatedGaps lkX11_310 rfl rfl ⟨by decide, by decide⟩ (Nat.le_of_ble_eq_true rfl) ⟨by decide, by decide⟩ rfl rfl dX11_count_75 (Ctr.mono h (fun v M4 h => ?_))
      obtain ⟨r5, rfl, h⟩ := h
      show E_X11_count l q 78 [(0, rV (some 16)), (1, iV p1)] [iV r5] M4 0 0
      exact e_iret rfl trivial dX11_count_78 ⟨_, rfl, h⟩
abbrev H_X11_countSittings_4 (l : Launch) (q : Int32 → o_M → Prop) (v1 : Int32) (v2 : Int32) (v3 : Int32) (M : o_M) : Prop := E_X11_countSittings l q 4 [(0, rV (some 16)), (1, iV v1), (2, iV v2), (3, iV v3)] [] M 0 0
theorem w_X11_countSittings (l : Launch) (p1 : Int32) (M : o_M) (q : Int32 → o_M → Prop) (h : H_X11_countSittings_4 l q p1 0 0 M) : K_X11_countSittings l [rV (some 16), iV p1] M q := by
  refine o_ctr (ini := false) (by decide +kernel) rfl (fun z => by cases z) (Nat.le_of_ble_eq_true rfl) ?_
  show E_X11_countSittings l q 0 [(0, rV (some 16)), (1, iV p1)] [] M 0 0
  refine e_iconst (v := 0) dX11_countSittings_0 (by decide) ?_
  refine e_istore_n (lv' := [(2, iV 0), (0, rV (some 16)), (1, iV p1)]) dX11_countSittings_1 rfl (by decide) rfl ?_
  refine e_iconst (v := 0) dX11_countSittings_2 (by decide) ?_
  refine e_istore_n (lv' := [(3, iV 0), (2, iV 0), (0, rV (some 16)), (1, iV p1)]) dX11_countSittings_3 rfl (by decide) rfl ?_
  exact e_lv (List.forall_mem_cons.mpr ⟨rfl, List.forall_mem_cons.mpr ⟨rfl, List.forall_mem_cons.mpr ⟨rfl, List.forall_mem_cons.mpr ⟨rfl, fun _ h => absurd h List.not_mem_nil⟩⟩⟩⟩) h
theorem w_X11_countSittings_4 (l : Launch) (q : Int32 → o_M → Prop) (v1 : Int32) (v2 : Int32) (v3 : Int32) (M : o_M) (h : (((mI M 16 13) ≤ v3 → q v2 M) ∧ (¬ (mI M 16 13) ≤ v3 → (mR M 16 2 = some 19 ∧ (vp_in v3 (mN M 19) ∧ (∃ b4, mR M 19 v3.toNatClampNeg = some b4 ∧ o_ty b4 = .inl 6 ∧ K_X6_sits l [rV (some b4), iV v1] M (fun r8 M7 => ((r8 = 0 → H_X11_countSittings_4 l q v1 v2 (v3 + 1) M7) ∧ (¬ r8 = 0 → H_X11_countSittings_4 l q v1 (v2 + 1) (v3 + 1) M7))))))))) : H_X11_countSittings_4 l q v1 v2 v3 M := by
  refine e_iload_n dX11_countSittings_4 rfl rfl ?_
  refine e_aload_n dX11_countSittings_5 rfl rfl ?_
  refine e_gI flX11_85 rfl rfl dX11_countSittings_6 ?_
  refine e_ic_ge (tgt := 34) dX11_countSittings_9 (by decide) (fun c1 => ?_) (fun c1 => ?_)
  · replace h := h.1 c1
    refine e_iload_n dX11_countSittings_34 rfl rfl ?_
    exact e_iret rfl trivial dX11_countSittings_35 ⟨_, rfl, h⟩
  · replace h := h.2 c1
    refine e_aload_n dX11_countSittings_12 rfl rfl ?_
    obtain ⟨o2, h⟩ := h
    refine e_gA flX11_23 rfl rfl o2 dX11_countSittings_13 ?_
    refine e_iload_n dX11_countSittings_16 rfl rfl ?_
    obtain ⟨o3, h⟩ := h
    obtain ⟨b4, o5, o6, h⟩ := h
    refine e_aaldS rfl o3 o5 dX11_countSittings_17 ?_
    refine e_iload_n dX11_countSittings_18 rfl rfl ?_
    refine e_callV (As := [iV v1]) (st := []) mt_X6_sits in_X6_sits lkX11_360 rfl o6 ⟨by decide, by decide⟩ (Nat.le_of_ble_eq_true rfl) ⟨by decide, by decide⟩ rfl rfl dX11_countSittings_19 (Ctr.mono h (fun v M7 h => ?_))
    obtain ⟨r8, rfl, h⟩ := h
    show E_X11_countSittings l q 22 [(0, rV (some 16)), (1, iV v1), (2, iV v2), (3, iV v3)] [iV r8] M7 0 0
    refine e_if_eq (tgt := 28) dX11_countSittings_22 (by decide) (fun c9 => ?_) (fun c9 => ?_)
    · replace h := h.1 c9
      refine e_iinc (v := 1) (lv' := [(3, iV (v3 + 1)), (0, rV (some 16)), (1, iV v1), (2, iV v2)]) rfl (by decide) (by decide) rfl dX11_countSittings_28 ?_
      refine e_goto (tgt := 4) dX11_countSittings_31 (by decide) ?_
      exact e_lv (List.forall_mem_cons.mpr ⟨rfl, List.forall_mem_cons.mpr ⟨rfl, List.forall_mem_cons.mpr ⟨rfl, List.forall_mem_cons.mpr ⟨rfl, fun _ h => absurd h List.not_mem_nil⟩⟩⟩⟩) h
    · replace h := h.2 c9
      refine e_iinc (v := 1) (lv' := [(2, iV (v2 + 1)), (0, rV (some 16)), (1, iV v1), (3, iV v3)]) rfl (by decide) (by decide) rfl dX11_countSittings_25 ?_
      refine e_iinc (v := 1) (lv' := [(3, iV (v3 + 1)), (2, iV (v2 + 1)), (0, rV (some 16)), (1, iV v1)]) rfl (by decide) (by decide) rfl dX11_countSittings_28 ?_
      refine e_goto (tgt := 4) dX11_countSittings_31 (by decide) ?_
      exact e_lv (List.forall_mem_cons.mpr ⟨rfl, List.forall_mem_cons.mpr ⟨rfl, List.forall_mem_cons.mpr ⟨rfl, List.forall_mem_cons.mpr ⟨rfl, fun _ h => absurd h List.not_mem_nil⟩⟩⟩⟩) h
abbrev H_X11_feed_31 (l : Launch) (q : Int32 → o_M → Prop) (v1 : Int32) (v2 : Int64) (v4 : Int32) (M : o_M) : Prop := E_X11_feed l q 31 [(0, rV (some 16)), (1, iV v1), (2, jV v2), (4, iV v4)] [] M 0 0
theorem w_X11_feed (l : Launch) (p1 : Int32) (p2 : Int64) (M : o_M) (q : Int32 → o_M → Prop) (h : K_X11_isWithin l [iV p1, iV 1, iV 8] M (fun r2 M1 => ((¬ r2 = 0 → ((((mI M1 16 15) + p1) ≤ 300 → H_X11_feed_31 l q p1 p2 0 M1) ∧ (¬ ((mI M1 16 15) + p1) ≤ 300 → q (-4) M1))) ∧ (r2 = 0 → q (-2) M1)))) : K_X11_feed l [rV (some 16), iV p1, jV p2] M q := by
  refine o_ctr (ini := false) (by decide +kernel) rfl (fun z => by cases z) (Nat.le_of_ble_eq_true rfl) ?_
  show E_X11_feed l q 0 [(0, rV (some 16)), (1, iV p1), (2, jV p2)] [] M 0 0
  refine e_iload_n dX11_feed_0 rfl rfl ?_
  refine e_iconst (v := 1) dX11_feed_1 (by decide) ?_
  refine e_bipush (v := 8) dX11_feed_2 (by decide) ?_
  refine e_callS (As := [iV p1, iV 1, iV 8]) (st := []) mt_X11_isWithin is_X11_isWithin lkX11_124 ⟨by decide, by decide⟩ (Nat.le_of_ble_eq_true rfl) ⟨by decide, by decide⟩ rfl rfl dX11_feed_4 (Ctr.mono h (fun v M1 h => ?_))
  obtain ⟨r2, rfl, h⟩ := h
  show E_X11_feed l q 7 [(0, rV (some 16)), (1, iV p1), (2, jV p2)] [iV r2] M1 0 0
  refine e_if_ne (tgt := 13) dX11_feed_7 (by decide) (fun c3 => ?_) (fun c3 => ?_)
  · replace h := h.1 c3
    refine e_aload_n dX11_feed_13 rfl rfl ?_
    refine e_gI flX11_91 rfl rfl dX11_feed_14 ?_
    refine e_iload_n dX11_feed_17 rfl rfl ?_
    refine e_iadd dX11_feed_18 ?_
    refine e_sipush (v := 300) dX11_feed_19 (by decide) ?_
    refine e_ic_le (tgt := 28) dX11_feed_22 (by decide) (fun c4 => ?_) (fun c4 => ?_)
    · replace h := h.1 c4
      refine e_iconst (v := 0) dX11_feed_28 (by decide) ?_
      refine e_istore (lv' := [(4, iV 0), (0, rV (some 16)), (1, iV p1), (2, jV p2)]) (by decide) rfl dX11_feed_29 ?_
      exact e_lv (List.forall_mem_cons.mpr ⟨rfl, List.forall_mem_cons.mpr ⟨rfl, List.forall_mem_cons.mpr ⟨rfl, List.forall_mem_cons.mpr ⟨rfl, fun _ h => absurd h List.not_mem_nil⟩⟩⟩⟩) h
    · replace h := h.2 c4
      refine e_bipush (v := (-4)) dX11_feed_25 (by decide) ?_
      exact e_iret rfl trivial dX11_feed_27 ⟨_, rfl, h⟩
  · replace h := h.2 c3
    refine e_bipush (v := (-2)) dX11_feed_10 (by decide) ?_
    exact e_iret rfl trivial dX11_feed_12 ⟨_, rfl, h⟩
theorem w_X11_feed_31 (l : Launch) (q : Int32 → o_M → Prop) (v1 : Int32) (v2 : Int64) (v4 : Int32) (M : o_M) (h : ((v1 ≤ v4 → q (mI (sI M 16 15 ((mI M 16 15) + v1)) 16 15) (sI M 16 15 ((mI M 16 15) + v1))) ∧ (¬ v1 ≤ v4 → (mR M 16 5 = some 22 ∧ (vp_in ((mI M 16 15) + v4) (mN M 22) ∧ H_X11_feed_31 l q v1 v2 (v4 + 1) (sI M 22 (((mI M 16 15) + v4).toNatClampNeg) (vp_nar .byte (((v2 >>> ((8 * v4).toInt64 &&& 63)).toInt32).toInt8.toInt32)))))))) : H_X11_feed_31 l q v1 v2 v4 M := by
  refine e_iload rfl dX11_feed_31 ?_
  refine e_iload_n dX11_feed_33 rfl rfl ?_
  refine e_ic_ge (tgt := 64) dX11_feed_34 (by decide) (fun c5 => ?_) (fun c5 => ?_)
  · replace h := h.1 c5
    refine e_aload_n dX11_feed_64 rfl rfl ?_
    refine e_dup rfl dX11_feed_65 ?_
    refine e_gI flX11_91 rfl rfl dX11_feed_66 ?_
    refine e_iload_n dX11_feed_69 rfl rfl ?_
    refine e_iadd dX11_feed_70 ?_
    refine e_pI flX11_91 rfl (Or.inl rfl) rfl rfl rfl dX11_feed_71 ?_
    refine e_aload_n dX11_feed_74 rfl rfl ?_
    refine e_gI flX11_91 rfl rfl dX11_feed_75 ?_
    exact e_iret rfl trivial dX11_feed_78 ⟨_, rfl, h⟩
  · replace h := h.2 c5
    refine e_aload_n dX11_feed_37 rfl rfl ?_
    obtain ⟨o6, h⟩ := h
    refine e_gA flX11_39 rfl rfl o6 dX11_feed_38 ?_
    refine e_aload_n dX11_feed_41 rfl rfl ?_
    refine e_gI flX11_91 rfl rfl dX11_feed_42 ?_
    refine e_iload rfl dX11_feed_45 ?_
    refine e_iadd dX11_feed_47 ?_
    refine e_lload_n dX11_feed_48 rfl rfl ?_
    refine e_bipush (v := 8) dX11_feed_49 (by decide) ?_
    refine e_iload rfl dX11_feed_51 ?_
    refine e_imul dX11_feed_53 ?_
    refine e_lshr dX11_feed_54 ?_
    refine e_l2i dX11_feed_55 ?_
    refine e_i2b dX11_feed_56 ?_
    obtain ⟨o7, h⟩ := h
    refine e_bast rfl o7 dX11_feed_57 ?_
    refine e_iinc (v := 1) (lv' := [(4, iV (v4 + 1)), (0, rV (some 16)), (1, iV v1), (2, jV v2)]) rfl (by decide) (by decide) rfl dX11_feed_58 ?_
    refine e_goto (tgt := 31) dX11_feed_61 (by decide) ?_
    exact e_lv (List.forall_mem_cons.mpr ⟨rfl, List.forall_mem_cons.mpr ⟨rfl, List.forall_mem_cons.mpr ⟨rfl, List.forall_mem_cons.mpr ⟨rfl, fun _ h => absurd h List.not_mem_nil⟩⟩⟩⟩) h
theorem w_X11_findPlayer (l : Launch) (p1 : Int32) (M : o_M) (q : Option Nat → o_M → Prop) (h : K_X11_isWithin l [iV p1, iV 0, iV ((mI M 16 12) - 1)] M (fun r2 M1 => ((r2 = 0 → q none M1) ∧ (¬ r2 = 0 → (mR M1 16 1 = some 18 ∧ (vp_in p1 (mN M1 18) ∧ q (mR M1 18 p1.toNatClampNeg) M1)))))) : K_X11_findPlayer l [rV (some 16), iV p1] M q := by
  refine o_ctr (ini := false) (by decide +kernel) rfl (fun z => by cases z) (Nat.le_of_ble_eq_true rfl) ?_
  show E_X11_findPlayer l q 0 [(0, rV (some 16)), (1, iV p1)] [] M 0 0
  refine e_iload_n dX11_findPlayer_0 rfl rfl ?_
  refine e_iconst (v := 0) dX11_findPlayer_1 (by decide) ?_
  refine e_aload_n dX11_findPlayer_2 rfl rfl ?_
  refine e_gI flX11_82 rfl rfl dX11_findPlayer_3 ?_
  refine e_iconst (v := 1) dX11_findPlayer_6 (by decide) ?_
  refine e_isub dX11_findPlayer_7 ?_
  refine e_callS (As := [iV p1, iV 0, iV ((mI M 16 12) - 1)]) (st := []) mt_X11_isWithin is_X11_isWithin lkX11_124 ⟨by decide, by decide⟩ (Nat.le_of_ble_eq_true rfl) ⟨by decide, by decide⟩ rfl rfl dX11_findPlayer_8 (Ctr.mono h (fun v M1 h => ?_))
  obtain ⟨r2, rfl, h⟩ := h
  show E_X11_findPlayer l q 11 [(0, rV (some 16)), (1, iV p1)] [iV r2] M1 0 0
  refine e_if_eq (tgt := 23) dX11_findPlayer_11 (by decide) (fun c3 => ?_) (fun c3 => ?_)
  · replace h := h.1 c3
    refine e_null dX11_findPlayer_23 ?_
    exact e_aret rfl trivial dX11_findPlayer_24 ⟨_, rfl, h⟩
  · replace h := h.2 c3
    refine e_aload_n dX11_findPlayer_14 rfl rfl ?_
    obtain ⟨o4, h⟩ := h
    refine e_gA flX11_17 rfl rfl o4 dX11_findPlayer_15 ?_
    refine e_iload_n dX11_findPlayer_18 rfl rfl ?_
    obtain ⟨o5, h⟩ := h
    refine e_aald rfl o5 dX11_findPlayer_19 ?_
    refine e_goto (tgt := 24) dX11_findPlayer_20 (by decide) ?_
    exact e_aret rfl trivial dX11_findPlayer_24 ⟨_, rfl, h⟩
theorem w_X11_findService (l : Launch) (p1 : Int32) (M : o_M) (q : Option Nat → o_M → Prop) (h : K_X11_isWithin l [iV p1, iV 0, iV ((mI M 16 13) - 1)] M (fun r2 M1 => ((r2 = 0 → q none M1) ∧ (¬ r2 = 0 → (mR M1 16 2 = some 19 ∧ (vp_in p1 (mN M1 19) ∧ q (mR M1 19 p1.toNatClampNeg) M1)))))) : K_X11_findService l [rV (some 16), iV p1] M q := by
  refine o_ctr (ini := false) (by decide +kernel) rfl (fun z => by cases z) (Nat.le_of_ble_eq_true rfl) ?_
  show E_X11_findService l q 0 [(0, rV (some 16)), (1, iV p1)] [] M 0 0
  refine e_iload_n dX11_findService_0 rfl rfl ?_
  refine e_iconst (v := 0) dX11_findService_1 (by decide) ?_
  refine e_aload_n dX11_findService_2 rfl rfl ?_
  refine e_gI flX11_85 rfl rfl dX11_findService_3 ?_
  refine e_iconst (v := 1) dX11_findService_6 (by decide) ?_
  refine e_isub dX11_findService_7 ?_
  refine e_callS (As := [iV p1, iV 0, iV ((mI M 16 13) - 1)]) (st := []) mt_X11_isWithin is_X11_isWithin lkX11_124 ⟨by decide, by decide⟩ (Nat.le_of_ble_eq_true rfl) ⟨by decide, by decide⟩ rfl rfl dX11_findService_8 (Ctr.mono h (fun v M1 h => ?_))
  obtain ⟨r2, rfl, h⟩ := h
  show E_X11_findService l q 11 [(0, rV (some 16)), (1, iV p1)] [iV r2] M1 0 0
  refine e_if_eq (tgt := 23) dX11_findService_11 (by decide) (fun c3 => ?_) (fun c3 => ?_)
  · replace h := h.1 c3
    refine e_null dX11_findService_23 ?_
    exact e_aret rfl trivial dX11_findService_24 ⟨_, rfl, h⟩
  · replace h := h.2 c3
    refine e_aload_n dX11_findService_14 rfl rfl ?_
    obtain ⟨o4, h⟩ := h
    refine e_gA flX11_23 rfl rfl o4 dX11_findService_15 ?_
    refine e_iload_n dX11_findService_18 rfl rfl ?_
    obtain ⟨o5, h⟩ := h
    refine e_aald rfl o5 dX11_findService_19 ?_
    refine e_goto (tgt := 24) dX11_findService_20 (by decide) ?_
    exact e_aret rfl trivial dX11_findService_24 ⟨_, rfl, h⟩
theorem w_X11_findWork (l : Launch) (p1 : Int32) (M : o_M) (q : Option Nat → o_M → Prop) (h : K_X11_isWithin l [iV p1, iV 0, iV ((mI M 16 11) - 1)] M (fun r2 M1 => ((r2 = 0 → q none M1) ∧ (¬ r2 = 0 → (mR M1 16 0 = some 17 ∧ (vp_in p1 (mN M1 17) ∧ q (mR M1 17 p1.toNatClampNeg) M1)))))) : K_X11_findWork l [rV (some 16), iV p1] M q := by
  refine o_ctr (ini := false) (by decide +kernel) rfl (fun z => by cases z) (Nat.le_of_ble_eq_true rfl) ?_
  show E_X11_findWork l q 0 [(0, rV (some 16)), (1, iV p1)] [] M 0 0
  refine e_iload_n dX11_findWork_0 rfl rfl ?_
  refine e_iconst (v := 0) dX11_findWork_1 (by decide) ?_
  refine e_aload_n dX11_findWork_2 rfl rfl ?_
  refine e_gI flX11_78 rfl rfl dX11_findWork_3 ?_
  refine e_iconst (v := 1) dX11_findWork_6 (by decide) ?_
  refine e_isub dX11_findWork_7 ?_
  refine e_callS (As := [iV p1, iV 0, iV ((mI M 16 11) - 1)]) (st := []) mt_X11_isWithin is_X11_isWithin lkX11_124 ⟨by decide, by decide⟩ (Nat.le_of_ble_eq_true rfl) ⟨by decide, by decide⟩ rfl rfl dX11_findWork_8 (Ctr.mono h (fun v M1 h => ?_))
  obtain ⟨r2, rfl, h⟩ := h
  show E_X11_findWork l q 11 [(0, rV (some 16)), (1, iV p1)] [iV r2] M1 0 0
  refine e_if_eq (tgt := 23) dX11_findWork_11 (by decide) (fun c3 => ?_) (fun c3 => ?_)
  · replace h := h.1 c3
    refine e_null dX11_findWork_23 ?_
    exact e_aret rfl trivial dX11_findWork_24 ⟨_, rfl, h⟩
  · replace h := h.2 c3
    refine e_aload_n dX11_findWork_14 rfl rfl ?_
    obtain ⟨o4, h⟩ := h
    refine e_gA flX11_11 rfl rfl o4 dX11_findWork_15 ?_
    refine e_iload_n dX11_findWork_18 rfl rfl ?_
    obtain ⟨o5, h⟩ := h
    refine e_aald rfl o5 dX11_findWork_19 ?_
    refine e_goto (tgt := 24) dX11_findWork_20 (by decide) ?_
    exact e_aret rfl trivial dX11_findWork_24 ⟨_, rfl, h⟩
abbrev H_X11_forgeCopy_62 (l : Launch) (q : Int32 → o_M → Prop) (a1 : Nat) (v2 : Int32) (v3 : Int64) (v5 : Int32) (M : o_M) : Prop := E_X11_forgeCopy l q 62 [(0, rV (some 16)), (1, rV (some a1)), (2, iV v2), (3, jV v3), (5, iV v5)] [] M 0 0
theorem w_X11_forgeCopy (l : Launch) (a1 : Nat) (p2 : Int32) (t1 : o_ty a1 = .inl 9) (M : o_M) (q : Int32 → o_M → Prop) (h : ((¬ (mI M a1 5) = 0 → (((mI M a1 5) = 3 → ((p2 < 0 → K_X11_hostRefuses l [rV (some 16), iV 12] M (fun r5 M4 => q r5 M4)) ∧ (¬ p2 < 0 → (((mI M a1 4) < (1 + p2) → K_X11_hostRefuses l [rV (some 16), iV 12] M (fun r8 M7 => q r8 M7)) ∧ (¬ (mI M a1 4) < (1 + p2) → (((p2 + p2) ≤ 5 → H_X11_forgeCopy_62 l q a1 p2 0 1 M) ∧ (¬ (p2 + p2) ≤ 5 → K_X11_hostRefuses l [rV (some 16), iV 12] M (fun r11 M10 => q r11 M10)))))))) ∧ (¬ (mI M a1 5) = 3 → K_X11_hostRefuses l [rV (some 16), iV 11] M (fun r13 M12 => q r13 M12)))) ∧ ((mI M a1 5) = 0 → K_X11_hostRefuses l [rV (some 16), iV 10] M (fun r15 M14 => q r15 M14)))) : K_X11_forgeCopy l [rV (some 16), rV (some a1), iV p2] M q := by
  refine o_ctr (ini := false) (by decide +kernel) rfl (fun z => by cases z) (Nat.le_of_ble_eq_true rfl) ?_
  show E_X11_forgeCopy l q 0 [(0, rV (some 16)), (1, rV (some a1)), (2, iV p2)] [] M 0 0
  refine e_aload_n dX11_forgeCopy_0 rfl rfl ?_
  refine e_gI flX11_319 t1 rfl dX11_forgeCopy_1 ?_
  refine e_if_ne (tgt := 14) dX11_forgeCopy_4 (by decide) (fun c1 => ?_) (fun c1 => ?_)
  · replace h := h.1 c1
    refine e_aload_n dX11_forgeCopy_14 rfl rfl ?_
    refine e_gI flX11_319 t1 rfl dX11_forgeCopy_15 ?_
    refine e_iconst (v := 3) dX11_forgeCopy_18 (by decide) ?_
    refine e_ic_eq (tgt := 29) dX11_forgeCopy_19 (by decide) (fun c2 => ?_) (fun c2 => ?_)
    · replace h := h.1 c2
      refine e_iload_n dX11_forgeCopy_29 rfl rfl ?_
      refine e_if_lt (tgt := 50) dX11_forgeCopy_30 (by decide) (fun c3 => ?_) (fun c3 => ?_)
      · replace h := h.1 c3
        refine e_aload_n dX11_forgeCopy_50 rfl rfl ?_
        refine e_bipush (v := 12) dX11_forgeCopy_51 (by decide) ?_
        refine e_callV (As := [iV 12]) (st := []) mt_X11_hostRefuses in_X11_hostRefuses lkX11_316 rfl rfl ⟨by decide, by decide⟩ (Nat.le_of_ble_eq_true rfl) ⟨by decide, by decide⟩ rfl rfl dX11_forgeCopy_53 (Ctr.mono h (fun v M4 h => ?_))
        obtain ⟨r5, rfl, h⟩ := h
        show E_X11_forgeCopy l q 56 [(0, rV (some 16)), (1, rV (some a1)), (2, iV p2)] [iV r5] M4 0 0
        exact e_iret rfl trivial dX11_forgeCopy_56 ⟨_, rfl, h⟩
      · replace h := h.2 c3
        refine e_iconst (v := 1) dX11_forgeCopy_33 (by decide) ?_
        refine e_iload_n dX11_forgeCopy_34 rfl rfl ?_
        refine e_iadd dX11_forgeCopy_35 ?_
        refine e_aload_n dX11_forgeCopy_36 rfl rfl ?_
        refine e_gI flX11_449 t1 rfl dX11_forgeCopy_37 ?_
        refine e_ic_gt (tgt := 50) dX11_forgeCopy_40 (by decide) (fun c6 => ?_) (fun c6 => ?_)
        · replace h := h.1 c6
          refine e_aload_n dX11_forgeCopy_50 rfl rfl ?_
          refine e_bipush (v := 12) dX11_forgeCopy_51 (by decide) ?_
          refine e_callV (As := [iV 12]) (st := []) mt_X11_hostRefuses in_X11_hostRefuses lkX11_316 rfl rfl ⟨by decide, by decide⟩ (Nat.le_of_ble_eq_true rfl) ⟨by decide, by decide⟩ rfl rfl dX11_forgeCopy_53 (Ctr.mono h (fun v M7 h => ?_))
          obtain ⟨r8, rfl, h⟩ := h
          show E_X11_forgeCopy l q 56 [(0, rV (some 16)), (1, rV (some a1)), (2, iV p2)] [iV r8] M7 0 0
          exact e_iret rfl trivial dX11_forgeCopy_56 ⟨_, rfl, h⟩
        · replace h := h.2 c6
          refine e_iload_n dX11_forgeCopy_43 rfl rfl ?_
          refine e_iload_n dX11_forgeCopy_44 rfl rfl ?_
          refine e_iadd dX11_forgeCopy_45 ?_
          refine e_iconst (v := 5) dX11_forgeCopy_46 (by decide) ?_
          refine e_ic_le (tgt := 57) dX11_forgeCopy_47 (by decide) (fun c9 => ?_) (fun c9 => ?_)
          · replace h := h.1 c9
            refine e_lconst (v := 0) dX11_forgeCopy_57 (by decide) ?_
            refine e_lstore_n (lv' := [(3, jV 0), (0, rV (some 16)), (1, rV (some a1)), (2, iV p2)]) dX11_forgeCopy_58 rfl (by decide) rfl ?_
            refine e_iconst (v := 1) dX11_forgeCopy_59 (by decide) ?_
            refine e_istore (lv' := [(5, iV 1), (3, jV 0), (0, rV (some 16)), (1, rV (some a1)), (2, iV p2)]) (by decide) rfl dX11_forgeCopy_60 ?_
            exact e_lv (List.forall_mem_cons.mpr ⟨rfl, List.forall_mem_cons.mpr ⟨rfl, List.forall_mem_cons.mpr ⟨rfl, List.forall_mem_cons.mpr ⟨rfl, List.forall_mem_cons.mpr ⟨rfl, fun _ h => absurd h List.not_mem_nil⟩⟩⟩⟩⟩) h
          · replace h := h.2 c9
            refine e_aload_n dX11_forgeCopy_50 rfl rfl ?_
            refine e_bipush (v := 12) dX11_forgeCopy_51 (by decide) ?_
            refine e_callV (As := [iV 12]) (st := []) mt_X11_hostRefuses in_X11_hostRefuses lkX11_316 rfl rfl ⟨by decide, by decide⟩ (Nat.le_of_ble_eq_true rfl) ⟨by decide, by decide⟩ rfl rfl dX11_forgeCopy_53 (Ctr.mono h (fun v M10 h => ?_))
            obtain ⟨r11, rfl, h⟩ := h
            show E_X11_forgeCopy l q 56 [(0, rV (some 16)), (1, rV (some a1)), (2, iV p2)] [iV r11] M10 0 0
            exact e_iret rfl trivial dX11_forgeCopy_56 ⟨_, rfl, h⟩
    · replace h := h.2 c2
      refine e_aload_n dX11_forgeCopy_22 rfl rfl ?_
      refine e_bipush (v := 11) dX11_forgeCopy_23 (by decide) ?_
      refine e_callV (As := [iV 11]) (st := []) mt_X11_hostRefuses in_X11_hostRefuses lkX11_316 rfl rfl ⟨by decide, by decide⟩ (Nat.le_of_ble_eq_true rfl) ⟨by decide, by decide⟩ rfl rfl dX11_forgeCopy_25 (Ctr.mono h (fun v M12 h => ?_))
      obtain ⟨r13, rfl, h⟩ := h
      show E_X11_forgeCopy l q 28 [(0, rV (some 16)), (1, rV (some a1)), (2, iV p2)] [iV r13] M12 0 0
      exact e_iret rfl trivial dX11_forgeCopy_28 ⟨_, rfl, h⟩
  · replace h := h.2 c1
    refine e_aload_n dX11_forgeCopy_7 rfl rfl ?_
    refine e_bipush (v := 10) dX11_forgeCopy_8 (by decide) ?_
    refine e_callV (As := [iV 10]) (st := []) mt_X11_hostRefuses in_X11_hostRefuses lkX11_316 rfl rfl ⟨by decide, by decide⟩ (Nat.le_of_ble_eq_true rfl) ⟨by decide, by decide⟩ rfl rfl dX11_forgeCopy_10 (Ctr.mono h (fun v M14 h => ?_))
    obtain ⟨r15, rfl, h⟩ := h
    show E_X11_forgeCopy l q 13 [(0, rV (some 16)), (1, rV (some a1)), (2, iV p2)] [iV r15] M14 0 0
    exact e_iret rfl trivial dX11_forgeCopy_13 ⟨_, rfl, h⟩
theorem w_X11_forgeCopy_62 (l : Launch) (q : Int32 → o_M → Prop) (a1 : Nat) (t1 : o_ty a1 = .inl 9) (v2 : Int32) (v3 : Int64) (v5 : Int32) (M : o_M) (h : ((v2 < v5 → K_X11_hostAnswers l [rV (some 16), iV v3.toInt32] M (fun r18 M17 => q r18 M17)) ∧ (¬ v2 < v5 → (mR M a1 0 = some (a1 + 1) ∧ (vp_in v5 (mN M (a1 + 1)) ∧ H_X11_forgeCopy_62 l q a1 v2 (v3 + (mJ M (a1 + 1) v5.toNatClampNeg)) (v5 + 1) M))))) : H_X11_forgeCopy_62 l q a1 v2 v3 v5 M := by
  refine e_iload rfl dX11_forgeCopy_62 ?_
  refine e_iload_n dX11_forgeCopy_64 rfl rfl ?_
  refine e_ic_gt (tgt := 84) dX11_forgeCopy_65 (by decide) (fun c16 => ?_) (fun c16 => ?_)
  · replace h := h.1 c16
    refine e_aload_n dX11_forgeCopy_84 rfl rfl ?_
    refine e_lload_n dX11_forgeCopy_85 rfl rfl ?_
    refine e_l2i dX11_forgeCopy_86 ?_
    refine e_callV (As := [iV v3.toInt32]) (st := []) mt_X11_hostAnswers in_X11_hostAnswers lkX11_337 rfl rfl ⟨by decide, by decide⟩ (Nat.le_of_ble_eq_true rfl) ⟨by decide, by decide⟩ rfl rfl dX11_forgeCopy_87 (Ctr.mono h (fun v M17 h => ?_))
    obtain ⟨r18, rfl, h⟩ := h
    show E_X11_forgeCopy l q 90 [(0, rV (some 16)), (1, rV (some a1)), (2, iV v2), (3, jV v3), (5, iV v5)] [iV r18] M17 0 0
    exact e_iret rfl trivial dX11_forgeCopy_90 ⟨_, rfl, h⟩
  · replace h := h.2 c16
    refine e_lload_n dX11_forgeCopy_68 rfl rfl ?_
    refine e_aload_n dX11_forgeCopy_69 rfl rfl ?_
    obtain ⟨o19, h⟩ := h
    refine e_gA flX11_452 t1 rfl o19 dX11_forgeCopy_70 ?_
    refine e_iload rfl dX11_forgeCopy_73 ?_
    obtain ⟨o20, h⟩ := h
    refine e_lald ((o_sub9 t1).2) o20 dX11_forgeCopy_75 ?_
    refine e_ladd dX11_forgeCopy_76 ?_
    refine e_lstore_n (lv' := [(3, jV (v3 + (mJ M (a1 + 1) v5.toNatClampNeg))), (0, rV (some 16)), (1, rV (some a1)), (2, iV v2), (5, iV v5)]) dX11_forgeCopy_77 rfl (by decide) rfl ?_
    refine e_iinc (v := 1) (lv' := [(5, iV (v5 + 1)), (3, jV (v3 + (mJ M (a1 + 1) v5.toNatClampNeg))), (0, rV (some 16)), (1, rV (some a1)), (2, iV v2)]) rfl (by decide) (by decide) rfl dX11_forgeCopy_78 ?_
    refine e_goto (tgt := 62) dX11_forgeCopy_81 (by decide) ?_
    exact e_lv (List.forall_mem_cons.mpr ⟨rfl, List.forall_mem_cons.mpr ⟨rfl, List.forall_mem_cons.mpr ⟨rfl, List.forall_mem_cons.mpr ⟨rfl, List.forall_mem_cons.mpr ⟨rfl, fun _ h => absurd h List.not_mem_nil⟩⟩⟩⟩⟩) h
theorem w_X11_isDay (l : Launch) (p0 : Int32) (M : o_M) (q : Int32 → o_M → Prop) (h : K_X11_isWithin l [iV p0, iV 0, iV 400] M (fun r2 M1 => (narrow .boolean (.int r2) = .int r2 ∧ q r2 M1))) : K_X11_isDay l [iV p0] M q := by
  refine o_ctr (ini := false) (by decide +kernel) rfl (fun z => by cases z) (Nat.le_of_ble_eq_true rfl) ?_
  show E_X11_isDay l q 0 [(0, iV p0)] [] M 0 0
  refine e_iload_n dX11_isDay_0 rfl rfl ?_
  refine e_iconst (v := 0) dX11_isDay_1 (by decide) ?_
  refine e_sipush (v := 400) dX11_isDay_2 (by decide) ?_
  refine e_callS (As := [iV p0, iV 0, iV 400]) (st := []) mt_X11_isWithin is_X11_isWithin lkX11_124 ⟨by decide, by decide⟩ (Nat.le_of_ble_eq_true rfl) ⟨by decide, by decide⟩ rfl rfl dX11_isDay_5 (Ctr.mono h (fun v M1 h => ?_))
  obtain ⟨r2, rfl, h⟩ := h
  show E_X11_isDay l q 8 [(0, iV p0)] [iV r2] M1 0 0
  obtain ⟨o3, h⟩ := h
  exact e_iret rfl o3 dX11_isDay_8 ⟨_, rfl, h⟩
theorem w_X11_isInstrument (l : Launch) (p0 : Int32) (M : o_M) (q : Int32 → o_M → Prop) (h : K_X11_isWithin l [iV p0, iV 0, iV 5] M (fun r2 M1 => (narrow .boolean (.int r2) = .int r2 ∧ q r2 M1))) : K_X11_isInstrument l [iV p0] M q := by
  refine o_ctr (ini := false) (by decide +kernel) rfl (fun z => by cases z) (Nat.le_of_ble_eq_true rfl) ?_
  show E_X11_isInstrument l q 0 [(0, iV p0)] [] M 0 0
  refine e_iload_n dX11_isInstrument_0 rfl rfl ?_
  refine e_iconst (v := 0) dX11_isInstrument_1 (by decide) ?_
  refine e_iconst (v := 5) dX11_isInstrument_2 (by decide) ?_
  refine e_callS (As := [iV p0, iV 0, iV 5]) (st := []) mt_X11_isWithin is_X11_isWithin lkX11_124 ⟨by decide, by decide⟩ (Nat.le_of_ble_eq_true rfl) ⟨by decide, by decide⟩ rfl rfl dX11_isInstrument_3 (Ctr.mono h (fun v M1 h => ?_))
  obtain ⟨r2, rfl, h⟩ := h
  show E_X11_isInstrument l q 6 [(0, iV p0)] [iV r2] M1 0 0
  obtain ⟨o3, h⟩ := h
  exact e_iret rfl o3 dX11_isInstrument_6 ⟨_, rfl, h⟩
abbrev H_X11_price_23 (l : Launch) (q : Int32 → o_M → Prop) (v1 : Int32) (v2 : Int32) (v3 : Int32) (M : o_M) : Prop := E_X11_price l q 23 [(0, rV (some 16)), (1, iV v1), (2, iV v2), (3, iV v3)] [] M 0 0
theorem w_X11_price (l : Launch) (p1 : Int32) (M : o_M) (q : Int32 → o_M → Prop) (h : K_X11_isWithin l [iV p1, iV 0, iV (((1 : Int32) <<< ((mI M 16 11) &&& 31)) - 1)] M (fun r2 M1 => ((¬ r2 = 0 → H_X11_price_23 l q p1 0 0 M1) ∧ (r2 = 0 → q (-2) M1)))) : K_X11_price l [rV (some 16), iV p1] M q := by
  refine o_ctr (ini := false) (by decide +kernel) rfl (fun z => by cases z) (Nat.le_of_ble_eq_true rfl) ?_
  show E_X11_price l q 0 [(0, rV (some 16)), (1, iV p1)] [] M 0 0
  refine e_iload_n dX11_price_0 rfl rfl ?_
  refine e_iconst (v := 0) dX11_price_1 (by decide) ?_
  refine e_iconst (v := 1) dX11_price_2 (by decide) ?_
  refine e_aload_n dX11_price_3 rfl rfl ?_
  refine e_gI flX11_78 rfl rfl dX11_price_4 ?_
  refine e_ishl dX11_price_7 ?_
  refine e_iconst (v := 1) dX11_price_8 (by decide) ?_
  refine e_isub dX11_price_9 ?_
  refine e_callS (As := [iV p1, iV 0, iV (((1 : Int32) <<< ((mI M 16 11) &&& 31)) - 1)]) (st := []) mt_X11_isWithin is_X11_isWithin lkX11_124 ⟨by decide, by decide⟩ (Nat.le_of_ble_eq_true rfl) ⟨by decide, by decide⟩ rfl rfl dX11_price_10 (Ctr.mono h (fun v M1 h => ?_))
  obtain ⟨r2, rfl, h⟩ := h
  show E_X11_price l q 13 [(0, rV (some 16)), (1, iV p1)] [iV r2] M1 0 0
  refine e_if_ne (tgt := 19) dX11_price_13 (by decide) (fun c3 => ?_) (fun c3 => ?_)
  · replace h := h.1 c3
    refine e_iconst (v := 0) dX11_price_19 (by decide) ?_
    refine e_istore_n (lv' := [(2, iV 0), (0, rV (some 16)), (1, iV p1)]) dX11_price_20 rfl (by decide) rfl ?_
    refine e_iconst (v := 0) dX11_price_21 (by decide) ?_
    refine e_istore_n (lv' := [(3, iV 0), (2, iV 0), (0, rV (some 16)), (1, iV p1)]) dX11_price_22 rfl (by decide) rfl ?_
    exact e_lv (List.forall_mem_cons.mpr ⟨rfl, List.forall_mem_cons.mpr ⟨rfl, List.forall_mem_cons.mpr ⟨rfl, List.forall_mem_cons.mpr ⟨rfl, fun _ h => absurd h List.not_mem_nil⟩⟩⟩⟩) h
  · replace h := h.2 c3
    refine e_bipush (v := (-2)) dX11_price_16 (by decide) ?_
    exact e_iret rfl trivial dX11_price_18 ⟨_, rfl, h⟩
theorem w_X11_price_23 (l : Launch) (q : Int32 → o_M → Prop) (v1 : Int32) (v2 : Int32) (v3 : Int32) (M : o_M) (h : (((mI M 16 11) ≤ v3 → q v2 M) ∧ (¬ (mI M 16 11) ≤ v3 → ((¬ ((v1 >>> (v3 &&& 31)) &&& 1) = 1 → H_X11_price_23 l q v1 v2 (v3 + 1) M) ∧ (((v1 >>> (v3 &&& 31)) &&& 1) = 1 → (mR M 16 0 = some 17 ∧ (vp_in v3 (mN M 17) ∧ (∃ b8, mR M 17 v3.toNatClampNeg = some b8 ∧ o_ty b8 = .inl 10 ∧ H_X11_price_23 l q v1 (v2 + (mI M b8 1)) (v3 + 1) M)))))))) : H_X11_price_23 l q v1 v2 v3 M := by
  refine e_iload_n dX11_price_23 rfl rfl ?_
  refine e_aload_n dX11_price_24 rfl rfl ?_
  refine e_gI flX11_78 rfl rfl dX11_price_25 ?_
  refine e_ic_ge (tgt := 58) dX11_price_28 (by decide) (fun c4 => ?_) (fun c4 => ?_)
  · replace h := h.1 c4
    refine e_iload_n dX11_price_58 rfl rfl ?_
    exact e_iret rfl trivial dX11_price_59 ⟨_, rfl, h⟩
  · replace h := h.2 c4
    refine e_iload_n dX11_price_31 rfl rfl ?_
    refine e_iload_n dX11_price_32 rfl rfl ?_
    refine e_ishr dX11_price_33 ?_
    refine e_iconst (v := 1) dX11_price_34 (by decide) ?_
    refine e_iand dX11_price_35 ?_
    refine e_iconst (v := 1) dX11_price_36 (by decide) ?_
    refine e_ic_ne (tgt := 52) dX11_price_37 (by decide) (fun c5 => ?_) (fun c5 => ?_)
    · replace h := h.1 c5
      refine e_iinc (v := 1) (lv' := [(3, iV (v3 + 1)), (0, rV (some 16)), (1, iV v1), (2, iV v2)]) rfl (by decide) (by decide) rfl dX11_price_52 ?_
      refine e_goto (tgt := 23) dX11_price_55 (by decide) ?_
      exact e_lv (List.forall_mem_cons.mpr ⟨rfl, List.forall_mem_cons.mpr ⟨rfl, List.forall_mem_cons.mpr ⟨rfl, List.forall_mem_cons.mpr ⟨rfl, fun _ h => absurd h List.not_mem_nil⟩⟩⟩⟩) h
    · replace h := h.2 c5
      refine e_iload_n dX11_price_40 rfl rfl ?_
      refine e_aload_n dX11_price_41 rfl rfl ?_
      obtain ⟨o6, h⟩ := h
      refine e_gA flX11_11 rfl rfl o6 dX11_price_42 ?_
      refine e_iload_n dX11_price_45 rfl rfl ?_
      obtain ⟨o7, h⟩ := h
      obtain ⟨b8, o9, o10, h⟩ := h
      refine e_aaldS rfl o7 o9 dX11_price_46 ?_
      refine e_gI flX11_196 o10 rfl dX11_price_47 ?_
      refine e_iadd dX11_price_50 ?_
      refine e_istore_n (lv' := [(2, iV (v2 + (mI M b8 1))), (0, rV (some 16)), (1, iV v1), (3, iV v3)]) dX11_price_51 rfl (by decide) rfl ?_
      refine e_iinc (v := 1) (lv' := [(3, iV (v3 + 1)), (2, iV (v2 + (mI M b8 1))), (0, rV (some 16)), (1, iV v1)]) rfl (by decide) (by decide) rfl dX11_price_52 ?_
      refine e_goto (tgt := 23) dX11_price_55 (by decide) ?_
      exact e_lv (List.forall_mem_cons.mpr ⟨rfl, List.forall_mem_cons.mpr ⟨rfl, List.forall_mem_cons.mpr ⟨rfl, List.forall_mem_cons.mpr ⟨rfl, fun _ h => absurd h List.not_mem_nil⟩⟩⟩⟩) h
theorem w_X11_putBytes (l : Launch) (a1 : Nat) (p2 : Int32) (t1 : o_ty a1 = .inl 9) (M : o_M) (q : o_M → Prop) (h : (mR M 16 3 = some 20 ∧ K_X11_findInForce l [rV (some 16), iV p2] M (fun r3 M2 => (vp_in r3 (mN M2 20) ∧ (∃ b5, mR M2 20 r3.toNatClampNeg = some b5 ∧ o_ty b5 = .inl 7 ∧ (mR M2 b5 0 = some (b5 + 1) ∧ (∃ b9, mR (sR M2 a1 2 (some (b5 + 1))) a1 2 = some b9 ∧ o_ty b9 = .inr .byte ∧ q (sI (sR M2 a1 2 (some (b5 + 1))) a1 4 (Int32.ofNat (mN (sR M2 a1 2 (some (b5 + 1))) b9)))))))))) : K_X11_putBytes l [rV (some 16), rV (some a1), iV p2] M q := by
  refine o_ctr (ini := false) (by decide +kernel) rfl (fun z => by cases z) (Nat.le_of_ble_eq_true rfl) ?_
  show E_X11_putBytes l q 0 [(0, rV (some 16)), (1, rV (some a1)), (2, iV p2)] [] M 0 0
  refine e_aload_n dX11_putBytes_0 rfl rfl ?_
  refine e_aload_n dX11_putBytes_1 rfl rfl ?_
  obtain ⟨o1, h⟩ := h
  refine e_gA flX11_29 rfl rfl o1 dX11_putBytes_2 ?_
  refine e_aload_n dX11_putBytes_5 rfl rfl ?_
  refine e_iload_n dX11_putBytes_6 rfl rfl ?_
  refine e_callV (As := [iV p2]) (st := [rV (some 20), rV (some a1)]) mt_X11_findInForce in_X11_findInForce lkX11_238 rfl rfl ⟨by decide, by decide⟩ (Nat.le_of_ble_eq_true rfl) ⟨by decide, by decide⟩ rfl rfl dX11_putBytes_7 (Ctr.mono h (fun v M2 h => ?_))
  obtain ⟨r3, rfl, h⟩ := h
  show E_X11_putBytes l q 10 [(0, rV (some 16)), (1, rV (some a1)), (2, iV p2)] [iV r3, rV (some 20), rV (some a1)] M2 0 0
  obtain ⟨o4, h⟩ := h
  obtain ⟨b5, o6, o7, h⟩ := h
  refine e_aaldS rfl o4 o6 dX11_putBytes_10 ?_
  obtain ⟨o8, h⟩ := h
  refine e_gA flX11_445 o7 rfl o8 dX11_putBytes_11 ?_
  refine e_pR flX11_448 t1 (Or.inl rfl) rfl dX11_putBytes_14 ?_
  refine e_aload_n dX11_putBytes_17 rfl rfl ?_
  refine e_aload_n dX11_putBytes_18 rfl rfl ?_
  obtain ⟨b9, o10, o11, h⟩ := h
  refine e_gA flX11_448 t1 rfl o10 dX11_putBytes_19 ?_
  refine e_alen o11 (by decide) rfl dX11_putBytes_22 ?_
  refine e_pI flX11_449 t1 (Or.inl rfl) rfl rfl rfl dX11_putBytes_23 ?_
  exact e_ret rfl dX11_putBytes_26 ⟨rfl, h⟩
