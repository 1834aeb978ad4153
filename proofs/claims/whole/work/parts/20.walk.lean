/-! walks of methods (printed by program): X11_due X11_findFitting X11_may X11_putPays X11_findSeating X11_put X3_takeWord X11_chair X11_gaps X11_seat X3_advance X3_expect X3_openOne X3_readAnd X3_readNot X3_readOne X3_readOr X3_readSum X3_readTerm X3_readPart X3_readTape X11_text -/
theorem dX11_due_0 : decode cX11_due 0 = .ok (.aload_n 0, 1) := by decide +kernel
theorem dX11_due_1 : decode cX11_due 1 = .ok (.iload_n 1, 1) := by decide +kernel
theorem dX11_due_2 : decode cX11_due 2 = .ok (.invokevirtual 153, 3) := by decide +kernel
theorem dX11_due_5 : decode cX11_due 5 = .ok (.ifnull 21, 3) := by decide +kernel
theorem dX11_due_8 : decode cX11_due 8 = .ok (.iload_n 2, 1) := by decide +kernel
theorem dX11_due_9 : decode cX11_due 9 = .ok (.iload_n 3, 1) := by decide +kernel
theorem dX11_due_10 : decode cX11_due 10 = .ok (.invokestatic 135, 3) := by decide +kernel
theorem dX11_due_13 : decode cX11_due 13 = .ok (.ifCond .eq 13, 3) := by decide +kernel
theorem dX11_due_16 : decode cX11_due 16 = .ok (.iload 4, 2) := by decide +kernel
theorem dX11_due_18 : decode cX11_due 18 = .ok (.iconst 0, 1) := by decide +kernel
theorem dX11_due_19 : decode cX11_due 19 = .ok (.iconst 1, 1) := by decide +kernel
theorem dX11_due_20 : decode cX11_due 20 = .ok (.invokestatic 124, 3) := by decide +kernel
theorem dX11_due_23 : decode cX11_due 23 = .ok (.ifCond .ne 7, 3) := by decide +kernel
theorem dX11_due_26 : decode cX11_due 26 = .ok (.ldc2_w 245, 3) := by decide +kernel
theorem dX11_due_29 : decode cX11_due 29 = .ok (.lreturn, 1) := by decide +kernel
theorem dX11_due_30 : decode cX11_due 30 = .ok (.aload_n 0, 1) := by decide +kernel
theorem dX11_due_31 : decode cX11_due 31 = .ok (.iload_n 1, 1) := by decide +kernel
theorem dX11_due_32 : decode cX11_due 32 = .ok (.iload_n 2, 1) := by decide +kernel
theorem dX11_due_33 : decode cX11_due 33 = .ok (.iload_n 3, 1) := by decide +kernel
theorem dX11_due_34 : decode cX11_due 34 = .ok (.iload 4, 2) := by decide +kernel
theorem dX11_due_36 : decode cX11_due 36 = .ok (.invokevirtual 278, 3) := by decide +kernel
theorem dX11_due_39 : decode cX11_due 39 = .ok (.lreturn, 1) := by decide +kernel
theorem dX11_findFitting_0 : decode cX11_findFitting 0 = .ok (.iconst 0, 1) := by decide +kernel
theorem dX11_findFitting_1 : decode cX11_findFitting 1 = .ok (.istore_n 3, 1) := by decide +kernel
theorem dX11_findFitting_2 : decode cX11_findFitting 2 = .ok (.iconst 0, 1) := by decide +kernel
theorem dX11_findFitting_3 : decode cX11_findFitting 3 = .ok (.istore 4, 2) := by decide +kernel
theorem dX11_findFitting_5 : decode cX11_findFitting 5 = .ok (.iload 4, 2) := by decide +kernel
theorem dX11_findFitting_7 : decode cX11_findFitting 7 = .ok (.aload_n 0, 1) := by decide +kernel
theorem dX11_findFitting_8 : decode cX11_findFitting 8 = .ok (.getfield 82, 3) := by decide +kernel
theorem dX11_findFitting_11 : decode cX11_findFitting 11 = .ok (.if_icmp .ge 27, 3) := by decide +kernel
theorem dX11_findFitting_14 : decode cX11_findFitting 14 = .ok (.aload_n 0, 1) := by decide +kernel
theorem dX11_findFitting_15 : decode cX11_findFitting 15 = .ok (.aload_n 1, 1) := by decide +kernel
theorem dX11_findFitting_16 : decode cX11_findFitting 16 = .ok (.iload 4, 2) := by decide +kernel
theorem dX11_findFitting_18 : decode cX11_findFitting 18 = .ok (.iload_n 2, 1) := by decide +kernel
theorem dX11_findFitting_19 : decode cX11_findFitting 19 = .ok (.invokevirtual 241, 3) := by decide +kernel
theorem dX11_findFitting_22 : decode cX11_findFitting 22 = .ok (.ifCond .ne 10, 3) := by decide +kernel
theorem dX11_findFitting_25 : decode cX11_findFitting 25 = .ok (.iload_n 3, 1) := by decide +kernel
theorem dX11_findFitting_26 : decode cX11_findFitting 26 = .ok (.iconst 1, 1) := by decide +kernel
theorem dX11_findFitting_27 : decode cX11_findFitting 27 = .ok (.iload 4, 2) := by decide +kernel
theorem dX11_findFitting_29 : decode cX11_findFitting 29 = .ok (.ishl, 1) := by decide +kernel
theorem dX11_findFitting_30 : decode cX11_findFitting 30 = .ok (.ior, 1) := by decide +kernel
theorem dX11_findFitting_31 : decode cX11_findFitting 31 = .ok (.istore_n 3, 1) := by decide +kernel
theorem dX11_findFitting_32 : decode cX11_findFitting 32 = .ok (.iinc 4 1, 3) := by decide +kernel
theorem dX11_findFitting_35 : decode cX11_findFitting 35 = .ok (.goto (-30), 3) := by decide +kernel
theorem dX11_findFitting_38 : decode cX11_findFitting 38 = .ok (.iload_n 3, 1) := by decide +kernel
theorem dX11_findFitting_39 : decode cX11_findFitting 39 = .ok (.ireturn, 1) := by decide +kernel
theorem dX11_may_0 : decode cX11_may 0 = .ok (.aload_n 0, 1) := by decide +kernel
theorem dX11_may_1 : decode cX11_may 1 = .ok (.iload_n 1, 1) := by decide +kernel
theorem dX11_may_2 : decode cX11_may 2 = .ok (.invokevirtual 173, 3) := by decide +kernel
theorem dX11_may_5 : decode cX11_may 5 = .ok (.astore 4, 2) := by decide +kernel
theorem dX11_may_7 : decode cX11_may 7 = .ok (.aload 4, 2) := by decide +kernel
theorem dX11_may_9 : decode cX11_may 9 = .ok (.ifnull 18, 3) := by decide +kernel
theorem dX11_may_12 : decode cX11_may 12 = .ok (.aload_n 0, 1) := by decide +kernel
theorem dX11_may_13 : decode cX11_may 13 = .ok (.iload_n 2, 1) := by decide +kernel
theorem dX11_may_14 : decode cX11_may 14 = .ok (.invokevirtual 153, 3) := by decide +kernel
theorem dX11_may_17 : decode cX11_may 17 = .ok (.ifnull 10, 3) := by decide +kernel
theorem dX11_may_20 : decode cX11_may 20 = .ok (.iload_n 3, 1) := by decide +kernel
theorem dX11_may_21 : decode cX11_may 21 = .ok (.invokestatic 148, 3) := by decide +kernel
theorem dX11_may_24 : decode cX11_may 24 = .ok (.ifCond .ne 6, 3) := by decide +kernel
theorem dX11_may_27 : decode cX11_may 27 = .ok (.bipush (-2), 2) := by decide +kernel
theorem dX11_may_29 : decode cX11_may 29 = .ok (.ireturn, 1) := by decide +kernel
theorem dX11_may_30 : decode cX11_may 30 = .ok (.aload_n 0, 1) := by decide +kernel
theorem dX11_may_31 : decode cX11_may 31 = .ok (.aload 4, 2) := by decide +kernel
theorem dX11_may_33 : decode cX11_may 33 = .ok (.iload_n 2, 1) := by decide +kernel
theorem dX11_may_34 : decode cX11_may 34 = .ok (.iload_n 3, 1) := by decide +kernel
theorem dX11_may_35 : decode cX11_may 35 = .ok (.invokevirtual 241, 3) := by decide +kernel
theorem dX11_may_38 : decode cX11_may 38 = .ok (.ireturn, 1) := by decide +kernel
theorem dX11_putPays_0 : decode cX11_putPays 0 = .ok (.iconst 0, 1) := by decide +kernel
theorem dX11_putPays_1 : decode cX11_putPays 1 = .ok (.istore_n 2, 1) := by decide +kernel
theorem dX11_putPays_2 : decode cX11_putPays 2 = .ok (.iload_n 2, 1) := by decide +kernel
theorem dX11_putPays_3 : decode cX11_putPays 3 = .ok (.aload_n 0, 1) := by decide +kernel
theorem dX11_putPays_4 : decode cX11_putPays 4 = .ok (.getfield 82, 3) := by decide +kernel
theorem dX11_putPays_7 : decode cX11_putPays 7 = .ok (.if_icmp .ge 25, 3) := by decide +kernel
theorem dX11_putPays_10 : decode cX11_putPays 10 = .ok (.aload_n 1, 1) := by decide +kernel
theorem dX11_putPays_11 : decode cX11_putPays 11 = .ok (.getfield 452, 3) := by decide +kernel
theorem dX11_putPays_14 : decode cX11_putPays 14 = .ok (.iload_n 2, 1) := by decide +kernel
theorem dX11_putPays_15 : decode cX11_putPays 15 = .ok (.aload_n 0, 1) := by decide +kernel
theorem dX11_putPays_16 : decode cX11_putPays 16 = .ok (.iload_n 2, 1) := by decide +kernel
theorem dX11_putPays_17 : decode cX11_putPays 17 = .ok (.iconst 0, 1) := by decide +kernel
theorem dX11_putPays_18 : decode cX11_putPays 18 = .ok (.sipush 400, 3) := by decide +kernel
theorem dX11_putPays_21 : decode cX11_putPays 21 = .ok (.iconst 1, 1) := by decide +kernel
theorem dX11_putPays_22 : decode cX11_putPays 22 = .ok (.invokevirtual 278, 3) := by decide +kernel
theorem dX11_putPays_25 : decode cX11_putPays 25 = .ok (.lastore, 1) := by decide +kernel
theorem dX11_putPays_26 : decode cX11_putPays 26 = .ok (.iinc 2 1, 3) := by decide +kernel
theorem dX11_putPays_29 : decode cX11_putPays 29 = .ok (.goto (-27), 3) := by decide +kernel
theorem dX11_putPays_32 : decode cX11_putPays 32 = .ok (.aload_n 1, 1) := by decide +kernel
theorem dX11_putPays_33 : decode cX11_putPays 33 = .ok (.aload_n 0, 1) := by decide +kernel
theorem dX11_putPays_34 : decode cX11_putPays 34 = .ok (.getfield 82, 3) := by decide +kernel
theorem dX11_putPays_37 : decode cX11_putPays 37 = .ok (.putfield 449, 3) := by decide +kernel
theorem dX11_putPays_40 : decode cX11_putPays 40 = .ok (.return_, 1) := by decide +kernel
theorem dX11_findSeating_0 : decode cX11_findSeating 0 = .ok (.aload_n 0, 1) := by decide +kernel
theorem dX11_findSeating_1 : decode cX11_findSeating 1 = .ok (.getfield 60, 3) := by decide +kernel
theorem dX11_findSeating_4 : decode cX11_findSeating 4 = .ok (.aload_n 1, 1) := by decide +kernel
theorem dX11_findSeating_5 : decode cX11_findSeating 5 = .ok (.getfield 229, 3) := by decide +kernel
theorem dX11_findSeating_8 : decode cX11_findSeating 8 = .ok (.invokevirtual 422, 3) := by decide +kernel
theorem dX11_findSeating_11 : decode cX11_findSeating 11 = .ok (.iconst 0, 1) := by decide +kernel
theorem dX11_findSeating_12 : decode cX11_findSeating 12 = .ok (.istore_n 2, 1) := by decide +kernel
theorem dX11_findSeating_13 : decode cX11_findSeating 13 = .ok (.iconst 0, 1) := by decide +kernel
theorem dX11_findSeating_14 : decode cX11_findSeating 14 = .ok (.istore_n 3, 1) := by decide +kernel
theorem dX11_findSeating_15 : decode cX11_findSeating 15 = .ok (.iload_n 3, 1) := by decide +kernel
theorem dX11_findSeating_16 : decode cX11_findSeating 16 = .ok (.bipush 6, 2) := by decide +kernel
theorem dX11_findSeating_18 : decode cX11_findSeating 18 = .ok (.if_icmp .ge 63, 3) := by decide +kernel
theorem dX11_findSeating_21 : decode cX11_findSeating 21 = .ok (.aload_n 1, 1) := by decide +kernel
theorem dX11_findSeating_22 : decode cX11_findSeating 22 = .ok (.getfield 424, 3) := by decide +kernel
theorem dX11_findSeating_25 : decode cX11_findSeating 25 = .ok (.iload_n 3, 1) := by decide +kernel
theorem dX11_findSeating_26 : decode cX11_findSeating 26 = .ok (.iaload, 1) := by decide +kernel
theorem dX11_findSeating_27 : decode cX11_findSeating 27 = .ok (.ifCond .ne 7, 3) := by decide +kernel
theorem dX11_findSeating_30 : decode cX11_findSeating 30 = .ok (.iconst 0, 1) := by decide +kernel
theorem dX11_findSeating_31 : decode cX11_findSeating 31 = .ok (.goto 9, 3) := by decide +kernel
theorem dX11_findSeating_34 : decode cX11_findSeating 34 = .ok (.aload_n 0, 1) := by decide +kernel
theorem dX11_findSeating_35 : decode cX11_findSeating 35 = .ok (.aload_n 1, 1) := by decide +kernel
theorem dX11_findSeating_36 : decode cX11_findSeating 36 = .ok (.iload_n 3, 1) := by decide +kernel
theorem dX11_findSeating_37 : decode cX11_findSeating 37 = .ok (.invokevirtual 426, 3) := by decide +kernel
theorem dX11_findSeating_40 : decode cX11_findSeating 40 = .ok (.istore 4, 2) := by decide +kernel
theorem dX11_findSeating_42 : decode cX11_findSeating 42 = .ok (.iconst 0, 1) := by decide +kernel
theorem dX11_findSeating_43 : decode cX11_findSeating 43 = .ok (.istore 5, 2) := by decide +kernel
theorem dX11_findSeating_45 : decode cX11_findSeating 45 = .ok (.iload 5, 2) := by decide +kernel
theorem dX11_findSeating_47 : decode cX11_findSeating 47 = .ok (.aload_n 1, 1) := by decide +kernel
theorem dX11_findSeating_48 : decode cX11_findSeating 48 = .ok (.getfield 424, 3) := by decide +kernel
theorem dX11_findSeating_51 : decode cX11_findSeating 51 = .ok (.iload_n 3, 1) := by decide +kernel
theorem dX11_findSeating_52 : decode cX11_findSeating 52 = .ok (.iaload, 1) := by decide +kernel
theorem dX11_findSeating_53 : decode cX11_findSeating 53 = .ok (.if_icmp .ge 22, 3) := by decide +kernel
theorem dX11_findSeating_56 : decode cX11_findSeating 56 = .ok (.aload_n 0, 1) := by decide +kernel
theorem dX11_findSeating_57 : decode cX11_findSeating 57 = .ok (.getfield 60, 3) := by decide +kernel
theorem dX11_findSeating_60 : decode cX11_findSeating 60 = .ok (.iload_n 2, 1) := by decide +kernel
theorem dX11_findSeating_61 : decode cX11_findSeating 61 = .ok (.iload 4, 2) := by decide +kernel
theorem dX11_findSeating_63 : decode cX11_findSeating 63 = .ok (.invokevirtual 430, 3) := by decide +kernel
theorem dX11_findSeating_66 : decode cX11_findSeating 66 = .ok (.iinc 2 1, 3) := by decide +kernel
theorem dX11_findSeating_69 : decode cX11_findSeating 69 = .ok (.iinc 5 1, 3) := by decide +kernel
theorem dX11_findSeating_72 : decode cX11_findSeating 72 = .ok (.goto (-27), 3) := by decide +kernel
theorem dX11_findSeating_75 : decode cX11_findSeating 75 = .ok (.iinc 3 1, 3) := by decide +kernel
theorem dX11_findSeating_78 : decode cX11_findSeating 78 = .ok (.goto (-63), 3) := by decide +kernel
theorem dX11_findSeating_81 : decode cX11_findSeating 81 = .ok (.aload_n 0, 1) := by decide +kernel
theorem dX11_findSeating_82 : decode cX11_findSeating 82 = .ok (.getfield 60, 3) := by decide +kernel
theorem dX11_findSeating_85 : decode cX11_findSeating 85 = .ok (.invokevirtual 433, 3) := by decide +kernel
theorem dX11_findSeating_88 : decode cX11_findSeating 88 = .ok (.return_, 1) := by decide +kernel
theorem dX11_put_0 : decode cX11_put 0 = .ok (.iload_n 1, 1) := by decide +kernel
theorem dX11_put_1 : decode cX11_put 1 = .ok (.iconst 0, 1) := by decide +kernel
theorem dX11_put_2 : decode cX11_put 2 = .ok (.iconst 5, 1) := by decide +kernel
theorem dX11_put_3 : decode cX11_put 3 = .ok (.invokestatic 124, 3) := by decide +kernel
theorem dX11_put_6 : decode cX11_put 6 = .ok (.ifCond .eq 12, 3) := by decide +kernel
theorem dX11_put_9 : decode cX11_put 9 = .ok (.aload_n 0, 1) := by decide +kernel
theorem dX11_put_10 : decode cX11_put 10 = .ok (.iload_n 2, 1) := by decide +kernel
theorem dX11_put_11 : decode cX11_put 11 = .ok (.iload_n 3, 1) := by decide +kernel
theorem dX11_put_12 : decode cX11_put 12 = .ok (.invokevirtual 313, 3) := by decide +kernel
theorem dX11_put_15 : decode cX11_put 15 = .ok (.ifCond .ne 9, 3) := by decide +kernel
theorem dX11_put_18 : decode cX11_put 18 = .ok (.aload_n 0, 1) := by decide +kernel
theorem dX11_put_19 : decode cX11_put 19 = .ok (.iconst 1, 1) := by decide +kernel
theorem dX11_put_20 : decode cX11_put 20 = .ok (.invokevirtual 316, 3) := by decide +kernel
theorem dX11_put_23 : decode cX11_put 23 = .ok (.ireturn, 1) := by decide +kernel
theorem dX11_put_24 : decode cX11_put 24 = .ok (.aload_n 0, 1) := by decide +kernel
theorem dX11_put_25 : decode cX11_put 25 = .ok (.getfield 35, 3) := by decide +kernel
theorem dX11_put_28 : decode cX11_put 28 = .ok (.iload_n 1, 1) := by decide +kernel
theorem dX11_put_29 : decode cX11_put 29 = .ok (.aaload, 1) := by decide +kernel
theorem dX11_put_30 : decode cX11_put 30 = .ok (.astore 4, 2) := by decide +kernel
theorem dX11_put_32 : decode cX11_put 32 = .ok (.aload 4, 2) := by decide +kernel
theorem dX11_put_34 : decode cX11_put 34 = .ok (.iload_n 2, 1) := by decide +kernel
theorem dX11_put_35 : decode cX11_put 35 = .ok (.putfield 319, 3) := by decide +kernel
theorem dX11_put_38 : decode cX11_put 38 = .ok (.iload_n 2, 1) := by decide +kernel
theorem dX11_put_39 : decode cX11_put 39 = .ok (.tableswitch 72 1 4 #[29, 43, 53, 62], 29) := by decide +kernel
theorem dX11_put_68 : decode cX11_put 68 = .ok (.aload 4, 2) := by decide +kernel
theorem dX11_put_70 : decode cX11_put 70 = .ok (.aload_n 0, 1) := by decide +kernel
theorem dX11_put_71 : decode cX11_put 71 = .ok (.getfield 23, 3) := by decide +kernel
theorem dX11_put_74 : decode cX11_put 74 = .ok (.iload_n 3, 1) := by decide +kernel
theorem dX11_put_75 : decode cX11_put 75 = .ok (.aaload, 1) := by decide +kernel
theorem dX11_put_76 : decode cX11_put 76 = .ok (.putfield 322, 3) := by decide +kernel
theorem dX11_put_79 : decode cX11_put 79 = .ok (.goto 32, 3) := by decide +kernel
theorem dX11_put_82 : decode cX11_put 82 = .ok (.aload_n 0, 1) := by decide +kernel
theorem dX11_put_83 : decode cX11_put 83 = .ok (.aload 4, 2) := by decide +kernel
theorem dX11_put_85 : decode cX11_put 85 = .ok (.iload_n 3, 1) := by decide +kernel
theorem dX11_put_86 : decode cX11_put 86 = .ok (.invokevirtual 326, 3) := by decide +kernel
theorem dX11_put_89 : decode cX11_put 89 = .ok (.goto 22, 3) := by decide +kernel
theorem dX11_put_92 : decode cX11_put 92 = .ok (.aload_n 0, 1) := by decide +kernel
theorem dX11_put_93 : decode cX11_put 93 = .ok (.aload 4, 2) := by decide +kernel
theorem dX11_put_95 : decode cX11_put 95 = .ok (.invokevirtual 330, 3) := by decide +kernel
theorem dX11_put_98 : decode cX11_put 98 = .ok (.goto 13, 3) := by decide +kernel
theorem dX11_put_101 : decode cX11_put 101 = .ok (.aload_n 0, 1) := by decide +kernel
theorem dX11_put_102 : decode cX11_put 102 = .ok (.aload 4, 2) := by decide +kernel
theorem dX11_put_104 : decode cX11_put 104 = .ok (.iload_n 3, 1) := by decide +kernel
theorem dX11_put_105 : decode cX11_put 105 = .ok (.invokevirtual 334, 3) := by decide +kernel
theorem dX11_put_108 : decode cX11_put 108 = .ok (.goto 3, 3) := by decide +kernel
theorem dX11_put_111 : decode cX11_put 111 = .ok (.aload_n 0, 1) := by decide +kernel
theorem dX11_put_112 : decode cX11_put 112 = .ok (.iconst 1, 1) := by decide +kernel
theorem dX11_put_113 : decode cX11_put 113 = .ok (.invokevirtual 337, 3) := by decide +kernel
theorem dX11_put_116 : decode cX11_put 116 = .ok (.ireturn, 1) := by decide +kernel
theorem dX3_takeWord_0 : decode cX3_takeWord 0 = .ok (.aload_n 0, 1) := by decide +kernel
theorem dX3_takeWord_1 : decode cX3_takeWord 1 = .ok (.getfield 43, 3) := by decide +kernel
theorem dX3_takeWord_4 : decode cX3_takeWord 4 = .ok (.aload_n 0, 1) := by decide +kernel
theorem dX3_takeWord_5 : decode cX3_takeWord 5 = .ok (.getfield 22, 3) := by decide +kernel
theorem dX3_takeWord_8 : decode cX3_takeWord 8 = .ok (.if_icmp .ge 31, 3) := by decide +kernel
theorem dX3_takeWord_11 : decode cX3_takeWord 11 = .ok (.aload_n 0, 1) := by decide +kernel
theorem dX3_takeWord_12 : decode cX3_takeWord 12 = .ok (.getfield 18, 3) := by decide +kernel
theorem dX3_takeWord_15 : decode cX3_takeWord 15 = .ok (.aload_n 0, 1) := by decide +kernel
theorem dX3_takeWord_16 : decode cX3_takeWord 16 = .ok (.getfield 43, 3) := by decide +kernel
theorem dX3_takeWord_19 : decode cX3_takeWord 19 = .ok (.baload, 1) := by decide +kernel
theorem dX3_takeWord_20 : decode cX3_takeWord 20 = .ok (.invokestatic 97, 3) := by decide +kernel
theorem dX3_takeWord_23 : decode cX3_takeWord 23 = .ok (.ifCond .eq 16, 3) := by decide +kernel
theorem dX3_takeWord_26 : decode cX3_takeWord 26 = .ok (.aload_n 0, 1) := by decide +kernel
theorem dX3_takeWord_27 : decode cX3_takeWord 27 = .ok (.dup, 1) := by decide +kernel
theorem dX3_takeWord_28 : decode cX3_takeWord 28 = .ok (.getfield 43, 3) := by decide +kernel
theorem dX3_takeWord_31 : decode cX3_takeWord 31 = .ok (.iconst 1, 1) := by decide +kernel
theorem dX3_takeWord_32 : decode cX3_takeWord 32 = .ok (.iadd, 1) := by decide +kernel
theorem dX3_takeWord_33 : decode cX3_takeWord 33 = .ok (.putfield 43, 3) := by decide +kernel
theorem dX3_takeWord_36 : decode cX3_takeWord 36 = .ok (.goto (-36), 3) := by decide +kernel
theorem dX3_takeWord_39 : decode cX3_takeWord 39 = .ok (.aload_n 0, 1) := by decide +kernel
theorem dX3_takeWord_40 : decode cX3_takeWord 40 = .ok (.bipush 26, 2) := by decide +kernel
theorem dX3_takeWord_42 : decode cX3_takeWord 42 = .ok (.putfield 34, 3) := by decide +kernel
theorem dX3_takeWord_45 : decode cX3_takeWord 45 = .ok (.iconst 0, 1) := by decide +kernel
theorem dX3_takeWord_46 : decode cX3_takeWord 46 = .ok (.istore_n 1, 1) := by decide +kernel
theorem dX3_takeWord_47 : decode cX3_takeWord 47 = .ok (.iload_n 1, 1) := by decide +kernel
theorem dX3_takeWord_48 : decode cX3_takeWord 48 = .ok (.bipush 16, 2) := by decide +kernel
theorem dX3_takeWord_50 : decode cX3_takeWord 50 = .ok (.if_icmp .ge 22, 3) := by decide +kernel
theorem dX3_takeWord_53 : decode cX3_takeWord 53 = .ok (.aload_n 0, 1) := by decide +kernel
theorem dX3_takeWord_54 : decode cX3_takeWord 54 = .ok (.iload_n 1, 1) := by decide +kernel
theorem dX3_takeWord_55 : decode cX3_takeWord 55 = .ok (.invokevirtual 112, 3) := by decide +kernel
theorem dX3_takeWord_58 : decode cX3_takeWord 58 = .ok (.ifCond .eq 8, 3) := by decide +kernel
theorem dX3_takeWord_61 : decode cX3_takeWord 61 = .ok (.aload_n 0, 1) := by decide +kernel
theorem dX3_takeWord_62 : decode cX3_takeWord 62 = .ok (.iload_n 1, 1) := by decide +kernel
theorem dX3_takeWord_63 : decode cX3_takeWord 63 = .ok (.putfield 34, 3) := by decide +kernel
theorem dX3_takeWord_66 : decode cX3_takeWord 66 = .ok (.iinc 1 1, 3) := by decide +kernel
theorem dX3_takeWord_69 : decode cX3_takeWord 69 = .ok (.goto (-22), 3) := by decide +kernel
theorem dX3_takeWord_72 : decode cX3_takeWord 72 = .ok (.return_, 1) := by decide +kernel
theorem dX11_chair_0 : decode cX11_chair 0 = .ok (.aload_n 0, 1) := by decide +kernel
theorem dX11_chair_1 : decode cX11_chair 1 = .ok (.iload_n 1, 1) := by decide +kernel
theorem dX11_chair_2 : decode cX11_chair 2 = .ok (.invokevirtual 173, 3) := by decide +kernel
theorem dX11_chair_5 : decode cX11_chair 5 = .ok (.astore 4, 2) := by decide +kernel
theorem dX11_chair_7 : decode cX11_chair 7 = .ok (.aload 4, 2) := by decide +kernel
theorem dX11_chair_9 : decode cX11_chair 9 = .ok (.ifnull 18, 3) := by decide +kernel
theorem dX11_chair_12 : decode cX11_chair 12 = .ok (.iload_n 2, 1) := by decide +kernel
theorem dX11_chair_13 : decode cX11_chair 13 = .ok (.iconst 0, 1) := by decide +kernel
theorem dX11_chair_14 : decode cX11_chair 14 = .ok (.aload 4, 2) := by decide +kernel
theorem dX11_chair_16 : decode cX11_chair 16 = .ok (.getfield 229, 3) := by decide +kernel
theorem dX11_chair_19 : decode cX11_chair 19 = .ok (.iconst 1, 1) := by decide +kernel
theorem dX11_chair_20 : decode cX11_chair 20 = .ok (.isub, 1) := by decide +kernel
theorem dX11_chair_21 : decode cX11_chair 21 = .ok (.invokestatic 124, 3) := by decide +kernel
theorem dX11_chair_24 : decode cX11_chair 24 = .ok (.ifCond .ne 6, 3) := by decide +kernel
theorem dX11_chair_27 : decode cX11_chair 27 = .ok (.bipush (-2), 2) := by decide +kernel
theorem dX11_chair_29 : decode cX11_chair 29 = .ok (.ireturn, 1) := by decide +kernel
theorem dX11_chair_30 : decode cX11_chair 30 = .ok (.iload_n 3, 1) := by decide +kernel
theorem dX11_chair_31 : decode cX11_chair 31 = .ok (.ifCond .eq 23, 3) := by decide +kernel
theorem dX11_chair_34 : decode cX11_chair 34 = .ok (.aload 4, 2) := by decide +kernel
theorem dX11_chair_36 : decode cX11_chair 36 = .ok (.getfield 177, 3) := by decide +kernel
theorem dX11_chair_39 : decode cX11_chair 39 = .ok (.ifCond .eq 13, 3) := by decide +kernel
theorem dX11_chair_42 : decode cX11_chair 42 = .ok (.aload 4, 2) := by decide +kernel
theorem dX11_chair_44 : decode cX11_chair 44 = .ok (.getfield 265, 3) := by decide +kernel
theorem dX11_chair_47 : decode cX11_chair 47 = .ok (.iload_n 2, 1) := by decide +kernel
theorem dX11_chair_48 : decode cX11_chair 48 = .ok (.iaload, 1) := by decide +kernel
theorem dX11_chair_49 : decode cX11_chair 49 = .ok (.goto 4, 3) := by decide +kernel
theorem dX11_chair_52 : decode cX11_chair 52 = .ok (.iconst (-1), 1) := by decide +kernel
theorem dX11_chair_53 : decode cX11_chair 53 = .ok (.ireturn, 1) := by decide +kernel
theorem dX11_chair_54 : decode cX11_chair 54 = .ok (.aload_n 0, 1) := by decide +kernel
theorem dX11_chair_55 : decode cX11_chair 55 = .ok (.aload 4, 2) := by decide +kernel
theorem dX11_chair_57 : decode cX11_chair 57 = .ok (.invokevirtual 258, 3) := by decide +kernel
theorem dX11_chair_60 : decode cX11_chair 60 = .ok (.aload_n 0, 1) := by decide +kernel
theorem dX11_chair_61 : decode cX11_chair 61 = .ok (.getfield 60, 3) := by decide +kernel
theorem dX11_chair_64 : decode cX11_chair 64 = .ok (.getfield 268, 3) := by decide +kernel
theorem dX11_chair_67 : decode cX11_chair 67 = .ok (.iload_n 2, 1) := by decide +kernel
theorem dX11_chair_68 : decode cX11_chair 68 = .ok (.iaload, 1) := by decide +kernel
theorem dX11_chair_69 : decode cX11_chair 69 = .ok (.ireturn, 1) := by decide +kernel
theorem dX11_gaps_0 : decode cX11_gaps 0 = .ok (.aload_n 0, 1) := by decide +kernel
theorem dX11_gaps_1 : decode cX11_gaps 1 = .ok (.iload_n 1, 1) := by decide +kernel
theorem dX11_gaps_2 : decode cX11_gaps 2 = .ok (.invokevirtual 173, 3) := by decide +kernel
theorem dX11_gaps_5 : decode cX11_gaps 5 = .ok (.astore_n 2, 1) := by decide +kernel
theorem dX11_gaps_6 : decode cX11_gaps 6 = .ok (.aload_n 2, 1) := by decide +kernel
theorem dX11_gaps_7 : decode cX11_gaps 7 = .ok (.ifnonnull 6, 3) := by decide +kernel
theorem dX11_gaps_10 : decode cX11_gaps 10 = .ok (.bipush (-2), 2) := by decide +kernel
theorem dX11_gaps_12 : decode cX11_gaps 12 = .ok (.ireturn, 1) := by decide +kernel
theorem dX11_gaps_13 : decode cX11_gaps 13 = .ok (.aload_n 0, 1) := by decide +kernel
theorem dX11_gaps_14 : decode cX11_gaps 14 = .ok (.aload_n 2, 1) := by decide +kernel
theorem dX11_gaps_15 : decode cX11_gaps 15 = .ok (.invokevirtual 258, 3) := by decide +kernel
theorem dX11_gaps_18 : decode cX11_gaps 18 = .ok (.aload_n 0, 1) := by decide +kernel
theorem dX11_gaps_19 : decode cX11_gaps 19 = .ok (.getfield 60, 3) := by decide +kernel
theorem dX11_gaps_22 : decode cX11_gaps 22 = .ok (.invokevirtual 262, 3) := by decide +kernel
theorem dX11_gaps_25 : decode cX11_gaps 25 = .ok (.ireturn, 1) := by decide +kernel
theorem dX11_seat_0 : decode cX11_seat 0 = .ok (.aload_n 0, 1) := by decide +kernel
theorem dX11_seat_1 : decode cX11_seat 1 = .ok (.iload_n 1, 1) := by decide +kernel
theorem dX11_seat_2 : decode cX11_seat 2 = .ok (.invokevirtual 173, 3) := by decide +kernel
theorem dX11_seat_5 : decode cX11_seat 5 = .ok (.astore_n 2, 1) := by decide +kernel
theorem dX11_seat_6 : decode cX11_seat 6 = .ok (.aload_n 2, 1) := by decide +kernel
theorem dX11_seat_7 : decode cX11_seat 7 = .ok (.ifnonnull 6, 3) := by decide +kernel
theorem dX11_seat_10 : decode cX11_seat 10 = .ok (.bipush (-2), 2) := by decide +kernel
theorem dX11_seat_12 : decode cX11_seat 12 = .ok (.ireturn, 1) := by decide +kernel
theorem dX11_seat_13 : decode cX11_seat 13 = .ok (.aload_n 0, 1) := by decide +kernel
theorem dX11_seat_14 : decode cX11_seat 14 = .ok (.aload_n 2, 1) := by decide +kernel
theorem dX11_seat_15 : decode cX11_seat 15 = .ok (.invokevirtual 258, 3) := by decide +kernel
theorem dX11_seat_18 : decode cX11_seat 18 = .ok (.aload_n 2, 1) := by decide +kernel
theorem dX11_seat_19 : decode cX11_seat 19 = .ok (.aload_n 0, 1) := by decide +kernel
theorem dX11_seat_20 : decode cX11_seat 20 = .ok (.getfield 60, 3) := by decide +kernel
theorem dX11_seat_23 : decode cX11_seat 23 = .ok (.getfield 268, 3) := by decide +kernel
theorem dX11_seat_26 : decode cX11_seat 26 = .ok (.aload_n 0, 1) := by decide +kernel
theorem dX11_seat_27 : decode cX11_seat 27 = .ok (.getfield 60, 3) := by decide +kernel
theorem dX11_seat_30 : decode cX11_seat 30 = .ok (.invokevirtual 262, 3) := by decide +kernel
theorem dX11_seat_33 : decode cX11_seat 33 = .ok (.invokevirtual 271, 3) := by decide +kernel
theorem dX11_seat_36 : decode cX11_seat 36 = .ok (.aload_n 2, 1) := by decide +kernel
theorem dX11_seat_37 : decode cX11_seat 37 = .ok (.getfield 232, 3) := by decide +kernel
theorem dX11_seat_40 : decode cX11_seat 40 = .ok (.ireturn, 1) := by decide +kernel
theorem dX3_advance_0 : decode cX3_advance 0 = .ok (.aload_n 0, 1) := by decide +kernel
theorem dX3_advance_1 : decode cX3_advance 1 = .ok (.getfield 49, 3) := by decide +kernel
theorem dX3_advance_4 : decode cX3_advance 4 = .ok (.iconst (-1), 1) := by decide +kernel
theorem dX3_advance_5 : decode cX3_advance 5 = .ok (.if_icmp .eq 4, 3) := by decide +kernel
theorem dX3_advance_8 : decode cX3_advance 8 = .ok (.return_, 1) := by decide +kernel
theorem dX3_advance_9 : decode cX3_advance 9 = .ok (.aload_n 0, 1) := by decide +kernel
theorem dX3_advance_10 : decode cX3_advance 10 = .ok (.getfield 43, 3) := by decide +kernel
theorem dX3_advance_13 : decode cX3_advance 13 = .ok (.aload_n 0, 1) := by decide +kernel
theorem dX3_advance_14 : decode cX3_advance 14 = .ok (.getfield 22, 3) := by decide +kernel
theorem dX3_advance_17 : decode cX3_advance 17 = .ok (.if_icmp .ge 31, 3) := by decide +kernel
theorem dX3_advance_20 : decode cX3_advance 20 = .ok (.aload_n 0, 1) := by decide +kernel
theorem dX3_advance_21 : decode cX3_advance 21 = .ok (.getfield 18, 3) := by decide +kernel
theorem dX3_advance_24 : decode cX3_advance 24 = .ok (.aload_n 0, 1) := by decide +kernel
theorem dX3_advance_25 : decode cX3_advance 25 = .ok (.getfield 43, 3) := by decide +kernel
theorem dX3_advance_28 : decode cX3_advance 28 = .ok (.baload, 1) := by decide +kernel
theorem dX3_advance_29 : decode cX3_advance 29 = .ok (.invokestatic 93, 3) := by decide +kernel
theorem dX3_advance_32 : decode cX3_advance 32 = .ok (.ifCond .eq 16, 3) := by decide +kernel
theorem dX3_advance_35 : decode cX3_advance 35 = .ok (.aload_n 0, 1) := by decide +kernel
theorem dX3_advance_36 : decode cX3_advance 36 = .ok (.dup, 1) := by decide +kernel
theorem dX3_advance_37 : decode cX3_advance 37 = .ok (.getfield 43, 3) := by decide +kernel
theorem dX3_advance_40 : decode cX3_advance 40 = .ok (.iconst 1, 1) := by decide +kernel
theorem dX3_advance_41 : decode cX3_advance 41 = .ok (.iadd, 1) := by decide +kernel
theorem dX3_advance_42 : decode cX3_advance 42 = .ok (.putfield 43, 3) := by decide +kernel
theorem dX3_advance_45 : decode cX3_advance 45 = .ok (.goto (-36), 3) := by decide +kernel
theorem dX3_advance_48 : decode cX3_advance 48 = .ok (.aload_n 0, 1) := by decide +kernel
theorem dX3_advance_49 : decode cX3_advance 49 = .ok (.aload_n 0, 1) := by decide +kernel
theorem dX3_advance_50 : decode cX3_advance 50 = .ok (.getfield 43, 3) := by decide +kernel
theorem dX3_advance_53 : decode cX3_advance 53 = .ok (.putfield 40, 3) := by decide +kernel
theorem dX3_advance_56 : decode cX3_advance 56 = .ok (.aload_n 0, 1) := by decide +kernel
theorem dX3_advance_57 : decode cX3_advance 57 = .ok (.getfield 43, 3) := by decide +kernel
theorem dX3_advance_60 : decode cX3_advance 60 = .ok (.aload_n 0, 1) := by decide +kernel
theorem dX3_advance_61 : decode cX3_advance 61 = .ok (.getfield 22, 3) := by decide +kernel
theorem dX3_advance_64 : decode cX3_advance 64 = .ok (.if_icmp .lt 12, 3) := by decide +kernel
theorem dX3_advance_67 : decode cX3_advance 67 = .ok (.aload_n 0, 1) := by decide +kernel
theorem dX3_advance_68 : decode cX3_advance 68 = .ok (.bipush 25, 2) := by decide +kernel
theorem dX3_advance_70 : decode cX3_advance 70 = .ok (.putfield 34, 3) := by decide +kernel
theorem dX3_advance_73 : decode cX3_advance 73 = .ok (.goto 51, 3) := by decide +kernel
theorem dX3_advance_76 : decode cX3_advance 76 = .ok (.aload_n 0, 1) := by decide +kernel
theorem dX3_advance_77 : decode cX3_advance 77 = .ok (.getfield 18, 3) := by decide +kernel
theorem dX3_advance_80 : decode cX3_advance 80 = .ok (.aload_n 0, 1) := by decide +kernel
theorem dX3_advance_81 : decode cX3_advance 81 = .ok (.getfield 43, 3) := by decide +kernel
theorem dX3_advance_84 : decode cX3_advance 84 = .ok (.baload, 1) := by decide +kernel
theorem dX3_advance_85 : decode cX3_advance 85 = .ok (.invokestatic 97, 3) := by decide +kernel
theorem dX3_advance_88 : decode cX3_advance 88 = .ok (.ifCond .eq 10, 3) := by decide +kernel
theorem dX3_advance_91 : decode cX3_advance 91 = .ok (.aload_n 0, 1) := by decide +kernel
theorem dX3_advance_92 : decode cX3_advance 92 = .ok (.invokevirtual 100, 3) := by decide +kernel
theorem dX3_advance_95 : decode cX3_advance 95 = .ok (.goto 29, 3) := by decide +kernel
theorem dX3_advance_98 : decode cX3_advance 98 = .ok (.aload_n 0, 1) := by decide +kernel
theorem dX3_advance_99 : decode cX3_advance 99 = .ok (.getfield 18, 3) := by decide +kernel
theorem dX3_advance_102 : decode cX3_advance 102 = .ok (.aload_n 0, 1) := by decide +kernel
theorem dX3_advance_103 : decode cX3_advance 103 = .ok (.getfield 43, 3) := by decide +kernel
theorem dX3_advance_106 : decode cX3_advance 106 = .ok (.baload, 1) := by decide +kernel
theorem dX3_advance_107 : decode cX3_advance 107 = .ok (.invokestatic 103, 3) := by decide +kernel
theorem dX3_advance_110 : decode cX3_advance 110 = .ok (.ifCond .eq 10, 3) := by decide +kernel
theorem dX3_advance_113 : decode cX3_advance 113 = .ok (.aload_n 0, 1) := by decide +kernel
theorem dX3_advance_114 : decode cX3_advance 114 = .ok (.invokevirtual 106, 3) := by decide +kernel
theorem dX3_advance_117 : decode cX3_advance 117 = .ok (.goto 7, 3) := by decide +kernel
theorem dX3_advance_120 : decode cX3_advance 120 = .ok (.aload_n 0, 1) := by decide +kernel
theorem dX3_advance_121 : decode cX3_advance 121 = .ok (.invokevirtual 109, 3) := by decide +kernel
theorem dX3_advance_124 : decode cX3_advance 124 = .ok (.return_, 1) := by decide +kernel
theorem dX3_expect_0 : decode cX3_expect 0 = .ok (.aload_n 0, 1) := by decide +kernel
theorem dX3_expect_1 : decode cX3_expect 1 = .ok (.getfield 34, 3) := by decide +kernel
theorem dX3_expect_4 : decode cX3_expect 4 = .ok (.iload_n 1, 1) := by decide +kernel
theorem dX3_expect_5 : decode cX3_expect 5 = .ok (.if_icmp .ne 10, 3) := by decide +kernel
theorem dX3_expect_8 : decode cX3_expect 8 = .ok (.aload_n 0, 1) := by decide +kernel
theorem dX3_expect_9 : decode cX3_expect 9 = .ok (.invokevirtual 52, 3) := by decide +kernel
theorem dX3_expect_12 : decode cX3_expect 12 = .ok (.goto 7, 3) := by decide +kernel
theorem dX3_expect_15 : decode cX3_expect 15 = .ok (.aload_n 0, 1) := by decide +kernel
theorem dX3_expect_16 : decode cX3_expect 16 = .ok (.invokevirtual 90, 3) := by decide +kernel
theorem dX3_expect_19 : decode cX3_expect 19 = .ok (.return_, 1) := by decide +kernel
theorem dX3_openOne_0 : decode cX3_openOne 0 = .ok (.aload_n 0, 1) := by decide +kernel
theorem dX3_openOne_1 : decode cX3_openOne 1 = .ok (.getfield 46, 3) := by decide +kernel
theorem dX3_openOne_4 : decode cX3_openOne 4 = .ok (.bipush 6, 2) := by decide +kernel
theorem dX3_openOne_6 : decode cX3_openOne 6 = .ok (.if_icmp .lt 9, 3) := by decide +kernel
theorem dX3_openOne_9 : decode cX3_openOne 9 = .ok (.aload_n 0, 1) := by decide +kernel
theorem dX3_openOne_10 : decode cX3_openOne 10 = .ok (.invokevirtual 90, 3) := by decide +kernel
theorem dX3_openOne_13 : decode cX3_openOne 13 = .ok (.iconst 0, 1) := by decide +kernel
theorem dX3_openOne_14 : decode cX3_openOne 14 = .ok (.ireturn, 1) := by decide +kernel
theorem dX3_openOne_15 : decode cX3_openOne 15 = .ok (.aload_n 0, 1) := by decide +kernel
theorem dX3_openOne_16 : decode cX3_openOne 16 = .ok (.dup, 1) := by decide +kernel
theorem dX3_openOne_17 : decode cX3_openOne 17 = .ok (.getfield 46, 3) := by decide +kernel
theorem dX3_openOne_20 : decode cX3_openOne 20 = .ok (.iconst 1, 1) := by decide +kernel
theorem dX3_openOne_21 : decode cX3_openOne 21 = .ok (.iadd, 1) := by decide +kernel
theorem dX3_openOne_22 : decode cX3_openOne 22 = .ok (.putfield 46, 3) := by decide +kernel
theorem dX3_openOne_25 : decode cX3_openOne 25 = .ok (.aload_n 0, 1) := by decide +kernel
theorem dX3_openOne_26 : decode cX3_openOne 26 = .ok (.invokevirtual 52, 3) := by decide +kernel
theorem dX3_openOne_29 : decode cX3_openOne 29 = .ok (.iconst 1, 1) := by decide +kernel
theorem dX3_openOne_30 : decode cX3_openOne 30 = .ok (.ireturn, 1) := by decide +kernel
theorem dX3_readAnd_0 : decode cX3_readAnd 0 = .ok (.aload_n 0, 1) := by decide +kernel
theorem dX3_readAnd_1 : decode cX3_readAnd 1 = .ok (.invokevirtual 71, 3) := by decide +kernel
theorem dX3_readAnd_4 : decode cX3_readAnd 4 = .ok (.iconst 0, 1) := by decide +kernel
theorem dX3_readAnd_5 : decode cX3_readAnd 5 = .ok (.istore_n 1, 1) := by decide +kernel
theorem dX3_readAnd_6 : decode cX3_readAnd 6 = .ok (.iload_n 1, 1) := by decide +kernel
theorem dX3_readAnd_7 : decode cX3_readAnd 7 = .ok (.sipush 300, 3) := by decide +kernel
theorem dX3_readAnd_10 : decode cX3_readAnd 10 = .ok (.if_icmp .ge 32, 3) := by decide +kernel
theorem dX3_readAnd_13 : decode cX3_readAnd 13 = .ok (.aload_n 0, 1) := by decide +kernel
theorem dX3_readAnd_14 : decode cX3_readAnd 14 = .ok (.getfield 34, 3) := by decide +kernel
theorem dX3_readAnd_17 : decode cX3_readAnd 17 = .ok (.bipush 14, 2) := by decide +kernel
theorem dX3_readAnd_19 : decode cX3_readAnd 19 = .ok (.if_icmp .ne 23, 3) := by decide +kernel
theorem dX3_readAnd_22 : decode cX3_readAnd 22 = .ok (.aload_n 0, 1) := by decide +kernel
theorem dX3_readAnd_23 : decode cX3_readAnd 23 = .ok (.invokevirtual 52, 3) := by decide +kernel
theorem dX3_readAnd_26 : decode cX3_readAnd 26 = .ok (.aload_n 0, 1) := by decide +kernel
theorem dX3_readAnd_27 : decode cX3_readAnd 27 = .ok (.invokevirtual 71, 3) := by decide +kernel
theorem dX3_readAnd_30 : decode cX3_readAnd 30 = .ok (.aload_n 0, 1) := by decide +kernel
theorem dX3_readAnd_31 : decode cX3_readAnd 31 = .ok (.bipush 14, 2) := by decide +kernel
theorem dX3_readAnd_33 : decode cX3_readAnd 33 = .ok (.invokevirtual 68, 3) := by decide +kernel
theorem dX3_readAnd_36 : decode cX3_readAnd 36 = .ok (.iinc 1 1, 3) := by decide +kernel
theorem dX3_readAnd_39 : decode cX3_readAnd 39 = .ok (.goto (-33), 3) := by decide +kernel
theorem dX3_readAnd_42 : decode cX3_readAnd 42 = .ok (.return_, 1) := by decide +kernel
theorem dX3_readNot_0 : decode cX3_readNot 0 = .ok (.aload_n 0, 1) := by decide +kernel
theorem dX3_readNot_1 : decode cX3_readNot 1 = .ok (.getfield 34, 3) := by decide +kernel
theorem dX3_readNot_4 : decode cX3_readNot 4 = .ok (.bipush 15, 2) := by decide +kernel
theorem dX3_readNot_6 : decode cX3_readNot 6 = .ok (.if_icmp .ne 31, 3) := by decide +kernel
theorem dX3_readNot_9 : decode cX3_readNot 9 = .ok (.aload_n 0, 1) := by decide +kernel
theorem dX3_readNot_10 : decode cX3_readNot 10 = .ok (.invokevirtual 74, 3) := by decide +kernel
theorem dX3_readNot_13 : decode cX3_readNot 13 = .ok (.ifCond .eq 23, 3) := by decide +kernel
theorem dX3_readNot_16 : decode cX3_readNot 16 = .ok (.aload_n 0, 1) := by decide +kernel
theorem dX3_readNot_17 : decode cX3_readNot 17 = .ok (.invokevirtual 71, 3) := by decide +kernel
theorem dX3_readNot_20 : decode cX3_readNot 20 = .ok (.aload_n 0, 1) := by decide +kernel
theorem dX3_readNot_21 : decode cX3_readNot 21 = .ok (.dup, 1) := by decide +kernel
theorem dX3_readNot_22 : decode cX3_readNot 22 = .ok (.getfield 46, 3) := by decide +kernel
theorem dX3_readNot_25 : decode cX3_readNot 25 = .ok (.iconst 1, 1) := by decide +kernel
theorem dX3_readNot_26 : decode cX3_readNot 26 = .ok (.isub, 1) := by decide +kernel
theorem dX3_readNot_27 : decode cX3_readNot 27 = .ok (.putfield 46, 3) := by decide +kernel
theorem dX3_readNot_30 : decode cX3_readNot 30 = .ok (.aload_n 0, 1) := by decide +kernel
theorem dX3_readNot_31 : decode cX3_readNot 31 = .ok (.bipush 15, 2) := by decide +kernel
theorem dX3_readNot_33 : decode cX3_readNot 33 = .ok (.invokevirtual 68, 3) := by decide +kernel
theorem dX3_readNot_36 : decode cX3_readNot 36 = .ok (.return_, 1) := by decide +kernel
theorem dX3_readNot_37 : decode cX3_readNot 37 = .ok (.aload_n 0, 1) := by decide +kernel
theorem dX3_readNot_38 : decode cX3_readNot 38 = .ok (.invokevirtual 78, 3) := by decide +kernel
theorem dX3_readNot_41 : decode cX3_readNot 41 = .ok (.aload_n 0, 1) := by decide +kernel
theorem dX3_readNot_42 : decode cX3_readNot 42 = .ok (.getfield 34, 3) := by decide +kernel
theorem dX3_readNot_45 : decode cX3_readNot 45 = .ok (.bipush 22, 2) := by decide +kernel
theorem dX3_readNot_47 : decode cX3_readNot 47 = .ok (.if_icmp .eq 12, 3) := by decide +kernel
theorem dX3_readNot_50 : decode cX3_readNot 50 = .ok (.aload_n 0, 1) := by decide +kernel
theorem dX3_readNot_51 : decode cX3_readNot 51 = .ok (.getfield 34, 3) := by decide +kernel
theorem dX3_readNot_54 : decode cX3_readNot 54 = .ok (.bipush 23, 2) := by decide +kernel
theorem dX3_readNot_56 : decode cX3_readNot 56 = .ok (.if_icmp .ne 21, 3) := by decide +kernel
theorem dX3_readNot_59 : decode cX3_readNot 59 = .ok (.aload_n 0, 1) := by decide +kernel
theorem dX3_readNot_60 : decode cX3_readNot 60 = .ok (.getfield 34, 3) := by decide +kernel
theorem dX3_readNot_63 : decode cX3_readNot 63 = .ok (.istore_n 1, 1) := by decide +kernel
theorem dX3_readNot_64 : decode cX3_readNot 64 = .ok (.aload_n 0, 1) := by decide +kernel
theorem dX3_readNot_65 : decode cX3_readNot 65 = .ok (.invokevirtual 52, 3) := by decide +kernel
theorem dX3_readNot_68 : decode cX3_readNot 68 = .ok (.aload_n 0, 1) := by decide +kernel
theorem dX3_readNot_69 : decode cX3_readNot 69 = .ok (.invokevirtual 78, 3) := by decide +kernel
theorem dX3_readNot_72 : decode cX3_readNot 72 = .ok (.aload_n 0, 1) := by decide +kernel
theorem dX3_readNot_73 : decode cX3_readNot 73 = .ok (.iload_n 1, 1) := by decide +kernel
theorem dX3_readNot_74 : decode cX3_readNot 74 = .ok (.invokevirtual 68, 3) := by decide +kernel
theorem dX3_readNot_77 : decode cX3_readNot 77 = .ok (.return_, 1) := by decide +kernel
theorem dX3_readOne_0 : decode cX3_readOne 0 = .ok (.aload_n 0, 1) := by decide +kernel
theorem dX3_readOne_1 : decode cX3_readOne 1 = .ok (.getfield 34, 3) := by decide +kernel
theorem dX3_readOne_4 : decode cX3_readOne 4 = .ok (.bipush 24, 2) := by decide +kernel
theorem dX3_readOne_6 : decode cX3_readOne 6 = .ok (.if_icmp .ne 18, 3) := by decide +kernel
theorem dX3_readOne_9 : decode cX3_readOne 9 = .ok (.aload_n 0, 1) := by decide +kernel
theorem dX3_readOne_10 : decode cX3_readOne 10 = .ok (.aload_n 0, 1) := by decide +kernel
theorem dX3_readOne_11 : decode cX3_readOne 11 = .ok (.getfield 37, 3) := by decide +kernel
theorem dX3_readOne_14 : decode cX3_readOne 14 = .ok (.invokevirtual 87, 3) := by decide +kernel
theorem dX3_readOne_17 : decode cX3_readOne 17 = .ok (.aload_n 0, 1) := by decide +kernel
theorem dX3_readOne_18 : decode cX3_readOne 18 = .ok (.invokevirtual 52, 3) := by decide +kernel
theorem dX3_readOne_21 : decode cX3_readOne 21 = .ok (.goto 109, 3) := by decide +kernel
theorem dX3_readOne_24 : decode cX3_readOne 24 = .ok (.aload_n 0, 1) := by decide +kernel
theorem dX3_readOne_25 : decode cX3_readOne 25 = .ok (.getfield 34, 3) := by decide +kernel
theorem dX3_readOne_28 : decode cX3_readOne 28 = .ok (.bipush 10, 2) := by decide +kernel
theorem dX3_readOne_30 : decode cX3_readOne 30 = .ok (.if_icmp .ge 18, 3) := by decide +kernel
theorem dX3_readOne_33 : decode cX3_readOne 33 = .ok (.aload_n 0, 1) := by decide +kernel
theorem dX3_readOne_34 : decode cX3_readOne 34 = .ok (.aload_n 0, 1) := by decide +kernel
theorem dX3_readOne_35 : decode cX3_readOne 35 = .ok (.getfield 34, 3) := by decide +kernel
theorem dX3_readOne_38 : decode cX3_readOne 38 = .ok (.invokevirtual 68, 3) := by decide +kernel
theorem dX3_readOne_41 : decode cX3_readOne 41 = .ok (.aload_n 0, 1) := by decide +kernel
theorem dX3_readOne_42 : decode cX3_readOne 42 = .ok (.invokevirtual 52, 3) := by decide +kernel
theorem dX3_readOne_45 : decode cX3_readOne 45 = .ok (.goto 85, 3) := by decide +kernel
theorem dX3_readOne_48 : decode cX3_readOne 48 = .ok (.aload_n 0, 1) := by decide +kernel
theorem dX3_readOne_49 : decode cX3_readOne 49 = .ok (.getfield 34, 3) := by decide +kernel
theorem dX3_readOne_52 : decode cX3_readOne 52 = .ok (.bipush 20, 2) := by decide +kernel
theorem dX3_readOne_54 : decode cX3_readOne 54 = .ok (.if_icmp .ne 33, 3) := by decide +kernel
theorem dX3_readOne_57 : decode cX3_readOne 57 = .ok (.aload_n 0, 1) := by decide +kernel
theorem dX3_readOne_58 : decode cX3_readOne 58 = .ok (.invokevirtual 74, 3) := by decide +kernel
theorem dX3_readOne_61 : decode cX3_readOne 61 = .ok (.ifCond .eq 26, 3) := by decide +kernel
theorem dX3_readOne_64 : decode cX3_readOne 64 = .ok (.aload_n 0, 1) := by decide +kernel
theorem dX3_readOne_65 : decode cX3_readOne 65 = .ok (.invokevirtual 84, 3) := by decide +kernel
theorem dX3_readOne_68 : decode cX3_readOne 68 = .ok (.aload_n 0, 1) := by decide +kernel
theorem dX3_readOne_69 : decode cX3_readOne 69 = .ok (.dup, 1) := by decide +kernel
theorem dX3_readOne_70 : decode cX3_readOne 70 = .ok (.getfield 46, 3) := by decide +kernel
theorem dX3_readOne_73 : decode cX3_readOne 73 = .ok (.iconst 1, 1) := by decide +kernel
theorem dX3_readOne_74 : decode cX3_readOne 74 = .ok (.isub, 1) := by decide +kernel
theorem dX3_readOne_75 : decode cX3_readOne 75 = .ok (.putfield 46, 3) := by decide +kernel
theorem dX3_readOne_78 : decode cX3_readOne 78 = .ok (.aload_n 0, 1) := by decide +kernel
theorem dX3_readOne_79 : decode cX3_readOne 79 = .ok (.bipush 27, 2) := by decide +kernel
theorem dX3_readOne_81 : decode cX3_readOne 81 = .ok (.invokevirtual 68, 3) := by decide +kernel
theorem dX3_readOne_84 : decode cX3_readOne 84 = .ok (.goto 46, 3) := by decide +kernel
theorem dX3_readOne_87 : decode cX3_readOne 87 = .ok (.aload_n 0, 1) := by decide +kernel
theorem dX3_readOne_88 : decode cX3_readOne 88 = .ok (.getfield 34, 3) := by decide +kernel
theorem dX3_readOne_91 : decode cX3_readOne 91 = .ok (.bipush 16, 2) := by decide +kernel
theorem dX3_readOne_93 : decode cX3_readOne 93 = .ok (.if_icmp .ne 33, 3) := by decide +kernel
theorem dX3_readOne_96 : decode cX3_readOne 96 = .ok (.aload_n 0, 1) := by decide +kernel
theorem dX3_readOne_97 : decode cX3_readOne 97 = .ok (.invokevirtual 74, 3) := by decide +kernel
theorem dX3_readOne_100 : decode cX3_readOne 100 = .ok (.ifCond .eq 26, 3) := by decide +kernel
theorem dX3_readOne_103 : decode cX3_readOne 103 = .ok (.aload_n 0, 1) := by decide +kernel
theorem dX3_readOne_104 : decode cX3_readOne 104 = .ok (.invokevirtual 62, 3) := by decide +kernel
theorem dX3_readOne_107 : decode cX3_readOne 107 = .ok (.aload_n 0, 1) := by decide +kernel
theorem dX3_readOne_108 : decode cX3_readOne 108 = .ok (.bipush 17, 2) := by decide +kernel
theorem dX3_readOne_110 : decode cX3_readOne 110 = .ok (.invokevirtual 59, 3) := by decide +kernel
theorem dX3_readOne_113 : decode cX3_readOne 113 = .ok (.aload_n 0, 1) := by decide +kernel
theorem dX3_readOne_114 : decode cX3_readOne 114 = .ok (.dup, 1) := by decide +kernel
theorem dX3_readOne_115 : decode cX3_readOne 115 = .ok (.getfield 46, 3) := by decide +kernel
theorem dX3_readOne_118 : decode cX3_readOne 118 = .ok (.iconst 1, 1) := by decide +kernel
theorem dX3_readOne_119 : decode cX3_readOne 119 = .ok (.isub, 1) := by decide +kernel
theorem dX3_readOne_120 : decode cX3_readOne 120 = .ok (.putfield 46, 3) := by decide +kernel
theorem dX3_readOne_123 : decode cX3_readOne 123 = .ok (.goto 7, 3) := by decide +kernel
theorem dX3_readOne_126 : decode cX3_readOne 126 = .ok (.aload_n 0, 1) := by decide +kernel
theorem dX3_readOne_127 : decode cX3_readOne 127 = .ok (.invokevirtual 90, 3) := by decide +kernel
theorem dX3_readOne_130 : decode cX3_readOne 130 = .ok (.return_, 1) := by decide +kernel
theorem dX3_readOr_0 : decode cX3_readOr 0 = .ok (.aload_n 0, 1) := by decide +kernel
theorem dX3_readOr_1 : decode cX3_readOr 1 = .ok (.invokevirtual 65, 3) := by decide +kernel
theorem dX3_readOr_4 : decode cX3_readOr 4 = .ok (.iconst 0, 1) := by decide +kernel
theorem dX3_readOr_5 : decode cX3_readOr 5 = .ok (.istore_n 1, 1) := by decide +kernel
theorem dX3_readOr_6 : decode cX3_readOr 6 = .ok (.iload_n 1, 1) := by decide +kernel
theorem dX3_readOr_7 : decode cX3_readOr 7 = .ok (.sipush 300, 3) := by decide +kernel
theorem dX3_readOr_10 : decode cX3_readOr 10 = .ok (.if_icmp .ge 32, 3) := by decide +kernel
theorem dX3_readOr_13 : decode cX3_readOr 13 = .ok (.aload_n 0, 1) := by decide +kernel
theorem dX3_readOr_14 : decode cX3_readOr 14 = .ok (.getfield 34, 3) := by decide +kernel
theorem dX3_readOr_17 : decode cX3_readOr 17 = .ok (.bipush 13, 2) := by decide +kernel
theorem dX3_readOr_19 : decode cX3_readOr 19 = .ok (.if_icmp .ne 23, 3) := by decide +kernel
theorem dX3_readOr_22 : decode cX3_readOr 22 = .ok (.aload_n 0, 1) := by decide +kernel
theorem dX3_readOr_23 : decode cX3_readOr 23 = .ok (.invokevirtual 52, 3) := by decide +kernel
theorem dX3_readOr_26 : decode cX3_readOr 26 = .ok (.aload_n 0, 1) := by decide +kernel
theorem dX3_readOr_27 : decode cX3_readOr 27 = .ok (.invokevirtual 65, 3) := by decide +kernel
theorem dX3_readOr_30 : decode cX3_readOr 30 = .ok (.aload_n 0, 1) := by decide +kernel
theorem dX3_readOr_31 : decode cX3_readOr 31 = .ok (.bipush 13, 2) := by decide +kernel
theorem dX3_readOr_33 : decode cX3_readOr 33 = .ok (.invokevirtual 68, 3) := by decide +kernel
theorem dX3_readOr_36 : decode cX3_readOr 36 = .ok (.iinc 1 1, 3) := by decide +kernel
theorem dX3_readOr_39 : decode cX3_readOr 39 = .ok (.goto (-33), 3) := by decide +kernel
theorem dX3_readOr_42 : decode cX3_readOr 42 = .ok (.return_, 1) := by decide +kernel
theorem dX3_readSum_0 : decode cX3_readSum 0 = .ok (.aload_n 0, 1) := by decide +kernel
theorem dX3_readSum_1 : decode cX3_readSum 1 = .ok (.invokevirtual 81, 3) := by decide +kernel
theorem dX3_readSum_4 : decode cX3_readSum 4 = .ok (.iconst 0, 1) := by decide +kernel
theorem dX3_readSum_5 : decode cX3_readSum 5 = .ok (.istore_n 1, 1) := by decide +kernel
theorem dX3_readSum_6 : decode cX3_readSum 6 = .ok (.iload_n 1, 1) := by decide +kernel
theorem dX3_readSum_7 : decode cX3_readSum 7 = .ok (.sipush 300, 3) := by decide +kernel
theorem dX3_readSum_10 : decode cX3_readSum 10 = .ok (.if_icmp .ge 45, 3) := by decide +kernel
theorem dX3_readSum_13 : decode cX3_readSum 13 = .ok (.aload_n 0, 1) := by decide +kernel
theorem dX3_readSum_14 : decode cX3_readSum 14 = .ok (.getfield 34, 3) := by decide +kernel
theorem dX3_readSum_17 : decode cX3_readSum 17 = .ok (.bipush 19, 2) := by decide +kernel
theorem dX3_readSum_19 : decode cX3_readSum 19 = .ok (.if_icmp .eq 12, 3) := by decide +kernel
theorem dX3_readSum_22 : decode cX3_readSum 22 = .ok (.aload_n 0, 1) := by decide +kernel
theorem dX3_readSum_23 : decode cX3_readSum 23 = .ok (.getfield 34, 3) := by decide +kernel
theorem dX3_readSum_26 : decode cX3_readSum 26 = .ok (.bipush 20, 2) := by decide +kernel
theorem dX3_readSum_28 : decode cX3_readSum 28 = .ok (.if_icmp .ne 27, 3) := by decide +kernel
theorem dX3_readSum_31 : decode cX3_readSum 31 = .ok (.aload_n 0, 1) := by decide +kernel
theorem dX3_readSum_32 : decode cX3_readSum 32 = .ok (.getfield 34, 3) := by decide +kernel
theorem dX3_readSum_35 : decode cX3_readSum 35 = .ok (.istore_n 2, 1) := by decide +kernel
theorem dX3_readSum_36 : decode cX3_readSum 36 = .ok (.aload_n 0, 1) := by decide +kernel
theorem dX3_readSum_37 : decode cX3_readSum 37 = .ok (.invokevirtual 52, 3) := by decide +kernel
theorem dX3_readSum_40 : decode cX3_readSum 40 = .ok (.aload_n 0, 1) := by decide +kernel
theorem dX3_readSum_41 : decode cX3_readSum 41 = .ok (.invokevirtual 81, 3) := by decide +kernel
theorem dX3_readSum_44 : decode cX3_readSum 44 = .ok (.aload_n 0, 1) := by decide +kernel
theorem dX3_readSum_45 : decode cX3_readSum 45 = .ok (.iload_n 2, 1) := by decide +kernel
theorem dX3_readSum_46 : decode cX3_readSum 46 = .ok (.invokevirtual 68, 3) := by decide +kernel
theorem dX3_readSum_49 : decode cX3_readSum 49 = .ok (.iinc 1 1, 3) := by decide +kernel
theorem dX3_readSum_52 : decode cX3_readSum 52 = .ok (.goto (-46), 3) := by decide +kernel
theorem dX3_readSum_55 : decode cX3_readSum 55 = .ok (.return_, 1) := by decide +kernel
theorem dX3_readTerm_0 : decode cX3_readTerm 0 = .ok (.aload_n 0, 1) := by decide +kernel
theorem dX3_readTerm_1 : decode cX3_readTerm 1 = .ok (.invokevirtual 84, 3) := by decide +kernel
theorem dX3_readTerm_4 : decode cX3_readTerm 4 = .ok (.iconst 0, 1) := by decide +kernel
theorem dX3_readTerm_5 : decode cX3_readTerm 5 = .ok (.istore_n 1, 1) := by decide +kernel
theorem dX3_readTerm_6 : decode cX3_readTerm 6 = .ok (.iload_n 1, 1) := by decide +kernel
theorem dX3_readTerm_7 : decode cX3_readTerm 7 = .ok (.sipush 300, 3) := by decide +kernel
theorem dX3_readTerm_10 : decode cX3_readTerm 10 = .ok (.if_icmp .ge 32, 3) := by decide +kernel
theorem dX3_readTerm_13 : decode cX3_readTerm 13 = .ok (.aload_n 0, 1) := by decide +kernel
theorem dX3_readTerm_14 : decode cX3_readTerm 14 = .ok (.getfield 34, 3) := by decide +kernel
theorem dX3_readTerm_17 : decode cX3_readTerm 17 = .ok (.bipush 21, 2) := by decide +kernel
theorem dX3_readTerm_19 : decode cX3_readTerm 19 = .ok (.if_icmp .ne 23, 3) := by decide +kernel
theorem dX3_readTerm_22 : decode cX3_readTerm 22 = .ok (.aload_n 0, 1) := by decide +kernel
theorem dX3_readTerm_23 : decode cX3_readTerm 23 = .ok (.invokevirtual 52, 3) := by decide +kernel
theorem dX3_readTerm_26 : decode cX3_readTerm 26 = .ok (.aload_n 0, 1) := by decide +kernel
theorem dX3_readTerm_27 : decode cX3_readTerm 27 = .ok (.invokevirtual 84, 3) := by decide +kernel
theorem dX3_readTerm_30 : decode cX3_readTerm 30 = .ok (.aload_n 0, 1) := by decide +kernel
theorem dX3_readTerm_31 : decode cX3_readTerm 31 = .ok (.bipush 21, 2) := by decide +kernel
theorem dX3_readTerm_33 : decode cX3_readTerm 33 = .ok (.invokevirtual 68, 3) := by decide +kernel
theorem dX3_readTerm_36 : decode cX3_readTerm 36 = .ok (.iinc 1 1, 3) := by decide +kernel
theorem dX3_readTerm_39 : decode cX3_readTerm 39 = .ok (.goto (-33), 3) := by decide +kernel
theorem dX3_readTerm_42 : decode cX3_readTerm 42 = .ok (.return_, 1) := by decide +kernel
theorem dX3_readPart_0 : decode cX3_readPart 0 = .ok (.aload_n 0, 1) := by decide +kernel
theorem dX3_readPart_1 : decode cX3_readPart 1 = .ok (.iload_n 1, 1) := by decide +kernel
theorem dX3_readPart_2 : decode cX3_readPart 2 = .ok (.invokevirtual 59, 3) := by decide +kernel
theorem dX3_readPart_5 : decode cX3_readPart 5 = .ok (.aload_n 0, 1) := by decide +kernel
theorem dX3_readPart_6 : decode cX3_readPart 6 = .ok (.invokevirtual 62, 3) := by decide +kernel
theorem dX3_readPart_9 : decode cX3_readPart 9 = .ok (.aload_n 0, 1) := by decide +kernel
theorem dX3_readPart_10 : decode cX3_readPart 10 = .ok (.bipush 18, 2) := by decide +kernel
theorem dX3_readPart_12 : decode cX3_readPart 12 = .ok (.invokevirtual 59, 3) := by decide +kernel
theorem dX3_readPart_15 : decode cX3_readPart 15 = .ok (.aload_n 0, 1) := by decide +kernel
theorem dX3_readPart_16 : decode cX3_readPart 16 = .ok (.getfield 29, 3) := by decide +kernel
theorem dX3_readPart_19 : decode cX3_readPart 19 = .ok (.aload_n 0, 1) := by decide +kernel
theorem dX3_readPart_20 : decode cX3_readPart 20 = .ok (.getfield 15, 3) := by decide +kernel
theorem dX3_readPart_23 : decode cX3_readPart 23 = .ok (.arraylength, 1) := by decide +kernel
theorem dX3_readPart_24 : decode cX3_readPart 24 = .ok (.if_icmp .ge 26, 3) := by decide +kernel
theorem dX3_readPart_27 : decode cX3_readPart 27 = .ok (.aload_n 0, 1) := by decide +kernel
theorem dX3_readPart_28 : decode cX3_readPart 28 = .ok (.getfield 15, 3) := by decide +kernel
theorem dX3_readPart_31 : decode cX3_readPart 31 = .ok (.aload_n 0, 1) := by decide +kernel
theorem dX3_readPart_32 : decode cX3_readPart 32 = .ok (.getfield 29, 3) := by decide +kernel
theorem dX3_readPart_35 : decode cX3_readPart 35 = .ok (.aload_n 0, 1) := by decide +kernel
theorem dX3_readPart_36 : decode cX3_readPart 36 = .ok (.getfield 26, 3) := by decide +kernel
theorem dX3_readPart_39 : decode cX3_readPart 39 = .ok (.iastore, 1) := by decide +kernel
theorem dX3_readPart_40 : decode cX3_readPart 40 = .ok (.aload_n 0, 1) := by decide +kernel
theorem dX3_readPart_41 : decode cX3_readPart 41 = .ok (.dup, 1) := by decide +kernel
theorem dX3_readPart_42 : decode cX3_readPart 42 = .ok (.getfield 29, 3) := by decide +kernel
theorem dX3_readPart_45 : decode cX3_readPart 45 = .ok (.iconst 1, 1) := by decide +kernel
theorem dX3_readPart_46 : decode cX3_readPart 46 = .ok (.iadd, 1) := by decide +kernel
theorem dX3_readPart_47 : decode cX3_readPart 47 = .ok (.putfield 29, 3) := by decide +kernel
theorem dX3_readPart_50 : decode cX3_readPart 50 = .ok (.return_, 1) := by decide +kernel
theorem dX3_readTape_0 : decode cX3_readTape 0 = .ok (.aload_n 0, 1) := by decide +kernel
theorem dX3_readTape_1 : decode cX3_readTape 1 = .ok (.aload_n 1, 1) := by decide +kernel
theorem dX3_readTape_2 : decode cX3_readTape 2 = .ok (.putfield 18, 3) := by decide +kernel
theorem dX3_readTape_5 : decode cX3_readTape 5 = .ok (.aload_n 0, 1) := by decide +kernel
theorem dX3_readTape_6 : decode cX3_readTape 6 = .ok (.iload_n 2, 1) := by decide +kernel
theorem dX3_readTape_7 : decode cX3_readTape 7 = .ok (.putfield 22, 3) := by decide +kernel
theorem dX3_readTape_10 : decode cX3_readTape 10 = .ok (.aload_n 0, 1) := by decide +kernel
theorem dX3_readTape_11 : decode cX3_readTape 11 = .ok (.iconst 0, 1) := by decide +kernel
theorem dX3_readTape_12 : decode cX3_readTape 12 = .ok (.putfield 26, 3) := by decide +kernel
theorem dX3_readTape_15 : decode cX3_readTape 15 = .ok (.aload_n 0, 1) := by decide +kernel
theorem dX3_readTape_16 : decode cX3_readTape 16 = .ok (.iconst 0, 1) := by decide +kernel
theorem dX3_readTape_17 : decode cX3_readTape 17 = .ok (.putfield 29, 3) := by decide +kernel
theorem dX3_readTape_20 : decode cX3_readTape 20 = .ok (.aload_n 0, 1) := by decide +kernel
theorem dX3_readTape_21 : decode cX3_readTape 21 = .ok (.iconst 0, 1) := by decide +kernel
theorem dX3_readTape_22 : decode cX3_readTape 22 = .ok (.putfield 43, 3) := by decide +kernel
theorem dX3_readTape_25 : decode cX3_readTape 25 = .ok (.aload_n 0, 1) := by decide +kernel
theorem dX3_readTape_26 : decode cX3_readTape 26 = .ok (.iconst 0, 1) := by decide +kernel
theorem dX3_readTape_27 : decode cX3_readTape 27 = .ok (.putfield 46, 3) := by decide +kernel
theorem dX3_readTape_30 : decode cX3_readTape 30 = .ok (.aload_n 0, 1) := by decide +kernel
theorem dX3_readTape_31 : decode cX3_readTape 31 = .ok (.iconst (-1), 1) := by decide +kernel
theorem dX3_readTape_32 : decode cX3_readTape 32 = .ok (.putfield 49, 3) := by decide +kernel
theorem dX3_readTape_35 : decode cX3_readTape 35 = .ok (.aload_n 0, 1) := by decide +kernel
theorem dX3_readTape_36 : decode cX3_readTape 36 = .ok (.invokevirtual 52, 3) := by decide +kernel
theorem dX3_readTape_39 : decode cX3_readTape 39 = .ok (.iconst 0, 1) := by decide +kernel
theorem dX3_readTape_40 : decode cX3_readTape 40 = .ok (.istore_n 3, 1) := by decide +kernel
theorem dX3_readTape_41 : decode cX3_readTape 41 = .ok (.iload_n 3, 1) := by decide +kernel
theorem dX3_readTape_42 : decode cX3_readTape 42 = .ok (.bipush 8, 2) := by decide +kernel
theorem dX3_readTape_44 : decode cX3_readTape 44 = .ok (.if_icmp .ge 24, 3) := by decide +kernel
theorem dX3_readTape_47 : decode cX3_readTape 47 = .ok (.aload_n 0, 1) := by decide +kernel
theorem dX3_readTape_48 : decode cX3_readTape 48 = .ok (.getfield 34, 3) := by decide +kernel
theorem dX3_readTape_51 : decode cX3_readTape 51 = .ok (.bipush 10, 2) := by decide +kernel
theorem dX3_readTape_53 : decode cX3_readTape 53 = .ok (.if_icmp .ne 15, 3) := by decide +kernel
theorem dX3_readTape_56 : decode cX3_readTape 56 = .ok (.aload_n 0, 1) := by decide +kernel
theorem dX3_readTape_57 : decode cX3_readTape 57 = .ok (.bipush 10, 2) := by decide +kernel
theorem dX3_readTape_59 : decode cX3_readTape 59 = .ok (.invokevirtual 55, 3) := by decide +kernel
theorem dX3_readTape_62 : decode cX3_readTape 62 = .ok (.iinc 3 1, 3) := by decide +kernel
theorem dX3_readTape_65 : decode cX3_readTape 65 = .ok (.goto (-24), 3) := by decide +kernel
theorem dX3_readTape_68 : decode cX3_readTape 68 = .ok (.aload_n 0, 1) := by decide +kernel
theorem dX3_readTape_69 : decode cX3_readTape 69 = .ok (.bipush 11, 2) := by decide +kernel
theorem dX3_readTape_71 : decode cX3_readTape 71 = .ok (.invokevirtual 55, 3) := by decide +kernel
theorem dX3_readTape_74 : decode cX3_readTape 74 = .ok (.aload_n 0, 1) := by decide +kernel
theorem dX3_readTape_75 : decode cX3_readTape 75 = .ok (.bipush 12, 2) := by decide +kernel
theorem dX3_readTape_77 : decode cX3_readTape 77 = .ok (.invokevirtual 55, 3) := by decide +kernel
theorem dX3_readTape_80 : decode cX3_readTape 80 = .ok (.aload_n 0, 1) := by decide +kernel
theorem dX3_readTape_81 : decode cX3_readTape 81 = .ok (.bipush 25, 2) := by decide +kernel
theorem dX3_readTape_83 : decode cX3_readTape 83 = .ok (.invokevirtual 59, 3) := by decide +kernel
theorem dX3_readTape_86 : decode cX3_readTape 86 = .ok (.aload_n 0, 1) := by decide +kernel
theorem dX3_readTape_87 : decode cX3_readTape 87 = .ok (.getfield 49, 3) := by decide +kernel
theorem dX3_readTape_90 : decode cX3_readTape 90 = .ok (.ireturn, 1) := by decide +kernel
theorem dX11_text_0 : decode cX11_text 0 = .ok (.aload_n 0, 1) := by decide +kernel
theorem dX11_text_1 : decode cX11_text 1 = .ok (.getfield 88, 3) := by decide +kernel
theorem dX11_text_4 : decode cX11_text 4 = .ok (.bipush 10, 2) := by decide +kernel
theorem dX11_text_6 : decode cX11_text 6 = .ok (.if_icmp .lt 6, 3) := by decide +kernel
theorem dX11_text_9 : decode cX11_text 9 = .ok (.bipush (-4), 2) := by decide +kernel
theorem dX11_text_11 : decode cX11_text 11 = .ok (.ireturn, 1) := by decide +kernel
theorem dX11_text_12 : decode cX11_text 12 = .ok (.aload_n 0, 1) := by decide +kernel
theorem dX11_text_13 : decode cX11_text 13 = .ok (.getfield 46, 3) := by decide +kernel
theorem dX11_text_16 : decode cX11_text 16 = .ok (.aload_n 0, 1) := by decide +kernel
theorem dX11_text_17 : decode cX11_text 17 = .ok (.getfield 39, 3) := by decide +kernel
theorem dX11_text_20 : decode cX11_text 20 = .ok (.aload_n 0, 1) := by decide +kernel
theorem dX11_text_21 : decode cX11_text 21 = .ok (.getfield 91, 3) := by decide +kernel
theorem dX11_text_24 : decode cX11_text 24 = .ok (.invokevirtual 113, 3) := by decide +kernel
theorem dX11_text_27 : decode cX11_text 27 = .ok (.istore_n 1, 1) := by decide +kernel
theorem dX11_text_28 : decode cX11_text 28 = .ok (.iload_n 1, 1) := by decide +kernel
theorem dX11_text_29 : decode cX11_text 29 = .ok (.iconst (-1), 1) := by decide +kernel
theorem dX11_text_30 : decode cX11_text 30 = .ok (.if_icmp .ne 7, 3) := by decide +kernel
theorem dX11_text_33 : decode cX11_text 33 = .ok (.aload_n 0, 1) := by decide +kernel
theorem dX11_text_34 : decode cX11_text 34 = .ok (.invokevirtual 117, 3) := by decide +kernel
theorem dX11_text_37 : decode cX11_text 37 = .ok (.aload_n 0, 1) := by decide +kernel
theorem dX11_text_38 : decode cX11_text 38 = .ok (.iconst 0, 1) := by decide +kernel
theorem dX11_text_39 : decode cX11_text 39 = .ok (.putfield 91, 3) := by decide +kernel
theorem dX11_text_42 : decode cX11_text 42 = .ok (.iload_n 1, 1) := by decide +kernel
theorem dX11_text_43 : decode cX11_text 43 = .ok (.iconst (-1), 1) := by decide +kernel
theorem dX11_text_44 : decode cX11_text 44 = .ok (.if_icmp .ne 12, 3) := by decide +kernel
theorem dX11_text_47 : decode cX11_text 47 = .ok (.aload_n 0, 1) := by decide +kernel
theorem dX11_text_48 : decode cX11_text 48 = .ok (.getfield 88, 3) := by decide +kernel
theorem dX11_text_51 : decode cX11_text 51 = .ok (.iconst 1, 1) := by decide +kernel
theorem dX11_text_52 : decode cX11_text 52 = .ok (.isub, 1) := by decide +kernel
theorem dX11_text_53 : decode cX11_text 53 = .ok (.goto 7, 3) := by decide +kernel
theorem dX11_text_56 : decode cX11_text 56 = .ok (.bipush (-10), 2) := by decide +kernel
theorem dX11_text_58 : decode cX11_text 58 = .ok (.iload_n 1, 1) := by decide +kernel
theorem dX11_text_59 : decode cX11_text 59 = .ok (.isub, 1) := by decide +kernel
theorem dX11_text_60 : decode cX11_text 60 = .ok (.ireturn, 1) := by decide +kernel
theorem w_X11_due (l : Launch) (p1 : Int32) (p2 : Int32) (p3 : Int32) (p4 : Int32) (M : o_M) (q : Int64 → o_M → Prop) (h : K_X11_findPlayer l [rV (some 16), iV p1] M (fun r2 M1 => ((r2 = none → q (-4611686018427387904) M1) ∧ (∀ b3, r2 = some b3 → o_ty b3 = .inl 2 ∧ K_X11_isSpan l [iV p2, iV p3] M1 (fun r7 M6 => ((r7 = 0 → q (-4611686018427387904) M6) ∧ (¬ r7 = 0 → K_X11_isWithin l [iV p4, iV 0, iV 1] M6 (fun r10 M9 => ((¬ r10 = 0 → K_X11_sumDue l [rV (some 16), iV p1, iV p2, iV p3, iV p4] M9 (fun r13 M12 => q r13 M12)) ∧ (r10 = 0 → q (-4611686018427387904) M9)))))))))) : K_X11_due l [rV (some 16), iV p1, iV p2, iV p3, iV p4] M q := by
  refine o_ctr (ini := false) (by decide +kernel) rfl (fun z => by cases z) (Nat.le_of_ble_eq_true rfl) ?_
  show E_X11_due l q 0 [(0, rV (some 16)), (1, iV p1), (2, iV p2), (3, iV p3), (4, iV p4)] [] M 0 0
  refine e_aload_n dX11_due_0 rfl rfl ?_
  refine e_iload_n dX11_due_1 rfl rfl ?_
  refine e_callV (As := [iV p1]) (st := []) mt_X11_findPlayer in_X11_findPlayer lkX11_153 rfl rfl ⟨by decide, by decide⟩ (Nat.le_of_ble_eq_true rfl) ⟨by decide, by decide⟩ rfl rfl dX11_due_2 (Ctr.mono h (fun v M1 h => ?_))
  obtain ⟨r2, rfl, h⟩ := h
  show E_X11_due l q 5 [(0, rV (some 16)), (1, iV p1), (2, iV p2), (3, iV p3), (4, iV p4)] [rV r2] M1 0 0
  refine e_ifnull (tgt := 26) dX11_due_5 (by decide) (fun c4 => ?_) (fun b3 c4 => ?_)
  · replace h := h.1 c4
    refine e_eq (lv' := [(0, rV (some 16)), (1, iV p1), (2, iV p2), (3, iV p3), (4, iV p4)]) (st' := []) rfl (by first | rfl | rw [c4]) rfl ?_
    refine e_ldc2 kcX11_245 dX11_due_26 ?_
    exact e_lret rfl trivial dX11_due_29 ⟨_, rfl, h⟩
  · obtain ⟨t5, h⟩ := h.2 b3 c4
    refine e_eq (lv' := [(0, rV (some 16)), (1, iV p1), (2, iV p2), (3, iV p3), (4, iV p4)]) (st' := []) rfl (by first | rfl | rw [c4]) rfl ?_
    refine e_iload_n dX11_due_8 rfl rfl ?_
    refine e_iload_n dX11_due_9 rfl rfl ?_
    refine e_callS (As := [iV p2, iV p3]) (st := []) mt_X11_isSpan is_X11_isSpan lkX11_135 ⟨by decide, by decide⟩ (Nat.le_of_ble_eq_true rfl) ⟨by decide, by decide⟩ rfl rfl dX11_due_10 (Ctr.mono h (fun v M6 h => ?_))
    obtain ⟨r7, rfl, h⟩ := h
    show E_X11_due l q 13 [(0, rV (some 16)), (1, iV p1), (2, iV p2), (3, iV p3), (4, iV p4)] [iV r7] M6 0 0
    refine e_if_eq (tgt := 26) dX11_due_13 (by decide) (fun c8 => ?_) (fun c8 => ?_)
    · replace h := h.1 c8
      refine e_ldc2 kcX11_245 dX11_due_26 ?_
      exact e_lret rfl trivial dX11_due_29 ⟨_, rfl, h⟩
    · replace h := h.2 c8
      refine e_iload rfl dX11_due_16 ?_
      refine e_iconst (v := 0) dX11_due_18 (by decide) ?_
      refine e_iconst (v := 1) dX11_due_19 (by decide) ?_
      refine e_callS (As := [iV p4, iV 0, iV 1]) (st := []) mt_X11_isWithin is_X11_isWithin lkX11_124 ⟨by decide, by decide⟩ (Nat.le_of_ble_eq_true rfl) ⟨by decide, by decide⟩ rfl rfl dX11_due_20 (Ctr.mono h (fun v M9 h => ?_))
      obtain ⟨r10, rfl, h⟩ := h
      show E_X11_due l q 23 [(0, rV (some 16)), (1, iV p1), (2, iV p2), (3, iV p3), (4, iV p4)] [iV r10] M9 0 0
      refine e_if_ne (tgt := 30) dX11_due_23 (by decide) (fun c11 => ?_) (fun c11 => ?_)
      · replace h := h.1 c11
        refine e_aload_n dX11_due_30 rfl rfl ?_
        refine e_iload_n dX11_due_31 rfl rfl ?_
        refine e_iload_n dX11_due_32 rfl rfl ?_
        refine e_iload_n dX11_due_33 rfl rfl ?_
        refine e_iload rfl dX11_due_34 ?_
        refine e_callV (As := [iV p1, iV p2, iV p3, iV p4]) (st := []) mt_X11_sumDue in_X11_sumDue lkX11_278 rfl rfl ⟨by decide, by decide⟩ (Nat.le_of_ble_eq_true rfl) ⟨by decide, by decide⟩ rfl rfl dX11_due_36 (Ctr.mono h (fun v M12 h => ?_))
        obtain ⟨r13, rfl, h⟩ := h
        show E_X11_due l q 39 [(0, rV (some 16)), (1, iV p1), (2, iV p2), (3, iV p3), (4, iV p4)] [jV r13] M12 0 0
        exact e_lret rfl trivial dX11_due_39 ⟨_, rfl, h⟩
      · replace h := h.2 c11
        refine e_ldc2 kcX11_245 dX11_due_26 ?_
        exact e_lret rfl trivial dX11_due_29 ⟨_, rfl, h⟩
abbrev H_X11_findFitting_5 (l : Launch) (q : Int32 → o_M → Prop) (a1 : Nat) (v2 : Int32) (v3 : Int32) (v4 : Int32) (M : o_M) : Prop := E_X11_findFitting l q 5 [(0, rV (some 16)), (1, rV (some a1)), (2, iV v2), (3, iV v3), (4, iV v4)] [] M 0 0
theorem w_X11_findFitting (l : Launch) (a1 : Nat) (p2 : Int32) (t1 : o_ty a1 = .inl 6) (M : o_M) (q : Int32 → o_M → Prop) (h : H_X11_findFitting_5 l q a1 p2 0 0 M) : K_X11_findFitting l [rV (some 16), rV (some a1), iV p2] M q := by
  refine o_ctr (ini := false) (by decide +kernel) rfl (fun z => by cases z) (Nat.le_of_ble_eq_true rfl) ?_
  show E_X11_findFitting l q 0 [(0, rV (some 16)), (1, rV (some a1)), (2, iV p2)] [] M 0 0
  refine e_iconst (v := 0) dX11_findFitting_0 (by decide) ?_
  refine e_istore_n (lv' := [(3, iV 0), (0, rV (some 16)), (1, rV (some a1)), (2, iV p2)]) dX11_findFitting_1 rfl (by decide) rfl ?_
  refine e_iconst (v := 0) dX11_findFitting_2 (by decide) ?_
  refine e_istore (lv' := [(4, iV 0), (3, iV 0), (0, rV (some 16)), (1, rV (some a1)), (2, iV p2)]) (by decide) rfl dX11_findFitting_3 ?_
  exact e_lv (List.forall_mem_cons.mpr ⟨rfl, List.forall_mem_cons.mpr ⟨rfl, List.forall_mem_cons.mpr ⟨rfl, List.forall_mem_cons.mpr ⟨rfl, List.forall_mem_cons.mpr ⟨rfl, fun _ h => absurd h List.not_mem_nil⟩⟩⟩⟩⟩) h
theorem w_X11_findFitting_5 (l : Launch) (q : Int32 → o_M → Prop) (a1 : Nat) (t1 : o_ty a1 = .inl 6) (v2 : Int32) (v3 : Int32) (v4 : Int32) (M : o_M) (h : (((mI M 16 12) ≤ v4 → q v3 M) ∧ (¬ (mI M 16 12) ≤ v4 → K_X11_findHindrance l [rV (some 16), rV (some a1), iV v4, iV v2] M (fun r3 M2 => ((¬ r3 = 0 → H_X11_findFitting_5 l q a1 v2 v3 (v4 + 1) M2) ∧ (r3 = 0 → H_X11_findFitting_5 l q a1 v2 (v3 ||| ((1 : Int32) <<< (v4 &&& 31))) (v4 + 1) M2)))))) : H_X11_findFitting_5 l q a1 v2 v3 v4 M := by
  refine e_iload rfl dX11_findFitting_5 ?_
  refine e_aload_n dX11_findFitting_7 rfl rfl ?_
  refine e_gI flX11_82 rfl rfl dX11_findFitting_8 ?_
  refine e_ic_ge (tgt := 38) dX11_findFitting_11 (by decide) (fun c1 => ?_) (fun c1 => ?_)
  · replace h := h.1 c1
    refine e_iload_n dX11_findFitting_38 rfl rfl ?_
    exact e_iret rfl trivial dX11_findFitting_39 ⟨_, rfl, h⟩
  · replace h := h.2 c1
    refine e_aload_n dX11_findFitting_14 rfl rfl ?_
    refine e_aload_n dX11_findFitting_15 rfl rfl ?_
    refine e_iload rfl dX11_findFitting_16 ?_
    refine e_iload_n dX11_findFitting_18 rfl rfl ?_
    refine e_callV (As := [rV (some a1), iV v4, iV v2]) (st := []) mt_X11_findHindrance in_X11_findHindrance lkX11_241 rfl rfl ⟨by decide, by decide⟩ (Nat.le_of_ble_eq_true rfl) ⟨by decide, by decide⟩ rfl rfl dX11_findFitting_19 (Ctr.mono h (fun v M2 h => ?_))
    obtain ⟨r3, rfl, h⟩ := h
    show E_X11_findFitting l q 22 [(0, rV (some 16)), (1, rV (some a1)), (2, iV v2), (3, iV v3), (4, iV v4)] [iV r3] M2 0 0
    refine e_if_ne (tgt := 32) dX11_findFitting_22 (by decide) (fun c4 => ?_) (fun c4 => ?_)
    · replace h := h.1 c4
      refine e_iinc (v := 1) (lv' := [(4, iV (v4 + 1)), (0, rV (some 16)), (1, rV (some a1)), (2, iV v2), (3, iV v3)]) rfl (by decide) (by decide) rfl dX11_findFitting_32 ?_
      refine e_goto (tgt := 5) dX11_findFitting_35 (by decide) ?_
      exact e_lv (List.forall_mem_cons.mpr ⟨rfl, List.forall_mem_cons.mpr ⟨rfl, List.forall_mem_cons.mpr ⟨rfl, List.forall_mem_cons.mpr ⟨rfl, List.forall_mem_cons.mpr ⟨rfl, fun _ h => absurd h List.not_mem_nil⟩⟩⟩⟩⟩) h
    · replace h := h.2 c4
      refine e_iload_n dX11_findFitting_25 rfl rfl ?_
      refine e_iconst (v := 1) dX11_findFitting_26 (by decide) ?_
      refine e_iload rfl dX11_findFitting_27 ?_
      refine e_ishl dX11_findFitting_29 ?_
      refine e_ior dX11_findFitting_30 ?_
      refine e_istore_n (lv' := [(3, iV (v3 ||| ((1 : Int32) <<< (v4 &&& 31)))), (0, rV (some 16)), (1, rV (some a1)), (2, iV v2), (4, iV v4)]) dX11_findFitting_31 rfl (by decide) rfl ?_
      refine e_iinc (v := 1) (lv' := [(4, iV (v4 + 1)), (3, iV (v3 ||| ((1 : Int32) <<< (v4 &&& 31)))), (0, rV (some 16)), (1, rV (some a1)), (2, iV v2)]) rfl (by decide) (by decide) rfl dX11_findFitting_32 ?_
      refine e_goto (tgt := 5) dX11_findFitting_35 (by decide) ?_
      exact e_lv (List.forall_mem_cons.mpr ⟨rfl, List.forall_mem_cons.mpr ⟨rfl, List.forall_mem_cons.mpr ⟨rfl, List.forall_mem_cons.mpr ⟨rfl, List.forall_mem_cons.mpr ⟨rfl, fun _ h => absurd h List.not_mem_nil⟩⟩⟩⟩⟩) h
theorem w_X11_may (l : Launch) (p1 : Int32) (p2 : Int32) (p3 : Int32) (M : o_M) (q : Int32 → o_M → Prop) (h : K_X11_findService l [rV (some 16), iV p1] M (fun r2 M1 => ((r2 = none → q (-2) M1) ∧ (∀ b3, r2 = some b3 → o_ty b3 = .inl 6 ∧ K_X11_findPlayer l [rV (some 16), iV p2] M1 (fun r7 M6 => ((r7 = none → q (-2) M6) ∧ (∀ b8, r7 = some b8 → o_ty b8 = .inl 2 ∧ K_X11_isInstrument l [iV p3] M6 (fun r12 M11 => ((¬ r12 = 0 → K_X11_findHindrance l [rV (some 16), rV (some b3), iV p2, iV p3] M11 (fun r15 M14 => q r15 M14)) ∧ (r12 = 0 → q (-2) M11)))))))))) : K_X11_may l [rV (some 16), iV p1, iV p2, iV p3] M q := by
  refine o_ctr (ini := false) (by decide +kernel) rfl (fun z => by cases z) (Nat.le_of_ble_eq_true rfl) ?_
  show E_X11_may l q 0 [(0, rV (some 16)), (1, iV p1), (2, iV p2), (3, iV p3)] [] M 0 0
  refine e_aload_n dX11_may_0 rfl rfl ?_
  refine e_iload_n dX11_may_1 rfl rfl ?_
  refine e_callV (As := [iV p1]) (st := []) mt_X11_findService in_X11_findService lkX11_173 rfl rfl ⟨by decide, by decide⟩ (Nat.le_of_ble_eq_true rfl) ⟨by decide, by decide⟩ rfl rfl dX11_may_2 (Ctr.mono h (fun v M1 h => ?_))
  obtain ⟨r2, rfl, h⟩ := h
  show E_X11_may l q 5 [(0, rV (some 16)), (1, iV p1), (2, iV p2), (3, iV p3)] [rV r2] M1 0 0
  refine e_astore (lv' := [(4, rV r2), (0, rV (some 16)), (1, iV p1), (2, iV p2), (3, iV p3)]) (by decide) rfl dX11_may_5 ?_
  refine e_aload rfl dX11_may_7 ?_
  refine e_ifnull (tgt := 27) dX11_may_9 (by decide) (fun c4 => ?_) (fun b3 c4 => ?_)
  · replace h := h.1 c4
    refine e_eq (lv' := [(4, rV none), (0, rV (some 16)), (1, iV p1), (2, iV p2), (3, iV p3)]) (st' := []) (by rw [c4]) (by first | rfl | rw [c4]) rfl ?_
    refine e_bipush (v := (-2)) dX11_may_27 (by decide) ?_
    exact e_iret rfl trivial dX11_may_29 ⟨_, rfl, h⟩
  · obtain ⟨t5, h⟩ := h.2 b3 c4
    refine e_eq (lv' := [(4, rV (some b3)), (0, rV (some 16)), (1, iV p1), (2, iV p2), (3, iV p3)]) (st' := []) (by rw [c4]) (by first | rfl | rw [c4]) rfl ?_
    refine e_aload_n dX11_may_12 rfl rfl ?_
    refine e_iload_n dX11_may_13 rfl rfl ?_
    refine e_callV (As := [iV p2]) (st := []) mt_X11_findPlayer in_X11_findPlayer lkX11_153 rfl rfl ⟨by decide, by decide⟩ (Nat.le_of_ble_eq_true rfl) ⟨by decide, by decide⟩ rfl rfl dX11_may_14 (Ctr.mono h (fun v M6 h => ?_))
    obtain ⟨r7, rfl, h⟩ := h
    show E_X11_may l q 17 [(4, rV (some b3)), (0, rV (some 16)), (1, iV p1), (2, iV p2), (3, iV p3)] [rV r7] M6 0 0
    refine e_ifnull (tgt := 27) dX11_may_17 (by decide) (fun c9 => ?_) (fun b8 c9 => ?_)
    · replace h := h.1 c9
      refine e_eq (lv' := [(4, rV (some b3)), (0, rV (some 16)), (1, iV p1), (2, iV p2), (3, iV p3)]) (st' := []) rfl (by first | rfl | rw [c9]) rfl ?_
      refine e_bipush (v := (-2)) dX11_may_27 (by decide) ?_
      exact e_iret rfl trivial dX11_may_29 ⟨_, rfl, h⟩
    · obtain ⟨t10, h⟩ := h.2 b8 c9
      refine e_eq (lv' := [(4, rV (some b3)), (0, rV (some 16)), (1, iV p1), (2, iV p2), (3, iV p3)]) (st' := []) rfl (by first | rfl | rw [c9]) rfl ?_
      refine e_iload_n dX11_may_20 rfl rfl ?_
      refine e_callS (As := [iV p3]) (st := []) mt_X11_isInstrument is_X11_isInstrument lkX11_148 ⟨by decide, by decide⟩ (Nat.le_of_ble_eq_true rfl) ⟨by decide, by decide⟩ rfl rfl dX11_may_21 (Ctr.mono h (fun v M11 h => ?_))
      obtain ⟨r12, rfl, h⟩ := h
      show E_X11_may l q 24 [(4, rV (some b3)), (0, rV (some 16)), (1, iV p1), (2, iV p2), (3, iV p3)] [iV r12] M11 0 0
      refine e_if_ne (tgt := 30) dX11_may_24 (by decide) (fun c13 => ?_) (fun c13 => ?_)
      · replace h := h.1 c13
        refine e_aload_n dX11_may_30 rfl rfl ?_
        refine e_aload rfl dX11_may_31 ?_
        refine e_iload_n dX11_may_33 rfl rfl ?_
        refine e_iload_n dX11_may_34 rfl rfl ?_
        refine e_callV (As := [rV (some b3), iV p2, iV p3]) (st := []) mt_X11_findHindrance in_X11_findHindrance lkX11_241 rfl rfl ⟨by decide, by decide⟩ (Nat.le_of_ble_eq_true rfl) ⟨by decide, by decide⟩ rfl rfl dX11_may_35 (Ctr.mono h (fun v M14 h => ?_))
        obtain ⟨r15, rfl, h⟩ := h
        show E_X11_may l q 38 [(4, rV (some b3)), (0, rV (some 16)), (1, iV p1), (2, iV p2), (3, iV p3)] [iV r15] M14 0 0
        exact e_iret rfl trivial dX11_may_38 ⟨_, rfl, h⟩
      · replace h := h.2 c13
        refine e_bipush (v := (-2)) dX11_may_27 (by decide) ?_
        exact e_iret rfl trivial dX11_may_29 ⟨_, rfl, h⟩
abbrev H_X11_putPays_2 (l : Launch) (q : o_M → Prop) (a1 : Nat) (v2 : Int32) (M : o_M) : Prop := E_X11_putPays l q 2 [(0, rV (some 16)), (1, rV (some a1)), (2, iV v2)] [] M 0 0
theorem w_X11_putPays (l : Launch) (a1 : Nat) (t1 : o_ty a1 = .inl 9) (M : o_M) (q : o_M → Prop) (h : H_X11_putPays_2 l q a1 0 M) : K_X11_putPays l [rV (some 16), rV (some a1)] M q := by
  refine o_ctr (ini := false) (by decide +kernel) rfl (fun z => by cases z) (Nat.le_of_ble_eq_true rfl) ?_
  show E_X11_putPays l q 0 [(0, rV (some 16)), (1, rV (some a1))] [] M 0 0
  refine e_iconst (v := 0) dX11_putPays_0 (by decide) ?_
  refine e_istore_n (lv' := [(2, iV 0), (0, rV (some 16)), (1, rV (some a1))]) dX11_putPays_1 rfl (by decide) rfl ?_
  exact e_lv (List.forall_mem_cons.mpr ⟨rfl, List.forall_mem_cons.mpr ⟨rfl, List.forall_mem_cons.mpr ⟨rfl, fun _ h => absurd h List.not_mem_nil⟩⟩⟩) h
theorem w_X11_putPays_2 (l : Launch) (q : o_M → Prop) (a1 : Nat) (t1 : o_ty a1 = .inl 9) (v2 : Int32) (M : o_M) (h : (((mI M 16 12) ≤ v2 → q (sI M a1 4 (mI M 16 12))) ∧ (¬ (mI M 16 12) ≤ v2 → (mR M a1 0 = some (a1 + 1) ∧ K_X11_sumDue l [rV (some 16), iV v2, iV 0, iV 400, iV 1] M (fun r4 M3 => (vp_in v2 (mN M3 (a1 + 1)) ∧ H_X11_putPays_2 l q a1 (v2 + 1) (sJ M3 (a1 + 1) v2.toNatClampNeg r4))))))) : H_X11_putPays_2 l q a1 v2 M := by
  refine e_iload_n dX11_putPays_2 rfl rfl ?_
  refine e_aload_n dX11_putPays_3 rfl rfl ?_
  refine e_gI flX11_82 rfl rfl dX11_putPays_4 ?_
  refine e_ic_ge (tgt := 32) dX11_putPays_7 (by decide) (fun c1 => ?_) (fun c1 => ?_)
  · replace h := h.1 c1
    refine e_aload_n dX11_putPays_32 rfl rfl ?_
    refine e_aload_n dX11_putPays_33 rfl rfl ?_
    refine e_gI flX11_82 rfl rfl dX11_putPays_34 ?_
    refine e_pI flX11_449 t1 (Or.inl rfl) rfl rfl rfl dX11_putPays_37 ?_
    exact e_ret rfl dX11_putPays_40 ⟨rfl, h⟩
  · replace h := h.2 c1
    refine e_aload_n dX11_putPays_10 rfl rfl ?_
    obtain ⟨o2, h⟩ := h
    refine e_gA flX11_452 t1 rfl o2 dX11_putPays_11 ?_
    refine e_iload_n dX11_putPays_14 rfl rfl ?_
    refine e_aload_n dX11_putPays_15 rfl rfl ?_
    refine e_iload_n dX11_putPays_16 rfl rfl ?_
    refine e_iconst (v := 0) dX11_putPays_17 (by decide) ?_
    refine e_sipush (v := 400) dX11_putPays_18 (by decide) ?_
    refine e_iconst (v := 1) dX11_putPays_21 (by decide) ?_
    refine e_callV (As := [iV v2, iV 0, iV 400, iV 1]) (st := [iV v2, rV (some (a1 + 1))]) mt_X11_sumDue in_X11_sumDue lkX11_278 rfl rfl ⟨by decide, by decide⟩ (Nat.le_of_ble_eq_true rfl) ⟨by decide, by decide⟩ rfl rfl dX11_putPays_22 (Ctr.mono h (fun v M3 h => ?_))
    obtain ⟨r4, rfl, h⟩ := h
    show E_X11_putPays l q 25 [(0, rV (some 16)), (1, rV (some a1)), (2, iV v2)] [jV r4, iV v2, rV (some (a1 + 1))] M3 0 0
    obtain ⟨o5, h⟩ := h
    refine e_last ((o_sub9 t1).2) o5 dX11_putPays_25 ?_
    refine e_iinc (v := 1) (lv' := [(2, iV (v2 + 1)), (0, rV (some 16)), (1, rV (some a1))]) rfl (by decide) (by decide) rfl dX11_putPays_26 ?_
    refine e_goto (tgt := 2) dX11_putPays_29 (by decide) ?_
    exact e_lv (List.forall_mem_cons.mpr ⟨rfl, List.forall_mem_cons.mpr ⟨rfl, List.forall_mem_cons.mpr ⟨rfl, fun _ h => absurd h List.not_mem_nil⟩⟩⟩) h
abbrev H_X11_findSeating_15 (l : Launch) (q : o_M → Prop) (a1 : Nat) (v2 : Int32) (v3 : Int32) (M : o_M) : Prop := E_X11_findSeating l q 15 [(0, rV (some 16)), (1, rV (some a1)), (2, iV v2), (3, iV v3)] [] M 0 0
abbrev H_X11_findSeating_45 (l : Launch) (q : o_M → Prop) (a1 : Nat) (v2 : Int32) (v3 : Int32) (v4 : Int32) (v5 : Int32) (M : o_M) : Prop := E_X11_findSeating l q 45 [(0, rV (some 16)), (1, rV (some a1)), (2, iV v2), (3, iV v3), (4, iV v4), (5, iV v5)] [] M 0 0
theorem w_X11_findSeating (l : Launch) (a1 : Nat) (t1 : o_ty a1 = .inl 6) (M : o_M) (q : o_M → Prop) (h : (mR M 16 8 = some 29 ∧ K_X5_begin l [rV (some 29), iV (mI M a1 8)] M (fun M2 => H_X11_findSeating_15 l q a1 0 0 M2))) : K_X11_findSeating l [rV (some 16), rV (some a1)] M q := by
  refine o_ctr (ini := false) (by decide +kernel) rfl (fun z => by cases z) (Nat.le_of_ble_eq_true rfl) ?_
  show E_X11_findSeating l q 0 [(0, rV (some 16)), (1, rV (some a1))] [] M 0 0
  refine e_aload_n dX11_findSeating_0 rfl rfl ?_
  obtain ⟨o1, h⟩ := h
  refine e_gA flX11_60 rfl rfl o1 dX11_findSeating_1 ?_
  refine e_aload_n dX11_findSeating_4 rfl rfl ?_
  refine e_gI flX11_229 t1 rfl dX11_findSeating_5 ?_
  refine e_callV (As := [iV (mI M a1 8)]) (st := []) mt_X5_begin in_X5_begin lkX11_422 rfl rfl ⟨by decide, by decide⟩ (Nat.le_of_ble_eq_true rfl) ⟨by decide, by decide⟩ rfl rfl dX11_findSeating_8 (Ctr.mono h (fun v M2 h => ?_))
  obtain ⟨rfl, h⟩ := h
  show E_X11_findSeating l q 11 [(0, rV (some 16)), (1, rV (some a1))] [] M2 0 0
  refine e_iconst (v := 0) dX11_findSeating_11 (by decide) ?_
  refine e_istore_n (lv' := [(2, iV 0), (0, rV (some 16)), (1, rV (some a1))]) dX11_findSeating_12 rfl (by decide) rfl ?_
  refine e_iconst (v := 0) dX11_findSeating_13 (by decide) ?_
  refine e_istore_n (lv' := [(3, iV 0), (2, iV 0), (0, rV (some 16)), (1, rV (some a1))]) dX11_findSeating_14 rfl (by decide) rfl ?_
  exact e_lv (List.forall_mem_cons.mpr ⟨rfl, List.forall_mem_cons.mpr ⟨rfl, List.forall_mem_cons.mpr ⟨rfl, List.forall_mem_cons.mpr ⟨rfl, fun _ h => absurd h List.not_mem_nil⟩⟩⟩⟩) h
theorem w_X11_findSeating_15 (l : Launch) (q : o_M → Prop) (a1 : Nat) (t1 : o_ty a1 = .inl 6) (v2 : Int32) (v3 : Int32) (M : o_M) (h : ((6 ≤ v3 → (mR M 16 8 = some 29 ∧ K_X5_seatAll l [rV (some 29)] M (fun M5 => q M5))) ∧ (¬ 6 ≤ v3 → (mR M a1 5 = some (a1 + 2) ∧ (vp_in v3 (mN M (a1 + 2)) ∧ ((¬ (mI M (a1 + 2) v3.toNatClampNeg) = 0 → K_X11_findFitting l [rV (some 16), rV (some a1), iV v3] M (fun r10 M9 => H_X11_findSeating_45 l q a1 v2 v3 r10 0 M9)) ∧ ((mI M (a1 + 2) v3.toNatClampNeg) = 0 → H_X11_findSeating_45 l q a1 v2 v3 0 0 M))))))) : H_X11_findSeating_15 l q a1 v2 v3 M := by
  refine e_iload_n dX11_findSeating_15 rfl rfl ?_
  refine e_bipush (v := 6) dX11_findSeating_16 (by decide) ?_
  refine e_ic_ge (tgt := 81) dX11_findSeating_18 (by decide) (fun c3 => ?_) (fun c3 => ?_)
  · replace h := h.1 c3
    refine e_aload_n dX11_findSeating_81 rfl rfl ?_
    obtain ⟨o4, h⟩ := h
    refine e_gA flX11_60 rfl rfl o4 dX11_findSeating_82 ?_
    refine e_callV (As := []) (st := []) mt_X5_seatAll in_X5_seatAll lkX11_433 rfl rfl ⟨by decide, by decide⟩ (Nat.le_of_ble_eq_true rfl) ⟨by decide, by decide⟩ rfl rfl dX11_findSeating_85 (Ctr.mono h (fun v M5 h => ?_))
    obtain ⟨rfl, h⟩ := h
    show E_X11_findSeating l q 88 [(0, rV (some 16)), (1, rV (some a1)), (2, iV v2), (3, iV v3)] [] M5 0 0
    exact e_ret rfl dX11_findSeating_88 ⟨rfl, h⟩
  · replace h := h.2 c3
    refine e_aload_n dX11_findSeating_21 rfl rfl ?_
    obtain ⟨o6, h⟩ := h
    refine e_gA flX11_424 t1 rfl o6 dX11_findSeating_22 ?_
    refine e_iload_n dX11_findSeating_25 rfl rfl ?_
    obtain ⟨o7, h⟩ := h
    refine e_iald ((o_sub6 t1).2.2.1) o7 dX11_findSeating_26 ?_
    refine e_if_ne (tgt := 34) dX11_findSeating_27 (by decide) (fun c8 => ?_) (fun c8 => ?_)
    · replace h := h.1 c8
      refine e_aload_n dX11_findSeating_34 rfl rfl ?_
      refine e_aload_n dX11_findSeating_35 rfl rfl ?_
      refine e_iload_n dX11_findSeating_36 rfl rfl ?_
      refine e_callV (As := [rV (some a1), iV v3]) (st := []) mt_X11_findFitting in_X11_findFitting lkX11_426 rfl rfl ⟨by decide, by decide⟩ (Nat.le_of_ble_eq_true rfl) ⟨by decide, by decide⟩ rfl rfl dX11_findSeating_37 (Ctr.mono h (fun v M9 h => ?_))
      obtain ⟨r10, rfl, h⟩ := h
      show E_X11_findSeating l q 40 [(0, rV (some 16)), (1, rV (some a1)), (2, iV v2), (3, iV v3)] [iV r10] M9 0 0
      refine e_istore (lv' := [(4, iV r10), (0, rV (some 16)), (1, rV (some a1)), (2, iV v2), (3, iV v3)]) (by decide) rfl dX11_findSeating_40 ?_
      refine e_iconst (v := 0) dX11_findSeating_42 (by decide) ?_
      refine e_istore (lv' := [(5, iV 0), (4, iV r10), (0, rV (some 16)), (1, rV (some a1)), (2, iV v2), (3, iV v3)]) (by decide) rfl dX11_findSeating_43 ?_
      exact e_lv (List.forall_mem_cons.mpr ⟨rfl, List.forall_mem_cons.mpr ⟨rfl, List.forall_mem_cons.mpr ⟨rfl, List.forall_mem_cons.mpr ⟨rfl, List.forall_mem_cons.mpr ⟨rfl, List.forall_mem_cons.mpr ⟨rfl, fun _ h => absurd h List.not_mem_nil⟩⟩⟩⟩⟩⟩) h
    · replace h := h.2 c8
      refine e_iconst (v := 0) dX11_findSeating_30 (by decide) ?_
      refine e_goto (tgt := 40) dX11_findSeating_31 (by decide) ?_
      refine e_istore (lv' := [(4, iV 0), (0, rV (some 16)), (1, rV (some a1)), (2, iV v2), (3, iV v3)]) (by decide) rfl dX11_findSeating_40 ?_
      refine e_iconst (v := 0) dX11_findSeating_42 (by decide) ?_
      refine e_istore (lv' := [(5, iV 0), (4, iV 0), (0, rV (some 16)), (1, rV (some a1)), (2, iV v2), (3, iV v3)]) (by decide) rfl dX11_findSeating_43 ?_
      exact e_lv (List.forall_mem_cons.mpr ⟨rfl, List.forall_mem_cons.mpr ⟨rfl, List.forall_mem_cons.mpr ⟨rfl, List.forall_mem_cons.mpr ⟨rfl, List.forall_mem_cons.mpr ⟨rfl, List.forall_mem_cons.mpr ⟨rfl, fun _ h => absurd h List.not_mem_nil⟩⟩⟩⟩⟩⟩) h
theorem w_X11_findSeating_45 (l : Launch) (q : o_M → Prop) (a1 : Nat) (t1 : o_ty a1 = .inl 6) (v2 : Int32) (v3 : Int32) (v4 : Int32) (v5 : Int32) (M : o_M) (h : (mR M a1 5 = some (a1 + 2) ∧ (vp_in v3 (mN M (a1 + 2)) ∧ (((mI M (a1 + 2) v3.toNatClampNeg) ≤ v5 → H_X11_findSeating_15 l q a1 v2 (v3 + 1) M) ∧ (¬ (mI M (a1 + 2) v3.toNatClampNeg) ≤ v5 → (mR M 16 8 = some 29 ∧ K_X5_allow l [rV (some 29), iV v2, iV v4] M (fun M15 => H_X11_findSeating_45 l q a1 (v2 + 1) v3 v4 (v5 + 1) M15))))))) : H_X11_findSeating_45 l q a1 v2 v3 v4 v5 M := by
  refine e_iload rfl dX11_findSeating_45 ?_
  refine e_aload_n dX11_findSeating_47 rfl rfl ?_
  obtain ⟨o11, h⟩ := h
  refine e_gA flX11_424 t1 rfl o11 dX11_findSeating_48 ?_
  refine e_iload_n dX11_findSeating_51 rfl rfl ?_
  obtain ⟨o12, h⟩ := h
  refine e_iald ((o_sub6 t1).2.2.1) o12 dX11_findSeating_52 ?_
  refine e_ic_ge (tgt := 75) dX11_findSeating_53 (by decide) (fun c13 => ?_) (fun c13 => ?_)
  · replace h := h.1 c13
    refine e_iinc (v := 1) (lv' := [(3, iV (v3 + 1)), (0, rV (some 16)), (1, rV (some a1)), (2, iV v2), (4, iV v4), (5, iV v5)]) rfl (by decide) (by decide) rfl dX11_findSeating_75 ?_
    refine e_goto (tgt := 15) dX11_findSeating_78 (by decide) ?_
    exact e_lv (List.forall_mem_cons.mpr ⟨rfl, List.forall_mem_cons.mpr ⟨rfl, List.forall_mem_cons.mpr ⟨rfl, List.forall_mem_cons.mpr ⟨rfl, fun _ h => absurd h List.not_mem_nil⟩⟩⟩⟩) h
  · replace h := h.2 c13
    refine e_aload_n dX11_findSeating_56 rfl rfl ?_
    obtain ⟨o14, h⟩ := h
    refine e_gA flX11_60 rfl rfl o14 dX11_findSeating_57 ?_
    refine e_iload_n dX11_findSeating_60 rfl rfl ?_
    refine e_iload rfl dX11_findSeating_61 ?_
    refine e_callV (As := [iV v2, iV v4]) (st := []) mt_X5_allow in_X5_allow lkX11_430 rfl rfl ⟨by decide, by decide⟩ (Nat.le_of_ble_eq_true rfl) ⟨by decide, by decide⟩ rfl rfl dX11_findSeating_63 (Ctr.mono h (fun v M15 h => ?_))
    obtain ⟨rfl, h⟩ := h
    show E_X11_findSeating l q 66 [(0, rV (some 16)), (1, rV (some a1)), (2, iV v2), (3, iV v3), (4, iV v4), (5, iV v5)] [] M15 0 0
    refine e_iinc (v := 1) (lv' := [(2, iV (v2 + 1)), (0, rV (some 16)), (1, rV (some a1)), (3, iV v3), (4, iV v4), (5, iV v5)]) rfl (by decide) (by decide) rfl dX11_findSeating_66 ?_
    refine e_iinc (v := 1) (lv' := [(5, iV (v5 + 1)), (2, iV (v2 + 1)), (0, rV (some 16)), (1, rV (some a1)), (3, iV v3), (4, iV v4)]) rfl (by decide) (by decide) rfl dX11_findSeating_69 ?_
    refine e_goto (tgt := 45) dX11_findSeating_72 (by decide) ?_
    exact e_lv (List.forall_mem_cons.mpr ⟨rfl, List.forall_mem_cons.mpr ⟨rfl, List.forall_mem_cons.mpr ⟨rfl, List.forall_mem_cons.mpr ⟨rfl, List.forall_mem_cons.mpr ⟨rfl, List.forall_mem_cons.mpr ⟨rfl, fun _ h => absurd h List.not_mem_nil⟩⟩⟩⟩⟩⟩) h
theorem w_X11_put (l : Launch) (p1 : Int32) (p2 : Int32) (p3 : Int32) (M : o_M) (q : Int32 → o_M → Prop) (h : K_X11_isWithin l [iV p1, iV 0, iV 5] M (fun r2 M1 => ((r2 = 0 → K_X11_hostRefuses l [rV (some 16), iV 1] M1 (fun r5 M4 => q r5 M4)) ∧ (¬ r2 = 0 → K_X11_isPuttable l [rV (some 16), iV p2, iV p3] M1 (fun r7 M6 => ((¬ r7 = 0 → (mR M6 16 4 = some 21 ∧ (vp_in p1 (mN M6 21) ∧ (∃ b11, mR M6 21 p1.toNatClampNeg = some b11 ∧ o_ty b11 = .inl 9 ∧ (((p2 < 1 ∨ 4 < p2) → K_X11_hostAnswers l [rV (some 16), iV 1] (sI M6 b11 5 p2) (fun r16 M15 => q r16 M15)) ∧ (p2 = 1 → (mR (sI M6 b11 5 p2) 16 2 = some 19 ∧ (vp_in p3 (mN (sI M6 b11 5 p2) 19) ∧ (∃ b19, mR (sI M6 b11 5 p2) 19 p3.toNatClampNeg = some b19 ∧ o_ty b19 = .inl 6 ∧ K_X11_hostAnswers l [rV (some 16), iV 1] (sR (sI M6 b11 5 p2) b11 1 (some b19)) (fun r23 M22 => q r23 M22))))) ∧ (p2 = 2 → K_X11_putBytes l [rV (some 16), rV (some b11), iV p3] (sI M6 b11 5 p2) (fun M24 => K_X11_hostAnswers l [rV (some 16), iV 1] M24 (fun r26 M25 => q r26 M25))) ∧ (p2 = 3 → K_X11_putPays l [rV (some 16), rV (some b11)] (sI M6 b11 5 p2) (fun M27 => K_X11_hostAnswers l [rV (some 16), iV 1] M27 (fun r29 M28 => q r29 M28))) ∧ (p2 = 4 → K_X11_putTruths l [rV (some 16), rV (some b11), iV p3] (sI M6 b11 5 p2) (fun M30 => K_X11_hostAnswers l [rV (some 16), iV 1] M30 (fun r32 M31 => q r32 M31)))))))) ∧ (r7 = 0 → K_X11_hostRefuses l [rV (some 16), iV 1] M6 (fun r34 M33 => q r34 M33)))))))) : K_X11_put l [rV (some 16), iV p1, iV p2, iV p3] M q := by
  refine o_ctr (ini := false) (by decide +kernel) rfl (fun z => by cases z) (Nat.le_of_ble_eq_true rfl) ?_
  show E_X11_put l q 0 [(0, rV (some 16)), (1, iV p1), (2, iV p2), (3, iV p3)] [] M 0 0
  refine e_iload_n dX11_put_0 rfl rfl ?_
  refine e_iconst (v := 0) dX11_put_1 (by decide) ?_
  refine e_iconst (v := 5) dX11_put_2 (by decide) ?_
  refine e_callS (As := [iV p1, iV 0, iV 5]) (st := []) mt_X11_isWithin is_X11_isWithin lkX11_124 ⟨by decide, by decide⟩ (Nat.le_of_ble_eq_true rfl) ⟨by decide, by decide⟩ rfl rfl dX11_put_3 (Ctr.mono h (fun v M1 h => ?_))
  obtain ⟨r2, rfl, h⟩ := h
  show E_X11_put l q 6 [(0, rV (some 16)), (1, iV p1), (2, iV p2), (3, iV p3)] [iV r2] M1 0 0
  refine e_if_eq (tgt := 18) dX11_put_6 (by decide) (fun c3 => ?_) (fun c3 => ?_)
  · replace h := h.1 c3
    refine e_aload_n dX11_put_18 rfl rfl ?_
    refine e_iconst (v := 1) dX11_put_19 (by decide) ?_
    refine e_callV (As := [iV 1]) (st := []) mt_X11_hostRefuses in_X11_hostRefuses lkX11_316 rfl rfl ⟨by decide, by decide⟩ (Nat.le_of_ble_eq_true rfl) ⟨by decide, by decide⟩ rfl rfl dX11_put_20 (Ctr.mono h (fun v M4 h => ?_))
    obtain ⟨r5, rfl, h⟩ := h
    show E_X11_put l q 23 [(0, rV (some 16)), (1, iV p1), (2, iV p2), (3, iV p3)] [iV r5] M4 0 0
    exact e_iret rfl trivial dX11_put_23 ⟨_, rfl, h⟩
  · replace h := h.2 c3
    refine e_aload_n dX11_put_9 rfl rfl ?_
    refine e_iload_n dX11_put_10 rfl rfl ?_
    refine e_iload_n dX11_put_11 rfl rfl ?_
    refine e_callV (As := [iV p2, iV p3]) (st := []) mt_X11_isPuttable in_X11_isPuttable lkX11_313 rfl rfl ⟨by decide, by decide⟩ (Nat.le_of_ble_eq_true rfl) ⟨by decide, by decide⟩ rfl rfl dX11_put_12 (Ctr.mono h (fun v M6 h => ?_))
    obtain ⟨r7, rfl, h⟩ := h
    show E_X11_put l q 15 [(0, rV (some 16)), (1, iV p1), (2, iV p2), (3, iV p3)] [iV r7] M6 0 0
    refine e_if_ne (tgt := 24) dX11_put_15 (by decide) (fun c8 => ?_) (fun c8 => ?_)
    · replace h := h.1 c8
      refine e_aload_n dX11_put_24 rfl rfl ?_
      obtain ⟨o9, h⟩ := h
      refine e_gA flX11_35 rfl rfl o9 dX11_put_25 ?_
      refine e_iload_n dX11_put_28 rfl rfl ?_
      obtain ⟨o10, h⟩ := h
      obtain ⟨b11, o12, o13, h⟩ := h
      refine e_aaldS rfl o10 o12 dX11_put_29 ?_
      refine e_astore (lv' := [(4, rV (some b11)), (0, rV (some 16)), (1, iV p1), (2, iV p2), (3, iV p3)]) (by decide) rfl dX11_put_30 ?_
      refine e_aload rfl dX11_put_32 ?_
      refine e_iload_n dX11_put_34 rfl rfl ?_
      refine e_pI flX11_319 o13 (Or.inl rfl) rfl rfl rfl dX11_put_35 ?_
      refine e_iload_n dX11_put_38 rfl rfl ?_
      rcases o_tab p2 1 4 (a := 1) (b := 4) (by decide) (by decide) with c14 | c14
      · replace h := h.1 c14
        refine e_tabOut (tgt := 111) dX11_put_39 (o_tabo (by decide) (by decide) c14) (by decide) ?_
        refine e_aload_n dX11_put_111 rfl rfl ?_
        refine e_iconst (v := 1) dX11_put_112 (by decide) ?_
        refine e_callV (As := [iV 1]) (st := []) mt_X11_hostAnswers in_X11_hostAnswers lkX11_337 rfl rfl ⟨by decide, by decide⟩ (Nat.le_of_ble_eq_true rfl) ⟨by decide, by decide⟩ rfl rfl dX11_put_113 (Ctr.mono h (fun v M15 h => ?_))
        obtain ⟨r16, rfl, h⟩ := h
        show E_X11_put l q 116 [(4, rV (some b11)), (0, rV (some 16)), (1, iV p1), (2, iV p2), (3, iV p3)] [iV r16] M15 0 0
        exact e_iret rfl trivial dX11_put_116 ⟨_, rfl, h⟩
      · have h0 := h.2
        have e1 : p2.toInt = 1 ∨ p2.toInt = 2 ∨ p2.toInt = 3 ∨ p2.toInt = 4 := by omega
        clear h; rcases e1 with e1 | e1 | e1 | e1
        · have h := h0.1 (Int32.toInt_inj.mp e1)
          refine e_tabIn (tgt := 68) (off := 29) dX11_put_39 (by rw [e1]; decide) (by rw [e1]; decide) (by rw [e1]; rfl) (by decide) ?_
          refine e_aload rfl dX11_put_68 ?_
          refine e_aload_n dX11_put_70 rfl rfl ?_
          obtain ⟨o17, h⟩ := h
          refine e_gA flX11_23 rfl rfl o17 dX11_put_71 ?_
          refine e_iload_n dX11_put_74 rfl rfl ?_
          obtain ⟨o18, h⟩ := h
          obtain ⟨b19, o20, o21, h⟩ := h
          refine e_aaldS rfl o18 o20 dX11_put_75 ?_
          refine e_pR flX11_322 o13 (Or.inl rfl) rfl dX11_put_76 ?_
          refine e_goto (tgt := 111) dX11_put_79 (by decide) ?_
          refine e_aload_n dX11_put_111 rfl rfl ?_
          refine e_iconst (v := 1) dX11_put_112 (by decide) ?_
          refine e_callV (As := [iV 1]) (st := []) mt_X11_hostAnswers in_X11_hostAnswers lkX11_337 rfl rfl ⟨by decide, by decide⟩ (Nat.le_of_ble_eq_true rfl) ⟨by decide, by decide⟩ rfl rfl dX11_put_113 (Ctr.mono h (fun v M22 h => ?_))
          obtain ⟨r23, rfl, h⟩ := h
          show E_X11_put l q 116 [(4, rV (some b11)), (0, rV (some 16)), (1, iV p1), (2, iV p2), (3, iV p3)] [iV r23] M22 0 0
          exact e_iret rfl trivial dX11_put_116 ⟨_, rfl, h⟩
        · have h := h0.2.1 (Int32.toInt_inj.mp e1)
          refine e_tabIn (tgt := 82) (off := 43) dX11_put_39 (by rw [e1]; decide) (by rw [e1]; decide) (by rw [e1]; rfl) (by decide) ?_
          refine e_aload_n dX11_put_82 rfl rfl ?_
          refine e_aload rfl dX11_put_83 ?_
          refine e_iload_n dX11_put_85 rfl rfl ?_
          refine e_callV (As := [rV (some b11), iV p3]) (st := []) mt_X11_putBytes in_X11_putBytes lkX11_326 rfl rfl ⟨by decide, by decide⟩ (Nat.le_of_ble_eq_true rfl) ⟨by decide, by decide⟩ rfl rfl dX11_put_86 (Ctr.mono h (fun v M24 h => ?_))
          obtain ⟨rfl, h⟩ := h
          show E_X11_put l q 89 [(4, rV (some b11)), (0, rV (some 16)), (1, iV p1), (2, iV p2), (3, iV p3)] [] M24 0 0
          refine e_goto (tgt := 111) dX11_put_89 (by decide) ?_
          refine e_aload_n dX11_put_111 rfl rfl ?_
          refine e_iconst (v := 1) dX11_put_112 (by decide) ?_
          refine e_callV (As := [iV 1]) (st := []) mt_X11_hostAnswers in_X11_hostAnswers lkX11_337 rfl rfl ⟨by decide, by decide⟩ (Nat.le_of_ble_eq_true rfl) ⟨by decide, by decide⟩ rfl rfl dX11_put_113 (Ctr.mono h (fun v M25 h => ?_))
          obtain ⟨r26, rfl, h⟩ := h
          show E_X11_put l q 116 [(4, rV (some b11)), (0, rV (some 16)), (1, iV p1), (2, iV p2), (3, iV p3)] [iV r26] M25 0 0
          exact e_iret rfl trivial dX11_put_116 ⟨_, rfl, h⟩
        · have h := h0.2.2.1 (Int32.toInt_inj.mp e1)
          refine e_tabIn (tgt := 92) (off := 53) dX11_put_39 (by rw [e1]; decide) (by rw [e1]; decide) (by rw [e1]; rfl) (by decide) ?_
          refine e_aload_n dX11_put_92 rfl rfl ?_
          refine e_aload rfl dX11_put_93 ?_
          refine e_callV (As := [rV (some b11)]) (st := []) mt_X11_putPays in_X11_putPays lkX11_330 rfl rfl ⟨by decide, by decide⟩ (Nat.le_of_ble_eq_true rfl) ⟨by decide, by decide⟩ rfl rfl dX11_put_95 (Ctr.mono h (fun v M27 h => ?_))
          obtain ⟨rfl, h⟩ := h
          show E_X11_put l q 98 [(4, rV (some b11)), (0, rV (some 16)), (1, iV p1), (2, iV p2), (3, iV p3)] [] M27 0 0
          refine e_goto (tgt := 111) dX11_put_98 (by decide) ?_
          refine e_aload_n dX11_put_111 rfl rfl ?_
          refine e_iconst (v := 1) dX11_put_112 (by decide) ?_
          refine e_callV (As := [iV 1]) (st := []) mt_X11_hostAnswers in_X11_hostAnswers lkX11_337 rfl rfl ⟨by decide, by decide⟩ (Nat.le_of_ble_eq_true rfl) ⟨by decide, by decide⟩ rfl rfl dX11_put_113 (Ctr.mono h (fun v M28 h => ?_))
          obtain ⟨r29, rfl, h⟩ := h
          show E_X11_put l q 116 [(4, rV (some b11)), (0, rV (some 16)), (1, iV p1), (2, iV p2), (3, iV p3)] [iV r29] M28 0 0
          exact e_iret rfl trivial dX11_put_116 ⟨_, rfl, h⟩
        · have h := h0.2.2.2 (Int32.toInt_inj.mp e1)
          refine e_tabIn (tgt := 101) (off := 62) dX11_put_39 (by rw [e1]; decide) (by rw [e1]; decide) (by rw [e1]; rfl) (by decide) ?_
          refine e_aload_n dX11_put_101 rfl rfl ?_
          refine e_aload rfl dX11_put_102 ?_
          refine e_iload_n dX11_put_104 rfl rfl ?_
          refine e_callV (As := [rV (some b11), iV p3]) (st := []) mt_X11_putTruths in_X11_putTruths lkX11_334 rfl rfl ⟨by decide, by decide⟩ (Nat.le_of_ble_eq_true rfl) ⟨by decide, by decide⟩ rfl rfl dX11_put_105 (Ctr.mono h (fun v M30 h => ?_))
          obtain ⟨rfl, h⟩ := h
          show E_X11_put l q 108 [(4, rV (some b11)), (0, rV (some 16)), (1, iV p1), (2, iV p2), (3, iV p3)] [] M30 0 0
          refine e_goto (tgt := 111) dX11_put_108 (by decide) ?_
          refine e_aload_n dX11_put_111 rfl rfl ?_
          refine e_iconst (v := 1) dX11_put_112 (by decide) ?_
          refine e_callV (As := [iV 1]) (st := []) mt_X11_hostAnswers in_X11_hostAnswers lkX11_337 rfl rfl ⟨by decide, by decide⟩ (Nat.le_of_ble_eq_true rfl) ⟨by decide, by decide⟩ rfl rfl dX11_put_113 (Ctr.mono h (fun v M31 h => ?_))
          obtain ⟨r32, rfl, h⟩ := h
          show E_X11_put l q 116 [(4, rV (some b11)), (0, rV (some 16)), (1, iV p1), (2, iV p2), (3, iV p3)] [iV r32] M31 0 0
          exact e_iret rfl trivial dX11_put_116 ⟨_, rfl, h⟩
    · replace h := h.2 c8
      refine e_aload_n dX11_put_18 rfl rfl ?_
      refine e_iconst (v := 1) dX11_put_19 (by decide) ?_
      refine e_callV (As := [iV 1]) (st := []) mt_X11_hostRefuses in_X11_hostRefuses lkX11_316 rfl rfl ⟨by decide, by decide⟩ (Nat.le_of_ble_eq_true rfl) ⟨by decide, by decide⟩ rfl rfl dX11_put_20 (Ctr.mono h (fun v M33 h => ?_))
      obtain ⟨r34, rfl, h⟩ := h
      show E_X11_put l q 23 [(0, rV (some 16)), (1, iV p1), (2, iV p2), (3, iV p3)] [iV r34] M33 0 0
      exact e_iret rfl trivial dX11_put_23 ⟨_, rfl, h⟩
abbrev H_X3_takeWord_0 (l : Launch) (q : o_M → Prop) (M : o_M) : Prop := E_X3_takeWord l q 0 [(0, rV (some 23))] [] M 0 0
abbrev H_X3_takeWord_47 (l : Launch) (q : o_M → Prop) (v1 : Int32) (M : o_M) : Prop := E_X3_takeWord l q 47 [(0, rV (some 23)), (1, iV v1)] [] M 0 0
theorem w_X3_takeWord (l : Launch) (M : o_M) (q : o_M → Prop) (h : (((mI M 23 3) ≤ (mI M 23 9) → H_X3_takeWord_47 l q 0 (sI M 23 6 26)) ∧ (¬ (mI M 23 3) ≤ (mI M 23 9) → (mR M 23 2 = some 22 ∧ (vp_in (mI M 23 9) (mN M 22) ∧ K_X3_isLetter l [iV (mI M 22 (mI M 23 9).toNatClampNeg)] M (fun r5 M4 => ((r5 = 0 → H_X3_takeWord_47 l q 0 (sI M4 23 6 26)) ∧ (¬ r5 = 0 → H_X3_takeWord_0 l q (sI M4 23 9 ((mI M4 23 9) + 1)))))))))) : K_X3_takeWord l [rV (some 23)] M q := by
  refine o_ctr (ini := false) (by decide +kernel) rfl (fun z => by cases z) (Nat.le_of_ble_eq_true rfl) ?_
  show E_X3_takeWord l q 0 [(0, rV (some 23))] [] M 0 0
  refine e_aload_n dX3_takeWord_0 rfl rfl ?_
  refine e_gI flX3_43 rfl rfl dX3_takeWord_1 ?_
  refine e_aload_n dX3_takeWord_4 rfl rfl ?_
  refine e_gI flX3_22 rfl rfl dX3_takeWord_5 ?_
  refine e_ic_ge (tgt := 39) dX3_takeWord_8 (by decide) (fun c1 => ?_) (fun c1 => ?_)
  · replace h := h.1 c1
    refine e_aload_n dX3_takeWord_39 rfl rfl ?_
    refine e_bipush (v := 26) dX3_takeWord_40 (by decide) ?_
    refine e_pI flX3_34 rfl (Or.inl rfl) rfl rfl rfl dX3_takeWord_42 ?_
    refine e_iconst (v := 0) dX3_takeWord_45 (by decide) ?_
    refine e_istore_n (lv' := [(1, iV 0), (0, rV (some 23))]) dX3_takeWord_46 rfl (by decide) rfl ?_
    exact e_lv (List.forall_mem_cons.mpr ⟨rfl, List.forall_mem_cons.mpr ⟨rfl, fun _ h => absurd h List.not_mem_nil⟩⟩) h
  · replace h := h.2 c1
    refine e_aload_n dX3_takeWord_11 rfl rfl ?_
    obtain ⟨o2, h⟩ := h
    refine e_gA flX3_18 rfl rfl o2 dX3_takeWord_12 ?_
    refine e_aload_n dX3_takeWord_15 rfl rfl ?_
    refine e_gI flX3_43 rfl rfl dX3_takeWord_16 ?_
    obtain ⟨o3, h⟩ := h
    refine e_bald rfl o3 dX3_takeWord_19 ?_
    refine e_callS (As := [iV (mI M 22 (mI M 23 9).toNatClampNeg)]) (st := []) mt_X3_isLetter is_X3_isLetter lkX3_97 ⟨by decide, by decide⟩ (Nat.le_of_ble_eq_true rfl) ⟨by decide, by decide⟩ rfl rfl dX3_takeWord_20 (Ctr.mono h (fun v M4 h => ?_))
    obtain ⟨r5, rfl, h⟩ := h
    show E_X3_takeWord l q 23 [(0, rV (some 23))] [iV r5] M4 0 0
    refine e_if_eq (tgt := 39) dX3_takeWord_23 (by decide) (fun c6 => ?_) (fun c6 => ?_)
    · replace h := h.1 c6
      refine e_aload_n dX3_takeWord_39 rfl rfl ?_
      refine e_bipush (v := 26) dX3_takeWord_40 (by decide) ?_
      refine e_pI flX3_34 rfl (Or.inl rfl) rfl rfl rfl dX3_takeWord_42 ?_
      refine e_iconst (v := 0) dX3_takeWord_45 (by decide) ?_
      refine e_istore_n (lv' := [(1, iV 0), (0, rV (some 23))]) dX3_takeWord_46 rfl (by decide) rfl ?_
      exact e_lv (List.forall_mem_cons.mpr ⟨rfl, List.forall_mem_cons.mpr ⟨rfl, fun _ h => absurd h List.not_mem_nil⟩⟩) h
    · replace h := h.2 c6
      refine e_aload_n dX3_takeWord_26 rfl rfl ?_
      refine e_dup rfl dX3_takeWord_27 ?_
      refine e_gI flX3_43 rfl rfl dX3_takeWord_28 ?_
      refine e_iconst (v := 1) dX3_takeWord_31 (by decide) ?_
      refine e_iadd dX3_takeWord_32 ?_
      refine e_pI flX3_43 rfl (Or.inl rfl) rfl rfl rfl dX3_takeWord_33 ?_
      refine e_goto (tgt := 0) dX3_takeWord_36 (by decide) ?_
      exact e_lv (List.forall_mem_cons.mpr ⟨rfl, fun _ h => absurd h List.not_mem_nil⟩) h
theorem w_X3_takeWord_47 (l : Launch) (q : o_M → Prop) (v1 : Int32) (M : o_M) (h : ((16 ≤ v1 → q M) ∧ (¬ 16 ≤ v1 → K_X3_spells l [rV (some 23), iV v1] M (fun r9 M8 => ((r9 = 0 → H_X3_takeWord_47 l q (v1 + 1) M8) ∧ (¬ r9 = 0 → H_X3_takeWord_47 l q (v1 + 1) (sI M8 23 6 v1))))))) : H_X3_takeWord_47 l q v1 M := by
  refine e_iload_n dX3_takeWord_47 rfl rfl ?_
  refine e_bipush (v := 16) dX3_takeWord_48 (by decide) ?_
  refine e_ic_ge (tgt := 72) dX3_takeWord_50 (by decide) (fun c7 => ?_) (fun c7 => ?_)
  · replace h := h.1 c7
    exact e_ret rfl dX3_takeWord_72 ⟨rfl, h⟩
  · replace h := h.2 c7
    refine e_aload_n dX3_takeWord_53 rfl rfl ?_
    refine e_iload_n dX3_takeWord_54 rfl rfl ?_
    refine e_callV (As := [iV v1]) (st := []) mt_X3_spells in_X3_spells lkX3_112 rfl rfl ⟨by decide, by decide⟩ (Nat.le_of_ble_eq_true rfl) ⟨by decide, by decide⟩ rfl rfl dX3_takeWord_55 (Ctr.mono h (fun v M8 h => ?_))
    obtain ⟨r9, rfl, h⟩ := h
    show E_X3_takeWord l q 58 [(0, rV (some 23)), (1, iV v1)] [iV r9] M8 0 0
    refine e_if_eq (tgt := 66) dX3_takeWord_58 (by decide) (fun c10 => ?_) (fun c10 => ?_)
    · replace h := h.1 c10
      refine e_iinc (v := 1) (lv' := [(1, iV (v1 + 1)), (0, rV (some 23))]) rfl (by decide) (by decide) rfl dX3_takeWord_66 ?_
      refine e_goto (tgt := 47) dX3_takeWord_69 (by decide) ?_
      exact e_lv (List.forall_mem_cons.mpr ⟨rfl, List.forall_mem_cons.mpr ⟨rfl, fun _ h => absurd h List.not_mem_nil⟩⟩) h
    · replace h := h.2 c10
      refine e_aload_n dX3_takeWord_61 rfl rfl ?_
      refine e_iload_n dX3_takeWord_62 rfl rfl ?_
      refine e_pI flX3_34 rfl (Or.inl rfl) rfl rfl rfl dX3_takeWord_63 ?_
      refine e_iinc (v := 1) (lv' := [(1, iV (v1 + 1)), (0, rV (some 23))]) rfl (by decide) (by decide) rfl dX3_takeWord_66 ?_
      refine e_goto (tgt := 47) dX3_takeWord_69 (by decide) ?_
      exact e_lv (List.forall_mem_cons.mpr ⟨rfl, List.forall_mem_cons.mpr ⟨rfl, fun _ h => absurd h List.not_mem_nil⟩⟩) h
theorem w_X3_takeWord_0 (l : Launch) (q : o_M → Prop) (M : o_M) (h : (((mI M 23 3) ≤ (mI M 23 9) → H_X3_takeWord_47 l q 0 (sI M 23 6 26)) ∧ (¬ (mI M 23 3) ≤ (mI M 23 9) → (mR M 23 2 = some 22 ∧ (vp_in (mI M 23 9) (mN M 22) ∧ K_X3_isLetter l [iV (mI M 22 (mI M 23 9).toNatClampNeg)] M (fun r15 M14 => ((r15 = 0 → H_X3_takeWord_47 l q 0 (sI M14 23 6 26)) ∧ (¬ r15 = 0 → H_X3_takeWord_0 l q (sI M14 23 9 ((mI M14 23 9) + 1)))))))))) : H_X3_takeWord_0 l q M := by
  refine e_aload_n dX3_takeWord_0 rfl rfl ?_
  refine e_gI flX3_43 rfl rfl dX3_takeWord_1 ?_
  refine e_aload_n dX3_takeWord_4 rfl rfl ?_
  refine e_gI flX3_22 rfl rfl dX3_takeWord_5 ?_
  refine e_ic_ge (tgt := 39) dX3_takeWord_8 (by decide) (fun c11 => ?_) (fun c11 => ?_)
  · replace h := h.1 c11
    refine e_aload_n dX3_takeWord_39 rfl rfl ?_
    refine e_bipush (v := 26) dX3_takeWord_40 (by decide) ?_
    refine e_pI flX3_34 rfl (Or.inl rfl) rfl rfl rfl dX3_takeWord_42 ?_
    refine e_iconst (v := 0) dX3_takeWord_45 (by decide) ?_
    refine e_istore_n (lv' := [(1, iV 0), (0, rV (some 23))]) dX3_takeWord_46 rfl (by decide) rfl ?_
    exact e_lv (List.forall_mem_cons.mpr ⟨rfl, List.forall_mem_cons.mpr ⟨rfl, fun _ h => absurd h List.not_mem_nil⟩⟩) h
  · replace h := h.2 c11
    refine e_aload_n dX3_takeWord_11 rfl rfl ?_
    obtain ⟨o12, h⟩ := h
    refine e_gA flX3_18 rfl rfl o12 dX3_takeWord_12 ?_
    refine e_aload_n dX3_takeWord_15 rfl rfl ?_
    refine e_gI flX3_43 rfl rfl dX3_takeWord_16 ?_
    obtain ⟨o13, h⟩ := h
    refine e_bald rfl o13 dX3_takeWord_19 ?_
    refine e_callS (As := [iV (mI M 22 (mI M 23 9).toNatClampNeg)]) (st := []) mt_X3_isLetter is_X3_isLetter lkX3_97 ⟨by decide, by decide⟩ (Nat.le_of_ble_eq_true rfl) ⟨by decide, by decide⟩ rfl rfl dX3_takeWord_20 (Ctr.mono h (fun v M14 h => ?_))
    obtain ⟨r15, rfl, h⟩ := h
    show E_X3_takeWord l q 23 [(0, rV (some 23))] [iV r15] M14 0 0
    refine e_if_eq (tgt := 39) dX3_takeWord_23 (by decide) (fun c16 => ?_) (fun c16 => ?_)
    · replace h := h.1 c16
      refine e_aload_n dX3_takeWord_39 rfl rfl ?_
      refine e_bipush (v := 26) dX3_takeWord_40 (by decide) ?_
      refine e_pI flX3_34 rfl (Or.inl rfl) rfl rfl rfl dX3_takeWord_42 ?_
      refine e_iconst (v := 0) dX3_takeWord_45 (by decide) ?_
      refine e_istore_n (lv' := [(1, iV 0), (0, rV (some 23))]) dX3_takeWord_46 rfl (by decide) rfl ?_
      exact e_lv (List.forall_mem_cons.mpr ⟨rfl, List.forall_mem_cons.mpr ⟨rfl, fun _ h => absurd h List.not_mem_nil⟩⟩) h
    · replace h := h.2 c16
      refine e_aload_n dX3_takeWord_26 rfl rfl ?_
      refine e_dup rfl dX3_takeWord_27 ?_
      refine e_gI flX3_43 rfl rfl dX3_takeWord_28 ?_
      refine e_iconst (v := 1) dX3_takeWord_31 (by decide) ?_
      refine e_iadd dX3_takeWord_32 ?_
      refine e_pI flX3_43 rfl (Or.inl rfl) rfl rfl rfl dX3_takeWord_33 ?_
      refine e_goto (tgt := 0) dX3_takeWord_36 (by decide) ?_
      exact e_lv (List.forall_mem_cons.mpr ⟨rfl, fun _ h => absurd h List.not_mem_nil⟩) h
theorem w_X11_chair (l : Launch) (p1 : Int32) (p2 : Int32) (p3 : Int32) (M : o_M) (q : Int32 → o_M → Prop) (h : K_X11_findService l [rV (some 16), iV p1] M (fun r2 M1 => ((r2 = none → q (-2) M1) ∧ (∀ b3, r2 = some b3 → o_ty b3 = .inl 6 ∧ K_X11_isWithin l [iV p2, iV 0, iV ((mI M1 b3 8) - 1)] M1 (fun r7 M6 => ((¬ r7 = 0 → ((p3 = 0 → K_X11_findSeating l [rV (some 16), rV (some b3)] M6 (fun M10 => (mR M10 16 8 = some 29 ∧ (mR M10 29 1 = some 31 ∧ (vp_in p2 (mN M10 31) ∧ q (mI M10 31 p2.toNatClampNeg) M10))))) ∧ (¬ p3 = 0 → (((mI M6 b3 11) = 0 → q (-1) M6) ∧ (¬ (mI M6 b3 11) = 0 → (mR M6 b3 6 = some (b3 + 3) ∧ (vp_in p2 (mN M6 (b3 + 3)) ∧ q (mI M6 (b3 + 3) p2.toNatClampNeg) M6))))))) ∧ (r7 = 0 → q (-2) M6))))))) : K_X11_chair l [rV (some 16), iV p1, iV p2, iV p3] M q := by
  refine o_ctr (ini := false) (by decide +kernel) rfl (fun z => by cases z) (Nat.le_of_ble_eq_true rfl) ?_
  show E_X11_chair l q 0 [(0, rV (some 16)), (1, iV p1), (2, iV p2), (3, iV p3)] [] M 0 0
  refine e_aload_n dX11_chair_0 rfl rfl ?_
  refine e_iload_n dX11_chair_1 rfl rfl ?_
  refine e_callV (As := [iV p1]) (st := []) mt_X11_findService in_X11_findService lkX11_173 rfl rfl ⟨by decide, by decide⟩ (Nat.le_of_ble_eq_true rfl) ⟨by decide, by decide⟩ rfl rfl dX11_chair_2 (Ctr.mono h (fun v M1 h => ?_))
  obtain ⟨r2, rfl, h⟩ := h
  show E_X11_chair l q 5 [(0, rV (some 16)), (1, iV p1), (2, iV p2), (3, iV p3)] [rV r2] M1 0 0
  refine e_astore (lv' := [(4, rV r2), (0, rV (some 16)), (1, iV p1), (2, iV p2), (3, iV p3)]) (by decide) rfl dX11_chair_5 ?_
  refine e_aload rfl dX11_chair_7 ?_
  refine e_ifnull (tgt := 27) dX11_chair_9 (by decide) (fun c4 => ?_) (fun b3 c4 => ?_)
  · replace h := h.1 c4
    refine e_eq (lv' := [(4, rV none), (0, rV (some 16)), (1, iV p1), (2, iV p2), (3, iV p3)]) (st' := []) (by rw [c4]) (by first | rfl | rw [c4]) rfl ?_
    refine e_bipush (v := (-2)) dX11_chair_27 (by decide) ?_
    exact e_iret rfl trivial dX11_chair_29 ⟨_, rfl, h⟩
  · obtain ⟨t5, h⟩ := h.2 b3 c4
    refine e_eq (lv' := [(4, rV (some b3)), (0, rV (some 16)), (1, iV p1), (2, iV p2), (3, iV p3)]) (st' := []) (by rw [c4]) (by first | rfl | rw [c4]) rfl ?_
    refine e_iload_n dX11_chair_12 rfl rfl ?_
    refine e_iconst (v := 0) dX11_chair_13 (by decide) ?_
    refine e_aload rfl dX11_chair_14 ?_
    refine e_gI flX11_229 t5 rfl dX11_chair_16 ?_
    refine e_iconst (v := 1) dX11_chair_19 (by decide) ?_
    refine e_isub dX11_chair_20 ?_
    refine e_callS (As := [iV p2, iV 0, iV ((mI M1 b3 8) - 1)]) (st := []) mt_X11_isWithin is_X11_isWithin lkX11_124 ⟨by decide, by decide⟩ (Nat.le_of_ble_eq_true rfl) ⟨by decide, by decide⟩ rfl rfl dX11_chair_21 (Ctr.mono h (fun v M6 h => ?_))
    obtain ⟨r7, rfl, h⟩ := h
    show E_X11_chair l q 24 [(4, rV (some b3)), (0, rV (some 16)), (1, iV p1), (2, iV p2), (3, iV p3)] [iV r7] M6 0 0
    refine e_if_ne (tgt := 30) dX11_chair_24 (by decide) (fun c8 => ?_) (fun c8 => ?_)
    · replace h := h.1 c8
      refine e_iload_n dX11_chair_30 rfl rfl ?_
      refine e_if_eq (tgt := 54) dX11_chair_31 (by decide) (fun c9 => ?_) (fun c9 => ?_)
      · replace h := h.1 c9
        refine e_aload_n dX11_chair_54 rfl rfl ?_
        refine e_aload rfl dX11_chair_55 ?_
        refine e_callV (As := [rV (some b3)]) (st := []) mt_X11_findSeating in_X11_findSeating lkX11_258 rfl rfl ⟨by decide, by decide⟩ (Nat.le_of_ble_eq_true rfl) ⟨by decide, by decide⟩ rfl rfl dX11_chair_57 (Ctr.mono h (fun v M10 h => ?_))
        obtain ⟨rfl, h⟩ := h
        show E_X11_chair l q 60 [(4, rV (some b3)), (0, rV (some 16)), (1, iV p1), (2, iV p2), (3, iV p3)] [] M10 0 0
        refine e_aload_n dX11_chair_60 rfl rfl ?_
        obtain ⟨o11, h⟩ := h
        refine e_gA flX11_60 rfl rfl o11 dX11_chair_61 ?_
        obtain ⟨o12, h⟩ := h
        refine e_gA flX11_268 rfl rfl o12 dX11_chair_64 ?_
        refine e_iload_n dX11_chair_67 rfl rfl ?_
        obtain ⟨o13, h⟩ := h
        refine e_iald rfl o13 dX11_chair_68 ?_
        exact e_iret rfl trivial dX11_chair_69 ⟨_, rfl, h⟩
      · replace h := h.2 c9
        refine e_aload rfl dX11_chair_34 ?_
        refine e_gI flX11_177 t5 rfl dX11_chair_36 ?_
        refine e_if_eq (tgt := 52) dX11_chair_39 (by decide) (fun c14 => ?_) (fun c14 => ?_)
        · replace h := h.1 c14
          refine e_iconst (v := (-1)) dX11_chair_52 (by decide) ?_
          exact e_iret rfl trivial dX11_chair_53 ⟨_, rfl, h⟩
        · replace h := h.2 c14
          refine e_aload rfl dX11_chair_42 ?_
          obtain ⟨o15, h⟩ := h
          refine e_gA flX11_265 t5 rfl o15 dX11_chair_44 ?_
          refine e_iload_n dX11_chair_47 rfl rfl ?_
          obtain ⟨o16, h⟩ := h
          refine e_iald ((o_sub6 t5).2.2.2) o16 dX11_chair_48 ?_
          refine e_goto (tgt := 53) dX11_chair_49 (by decide) ?_
          exact e_iret rfl trivial dX11_chair_53 ⟨_, rfl, h⟩
    · replace h := h.2 c8
      refine e_bipush (v := (-2)) dX11_chair_27 (by decide) ?_
      exact e_iret rfl trivial dX11_chair_29 ⟨_, rfl, h⟩
theorem w_X11_gaps (l : Launch) (p1 : Int32) (M : o_M) (q : Int32 → o_M → Prop) (h : K_X11_findService l [rV (some 16), iV p1] M (fun r2 M1 => ((r2 = none → q (-2) M1) ∧ (∀ b3, r2 = some b3 → o_ty b3 = .inl 6 ∧ K_X11_findSeating l [rV (some 16), rV (some b3)] M1 (fun M6 => (mR M6 16 8 = some 29 ∧ K_X5_countGaps l [rV (some 29)] M6 (fun r9 M8 => q r9 M8))))))) : K_X11_gaps l [rV (some 16), iV p1] M q := by
  refine o_ctr (ini := false) (by decide +kernel) rfl (fun z => by cases z) (Nat.le_of_ble_eq_true rfl) ?_
  show E_X11_gaps l q 0 [(0, rV (some 16)), (1, iV p1)] [] M 0 0
  refine e_aload_n dX11_gaps_0 rfl rfl ?_
  refine e_iload_n dX11_gaps_1 rfl rfl ?_
  refine e_callV (As := [iV p1]) (st := []) mt_X11_findService in_X11_findService lkX11_173 rfl rfl ⟨by decide, by decide⟩ (Nat.le_of_ble_eq_true rfl) ⟨by decide, by decide⟩ rfl rfl dX11_gaps_2 (Ctr.mono h (fun v M1 h => ?_))
  obtain ⟨r2, rfl, h⟩ := h
  show E_X11_gaps l q 5 [(0, rV (some 16)), (1, iV p1)] [rV r2] M1 0 0
  refine e_astore_n (lv' := [(2, rV r2), (0, rV (some 16)), (1, iV p1)]) dX11_gaps_5 rfl (by decide) rfl ?_
  refine e_aload_n dX11_gaps_6 rfl rfl ?_
  refine e_ifnonnull (tgt := 13) dX11_gaps_7 (by decide) (fun b3 c4 => ?_) (fun c4 => ?_)
  · obtain ⟨t5, h⟩ := h.2 b3 c4
    refine e_eq (lv' := [(2, rV (some b3)), (0, rV (some 16)), (1, iV p1)]) (st' := []) (by rw [c4]) (by first | rfl | rw [c4]) rfl ?_
    refine e_aload_n dX11_gaps_13 rfl rfl ?_
    refine e_aload_n dX11_gaps_14 rfl rfl ?_
    refine e_callV (As := [rV (some b3)]) (st := []) mt_X11_findSeating in_X11_findSeating lkX11_258 rfl rfl ⟨by decide, by decide⟩ (Nat.le_of_ble_eq_true rfl) ⟨by decide, by decide⟩ rfl rfl dX11_gaps_15 (Ctr.mono h (fun v M6 h => ?_))
    obtain ⟨rfl, h⟩ := h
    show E_X11_gaps l q 18 [(2, rV (some b3)), (0, rV (some 16)), (1, iV p1)] [] M6 0 0
    refine e_aload_n dX11_gaps_18 rfl rfl ?_
    obtain ⟨o7, h⟩ := h
    refine e_gA flX11_60 rfl rfl o7 dX11_gaps_19 ?_
    refine e_callV (As := []) (st := []) mt_X5_countGaps in_X5_countGaps lkX11_262 rfl rfl ⟨by decide, by decide⟩ (Nat.le_of_ble_eq_true rfl) ⟨by decide, by decide⟩ rfl rfl dX11_gaps_22 (Ctr.mono h (fun v M8 h => ?_))
    obtain ⟨r9, rfl, h⟩ := h
    show E_X11_gaps l q 25 [(2, rV (some b3)), (0, rV (some 16)), (1, iV p1)] [iV r9] M8 0 0
    exact e_iret rfl trivial dX11_gaps_25 ⟨_, rfl, h⟩
  · replace h := h.1 c4
    refine e_eq (lv' := [(2, rV none), (0, rV (some 16)), (1, iV p1)]) (st' := []) (by rw [c4]) (by first | rfl | rw [c4]) rfl ?_
    refine e_bipush (v := (-2)) dX11_gaps_10 (by decide) ?_
    exact e_iret rfl trivial dX11_gaps_12 ⟨_, rfl, h⟩
theorem w_X11_seat (l : Launch) (p1 : Int32) (M : o_M) (q : Int32 → o_M → Prop) (h : K_X11_findService l [rV (some 16), iV p1] M (fun r2 M1 => ((r2 = none → q (-2) M1) ∧ (∀ b3, r2 = some b3 → o_ty b3 = .inl 6 ∧ K_X11_findSeating l [rV (some 16), rV (some b3)] M1 (fun M6 => (mR M6 16 8 = some 29 ∧ (mR M6 29 1 = some 31 ∧ (mR M6 16 8 = some 29 ∧ K_X5_countGaps l [rV (some 29)] M6 (fun r11 M10 => K_X6_sitDown l [rV (some b3), rV (some 31), iV r11] M10 (fun M12 => q (mI M12 b3 9) M12)))))))))) : K_X11_seat l [rV (some 16), iV p1] M q := by
  refine o_ctr (ini := false) (by decide +kernel) rfl (fun z => by cases z) (Nat.le_of_ble_eq_true rfl) ?_
  show E_X11_seat l q 0 [(0, rV (some 16)), (1, iV p1)] [] M 0 0
  refine e_aload_n dX11_seat_0 rfl rfl ?_
  refine e_iload_n dX11_seat_1 rfl rfl ?_
  refine e_callV (As := [iV p1]) (st := []) mt_X11_findService in_X11_findService lkX11_173 rfl rfl ⟨by decide, by decide⟩ (Nat.le_of_ble_eq_true rfl) ⟨by decide, by decide⟩ rfl rfl dX11_seat_2 (Ctr.mono h (fun v M1 h => ?_))
  obtain ⟨r2, rfl, h⟩ := h
  show E_X11_seat l q 5 [(0, rV (some 16)), (1, iV p1)] [rV r2] M1 0 0
  refine e_astore_n (lv' := [(2, rV r2), (0, rV (some 16)), (1, iV p1)]) dX11_seat_5 rfl (by decide) rfl ?_
  refine e_aload_n dX11_seat_6 rfl rfl ?_
  refine e_ifnonnull (tgt := 13) dX11_seat_7 (by decide) (fun b3 c4 => ?_) (fun c4 => ?_)
  · obtain ⟨t5, h⟩ := h.2 b3 c4
    refine e_eq (lv' := [(2, rV (some b3)), (0, rV (some 16)), (1, iV p1)]) (st' := []) (by rw [c4]) (by first | rfl | rw [c4]) rfl ?_
    refine e_aload_n dX11_seat_13 rfl rfl ?_
    refine e_aload_n dX11_seat_14 rfl rfl ?_
    refine e_callV (As := [rV (some b3)]) (st := []) mt_X11_findSeating in_X11_findSeating lkX11_258 rfl rfl ⟨by decide, by decide⟩ (Nat.le_of_ble_eq_true rfl) ⟨by decide, by decide⟩ rfl rfl dX11_seat_15 (Ctr.mono h (fun v M6 h => ?_))
    obtain ⟨rfl, h⟩ := h
    show E_X11_seat l q 18 [(2, rV (some b3)), (0, rV (some 16)), (1, iV p1)] [] M6 0 0
    refine e_aload_n dX11_seat_18 rfl rfl ?_
    refine e_aload_n dX11_seat_19 rfl rfl ?_
    obtain ⟨o7, h⟩ := h
    refine e_gA flX11_60 rfl rfl o7 dX11_seat_20 ?_
    obtain ⟨o8, h⟩ := h
    refine e_gA flX11_268 rfl rfl o8 dX11_seat_23 ?_
    refine e_aload_n dX11_seat_26 rfl rfl ?_
    obtain ⟨o9, h⟩ := h
    refine e_gA flX11_60 rfl rfl o9 dX11_seat_27 ?_
    refine e_callV (As := []) (st := [rV (some 31), rV (some b3)]) mt_X5_countGaps in_X5_countGaps lkX11_262 rfl rfl ⟨by decide, by decide⟩ (Nat.le_of_ble_eq_true rfl) ⟨by decide, by decide⟩ rfl rfl dX11_seat_30 (Ctr.mono h (fun v M10 h => ?_))
    obtain ⟨r11, rfl, h⟩ := h
    show E_X11_seat l q 33 [(2, rV (some b3)), (0, rV (some 16)), (1, iV p1)] [iV r11, rV (some 31), rV (some b3)] M10 0 0
    refine e_callV (As := [rV (some 31), iV r11]) (st := []) mt_X6_sitDown in_X6_sitDown lkX11_271 rfl t5 ⟨by decide, by decide⟩ (Nat.le_of_ble_eq_true rfl) ⟨by decide, by decide⟩ rfl rfl dX11_seat_33 (Ctr.mono h (fun v M12 h => ?_))
    obtain ⟨rfl, h⟩ := h
    show E_X11_seat l q 36 [(2, rV (some b3)), (0, rV (some 16)), (1, iV p1)] [] M12 0 0
    refine e_aload_n dX11_seat_36 rfl rfl ?_
    refine e_gI flX11_232 t5 rfl dX11_seat_37 ?_
    exact e_iret rfl trivial dX11_seat_40 ⟨_, rfl, h⟩
  · replace h := h.1 c4
    refine e_eq (lv' := [(2, rV none), (0, rV (some 16)), (1, iV p1)]) (st' := []) (by rw [c4]) (by first | rfl | rw [c4]) rfl ?_
    refine e_bipush (v := (-2)) dX11_seat_10 (by decide) ?_
    exact e_iret rfl trivial dX11_seat_12 ⟨_, rfl, h⟩
abbrev H_X3_advance_9 (l : Launch) (q : o_M → Prop) (M : o_M) : Prop := E_X3_advance l q 9 [(0, rV (some 23))] [] M 0 0
theorem w_X3_advance (l : Launch) (M : o_M) (q : o_M → Prop) (h : (((mI M 23 11) = (-1) → H_X3_advance_9 l q M) ∧ (¬ (mI M 23 11) = (-1) → q M))) : K_X3_advance l [rV (some 23)] M q := by
  refine o_ctr (ini := false) (by decide +kernel) rfl (fun z => by cases z) (Nat.le_of_ble_eq_true rfl) ?_
  show E_X3_advance l q 0 [(0, rV (some 23))] [] M 0 0
  refine e_aload_n dX3_advance_0 rfl rfl ?_
  refine e_gI flX3_49 rfl rfl dX3_advance_1 ?_
  refine e_iconst (v := (-1)) dX3_advance_4 (by decide) ?_
  refine e_ic_eq (tgt := 9) dX3_advance_5 (by decide) (fun c1 => ?_) (fun c1 => ?_)
  · replace h := h.1 c1
    exact e_lv (List.forall_mem_cons.mpr ⟨rfl, fun _ h => absurd h List.not_mem_nil⟩) h
  · replace h := h.2 c1
    exact e_ret rfl dX3_advance_8 ⟨rfl, h⟩
theorem w_X3_advance_9 (l : Launch) (q : o_M → Prop) (M : o_M) (h : (((mI M 23 3) ≤ (mI M 23 9) → (((mI (sI M 23 8 (mI M 23 9)) 23 9) < (mI (sI M 23 8 (mI M 23 9)) 23 3) → (mR (sI M 23 8 (mI M 23 9)) 23 2 = some 22 ∧ (vp_in (mI (sI M 23 8 (mI M 23 9)) 23 9) (mN (sI M 23 8 (mI M 23 9)) 22) ∧ K_X3_isLetter l [iV (mI (sI M 23 8 (mI M 23 9)) 22 (mI (sI M 23 8 (mI M 23 9)) 23 9).toNatClampNeg)] (sI M 23 8 (mI M 23 9)) (fun r7 M6 => ((r7 = 0 → (mR M6 23 2 = some 22 ∧ (vp_in (mI M6 23 9) (mN M6 22) ∧ K_X3_isDigit l [iV (mI M6 22 (mI M6 23 9).toNatClampNeg)] M6 (fun r12 M11 => ((r12 = 0 → K_X3_takeSign l [rV (some 23)] M11 (fun M14 => q M14)) ∧ (¬ r12 = 0 → K_X3_takeNumber l [rV (some 23)] M11 (fun M15 => q M15))))))) ∧ (¬ r7 = 0 → K_X3_takeWord l [rV (some 23)] M6 (fun M16 => q M16))))))) ∧ (¬ (mI (sI M 23 8 (mI M 23 9)) 23 9) < (mI (sI M 23 8 (mI M 23 9)) 23 3) → q (sI (sI M 23 8 (mI M 23 9)) 23 6 25)))) ∧ (¬ (mI M 23 3) ≤ (mI M 23 9) → (mR M 23 2 = some 22 ∧ (vp_in (mI M 23 9) (mN M 22) ∧ K_X3_isBlank l [iV (mI M 22 (mI M 23 9).toNatClampNeg)] M (fun r20 M19 => ((r20 = 0 → (((mI (sI M19 23 8 (mI M19 23 9)) 23 9) < (mI (sI M19 23 8 (mI M19 23 9)) 23 3) → (mR (sI M19 23 8 (mI M19 23 9)) 23 2 = some 22 ∧ (vp_in (mI (sI M19 23 8 (mI M19 23 9)) 23 9) (mN (sI M19 23 8 (mI M19 23 9)) 22) ∧ K_X3_isLetter l [iV (mI (sI M19 23 8 (mI M19 23 9)) 22 (mI (sI M19 23 8 (mI M19 23 9)) 23 9).toNatClampNeg)] (sI M19 23 8 (mI M19 23 9)) (fun r26 M25 => ((r26 = 0 → (mR M25 23 2 = some 22 ∧ (vp_in (mI M25 23 9) (mN M25 22) ∧ K_X3_isDigit l [iV (mI M25 22 (mI M25 23 9).toNatClampNeg)] M25 (fun r31 M30 => ((r31 = 0 → K_X3_takeSign l [rV (some 23)] M30 (fun M33 => q M33)) ∧ (¬ r31 = 0 → K_X3_takeNumber l [rV (some 23)] M30 (fun M34 => q M34))))))) ∧ (¬ r26 = 0 → K_X3_takeWord l [rV (some 23)] M25 (fun M35 => q M35))))))) ∧ (¬ (mI (sI M19 23 8 (mI M19 23 9)) 23 9) < (mI (sI M19 23 8 (mI M19 23 9)) 23 3) → q (sI (sI M19 23 8 (mI M19 23 9)) 23 6 25)))) ∧ (¬ r20 = 0 → H_X3_advance_9 l q (sI M19 23 9 ((mI M19 23 9) + 1)))))))))) : H_X3_advance_9 l q M := by
  refine e_aload_n dX3_advance_9 rfl rfl ?_
  refine e_gI flX3_43 rfl rfl dX3_advance_10 ?_
  refine e_aload_n dX3_advance_13 rfl rfl ?_
  refine e_gI flX3_22 rfl rfl dX3_advance_14 ?_
  refine e_ic_ge (tgt := 48) dX3_advance_17 (by decide) (fun c2 => ?_) (fun c2 => ?_)
  · replace h := h.1 c2
    refine e_aload_n dX3_advance_48 rfl rfl ?_
    refine e_aload_n dX3_advance_49 rfl rfl ?_
    refine e_gI flX3_43 rfl rfl dX3_advance_50 ?_
    refine e_pI flX3_40 rfl (Or.inl rfl) rfl rfl rfl dX3_advance_53 ?_
    refine e_aload_n dX3_advance_56 rfl rfl ?_
    refine e_gI flX3_43 rfl rfl dX3_advance_57 ?_
    refine e_aload_n dX3_advance_60 rfl rfl ?_
    refine e_gI flX3_22 rfl rfl dX3_advance_61 ?_
    refine e_ic_lt (tgt := 76) dX3_advance_64 (by decide) (fun c3 => ?_) (fun c3 => ?_)
    · replace h := h.1 c3
      refine e_aload_n dX3_advance_76 rfl rfl ?_
      obtain ⟨o4, h⟩ := h
      refine e_gA flX3_18 rfl rfl o4 dX3_advance_77 ?_
      refine e_aload_n dX3_advance_80 rfl rfl ?_
      refine e_gI flX3_43 rfl rfl dX3_advance_81 ?_
      obtain ⟨o5, h⟩ := h
      refine e_bald rfl o5 dX3_advance_84 ?_
      refine e_callS (As := [iV (mI (sI M 23 8 (mI M 23 9)) 22 (mI (sI M 23 8 (mI M 23 9)) 23 9).toNatClampNeg)]) (st := []) mt_X3_isLetter is_X3_isLetter lkX3_97 ⟨by decide, by decide⟩ (Nat.le_of_ble_eq_true rfl) ⟨by decide, by decide⟩ rfl rfl dX3_advance_85 (Ctr.mono h (fun v M6 h => ?_))
      obtain ⟨r7, rfl, h⟩ := h
      show E_X3_advance l q 88 [(0, rV (some 23))] [iV r7] M6 0 0
      refine e_if_eq (tgt := 98) dX3_advance_88 (by decide) (fun c8 => ?_) (fun c8 => ?_)
      · replace h := h.1 c8
        refine e_aload_n dX3_advance_98 rfl rfl ?_
        obtain ⟨o9, h⟩ := h
        refine e_gA flX3_18 rfl rfl o9 dX3_advance_99 ?_
        refine e_aload_n dX3_advance_102 rfl rfl ?_
        refine e_gI flX3_43 rfl rfl dX3_advance_103 ?_
        obtain ⟨o10, h⟩ := h
        refine e_bald rfl o10 dX3_advance_106 ?_
        refine e_callS (As := [iV (mI M6 22 (mI M6 23 9).toNatClampNeg)]) (st := []) mt_X3_isDigit is_X3_isDigit lkX3_103 ⟨by decide, by decide⟩ (Nat.le_of_ble_eq_true rfl) ⟨by decide, by decide⟩ rfl rfl dX3_advance_107 (Ctr.mono h (fun v M11 h => ?_))
        obtain ⟨r12, rfl, h⟩ := h
        show E_X3_advance l q 110 [(0, rV (some 23))] [iV r12] M11 0 0
        refine e_if_eq (tgt := 120) dX3_advance_110 (by decide) (fun c13 => ?_) (fun c13 => ?_)
        · replace h := h.1 c13
          refine e_aload_n dX3_advance_120 rfl rfl ?_
          refine e_callV (As := []) (st := []) mt_X3_takeSign in_X3_takeSign lkX3_109 rfl rfl ⟨by decide, by decide⟩ (Nat.le_of_ble_eq_true rfl) ⟨by decide, by decide⟩ rfl rfl dX3_advance_121 (Ctr.mono h (fun v M14 h => ?_))
          obtain ⟨rfl, h⟩ := h
          show E_X3_advance l q 124 [(0, rV (some 23))] [] M14 0 0
          exact e_ret rfl dX3_advance_124 ⟨rfl, h⟩
        · replace h := h.2 c13
          refine e_aload_n dX3_advance_113 rfl rfl ?_
          refine e_callV (As := []) (st := []) mt_X3_takeNumber in_X3_takeNumber lkX3_106 rfl rfl ⟨by decide, by decide⟩ (Nat.le_of_ble_eq_true rfl) ⟨by decide, by decide⟩ rfl rfl dX3_advance_114 (Ctr.mono h (fun v M15 h => ?_))
          obtain ⟨rfl, h⟩ := h
          show E_X3_advance l q 117 [(0, rV (some 23))] [] M15 0 0
          refine e_goto (tgt := 124) dX3_advance_117 (by decide) ?_
          exact e_ret rfl dX3_advance_124 ⟨rfl, h⟩
      · replace h := h.2 c8
        refine e_aload_n dX3_advance_91 rfl rfl ?_
        refine e_callV (As := []) (st := []) mt_X3_takeWord in_X3_takeWord lkX3_100 rfl rfl ⟨by decide, by decide⟩ (Nat.le_of_ble_eq_true rfl) ⟨by decide, by decide⟩ rfl rfl dX3_advance_92 (Ctr.mono h (fun v M16 h => ?_))
        obtain ⟨rfl, h⟩ := h
        show E_X3_advance l q 95 [(0, rV (some 23))] [] M16 0 0
        refine e_goto (tgt := 124) dX3_advance_95 (by decide) ?_
        exact e_ret rfl dX3_advance_124 ⟨rfl, h⟩
    · replace h := h.2 c3
      refine e_aload_n dX3_advance_67 rfl rfl ?_
      refine e_bipush (v := 25) dX3_advance_68 (by decide) ?_
      refine e_pI flX3_34 rfl (Or.inl rfl) rfl rfl rfl dX3_advance_70 ?_
      refine e_goto (tgt := 124) dX3_advance_73 (by decide) ?_
      exact e_ret rfl dX3_advance_124 ⟨rfl, h⟩
  · replace h := h.2 c2
    refine e_aload_n dX3_advance_20 rfl rfl ?_
    obtain ⟨o17, h⟩ := h
    refine e_gA flX3_18 rfl rfl o17 dX3_advance_21 ?_
    refine e_aload_n dX3_advance_24 rfl rfl ?_
    refine e_gI flX3_43 rfl rfl dX3_advance_25 ?_
    obtain ⟨o18, h⟩ := h
    refine e_bald rfl o18 dX3_advance_28 ?_
    refine e_callS (As := [iV (mI M 22 (mI M 23 9).toNatClampNeg)]) (st := []) mt_X3_isBlank is_X3_isBlank lkX3_93 ⟨by decide, by decide⟩ (Nat.le_of_ble_eq_true rfl) ⟨by decide, by decide⟩ rfl rfl dX3_advance_29 (Ctr.mono h (fun v M19 h => ?_))
    obtain ⟨r20, rfl, h⟩ := h
    show E_X3_advance l q 32 [(0, rV (some 23))] [iV r20] M19 0 0
    refine e_if_eq (tgt := 48) dX3_advance_32 (by decide) (fun c21 => ?_) (fun c21 => ?_)
    · replace h := h.1 c21
      refine e_aload_n dX3_advance_48 rfl rfl ?_
      refine e_aload_n dX3_advance_49 rfl rfl ?_
      refine e_gI flX3_43 rfl rfl dX3_advance_50 ?_
      refine e_pI flX3_40 rfl (Or.inl rfl) rfl rfl rfl dX3_advance_53 ?_
      refine e_aload_n dX3_advance_56 rfl rfl ?_
      refine e_gI flX3_43 rfl rfl dX3_advance_57 ?_
      refine e_aload_n dX3_advance_60 rfl rfl ?_
      refine e_gI flX3_22 rfl rfl dX3_advance_61 ?_
      refine e_ic_lt (tgt := 76) dX3_advance_64 (by decide) (fun c22 => ?_) (fun c22 => ?_)
      · replace h := h.1 c22
        refine e_aload_n dX3_advance_76 rfl rfl ?_
        obtain ⟨o23, h⟩ := h
        refine e_gA flX3_18 rfl rfl o23 dX3_advance_77 ?_
        refine e_aload_n dX3_advance_80 rfl rfl ?_
        refine e_gI flX3_43 rfl rfl dX3_advance_81 ?_
        obtain ⟨o24, h⟩ := h
        refine e_bald rfl o24 dX3_advance_84 ?_
        refine e_callS (As := [iV (mI (sI M19 23 8 (mI M19 23 9)) 22 (mI (sI M19 23 8 (mI M19 23 9)) 23 9).toNatClampNeg)]) (st := []) mt_X3_isLetter is_X3_isLetter lkX3_97 ⟨by decide, by decide⟩ (Nat.le_of_ble_eq_true rfl) ⟨by decide, by decide⟩ rfl rfl dX3_advance_85 (Ctr.mono h (fun v M25 h => ?_))
        obtain ⟨r26, rfl, h⟩ := h
        show E_X3_advance l q 88 [(0, rV (some 23))] [iV r26] M25 0 0
        refine e_if_eq (tgt := 98) dX3_advance_88 (by decide) (fun c27 => ?_) (fun c27 => ?_)
        · replace h := h.1 c27
          refine e_aload_n dX3_advance_98 rfl rfl ?_
          obtain ⟨o28, h⟩ := h
          refine e_gA flX3_18 rfl rfl o28 dX3_advance_99 ?_
          refine e_aload_n dX3_advance_102 rfl rfl ?_
          refine e_gI flX3_43 rfl rfl dX3_advance_103 ?_
          obtain ⟨o29, h⟩ := h
          refine e_bald rfl o29 dX3_advance_106 ?_
          refine e_callS (As := [iV (mI M25 22 (mI M25 23 9).toNatClampNeg)]) (st := []) mt_X3_isDigit is_X3_isDigit lkX3_103 ⟨by decide, by decide⟩ (Nat.le_of_ble_eq_true rfl) ⟨by decide, by decide⟩ rfl rfl dX3_advance_107 (Ctr.mono h (fun v M30 h => ?_))
          obtain ⟨r31, rfl, h⟩ := h
          show E_X3_advance l q 110 [(0, rV (some 23))] [iV r31] M30 0 0
          refine e_if_eq (tgt := 120) dX3_advance_110 (by decide) (fun c32 => ?_) (fun c32 => ?_)
          · replace h := h.1 c32
            refine e_aload_n dX3_advance_120 rfl rfl ?_
            refine e_callV (As := []) (st := []) mt_X3_takeSign in_X3_takeSign lkX3_109 rfl rfl ⟨by decide, by decide⟩ (Nat.le_of_ble_eq_true rfl) ⟨by decide, by decide⟩ rfl rfl dX3_advance_121 (Ctr.mono h (fun v M33 h => ?_))
            obtain ⟨rfl, h⟩ := h
            show E_X3_advance l q 124 [(0, rV (some 23))] [] M33 0 0
            exact e_ret rfl dX3_advance_124 ⟨rfl, h⟩
          · replace h := h.2 c32
            refine e_aload_n dX3_advance_113 rfl rfl ?_
            refine e_callV (As := []) (st := []) mt_X3_takeNumber in_X3_takeNumber lkX3_106 rfl rfl ⟨by decide, by decide⟩ (Nat.le_of_ble_eq_true rfl) ⟨by decide, by decide⟩ rfl rfl dX3_advance_114 (Ctr.mono h (fun v M34 h => ?_))
            obtain ⟨rfl, h⟩ := h
            show E_X3_advance l q 117 [(0, rV (some 23))] [] M34 0 0
            refine e_goto (tgt := 124) dX3_advance_117 (by decide) ?_
            exact e_ret rfl dX3_advance_124 ⟨rfl, h⟩
        · replace h := h.2 c27
          refine e_aload_n dX3_advance_91 rfl rfl ?_
          refine e_callV (As := []) (st := []) mt_X3_takeWord in_X3_takeWord lkX3_100 rfl rfl ⟨by decide, by decide⟩ (Nat.le_of_ble_eq_true rfl) ⟨by decide, by decide⟩ rfl rfl dX3_advance_92 (Ctr.mono h (fun v M35 h => ?_))
          obtain ⟨rfl, h⟩ := h
          show E_X3_advance l q 95 [(0, rV (some 23))] [] M35 0 0
          refine e_goto (tgt := 124) dX3_advance_95 (by decide) ?_
          exact e_ret rfl dX3_advance_124 ⟨rfl, h⟩
      · replace h := h.2 c22
        refine e_aload_n dX3_advance_67 rfl rfl ?_
        refine e_bipush (v := 25) dX3_advance_68 (by decide) ?_
        refine e_pI flX3_34 rfl (Or.inl rfl) rfl rfl rfl dX3_advance_70 ?_
        refine e_goto (tgt := 124) dX3_advance_73 (by decide) ?_
        exact e_ret rfl dX3_advance_124 ⟨rfl, h⟩
    · replace h := h.2 c21
      refine e_aload_n dX3_advance_35 rfl rfl ?_
      refine e_dup rfl dX3_advance_36 ?_
      refine e_gI flX3_43 rfl rfl dX3_advance_37 ?_
      refine e_iconst (v := 1) dX3_advance_40 (by decide) ?_
      refine e_iadd dX3_advance_41 ?_
      refine e_pI flX3_43 rfl (Or.inl rfl) rfl rfl rfl dX3_advance_42 ?_
      refine e_goto (tgt := 9) dX3_advance_45 (by decide) ?_
      exact e_lv (List.forall_mem_cons.mpr ⟨rfl, fun _ h => absurd h List.not_mem_nil⟩) h
theorem w_X3_expect (l : Launch) (p1 : Int32) (M : o_M) (q : o_M → Prop) (h : ((¬ (mI M 23 6) = p1 → K_X3_fail l [rV (some 23)] M (fun M2 => q M2)) ∧ ((mI M 23 6) = p1 → K_X3_advance l [rV (some 23)] M (fun M3 => q M3)))) : K_X3_expect l [rV (some 23), iV p1] M q := by
  refine o_ctr (ini := false) (by decide +kernel) rfl (fun z => by cases z) (Nat.le_of_ble_eq_true rfl) ?_
  show E_X3_expect l q 0 [(0, rV (some 23)), (1, iV p1)] [] M 0 0
  refine e_aload_n dX3_expect_0 rfl rfl ?_
  refine e_gI flX3_34 rfl rfl dX3_expect_1 ?_
  refine e_iload_n dX3_expect_4 rfl rfl ?_
  refine e_ic_ne (tgt := 15) dX3_expect_5 (by decide) (fun c1 => ?_) (fun c1 => ?_)
  · replace h := h.1 c1
    refine e_aload_n dX3_expect_15 rfl rfl ?_
    refine e_callV (As := []) (st := []) mt_X3_fail in_X3_fail lkX3_90 rfl rfl ⟨by decide, by decide⟩ (Nat.le_of_ble_eq_true rfl) ⟨by decide, by decide⟩ rfl rfl dX3_expect_16 (Ctr.mono h (fun v M2 h => ?_))
    obtain ⟨rfl, h⟩ := h
    show E_X3_expect l q 19 [(0, rV (some 23)), (1, iV p1)] [] M2 0 0
    exact e_ret rfl dX3_expect_19 ⟨rfl, h⟩
  · replace h := h.2 c1
    refine e_aload_n dX3_expect_8 rfl rfl ?_
    refine e_callV (As := []) (st := []) mt_X3_advance in_X3_advance lkX3_52 rfl rfl ⟨by decide, by decide⟩ (Nat.le_of_ble_eq_true rfl) ⟨by decide, by decide⟩ rfl rfl dX3_expect_9 (Ctr.mono h (fun v M3 h => ?_))
    obtain ⟨rfl, h⟩ := h
    show E_X3_expect l q 12 [(0, rV (some 23)), (1, iV p1)] [] M3 0 0
    refine e_goto (tgt := 19) dX3_expect_12 (by decide) ?_
    exact e_ret rfl dX3_expect_19 ⟨rfl, h⟩
theorem w_X3_openOne (l : Launch) (M : o_M) (q : Int32 → o_M → Prop) (h : (((mI M 23 10) < 6 → K_X3_advance l [rV (some 23)] (sI M 23 10 ((mI M 23 10) + 1)) (fun M2 => q 1 M2)) ∧ (¬ (mI M 23 10) < 6 → K_X3_fail l [rV (some 23)] M (fun M3 => q 0 M3)))) : K_X3_openOne l [rV (some 23)] M q := by
  refine o_ctr (ini := false) (by decide +kernel) rfl (fun z => by cases z) (Nat.le_of_ble_eq_true rfl) ?_
  show E_X3_openOne l q 0 [(0, rV (some 23))] [] M 0 0
  refine e_aload_n dX3_openOne_0 rfl rfl ?_
  refine e_gI flX3_46 rfl rfl dX3_openOne_1 ?_
  refine e_bipush (v := 6) dX3_openOne_4 (by decide) ?_
  refine e_ic_lt (tgt := 15) dX3_openOne_6 (by decide) (fun c1 => ?_) (fun c1 => ?_)
  · replace h := h.1 c1
    refine e_aload_n dX3_openOne_15 rfl rfl ?_
    refine e_dup rfl dX3_openOne_16 ?_
    refine e_gI flX3_46 rfl rfl dX3_openOne_17 ?_
    refine e_iconst (v := 1) dX3_openOne_20 (by decide) ?_
    refine e_iadd dX3_openOne_21 ?_
    refine e_pI flX3_46 rfl (Or.inl rfl) rfl rfl rfl dX3_openOne_22 ?_
    refine e_aload_n dX3_openOne_25 rfl rfl ?_
    refine e_callV (As := []) (st := []) mt_X3_advance in_X3_advance lkX3_52 rfl rfl ⟨by decide, by decide⟩ (Nat.le_of_ble_eq_true rfl) ⟨by decide, by decide⟩ rfl rfl dX3_openOne_26 (Ctr.mono h (fun v M2 h => ?_))
    obtain ⟨rfl, h⟩ := h
    show E_X3_openOne l q 29 [(0, rV (some 23))] [] M2 0 0
    refine e_iconst (v := 1) dX3_openOne_29 (by decide) ?_
    exact e_iret rfl rb_1 dX3_openOne_30 ⟨_, rfl, h⟩
  · replace h := h.2 c1
    refine e_aload_n dX3_openOne_9 rfl rfl ?_
    refine e_callV (As := []) (st := []) mt_X3_fail in_X3_fail lkX3_90 rfl rfl ⟨by decide, by decide⟩ (Nat.le_of_ble_eq_true rfl) ⟨by decide, by decide⟩ rfl rfl dX3_openOne_10 (Ctr.mono h (fun v M3 h => ?_))
    obtain ⟨rfl, h⟩ := h
    show E_X3_openOne l q 13 [(0, rV (some 23))] [] M3 0 0
    refine e_iconst (v := 0) dX3_openOne_13 (by decide) ?_
    exact e_iret rfl rb_0 dX3_openOne_14 ⟨_, rfl, h⟩
abbrev H_X3_readAnd_6 (l : Launch) (d : Nat) (q : o_M → Prop) (v1 : Int32) (M : o_M) : Prop := E_X3_readAnd l d q 6 [(0, rV (some 23)), (1, iV v1)] [] M 0 0
theorem w_X3_readAnd (l : Launch) (d : Nat) (hd : 20 ≤ d) (M : o_M) (q : o_M → Prop) (h : K_X3_readNot l (d - 1) [rV (some 23)] M (fun M1 => H_X3_readAnd_6 l d q 0 M1)) : K_X3_readAnd l d [rV (some 23)] M q := by
  refine o_ctr (ini := false) (by decide +kernel) rfl (fun z => by cases z) (Nat.le_of_ble_eq_true rfl) ?_
  show E_X3_readAnd l d q 0 [(0, rV (some 23))] [] M 0 0
  refine e_aload_n dX3_readAnd_0 rfl rfl ?_
  refine e_callV (As := []) (st := []) mt_X3_readNot in_X3_readNot lkX3_71 rfl rfl (o_roomd (by omega) (by decide)) (Nat.le_of_ble_eq_true rfl) ⟨Nat.le_of_ble_eq_true rfl, Nat.le_of_ble_eq_true rfl⟩ rfl rfl dX3_readAnd_1 (Ctr.mono h (fun v M1 h => ?_))
  obtain ⟨rfl, h⟩ := h
  show E_X3_readAnd l d q 4 [(0, rV (some 23))] [] M1 0 0
  refine e_iconst (v := 0) dX3_readAnd_4 (by decide) ?_
  refine e_istore_n (lv' := [(1, iV 0), (0, rV (some 23))]) dX3_readAnd_5 rfl (by decide) rfl ?_
  exact e_lv (List.forall_mem_cons.mpr ⟨rfl, List.forall_mem_cons.mpr ⟨rfl, fun _ h => absurd h List.not_mem_nil⟩⟩) h
theorem w_X3_readAnd_6 (l : Launch) (d : Nat) (q : o_M → Prop) (v1 : Int32) (hd : 20 ≤ d) (M : o_M) (h : ((300 ≤ v1 → q M) ∧ (¬ 300 ≤ v1 → ((¬ (mI M 23 6) = 14 → q M) ∧ ((mI M 23 6) = 14 → K_X3_advance l [rV (some 23)] M (fun M4 => K_X3_readNot l (d - 1) [rV (some 23)] M4 (fun M5 => K_X3_emitToken l [rV (some 23), iV 14] M5 (fun M6 => H_X3_readAnd_6 l d q (v1 + 1) M6)))))))) : H_X3_readAnd_6 l d q v1 M := by
  refine e_iload_n dX3_readAnd_6 rfl rfl ?_
  refine e_sipush (v := 300) dX3_readAnd_7 (by decide) ?_
  refine e_ic_ge (tgt := 42) dX3_readAnd_10 (by decide) (fun c2 => ?_) (fun c2 => ?_)
  · replace h := h.1 c2
    exact e_ret rfl dX3_readAnd_42 ⟨rfl, h⟩
  · replace h := h.2 c2
    refine e_aload_n dX3_readAnd_13 rfl rfl ?_
    refine e_gI flX3_34 rfl rfl dX3_readAnd_14 ?_
    refine e_bipush (v := 14) dX3_readAnd_17 (by decide) ?_
    refine e_ic_ne (tgt := 42) dX3_readAnd_19 (by decide) (fun c3 => ?_) (fun c3 => ?_)
    · replace h := h.1 c3
      exact e_ret rfl dX3_readAnd_42 ⟨rfl, h⟩
    · replace h := h.2 c3
      refine e_aload_n dX3_readAnd_22 rfl rfl ?_
      refine e_callV (As := []) (st := []) mt_X3_advance in_X3_advance lkX3_52 rfl rfl (o_roomd (by omega) (by decide)) (Nat.le_of_ble_eq_true rfl) ⟨Nat.le_of_ble_eq_true rfl, Nat.le_of_ble_eq_true rfl⟩ rfl rfl dX3_readAnd_23 (Ctr.mono h (fun v M4 h => ?_))
      obtain ⟨rfl, h⟩ := h
      show E_X3_readAnd l d q 26 [(0, rV (some 23)), (1, iV v1)] [] M4 0 0
      refine e_aload_n dX3_readAnd_26 rfl rfl ?_
      refine e_callV (As := []) (st := []) mt_X3_readNot in_X3_readNot lkX3_71 rfl rfl (o_roomd (by omega) (by decide)) (Nat.le_of_ble_eq_true rfl) ⟨Nat.le_of_ble_eq_true rfl, Nat.le_of_ble_eq_true rfl⟩ rfl rfl dX3_readAnd_27 (Ctr.mono h (fun v M5 h => ?_))
      obtain ⟨rfl, h⟩ := h
      show E_X3_readAnd l d q 30 [(0, rV (some 23)), (1, iV v1)] [] M5 0 0
      refine e_aload_n dX3_readAnd_30 rfl rfl ?_
      refine e_bipush (v := 14) dX3_readAnd_31 (by decide) ?_
      refine e_callV (As := [iV 14]) (st := []) mt_X3_emitToken in_X3_emitToken lkX3_68 rfl rfl (o_roomd (by omega) (by decide)) (Nat.le_of_ble_eq_true rfl) ⟨Nat.le_of_ble_eq_true rfl, Nat.le_of_ble_eq_true rfl⟩ rfl rfl dX3_readAnd_33 (Ctr.mono h (fun v M6 h => ?_))
      obtain ⟨rfl, h⟩ := h
      show E_X3_readAnd l d q 36 [(0, rV (some 23)), (1, iV v1)] [] M6 0 0
      refine e_iinc (v := 1) (lv' := [(1, iV (v1 + 1)), (0, rV (some 23))]) rfl (by decide) (by decide) rfl dX3_readAnd_36 ?_
      refine e_goto (tgt := 6) dX3_readAnd_39 (by decide) ?_
      exact e_lv (List.forall_mem_cons.mpr ⟨rfl, List.forall_mem_cons.mpr ⟨rfl, fun _ h => absurd h List.not_mem_nil⟩⟩) h
theorem w_X3_readNot (l : Launch) (d : Nat) (hd : 20 ≤ d) (M : o_M) (q : o_M → Prop) (h : ((¬ (mI M 23 6) = 15 → K_X3_readSum l (d - 1) [rV (some 23)] M (fun M2 => (((mI M2 23 6) = 22 → K_X3_advance l [rV (some 23)] M2 (fun M4 => K_X3_readSum l (d - 1) [rV (some 23)] M4 (fun M5 => K_X3_emitToken l [rV (some 23), iV (mI M2 23 6)] M5 (fun M6 => q M6)))) ∧ (¬ (mI M2 23 6) = 22 → ((¬ (mI M2 23 6) = 23 → q M2) ∧ ((mI M2 23 6) = 23 → K_X3_advance l [rV (some 23)] M2 (fun M8 => K_X3_readSum l (d - 1) [rV (some 23)] M8 (fun M9 => K_X3_emitToken l [rV (some 23), iV (mI M2 23 6)] M9 (fun M10 => q M10))))))))) ∧ ((mI M 23 6) = 15 → K_X3_openOne l [rV (some 23)] M (fun r12 M11 => ((r12 = 0 → q M11) ∧ (¬ r12 = 0 → K_X3_readNot l (d - 1) [rV (some 23)] M11 (fun M14 => K_X3_emitToken l [rV (some 23), iV 15] (sI M14 23 10 ((mI M14 23 10) - 1)) (fun M15 => q M15)))))))) : K_X3_readNot l d [rV (some 23)] M q := by
  refine o_ctr (ini := false) (by decide +kernel) rfl (fun z => by cases z) (Nat.le_of_ble_eq_true rfl) ?_
  show E_X3_readNot l d q 0 [(0, rV (some 23))] [] M 0 0
  refine e_aload_n dX3_readNot_0 rfl rfl ?_
  refine e_gI flX3_34 rfl rfl dX3_readNot_1 ?_
  refine e_bipush (v := 15) dX3_readNot_4 (by decide) ?_
  refine e_ic_ne (tgt := 37) dX3_readNot_6 (by decide) (fun c1 => ?_) (fun c1 => ?_)
  · replace h := h.1 c1
    refine e_aload_n dX3_readNot_37 rfl rfl ?_
    refine e_callV (As := []) (st := []) mt_X3_readSum in_X3_readSum lkX3_78 rfl rfl (o_roomd (by omega) (by decide)) (Nat.le_of_ble_eq_true rfl) ⟨Nat.le_of_ble_eq_true rfl, Nat.le_of_ble_eq_true rfl⟩ rfl rfl dX3_readNot_38 (Ctr.mono h (fun v M2 h => ?_))
    obtain ⟨rfl, h⟩ := h
    show E_X3_readNot l d q 41 [(0, rV (some 23))] [] M2 0 0
    refine e_aload_n dX3_readNot_41 rfl rfl ?_
    refine e_gI flX3_34 rfl rfl dX3_readNot_42 ?_
    refine e_bipush (v := 22) dX3_readNot_45 (by decide) ?_
    refine e_ic_eq (tgt := 59) dX3_readNot_47 (by decide) (fun c3 => ?_) (fun c3 => ?_)
    · replace h := h.1 c3
      refine e_aload_n dX3_readNot_59 rfl rfl ?_
      refine e_gI flX3_34 rfl rfl dX3_readNot_60 ?_
      refine e_istore_n (lv' := [(1, iV (mI M2 23 6)), (0, rV (some 23))]) dX3_readNot_63 rfl (by decide) rfl ?_
      refine e_aload_n dX3_readNot_64 rfl rfl ?_
      refine e_callV (As := []) (st := []) mt_X3_advance in_X3_advance lkX3_52 rfl rfl (o_roomd (by omega) (by decide)) (Nat.le_of_ble_eq_true rfl) ⟨Nat.le_of_ble_eq_true rfl, Nat.le_of_ble_eq_true rfl⟩ rfl rfl dX3_readNot_65 (Ctr.mono h (fun v M4 h => ?_))
      obtain ⟨rfl, h⟩ := h
      show E_X3_readNot l d q 68 [(1, iV (mI M2 23 6)), (0, rV (some 23))] [] M4 0 0
      refine e_aload_n dX3_readNot_68 rfl rfl ?_
      refine e_callV (As := []) (st := []) mt_X3_readSum in_X3_readSum lkX3_78 rfl rfl (o_roomd (by omega) (by decide)) (Nat.le_of_ble_eq_true rfl) ⟨Nat.le_of_ble_eq_true rfl, Nat.le_of_ble_eq_true rfl⟩ rfl rfl dX3_readNot_69 (Ctr.mono h (fun v M5 h => ?_))
      obtain ⟨rfl, h⟩ := h
      show E_X3_readNot l d q 72 [(1, iV (mI M2 23 6)), (0, rV (some 23))] [] M5 0 0
      refine e_aload_n dX3_readNot_72 rfl rfl ?_
      refine e_iload_n dX3_readNot_73 rfl rfl ?_
      refine e_callV (As := [iV (mI M2 23 6)]) (st := []) mt_X3_emitToken in_X3_emitToken lkX3_68 rfl rfl (o_roomd (by omega) (by decide)) (Nat.le_of_ble_eq_true rfl) ⟨Nat.le_of_ble_eq_true rfl, Nat.le_of_ble_eq_true rfl⟩ rfl rfl dX3_readNot_74 (Ctr.mono h (fun v M6 h => ?_))
      obtain ⟨rfl, h⟩ := h
      show E_X3_readNot l d q 77 [(1, iV (mI M2 23 6)), (0, rV (some 23))] [] M6 0 0
      exact e_ret rfl dX3_readNot_77 ⟨rfl, h⟩
    · replace h := h.2 c3
      refine e_aload_n dX3_readNot_50 rfl rfl ?_
      refine e_gI flX3_34 rfl rfl dX3_readNot_51 ?_
      refine e_bipush (v := 23) dX3_readNot_54 (by decide) ?_
      refine e_ic_ne (tgt := 77) dX3_readNot_56 (by decide) (fun c7 => ?_) (fun c7 => ?_)
      · replace h := h.1 c7
        exact e_ret rfl dX3_readNot_77 ⟨rfl, h⟩
      · replace h := h.2 c7
        refine e_aload_n dX3_readNot_59 rfl rfl ?_
        refine e_gI flX3_34 rfl rfl dX3_readNot_60 ?_
        refine e_istore_n (lv' := [(1, iV (mI M2 23 6)), (0, rV (some 23))]) dX3_readNot_63 rfl (by decide) rfl ?_
        refine e_aload_n dX3_readNot_64 rfl rfl ?_
        refine e_callV (As := []) (st := []) mt_X3_advance in_X3_advance lkX3_52 rfl rfl (o_roomd (by omega) (by decide)) (Nat.le_of_ble_eq_true rfl) ⟨Nat.le_of_ble_eq_true rfl, Nat.le_of_ble_eq_true rfl⟩ rfl rfl dX3_readNot_65 (Ctr.mono h (fun v M8 h => ?_))
        obtain ⟨rfl, h⟩ := h
        show E_X3_readNot l d q 68 [(1, iV (mI M2 23 6)), (0, rV (some 23))] [] M8 0 0
        refine e_aload_n dX3_readNot_68 rfl rfl ?_
        refine e_callV (As := []) (st := []) mt_X3_readSum in_X3_readSum lkX3_78 rfl rfl (o_roomd (by omega) (by decide)) (Nat.le_of_ble_eq_true rfl) ⟨Nat.le_of_ble_eq_true rfl, Nat.le_of_ble_eq_true rfl⟩ rfl rfl dX3_readNot_69 (Ctr.mono h (fun v M9 h => ?_))
        obtain ⟨rfl, h⟩ := h
        show E_X3_readNot l d q 72 [(1, iV (mI M2 23 6)), (0, rV (some 23))] [] M9 0 0
        refine e_aload_n dX3_readNot_72 rfl rfl ?_
        refine e_iload_n dX3_readNot_73 rfl rfl ?_
        refine e_callV (As := [iV (mI M2 23 6)]) (st := []) mt_X3_emitToken in_X3_emitToken lkX3_68 rfl rfl (o_roomd (by omega) (by decide)) (Nat.le_of_ble_eq_true rfl) ⟨Nat.le_of_ble_eq_true rfl, Nat.le_of_ble_eq_true rfl⟩ rfl rfl dX3_readNot_74 (Ctr.mono h (fun v M10 h => ?_))
        obtain ⟨rfl, h⟩ := h
        show E_X3_readNot l d q 77 [(1, iV (mI M2 23 6)), (0, rV (some 23))] [] M10 0 0
        exact e_ret rfl dX3_readNot_77 ⟨rfl, h⟩
  · replace h := h.2 c1
    refine e_aload_n dX3_readNot_9 rfl rfl ?_
    refine e_callV (As := []) (st := []) mt_X3_openOne in_X3_openOne lkX3_74 rfl rfl (o_roomd (by omega) (by decide)) (Nat.le_of_ble_eq_true rfl) ⟨Nat.le_of_ble_eq_true rfl, Nat.le_of_ble_eq_true rfl⟩ rfl rfl dX3_readNot_10 (Ctr.mono h (fun v M11 h => ?_))
    obtain ⟨r12, rfl, h⟩ := h
    show E_X3_readNot l d q 13 [(0, rV (some 23))] [iV r12] M11 0 0
    refine e_if_eq (tgt := 36) dX3_readNot_13 (by decide) (fun c13 => ?_) (fun c13 => ?_)
    · replace h := h.1 c13
      exact e_ret rfl dX3_readNot_36 ⟨rfl, h⟩
    · replace h := h.2 c13
      refine e_aload_n dX3_readNot_16 rfl rfl ?_
      refine e_callV (As := []) (st := []) mt_X3_readNot in_X3_readNot lkX3_71 rfl rfl (o_roomd (by omega) (by decide)) (Nat.le_of_ble_eq_true rfl) ⟨Nat.le_of_ble_eq_true rfl, Nat.le_of_ble_eq_true rfl⟩ rfl rfl dX3_readNot_17 (Ctr.mono h (fun v M14 h => ?_))
      obtain ⟨rfl, h⟩ := h
      show E_X3_readNot l d q 20 [(0, rV (some 23))] [] M14 0 0
      refine e_aload_n dX3_readNot_20 rfl rfl ?_
      refine e_dup rfl dX3_readNot_21 ?_
      refine e_gI flX3_46 rfl rfl dX3_readNot_22 ?_
      refine e_iconst (v := 1) dX3_readNot_25 (by decide) ?_
      refine e_isub dX3_readNot_26 ?_
      refine e_pI flX3_46 rfl (Or.inl rfl) rfl rfl rfl dX3_readNot_27 ?_
      refine e_aload_n dX3_readNot_30 rfl rfl ?_
      refine e_bipush (v := 15) dX3_readNot_31 (by decide) ?_
      refine e_callV (As := [iV 15]) (st := []) mt_X3_emitToken in_X3_emitToken lkX3_68 rfl rfl (o_roomd (by omega) (by decide)) (Nat.le_of_ble_eq_true rfl) ⟨Nat.le_of_ble_eq_true rfl, Nat.le_of_ble_eq_true rfl⟩ rfl rfl dX3_readNot_33 (Ctr.mono h (fun v M15 h => ?_))
      obtain ⟨rfl, h⟩ := h
      show E_X3_readNot l d q 36 [(0, rV (some 23))] [] M15 0 0
      exact e_ret rfl dX3_readNot_36 ⟨rfl, h⟩
theorem w_X3_readOne (l : Launch) (d : Nat) (hd : 20 ≤ d) (M : o_M) (q : o_M → Prop) (h : ((¬ (mI M 23 6) = 24 → ((10 ≤ (mI M 23 6) → ((¬ (mI M 23 6) = 20 → ((¬ (mI M 23 6) = 16 → K_X3_fail l [rV (some 23)] M (fun M5 => q M5)) ∧ ((mI M 23 6) = 16 → K_X3_openOne l [rV (some 23)] M (fun r7 M6 => ((r7 = 0 → K_X3_fail l [rV (some 23)] M6 (fun M9 => q M9)) ∧ (¬ r7 = 0 → K_X3_readOr l (d - 1) [rV (some 23)] M6 (fun M10 => K_X3_expect l [rV (some 23), iV 17] M10 (fun M11 => q (sI M11 23 10 ((mI M11 23 10) - 1)))))))))) ∧ ((mI M 23 6) = 20 → K_X3_openOne l [rV (some 23)] M (fun r13 M12 => ((r13 = 0 → ((¬ (mI M12 23 6) = 16 → K_X3_fail l [rV (some 23)] M12 (fun M16 => q M16)) ∧ ((mI M12 23 6) = 16 → K_X3_openOne l [rV (some 23)] M12 (fun r18 M17 => ((r18 = 0 → K_X3_fail l [rV (some 23)] M17 (fun M20 => q M20)) ∧ (¬ r18 = 0 → K_X3_readOr l (d - 1) [rV (some 23)] M17 (fun M21 => K_X3_expect l [rV (some 23), iV 17] M21 (fun M22 => q (sI M22 23 10 ((mI M22 23 10) - 1)))))))))) ∧ (¬ r13 = 0 → K_X3_readOne l (d - 1) [rV (some 23)] M12 (fun M23 => K_X3_emitToken l [rV (some 23), iV 27] (sI M23 23 10 ((mI M23 23 10) - 1)) (fun M24 => q M24)))))))) ∧ (¬ 10 ≤ (mI M 23 6) → K_X3_emitToken l [rV (some 23), iV (mI M 23 6)] M (fun M25 => K_X3_advance l [rV (some 23)] M25 (fun M26 => q M26))))) ∧ ((mI M 23 6) = 24 → K_X3_emit l [rV (some 23), iV (mI M 23 7)] M (fun M27 => K_X3_advance l [rV (some 23)] M27 (fun M28 => q M28))))) : K_X3_readOne l d [rV (some 23)] M q := by
  refine o_ctr (ini := false) (by decide +kernel) rfl (fun z => by cases z) (Nat.le_of_ble_eq_true rfl) ?_
  show E_X3_readOne l d q 0 [(0, rV (some 23))] [] M 0 0
  refine e_aload_n dX3_readOne_0 rfl rfl ?_
  refine e_gI flX3_34 rfl rfl dX3_readOne_1 ?_
  refine e_bipush (v := 24) dX3_readOne_4 (by decide) ?_
  refine e_ic_ne (tgt := 24) dX3_readOne_6 (by decide) (fun c1 => ?_) (fun c1 => ?_)
  · replace h := h.1 c1
    refine e_aload_n dX3_readOne_24 rfl rfl ?_
    refine e_gI flX3_34 rfl rfl dX3_readOne_25 ?_
    refine e_bipush (v := 10) dX3_readOne_28 (by decide) ?_
    refine e_ic_ge (tgt := 48) dX3_readOne_30 (by decide) (fun c2 => ?_) (fun c2 => ?_)
    · replace h := h.1 c2
      refine e_aload_n dX3_readOne_48 rfl rfl ?_
      refine e_gI flX3_34 rfl rfl dX3_readOne_49 ?_
      refine e_bipush (v := 20) dX3_readOne_52 (by decide) ?_
      refine e_ic_ne (tgt := 87) dX3_readOne_54 (by decide) (fun c3 => ?_) (fun c3 => ?_)
      · replace h := h.1 c3
        refine e_aload_n dX3_readOne_87 rfl rfl ?_
        refine e_gI flX3_34 rfl rfl dX3_readOne_88 ?_
        refine e_bipush (v := 16) dX3_readOne_91 (by decide) ?_
        refine e_ic_ne (tgt := 126) dX3_readOne_93 (by decide) (fun c4 => ?_) (fun c4 => ?_)
        · replace h := h.1 c4
          refine e_aload_n dX3_readOne_126 rfl rfl ?_
          refine e_callV (As := []) (st := []) mt_X3_fail in_X3_fail lkX3_90 rfl rfl (o_roomd (by omega) (by decide)) (Nat.le_of_ble_eq_true rfl) ⟨Nat.le_of_ble_eq_true rfl, Nat.le_of_ble_eq_true rfl⟩ rfl rfl dX3_readOne_127 (Ctr.mono h (fun v M5 h => ?_))
          obtain ⟨rfl, h⟩ := h
          show E_X3_readOne l d q 130 [(0, rV (some 23))] [] M5 0 0
          exact e_ret rfl dX3_readOne_130 ⟨rfl, h⟩
        · replace h := h.2 c4
          refine e_aload_n dX3_readOne_96 rfl rfl ?_
          refine e_callV (As := []) (st := []) mt_X3_openOne in_X3_openOne lkX3_74 rfl rfl (o_roomd (by omega) (by decide)) (Nat.le_of_ble_eq_true rfl) ⟨Nat.le_of_ble_eq_true rfl, Nat.le_of_ble_eq_true rfl⟩ rfl rfl dX3_readOne_97 (Ctr.mono h (fun v M6 h => ?_))
          obtain ⟨r7, rfl, h⟩ := h
          show E_X3_readOne l d q 100 [(0, rV (some 23))] [iV r7] M6 0 0
          refine e_if_eq (tgt := 126) dX3_readOne_100 (by decide) (fun c8 => ?_) (fun c8 => ?_)
          · replace h := h.1 c8
            refine e_aload_n dX3_readOne_126 rfl rfl ?_
            refine e_callV (As := []) (st := []) mt_X3_fail in_X3_fail lkX3_90 rfl rfl (o_roomd (by omega) (by decide)) (Nat.le_of_ble_eq_true rfl) ⟨Nat.le_of_ble_eq_true rfl, Nat.le_of_ble_eq_true rfl⟩ rfl rfl dX3_readOne_127 (Ctr.mono h (fun v M9 h => ?_))
            obtain ⟨rfl, h⟩ := h
            show E_X3_readOne l d q 130 [(0, rV (some 23))] [] M9 0 0
            exact e_ret rfl dX3_readOne_130 ⟨rfl, h⟩
          · replace h := h.2 c8
            refine e_aload_n dX3_readOne_103 rfl rfl ?_
            refine e_callV (As := []) (st := []) mt_X3_readOr in_X3_readOr lkX3_62 rfl rfl (o_roomd (by omega) (by decide)) (Nat.le_of_ble_eq_true rfl) ⟨Nat.le_of_ble_eq_true rfl, Nat.le_of_ble_eq_true rfl⟩ rfl rfl dX3_readOne_104 (Ctr.mono h (fun v M10 h => ?_))
            obtain ⟨rfl, h⟩ := h
            show E_X3_readOne l d q 107 [(0, rV (some 23))] [] M10 0 0
            refine e_aload_n dX3_readOne_107 rfl rfl ?_
            refine e_bipush (v := 17) dX3_readOne_108 (by decide) ?_
            refine e_callV (As := [iV 17]) (st := []) mt_X3_expect in_X3_expect lkX3_59 rfl rfl (o_roomd (by omega) (by decide)) (Nat.le_of_ble_eq_true rfl) ⟨Nat.le_of_ble_eq_true rfl, Nat.le_of_ble_eq_true rfl⟩ rfl rfl dX3_readOne_110 (Ctr.mono h (fun v M11 h => ?_))
            obtain ⟨rfl, h⟩ := h
            show E_X3_readOne l d q 113 [(0, rV (some 23))] [] M11 0 0
            refine e_aload_n dX3_readOne_113 rfl rfl ?_
            refine e_dup rfl dX3_readOne_114 ?_
            refine e_gI flX3_46 rfl rfl dX3_readOne_115 ?_
            refine e_iconst (v := 1) dX3_readOne_118 (by decide) ?_
            refine e_isub dX3_readOne_119 ?_
            refine e_pI flX3_46 rfl (Or.inl rfl) rfl rfl rfl dX3_readOne_120 ?_
            refine e_goto (tgt := 130) dX3_readOne_123 (by decide) ?_
            exact e_ret rfl dX3_readOne_130 ⟨rfl, h⟩
      · replace h := h.2 c3
        refine e_aload_n dX3_readOne_57 rfl rfl ?_
        refine e_callV (As := []) (st := []) mt_X3_openOne in_X3_openOne lkX3_74 rfl rfl (o_roomd (by omega) (by decide)) (Nat.le_of_ble_eq_true rfl) ⟨Nat.le_of_ble_eq_true rfl, Nat.le_of_ble_eq_true rfl⟩ rfl rfl dX3_readOne_58 (Ctr.mono h (fun v M12 h => ?_))
        obtain ⟨r13, rfl, h⟩ := h
        show E_X3_readOne l d q 61 [(0, rV (some 23))] [iV r13] M12 0 0
        refine e_if_eq (tgt := 87) dX3_readOne_61 (by decide) (fun c14 => ?_) (fun c14 => ?_)
        · replace h := h.1 c14
          refine e_aload_n dX3_readOne_87 rfl rfl ?_
          refine e_gI flX3_34 rfl rfl dX3_readOne_88 ?_
          refine e_bipush (v := 16) dX3_readOne_91 (by decide) ?_
          refine e_ic_ne (tgt := 126) dX3_readOne_93 (by decide) (fun c15 => ?_) (fun c15 => ?_)
          · replace h := h.1 c15
            refine e_aload_n dX3_readOne_126 rfl rfl ?_
            refine e_callV (As := []) (st := []) mt_X3_fail in_X3_fail lkX3_90 rfl rfl (o_roomd (by omega) (by decide)) (Nat.le_of_ble_eq_true rfl) ⟨Nat.le_of_ble_eq_true rfl, Nat.le_of_ble_eq_true rfl⟩ rfl rfl dX3_readOne_127 (Ctr.mono h (fun v M16 h => ?_))
            obtain ⟨rfl, h⟩ := h
            show E_X3_readOne l d q 130 [(0, rV (some 23))] [] M16 0 0
            exact e_ret rfl dX3_readOne_130 ⟨rfl, h⟩
          · replace h := h.2 c15
            refine e_aload_n dX3_readOne_96 rfl rfl ?_
            refine e_callV (As := []) (st := []) mt_X3_openOne in_X3_openOne lkX3_74 rfl rfl (o_roomd (by omega) (by decide)) (Nat.le_of_ble_eq_true rfl) ⟨Nat.le_of_ble_eq_true rfl, Nat.le_of_ble_eq_true rfl⟩ rfl rfl dX3_readOne_97 (Ctr.mono h (fun v M17 h => ?_))
            obtain ⟨r18, rfl, h⟩ := h
            show E_X3_readOne l d q 100 [(0, rV (some 23))] [iV r18] M17 0 0
            refine e_if_eq (tgt := 126) dX3_readOne_100 (by decide) (fun c19 => ?_) (fun c19 => ?_)
            · replace h := h.1 c19
              refine e_aload_n dX3_readOne_126 rfl rfl ?_
              refine e_callV (As := []) (st := []) mt_X3_fail in_X3_fail lkX3_90 rfl rfl (o_roomd (by omega) (by decide)) (Nat.le_of_ble_eq_true rfl) ⟨Nat.le_of_ble_eq_true rfl, Nat.le_of_ble_eq_true rfl⟩ rfl rfl dX3_readOne_127 (Ctr.mono h (fun v M20 h => ?_))
              obtain ⟨rfl, h⟩ := h
              show E_X3_readOne l d q 130 [(0, rV (some 23))] [] M20 0 0
              exact e_ret rfl dX3_readOne_130 ⟨rfl, h⟩
            · replace h := h.2 c19
              refine e_aload_n dX3_readOne_103 rfl rfl ?_
              refine e_callV (As := []) (st := []) mt_X3_readOr in_X3_readOr lkX3_62 rfl rfl (o_roomd (by omega) (by decide)) (Nat.le_of_ble_eq_true rfl) ⟨Nat.le_of_ble_eq_true rfl, Nat.le_of_ble_eq_true rfl⟩ rfl rfl dX3_readOne_104 (Ctr.mono h (fun v M21 h => ?_))
              obtain ⟨rfl, h⟩ := h
              show E_X3_readOne l d q 107 [(0, rV (some 23))] [] M21 0 0
              refine e_aload_n dX3_readOne_107 rfl rfl ?_
              refine e_bipush (v := 17) dX3_readOne_108 (by decide) ?_
              refine e_callV (As := [iV 17]) (st := []) mt_X3_expect in_X3_expect lkX3_59 rfl rfl (o_roomd (by omega) (by decide)) (Nat.le_of_ble_eq_true rfl) ⟨Nat.le_of_ble_eq_true rfl, Nat.le_of_ble_eq_true rfl⟩ rfl rfl dX3_readOne_110 (Ctr.mono h (fun v M22 h => ?_))
              obtain ⟨rfl, h⟩ := h
              show E_X3_readOne l d q 113 [(0, rV (some 23))] [] M22 0 0
              refine e_aload_n dX3_readOne_113 rfl rfl ?_
              refine e_dup rfl dX3_readOne_114 ?_
              refine e_gI flX3_46 rfl rfl dX3_readOne_115 ?_
              refine e_iconst (v := 1) dX3_readOne_118 (by decide) ?_
              refine e_isub dX3_readOne_119 ?_
              refine e_pI flX3_46 rfl (Or.inl rfl) rfl rfl rfl dX3_readOne_120 ?_
              refine e_goto (tgt := 130) dX3_readOne_123 (by decide) ?_
              exact e_ret rfl dX3_readOne_130 ⟨rfl, h⟩
        · replace h := h.2 c14
          refine e_aload_n dX3_readOne_64 rfl rfl ?_
          refine e_callV (As := []) (st := []) mt_X3_readOne in_X3_readOne lkX3_84 rfl rfl (o_roomd (by omega) (by decide)) (Nat.le_of_ble_eq_true rfl) ⟨Nat.le_of_ble_eq_true rfl, Nat.le_of_ble_eq_true rfl⟩ rfl rfl dX3_readOne_65 (Ctr.mono h (fun v M23 h => ?_))
          obtain ⟨rfl, h⟩ := h
          show E_X3_readOne l d q 68 [(0, rV (some 23))] [] M23 0 0
          refine e_aload_n dX3_readOne_68 rfl rfl ?_
          refine e_dup rfl dX3_readOne_69 ?_
          refine e_gI flX3_46 rfl rfl dX3_readOne_70 ?_
          refine e_iconst (v := 1) dX3_readOne_73 (by decide) ?_
          refine e_isub dX3_readOne_74 ?_
          refine e_pI flX3_46 rfl (Or.inl rfl) rfl rfl rfl dX3_readOne_75 ?_
          refine e_aload_n dX3_readOne_78 rfl rfl ?_
          refine e_bipush (v := 27) dX3_readOne_79 (by decide) ?_
          refine e_callV (As := [iV 27]) (st := []) mt_X3_emitToken in_X3_emitToken lkX3_68 rfl rfl (o_roomd (by omega) (by decide)) (Nat.le_of_ble_eq_true rfl) ⟨Nat.le_of_ble_eq_true rfl, Nat.le_of_ble_eq_true rfl⟩ rfl rfl dX3_readOne_81 (Ctr.mono h (fun v M24 h => ?_))
          obtain ⟨rfl, h⟩ := h
          show E_X3_readOne l d q 84 [(0, rV (some 23))] [] M24 0 0
          refine e_goto (tgt := 130) dX3_readOne_84 (by decide) ?_
          exact e_ret rfl dX3_readOne_130 ⟨rfl, h⟩
    · replace h := h.2 c2
      refine e_aload_n dX3_readOne_33 rfl rfl ?_
      refine e_aload_n dX3_readOne_34 rfl rfl ?_
      refine e_gI flX3_34 rfl rfl dX3_readOne_35 ?_
      refine e_callV (As := [iV (mI M 23 6)]) (st := []) mt_X3_emitToken in_X3_emitToken lkX3_68 rfl rfl (o_roomd (by omega) (by decide)) (Nat.le_of_ble_eq_true rfl) ⟨Nat.le_of_ble_eq_true rfl, Nat.le_of_ble_eq_true rfl⟩ rfl rfl dX3_readOne_38 (Ctr.mono h (fun v M25 h => ?_))
      obtain ⟨rfl, h⟩ := h
      show E_X3_readOne l d q 41 [(0, rV (some 23))] [] M25 0 0
      refine e_aload_n dX3_readOne_41 rfl rfl ?_
      refine e_callV (As := []) (st := []) mt_X3_advance in_X3_advance lkX3_52 rfl rfl (o_roomd (by omega) (by decide)) (Nat.le_of_ble_eq_true rfl) ⟨Nat.le_of_ble_eq_true rfl, Nat.le_of_ble_eq_true rfl⟩ rfl rfl dX3_readOne_42 (Ctr.mono h (fun v M26 h => ?_))
      obtain ⟨rfl, h⟩ := h
      show E_X3_readOne l d q 45 [(0, rV (some 23))] [] M26 0 0
      refine e_goto (tgt := 130) dX3_readOne_45 (by decide) ?_
      exact e_ret rfl dX3_readOne_130 ⟨rfl, h⟩
  · replace h := h.2 c1
    refine e_aload_n dX3_readOne_9 rfl rfl ?_
    refine e_aload_n dX3_readOne_10 rfl rfl ?_
    refine e_gI flX3_37 rfl rfl dX3_readOne_11 ?_
    refine e_callV (As := [iV (mI M 23 7)]) (st := []) mt_X3_emit in_X3_emit lkX3_87 rfl rfl (o_roomd (by omega) (by decide)) (Nat.le_of_ble_eq_true rfl) ⟨Nat.le_of_ble_eq_true rfl, Nat.le_of_ble_eq_true rfl⟩ rfl rfl dX3_readOne_14 (Ctr.mono h (fun v M27 h => ?_))
    obtain ⟨rfl, h⟩ := h
    show E_X3_readOne l d q 17 [(0, rV (some 23))] [] M27 0 0
    refine e_aload_n dX3_readOne_17 rfl rfl ?_
    refine e_callV (As := []) (st := []) mt_X3_advance in_X3_advance lkX3_52 rfl rfl (o_roomd (by omega) (by decide)) (Nat.le_of_ble_eq_true rfl) ⟨Nat.le_of_ble_eq_true rfl, Nat.le_of_ble_eq_true rfl⟩ rfl rfl dX3_readOne_18 (Ctr.mono h (fun v M28 h => ?_))
    obtain ⟨rfl, h⟩ := h
    show E_X3_readOne l d q 21 [(0, rV (some 23))] [] M28 0 0
    refine e_goto (tgt := 130) dX3_readOne_21 (by decide) ?_
    exact e_ret rfl dX3_readOne_130 ⟨rfl, h⟩
abbrev H_X3_readOr_6 (l : Launch) (d : Nat) (q : o_M → Prop) (v1 : Int32) (M : o_M) : Prop := E_X3_readOr l d q 6 [(0, rV (some 23)), (1, iV v1)] [] M 0 0
theorem w_X3_readOr (l : Launch) (d : Nat) (hd : 20 ≤ d) (M : o_M) (q : o_M → Prop) (h : K_X3_readAnd l (d - 1) [rV (some 23)] M (fun M1 => H_X3_readOr_6 l d q 0 M1)) : K_X3_readOr l d [rV (some 23)] M q := by
  refine o_ctr (ini := false) (by decide +kernel) rfl (fun z => by cases z) (Nat.le_of_ble_eq_true rfl) ?_
  show E_X3_readOr l d q 0 [(0, rV (some 23))] [] M 0 0
  refine e_aload_n dX3_readOr_0 rfl rfl ?_
  refine e_callV (As := []) (st := []) mt_X3_readAnd in_X3_readAnd lkX3_65 rfl rfl (o_roomd (by omega) (by decide)) (Nat.le_of_ble_eq_true rfl) ⟨Nat.le_of_ble_eq_true rfl, Nat.le_of_ble_eq_true rfl⟩ rfl rfl dX3_readOr_1 (Ctr.mono h (fun v M1 h => ?_))
  obtain ⟨rfl, h⟩ := h
  show E_X3_readOr l d q 4 [(0, rV (some 23))] [] M1 0 0
  refine e_iconst (v := 0) dX3_readOr_4 (by decide) ?_
  refine e_istore_n (lv' := [(1, iV 0), (0, rV (some 23))]) dX3_readOr_5 rfl (by decide) rfl ?_
  exact e_lv (List.forall_mem_cons.mpr ⟨rfl, List.forall_mem_cons.mpr ⟨rfl, fun _ h => absurd h List.not_mem_nil⟩⟩) h
theorem w_X3_readOr_6 (l : Launch) (d : Nat) (q : o_M → Prop) (v1 : Int32) (hd : 20 ≤ d) (M : o_M) (h : ((300 ≤ v1 → q M) ∧ (¬ 300 ≤ v1 → ((¬ (mI M 23 6) = 13 → q M) ∧ ((mI M 23 6) = 13 → K_X3_advance l [rV (some 23)] M (fun M4 => K_X3_readAnd l (d - 1) [rV (some 23)] M4 (fun M5 => K_X3_emitToken l [rV (some 23), iV 13] M5 (fun M6 => H_X3_readOr_6 l d q (v1 + 1) M6)))))))) : H_X3_readOr_6 l d q v1 M := by
  refine e_iload_n dX3_readOr_6 rfl rfl ?_
  refine e_sipush (v := 300) dX3_readOr_7 (by decide) ?_
  refine e_ic_ge (tgt := 42) dX3_readOr_10 (by decide) (fun c2 => ?_) (fun c2 => ?_)
  · replace h := h.1 c2
    exact e_ret rfl dX3_readOr_42 ⟨rfl, h⟩
  · replace h := h.2 c2
    refine e_aload_n dX3_readOr_13 rfl rfl ?_
    refine e_gI flX3_34 rfl rfl dX3_readOr_14 ?_
    refine e_bipush (v := 13) dX3_readOr_17 (by decide) ?_
    refine e_ic_ne (tgt := 42) dX3_readOr_19 (by decide) (fun c3 => ?_) (fun c3 => ?_)
    · replace h := h.1 c3
      exact e_ret rfl dX3_readOr_42 ⟨rfl, h⟩
    · replace h := h.2 c3
      refine e_aload_n dX3_readOr_22 rfl rfl ?_
      refine e_callV (As := []) (st := []) mt_X3_advance in_X3_advance lkX3_52 rfl rfl (o_roomd (by omega) (by decide)) (Nat.le_of_ble_eq_true rfl) ⟨Nat.le_of_ble_eq_true rfl, Nat.le_of_ble_eq_true rfl⟩ rfl rfl dX3_readOr_23 (Ctr.mono h (fun v M4 h => ?_))
      obtain ⟨rfl, h⟩ := h
      show E_X3_readOr l d q 26 [(0, rV (some 23)), (1, iV v1)] [] M4 0 0
      refine e_aload_n dX3_readOr_26 rfl rfl ?_
      refine e_callV (As := []) (st := []) mt_X3_readAnd in_X3_readAnd lkX3_65 rfl rfl (o_roomd (by omega) (by decide)) (Nat.le_of_ble_eq_true rfl) ⟨Nat.le_of_ble_eq_true rfl, Nat.le_of_ble_eq_true rfl⟩ rfl rfl dX3_readOr_27 (Ctr.mono h (fun v M5 h => ?_))
      obtain ⟨rfl, h⟩ := h
      show E_X3_readOr l d q 30 [(0, rV (some 23)), (1, iV v1)] [] M5 0 0
      refine e_aload_n dX3_readOr_30 rfl rfl ?_
      refine e_bipush (v := 13) dX3_readOr_31 (by decide) ?_
      refine e_callV (As := [iV 13]) (st := []) mt_X3_emitToken in_X3_emitToken lkX3_68 rfl rfl (o_roomd (by omega) (by decide)) (Nat.le_of_ble_eq_true rfl) ⟨Nat.le_of_ble_eq_true rfl, Nat.le_of_ble_eq_true rfl⟩ rfl rfl dX3_readOr_33 (Ctr.mono h (fun v M6 h => ?_))
      obtain ⟨rfl, h⟩ := h
      show E_X3_readOr l d q 36 [(0, rV (some 23)), (1, iV v1)] [] M6 0 0
      refine e_iinc (v := 1) (lv' := [(1, iV (v1 + 1)), (0, rV (some 23))]) rfl (by decide) (by decide) rfl dX3_readOr_36 ?_
      refine e_goto (tgt := 6) dX3_readOr_39 (by decide) ?_
      exact e_lv (List.forall_mem_cons.mpr ⟨rfl, List.forall_mem_cons.mpr ⟨rfl, fun _ h => absurd h List.not_mem_nil⟩⟩) h
abbrev H_X3_readSum_6 (l : Launch) (d : Nat) (q : o_M → Prop) (v1 : Int32) (M : o_M) : Prop := E_X3_readSum l d q 6 [(0, rV (some 23)), (1, iV v1)] [] M 0 0
theorem w_X3_readSum (l : Launch) (d : Nat) (hd : 20 ≤ d) (M : o_M) (q : o_M → Prop) (h : K_X3_readTerm l (d - 1) [rV (some 23)] M (fun M1 => H_X3_readSum_6 l d q 0 M1)) : K_X3_readSum l d [rV (some 23)] M q := by
  refine o_ctr (ini := false) (by decide +kernel) rfl (fun z => by cases z) (Nat.le_of_ble_eq_true rfl) ?_
  show E_X3_readSum l d q 0 [(0, rV (some 23))] [] M 0 0
  refine e_aload_n dX3_readSum_0 rfl rfl ?_
  refine e_callV (As := []) (st := []) mt_X3_readTerm in_X3_readTerm lkX3_81 rfl rfl (o_roomd (by omega) (by decide)) (Nat.le_of_ble_eq_true rfl) ⟨Nat.le_of_ble_eq_true rfl, Nat.le_of_ble_eq_true rfl⟩ rfl rfl dX3_readSum_1 (Ctr.mono h (fun v M1 h => ?_))
  obtain ⟨rfl, h⟩ := h
  show E_X3_readSum l d q 4 [(0, rV (some 23))] [] M1 0 0
  refine e_iconst (v := 0) dX3_readSum_4 (by decide) ?_
  refine e_istore_n (lv' := [(1, iV 0), (0, rV (some 23))]) dX3_readSum_5 rfl (by decide) rfl ?_
  exact e_lv (List.forall_mem_cons.mpr ⟨rfl, List.forall_mem_cons.mpr ⟨rfl, fun _ h => absurd h List.not_mem_nil⟩⟩) h
theorem w_X3_readSum_6 (l : Launch) (d : Nat) (q : o_M → Prop) (v1 : Int32) (hd : 20 ≤ d) (M : o_M) (h : ((300 ≤ v1 → q M) ∧ (¬ 300 ≤ v1 → (((mI M 23 6) = 19 → K_X3_advance l [rV (some 23)] M (fun M4 => K_X3_readTerm l (d - 1) [rV (some 23)] M4 (fun M5 => K_X3_emitToken l [rV (some 23), iV (mI M 23 6)] M5 (fun M6 => H_X3_readSum_6 l d q (v1 + 1) M6)))) ∧ (¬ (mI M 23 6) = 19 → ((¬ (mI M 23 6) = 20 → q M) ∧ ((mI M 23 6) = 20 → K_X3_advance l [rV (some 23)] M (fun M8 => K_X3_readTerm l (d - 1) [rV (some 23)] M8 (fun M9 => K_X3_emitToken l [rV (some 23), iV (mI M 23 6)] M9 (fun M10 => H_X3_readSum_6 l d q (v1 + 1) M10)))))))))) : H_X3_readSum_6 l d q v1 M := by
  refine e_iload_n dX3_readSum_6 rfl rfl ?_
  refine e_sipush (v := 300) dX3_readSum_7 (by decide) ?_
  refine e_ic_ge (tgt := 55) dX3_readSum_10 (by decide) (fun c2 => ?_) (fun c2 => ?_)
  · replace h := h.1 c2
    exact e_ret rfl dX3_readSum_55 ⟨rfl, h⟩
  · replace h := h.2 c2
    refine e_aload_n dX3_readSum_13 rfl rfl ?_
    refine e_gI flX3_34 rfl rfl dX3_readSum_14 ?_
    refine e_bipush (v := 19) dX3_readSum_17 (by decide) ?_
    refine e_ic_eq (tgt := 31) dX3_readSum_19 (by decide) (fun c3 => ?_) (fun c3 => ?_)
    · replace h := h.1 c3
      refine e_aload_n dX3_readSum_31 rfl rfl ?_
      refine e_gI flX3_34 rfl rfl dX3_readSum_32 ?_
      refine e_istore_n (lv' := [(2, iV (mI M 23 6)), (0, rV (some 23)), (1, iV v1)]) dX3_readSum_35 rfl (by decide) rfl ?_
      refine e_aload_n dX3_readSum_36 rfl rfl ?_
      refine e_callV (As := []) (st := []) mt_X3_advance in_X3_advance lkX3_52 rfl rfl (o_roomd (by omega) (by decide)) (Nat.le_of_ble_eq_true rfl) ⟨Nat.le_of_ble_eq_true rfl, Nat.le_of_ble_eq_true rfl⟩ rfl rfl dX3_readSum_37 (Ctr.mono h (fun v M4 h => ?_))
      obtain ⟨rfl, h⟩ := h
      show E_X3_readSum l d q 40 [(2, iV (mI M 23 6)), (0, rV (some 23)), (1, iV v1)] [] M4 0 0
      refine e_aload_n dX3_readSum_40 rfl rfl ?_
      refine e_callV (As := []) (st := []) mt_X3_readTerm in_X3_readTerm lkX3_81 rfl rfl (o_roomd (by omega) (by decide)) (Nat.le_of_ble_eq_true rfl) ⟨Nat.le_of_ble_eq_true rfl, Nat.le_of_ble_eq_true rfl⟩ rfl rfl dX3_readSum_41 (Ctr.mono h (fun v M5 h => ?_))
      obtain ⟨rfl, h⟩ := h
      show E_X3_readSum l d q 44 [(2, iV (mI M 23 6)), (0, rV (some 23)), (1, iV v1)] [] M5 0 0
      refine e_aload_n dX3_readSum_44 rfl rfl ?_
      refine e_iload_n dX3_readSum_45 rfl rfl ?_
      refine e_callV (As := [iV (mI M 23 6)]) (st := []) mt_X3_emitToken in_X3_emitToken lkX3_68 rfl rfl (o_roomd (by omega) (by decide)) (Nat.le_of_ble_eq_true rfl) ⟨Nat.le_of_ble_eq_true rfl, Nat.le_of_ble_eq_true rfl⟩ rfl rfl dX3_readSum_46 (Ctr.mono h (fun v M6 h => ?_))
      obtain ⟨rfl, h⟩ := h
      show E_X3_readSum l d q 49 [(2, iV (mI M 23 6)), (0, rV (some 23)), (1, iV v1)] [] M6 0 0
      refine e_iinc (v := 1) (lv' := [(1, iV (v1 + 1)), (2, iV (mI M 23 6)), (0, rV (some 23))]) rfl (by decide) (by decide) rfl dX3_readSum_49 ?_
      refine e_goto (tgt := 6) dX3_readSum_52 (by decide) ?_
      exact e_lv (List.forall_mem_cons.mpr ⟨rfl, List.forall_mem_cons.mpr ⟨rfl, fun _ h => absurd h List.not_mem_nil⟩⟩) h
    · replace h := h.2 c3
      refine e_aload_n dX3_readSum_22 rfl rfl ?_
      refine e_gI flX3_34 rfl rfl dX3_readSum_23 ?_
      refine e_bipush (v := 20) dX3_readSum_26 (by decide) ?_
      refine e_ic_ne (tgt := 55) dX3_readSum_28 (by decide) (fun c7 => ?_) (fun c7 => ?_)
      · replace h := h.1 c7
        exact e_ret rfl dX3_readSum_55 ⟨rfl, h⟩
      · replace h := h.2 c7
        refine e_aload_n dX3_readSum_31 rfl rfl ?_
        refine e_gI flX3_34 rfl rfl dX3_readSum_32 ?_
        refine e_istore_n (lv' := [(2, iV (mI M 23 6)), (0, rV (some 23)), (1, iV v1)]) dX3_readSum_35 rfl (by decide) rfl ?_
        refine e_aload_n dX3_readSum_36 rfl rfl ?_
        refine e_callV (As := []) (st := []) mt_X3_advance in_X3_advance lkX3_52 rfl rfl (o_roomd (by omega) (by decide)) (Nat.le_of_ble_eq_true rfl) ⟨Nat.le_of_ble_eq_true rfl, Nat.le_of_ble_eq_true rfl⟩ rfl rfl dX3_readSum_37 (Ctr.mono h (fun v M8 h => ?_))
        obtain ⟨rfl, h⟩ := h
        show E_X3_readSum l d q 40 [(2, iV (mI M 23 6)), (0, rV (some 23)), (1, iV v1)] [] M8 0 0
        refine e_aload_n dX3_readSum_40 rfl rfl ?_
        refine e_callV (As := []) (st := []) mt_X3_readTerm in_X3_readTerm lkX3_81 rfl rfl (o_roomd (by omega) (by decide)) (Nat.le_of_ble_eq_true rfl) ⟨Nat.le_of_ble_eq_true rfl, Nat.le_of_ble_eq_true rfl⟩ rfl rfl dX3_readSum_41 (Ctr.mono h (fun v M9 h => ?_))
        obtain ⟨rfl, h⟩ := h
        show E_X3_readSum l d q 44 [(2, iV (mI M 23 6)), (0, rV (some 23)), (1, iV v1)] [] M9 0 0
        refine e_aload_n dX3_readSum_44 rfl rfl ?_
        refine e_iload_n dX3_readSum_45 rfl rfl ?_
        refine e_callV (As := [iV (mI M 23 6)]) (st := []) mt_X3_emitToken in_X3_emitToken lkX3_68 rfl rfl (o_roomd (by omega) (by decide)) (Nat.le_of_ble_eq_true rfl) ⟨Nat.le_of_ble_eq_true rfl, Nat.le_of_ble_eq_true rfl⟩ rfl rfl dX3_readSum_46 (Ctr.mono h (fun v M10 h => ?_))
        obtain ⟨rfl, h⟩ := h
        show E_X3_readSum l d q 49 [(2, iV (mI M 23 6)), (0, rV (some 23)), (1, iV v1)] [] M10 0 0
        refine e_iinc (v := 1) (lv' := [(1, iV (v1 + 1)), (2, iV (mI M 23 6)), (0, rV (some 23))]) rfl (by decide) (by decide) rfl dX3_readSum_49 ?_
        refine e_goto (tgt := 6) dX3_readSum_52 (by decide) ?_
        exact e_lv (List.forall_mem_cons.mpr ⟨rfl, List.forall_mem_cons.mpr ⟨rfl, fun _ h => absurd h List.not_mem_nil⟩⟩) h
abbrev H_X3_readTerm_6 (l : Launch) (d : Nat) (q : o_M → Prop) (v1 : Int32) (M : o_M) : Prop := E_X3_readTerm l d q 6 [(0, rV (some 23)), (1, iV v1)] [] M 0 0
theorem w_X3_readTerm (l : Launch) (d : Nat) (hd : 20 ≤ d) (M : o_M) (q : o_M → Prop) (h : K_X3_readOne l (d - 1) [rV (some 23)] M (fun M1 => H_X3_readTerm_6 l d q 0 M1)) : K_X3_readTerm l d [rV (some 23)] M q := by
  refine o_ctr (ini := false) (by decide +kernel) rfl (fun z => by cases z) (Nat.le_of_ble_eq_true rfl) ?_
  show E_X3_readTerm l d q 0 [(0, rV (some 23))] [] M 0 0
  refine e_aload_n dX3_readTerm_0 rfl rfl ?_
  refine e_callV (As := []) (st := []) mt_X3_readOne in_X3_readOne lkX3_84 rfl rfl (o_roomd (by omega) (by decide)) (Nat.le_of_ble_eq_true rfl) ⟨Nat.le_of_ble_eq_true rfl, Nat.le_of_ble_eq_true rfl⟩ rfl rfl dX3_readTerm_1 (Ctr.mono h (fun v M1 h => ?_))
  obtain ⟨rfl, h⟩ := h
  show E_X3_readTerm l d q 4 [(0, rV (some 23))] [] M1 0 0
  refine e_iconst (v := 0) dX3_readTerm_4 (by decide) ?_
  refine e_istore_n (lv' := [(1, iV 0), (0, rV (some 23))]) dX3_readTerm_5 rfl (by decide) rfl ?_
  exact e_lv (List.forall_mem_cons.mpr ⟨rfl, List.forall_mem_cons.mpr ⟨rfl, fun _ h => absurd h List.not_mem_nil⟩⟩) h
theorem w_X3_readTerm_6 (l : Launch) (d : Nat) (q : o_M → Prop) (v1 : Int32) (hd : 20 ≤ d) (M : o_M) (h : ((300 ≤ v1 → q M) ∧ (¬ 300 ≤ v1 → ((¬ (mI M 23 6) = 21 → q M) ∧ ((mI M 23 6) = 21 → K_X3_advance l [rV (some 23)] M (fun M4 => K_X3_readOne l (d - 1) [rV (some 23)] M4 (fun M5 => K_X3_emitToken l [rV (some 23), iV 21] M5 (fun M6 => H_X3_readTerm_6 l d q (v1 + 1) M6)))))))) : H_X3_readTerm_6 l d q v1 M := by
  refine e_iload_n dX3_readTerm_6 rfl rfl ?_
  refine e_sipush (v := 300) dX3_readTerm_7 (by decide) ?_
  refine e_ic_ge (tgt := 42) dX3_readTerm_10 (by decide) (fun c2 => ?_) (fun c2 => ?_)
  · replace h := h.1 c2
    exact e_ret rfl dX3_readTerm_42 ⟨rfl, h⟩
  · replace h := h.2 c2
    refine e_aload_n dX3_readTerm_13 rfl rfl ?_
    refine e_gI flX3_34 rfl rfl dX3_readTerm_14 ?_
    refine e_bipush (v := 21) dX3_readTerm_17 (by decide) ?_
    refine e_ic_ne (tgt := 42) dX3_readTerm_19 (by decide) (fun c3 => ?_) (fun c3 => ?_)
    · replace h := h.1 c3
      exact e_ret rfl dX3_readTerm_42 ⟨rfl, h⟩
    · replace h := h.2 c3
      refine e_aload_n dX3_readTerm_22 rfl rfl ?_
      refine e_callV (As := []) (st := []) mt_X3_advance in_X3_advance lkX3_52 rfl rfl (o_roomd (by omega) (by decide)) (Nat.le_of_ble_eq_true rfl) ⟨Nat.le_of_ble_eq_true rfl, Nat.le_of_ble_eq_true rfl⟩ rfl rfl dX3_readTerm_23 (Ctr.mono h (fun v M4 h => ?_))
      obtain ⟨rfl, h⟩ := h
      show E_X3_readTerm l d q 26 [(0, rV (some 23)), (1, iV v1)] [] M4 0 0
      refine e_aload_n dX3_readTerm_26 rfl rfl ?_
      refine e_callV (As := []) (st := []) mt_X3_readOne in_X3_readOne lkX3_84 rfl rfl (o_roomd (by omega) (by decide)) (Nat.le_of_ble_eq_true rfl) ⟨Nat.le_of_ble_eq_true rfl, Nat.le_of_ble_eq_true rfl⟩ rfl rfl dX3_readTerm_27 (Ctr.mono h (fun v M5 h => ?_))
      obtain ⟨rfl, h⟩ := h
      show E_X3_readTerm l d q 30 [(0, rV (some 23)), (1, iV v1)] [] M5 0 0
      refine e_aload_n dX3_readTerm_30 rfl rfl ?_
      refine e_bipush (v := 21) dX3_readTerm_31 (by decide) ?_
      refine e_callV (As := [iV 21]) (st := []) mt_X3_emitToken in_X3_emitToken lkX3_68 rfl rfl (o_roomd (by omega) (by decide)) (Nat.le_of_ble_eq_true rfl) ⟨Nat.le_of_ble_eq_true rfl, Nat.le_of_ble_eq_true rfl⟩ rfl rfl dX3_readTerm_33 (Ctr.mono h (fun v M6 h => ?_))
      obtain ⟨rfl, h⟩ := h
      show E_X3_readTerm l d q 36 [(0, rV (some 23)), (1, iV v1)] [] M6 0 0
      refine e_iinc (v := 1) (lv' := [(1, iV (v1 + 1)), (0, rV (some 23))]) rfl (by decide) (by decide) rfl dX3_readTerm_36 ?_
      refine e_goto (tgt := 6) dX3_readTerm_39 (by decide) ?_
      exact e_lv (List.forall_mem_cons.mpr ⟨rfl, List.forall_mem_cons.mpr ⟨rfl, fun _ h => absurd h List.not_mem_nil⟩⟩) h
theorem w_X3_readPart (l : Launch) (p1 : Int32) (M : o_M) (q : o_M → Prop) (h : K_X3_expect l [rV (some 23), iV p1] M (fun M1 => K_X3_readOr l 100 [rV (some 23)] M1 (fun M2 => K_X3_expect l [rV (some 23), iV 18] M2 (fun M3 => (mR M3 23 1 = some 25 ∧ (((Int32.ofNat (mN M3 25)) ≤ (mI M3 23 5) → q M3) ∧ (¬ (Int32.ofNat (mN M3 25)) ≤ (mI M3 23 5) → (mR M3 23 1 = some 25 ∧ (vp_in (mI M3 23 5) (mN M3 25) ∧ q (sI (sI M3 25 ((mI M3 23 5).toNatClampNeg) (mI M3 23 4)) 23 5 ((mI (sI M3 25 ((mI M3 23 5).toNatClampNeg) (mI M3 23 4)) 23 5) + 1))))))))))) : K_X3_readPart l [rV (some 23), iV p1] M q := by
  refine o_ctr (ini := false) (by decide +kernel) rfl (fun z => by cases z) (Nat.le_of_ble_eq_true rfl) ?_
  show E_X3_readPart l q 0 [(0, rV (some 23)), (1, iV p1)] [] M 0 0
  refine e_aload_n dX3_readPart_0 rfl rfl ?_
  refine e_iload_n dX3_readPart_1 rfl rfl ?_
  refine e_callV (As := [iV p1]) (st := []) mt_X3_expect in_X3_expect lkX3_59 rfl rfl ⟨by decide, by decide⟩ (Nat.le_of_ble_eq_true rfl) ⟨by decide, by decide⟩ rfl rfl dX3_readPart_2 (Ctr.mono h (fun v M1 h => ?_))
  obtain ⟨rfl, h⟩ := h
  show E_X3_readPart l q 5 [(0, rV (some 23)), (1, iV p1)] [] M1 0 0
  refine e_aload_n dX3_readPart_5 rfl rfl ?_
  refine e_callV (As := []) (st := []) mt_X3_readOr in_X3_readOr lkX3_62 rfl rfl ⟨by decide, by decide⟩ (Nat.le_of_ble_eq_true rfl) ⟨by decide, by decide⟩ rfl rfl dX3_readPart_6 (Ctr.mono h (fun v M2 h => ?_))
  obtain ⟨rfl, h⟩ := h
  show E_X3_readPart l q 9 [(0, rV (some 23)), (1, iV p1)] [] M2 0 0
  refine e_aload_n dX3_readPart_9 rfl rfl ?_
  refine e_bipush (v := 18) dX3_readPart_10 (by decide) ?_
  refine e_callV (As := [iV 18]) (st := []) mt_X3_expect in_X3_expect lkX3_59 rfl rfl ⟨by decide, by decide⟩ (Nat.le_of_ble_eq_true rfl) ⟨by decide, by decide⟩ rfl rfl dX3_readPart_12 (Ctr.mono h (fun v M3 h => ?_))
  obtain ⟨rfl, h⟩ := h
  show E_X3_readPart l q 15 [(0, rV (some 23)), (1, iV p1)] [] M3 0 0
  refine e_aload_n dX3_readPart_15 rfl rfl ?_
  refine e_gI flX3_29 rfl rfl dX3_readPart_16 ?_
  refine e_aload_n dX3_readPart_19 rfl rfl ?_
  obtain ⟨o4, h⟩ := h
  refine e_gA flX3_15 rfl rfl o4 dX3_readPart_20 ?_
  refine e_alen rfl (by decide) rfl dX3_readPart_23 ?_
  refine e_ic_ge (tgt := 50) dX3_readPart_24 (by decide) (fun c5 => ?_) (fun c5 => ?_)
  · replace h := h.1 c5
    exact e_ret rfl dX3_readPart_50 ⟨rfl, h⟩
  · replace h := h.2 c5
    refine e_aload_n dX3_readPart_27 rfl rfl ?_
    obtain ⟨o6, h⟩ := h
    refine e_gA flX3_15 rfl rfl o6 dX3_readPart_28 ?_
    refine e_aload_n dX3_readPart_31 rfl rfl ?_
    refine e_gI flX3_29 rfl rfl dX3_readPart_32 ?_
    refine e_aload_n dX3_readPart_35 rfl rfl ?_
    refine e_gI flX3_26 rfl rfl dX3_readPart_36 ?_
    obtain ⟨o7, h⟩ := h
    refine e_iast rfl o7 dX3_readPart_39 ?_
    refine e_aload_n dX3_readPart_40 rfl rfl ?_
    refine e_dup rfl dX3_readPart_41 ?_
    refine e_gI flX3_29 rfl rfl dX3_readPart_42 ?_
    refine e_iconst (v := 1) dX3_readPart_45 (by decide) ?_
    refine e_iadd dX3_readPart_46 ?_
    refine e_pI flX3_29 rfl (Or.inl rfl) rfl rfl rfl dX3_readPart_47 ?_
    exact e_ret rfl dX3_readPart_50 ⟨rfl, h⟩
abbrev H_X3_readTape_41 (l : Launch) (q : Int32 → o_M → Prop) (v3 : Int32) (M : o_M) : Prop := E_X3_readTape l q 41 [(0, rV (some 23)), (3, iV v3)] [] M 0 0
theorem w_X3_readTape (l : Launch) (p2 : Int32) (M : o_M) (q : Int32 → o_M → Prop) (h : K_X3_advance l [rV (some 23)] (sI (sI (sI (sI (sI (sI (sR M 23 2 (some 22)) 23 3 p2) 23 4 0) 23 5 0) 23 9 0) 23 10 0) 23 11 (-1)) (fun M1 => H_X3_readTape_41 l q 0 M1)) : K_X3_readTape l [rV (some 23), rV (some 22), iV p2] M q := by
  refine o_ctr (ini := false) (by decide +kernel) rfl (fun z => by cases z) (Nat.le_of_ble_eq_true rfl) ?_
  show E_X3_readTape l q 0 [(0, rV (some 23)), (1, rV (some 22)), (2, iV p2)] [] M 0 0
  refine e_aload_n dX3_readTape_0 rfl rfl ?_
  refine e_aload_n dX3_readTape_1 rfl rfl ?_
  refine e_pR flX3_18 rfl (Or.inl rfl) rfl dX3_readTape_2 ?_
  refine e_aload_n dX3_readTape_5 rfl rfl ?_
  refine e_iload_n dX3_readTape_6 rfl rfl ?_
  refine e_pI flX3_22 rfl (Or.inl rfl) rfl rfl rfl dX3_readTape_7 ?_
  refine e_aload_n dX3_readTape_10 rfl rfl ?_
  refine e_iconst (v := 0) dX3_readTape_11 (by decide) ?_
  refine e_pI flX3_26 rfl (Or.inl rfl) rfl rfl rfl dX3_readTape_12 ?_
  refine e_aload_n dX3_readTape_15 rfl rfl ?_
  refine e_iconst (v := 0) dX3_readTape_16 (by decide) ?_
  refine e_pI flX3_29 rfl (Or.inl rfl) rfl rfl rfl dX3_readTape_17 ?_
  refine e_aload_n dX3_readTape_20 rfl rfl ?_
  refine e_iconst (v := 0) dX3_readTape_21 (by decide) ?_
  refine e_pI flX3_43 rfl (Or.inl rfl) rfl rfl rfl dX3_readTape_22 ?_
  refine e_aload_n dX3_readTape_25 rfl rfl ?_
  refine e_iconst (v := 0) dX3_readTape_26 (by decide) ?_
  refine e_pI flX3_46 rfl (Or.inl rfl) rfl rfl rfl dX3_readTape_27 ?_
  refine e_aload_n dX3_readTape_30 rfl rfl ?_
  refine e_iconst (v := (-1)) dX3_readTape_31 (by decide) ?_
  refine e_pI flX3_49 rfl (Or.inl rfl) rfl rfl rfl dX3_readTape_32 ?_
  refine e_aload_n dX3_readTape_35 rfl rfl ?_
  refine e_callV (As := []) (st := []) mt_X3_advance in_X3_advance lkX3_52 rfl rfl ⟨by decide, by decide⟩ (Nat.le_of_ble_eq_true rfl) ⟨by decide, by decide⟩ rfl rfl dX3_readTape_36 (Ctr.mono h (fun v M1 h => ?_))
  obtain ⟨rfl, h⟩ := h
  show E_X3_readTape l q 39 [(0, rV (some 23)), (1, rV (some 22)), (2, iV p2)] [] M1 0 0
  refine e_iconst (v := 0) dX3_readTape_39 (by decide) ?_
  refine e_istore_n (lv' := [(3, iV 0), (0, rV (some 23)), (1, rV (some 22)), (2, iV p2)]) dX3_readTape_40 rfl (by decide) rfl ?_
  exact e_lv (List.forall_mem_cons.mpr ⟨rfl, List.forall_mem_cons.mpr ⟨rfl, fun _ h => absurd h List.not_mem_nil⟩⟩) h
theorem w_X3_readTape_41 (l : Launch) (q : Int32 → o_M → Prop) (v3 : Int32) (M : o_M) (h : ((8 ≤ v3 → K_X3_readPart l [rV (some 23), iV 11] M (fun M3 => K_X3_readPart l [rV (some 23), iV 12] M3 (fun M4 => K_X3_expect l [rV (some 23), iV 25] M4 (fun M5 => q (mI M5 23 11) M5)))) ∧ (¬ 8 ≤ v3 → ((¬ (mI M 23 6) = 10 → K_X3_readPart l [rV (some 23), iV 11] M (fun M7 => K_X3_readPart l [rV (some 23), iV 12] M7 (fun M8 => K_X3_expect l [rV (some 23), iV 25] M8 (fun M9 => q (mI M9 23 11) M9)))) ∧ ((mI M 23 6) = 10 → K_X3_readPart l [rV (some 23), iV 10] M (fun M10 => H_X3_readTape_41 l q (v3 + 1) M10)))))) : H_X3_readTape_41 l q v3 M := by
  refine e_iload_n dX3_readTape_41 rfl rfl ?_
  refine e_bipush (v := 8) dX3_readTape_42 (by decide) ?_
  refine e_ic_ge (tgt := 68) dX3_readTape_44 (by decide) (fun c2 => ?_) (fun c2 => ?_)
  · replace h := h.1 c2
    refine e_aload_n dX3_readTape_68 rfl rfl ?_
    refine e_bipush (v := 11) dX3_readTape_69 (by decide) ?_
    refine e_callV (As := [iV 11]) (st := []) mt_X3_readPart in_X3_readPart lkX3_55 rfl rfl ⟨by decide, by decide⟩ (Nat.le_of_ble_eq_true rfl) ⟨by decide, by decide⟩ rfl rfl dX3_readTape_71 (Ctr.mono h (fun v M3 h => ?_))
    obtain ⟨rfl, h⟩ := h
    show E_X3_readTape l q 74 [(0, rV (some 23)), (3, iV v3)] [] M3 0 0
    refine e_aload_n dX3_readTape_74 rfl rfl ?_
    refine e_bipush (v := 12) dX3_readTape_75 (by decide) ?_
    refine e_callV (As := [iV 12]) (st := []) mt_X3_readPart in_X3_readPart lkX3_55 rfl rfl ⟨by decide, by decide⟩ (Nat.le_of_ble_eq_true rfl) ⟨by decide, by decide⟩ rfl rfl dX3_readTape_77 (Ctr.mono h (fun v M4 h => ?_))
    obtain ⟨rfl, h⟩ := h
    show E_X3_readTape l q 80 [(0, rV (some 23)), (3, iV v3)] [] M4 0 0
    refine e_aload_n dX3_readTape_80 rfl rfl ?_
    refine e_bipush (v := 25) dX3_readTape_81 (by decide) ?_
    refine e_callV (As := [iV 25]) (st := []) mt_X3_expect in_X3_expect lkX3_59 rfl rfl ⟨by decide, by decide⟩ (Nat.le_of_ble_eq_true rfl) ⟨by decide, by decide⟩ rfl rfl dX3_readTape_83 (Ctr.mono h (fun v M5 h => ?_))
    obtain ⟨rfl, h⟩ := h
    show E_X3_readTape l q 86 [(0, rV (some 23)), (3, iV v3)] [] M5 0 0
    refine e_aload_n dX3_readTape_86 rfl rfl ?_
    refine e_gI flX3_49 rfl rfl dX3_readTape_87 ?_
    exact e_iret rfl trivial dX3_readTape_90 ⟨_, rfl, h⟩
  · replace h := h.2 c2
    refine e_aload_n dX3_readTape_47 rfl rfl ?_
    refine e_gI flX3_34 rfl rfl dX3_readTape_48 ?_
    refine e_bipush (v := 10) dX3_readTape_51 (by decide) ?_
    refine e_ic_ne (tgt := 68) dX3_readTape_53 (by decide) (fun c6 => ?_) (fun c6 => ?_)
    · replace h := h.1 c6
      refine e_aload_n dX3_readTape_68 rfl rfl ?_
      refine e_bipush (v := 11) dX3_readTape_69 (by decide) ?_
      refine e_callV (As := [iV 11]) (st := []) mt_X3_readPart in_X3_readPart lkX3_55 rfl rfl ⟨by decide, by decide⟩ (Nat.le_of_ble_eq_true rfl) ⟨by decide, by decide⟩ rfl rfl dX3_readTape_71 (Ctr.mono h (fun v M7 h => ?_))
      obtain ⟨rfl, h⟩ := h
      show E_X3_readTape l q 74 [(0, rV (some 23)), (3, iV v3)] [] M7 0 0
      refine e_aload_n dX3_readTape_74 rfl rfl ?_
      refine e_bipush (v := 12) dX3_readTape_75 (by decide) ?_
      refine e_callV (As := [iV 12]) (st := []) mt_X3_readPart in_X3_readPart lkX3_55 rfl rfl ⟨by decide, by decide⟩ (Nat.le_of_ble_eq_true rfl) ⟨by decide, by decide⟩ rfl rfl dX3_readTape_77 (Ctr.mono h (fun v M8 h => ?_))
      obtain ⟨rfl, h⟩ := h
      show E_X3_readTape l q 80 [(0, rV (some 23)), (3, iV v3)] [] M8 0 0
      refine e_aload_n dX3_readTape_80 rfl rfl ?_
      refine e_bipush (v := 25) dX3_readTape_81 (by decide) ?_
      refine e_callV (As := [iV 25]) (st := []) mt_X3_expect in_X3_expect lkX3_59 rfl rfl ⟨by decide, by decide⟩ (Nat.le_of_ble_eq_true rfl) ⟨by decide, by decide⟩ rfl rfl dX3_readTape_83 (Ctr.mono h (fun v M9 h => ?_))
      obtain ⟨rfl, h⟩ := h
      show E_X3_readTape l q 86 [(0, rV (some 23)), (3, iV v3)] [] M9 0 0
      refine e_aload_n dX3_readTape_86 rfl rfl ?_
      refine e_gI flX3_49 rfl rfl dX3_readTape_87 ?_
      exact e_iret rfl trivial dX3_readTape_90 ⟨_, rfl, h⟩
    · replace h := h.2 c6
      refine e_aload_n dX3_readTape_56 rfl rfl ?_
      refine e_bipush (v := 10) dX3_readTape_57 (by decide) ?_
      refine e_callV (As := [iV 10]) (st := []) mt_X3_readPart in_X3_readPart lkX3_55 rfl rfl ⟨by decide, by decide⟩ (Nat.le_of_ble_eq_true rfl) ⟨by decide, by decide⟩ rfl rfl dX3_readTape_59 (Ctr.mono h (fun v M10 h => ?_))
      obtain ⟨rfl, h⟩ := h
      show E_X3_readTape l q 62 [(0, rV (some 23)), (3, iV v3)] [] M10 0 0
      refine e_iinc (v := 1) (lv' := [(3, iV (v3 + 1)), (0, rV (some 23))]) rfl (by decide) (by decide) rfl dX3_readTape_62 ?_
      refine e_goto (tgt := 41) dX3_readTape_65 (by decide) ?_
      exact e_lv (List.forall_mem_cons.mpr ⟨rfl, List.forall_mem_cons.mpr ⟨rfl, fun _ h => absurd h List.not_mem_nil⟩⟩) h
theorem w_X11_text (l : Launch) (M : o_M) (q : Int32 → o_M → Prop) (h : (((mI M 16 14) < 10 → (mR M 16 6 = some 23 ∧ (mR M 16 5 = some 22 ∧ K_X3_readTape l [rV (some 23), rV (some 22), iV (mI M 16 15)] M (fun r5 M4 => ((¬ r5 = (-1) → ((¬ r5 = (-1) → q ((-10) - r5) (sI M4 16 15 0)) ∧ (r5 = (-1) → q ((mI (sI M4 16 15 0) 16 14) - 1) (sI M4 16 15 0)))) ∧ (r5 = (-1) → K_X11_keepReadText l [rV (some 16)] M4 (fun M8 => ((¬ r5 = (-1) → q ((-10) - r5) (sI M8 16 15 0)) ∧ (r5 = (-1) → q ((mI (sI M8 16 15 0) 16 14) - 1) (sI M8 16 15 0)))))))))) ∧ (¬ (mI M 16 14) < 10 → q (-4) M))) : K_X11_text l [rV (some 16)] M q := by
  refine o_ctr (ini := false) (by decide +kernel) rfl (fun z => by cases z) (Nat.le_of_ble_eq_true rfl) ?_
  show E_X11_text l q 0 [(0, rV (some 16))] [] M 0 0
  refine e_aload_n dX11_text_0 rfl rfl ?_
  refine e_gI flX11_88 rfl rfl dX11_text_1 ?_
  refine e_bipush (v := 10) dX11_text_4 (by decide) ?_
  refine e_ic_lt (tgt := 12) dX11_text_6 (by decide) (fun c1 => ?_) (fun c1 => ?_)
  · replace h := h.1 c1
    refine e_aload_n dX11_text_12 rfl rfl ?_
    obtain ⟨o2, h⟩ := h
    refine e_gA flX11_46 rfl rfl o2 dX11_text_13 ?_
    refine e_aload_n dX11_text_16 rfl rfl ?_
    obtain ⟨o3, h⟩ := h
    refine e_gA flX11_39 rfl rfl o3 dX11_text_17 ?_
    refine e_aload_n dX11_text_20 rfl rfl ?_
    refine e_gI flX11_91 rfl rfl dX11_text_21 ?_
    refine e_callV (As := [rV (some 22), iV (mI M 16 15)]) (st := []) mt_X3_readTape in_X3_readTape lkX11_113 rfl rfl ⟨by decide, by decide⟩ (Nat.le_of_ble_eq_true rfl) ⟨by decide, by decide⟩ rfl rfl dX11_text_24 (Ctr.mono h (fun v M4 h => ?_))
    obtain ⟨r5, rfl, h⟩ := h
    show E_X11_text l q 27 [(0, rV (some 16))] [iV r5] M4 0 0
    refine e_istore_n (lv' := [(1, iV r5), (0, rV (some 16))]) dX11_text_27 rfl (by decide) rfl ?_
    refine e_iload_n dX11_text_28 rfl rfl ?_
    refine e_iconst (v := (-1)) dX11_text_29 (by decide) ?_
    refine e_ic_ne (tgt := 37) dX11_text_30 (by decide) (fun c6 => ?_) (fun c6 => ?_)
    · replace h := h.1 c6
      refine e_aload_n dX11_text_37 rfl rfl ?_
      refine e_iconst (v := 0) dX11_text_38 (by decide) ?_
      refine e_pI flX11_91 rfl (Or.inl rfl) rfl rfl rfl dX11_text_39 ?_
      refine e_iload_n dX11_text_42 rfl rfl ?_
      refine e_iconst (v := (-1)) dX11_text_43 (by decide) ?_
      refine e_ic_ne (tgt := 56) dX11_text_44 (by decide) (fun c7 => ?_) (fun c7 => ?_)
      · replace h := h.1 c7
        refine e_bipush (v := (-10)) dX11_text_56 (by decide) ?_
        refine e_iload_n dX11_text_58 rfl rfl ?_
        refine e_isub dX11_text_59 ?_
        refine e_widen (k' := 4) (n' := 906) (by decide) (by decide) ?_
        exact e_iret rfl trivial dX11_text_60 ⟨_, rfl, h⟩
      · replace h := h.2 c7
        refine e_aload_n dX11_text_47 rfl rfl ?_
        refine e_gI flX11_88 rfl rfl dX11_text_48 ?_
        refine e_iconst (v := 1) dX11_text_51 (by decide) ?_
        refine e_isub dX11_text_52 ?_
        refine e_goto (tgt := 60) dX11_text_53 (by decide) ?_
        refine e_widen (k' := 4) (n' := 906) (by decide) (by decide) ?_
        exact e_iret rfl trivial dX11_text_60 ⟨_, rfl, h⟩
    · replace h := h.2 c6
      refine e_aload_n dX11_text_33 rfl rfl ?_
      refine e_callV (As := []) (st := []) mt_X11_keepReadText in_X11_keepReadText lkX11_117 rfl rfl ⟨by decide, by decide⟩ (Nat.le_of_ble_eq_true rfl) ⟨by decide, by decide⟩ rfl rfl dX11_text_34 (Ctr.mono h (fun v M8 h => ?_))
      obtain ⟨rfl, h⟩ := h
      show E_X11_text l q 37 [(1, iV r5), (0, rV (some 16))] [] M8 4 906
      refine e_aload_n dX11_text_37 rfl rfl ?_
      refine e_iconst (v := 0) dX11_text_38 (by decide) ?_
      refine e_pI flX11_91 rfl (Or.inl rfl) rfl rfl rfl dX11_text_39 ?_
      refine e_iload_n dX11_text_42 rfl rfl ?_
      refine e_iconst (v := (-1)) dX11_text_43 (by decide) ?_
      refine e_ic_ne (tgt := 56) dX11_text_44 (by decide) (fun c9 => ?_) (fun c9 => ?_)
      · replace h := h.1 c9
        refine e_bipush (v := (-10)) dX11_text_56 (by decide) ?_
        refine e_iload_n dX11_text_58 rfl rfl ?_
        refine e_isub dX11_text_59 ?_
        exact e_iret rfl trivial dX11_text_60 ⟨_, rfl, h⟩
      · replace h := h.2 c9
        refine e_aload_n dX11_text_47 rfl rfl ?_
        refine e_gI flX11_88 rfl rfl dX11_text_48 ?_
        refine e_iconst (v := 1) dX11_text_51 (by decide) ?_
        refine e_isub dX11_text_52 ?_
        refine e_goto (tgt := 60) dX11_text_53 (by decide) ?_
        exact e_iret rfl trivial dX11_text_60 ⟨_, rfl, h⟩
  · replace h := h.2 c1
    refine e_bipush (v := (-4)) dX11_text_9 (by decide) ?_
    refine e_widen (k' := 4) (n' := 906) (by decide) (by decide) ?_
    exact e_iret rfl trivial dX11_text_11 ⟨_, rfl, h⟩
