/-! walks of methods (printed by program): X11_putTruths X11_rise X11_service X11_serviceTold X11_work X11_workTold X1_sumWait X4_reckon X5_canTake X6_chairsWith X6_meets X11_findDue X11_forge X11_leave X11_programme X11_score X11_sitsInMeeting X11_worth X1_findOrder X5_settle X6_addWork X11_call X11_findHindrance X11_order X11_sumDue X11_waits X5_seatAll -/
theorem dX11_putTruths_0 : decode cX11_putTruths 0 = .ok (.aload_n 1, 1) := by decide +kernel
theorem dX11_putTruths_1 : decode cX11_putTruths 1 = .ok (.iconst 0, 1) := by decide +kernel
theorem dX11_putTruths_2 : decode cX11_putTruths 2 = .ok (.putfield 456, 3) := by decide +kernel
theorem dX11_putTruths_5 : decode cX11_putTruths 5 = .ok (.iconst 0, 1) := by decide +kernel
theorem dX11_putTruths_6 : decode cX11_putTruths 6 = .ok (.istore_n 3, 1) := by decide +kernel
theorem dX11_putTruths_7 : decode cX11_putTruths 7 = .ok (.iload_n 3, 1) := by decide +kernel
theorem dX11_putTruths_8 : decode cX11_putTruths 8 = .ok (.aload_n 0, 1) := by decide +kernel
theorem dX11_putTruths_9 : decode cX11_putTruths 9 = .ok (.getfield 82, 3) := by decide +kernel
theorem dX11_putTruths_12 : decode cX11_putTruths 12 = .ok (.if_icmp .ge 34, 3) := by decide +kernel
theorem dX11_putTruths_15 : decode cX11_putTruths 15 = .ok (.aload_n 0, 1) := by decide +kernel
theorem dX11_putTruths_16 : decode cX11_putTruths 16 = .ok (.getfield 17, 3) := by decide +kernel
theorem dX11_putTruths_19 : decode cX11_putTruths 19 = .ok (.iload_n 3, 1) := by decide +kernel
theorem dX11_putTruths_20 : decode cX11_putTruths 20 = .ok (.aaload, 1) := by decide +kernel
theorem dX11_putTruths_21 : decode cX11_putTruths 21 = .ok (.iload_n 2, 1) := by decide +kernel
theorem dX11_putTruths_22 : decode cX11_putTruths 22 = .ok (.invokevirtual 295, 3) := by decide +kernel
theorem dX11_putTruths_25 : decode cX11_putTruths 25 = .ok (.ifCond .eq 15, 3) := by decide +kernel
theorem dX11_putTruths_28 : decode cX11_putTruths 28 = .ok (.aload_n 1, 1) := by decide +kernel
theorem dX11_putTruths_29 : decode cX11_putTruths 29 = .ok (.dup, 1) := by decide +kernel
theorem dX11_putTruths_30 : decode cX11_putTruths 30 = .ok (.getfield 456, 3) := by decide +kernel
theorem dX11_putTruths_33 : decode cX11_putTruths 33 = .ok (.iconst 1, 1) := by decide +kernel
theorem dX11_putTruths_34 : decode cX11_putTruths 34 = .ok (.iload_n 3, 1) := by decide +kernel
theorem dX11_putTruths_35 : decode cX11_putTruths 35 = .ok (.ishl, 1) := by decide +kernel
theorem dX11_putTruths_36 : decode cX11_putTruths 36 = .ok (.ior, 1) := by decide +kernel
theorem dX11_putTruths_37 : decode cX11_putTruths 37 = .ok (.putfield 456, 3) := by decide +kernel
theorem dX11_putTruths_40 : decode cX11_putTruths 40 = .ok (.iinc 3 1, 3) := by decide +kernel
theorem dX11_putTruths_43 : decode cX11_putTruths 43 = .ok (.goto (-36), 3) := by decide +kernel
theorem dX11_putTruths_46 : decode cX11_putTruths 46 = .ok (.aload_n 1, 1) := by decide +kernel
theorem dX11_putTruths_47 : decode cX11_putTruths 47 = .ok (.aload_n 0, 1) := by decide +kernel
theorem dX11_putTruths_48 : decode cX11_putTruths 48 = .ok (.getfield 82, 3) := by decide +kernel
theorem dX11_putTruths_51 : decode cX11_putTruths 51 = .ok (.putfield 449, 3) := by decide +kernel
theorem dX11_putTruths_54 : decode cX11_putTruths 54 = .ok (.return_, 1) := by decide +kernel
theorem dX11_rise_0 : decode cX11_rise 0 = .ok (.aload_n 0, 1) := by decide +kernel
theorem dX11_rise_1 : decode cX11_rise 1 = .ok (.iload_n 1, 1) := by decide +kernel
theorem dX11_rise_2 : decode cX11_rise 2 = .ok (.invokevirtual 173, 3) := by decide +kernel
theorem dX11_rise_5 : decode cX11_rise 5 = .ok (.astore_n 2, 1) := by decide +kernel
theorem dX11_rise_6 : decode cX11_rise 6 = .ok (.aload_n 2, 1) := by decide +kernel
theorem dX11_rise_7 : decode cX11_rise 7 = .ok (.ifnonnull 6, 3) := by decide +kernel
theorem dX11_rise_10 : decode cX11_rise 10 = .ok (.bipush (-2), 2) := by decide +kernel
theorem dX11_rise_12 : decode cX11_rise 12 = .ok (.ireturn, 1) := by decide +kernel
theorem dX11_rise_13 : decode cX11_rise 13 = .ok (.aload_n 2, 1) := by decide +kernel
theorem dX11_rise_14 : decode cX11_rise 14 = .ok (.getfield 177, 3) := by decide +kernel
theorem dX11_rise_17 : decode cX11_rise 17 = .ok (.ifCond .ne 6, 3) := by decide +kernel
theorem dX11_rise_20 : decode cX11_rise 20 = .ok (.bipush (-3), 2) := by decide +kernel
theorem dX11_rise_22 : decode cX11_rise 22 = .ok (.ireturn, 1) := by decide +kernel
theorem dX11_rise_23 : decode cX11_rise 23 = .ok (.aload_n 2, 1) := by decide +kernel
theorem dX11_rise_24 : decode cX11_rise 24 = .ok (.invokevirtual 275, 3) := by decide +kernel
theorem dX11_rise_27 : decode cX11_rise 27 = .ok (.iconst 1, 1) := by decide +kernel
theorem dX11_rise_28 : decode cX11_rise 28 = .ok (.ireturn, 1) := by decide +kernel
theorem dX11_service_0 : decode cX11_service 0 = .ok (.iload_n 1, 1) := by decide +kernel
theorem dX11_service_1 : decode cX11_service 1 = .ok (.iconst 0, 1) := by decide +kernel
theorem dX11_service_2 : decode cX11_service 2 = .ok (.getstatic 163, 3) := by decide +kernel
theorem dX11_service_5 : decode cX11_service 5 = .ok (.arraylength, 1) := by decide +kernel
theorem dX11_service_6 : decode cX11_service 6 = .ok (.iconst 1, 1) := by decide +kernel
theorem dX11_service_7 : decode cX11_service 7 = .ok (.isub, 1) := by decide +kernel
theorem dX11_service_8 : decode cX11_service 8 = .ok (.invokestatic 124, 3) := by decide +kernel
theorem dX11_service_11 : decode cX11_service 11 = .ok (.ifCond .eq 10, 3) := by decide +kernel
theorem dX11_service_14 : decode cX11_service 14 = .ok (.iload_n 2, 1) := by decide +kernel
theorem dX11_service_15 : decode cX11_service 15 = .ok (.invokestatic 167, 3) := by decide +kernel
theorem dX11_service_18 : decode cX11_service 18 = .ok (.ifCond .ne 6, 3) := by decide +kernel
theorem dX11_service_21 : decode cX11_service 21 = .ok (.bipush (-2), 2) := by decide +kernel
theorem dX11_service_23 : decode cX11_service 23 = .ok (.ireturn, 1) := by decide +kernel
theorem dX11_service_24 : decode cX11_service 24 = .ok (.iload_n 3, 1) := by decide +kernel
theorem dX11_service_25 : decode cX11_service 25 = .ok (.iconst 0, 1) := by decide +kernel
theorem dX11_service_26 : decode cX11_service 26 = .ok (.bipush 23, 2) := by decide +kernel
theorem dX11_service_28 : decode cX11_service 28 = .ok (.invokestatic 124, 3) := by decide +kernel
theorem dX11_service_31 : decode cX11_service 31 = .ok (.ifCond .eq 14, 3) := by decide +kernel
theorem dX11_service_34 : decode cX11_service 34 = .ok (.iload 4, 2) := by decide +kernel
theorem dX11_service_36 : decode cX11_service 36 = .ok (.iconst 1, 1) := by decide +kernel
theorem dX11_service_37 : decode cX11_service 37 = .ok (.bipush 8, 2) := by decide +kernel
theorem dX11_service_39 : decode cX11_service 39 = .ok (.invokestatic 124, 3) := by decide +kernel
theorem dX11_service_42 : decode cX11_service 42 = .ok (.ifCond .ne 6, 3) := by decide +kernel
theorem dX11_service_45 : decode cX11_service 45 = .ok (.bipush (-2), 2) := by decide +kernel
theorem dX11_service_47 : decode cX11_service 47 = .ok (.ireturn, 1) := by decide +kernel
theorem dX11_service_48 : decode cX11_service 48 = .ok (.aload_n 0, 1) := by decide +kernel
theorem dX11_service_49 : decode cX11_service 49 = .ok (.getfield 85, 3) := by decide +kernel
theorem dX11_service_52 : decode cX11_service 52 = .ok (.bipush 40, 2) := by decide +kernel
theorem dX11_service_54 : decode cX11_service 54 = .ok (.if_icmp .lt 6, 3) := by decide +kernel
theorem dX11_service_57 : decode cX11_service 57 = .ok (.bipush (-4), 2) := by decide +kernel
theorem dX11_service_59 : decode cX11_service 59 = .ok (.ireturn, 1) := by decide +kernel
theorem dX11_service_60 : decode cX11_service 60 = .ok (.aload_n 0, 1) := by decide +kernel
theorem dX11_service_61 : decode cX11_service 61 = .ok (.getfield 23, 3) := by decide +kernel
theorem dX11_service_64 : decode cX11_service 64 = .ok (.aload_n 0, 1) := by decide +kernel
theorem dX11_service_65 : decode cX11_service 65 = .ok (.getfield 85, 3) := by decide +kernel
theorem dX11_service_68 : decode cX11_service 68 = .ok (.new 21, 3) := by decide +kernel
theorem dX11_service_71 : decode cX11_service 71 = .ok (.dup, 1) := by decide +kernel
theorem dX11_service_72 : decode cX11_service 72 = .ok (.iload_n 1, 1) := by decide +kernel
theorem dX11_service_73 : decode cX11_service 73 = .ok (.iload_n 2, 1) := by decide +kernel
theorem dX11_service_74 : decode cX11_service 74 = .ok (.iload_n 3, 1) := by decide +kernel
theorem dX11_service_75 : decode cX11_service 75 = .ok (.iload 4, 2) := by decide +kernel
theorem dX11_service_77 : decode cX11_service 77 = .ok (.invokespecial 170, 3) := by decide +kernel
theorem dX11_service_80 : decode cX11_service 80 = .ok (.aastore, 1) := by decide +kernel
theorem dX11_service_81 : decode cX11_service 81 = .ok (.aload_n 0, 1) := by decide +kernel
theorem dX11_service_82 : decode cX11_service 82 = .ok (.dup, 1) := by decide +kernel
theorem dX11_service_83 : decode cX11_service 83 = .ok (.getfield 85, 3) := by decide +kernel
theorem dX11_service_86 : decode cX11_service 86 = .ok (.iconst 1, 1) := by decide +kernel
theorem dX11_service_87 : decode cX11_service 87 = .ok (.iadd, 1) := by decide +kernel
theorem dX11_service_88 : decode cX11_service 88 = .ok (.putfield 85, 3) := by decide +kernel
theorem dX11_service_91 : decode cX11_service 91 = .ok (.aload_n 0, 1) := by decide +kernel
theorem dX11_service_92 : decode cX11_service 92 = .ok (.getfield 85, 3) := by decide +kernel
theorem dX11_service_95 : decode cX11_service 95 = .ok (.iconst 1, 1) := by decide +kernel
theorem dX11_service_96 : decode cX11_service 96 = .ok (.isub, 1) := by decide +kernel
theorem dX11_service_97 : decode cX11_service 97 = .ok (.ireturn, 1) := by decide +kernel
theorem dX11_serviceTold_0 : decode cX11_serviceTold 0 = .ok (.aload_n 0, 1) := by decide +kernel
theorem dX11_serviceTold_1 : decode cX11_serviceTold 1 = .ok (.iload_n 1, 1) := by decide +kernel
theorem dX11_serviceTold_2 : decode cX11_serviceTold 2 = .ok (.invokevirtual 173, 3) := by decide +kernel
theorem dX11_serviceTold_5 : decode cX11_serviceTold 5 = .ok (.astore_n 3, 1) := by decide +kernel
theorem dX11_serviceTold_6 : decode cX11_serviceTold 6 = .ok (.aload_n 3, 1) := by decide +kernel
theorem dX11_serviceTold_7 : decode cX11_serviceTold 7 = .ok (.ifnull 7, 3) := by decide +kernel
theorem dX11_serviceTold_10 : decode cX11_serviceTold 10 = .ok (.iload_n 2, 1) := by decide +kernel
theorem dX11_serviceTold_11 : decode cX11_serviceTold 11 = .ok (.ifCond .ge 6, 3) := by decide +kernel
theorem dX11_serviceTold_14 : decode cX11_serviceTold 14 = .ok (.bipush (-2), 2) := by decide +kernel
theorem dX11_serviceTold_16 : decode cX11_serviceTold 16 = .ok (.ireturn, 1) := by decide +kernel
theorem dX11_serviceTold_17 : decode cX11_serviceTold 17 = .ok (.iload_n 2, 1) := by decide +kernel
theorem dX11_serviceTold_18 : decode cX11_serviceTold 18 = .ok (.tableswitch 105 0 7 #[46, 51, 56, 61, 66, 71, 76, 89], 46) := by decide +kernel
theorem dX11_serviceTold_64 : decode cX11_serviceTold 64 = .ok (.aload_n 3, 1) := by decide +kernel
theorem dX11_serviceTold_65 : decode cX11_serviceTold 65 = .ok (.getfield 218, 3) := by decide +kernel
theorem dX11_serviceTold_68 : decode cX11_serviceTold 68 = .ok (.ireturn, 1) := by decide +kernel
theorem dX11_serviceTold_69 : decode cX11_serviceTold 69 = .ok (.aload_n 3, 1) := by decide +kernel
theorem dX11_serviceTold_70 : decode cX11_serviceTold 70 = .ok (.getfield 221, 3) := by decide +kernel
theorem dX11_serviceTold_73 : decode cX11_serviceTold 73 = .ok (.ireturn, 1) := by decide +kernel
theorem dX11_serviceTold_74 : decode cX11_serviceTold 74 = .ok (.aload_n 3, 1) := by decide +kernel
theorem dX11_serviceTold_75 : decode cX11_serviceTold 75 = .ok (.getfield 224, 3) := by decide +kernel
theorem dX11_serviceTold_78 : decode cX11_serviceTold 78 = .ok (.ireturn, 1) := by decide +kernel
theorem dX11_serviceTold_79 : decode cX11_serviceTold 79 = .ok (.aload_n 3, 1) := by decide +kernel
theorem dX11_serviceTold_80 : decode cX11_serviceTold 80 = .ok (.getfield 227, 3) := by decide +kernel
theorem dX11_serviceTold_83 : decode cX11_serviceTold 83 = .ok (.ireturn, 1) := by decide +kernel
theorem dX11_serviceTold_84 : decode cX11_serviceTold 84 = .ok (.aload_n 3, 1) := by decide +kernel
theorem dX11_serviceTold_85 : decode cX11_serviceTold 85 = .ok (.getfield 188, 3) := by decide +kernel
theorem dX11_serviceTold_88 : decode cX11_serviceTold 88 = .ok (.ireturn, 1) := by decide +kernel
theorem dX11_serviceTold_89 : decode cX11_serviceTold 89 = .ok (.aload_n 3, 1) := by decide +kernel
theorem dX11_serviceTold_90 : decode cX11_serviceTold 90 = .ok (.getfield 229, 3) := by decide +kernel
theorem dX11_serviceTold_93 : decode cX11_serviceTold 93 = .ok (.ireturn, 1) := by decide +kernel
theorem dX11_serviceTold_94 : decode cX11_serviceTold 94 = .ok (.aload_n 3, 1) := by decide +kernel
theorem dX11_serviceTold_95 : decode cX11_serviceTold 95 = .ok (.getfield 177, 3) := by decide +kernel
theorem dX11_serviceTold_98 : decode cX11_serviceTold 98 = .ok (.ifCond .eq 7, 3) := by decide +kernel
theorem dX11_serviceTold_101 : decode cX11_serviceTold 101 = .ok (.iconst 1, 1) := by decide +kernel
theorem dX11_serviceTold_102 : decode cX11_serviceTold 102 = .ok (.goto 4, 3) := by decide +kernel
theorem dX11_serviceTold_105 : decode cX11_serviceTold 105 = .ok (.iconst 0, 1) := by decide +kernel
theorem dX11_serviceTold_106 : decode cX11_serviceTold 106 = .ok (.ireturn, 1) := by decide +kernel
theorem dX11_serviceTold_107 : decode cX11_serviceTold 107 = .ok (.aload_n 3, 1) := by decide +kernel
theorem dX11_serviceTold_108 : decode cX11_serviceTold 108 = .ok (.getfield 177, 3) := by decide +kernel
theorem dX11_serviceTold_111 : decode cX11_serviceTold 111 = .ok (.ifCond .eq 10, 3) := by decide +kernel
theorem dX11_serviceTold_114 : decode cX11_serviceTold 114 = .ok (.aload_n 3, 1) := by decide +kernel
theorem dX11_serviceTold_115 : decode cX11_serviceTold 115 = .ok (.getfield 232, 3) := by decide +kernel
theorem dX11_serviceTold_118 : decode cX11_serviceTold 118 = .ok (.goto 4, 3) := by decide +kernel
theorem dX11_serviceTold_121 : decode cX11_serviceTold 121 = .ok (.iconst (-1), 1) := by decide +kernel
theorem dX11_serviceTold_122 : decode cX11_serviceTold 122 = .ok (.ireturn, 1) := by decide +kernel
theorem dX11_serviceTold_123 : decode cX11_serviceTold 123 = .ok (.aload_n 3, 1) := by decide +kernel
theorem dX11_serviceTold_124 : decode cX11_serviceTold 124 = .ok (.iload_n 2, 1) := by decide +kernel
theorem dX11_serviceTold_125 : decode cX11_serviceTold 125 = .ok (.bipush 8, 2) := by decide +kernel
theorem dX11_serviceTold_127 : decode cX11_serviceTold 127 = .ok (.isub, 1) := by decide +kernel
theorem dX11_serviceTold_128 : decode cX11_serviceTold 128 = .ok (.invokevirtual 235, 3) := by decide +kernel
theorem dX11_serviceTold_131 : decode cX11_serviceTold 131 = .ok (.ireturn, 1) := by decide +kernel
theorem dX11_work_0 : decode cX11_work 0 = .ok (.iload_n 1, 1) := by decide +kernel
theorem dX11_work_1 : decode cX11_work 1 = .ok (.iconst 1, 1) := by decide +kernel
theorem dX11_work_2 : decode cX11_work 2 = .ok (.bipush 90, 2) := by decide +kernel
theorem dX11_work_4 : decode cX11_work 4 = .ok (.invokestatic 124, 3) := by decide +kernel
theorem dX11_work_7 : decode cX11_work 7 = .ok (.ifCond .eq 25, 3) := by decide +kernel
theorem dX11_work_10 : decode cX11_work 10 = .ok (.iload_n 2, 1) := by decide +kernel
theorem dX11_work_11 : decode cX11_work 11 = .ok (.iconst 0, 1) := by decide +kernel
theorem dX11_work_12 : decode cX11_work 12 = .ok (.sipush 1000, 3) := by decide +kernel
theorem dX11_work_15 : decode cX11_work 15 = .ok (.invokestatic 124, 3) := by decide +kernel
theorem dX11_work_18 : decode cX11_work 18 = .ok (.ifCond .eq 14, 3) := by decide +kernel
theorem dX11_work_21 : decode cX11_work 21 = .ok (.iload_n 3, 1) := by decide +kernel
theorem dX11_work_22 : decode cX11_work 22 = .ok (.iconst 0, 1) := by decide +kernel
theorem dX11_work_23 : decode cX11_work 23 = .ok (.sipush 4095, 3) := by decide +kernel
theorem dX11_work_26 : decode cX11_work 26 = .ok (.invokestatic 124, 3) := by decide +kernel
theorem dX11_work_29 : decode cX11_work 29 = .ok (.ifCond .ne 6, 3) := by decide +kernel
theorem dX11_work_32 : decode cX11_work 32 = .ok (.bipush (-2), 2) := by decide +kernel
theorem dX11_work_34 : decode cX11_work 34 = .ok (.ireturn, 1) := by decide +kernel
theorem dX11_work_35 : decode cX11_work 35 = .ok (.aload_n 0, 1) := by decide +kernel
theorem dX11_work_36 : decode cX11_work 36 = .ok (.getfield 78, 3) := by decide +kernel
theorem dX11_work_39 : decode cX11_work 39 = .ok (.bipush 12, 2) := by decide +kernel
theorem dX11_work_41 : decode cX11_work 41 = .ok (.if_icmp .lt 6, 3) := by decide +kernel
theorem dX11_work_44 : decode cX11_work 44 = .ok (.bipush (-4), 2) := by decide +kernel
theorem dX11_work_46 : decode cX11_work 46 = .ok (.ireturn, 1) := by decide +kernel
theorem dX11_work_47 : decode cX11_work 47 = .ok (.aload_n 0, 1) := by decide +kernel
theorem dX11_work_48 : decode cX11_work 48 = .ok (.getfield 11, 3) := by decide +kernel
theorem dX11_work_51 : decode cX11_work 51 = .ok (.aload_n 0, 1) := by decide +kernel
theorem dX11_work_52 : decode cX11_work 52 = .ok (.getfield 78, 3) := by decide +kernel
theorem dX11_work_55 : decode cX11_work 55 = .ok (.new 9, 3) := by decide +kernel
theorem dX11_work_58 : decode cX11_work 58 = .ok (.dup, 1) := by decide +kernel
theorem dX11_work_59 : decode cX11_work 59 = .ok (.iload_n 1, 1) := by decide +kernel
theorem dX11_work_60 : decode cX11_work 60 = .ok (.iload_n 2, 1) := by decide +kernel
theorem dX11_work_61 : decode cX11_work 61 = .ok (.iload_n 3, 1) := by decide +kernel
theorem dX11_work_62 : decode cX11_work 62 = .ok (.invokespecial 128, 3) := by decide +kernel
theorem dX11_work_65 : decode cX11_work 65 = .ok (.aastore, 1) := by decide +kernel
theorem dX11_work_66 : decode cX11_work 66 = .ok (.aload_n 0, 1) := by decide +kernel
theorem dX11_work_67 : decode cX11_work 67 = .ok (.dup, 1) := by decide +kernel
theorem dX11_work_68 : decode cX11_work 68 = .ok (.getfield 78, 3) := by decide +kernel
theorem dX11_work_71 : decode cX11_work 71 = .ok (.iconst 1, 1) := by decide +kernel
theorem dX11_work_72 : decode cX11_work 72 = .ok (.iadd, 1) := by decide +kernel
theorem dX11_work_73 : decode cX11_work 73 = .ok (.putfield 78, 3) := by decide +kernel
theorem dX11_work_76 : decode cX11_work 76 = .ok (.aload_n 0, 1) := by decide +kernel
theorem dX11_work_77 : decode cX11_work 77 = .ok (.getfield 78, 3) := by decide +kernel
theorem dX11_work_80 : decode cX11_work 80 = .ok (.iconst 1, 1) := by decide +kernel
theorem dX11_work_81 : decode cX11_work 81 = .ok (.isub, 1) := by decide +kernel
theorem dX11_work_82 : decode cX11_work 82 = .ok (.ireturn, 1) := by decide +kernel
theorem dX11_workTold_0 : decode cX11_workTold 0 = .ok (.aload_n 0, 1) := by decide +kernel
theorem dX11_workTold_1 : decode cX11_workTold 1 = .ok (.iload_n 1, 1) := by decide +kernel
theorem dX11_workTold_2 : decode cX11_workTold 2 = .ok (.invokevirtual 131, 3) := by decide +kernel
theorem dX11_workTold_5 : decode cX11_workTold 5 = .ok (.astore_n 3, 1) := by decide +kernel
theorem dX11_workTold_6 : decode cX11_workTold 6 = .ok (.aload_n 3, 1) := by decide +kernel
theorem dX11_workTold_7 : decode cX11_workTold 7 = .ok (.ifnonnull 6, 3) := by decide +kernel
theorem dX11_workTold_10 : decode cX11_workTold 10 = .ok (.bipush (-2), 2) := by decide +kernel
theorem dX11_workTold_12 : decode cX11_workTold 12 = .ok (.ireturn, 1) := by decide +kernel
theorem dX11_workTold_13 : decode cX11_workTold 13 = .ok (.iload_n 2, 1) := by decide +kernel
theorem dX11_workTold_14 : decode cX11_workTold 14 = .ok (.tableswitch 68 0 5 #[38, 43, 48, 53, 58, 63], 38) := by decide +kernel
theorem dX11_workTold_52 : decode cX11_workTold 52 = .ok (.aload_n 3, 1) := by decide +kernel
theorem dX11_workTold_53 : decode cX11_workTold 53 = .ok (.getfield 193, 3) := by decide +kernel
theorem dX11_workTold_56 : decode cX11_workTold 56 = .ok (.ireturn, 1) := by decide +kernel
theorem dX11_workTold_57 : decode cX11_workTold 57 = .ok (.aload_n 3, 1) := by decide +kernel
theorem dX11_workTold_58 : decode cX11_workTold 58 = .ok (.getfield 196, 3) := by decide +kernel
theorem dX11_workTold_61 : decode cX11_workTold 61 = .ok (.ireturn, 1) := by decide +kernel
theorem dX11_workTold_62 : decode cX11_workTold 62 = .ok (.aload_n 3, 1) := by decide +kernel
theorem dX11_workTold_63 : decode cX11_workTold 63 = .ok (.getfield 199, 3) := by decide +kernel
theorem dX11_workTold_66 : decode cX11_workTold 66 = .ok (.ireturn, 1) := by decide +kernel
theorem dX11_workTold_67 : decode cX11_workTold 67 = .ok (.aload_n 3, 1) := by decide +kernel
theorem dX11_workTold_68 : decode cX11_workTold 68 = .ok (.getfield 139, 3) := by decide +kernel
theorem dX11_workTold_71 : decode cX11_workTold 71 = .ok (.ireturn, 1) := by decide +kernel
theorem dX11_workTold_72 : decode cX11_workTold 72 = .ok (.aload_n 3, 1) := by decide +kernel
theorem dX11_workTold_73 : decode cX11_workTold 73 = .ok (.getfield 142, 3) := by decide +kernel
theorem dX11_workTold_76 : decode cX11_workTold 76 = .ok (.ireturn, 1) := by decide +kernel
theorem dX11_workTold_77 : decode cX11_workTold 77 = .ok (.aload_n 3, 1) := by decide +kernel
theorem dX11_workTold_78 : decode cX11_workTold 78 = .ok (.getfield 145, 3) := by decide +kernel
theorem dX11_workTold_81 : decode cX11_workTold 81 = .ok (.ireturn, 1) := by decide +kernel
theorem dX11_workTold_82 : decode cX11_workTold 82 = .ok (.bipush (-2), 2) := by decide +kernel
theorem dX11_workTold_84 : decode cX11_workTold 84 = .ok (.ireturn, 1) := by decide +kernel
theorem dX1_sumWait_0 : decode cX1_sumWait 0 = .ok (.iconst 0, 1) := by decide +kernel
theorem dX1_sumWait_1 : decode cX1_sumWait 1 = .ok (.istore_n 3, 1) := by decide +kernel
theorem dX1_sumWait_2 : decode cX1_sumWait 2 = .ok (.iconst 0, 1) := by decide +kernel
theorem dX1_sumWait_3 : decode cX1_sumWait 3 = .ok (.istore 4, 2) := by decide +kernel
theorem dX1_sumWait_5 : decode cX1_sumWait 5 = .ok (.iload 4, 2) := by decide +kernel
theorem dX1_sumWait_7 : decode cX1_sumWait 7 = .ok (.bipush 6, 2) := by decide +kernel
theorem dX1_sumWait_9 : decode cX1_sumWait 9 = .ok (.if_icmp .ge 37, 3) := by decide +kernel
theorem dX1_sumWait_12 : decode cX1_sumWait 12 = .ok (.aload_n 1, 1) := by decide +kernel
theorem dX1_sumWait_13 : decode cX1_sumWait 13 = .ok (.getfield 52, 3) := by decide +kernel
theorem dX1_sumWait_16 : decode cX1_sumWait 16 = .ok (.iload 4, 2) := by decide +kernel
theorem dX1_sumWait_18 : decode cX1_sumWait 18 = .ok (.iaload, 1) := by decide +kernel
theorem dX1_sumWait_19 : decode cX1_sumWait 19 = .ok (.ifCond .le 21, 3) := by decide +kernel
theorem dX1_sumWait_22 : decode cX1_sumWait 22 = .ok (.iload_n 3, 1) := by decide +kernel
theorem dX1_sumWait_23 : decode cX1_sumWait 23 = .ok (.aload_n 1, 1) := by decide +kernel
theorem dX1_sumWait_24 : decode cX1_sumWait 24 = .ok (.getfield 52, 3) := by decide +kernel
theorem dX1_sumWait_27 : decode cX1_sumWait 27 = .ok (.iload 4, 2) := by decide +kernel
theorem dX1_sumWait_29 : decode cX1_sumWait 29 = .ok (.iaload, 1) := by decide +kernel
theorem dX1_sumWait_30 : decode cX1_sumWait 30 = .ok (.aload_n 0, 1) := by decide +kernel
theorem dX1_sumWait_31 : decode cX1_sumWait 31 = .ok (.aload_n 2, 1) := by decide +kernel
theorem dX1_sumWait_32 : decode cX1_sumWait 32 = .ok (.iload 4, 2) := by decide +kernel
theorem dX1_sumWait_34 : decode cX1_sumWait 34 = .ok (.invokevirtual 55, 3) := by decide +kernel
theorem dX1_sumWait_37 : decode cX1_sumWait 37 = .ok (.imul, 1) := by decide +kernel
theorem dX1_sumWait_38 : decode cX1_sumWait 38 = .ok (.iadd, 1) := by decide +kernel
theorem dX1_sumWait_39 : decode cX1_sumWait 39 = .ok (.istore_n 3, 1) := by decide +kernel
theorem dX1_sumWait_40 : decode cX1_sumWait 40 = .ok (.iinc 4 1, 3) := by decide +kernel
theorem dX1_sumWait_43 : decode cX1_sumWait 43 = .ok (.goto (-38), 3) := by decide +kernel
theorem dX1_sumWait_46 : decode cX1_sumWait 46 = .ok (.iload_n 3, 1) := by decide +kernel
theorem dX1_sumWait_47 : decode cX1_sumWait 47 = .ok (.ireturn, 1) := by decide +kernel
theorem dX4_reckon_0 : decode cX4_reckon 0 = .ok (.aload_n 0, 1) := by decide +kernel
theorem dX4_reckon_1 : decode cX4_reckon 1 = .ok (.iconst 0, 1) := by decide +kernel
theorem dX4_reckon_2 : decode cX4_reckon 2 = .ok (.putfield 20, 3) := by decide +kernel
theorem dX4_reckon_5 : decode cX4_reckon 5 = .ok (.aload_n 1, 1) := by decide +kernel
theorem dX4_reckon_6 : decode cX4_reckon 6 = .ok (.iload_n 2, 1) := by decide +kernel
theorem dX4_reckon_7 : decode cX4_reckon 7 = .ok (.invokevirtual 46, 3) := by decide +kernel
theorem dX4_reckon_10 : decode cX4_reckon 10 = .ok (.istore_n 3, 1) := by decide +kernel
theorem dX4_reckon_11 : decode cX4_reckon 11 = .ok (.aload_n 1, 1) := by decide +kernel
theorem dX4_reckon_12 : decode cX4_reckon 12 = .ok (.iload_n 2, 1) := by decide +kernel
theorem dX4_reckon_13 : decode cX4_reckon 13 = .ok (.invokevirtual 52, 3) := by decide +kernel
theorem dX4_reckon_16 : decode cX4_reckon 16 = .ok (.istore 4, 2) := by decide +kernel
theorem dX4_reckon_18 : decode cX4_reckon 18 = .ok (.iload 4, 2) := by decide +kernel
theorem dX4_reckon_20 : decode cX4_reckon 20 = .ok (.iload_n 3, 1) := by decide +kernel
theorem dX4_reckon_21 : decode cX4_reckon 21 = .ok (.if_icmp .ge 20, 3) := by decide +kernel
theorem dX4_reckon_24 : decode cX4_reckon 24 = .ok (.aload_n 0, 1) := by decide +kernel
theorem dX4_reckon_25 : decode cX4_reckon 25 = .ok (.aload_n 1, 1) := by decide +kernel
theorem dX4_reckon_26 : decode cX4_reckon 26 = .ok (.getfield 55, 3) := by decide +kernel
theorem dX4_reckon_29 : decode cX4_reckon 29 = .ok (.iload 4, 2) := by decide +kernel
theorem dX4_reckon_31 : decode cX4_reckon 31 = .ok (.iaload, 1) := by decide +kernel
theorem dX4_reckon_32 : decode cX4_reckon 32 = .ok (.invokevirtual 59, 3) := by decide +kernel
theorem dX4_reckon_35 : decode cX4_reckon 35 = .ok (.iinc 4 1, 3) := by decide +kernel
theorem dX4_reckon_38 : decode cX4_reckon 38 = .ok (.goto (-20), 3) := by decide +kernel
theorem dX4_reckon_41 : decode cX4_reckon 41 = .ok (.aload_n 0, 1) := by decide +kernel
theorem dX4_reckon_42 : decode cX4_reckon 42 = .ok (.invokevirtual 63, 3) := by decide +kernel
theorem dX4_reckon_45 : decode cX4_reckon 45 = .ok (.lreturn, 1) := by decide +kernel
theorem dX5_canTake_0 : decode cX5_canTake 0 = .ok (.aload_n 0, 1) := by decide +kernel
theorem dX5_canTake_1 : decode cX5_canTake 1 = .ok (.getfield 15, 3) := by decide +kernel
theorem dX5_canTake_4 : decode cX5_canTake 4 = .ok (.iload_n 1, 1) := by decide +kernel
theorem dX5_canTake_5 : decode cX5_canTake 5 = .ok (.iaload, 1) := by decide +kernel
theorem dX5_canTake_6 : decode cX5_canTake 6 = .ok (.istore_n 3, 1) := by decide +kernel
theorem dX5_canTake_7 : decode cX5_canTake 7 = .ok (.aload_n 0, 1) := by decide +kernel
theorem dX5_canTake_8 : decode cX5_canTake 8 = .ok (.getfield 18, 3) := by decide +kernel
theorem dX5_canTake_11 : decode cX5_canTake 11 = .ok (.iload_n 2, 1) := by decide +kernel
theorem dX5_canTake_12 : decode cX5_canTake 12 = .ok (.iaload, 1) := by decide +kernel
theorem dX5_canTake_13 : decode cX5_canTake 13 = .ok (.istore 4, 2) := by decide +kernel
theorem dX5_canTake_15 : decode cX5_canTake 15 = .ok (.iload_n 3, 1) := by decide +kernel
theorem dX5_canTake_16 : decode cX5_canTake 16 = .ok (.iload_n 2, 1) := by decide +kernel
theorem dX5_canTake_17 : decode cX5_canTake 17 = .ok (.if_icmp .ne 5, 3) := by decide +kernel
theorem dX5_canTake_20 : decode cX5_canTake 20 = .ok (.iconst 1, 1) := by decide +kernel
theorem dX5_canTake_21 : decode cX5_canTake 21 = .ok (.ireturn, 1) := by decide +kernel
theorem dX5_canTake_22 : decode cX5_canTake 22 = .ok (.iload_n 3, 1) := by decide +kernel
theorem dX5_canTake_23 : decode cX5_canTake 23 = .ok (.iconst (-1), 1) := by decide +kernel
theorem dX5_canTake_24 : decode cX5_canTake 24 = .ok (.if_icmp .eq 10, 3) := by decide +kernel
theorem dX5_canTake_27 : decode cX5_canTake 27 = .ok (.aload_n 0, 1) := by decide +kernel
theorem dX5_canTake_28 : decode cX5_canTake 28 = .ok (.getfield 18, 3) := by decide +kernel
theorem dX5_canTake_31 : decode cX5_canTake 31 = .ok (.iload_n 3, 1) := by decide +kernel
theorem dX5_canTake_32 : decode cX5_canTake 32 = .ok (.iconst (-1), 1) := by decide +kernel
theorem dX5_canTake_33 : decode cX5_canTake 33 = .ok (.iastore, 1) := by decide +kernel
theorem dX5_canTake_34 : decode cX5_canTake 34 = .ok (.iload 4, 2) := by decide +kernel
theorem dX5_canTake_36 : decode cX5_canTake 36 = .ok (.iconst (-1), 1) := by decide +kernel
theorem dX5_canTake_37 : decode cX5_canTake 37 = .ok (.if_icmp .eq 11, 3) := by decide +kernel
theorem dX5_canTake_40 : decode cX5_canTake 40 = .ok (.aload_n 0, 1) := by decide +kernel
theorem dX5_canTake_41 : decode cX5_canTake 41 = .ok (.getfield 15, 3) := by decide +kernel
theorem dX5_canTake_44 : decode cX5_canTake 44 = .ok (.iload 4, 2) := by decide +kernel
theorem dX5_canTake_46 : decode cX5_canTake 46 = .ok (.iconst (-1), 1) := by decide +kernel
theorem dX5_canTake_47 : decode cX5_canTake 47 = .ok (.iastore, 1) := by decide +kernel
theorem dX5_canTake_48 : decode cX5_canTake 48 = .ok (.aload_n 0, 1) := by decide +kernel
theorem dX5_canTake_49 : decode cX5_canTake 49 = .ok (.getfield 15, 3) := by decide +kernel
theorem dX5_canTake_52 : decode cX5_canTake 52 = .ok (.iload_n 1, 1) := by decide +kernel
theorem dX5_canTake_53 : decode cX5_canTake 53 = .ok (.iload_n 2, 1) := by decide +kernel
theorem dX5_canTake_54 : decode cX5_canTake 54 = .ok (.iastore, 1) := by decide +kernel
theorem dX5_canTake_55 : decode cX5_canTake 55 = .ok (.aload_n 0, 1) := by decide +kernel
theorem dX5_canTake_56 : decode cX5_canTake 56 = .ok (.getfield 18, 3) := by decide +kernel
theorem dX5_canTake_59 : decode cX5_canTake 59 = .ok (.iload_n 2, 1) := by decide +kernel
theorem dX5_canTake_60 : decode cX5_canTake 60 = .ok (.iload_n 1, 1) := by decide +kernel
theorem dX5_canTake_61 : decode cX5_canTake 61 = .ok (.iastore, 1) := by decide +kernel
theorem dX5_canTake_62 : decode cX5_canTake 62 = .ok (.iload_n 3, 1) := by decide +kernel
theorem dX5_canTake_63 : decode cX5_canTake 63 = .ok (.iconst (-1), 1) := by decide +kernel
theorem dX5_canTake_64 : decode cX5_canTake 64 = .ok (.if_icmp .eq 9, 3) := by decide +kernel
theorem dX5_canTake_67 : decode cX5_canTake 67 = .ok (.iload 4, 2) := by decide +kernel
theorem dX5_canTake_69 : decode cX5_canTake 69 = .ok (.iconst (-1), 1) := by decide +kernel
theorem dX5_canTake_70 : decode cX5_canTake 70 = .ok (.if_icmp .ne 5, 3) := by decide +kernel
theorem dX5_canTake_73 : decode cX5_canTake 73 = .ok (.iconst 1, 1) := by decide +kernel
theorem dX5_canTake_74 : decode cX5_canTake 74 = .ok (.ireturn, 1) := by decide +kernel
theorem dX5_canTake_75 : decode cX5_canTake 75 = .ok (.aload_n 0, 1) := by decide +kernel
theorem dX5_canTake_76 : decode cX5_canTake 76 = .ok (.dup, 1) := by decide +kernel
theorem dX5_canTake_77 : decode cX5_canTake 77 = .ok (.getfield 31, 3) := by decide +kernel
theorem dX5_canTake_80 : decode cX5_canTake 80 = .ok (.iconst 1, 1) := by decide +kernel
theorem dX5_canTake_81 : decode cX5_canTake 81 = .ok (.iload_n 2, 1) := by decide +kernel
theorem dX5_canTake_82 : decode cX5_canTake 82 = .ok (.ishl, 1) := by decide +kernel
theorem dX5_canTake_83 : decode cX5_canTake 83 = .ok (.ior, 1) := by decide +kernel
theorem dX5_canTake_84 : decode cX5_canTake 84 = .ok (.putfield 31, 3) := by decide +kernel
theorem dX5_canTake_87 : decode cX5_canTake 87 = .ok (.aload_n 0, 1) := by decide +kernel
theorem dX5_canTake_88 : decode cX5_canTake 88 = .ok (.iload_n 1, 1) := by decide +kernel
theorem dX5_canTake_89 : decode cX5_canTake 89 = .ok (.iconst 1, 1) := by decide +kernel
theorem dX5_canTake_90 : decode cX5_canTake 90 = .ok (.iadd, 1) := by decide +kernel
theorem dX5_canTake_91 : decode cX5_canTake 91 = .ok (.invokevirtual 50, 3) := by decide +kernel
theorem dX5_canTake_94 : decode cX5_canTake 94 = .ok (.ifCond .eq 5, 3) := by decide +kernel
theorem dX5_canTake_97 : decode cX5_canTake 97 = .ok (.iconst 1, 1) := by decide +kernel
theorem dX5_canTake_98 : decode cX5_canTake 98 = .ok (.ireturn, 1) := by decide +kernel
theorem dX5_canTake_99 : decode cX5_canTake 99 = .ok (.aload_n 0, 1) := by decide +kernel
theorem dX5_canTake_100 : decode cX5_canTake 100 = .ok (.dup, 1) := by decide +kernel
theorem dX5_canTake_101 : decode cX5_canTake 101 = .ok (.getfield 31, 3) := by decide +kernel
theorem dX5_canTake_104 : decode cX5_canTake 104 = .ok (.iconst 1, 1) := by decide +kernel
theorem dX5_canTake_105 : decode cX5_canTake 105 = .ok (.iload_n 2, 1) := by decide +kernel
theorem dX5_canTake_106 : decode cX5_canTake 106 = .ok (.ishl, 1) := by decide +kernel
theorem dX5_canTake_107 : decode cX5_canTake 107 = .ok (.iconst (-1), 1) := by decide +kernel
theorem dX5_canTake_108 : decode cX5_canTake 108 = .ok (.ixor, 1) := by decide +kernel
theorem dX5_canTake_109 : decode cX5_canTake 109 = .ok (.iand, 1) := by decide +kernel
theorem dX5_canTake_110 : decode cX5_canTake 110 = .ok (.putfield 31, 3) := by decide +kernel
theorem dX5_canTake_113 : decode cX5_canTake 113 = .ok (.aload_n 0, 1) := by decide +kernel
theorem dX5_canTake_114 : decode cX5_canTake 114 = .ok (.getfield 15, 3) := by decide +kernel
theorem dX5_canTake_117 : decode cX5_canTake 117 = .ok (.iload_n 1, 1) := by decide +kernel
theorem dX5_canTake_118 : decode cX5_canTake 118 = .ok (.iload_n 3, 1) := by decide +kernel
theorem dX5_canTake_119 : decode cX5_canTake 119 = .ok (.iastore, 1) := by decide +kernel
theorem dX5_canTake_120 : decode cX5_canTake 120 = .ok (.aload_n 0, 1) := by decide +kernel
theorem dX5_canTake_121 : decode cX5_canTake 121 = .ok (.getfield 18, 3) := by decide +kernel
theorem dX5_canTake_124 : decode cX5_canTake 124 = .ok (.iload_n 3, 1) := by decide +kernel
theorem dX5_canTake_125 : decode cX5_canTake 125 = .ok (.iload_n 1, 1) := by decide +kernel
theorem dX5_canTake_126 : decode cX5_canTake 126 = .ok (.iastore, 1) := by decide +kernel
theorem dX5_canTake_127 : decode cX5_canTake 127 = .ok (.aload_n 0, 1) := by decide +kernel
theorem dX5_canTake_128 : decode cX5_canTake 128 = .ok (.getfield 15, 3) := by decide +kernel
theorem dX5_canTake_131 : decode cX5_canTake 131 = .ok (.iload 4, 2) := by decide +kernel
theorem dX5_canTake_133 : decode cX5_canTake 133 = .ok (.iload_n 2, 1) := by decide +kernel
theorem dX5_canTake_134 : decode cX5_canTake 134 = .ok (.iastore, 1) := by decide +kernel
theorem dX5_canTake_135 : decode cX5_canTake 135 = .ok (.aload_n 0, 1) := by decide +kernel
theorem dX5_canTake_136 : decode cX5_canTake 136 = .ok (.getfield 18, 3) := by decide +kernel
theorem dX5_canTake_139 : decode cX5_canTake 139 = .ok (.iload_n 2, 1) := by decide +kernel
theorem dX5_canTake_140 : decode cX5_canTake 140 = .ok (.iload 4, 2) := by decide +kernel
theorem dX5_canTake_142 : decode cX5_canTake 142 = .ok (.iastore, 1) := by decide +kernel
theorem dX5_canTake_143 : decode cX5_canTake 143 = .ok (.iconst 0, 1) := by decide +kernel
theorem dX5_canTake_144 : decode cX5_canTake 144 = .ok (.ireturn, 1) := by decide +kernel
theorem dX6_chairsWith_0 : decode cX6_chairsWith 0 = .ok (.iconst 0, 1) := by decide +kernel
theorem dX6_chairsWith_1 : decode cX6_chairsWith 1 = .ok (.istore_n 2, 1) := by decide +kernel
theorem dX6_chairsWith_2 : decode cX6_chairsWith 2 = .ok (.iconst 0, 1) := by decide +kernel
theorem dX6_chairsWith_3 : decode cX6_chairsWith 3 = .ok (.istore_n 3, 1) := by decide +kernel
theorem dX6_chairsWith_4 : decode cX6_chairsWith 4 = .ok (.iload_n 3, 1) := by decide +kernel
theorem dX6_chairsWith_5 : decode cX6_chairsWith 5 = .ok (.bipush 6, 2) := by decide +kernel
theorem dX6_chairsWith_7 : decode cX6_chairsWith 7 = .ok (.if_icmp .ge 18, 3) := by decide +kernel
theorem dX6_chairsWith_10 : decode cX6_chairsWith 10 = .ok (.iload_n 2, 1) := by decide +kernel
theorem dX6_chairsWith_11 : decode cX6_chairsWith 11 = .ok (.aload_n 0, 1) := by decide +kernel
theorem dX6_chairsWith_12 : decode cX6_chairsWith 12 = .ok (.aload_n 1, 1) := by decide +kernel
theorem dX6_chairsWith_13 : decode cX6_chairsWith 13 = .ok (.iload_n 3, 1) := by decide +kernel
theorem dX6_chairsWith_14 : decode cX6_chairsWith 14 = .ok (.invokevirtual 79, 3) := by decide +kernel
theorem dX6_chairsWith_17 : decode cX6_chairsWith 17 = .ok (.iadd, 1) := by decide +kernel
theorem dX6_chairsWith_18 : decode cX6_chairsWith 18 = .ok (.istore_n 2, 1) := by decide +kernel
theorem dX6_chairsWith_19 : decode cX6_chairsWith 19 = .ok (.iinc 3 1, 3) := by decide +kernel
theorem dX6_chairsWith_22 : decode cX6_chairsWith 22 = .ok (.goto (-18), 3) := by decide +kernel
theorem dX6_chairsWith_25 : decode cX6_chairsWith 25 = .ok (.iload_n 2, 1) := by decide +kernel
theorem dX6_chairsWith_26 : decode cX6_chairsWith 26 = .ok (.ireturn, 1) := by decide +kernel
theorem dX6_meets_0 : decode cX6_meets 0 = .ok (.aload_n 0, 1) := by decide +kernel
theorem dX6_meets_1 : decode cX6_meets 1 = .ok (.invokevirtual 54, 3) := by decide +kernel
theorem dX6_meets_4 : decode cX6_meets 4 = .ok (.aload_n 1, 1) := by decide +kernel
theorem dX6_meets_5 : decode cX6_meets 5 = .ok (.invokevirtual 50, 3) := by decide +kernel
theorem dX6_meets_8 : decode cX6_meets 8 = .ok (.if_icmp .le 18, 3) := by decide +kernel
theorem dX6_meets_11 : decode cX6_meets 11 = .ok (.aload_n 1, 1) := by decide +kernel
theorem dX6_meets_12 : decode cX6_meets 12 = .ok (.invokevirtual 54, 3) := by decide +kernel
theorem dX6_meets_15 : decode cX6_meets 15 = .ok (.aload_n 0, 1) := by decide +kernel
theorem dX6_meets_16 : decode cX6_meets 16 = .ok (.invokevirtual 50, 3) := by decide +kernel
theorem dX6_meets_19 : decode cX6_meets 19 = .ok (.if_icmp .le 7, 3) := by decide +kernel
theorem dX6_meets_22 : decode cX6_meets 22 = .ok (.iconst 1, 1) := by decide +kernel
theorem dX6_meets_23 : decode cX6_meets 23 = .ok (.goto 4, 3) := by decide +kernel
theorem dX6_meets_26 : decode cX6_meets 26 = .ok (.iconst 0, 1) := by decide +kernel
theorem dX6_meets_27 : decode cX6_meets 27 = .ok (.ireturn, 1) := by decide +kernel
theorem dX11_findDue_0 : decode cX11_findDue 0 = .ok (.aload_n 0, 1) := by decide +kernel
theorem dX11_findDue_1 : decode cX11_findDue 1 = .ok (.getfield 29, 3) := by decide +kernel
theorem dX11_findDue_4 : decode cX11_findDue 4 = .ok (.aload_n 0, 1) := by decide +kernel
theorem dX11_findDue_5 : decode cX11_findDue 5 = .ok (.aload_n 1, 1) := by decide +kernel
theorem dX11_findDue_6 : decode cX11_findDue 6 = .ok (.getfield 221, 3) := by decide +kernel
theorem dX11_findDue_9 : decode cX11_findDue 9 = .ok (.invokevirtual 238, 3) := by decide +kernel
theorem dX11_findDue_12 : decode cX11_findDue 12 = .ok (.aaload, 1) := by decide +kernel
theorem dX11_findDue_13 : decode cX11_findDue 13 = .ok (.astore 4, 2) := by decide +kernel
theorem dX11_findDue_15 : decode cX11_findDue 15 = .ok (.aload_n 0, 1) := by decide +kernel
theorem dX11_findDue_16 : decode cX11_findDue 16 = .ok (.aload_n 1, 1) := by decide +kernel
theorem dX11_findDue_17 : decode cX11_findDue 17 = .ok (.iload_n 2, 1) := by decide +kernel
theorem dX11_findDue_18 : decode cX11_findDue 18 = .ok (.aload_n 1, 1) := by decide +kernel
theorem dX11_findDue_19 : decode cX11_findDue 19 = .ok (.iload_n 2, 1) := by decide +kernel
theorem dX11_findDue_20 : decode cX11_findDue 20 = .ok (.invokevirtual 440, 3) := by decide +kernel
theorem dX11_findDue_23 : decode cX11_findDue 23 = .ok (.invokevirtual 250, 3) := by decide +kernel
theorem dX11_findDue_26 : decode cX11_findDue 26 = .ok (.aload_n 0, 1) := by decide +kernel
theorem dX11_findDue_27 : decode cX11_findDue 27 = .ok (.getfield 53, 3) := by decide +kernel
theorem dX11_findDue_30 : decode cX11_findDue 30 = .ok (.aload 4, 2) := by decide +kernel
theorem dX11_findDue_32 : decode cX11_findDue 32 = .ok (.aload 4, 2) := by decide +kernel
theorem dX11_findDue_34 : decode cX11_findDue 34 = .ok (.getfield 247, 3) := by decide +kernel
theorem dX11_findDue_37 : decode cX11_findDue 37 = .ok (.iload_n 3, 1) := by decide +kernel
theorem dX11_findDue_38 : decode cX11_findDue 38 = .ok (.iadd, 1) := by decide +kernel
theorem dX11_findDue_39 : decode cX11_findDue 39 = .ok (.invokevirtual 254, 3) := by decide +kernel
theorem dX11_findDue_42 : decode cX11_findDue 42 = .ok (.lstore 5, 2) := by decide +kernel
theorem dX11_findDue_44 : decode cX11_findDue 44 = .ok (.aload_n 1, 1) := by decide +kernel
theorem dX11_findDue_45 : decode cX11_findDue 45 = .ok (.getfield 218, 3) := by decide +kernel
theorem dX11_findDue_48 : decode cX11_findDue 48 = .ok (.tableswitch 65 3 5 #[35, 49, 28], 28) := by decide +kernel
theorem dX11_findDue_76 : decode cX11_findDue 76 = .ok (.ldc2_w 443, 3) := by decide +kernel
theorem dX11_findDue_79 : decode cX11_findDue 79 = .ok (.lload 5, 2) := by decide +kernel
theorem dX11_findDue_81 : decode cX11_findDue 81 = .ok (.lmul, 1) := by decide +kernel
theorem dX11_findDue_82 : decode cX11_findDue 82 = .ok (.lreturn, 1) := by decide +kernel
theorem dX11_findDue_83 : decode cX11_findDue 83 = .ok (.lload 5, 2) := by decide +kernel
theorem dX11_findDue_85 : decode cX11_findDue 85 = .ok (.iload_n 3, 1) := by decide +kernel
theorem dX11_findDue_86 : decode cX11_findDue 86 = .ok (.ifCond .ne 7, 3) := by decide +kernel
theorem dX11_findDue_89 : decode cX11_findDue 89 = .ok (.iconst 2, 1) := by decide +kernel
theorem dX11_findDue_90 : decode cX11_findDue 90 = .ok (.goto 4, 3) := by decide +kernel
theorem dX11_findDue_93 : decode cX11_findDue 93 = .ok (.iconst 5, 1) := by decide +kernel
theorem dX11_findDue_94 : decode cX11_findDue 94 = .ok (.i2l, 1) := by decide +kernel
theorem dX11_findDue_95 : decode cX11_findDue 95 = .ok (.ladd, 1) := by decide +kernel
theorem dX11_findDue_96 : decode cX11_findDue 96 = .ok (.lreturn, 1) := by decide +kernel
theorem dX11_findDue_97 : decode cX11_findDue 97 = .ok (.iload_n 3, 1) := by decide +kernel
theorem dX11_findDue_98 : decode cX11_findDue 98 = .ok (.ifCond .ne 8, 3) := by decide +kernel
theorem dX11_findDue_101 : decode cX11_findDue 101 = .ok (.lload 5, 2) := by decide +kernel
theorem dX11_findDue_103 : decode cX11_findDue 103 = .ok (.goto 9, 3) := by decide +kernel
theorem dX11_findDue_106 : decode cX11_findDue 106 = .ok (.lload 5, 2) := by decide +kernel
theorem dX11_findDue_108 : decode cX11_findDue 108 = .ok (.ldc2_w 443, 3) := by decide +kernel
theorem dX11_findDue_111 : decode cX11_findDue 111 = .ok (.ldiv, 1) := by decide +kernel
theorem dX11_findDue_112 : decode cX11_findDue 112 = .ok (.lreturn, 1) := by decide +kernel
theorem dX11_findDue_113 : decode cX11_findDue 113 = .ok (.lload 5, 2) := by decide +kernel
theorem dX11_findDue_115 : decode cX11_findDue 115 = .ok (.lreturn, 1) := by decide +kernel
theorem dX11_forge_0 : decode cX11_forge 0 = .ok (.iload_n 1, 1) := by decide +kernel
theorem dX11_forge_1 : decode cX11_forge 1 = .ok (.iconst 0, 1) := by decide +kernel
theorem dX11_forge_2 : decode cX11_forge 2 = .ok (.iconst 5, 1) := by decide +kernel
theorem dX11_forge_3 : decode cX11_forge 3 = .ok (.invokestatic 124, 3) := by decide +kernel
theorem dX11_forge_6 : decode cX11_forge 6 = .ok (.ifCond .eq 14, 3) := by decide +kernel
theorem dX11_forge_9 : decode cX11_forge 9 = .ok (.iload_n 3, 1) := by decide +kernel
theorem dX11_forge_10 : decode cX11_forge 10 = .ok (.bipush (-100), 2) := by decide +kernel
theorem dX11_forge_12 : decode cX11_forge 12 = .ok (.bipush 100, 2) := by decide +kernel
theorem dX11_forge_14 : decode cX11_forge 14 = .ok (.invokestatic 124, 3) := by decide +kernel
theorem dX11_forge_17 : decode cX11_forge 17 = .ok (.ifCond .ne 9, 3) := by decide +kernel
theorem dX11_forge_20 : decode cX11_forge 20 = .ok (.aload_n 0, 1) := by decide +kernel
theorem dX11_forge_21 : decode cX11_forge 21 = .ok (.iconst 1, 1) := by decide +kernel
theorem dX11_forge_22 : decode cX11_forge 22 = .ok (.invokevirtual 316, 3) := by decide +kernel
theorem dX11_forge_25 : decode cX11_forge 25 = .ok (.ireturn, 1) := by decide +kernel
theorem dX11_forge_26 : decode cX11_forge 26 = .ok (.aload_n 0, 1) := by decide +kernel
theorem dX11_forge_27 : decode cX11_forge 27 = .ok (.getfield 35, 3) := by decide +kernel
theorem dX11_forge_30 : decode cX11_forge 30 = .ok (.iload_n 1, 1) := by decide +kernel
theorem dX11_forge_31 : decode cX11_forge 31 = .ok (.aaload, 1) := by decide +kernel
theorem dX11_forge_32 : decode cX11_forge 32 = .ok (.astore 4, 2) := by decide +kernel
theorem dX11_forge_34 : decode cX11_forge 34 = .ok (.iload_n 2, 1) := by decide +kernel
theorem dX11_forge_35 : decode cX11_forge 35 = .ok (.tableswitch 155 0 8 #[49, 64, 73, 82, 91, 110, 118, 125, 148], 49) := by decide +kernel
theorem dX11_forge_84 : decode cX11_forge 84 = .ok (.aload_n 0, 1) := by decide +kernel
theorem dX11_forge_85 : decode cX11_forge 85 = .ok (.aload 4, 2) := by decide +kernel
theorem dX11_forge_87 : decode cX11_forge 87 = .ok (.iload_n 3, 1) := by decide +kernel
theorem dX11_forge_88 : decode cX11_forge 88 = .ok (.getstatic 163, 3) := by decide +kernel
theorem dX11_forge_91 : decode cX11_forge 91 = .ok (.arraylength, 1) := by decide +kernel
theorem dX11_forge_92 : decode cX11_forge 92 = .ok (.invokestatic 340, 3) := by decide +kernel
theorem dX11_forge_95 : decode cX11_forge 95 = .ok (.invokevirtual 345, 3) := by decide +kernel
theorem dX11_forge_98 : decode cX11_forge 98 = .ok (.ireturn, 1) := by decide +kernel
theorem dX11_forge_99 : decode cX11_forge 99 = .ok (.aload_n 0, 1) := by decide +kernel
theorem dX11_forge_100 : decode cX11_forge 100 = .ok (.aload 4, 2) := by decide +kernel
theorem dX11_forge_102 : decode cX11_forge 102 = .ok (.iconst 2, 1) := by decide +kernel
theorem dX11_forge_103 : decode cX11_forge 103 = .ok (.iload_n 3, 1) := by decide +kernel
theorem dX11_forge_104 : decode cX11_forge 104 = .ok (.invokevirtual 349, 3) := by decide +kernel
theorem dX11_forge_107 : decode cX11_forge 107 = .ok (.ireturn, 1) := by decide +kernel
theorem dX11_forge_108 : decode cX11_forge 108 = .ok (.aload_n 0, 1) := by decide +kernel
theorem dX11_forge_109 : decode cX11_forge 109 = .ok (.aload 4, 2) := by decide +kernel
theorem dX11_forge_111 : decode cX11_forge 111 = .ok (.iconst 3, 1) := by decide +kernel
theorem dX11_forge_112 : decode cX11_forge 112 = .ok (.iload_n 3, 1) := by decide +kernel
theorem dX11_forge_113 : decode cX11_forge 113 = .ok (.invokevirtual 349, 3) := by decide +kernel
theorem dX11_forge_116 : decode cX11_forge 116 = .ok (.ireturn, 1) := by decide +kernel
theorem dX11_forge_117 : decode cX11_forge 117 = .ok (.aload_n 0, 1) := by decide +kernel
theorem dX11_forge_118 : decode cX11_forge 118 = .ok (.aload 4, 2) := by decide +kernel
theorem dX11_forge_120 : decode cX11_forge 120 = .ok (.iconst 4, 1) := by decide +kernel
theorem dX11_forge_121 : decode cX11_forge 121 = .ok (.iload_n 3, 1) := by decide +kernel
theorem dX11_forge_122 : decode cX11_forge 122 = .ok (.invokevirtual 349, 3) := by decide +kernel
theorem dX11_forge_125 : decode cX11_forge 125 = .ok (.ireturn, 1) := by decide +kernel
theorem dX11_forge_126 : decode cX11_forge 126 = .ok (.iload_n 3, 1) := by decide +kernel
theorem dX11_forge_127 : decode cX11_forge 127 = .ok (.ifCond .ge 12, 3) := by decide +kernel
theorem dX11_forge_130 : decode cX11_forge 130 = .ok (.aload_n 0, 1) := by decide +kernel
theorem dX11_forge_131 : decode cX11_forge 131 = .ok (.bipush 13, 2) := by decide +kernel
theorem dX11_forge_133 : decode cX11_forge 133 = .ok (.invokevirtual 316, 3) := by decide +kernel
theorem dX11_forge_136 : decode cX11_forge 136 = .ok (.goto 8, 3) := by decide +kernel
theorem dX11_forge_139 : decode cX11_forge 139 = .ok (.aload_n 0, 1) := by decide +kernel
theorem dX11_forge_140 : decode cX11_forge 140 = .ok (.iload_n 3, 1) := by decide +kernel
theorem dX11_forge_141 : decode cX11_forge 141 = .ok (.invokevirtual 337, 3) := by decide +kernel
theorem dX11_forge_144 : decode cX11_forge 144 = .ok (.ireturn, 1) := by decide +kernel
theorem dX11_forge_145 : decode cX11_forge 145 = .ok (.aload_n 0, 1) := by decide +kernel
theorem dX11_forge_146 : decode cX11_forge 146 = .ok (.aload 4, 2) := by decide +kernel
theorem dX11_forge_148 : decode cX11_forge 148 = .ok (.iload_n 3, 1) := by decide +kernel
theorem dX11_forge_149 : decode cX11_forge 149 = .ok (.invokevirtual 353, 3) := by decide +kernel
theorem dX11_forge_152 : decode cX11_forge 152 = .ok (.ireturn, 1) := by decide +kernel
theorem dX11_forge_153 : decode cX11_forge 153 = .ok (.aload_n 0, 1) := by decide +kernel
theorem dX11_forge_154 : decode cX11_forge 154 = .ok (.aload 4, 2) := by decide +kernel
theorem dX11_forge_156 : decode cX11_forge 156 = .ok (.invokevirtual 356, 3) := by decide +kernel
theorem dX11_forge_159 : decode cX11_forge 159 = .ok (.ireturn, 1) := by decide +kernel
theorem dX11_forge_160 : decode cX11_forge 160 = .ok (.iload_n 3, 1) := by decide +kernel
theorem dX11_forge_161 : decode cX11_forge 161 = .ok (.ifCond .ne 12, 3) := by decide +kernel
theorem dX11_forge_164 : decode cX11_forge 164 = .ok (.aload_n 0, 1) := by decide +kernel
theorem dX11_forge_165 : decode cX11_forge 165 = .ok (.bipush 15, 2) := by decide +kernel
theorem dX11_forge_167 : decode cX11_forge 167 = .ok (.invokevirtual 316, 3) := by decide +kernel
theorem dX11_forge_170 : decode cX11_forge 170 = .ok (.goto 12, 3) := by decide +kernel
theorem dX11_forge_173 : decode cX11_forge 173 = .ok (.aload_n 0, 1) := by decide +kernel
theorem dX11_forge_174 : decode cX11_forge 174 = .ok (.sipush 1000, 3) := by decide +kernel
theorem dX11_forge_177 : decode cX11_forge 177 = .ok (.iload_n 3, 1) := by decide +kernel
theorem dX11_forge_178 : decode cX11_forge 178 = .ok (.idiv, 1) := by decide +kernel
theorem dX11_forge_179 : decode cX11_forge 179 = .ok (.invokevirtual 337, 3) := by decide +kernel
theorem dX11_forge_182 : decode cX11_forge 182 = .ok (.ireturn, 1) := by decide +kernel
theorem dX11_forge_183 : decode cX11_forge 183 = .ok (.aload_n 0, 1) := by decide +kernel
theorem dX11_forge_184 : decode cX11_forge 184 = .ok (.bipush 10, 2) := by decide +kernel
theorem dX11_forge_186 : decode cX11_forge 186 = .ok (.invokevirtual 316, 3) := by decide +kernel
theorem dX11_forge_189 : decode cX11_forge 189 = .ok (.ireturn, 1) := by decide +kernel
theorem dX11_forge_190 : decode cX11_forge 190 = .ok (.aload_n 0, 1) := by decide +kernel
theorem dX11_forge_191 : decode cX11_forge 191 = .ok (.iconst 1, 1) := by decide +kernel
theorem dX11_forge_192 : decode cX11_forge 192 = .ok (.invokevirtual 316, 3) := by decide +kernel
theorem dX11_forge_195 : decode cX11_forge 195 = .ok (.ireturn, 1) := by decide +kernel
theorem dX11_leave_0 : decode cX11_leave 0 = .ok (.aload_n 0, 1) := by decide +kernel
theorem dX11_leave_1 : decode cX11_leave 1 = .ok (.iload_n 1, 1) := by decide +kernel
theorem dX11_leave_2 : decode cX11_leave 2 = .ok (.invokevirtual 153, 3) := by decide +kernel
theorem dX11_leave_5 : decode cX11_leave 5 = .ok (.astore 4, 2) := by decide +kernel
theorem dX11_leave_7 : decode cX11_leave 7 = .ok (.aload 4, 2) := by decide +kernel
theorem dX11_leave_9 : decode cX11_leave 9 = .ok (.ifnull 11, 3) := by decide +kernel
theorem dX11_leave_12 : decode cX11_leave 12 = .ok (.iload_n 2, 1) := by decide +kernel
theorem dX11_leave_13 : decode cX11_leave 13 = .ok (.iload_n 3, 1) := by decide +kernel
theorem dX11_leave_14 : decode cX11_leave 14 = .ok (.invokestatic 135, 3) := by decide +kernel
theorem dX11_leave_17 : decode cX11_leave 17 = .ok (.ifCond .ne 6, 3) := by decide +kernel
theorem dX11_leave_20 : decode cX11_leave 20 = .ok (.bipush (-2), 2) := by decide +kernel
theorem dX11_leave_22 : decode cX11_leave 22 = .ok (.ireturn, 1) := by decide +kernel
theorem dX11_leave_23 : decode cX11_leave 23 = .ok (.aload 4, 2) := by decide +kernel
theorem dX11_leave_25 : decode cX11_leave 25 = .ok (.getfield 157, 3) := by decide +kernel
theorem dX11_leave_28 : decode cX11_leave 28 = .ok (.bipush 6, 2) := by decide +kernel
theorem dX11_leave_30 : decode cX11_leave 30 = .ok (.if_icmp .lt 6, 3) := by decide +kernel
theorem dX11_leave_33 : decode cX11_leave 33 = .ok (.bipush (-4), 2) := by decide +kernel
theorem dX11_leave_35 : decode cX11_leave 35 = .ok (.ireturn, 1) := by decide +kernel
theorem dX11_leave_36 : decode cX11_leave 36 = .ok (.aload 4, 2) := by decide +kernel
theorem dX11_leave_38 : decode cX11_leave 38 = .ok (.iload_n 2, 1) := by decide +kernel
theorem dX11_leave_39 : decode cX11_leave 39 = .ok (.iload_n 3, 1) := by decide +kernel
theorem dX11_leave_40 : decode cX11_leave 40 = .ok (.invokevirtual 160, 3) := by decide +kernel
theorem dX11_leave_43 : decode cX11_leave 43 = .ok (.aload 4, 2) := by decide +kernel
theorem dX11_leave_45 : decode cX11_leave 45 = .ok (.getfield 157, 3) := by decide +kernel
theorem dX11_leave_48 : decode cX11_leave 48 = .ok (.ireturn, 1) := by decide +kernel
theorem dX11_programme_0 : decode cX11_programme 0 = .ok (.iload_n 1, 1) := by decide +kernel
theorem dX11_programme_1 : decode cX11_programme 1 = .ok (.invokestatic 167, 3) := by decide +kernel
theorem dX11_programme_4 : decode cX11_programme 4 = .ok (.ifCond .ne 6, 3) := by decide +kernel
theorem dX11_programme_7 : decode cX11_programme 7 = .ok (.bipush (-2), 2) := by decide +kernel
theorem dX11_programme_9 : decode cX11_programme 9 = .ok (.ireturn, 1) := by decide +kernel
theorem dX11_programme_10 : decode cX11_programme 10 = .ok (.aload_n 0, 1) := by decide +kernel
theorem dX11_programme_11 : decode cX11_programme 11 = .ok (.getfield 74, 3) := by decide +kernel
theorem dX11_programme_14 : decode cX11_programme 14 = .ok (.invokevirtual 292, 3) := by decide +kernel
theorem dX11_programme_17 : decode cX11_programme 17 = .ok (.iconst 0, 1) := by decide +kernel
theorem dX11_programme_18 : decode cX11_programme 18 = .ok (.istore 4, 2) := by decide +kernel
theorem dX11_programme_20 : decode cX11_programme 20 = .ok (.iload 4, 2) := by decide +kernel
theorem dX11_programme_22 : decode cX11_programme 22 = .ok (.aload_n 0, 1) := by decide +kernel
theorem dX11_programme_23 : decode cX11_programme 23 = .ok (.getfield 82, 3) := by decide +kernel
theorem dX11_programme_26 : decode cX11_programme 26 = .ok (.if_icmp .ge 40, 3) := by decide +kernel
theorem dX11_programme_29 : decode cX11_programme 29 = .ok (.aload_n 0, 1) := by decide +kernel
theorem dX11_programme_30 : decode cX11_programme 30 = .ok (.getfield 17, 3) := by decide +kernel
theorem dX11_programme_33 : decode cX11_programme 33 = .ok (.iload 4, 2) := by decide +kernel
theorem dX11_programme_35 : decode cX11_programme 35 = .ok (.aaload, 1) := by decide +kernel
theorem dX11_programme_36 : decode cX11_programme 36 = .ok (.iload_n 1, 1) := by decide +kernel
theorem dX11_programme_37 : decode cX11_programme 37 = .ok (.invokevirtual 295, 3) := by decide +kernel
theorem dX11_programme_40 : decode cX11_programme 40 = .ok (.ifCond .ne 20, 3) := by decide +kernel
theorem dX11_programme_43 : decode cX11_programme 43 = .ok (.aload_n 0, 1) := by decide +kernel
theorem dX11_programme_44 : decode cX11_programme 44 = .ok (.getfield 74, 3) := by decide +kernel
theorem dX11_programme_47 : decode cX11_programme 47 = .ok (.aload_n 0, 1) := by decide +kernel
theorem dX11_programme_48 : decode cX11_programme 48 = .ok (.getfield 17, 3) := by decide +kernel
theorem dX11_programme_51 : decode cX11_programme 51 = .ok (.iload 4, 2) := by decide +kernel
theorem dX11_programme_53 : decode cX11_programme 53 = .ok (.aaload, 1) := by decide +kernel
theorem dX11_programme_54 : decode cX11_programme 54 = .ok (.getfield 205, 3) := by decide +kernel
theorem dX11_programme_57 : decode cX11_programme 57 = .ok (.invokevirtual 298, 3) := by decide +kernel
theorem dX11_programme_60 : decode cX11_programme 60 = .ok (.iinc 4 1, 3) := by decide +kernel
theorem dX11_programme_63 : decode cX11_programme 63 = .ok (.goto (-43), 3) := by decide +kernel
theorem dX11_programme_66 : decode cX11_programme 66 = .ok (.iconst 0, 1) := by decide +kernel
theorem dX11_programme_67 : decode cX11_programme 67 = .ok (.istore 4, 2) := by decide +kernel
theorem dX11_programme_69 : decode cX11_programme 69 = .ok (.iload 4, 2) := by decide +kernel
theorem dX11_programme_71 : decode cX11_programme 71 = .ok (.aload_n 0, 1) := by decide +kernel
theorem dX11_programme_72 : decode cX11_programme 72 = .ok (.getfield 78, 3) := by decide +kernel
theorem dX11_programme_75 : decode cX11_programme 75 = .ok (.if_icmp .ge 39, 3) := by decide +kernel
theorem dX11_programme_78 : decode cX11_programme 78 = .ok (.aload_n 0, 1) := by decide +kernel
theorem dX11_programme_79 : decode cX11_programme 79 = .ok (.getfield 11, 3) := by decide +kernel
theorem dX11_programme_82 : decode cX11_programme 82 = .ok (.iload 4, 2) := by decide +kernel
theorem dX11_programme_84 : decode cX11_programme 84 = .ok (.aaload, 1) := by decide +kernel
theorem dX11_programme_85 : decode cX11_programme 85 = .ok (.iload_n 1, 1) := by decide +kernel
theorem dX11_programme_86 : decode cX11_programme 86 = .ok (.invokevirtual 202, 3) := by decide +kernel
theorem dX11_programme_89 : decode cX11_programme 89 = .ok (.ifCond .eq 19, 3) := by decide +kernel
theorem dX11_programme_92 : decode cX11_programme 92 = .ok (.aload_n 0, 1) := by decide +kernel
theorem dX11_programme_93 : decode cX11_programme 93 = .ok (.getfield 74, 3) := by decide +kernel
theorem dX11_programme_96 : decode cX11_programme 96 = .ok (.iload 4, 2) := by decide +kernel
theorem dX11_programme_98 : decode cX11_programme 98 = .ok (.aload_n 0, 1) := by decide +kernel
theorem dX11_programme_99 : decode cX11_programme 99 = .ok (.getfield 11, 3) := by decide +kernel
theorem dX11_programme_102 : decode cX11_programme 102 = .ok (.iload 4, 2) := by decide +kernel
theorem dX11_programme_104 : decode cX11_programme 104 = .ok (.aaload, 1) := by decide +kernel
theorem dX11_programme_105 : decode cX11_programme 105 = .ok (.invokevirtual 302, 3) := by decide +kernel
theorem dX11_programme_108 : decode cX11_programme 108 = .ok (.iinc 4 1, 3) := by decide +kernel
theorem dX11_programme_111 : decode cX11_programme 111 = .ok (.goto (-42), 3) := by decide +kernel
theorem dX11_programme_114 : decode cX11_programme 114 = .ok (.aload_n 0, 1) := by decide +kernel
theorem dX11_programme_115 : decode cX11_programme 115 = .ok (.getfield 74, 3) := by decide +kernel
theorem dX11_programme_118 : decode cX11_programme 118 = .ok (.iload_n 2, 1) := by decide +kernel
theorem dX11_programme_119 : decode cX11_programme 119 = .ok (.iload_n 3, 1) := by decide +kernel
theorem dX11_programme_120 : decode cX11_programme 120 = .ok (.invokevirtual 303, 3) := by decide +kernel
theorem dX11_programme_123 : decode cX11_programme 123 = .ok (.ireturn, 1) := by decide +kernel
theorem dX11_score_0 : decode cX11_score 0 = .ok (.aload_n 0, 1) := by decide +kernel
theorem dX11_score_1 : decode cX11_score 1 = .ok (.iload_n 1, 1) := by decide +kernel
theorem dX11_score_2 : decode cX11_score 2 = .ok (.invokevirtual 131, 3) := by decide +kernel
theorem dX11_score_5 : decode cX11_score 5 = .ok (.astore 5, 2) := by decide +kernel
theorem dX11_score_7 : decode cX11_score 7 = .ok (.aload 5, 2) := by decide +kernel
theorem dX11_score_9 : decode cX11_score 9 = .ok (.ifnull 12, 3) := by decide +kernel
theorem dX11_score_12 : decode cX11_score 12 = .ok (.iload_n 2, 1) := by decide +kernel
theorem dX11_score_13 : decode cX11_score 13 = .ok (.iconst 0, 1) := by decide +kernel
theorem dX11_score_14 : decode cX11_score 14 = .ok (.iconst 2, 1) := by decide +kernel
theorem dX11_score_15 : decode cX11_score 15 = .ok (.invokestatic 124, 3) := by decide +kernel
theorem dX11_score_18 : decode cX11_score 18 = .ok (.ifCond .ne 6, 3) := by decide +kernel
theorem dX11_score_21 : decode cX11_score 21 = .ok (.bipush (-2), 2) := by decide +kernel
theorem dX11_score_23 : decode cX11_score 23 = .ok (.ireturn, 1) := by decide +kernel
theorem dX11_score_24 : decode cX11_score 24 = .ok (.iload_n 2, 1) := by decide +kernel
theorem dX11_score_25 : decode cX11_score 25 = .ok (.iconst 1, 1) := by decide +kernel
theorem dX11_score_26 : decode cX11_score 26 = .ok (.if_icmp .ne 15, 3) := by decide +kernel
theorem dX11_score_29 : decode cX11_score 29 = .ok (.iload_n 3, 1) := by decide +kernel
theorem dX11_score_30 : decode cX11_score 30 = .ok (.iload 4, 2) := by decide +kernel
theorem dX11_score_32 : decode cX11_score 32 = .ok (.invokestatic 135, 3) := by decide +kernel
theorem dX11_score_35 : decode cX11_score 35 = .ok (.ifCond .ne 6, 3) := by decide +kernel
theorem dX11_score_38 : decode cX11_score 38 = .ok (.bipush (-2), 2) := by decide +kernel
theorem dX11_score_40 : decode cX11_score 40 = .ok (.ireturn, 1) := by decide +kernel
theorem dX11_score_41 : decode cX11_score 41 = .ok (.aload 5, 2) := by decide +kernel
theorem dX11_score_43 : decode cX11_score 43 = .ok (.iload_n 2, 1) := by decide +kernel
theorem dX11_score_44 : decode cX11_score 44 = .ok (.putfield 139, 3) := by decide +kernel
theorem dX11_score_47 : decode cX11_score 47 = .ok (.aload 5, 2) := by decide +kernel
theorem dX11_score_49 : decode cX11_score 49 = .ok (.iload_n 2, 1) := by decide +kernel
theorem dX11_score_50 : decode cX11_score 50 = .ok (.iconst 1, 1) := by decide +kernel
theorem dX11_score_51 : decode cX11_score 51 = .ok (.if_icmp .ne 7, 3) := by decide +kernel
theorem dX11_score_54 : decode cX11_score 54 = .ok (.iload_n 3, 1) := by decide +kernel
theorem dX11_score_55 : decode cX11_score 55 = .ok (.goto 4, 3) := by decide +kernel
theorem dX11_score_58 : decode cX11_score 58 = .ok (.iconst (-1), 1) := by decide +kernel
theorem dX11_score_59 : decode cX11_score 59 = .ok (.putfield 142, 3) := by decide +kernel
theorem dX11_score_62 : decode cX11_score 62 = .ok (.aload 5, 2) := by decide +kernel
theorem dX11_score_64 : decode cX11_score 64 = .ok (.iload_n 2, 1) := by decide +kernel
theorem dX11_score_65 : decode cX11_score 65 = .ok (.iconst 1, 1) := by decide +kernel
theorem dX11_score_66 : decode cX11_score 66 = .ok (.if_icmp .ne 8, 3) := by decide +kernel
theorem dX11_score_69 : decode cX11_score 69 = .ok (.iload 4, 2) := by decide +kernel
theorem dX11_score_71 : decode cX11_score 71 = .ok (.goto 4, 3) := by decide +kernel
theorem dX11_score_74 : decode cX11_score 74 = .ok (.iconst (-1), 1) := by decide +kernel
theorem dX11_score_75 : decode cX11_score 75 = .ok (.putfield 145, 3) := by decide +kernel
theorem dX11_score_78 : decode cX11_score 78 = .ok (.iconst 1, 1) := by decide +kernel
theorem dX11_score_79 : decode cX11_score 79 = .ok (.ireturn, 1) := by decide +kernel
theorem dX11_sitsInMeeting_0 : decode cX11_sitsInMeeting 0 = .ok (.iconst 0, 1) := by decide +kernel
theorem dX11_sitsInMeeting_1 : decode cX11_sitsInMeeting 1 = .ok (.istore_n 3, 1) := by decide +kernel
theorem dX11_sitsInMeeting_2 : decode cX11_sitsInMeeting 2 = .ok (.iload_n 3, 1) := by decide +kernel
theorem dX11_sitsInMeeting_3 : decode cX11_sitsInMeeting 3 = .ok (.aload_n 0, 1) := by decide +kernel
theorem dX11_sitsInMeeting_4 : decode cX11_sitsInMeeting 4 = .ok (.getfield 85, 3) := by decide +kernel
theorem dX11_sitsInMeeting_7 : decode cX11_sitsInMeeting 7 = .ok (.if_icmp .ge 43, 3) := by decide +kernel
theorem dX11_sitsInMeeting_10 : decode cX11_sitsInMeeting 10 = .ok (.aload_n 0, 1) := by decide +kernel
theorem dX11_sitsInMeeting_11 : decode cX11_sitsInMeeting 11 = .ok (.getfield 23, 3) := by decide +kernel
theorem dX11_sitsInMeeting_14 : decode cX11_sitsInMeeting 14 = .ok (.iload_n 3, 1) := by decide +kernel
theorem dX11_sitsInMeeting_15 : decode cX11_sitsInMeeting 15 = .ok (.aaload, 1) := by decide +kernel
theorem dX11_sitsInMeeting_16 : decode cX11_sitsInMeeting 16 = .ok (.astore 4, 2) := by decide +kernel
theorem dX11_sitsInMeeting_18 : decode cX11_sitsInMeeting 18 = .ok (.aload 4, 2) := by decide +kernel
theorem dX11_sitsInMeeting_20 : decode cX11_sitsInMeeting 20 = .ok (.aload_n 1, 1) := by decide +kernel
theorem dX11_sitsInMeeting_21 : decode cX11_sitsInMeeting 21 = .ok (.if_acmp .eq 23, 3) := by decide +kernel
theorem dX11_sitsInMeeting_24 : decode cX11_sitsInMeeting 24 = .ok (.aload 4, 2) := by decide +kernel
theorem dX11_sitsInMeeting_26 : decode cX11_sitsInMeeting 26 = .ok (.iload_n 2, 1) := by decide +kernel
theorem dX11_sitsInMeeting_27 : decode cX11_sitsInMeeting 27 = .ok (.invokevirtual 360, 3) := by decide +kernel
theorem dX11_sitsInMeeting_30 : decode cX11_sitsInMeeting 30 = .ok (.ifCond .eq 14, 3) := by decide +kernel
theorem dX11_sitsInMeeting_33 : decode cX11_sitsInMeeting 33 = .ok (.aload 4, 2) := by decide +kernel
theorem dX11_sitsInMeeting_35 : decode cX11_sitsInMeeting 35 = .ok (.aload_n 1, 1) := by decide +kernel
theorem dX11_sitsInMeeting_36 : decode cX11_sitsInMeeting 36 = .ok (.invokevirtual 418, 3) := by decide +kernel
theorem dX11_sitsInMeeting_39 : decode cX11_sitsInMeeting 39 = .ok (.ifCond .eq 5, 3) := by decide +kernel
theorem dX11_sitsInMeeting_42 : decode cX11_sitsInMeeting 42 = .ok (.iconst 1, 1) := by decide +kernel
theorem dX11_sitsInMeeting_43 : decode cX11_sitsInMeeting 43 = .ok (.ireturn, 1) := by decide +kernel
theorem dX11_sitsInMeeting_44 : decode cX11_sitsInMeeting 44 = .ok (.iinc 3 1, 3) := by decide +kernel
theorem dX11_sitsInMeeting_47 : decode cX11_sitsInMeeting 47 = .ok (.goto (-45), 3) := by decide +kernel
theorem dX11_sitsInMeeting_50 : decode cX11_sitsInMeeting 50 = .ok (.iconst 0, 1) := by decide +kernel
theorem dX11_sitsInMeeting_51 : decode cX11_sitsInMeeting 51 = .ok (.ireturn, 1) := by decide +kernel
theorem dX11_worth_0 : decode cX11_worth 0 = .ok (.aload_n 0, 1) := by decide +kernel
theorem dX11_worth_1 : decode cX11_worth 1 = .ok (.iload_n 1, 1) := by decide +kernel
theorem dX11_worth_2 : decode cX11_worth 2 = .ok (.invokevirtual 173, 3) := by decide +kernel
theorem dX11_worth_5 : decode cX11_worth 5 = .ok (.astore 5, 2) := by decide +kernel
theorem dX11_worth_7 : decode cX11_worth 7 = .ok (.aload 5, 2) := by decide +kernel
theorem dX11_worth_9 : decode cX11_worth 9 = .ok (.ifnull 18, 3) := by decide +kernel
theorem dX11_worth_12 : decode cX11_worth 12 = .ok (.aload_n 0, 1) := by decide +kernel
theorem dX11_worth_13 : decode cX11_worth 13 = .ok (.iload_n 2, 1) := by decide +kernel
theorem dX11_worth_14 : decode cX11_worth 14 = .ok (.invokevirtual 153, 3) := by decide +kernel
theorem dX11_worth_17 : decode cX11_worth 17 = .ok (.ifnull 10, 3) := by decide +kernel
theorem dX11_worth_20 : decode cX11_worth 20 = .ok (.iload_n 3, 1) := by decide +kernel
theorem dX11_worth_21 : decode cX11_worth 21 = .ok (.invokestatic 148, 3) := by decide +kernel
theorem dX11_worth_24 : decode cX11_worth 24 = .ok (.ifCond .ne 7, 3) := by decide +kernel
theorem dX11_worth_27 : decode cX11_worth 27 = .ok (.ldc2_w 245, 3) := by decide +kernel
theorem dX11_worth_30 : decode cX11_worth 30 = .ok (.lreturn, 1) := by decide +kernel
theorem dX11_worth_31 : decode cX11_worth 31 = .ok (.aload_n 0, 1) := by decide +kernel
theorem dX11_worth_32 : decode cX11_worth 32 = .ok (.getfield 29, 3) := by decide +kernel
theorem dX11_worth_35 : decode cX11_worth 35 = .ok (.aload_n 0, 1) := by decide +kernel
theorem dX11_worth_36 : decode cX11_worth 36 = .ok (.aload 5, 2) := by decide +kernel
theorem dX11_worth_38 : decode cX11_worth 38 = .ok (.getfield 221, 3) := by decide +kernel
theorem dX11_worth_41 : decode cX11_worth 41 = .ok (.invokevirtual 238, 3) := by decide +kernel
theorem dX11_worth_44 : decode cX11_worth 44 = .ok (.aaload, 1) := by decide +kernel
theorem dX11_worth_45 : decode cX11_worth 45 = .ok (.astore 6, 2) := by decide +kernel
theorem dX11_worth_47 : decode cX11_worth 47 = .ok (.iload 4, 2) := by decide +kernel
theorem dX11_worth_49 : decode cX11_worth 49 = .ok (.iconst 0, 1) := by decide +kernel
theorem dX11_worth_50 : decode cX11_worth 50 = .ok (.aload 6, 2) := by decide +kernel
theorem dX11_worth_52 : decode cX11_worth 52 = .ok (.getfield 247, 3) := by decide +kernel
theorem dX11_worth_55 : decode cX11_worth 55 = .ok (.iconst 1, 1) := by decide +kernel
theorem dX11_worth_56 : decode cX11_worth 56 = .ok (.iadd, 1) := by decide +kernel
theorem dX11_worth_57 : decode cX11_worth 57 = .ok (.invokestatic 124, 3) := by decide +kernel
theorem dX11_worth_60 : decode cX11_worth 60 = .ok (.ifCond .ne 7, 3) := by decide +kernel
theorem dX11_worth_63 : decode cX11_worth 63 = .ok (.ldc2_w 245, 3) := by decide +kernel
theorem dX11_worth_66 : decode cX11_worth 66 = .ok (.lreturn, 1) := by decide +kernel
theorem dX11_worth_67 : decode cX11_worth 67 = .ok (.aload_n 0, 1) := by decide +kernel
theorem dX11_worth_68 : decode cX11_worth 68 = .ok (.aload 5, 2) := by decide +kernel
theorem dX11_worth_70 : decode cX11_worth 70 = .ok (.iload_n 2, 1) := by decide +kernel
theorem dX11_worth_71 : decode cX11_worth 71 = .ok (.iload_n 3, 1) := by decide +kernel
theorem dX11_worth_72 : decode cX11_worth 72 = .ok (.invokevirtual 250, 3) := by decide +kernel
theorem dX11_worth_75 : decode cX11_worth 75 = .ok (.aload_n 0, 1) := by decide +kernel
theorem dX11_worth_76 : decode cX11_worth 76 = .ok (.getfield 53, 3) := by decide +kernel
theorem dX11_worth_79 : decode cX11_worth 79 = .ok (.aload 6, 2) := by decide +kernel
theorem dX11_worth_81 : decode cX11_worth 81 = .ok (.iload 4, 2) := by decide +kernel
theorem dX11_worth_83 : decode cX11_worth 83 = .ok (.iconst 2, 1) := by decide +kernel
theorem dX11_worth_84 : decode cX11_worth 84 = .ok (.if_icmp .ge 14, 3) := by decide +kernel
theorem dX11_worth_87 : decode cX11_worth 87 = .ok (.aload 6, 2) := by decide +kernel
theorem dX11_worth_89 : decode cX11_worth 89 = .ok (.getfield 247, 3) := by decide +kernel
theorem dX11_worth_92 : decode cX11_worth 92 = .ok (.iload 4, 2) := by decide +kernel
theorem dX11_worth_94 : decode cX11_worth 94 = .ok (.iadd, 1) := by decide +kernel
theorem dX11_worth_95 : decode cX11_worth 95 = .ok (.goto 7, 3) := by decide +kernel
theorem dX11_worth_98 : decode cX11_worth 98 = .ok (.iload 4, 2) := by decide +kernel
theorem dX11_worth_100 : decode cX11_worth 100 = .ok (.iconst 2, 1) := by decide +kernel
theorem dX11_worth_101 : decode cX11_worth 101 = .ok (.isub, 1) := by decide +kernel
theorem dX11_worth_102 : decode cX11_worth 102 = .ok (.invokevirtual 254, 3) := by decide +kernel
theorem dX11_worth_105 : decode cX11_worth 105 = .ok (.lreturn, 1) := by decide +kernel
theorem dX1_findOrder_0 : decode cX1_findOrder 0 = .ok (.aload_n 0, 1) := by decide +kernel
theorem dX1_findOrder_1 : decode cX1_findOrder 1 = .ok (.aload_n 1, 1) := by decide +kernel
theorem dX1_findOrder_2 : decode cX1_findOrder 2 = .ok (.invokevirtual 25, 3) := by decide +kernel
theorem dX1_findOrder_5 : decode cX1_findOrder 5 = .ok (.iconst 1, 1) := by decide +kernel
theorem dX1_findOrder_6 : decode cX1_findOrder 6 = .ok (.istore_n 3, 1) := by decide +kernel
theorem dX1_findOrder_7 : decode cX1_findOrder 7 = .ok (.aload_n 0, 1) := by decide +kernel
theorem dX1_findOrder_8 : decode cX1_findOrder 8 = .ok (.ldc 29, 2) := by decide +kernel
theorem dX1_findOrder_10 : decode cX1_findOrder 10 = .ok (.putfield 22, 3) := by decide +kernel
theorem dX1_findOrder_13 : decode cX1_findOrder 13 = .ok (.iconst 0, 1) := by decide +kernel
theorem dX1_findOrder_14 : decode cX1_findOrder 14 = .ok (.istore 4, 2) := by decide +kernel
theorem dX1_findOrder_16 : decode cX1_findOrder 16 = .ok (.iload 4, 2) := by decide +kernel
theorem dX1_findOrder_18 : decode cX1_findOrder 18 = .ok (.bipush 120, 2) := by decide +kernel
theorem dX1_findOrder_20 : decode cX1_findOrder 20 = .ok (.if_icmp .ge 58, 3) := by decide +kernel
theorem dX1_findOrder_23 : decode cX1_findOrder 23 = .ok (.iload_n 3, 1) := by decide +kernel
theorem dX1_findOrder_24 : decode cX1_findOrder 24 = .ok (.ifCond .eq 54, 3) := by decide +kernel
theorem dX1_findOrder_27 : decode cX1_findOrder 27 = .ok (.aload_n 0, 1) := by decide +kernel
theorem dX1_findOrder_28 : decode cX1_findOrder 28 = .ok (.aload_n 1, 1) := by decide +kernel
theorem dX1_findOrder_29 : decode cX1_findOrder 29 = .ok (.aload_n 2, 1) := by decide +kernel
theorem dX1_findOrder_30 : decode cX1_findOrder 30 = .ok (.invokevirtual 30, 3) := by decide +kernel
theorem dX1_findOrder_33 : decode cX1_findOrder 33 = .ok (.istore 5, 2) := by decide +kernel
theorem dX1_findOrder_35 : decode cX1_findOrder 35 = .ok (.iload 5, 2) := by decide +kernel
theorem dX1_findOrder_37 : decode cX1_findOrder 37 = .ok (.aload_n 0, 1) := by decide +kernel
theorem dX1_findOrder_38 : decode cX1_findOrder 38 = .ok (.getfield 22, 3) := by decide +kernel
theorem dX1_findOrder_41 : decode cX1_findOrder 41 = .ok (.if_icmp .ge 26, 3) := by decide +kernel
theorem dX1_findOrder_44 : decode cX1_findOrder 44 = .ok (.aload_n 0, 1) := by decide +kernel
theorem dX1_findOrder_45 : decode cX1_findOrder 45 = .ok (.iload 5, 2) := by decide +kernel
theorem dX1_findOrder_47 : decode cX1_findOrder 47 = .ok (.putfield 22, 3) := by decide +kernel
theorem dX1_findOrder_50 : decode cX1_findOrder 50 = .ok (.aload_n 0, 1) := by decide +kernel
theorem dX1_findOrder_51 : decode cX1_findOrder 51 = .ok (.getfield 9, 3) := by decide +kernel
theorem dX1_findOrder_54 : decode cX1_findOrder 54 = .ok (.iconst 0, 1) := by decide +kernel
theorem dX1_findOrder_55 : decode cX1_findOrder 55 = .ok (.aload_n 0, 1) := by decide +kernel
theorem dX1_findOrder_56 : decode cX1_findOrder 56 = .ok (.getfield 15, 3) := by decide +kernel
theorem dX1_findOrder_59 : decode cX1_findOrder 59 = .ok (.iconst 0, 1) := by decide +kernel
theorem dX1_findOrder_60 : decode cX1_findOrder 60 = .ok (.aload_n 0, 1) := by decide +kernel
theorem dX1_findOrder_61 : decode cX1_findOrder 61 = .ok (.getfield 18, 3) := by decide +kernel
theorem dX1_findOrder_64 : decode cX1_findOrder 64 = .ok (.invokestatic 34, 3) := by decide +kernel
theorem dX1_findOrder_67 : decode cX1_findOrder 67 = .ok (.aload_n 0, 1) := by decide +kernel
theorem dX1_findOrder_68 : decode cX1_findOrder 68 = .ok (.invokevirtual 40, 3) := by decide +kernel
theorem dX1_findOrder_71 : decode cX1_findOrder 71 = .ok (.istore_n 3, 1) := by decide +kernel
theorem dX1_findOrder_72 : decode cX1_findOrder 72 = .ok (.iinc 4 1, 3) := by decide +kernel
theorem dX1_findOrder_75 : decode cX1_findOrder 75 = .ok (.goto (-59), 3) := by decide +kernel
theorem dX1_findOrder_78 : decode cX1_findOrder 78 = .ok (.return_, 1) := by decide +kernel
theorem dX5_settle_0 : decode cX5_settle 0 = .ok (.iconst 0, 1) := by decide +kernel
theorem dX5_settle_1 : decode cX5_settle 1 = .ok (.istore_n 2, 1) := by decide +kernel
theorem dX5_settle_2 : decode cX5_settle 2 = .ok (.iload_n 2, 1) := by decide +kernel
theorem dX5_settle_3 : decode cX5_settle 3 = .ok (.bipush 10, 2) := by decide +kernel
theorem dX5_settle_5 : decode cX5_settle 5 = .ok (.if_icmp .ge 51, 3) := by decide +kernel
theorem dX5_settle_8 : decode cX5_settle 8 = .ok (.iconst 1, 1) := by decide +kernel
theorem dX5_settle_9 : decode cX5_settle 9 = .ok (.iload_n 2, 1) := by decide +kernel
theorem dX5_settle_10 : decode cX5_settle 10 = .ok (.ishl, 1) := by decide +kernel
theorem dX5_settle_11 : decode cX5_settle 11 = .ok (.istore_n 3, 1) := by decide +kernel
theorem dX5_settle_12 : decode cX5_settle 12 = .ok (.aload_n 0, 1) := by decide +kernel
theorem dX5_settle_13 : decode cX5_settle 13 = .ok (.getfield 9, 3) := by decide +kernel
theorem dX5_settle_16 : decode cX5_settle 16 = .ok (.iload_n 1, 1) := by decide +kernel
theorem dX5_settle_17 : decode cX5_settle 17 = .ok (.iaload, 1) := by decide +kernel
theorem dX5_settle_18 : decode cX5_settle 18 = .ok (.aload_n 0, 1) := by decide +kernel
theorem dX5_settle_19 : decode cX5_settle 19 = .ok (.getfield 31, 3) := by decide +kernel
theorem dX5_settle_22 : decode cX5_settle 22 = .ok (.iconst (-1), 1) := by decide +kernel
theorem dX5_settle_23 : decode cX5_settle 23 = .ok (.ixor, 1) := by decide +kernel
theorem dX5_settle_24 : decode cX5_settle 24 = .ok (.iand, 1) := by decide +kernel
theorem dX5_settle_25 : decode cX5_settle 25 = .ok (.iload_n 3, 1) := by decide +kernel
theorem dX5_settle_26 : decode cX5_settle 26 = .ok (.iand, 1) := by decide +kernel
theorem dX5_settle_27 : decode cX5_settle 27 = .ok (.ifCond .eq 23, 3) := by decide +kernel
theorem dX5_settle_30 : decode cX5_settle 30 = .ok (.aload_n 0, 1) := by decide +kernel
theorem dX5_settle_31 : decode cX5_settle 31 = .ok (.iload_n 1, 1) := by decide +kernel
theorem dX5_settle_32 : decode cX5_settle 32 = .ok (.iload_n 2, 1) := by decide +kernel
theorem dX5_settle_33 : decode cX5_settle 33 = .ok (.invokevirtual 61, 3) := by decide +kernel
theorem dX5_settle_36 : decode cX5_settle 36 = .ok (.ifCond .eq 14, 3) := by decide +kernel
theorem dX5_settle_39 : decode cX5_settle 39 = .ok (.aload_n 0, 1) := by decide +kernel
theorem dX5_settle_40 : decode cX5_settle 40 = .ok (.dup, 1) := by decide +kernel
theorem dX5_settle_41 : decode cX5_settle 41 = .ok (.getfield 31, 3) := by decide +kernel
theorem dX5_settle_44 : decode cX5_settle 44 = .ok (.iload_n 3, 1) := by decide +kernel
theorem dX5_settle_45 : decode cX5_settle 45 = .ok (.ior, 1) := by decide +kernel
theorem dX5_settle_46 : decode cX5_settle 46 = .ok (.putfield 31, 3) := by decide +kernel
theorem dX5_settle_49 : decode cX5_settle 49 = .ok (.return_, 1) := by decide +kernel
theorem dX5_settle_50 : decode cX5_settle 50 = .ok (.iinc 2 1, 3) := by decide +kernel
theorem dX5_settle_53 : decode cX5_settle 53 = .ok (.goto (-51), 3) := by decide +kernel
theorem dX5_settle_56 : decode cX5_settle 56 = .ok (.return_, 1) := by decide +kernel
theorem dX6_addWork_0 : decode cX6_addWork 0 = .ok (.aload_n 0, 1) := by decide +kernel
theorem dX6_addWork_1 : decode cX6_addWork 1 = .ok (.getfield 21, 3) := by decide +kernel
theorem dX6_addWork_4 : decode cX6_addWork 4 = .ok (.iconst 5, 1) := by decide +kernel
theorem dX6_addWork_5 : decode cX6_addWork 5 = .ok (.if_icmp .lt 4, 3) := by decide +kernel
theorem dX6_addWork_8 : decode cX6_addWork 8 = .ok (.return_, 1) := by decide +kernel
theorem dX6_addWork_9 : decode cX6_addWork 9 = .ok (.aload_n 0, 1) := by decide +kernel
theorem dX6_addWork_10 : decode cX6_addWork 10 = .ok (.getfield 9, 3) := by decide +kernel
theorem dX6_addWork_13 : decode cX6_addWork 13 = .ok (.aload_n 0, 1) := by decide +kernel
theorem dX6_addWork_14 : decode cX6_addWork 14 = .ok (.getfield 21, 3) := by decide +kernel
theorem dX6_addWork_17 : decode cX6_addWork 17 = .ok (.iload_n 1, 1) := by decide +kernel
theorem dX6_addWork_18 : decode cX6_addWork 18 = .ok (.iastore, 1) := by decide +kernel
theorem dX6_addWork_19 : decode cX6_addWork 19 = .ok (.aload_n 0, 1) := by decide +kernel
theorem dX6_addWork_20 : decode cX6_addWork 20 = .ok (.dup, 1) := by decide +kernel
theorem dX6_addWork_21 : decode cX6_addWork 21 = .ok (.getfield 21, 3) := by decide +kernel
theorem dX6_addWork_24 : decode cX6_addWork 24 = .ok (.iconst 1, 1) := by decide +kernel
theorem dX6_addWork_25 : decode cX6_addWork 25 = .ok (.iadd, 1) := by decide +kernel
theorem dX6_addWork_26 : decode cX6_addWork 26 = .ok (.putfield 21, 3) := by decide +kernel
theorem dX6_addWork_29 : decode cX6_addWork 29 = .ok (.aload_n 0, 1) := by decide +kernel
theorem dX6_addWork_30 : decode cX6_addWork 30 = .ok (.aload_n 0, 1) := by decide +kernel
theorem dX6_addWork_31 : decode cX6_addWork 31 = .ok (.aload_n 2, 1) := by decide +kernel
theorem dX6_addWork_32 : decode cX6_addWork 32 = .ok (.invokevirtual 83, 3) := by decide +kernel
theorem dX6_addWork_35 : decode cX6_addWork 35 = .ok (.putfield 25, 3) := by decide +kernel
theorem dX6_addWork_38 : decode cX6_addWork 38 = .ok (.iconst 0, 1) := by decide +kernel
theorem dX6_addWork_39 : decode cX6_addWork 39 = .ok (.istore_n 3, 1) := by decide +kernel
theorem dX6_addWork_40 : decode cX6_addWork 40 = .ok (.iload_n 3, 1) := by decide +kernel
theorem dX6_addWork_41 : decode cX6_addWork 41 = .ok (.bipush 6, 2) := by decide +kernel
theorem dX6_addWork_43 : decode cX6_addWork 43 = .ok (.if_icmp .ge 21, 3) := by decide +kernel
theorem dX6_addWork_46 : decode cX6_addWork 46 = .ok (.aload_n 0, 1) := by decide +kernel
theorem dX6_addWork_47 : decode cX6_addWork 47 = .ok (.getfield 15, 3) := by decide +kernel
theorem dX6_addWork_50 : decode cX6_addWork 50 = .ok (.iload_n 3, 1) := by decide +kernel
theorem dX6_addWork_51 : decode cX6_addWork 51 = .ok (.aload_n 0, 1) := by decide +kernel
theorem dX6_addWork_52 : decode cX6_addWork 52 = .ok (.aload_n 2, 1) := by decide +kernel
theorem dX6_addWork_53 : decode cX6_addWork 53 = .ok (.iload_n 3, 1) := by decide +kernel
theorem dX6_addWork_54 : decode cX6_addWork 54 = .ok (.invokevirtual 79, 3) := by decide +kernel
theorem dX6_addWork_57 : decode cX6_addWork 57 = .ok (.iastore, 1) := by decide +kernel
theorem dX6_addWork_58 : decode cX6_addWork 58 = .ok (.iinc 3 1, 3) := by decide +kernel
theorem dX6_addWork_61 : decode cX6_addWork 61 = .ok (.goto (-21), 3) := by decide +kernel
theorem dX6_addWork_64 : decode cX6_addWork 64 = .ok (.return_, 1) := by decide +kernel
theorem dX11_call_0 : decode cX11_call 0 = .ok (.aload_n 0, 1) := by decide +kernel
theorem dX11_call_1 : decode cX11_call 1 = .ok (.iload_n 1, 1) := by decide +kernel
theorem dX11_call_2 : decode cX11_call 2 = .ok (.invokevirtual 173, 3) := by decide +kernel
theorem dX11_call_5 : decode cX11_call 5 = .ok (.astore_n 3, 1) := by decide +kernel
theorem dX11_call_6 : decode cX11_call 6 = .ok (.aload_n 0, 1) := by decide +kernel
theorem dX11_call_7 : decode cX11_call 7 = .ok (.iload_n 2, 1) := by decide +kernel
theorem dX11_call_8 : decode cX11_call 8 = .ok (.invokevirtual 131, 3) := by decide +kernel
theorem dX11_call_11 : decode cX11_call 11 = .ok (.astore 4, 2) := by decide +kernel
theorem dX11_call_13 : decode cX11_call 13 = .ok (.aload_n 3, 1) := by decide +kernel
theorem dX11_call_14 : decode cX11_call 14 = .ok (.ifnull 8, 3) := by decide +kernel
theorem dX11_call_17 : decode cX11_call 17 = .ok (.aload 4, 2) := by decide +kernel
theorem dX11_call_19 : decode cX11_call 19 = .ok (.ifnonnull 6, 3) := by decide +kernel
theorem dX11_call_22 : decode cX11_call 22 = .ok (.bipush (-2), 2) := by decide +kernel
theorem dX11_call_24 : decode cX11_call 24 = .ok (.ireturn, 1) := by decide +kernel
theorem dX11_call_25 : decode cX11_call 25 = .ok (.aload_n 3, 1) := by decide +kernel
theorem dX11_call_26 : decode cX11_call 26 = .ok (.getfield 177, 3) := by decide +kernel
theorem dX11_call_29 : decode cX11_call 29 = .ok (.ifCond .ne 22, 3) := by decide +kernel
theorem dX11_call_32 : decode cX11_call 32 = .ok (.aload_n 3, 1) := by decide +kernel
theorem dX11_call_33 : decode cX11_call 33 = .ok (.iload_n 2, 1) := by decide +kernel
theorem dX11_call_34 : decode cX11_call 34 = .ok (.invokevirtual 181, 3) := by decide +kernel
theorem dX11_call_37 : decode cX11_call 37 = .ok (.ifCond .ne 14, 3) := by decide +kernel
theorem dX11_call_40 : decode cX11_call 40 = .ok (.aload_n 3, 1) := by decide +kernel
theorem dX11_call_41 : decode cX11_call 41 = .ok (.aload 4, 2) := by decide +kernel
theorem dX11_call_43 : decode cX11_call 43 = .ok (.invokevirtual 184, 3) := by decide +kernel
theorem dX11_call_46 : decode cX11_call 46 = .ok (.bipush 12, 2) := by decide +kernel
theorem dX11_call_48 : decode cX11_call 48 = .ok (.if_icmp .le 6, 3) := by decide +kernel
theorem dX11_call_51 : decode cX11_call 51 = .ok (.bipush (-3), 2) := by decide +kernel
theorem dX11_call_53 : decode cX11_call 53 = .ok (.ireturn, 1) := by decide +kernel
theorem dX11_call_54 : decode cX11_call 54 = .ok (.aload_n 3, 1) := by decide +kernel
theorem dX11_call_55 : decode cX11_call 55 = .ok (.getfield 188, 3) := by decide +kernel
theorem dX11_call_58 : decode cX11_call 58 = .ok (.iconst 5, 1) := by decide +kernel
theorem dX11_call_59 : decode cX11_call 59 = .ok (.if_icmp .lt 6, 3) := by decide +kernel
theorem dX11_call_62 : decode cX11_call 62 = .ok (.bipush (-4), 2) := by decide +kernel
theorem dX11_call_64 : decode cX11_call 64 = .ok (.ireturn, 1) := by decide +kernel
theorem dX11_call_65 : decode cX11_call 65 = .ok (.aload_n 3, 1) := by decide +kernel
theorem dX11_call_66 : decode cX11_call 66 = .ok (.iload_n 2, 1) := by decide +kernel
theorem dX11_call_67 : decode cX11_call 67 = .ok (.aload 4, 2) := by decide +kernel
theorem dX11_call_69 : decode cX11_call 69 = .ok (.invokevirtual 189, 3) := by decide +kernel
theorem dX11_call_72 : decode cX11_call 72 = .ok (.aload_n 3, 1) := by decide +kernel
theorem dX11_call_73 : decode cX11_call 73 = .ok (.getfield 188, 3) := by decide +kernel
theorem dX11_call_76 : decode cX11_call 76 = .ok (.ireturn, 1) := by decide +kernel
theorem dX11_findHindrance_0 : decode cX11_findHindrance 0 = .ok (.aload_n 0, 1) := by decide +kernel
theorem dX11_findHindrance_1 : decode cX11_findHindrance 1 = .ok (.getfield 17, 3) := by decide +kernel
theorem dX11_findHindrance_4 : decode cX11_findHindrance 4 = .ok (.iload_n 2, 1) := by decide +kernel
theorem dX11_findHindrance_5 : decode cX11_findHindrance 5 = .ok (.aaload, 1) := by decide +kernel
theorem dX11_findHindrance_6 : decode cX11_findHindrance 6 = .ok (.astore 4, 2) := by decide +kernel
theorem dX11_findHindrance_8 : decode cX11_findHindrance 8 = .ok (.aload 4, 2) := by decide +kernel
theorem dX11_findHindrance_10 : decode cX11_findHindrance 10 = .ok (.iload_n 3, 1) := by decide +kernel
theorem dX11_findHindrance_11 : decode cX11_findHindrance 11 = .ok (.invokevirtual 411, 3) := by decide +kernel
theorem dX11_findHindrance_14 : decode cX11_findHindrance 14 = .ok (.ifCond .ne 5, 3) := by decide +kernel
theorem dX11_findHindrance_17 : decode cX11_findHindrance 17 = .ok (.iconst 1, 1) := by decide +kernel
theorem dX11_findHindrance_18 : decode cX11_findHindrance 18 = .ok (.ireturn, 1) := by decide +kernel
theorem dX11_findHindrance_19 : decode cX11_findHindrance 19 = .ok (.aload 4, 2) := by decide +kernel
theorem dX11_findHindrance_21 : decode cX11_findHindrance 21 = .ok (.aload_n 1, 1) := by decide +kernel
theorem dX11_findHindrance_22 : decode cX11_findHindrance 22 = .ok (.getfield 221, 3) := by decide +kernel
theorem dX11_findHindrance_25 : decode cX11_findHindrance 25 = .ok (.invokevirtual 295, 3) := by decide +kernel
theorem dX11_findHindrance_28 : decode cX11_findHindrance 28 = .ok (.ifCond .eq 5, 3) := by decide +kernel
theorem dX11_findHindrance_31 : decode cX11_findHindrance 31 = .ok (.iconst 2, 1) := by decide +kernel
theorem dX11_findHindrance_32 : decode cX11_findHindrance 32 = .ok (.ireturn, 1) := by decide +kernel
theorem dX11_findHindrance_33 : decode cX11_findHindrance 33 = .ok (.aload_n 0, 1) := by decide +kernel
theorem dX11_findHindrance_34 : decode cX11_findHindrance 34 = .ok (.aload_n 1, 1) := by decide +kernel
theorem dX11_findHindrance_35 : decode cX11_findHindrance 35 = .ok (.iload_n 2, 1) := by decide +kernel
theorem dX11_findHindrance_36 : decode cX11_findHindrance 36 = .ok (.invokevirtual 414, 3) := by decide +kernel
theorem dX11_findHindrance_39 : decode cX11_findHindrance 39 = .ok (.ifCond .eq 5, 3) := by decide +kernel
theorem dX11_findHindrance_42 : decode cX11_findHindrance 42 = .ok (.iconst 3, 1) := by decide +kernel
theorem dX11_findHindrance_43 : decode cX11_findHindrance 43 = .ok (.ireturn, 1) := by decide +kernel
theorem dX11_findHindrance_44 : decode cX11_findHindrance 44 = .ok (.aload_n 0, 1) := by decide +kernel
theorem dX11_findHindrance_45 : decode cX11_findHindrance 45 = .ok (.getfield 29, 3) := by decide +kernel
theorem dX11_findHindrance_48 : decode cX11_findHindrance 48 = .ok (.aload_n 0, 1) := by decide +kernel
theorem dX11_findHindrance_49 : decode cX11_findHindrance 49 = .ok (.aload_n 1, 1) := by decide +kernel
theorem dX11_findHindrance_50 : decode cX11_findHindrance 50 = .ok (.getfield 221, 3) := by decide +kernel
theorem dX11_findHindrance_53 : decode cX11_findHindrance 53 = .ok (.invokevirtual 238, 3) := by decide +kernel
theorem dX11_findHindrance_56 : decode cX11_findHindrance 56 = .ok (.aaload, 1) := by decide +kernel
theorem dX11_findHindrance_57 : decode cX11_findHindrance 57 = .ok (.astore 5, 2) := by decide +kernel
theorem dX11_findHindrance_59 : decode cX11_findHindrance 59 = .ok (.aload_n 0, 1) := by decide +kernel
theorem dX11_findHindrance_60 : decode cX11_findHindrance 60 = .ok (.aload_n 1, 1) := by decide +kernel
theorem dX11_findHindrance_61 : decode cX11_findHindrance 61 = .ok (.iload_n 2, 1) := by decide +kernel
theorem dX11_findHindrance_62 : decode cX11_findHindrance 62 = .ok (.iload_n 3, 1) := by decide +kernel
theorem dX11_findHindrance_63 : decode cX11_findHindrance 63 = .ok (.invokevirtual 250, 3) := by decide +kernel
theorem dX11_findHindrance_66 : decode cX11_findHindrance 66 = .ok (.iconst 0, 1) := by decide +kernel
theorem dX11_findHindrance_67 : decode cX11_findHindrance 67 = .ok (.istore 6, 2) := by decide +kernel
theorem dX11_findHindrance_69 : decode cX11_findHindrance 69 = .ok (.iload 6, 2) := by decide +kernel
theorem dX11_findHindrance_71 : decode cX11_findHindrance 71 = .ok (.aload 5, 2) := by decide +kernel
theorem dX11_findHindrance_73 : decode cX11_findHindrance 73 = .ok (.getfield 247, 3) := by decide +kernel
theorem dX11_findHindrance_76 : decode cX11_findHindrance 76 = .ok (.if_icmp .ge 30, 3) := by decide +kernel
theorem dX11_findHindrance_79 : decode cX11_findHindrance 79 = .ok (.aload_n 0, 1) := by decide +kernel
theorem dX11_findHindrance_80 : decode cX11_findHindrance 80 = .ok (.getfield 53, 3) := by decide +kernel
theorem dX11_findHindrance_83 : decode cX11_findHindrance 83 = .ok (.aload 5, 2) := by decide +kernel
theorem dX11_findHindrance_85 : decode cX11_findHindrance 85 = .ok (.iload 6, 2) := by decide +kernel
theorem dX11_findHindrance_87 : decode cX11_findHindrance 87 = .ok (.invokevirtual 254, 3) := by decide +kernel
theorem dX11_findHindrance_90 : decode cX11_findHindrance 90 = .ok (.lconst 0, 1) := by decide +kernel
theorem dX11_findHindrance_91 : decode cX11_findHindrance 91 = .ok (.lcmp, 1) := by decide +kernel
theorem dX11_findHindrance_92 : decode cX11_findHindrance 92 = .ok (.ifCond .eq 8, 3) := by decide +kernel
theorem dX11_findHindrance_95 : decode cX11_findHindrance 95 = .ok (.iconst 4, 1) := by decide +kernel
theorem dX11_findHindrance_96 : decode cX11_findHindrance 96 = .ok (.iload 6, 2) := by decide +kernel
theorem dX11_findHindrance_98 : decode cX11_findHindrance 98 = .ok (.iadd, 1) := by decide +kernel
theorem dX11_findHindrance_99 : decode cX11_findHindrance 99 = .ok (.ireturn, 1) := by decide +kernel
theorem dX11_findHindrance_100 : decode cX11_findHindrance 100 = .ok (.iinc 6 1, 3) := by decide +kernel
theorem dX11_findHindrance_103 : decode cX11_findHindrance 103 = .ok (.goto (-34), 3) := by decide +kernel
theorem dX11_findHindrance_106 : decode cX11_findHindrance 106 = .ok (.iconst 0, 1) := by decide +kernel
theorem dX11_findHindrance_107 : decode cX11_findHindrance 107 = .ok (.ireturn, 1) := by decide +kernel
theorem dX11_order_0 : decode cX11_order 0 = .ok (.aload_n 0, 1) := by decide +kernel
theorem dX11_order_1 : decode cX11_order 1 = .ok (.iload_n 1, 1) := by decide +kernel
theorem dX11_order_2 : decode cX11_order 2 = .ok (.invokevirtual 173, 3) := by decide +kernel
theorem dX11_order_5 : decode cX11_order 5 = .ok (.astore_n 3, 1) := by decide +kernel
theorem dX11_order_6 : decode cX11_order 6 = .ok (.aload_n 3, 1) := by decide +kernel
theorem dX11_order_7 : decode cX11_order 7 = .ok (.ifnonnull 6, 3) := by decide +kernel
theorem dX11_order_10 : decode cX11_order 10 = .ok (.bipush (-2), 2) := by decide +kernel
theorem dX11_order_12 : decode cX11_order 12 = .ok (.ireturn, 1) := by decide +kernel
theorem dX11_order_13 : decode cX11_order 13 = .ok (.iload_n 2, 1) := by decide +kernel
theorem dX11_order_14 : decode cX11_order 14 = .ok (.iconst 0, 1) := by decide +kernel
theorem dX11_order_15 : decode cX11_order 15 = .ok (.aload_n 3, 1) := by decide +kernel
theorem dX11_order_16 : decode cX11_order 16 = .ok (.getfield 188, 3) := by decide +kernel
theorem dX11_order_19 : decode cX11_order 19 = .ok (.iconst 1, 1) := by decide +kernel
theorem dX11_order_20 : decode cX11_order 20 = .ok (.isub, 1) := by decide +kernel
theorem dX11_order_21 : decode cX11_order 21 = .ok (.invokestatic 124, 3) := by decide +kernel
theorem dX11_order_24 : decode cX11_order 24 = .ok (.ifCond .ne 5, 3) := by decide +kernel
theorem dX11_order_27 : decode cX11_order 27 = .ok (.iconst (-1), 1) := by decide +kernel
theorem dX11_order_28 : decode cX11_order 28 = .ok (.ireturn, 1) := by decide +kernel
theorem dX11_order_29 : decode cX11_order 29 = .ok (.aload_n 0, 1) := by decide +kernel
theorem dX11_order_30 : decode cX11_order 30 = .ok (.getfield 67, 3) := by decide +kernel
theorem dX11_order_33 : decode cX11_order 33 = .ok (.aload_n 3, 1) := by decide +kernel
theorem dX11_order_34 : decode cX11_order 34 = .ok (.aload_n 0, 1) := by decide +kernel
theorem dX11_order_35 : decode cX11_order 35 = .ok (.getfield 11, 3) := by decide +kernel
theorem dX11_order_38 : decode cX11_order 38 = .ok (.invokevirtual 282, 3) := by decide +kernel
theorem dX11_order_41 : decode cX11_order 41 = .ok (.aload_n 0, 1) := by decide +kernel
theorem dX11_order_42 : decode cX11_order 42 = .ok (.getfield 67, 3) := by decide +kernel
theorem dX11_order_45 : decode cX11_order 45 = .ok (.getfield 289, 3) := by decide +kernel
theorem dX11_order_48 : decode cX11_order 48 = .ok (.iload_n 2, 1) := by decide +kernel
theorem dX11_order_49 : decode cX11_order 49 = .ok (.iaload, 1) := by decide +kernel
theorem dX11_order_50 : decode cX11_order 50 = .ok (.ireturn, 1) := by decide +kernel
theorem dX11_sumDue_0 : decode cX11_sumDue 0 = .ok (.lconst 0, 1) := by decide +kernel
theorem dX11_sumDue_1 : decode cX11_sumDue 1 = .ok (.lstore 5, 2) := by decide +kernel
theorem dX11_sumDue_3 : decode cX11_sumDue 3 = .ok (.iconst 0, 1) := by decide +kernel
theorem dX11_sumDue_4 : decode cX11_sumDue 4 = .ok (.istore 7, 2) := by decide +kernel
theorem dX11_sumDue_6 : decode cX11_sumDue 6 = .ok (.iload 7, 2) := by decide +kernel
theorem dX11_sumDue_8 : decode cX11_sumDue 8 = .ok (.aload_n 0, 1) := by decide +kernel
theorem dX11_sumDue_9 : decode cX11_sumDue 9 = .ok (.getfield 85, 3) := by decide +kernel
theorem dX11_sumDue_12 : decode cX11_sumDue 12 = .ok (.if_icmp .ge 54, 3) := by decide +kernel
theorem dX11_sumDue_15 : decode cX11_sumDue 15 = .ok (.aload_n 0, 1) := by decide +kernel
theorem dX11_sumDue_16 : decode cX11_sumDue 16 = .ok (.getfield 23, 3) := by decide +kernel
theorem dX11_sumDue_19 : decode cX11_sumDue 19 = .ok (.iload 7, 2) := by decide +kernel
theorem dX11_sumDue_21 : decode cX11_sumDue 21 = .ok (.aaload, 1) := by decide +kernel
theorem dX11_sumDue_22 : decode cX11_sumDue 22 = .ok (.astore 8, 2) := by decide +kernel
theorem dX11_sumDue_24 : decode cX11_sumDue 24 = .ok (.aload 8, 2) := by decide +kernel
theorem dX11_sumDue_26 : decode cX11_sumDue 26 = .ok (.getfield 221, 3) := by decide +kernel
theorem dX11_sumDue_29 : decode cX11_sumDue 29 = .ok (.iload_n 2, 1) := by decide +kernel
theorem dX11_sumDue_30 : decode cX11_sumDue 30 = .ok (.iload_n 3, 1) := by decide +kernel
theorem dX11_sumDue_31 : decode cX11_sumDue 31 = .ok (.invokestatic 124, 3) := by decide +kernel
theorem dX11_sumDue_34 : decode cX11_sumDue 34 = .ok (.ifCond .eq 26, 3) := by decide +kernel
theorem dX11_sumDue_37 : decode cX11_sumDue 37 = .ok (.aload 8, 2) := by decide +kernel
theorem dX11_sumDue_39 : decode cX11_sumDue 39 = .ok (.iload_n 1, 1) := by decide +kernel
theorem dX11_sumDue_40 : decode cX11_sumDue 40 = .ok (.invokevirtual 360, 3) := by decide +kernel
theorem dX11_sumDue_43 : decode cX11_sumDue 43 = .ok (.ifCond .eq 17, 3) := by decide +kernel
theorem dX11_sumDue_46 : decode cX11_sumDue 46 = .ok (.lload 5, 2) := by decide +kernel
theorem dX11_sumDue_48 : decode cX11_sumDue 48 = .ok (.aload_n 0, 1) := by decide +kernel
theorem dX11_sumDue_49 : decode cX11_sumDue 49 = .ok (.aload 8, 2) := by decide +kernel
theorem dX11_sumDue_51 : decode cX11_sumDue 51 = .ok (.iload_n 1, 1) := by decide +kernel
theorem dX11_sumDue_52 : decode cX11_sumDue 52 = .ok (.iload 4, 2) := by decide +kernel
theorem dX11_sumDue_54 : decode cX11_sumDue 54 = .ok (.invokevirtual 436, 3) := by decide +kernel
theorem dX11_sumDue_57 : decode cX11_sumDue 57 = .ok (.ladd, 1) := by decide +kernel
theorem dX11_sumDue_58 : decode cX11_sumDue 58 = .ok (.lstore 5, 2) := by decide +kernel
theorem dX11_sumDue_60 : decode cX11_sumDue 60 = .ok (.iinc 7 1, 3) := by decide +kernel
theorem dX11_sumDue_63 : decode cX11_sumDue 63 = .ok (.goto (-57), 3) := by decide +kernel
theorem dX11_sumDue_66 : decode cX11_sumDue 66 = .ok (.lload 5, 2) := by decide +kernel
theorem dX11_sumDue_68 : decode cX11_sumDue 68 = .ok (.lreturn, 1) := by decide +kernel
theorem dX11_waits_0 : decode cX11_waits 0 = .ok (.aload_n 0, 1) := by decide +kernel
theorem dX11_waits_1 : decode cX11_waits 1 = .ok (.iload_n 1, 1) := by decide +kernel
theorem dX11_waits_2 : decode cX11_waits 2 = .ok (.invokevirtual 173, 3) := by decide +kernel
theorem dX11_waits_5 : decode cX11_waits 5 = .ok (.astore_n 2, 1) := by decide +kernel
theorem dX11_waits_6 : decode cX11_waits 6 = .ok (.aload_n 2, 1) := by decide +kernel
theorem dX11_waits_7 : decode cX11_waits 7 = .ok (.ifnonnull 6, 3) := by decide +kernel
theorem dX11_waits_10 : decode cX11_waits 10 = .ok (.bipush (-2), 2) := by decide +kernel
theorem dX11_waits_12 : decode cX11_waits 12 = .ok (.ireturn, 1) := by decide +kernel
theorem dX11_waits_13 : decode cX11_waits 13 = .ok (.aload_n 0, 1) := by decide +kernel
theorem dX11_waits_14 : decode cX11_waits 14 = .ok (.getfield 67, 3) := by decide +kernel
theorem dX11_waits_17 : decode cX11_waits 17 = .ok (.aload_n 2, 1) := by decide +kernel
theorem dX11_waits_18 : decode cX11_waits 18 = .ok (.aload_n 0, 1) := by decide +kernel
theorem dX11_waits_19 : decode cX11_waits 19 = .ok (.getfield 11, 3) := by decide +kernel
theorem dX11_waits_22 : decode cX11_waits 22 = .ok (.invokevirtual 282, 3) := by decide +kernel
theorem dX11_waits_25 : decode cX11_waits 25 = .ok (.aload_n 0, 1) := by decide +kernel
theorem dX11_waits_26 : decode cX11_waits 26 = .ok (.getfield 67, 3) := by decide +kernel
theorem dX11_waits_29 : decode cX11_waits 29 = .ok (.getfield 286, 3) := by decide +kernel
theorem dX11_waits_32 : decode cX11_waits 32 = .ok (.ireturn, 1) := by decide +kernel
theorem dX5_seatAll_0 : decode cX5_seatAll 0 = .ok (.iconst 1, 1) := by decide +kernel
theorem dX5_seatAll_1 : decode cX5_seatAll 1 = .ok (.istore_n 1, 1) := by decide +kernel
theorem dX5_seatAll_2 : decode cX5_seatAll 2 = .ok (.iconst 0, 1) := by decide +kernel
theorem dX5_seatAll_3 : decode cX5_seatAll 3 = .ok (.istore_n 2, 1) := by decide +kernel
theorem dX5_seatAll_4 : decode cX5_seatAll 4 = .ok (.iload_n 2, 1) := by decide +kernel
theorem dX5_seatAll_5 : decode cX5_seatAll 5 = .ok (.bipush 12, 2) := by decide +kernel
theorem dX5_seatAll_7 : decode cX5_seatAll 7 = .ok (.if_icmp .ge 19, 3) := by decide +kernel
theorem dX5_seatAll_10 : decode cX5_seatAll 10 = .ok (.iload_n 1, 1) := by decide +kernel
theorem dX5_seatAll_11 : decode cX5_seatAll 11 = .ok (.ifCond .eq 15, 3) := by decide +kernel
theorem dX5_seatAll_14 : decode cX5_seatAll 14 = .ok (.aload_n 0, 1) := by decide +kernel
theorem dX5_seatAll_15 : decode cX5_seatAll 15 = .ok (.iconst 0, 1) := by decide +kernel
theorem dX5_seatAll_16 : decode cX5_seatAll 16 = .ok (.invokevirtual 50, 3) := by decide +kernel
theorem dX5_seatAll_19 : decode cX5_seatAll 19 = .ok (.istore_n 1, 1) := by decide +kernel
theorem dX5_seatAll_20 : decode cX5_seatAll 20 = .ok (.iinc 2 1, 3) := by decide +kernel
theorem dX5_seatAll_23 : decode cX5_seatAll 23 = .ok (.goto (-19), 3) := by decide +kernel
theorem dX5_seatAll_26 : decode cX5_seatAll 26 = .ok (.iconst 0, 1) := by decide +kernel
theorem dX5_seatAll_27 : decode cX5_seatAll 27 = .ok (.istore_n 2, 1) := by decide +kernel
theorem dX5_seatAll_28 : decode cX5_seatAll 28 = .ok (.iload_n 2, 1) := by decide +kernel
theorem dX5_seatAll_29 : decode cX5_seatAll 29 = .ok (.aload_n 0, 1) := by decide +kernel
theorem dX5_seatAll_30 : decode cX5_seatAll 30 = .ok (.getfield 27, 3) := by decide +kernel
theorem dX5_seatAll_33 : decode cX5_seatAll 33 = .ok (.if_icmp .ge 14, 3) := by decide +kernel
theorem dX5_seatAll_36 : decode cX5_seatAll 36 = .ok (.aload_n 0, 1) := by decide +kernel
theorem dX5_seatAll_37 : decode cX5_seatAll 37 = .ok (.iload_n 2, 1) := by decide +kernel
theorem dX5_seatAll_38 : decode cX5_seatAll 38 = .ok (.invokevirtual 54, 3) := by decide +kernel
theorem dX5_seatAll_41 : decode cX5_seatAll 41 = .ok (.iinc 2 1, 3) := by decide +kernel
theorem dX5_seatAll_44 : decode cX5_seatAll 44 = .ok (.goto (-16), 3) := by decide +kernel
theorem dX5_seatAll_47 : decode cX5_seatAll 47 = .ok (.return_, 1) := by decide +kernel
abbrev H_X11_putTruths_7 (l : Launch) (q : o_M → Prop) (a1 : Nat) (v2 : Int32) (v3 : Int32) (M : o_M) : Prop := E_X11_putTruths l q 7 [(0, rV (some 16)), (1, rV (some a1)), (2, iV v2), (3, iV v3)] [] M 0 0
theorem w_X11_putTruths (l : Launch) (a1 : Nat) (p2 : Int32) (t1 : o_ty a1 = .inl 9) (M : o_M) (q : o_M → Prop) (h : H_X11_putTruths_7 l q a1 p2 0 (sI M a1 3 0)) : K_X11_putTruths l [rV (some 16), rV (some a1), iV p2] M q := by
  refine o_ctr (ini := false) (by decide +kernel) rfl (fun z => by cases z) (Nat.le_of_ble_eq_true rfl) ?_
  show E_X11_putTruths l q 0 [(0, rV (some 16)), (1, rV (some a1)), (2, iV p2)] [] M 0 0
  refine e_aload_n dX11_putTruths_0 rfl rfl ?_
  refine e_iconst (v := 0) dX11_putTruths_1 (by decide) ?_
  refine e_pI flX11_456 t1 (Or.inl rfl) rfl rfl rfl dX11_putTruths_2 ?_
  refine e_iconst (v := 0) dX11_putTruths_5 (by decide) ?_
  refine e_istore_n (lv' := [(3, iV 0), (0, rV (some 16)), (1, rV (some a1)), (2, iV p2)]) dX11_putTruths_6 rfl (by decide) rfl ?_
  exact e_lv (List.forall_mem_cons.mpr ⟨rfl, List.forall_mem_cons.mpr ⟨rfl, List.forall_mem_cons.mpr ⟨rfl, List.forall_mem_cons.mpr ⟨rfl, fun _ h => absurd h List.not_mem_nil⟩⟩⟩⟩) h
theorem w_X11_putTruths_7 (l : Launch) (q : o_M → Prop) (a1 : Nat) (t1 : o_ty a1 = .inl 9) (v2 : Int32) (v3 : Int32) (M : o_M) (h : (((mI M 16 12) ≤ v3 → q (sI M a1 4 (mI M 16 12))) ∧ (¬ (mI M 16 12) ≤ v3 → (mR M 16 1 = some 18 ∧ (vp_in v3 (mN M 18) ∧ (∃ b4, mR M 18 v3.toNatClampNeg = some b4 ∧ o_ty b4 = .inl 2 ∧ K_X2_hasLeave l [rV (some b4), iV v2] M (fun r8 M7 => ((r8 = 0 → H_X11_putTruths_7 l q a1 v2 (v3 + 1) M7) ∧ (¬ r8 = 0 → H_X11_putTruths_7 l q a1 v2 (v3 + 1) (sI M7 a1 3 ((mI M7 a1 3) ||| ((1 : Int32) <<< (v3 &&& 31))))))))))))) : H_X11_putTruths_7 l q a1 v2 v3 M := by
  refine e_iload_n dX11_putTruths_7 rfl rfl ?_
  refine e_aload_n dX11_putTruths_8 rfl rfl ?_
  refine e_gI flX11_82 rfl rfl dX11_putTruths_9 ?_
  refine e_ic_ge (tgt := 46) dX11_putTruths_12 (by decide) (fun c1 => ?_) (fun c1 => ?_)
  · replace h := h.1 c1
    refine e_aload_n dX11_putTruths_46 rfl rfl ?_
    refine e_aload_n dX11_putTruths_47 rfl rfl ?_
    refine e_gI flX11_82 rfl rfl dX11_putTruths_48 ?_
    refine e_pI flX11_449 t1 (Or.inl rfl) rfl rfl rfl dX11_putTruths_51 ?_
    exact e_ret rfl dX11_putTruths_54 ⟨rfl, h⟩
  · replace h := h.2 c1
    refine e_aload_n dX11_putTruths_15 rfl rfl ?_
    obtain ⟨o2, h⟩ := h
    refine e_gA flX11_17 rfl rfl o2 dX11_putTruths_16 ?_
    refine e_iload_n dX11_putTruths_19 rfl rfl ?_
    obtain ⟨o3, h⟩ := h
    obtain ⟨b4, o5, o6, h⟩ := h
    refine e_aaldS rfl o3 o5 dX11_putTruths_20 ?_
    refine e_iload_n dX11_putTruths_21 rfl rfl ?_
    refine e_callV (As := [iV v2]) (st := []) mt_X2_hasLeave in_X2_hasLeave lkX11_295 rfl o6 ⟨by decide, by decide⟩ (Nat.le_of_ble_eq_true rfl) ⟨by decide, by decide⟩ rfl rfl dX11_putTruths_22 (Ctr.mono h (fun v M7 h => ?_))
    obtain ⟨r8, rfl, h⟩ := h
    show E_X11_putTruths l q 25 [(0, rV (some 16)), (1, rV (some a1)), (2, iV v2), (3, iV v3)] [iV r8] M7 0 0
    refine e_if_eq (tgt := 40) dX11_putTruths_25 (by decide) (fun c9 => ?_) (fun c9 => ?_)
    · replace h := h.1 c9
      refine e_iinc (v := 1) (lv' := [(3, iV (v3 + 1)), (0, rV (some 16)), (1, rV (some a1)), (2, iV v2)]) rfl (by decide) (by decide) rfl dX11_putTruths_40 ?_
      refine e_goto (tgt := 7) dX11_putTruths_43 (by decide) ?_
      exact e_lv (List.forall_mem_cons.mpr ⟨rfl, List.forall_mem_cons.mpr ⟨rfl, List.forall_mem_cons.mpr ⟨rfl, List.forall_mem_cons.mpr ⟨rfl, fun _ h => absurd h List.not_mem_nil⟩⟩⟩⟩) h
    · replace h := h.2 c9
      refine e_aload_n dX11_putTruths_28 rfl rfl ?_
      refine e_dup rfl dX11_putTruths_29 ?_
      refine e_gI flX11_456 t1 rfl dX11_putTruths_30 ?_
      refine e_iconst (v := 1) dX11_putTruths_33 (by decide) ?_
      refine e_iload_n dX11_putTruths_34 rfl rfl ?_
      refine e_ishl dX11_putTruths_35 ?_
      refine e_ior dX11_putTruths_36 ?_
      refine e_pI flX11_456 t1 (Or.inl rfl) rfl rfl rfl dX11_putTruths_37 ?_
      refine e_iinc (v := 1) (lv' := [(3, iV (v3 + 1)), (0, rV (some 16)), (1, rV (some a1)), (2, iV v2)]) rfl (by decide) (by decide) rfl dX11_putTruths_40 ?_
      refine e_goto (tgt := 7) dX11_putTruths_43 (by decide) ?_
      exact e_lv (List.forall_mem_cons.mpr ⟨rfl, List.forall_mem_cons.mpr ⟨rfl, List.forall_mem_cons.mpr ⟨rfl, List.forall_mem_cons.mpr ⟨rfl, fun _ h => absurd h List.not_mem_nil⟩⟩⟩⟩) h
theorem w_X11_rise (l : Launch) (p1 : Int32) (M : o_M) (q : Int32 → o_M → Prop) (h : K_X11_findService l [rV (some 16), iV p1] M (fun r2 M1 => ((r2 = none → q (-2) M1) ∧ (∀ b3, r2 = some b3 → o_ty b3 = .inl 6 ∧ ((¬ (mI M1 b3 11) = 0 → K_X6_standUp l [rV (some b3)] M1 (fun M7 => q 1 M7)) ∧ ((mI M1 b3 11) = 0 → q (-3) M1)))))) : K_X11_rise l [rV (some 16), iV p1] M q := by
  refine o_ctr (ini := false) (by decide +kernel) rfl (fun z => by cases z) (Nat.le_of_ble_eq_true rfl) ?_
  show E_X11_rise l q 0 [(0, rV (some 16)), (1, iV p1)] [] M 0 0
  refine e_aload_n dX11_rise_0 rfl rfl ?_
  refine e_iload_n dX11_rise_1 rfl rfl ?_
  refine e_callV (As := [iV p1]) (st := []) mt_X11_findService in_X11_findService lkX11_173 rfl rfl ⟨by decide, by decide⟩ (Nat.le_of_ble_eq_true rfl) ⟨by decide, by decide⟩ rfl rfl dX11_rise_2 (Ctr.mono h (fun v M1 h => ?_))
  obtain ⟨r2, rfl, h⟩ := h
  show E_X11_rise l q 5 [(0, rV (some 16)), (1, iV p1)] [rV r2] M1 0 0
  refine e_astore_n (lv' := [(2, rV r2), (0, rV (some 16)), (1, iV p1)]) dX11_rise_5 rfl (by decide) rfl ?_
  refine e_aload_n dX11_rise_6 rfl rfl ?_
  refine e_ifnonnull (tgt := 13) dX11_rise_7 (by decide) (fun b3 c4 => ?_) (fun c4 => ?_)
  · obtain ⟨t5, h⟩ := h.2 b3 c4
    refine e_eq (lv' := [(2, rV (some b3)), (0, rV (some 16)), (1, iV p1)]) (st' := []) (by rw [c4]) (by first | rfl | rw [c4]) rfl ?_
    refine e_aload_n dX11_rise_13 rfl rfl ?_
    refine e_gI flX11_177 t5 rfl dX11_rise_14 ?_
    refine e_if_ne (tgt := 23) dX11_rise_17 (by decide) (fun c6 => ?_) (fun c6 => ?_)
    · replace h := h.1 c6
      refine e_aload_n dX11_rise_23 rfl rfl ?_
      refine e_callV (As := []) (st := []) mt_X6_standUp in_X6_standUp lkX11_275 rfl t5 ⟨by decide, by decide⟩ (Nat.le_of_ble_eq_true rfl) ⟨by decide, by decide⟩ rfl rfl dX11_rise_24 (Ctr.mono h (fun v M7 h => ?_))
      obtain ⟨rfl, h⟩ := h
      show E_X11_rise l q 27 [(2, rV (some b3)), (0, rV (some 16)), (1, iV p1)] [] M7 0 0
      refine e_iconst (v := 1) dX11_rise_27 (by decide) ?_
      exact e_iret rfl trivial dX11_rise_28 ⟨_, rfl, h⟩
    · replace h := h.2 c6
      refine e_bipush (v := (-3)) dX11_rise_20 (by decide) ?_
      exact e_iret rfl trivial dX11_rise_22 ⟨_, rfl, h⟩
  · replace h := h.1 c4
    refine e_eq (lv' := [(2, rV none), (0, rV (some 16)), (1, iV p1)]) (st' := []) (by rw [c4]) (by first | rfl | rw [c4]) rfl ?_
    refine e_bipush (v := (-2)) dX11_rise_10 (by decide) ?_
    exact e_iret rfl trivial dX11_rise_12 ⟨_, rfl, h⟩
theorem w_X11_service (l : Launch) (p1 : Int32) (p2 : Int32) (p3 : Int32) (p4 : Int32) (M : o_M) (q : Int32 → o_M → Prop) (h : K_X11_isWithin l [iV p1, iV 0, iV (6 - 1)] M (fun r2 M1 => ((r2 = 0 → q (-2) M1) ∧ (¬ r2 = 0 → K_X11_isDay l [iV p2] M1 (fun r5 M4 => ((¬ r5 = 0 → K_X11_isWithin l [iV p3, iV 0, iV 23] M4 (fun r8 M7 => ((r8 = 0 → q (-2) M7) ∧ (¬ r8 = 0 → K_X11_isWithin l [iV p4, iV 1, iV 8] M7 (fun r11 M10 => ((¬ r11 = 0 → (((mI M10 16 13) < 40 → (mR M10 16 2 = some 19 ∧ (∃ b15, b15 ∉ mL M10 ∧ o_ty b15 = .inl 6 ∧ K_X6_init l [rV (some b15), iV p1, iV p2, iV p3, iV p4] (nW M10 b15 0) (fun M18 => (vp_in (mI M10 16 13) (mN M18 19) ∧ q ((mI (sI (sR M18 19 ((mI M10 16 13).toNatClampNeg) (some b15)) 16 13 ((mI (sR M18 19 ((mI M10 16 13).toNatClampNeg) (some b15)) 16 13) + 1)) 16 13) - 1) (sI (sR M18 19 ((mI M10 16 13).toNatClampNeg) (some b15)) 16 13 ((mI (sR M18 19 ((mI M10 16 13).toNatClampNeg) (some b15)) 16 13) + 1))))))) ∧ (¬ (mI M10 16 13) < 40 → q (-4) M10))) ∧ (r11 = 0 → q (-2) M10))))))) ∧ (r5 = 0 → q (-2) M4))))))) : K_X11_service l [rV (some 16), iV p1, iV p2, iV p3, iV p4] M q := by
  refine o_ctr (ini := false) (by decide +kernel) rfl (fun z => by cases z) (Nat.le_of_ble_eq_true rfl) ?_
  show E_X11_service l q 0 [(0, rV (some 16)), (1, iV p1), (2, iV p2), (3, iV p3), (4, iV p4)] [] M 0 0
  refine e_iload_n dX11_service_0 rfl rfl ?_
  refine e_iconst (v := 0) dX11_service_1 (by decide) ?_
  refine e_kind (Or.inl kaX) dX11_service_2 ?_
  refine e_klen dX11_service_5 ?_
  refine e_iconst (v := 1) dX11_service_6 (by decide) ?_
  refine e_isub dX11_service_7 ?_
  refine e_callS (As := [iV p1, iV 0, iV (6 - 1)]) (st := []) mt_X11_isWithin is_X11_isWithin lkX11_124 ⟨by decide, by decide⟩ (Nat.le_of_ble_eq_true rfl) ⟨by decide, by decide⟩ rfl rfl dX11_service_8 (Ctr.mono h (fun v M1 h => ?_))
  obtain ⟨r2, rfl, h⟩ := h
  show E_X11_service l q 11 [(0, rV (some 16)), (1, iV p1), (2, iV p2), (3, iV p3), (4, iV p4)] [iV r2] M1 0 0
  refine e_if_eq (tgt := 21) dX11_service_11 (by decide) (fun c3 => ?_) (fun c3 => ?_)
  · replace h := h.1 c3
    refine e_bipush (v := (-2)) dX11_service_21 (by decide) ?_
    refine e_widen (k' := 4) (n' := 35) (by decide) (by decide) ?_
    exact e_iret rfl trivial dX11_service_23 ⟨_, rfl, h⟩
  · replace h := h.2 c3
    refine e_iload_n dX11_service_14 rfl rfl ?_
    refine e_callS (As := [iV p2]) (st := []) mt_X11_isDay is_X11_isDay lkX11_167 ⟨by decide, by decide⟩ (Nat.le_of_ble_eq_true rfl) ⟨by decide, by decide⟩ rfl rfl dX11_service_15 (Ctr.mono h (fun v M4 h => ?_))
    obtain ⟨r5, rfl, h⟩ := h
    show E_X11_service l q 18 [(0, rV (some 16)), (1, iV p1), (2, iV p2), (3, iV p3), (4, iV p4)] [iV r5] M4 0 0
    refine e_if_ne (tgt := 24) dX11_service_18 (by decide) (fun c6 => ?_) (fun c6 => ?_)
    · replace h := h.1 c6
      refine e_iload_n dX11_service_24 rfl rfl ?_
      refine e_iconst (v := 0) dX11_service_25 (by decide) ?_
      refine e_bipush (v := 23) dX11_service_26 (by decide) ?_
      refine e_callS (As := [iV p3, iV 0, iV 23]) (st := []) mt_X11_isWithin is_X11_isWithin lkX11_124 ⟨by decide, by decide⟩ (Nat.le_of_ble_eq_true rfl) ⟨by decide, by decide⟩ rfl rfl dX11_service_28 (Ctr.mono h (fun v M7 h => ?_))
      obtain ⟨r8, rfl, h⟩ := h
      show E_X11_service l q 31 [(0, rV (some 16)), (1, iV p1), (2, iV p2), (3, iV p3), (4, iV p4)] [iV r8] M7 0 0
      refine e_if_eq (tgt := 45) dX11_service_31 (by decide) (fun c9 => ?_) (fun c9 => ?_)
      · replace h := h.1 c9
        refine e_bipush (v := (-2)) dX11_service_45 (by decide) ?_
        refine e_widen (k' := 4) (n' := 35) (by decide) (by decide) ?_
        exact e_iret rfl trivial dX11_service_47 ⟨_, rfl, h⟩
      · replace h := h.2 c9
        refine e_iload rfl dX11_service_34 ?_
        refine e_iconst (v := 1) dX11_service_36 (by decide) ?_
        refine e_bipush (v := 8) dX11_service_37 (by decide) ?_
        refine e_callS (As := [iV p4, iV 1, iV 8]) (st := []) mt_X11_isWithin is_X11_isWithin lkX11_124 ⟨by decide, by decide⟩ (Nat.le_of_ble_eq_true rfl) ⟨by decide, by decide⟩ rfl rfl dX11_service_39 (Ctr.mono h (fun v M10 h => ?_))
        obtain ⟨r11, rfl, h⟩ := h
        show E_X11_service l q 42 [(0, rV (some 16)), (1, iV p1), (2, iV p2), (3, iV p3), (4, iV p4)] [iV r11] M10 0 0
        refine e_if_ne (tgt := 48) dX11_service_42 (by decide) (fun c12 => ?_) (fun c12 => ?_)
        · replace h := h.1 c12
          refine e_aload_n dX11_service_48 rfl rfl ?_
          refine e_gI flX11_85 rfl rfl dX11_service_49 ?_
          refine e_bipush (v := 40) dX11_service_52 (by decide) ?_
          refine e_ic_lt (tgt := 60) dX11_service_54 (by decide) (fun c13 => ?_) (fun c13 => ?_)
          · replace h := h.1 c13
            refine e_aload_n dX11_service_60 rfl rfl ?_
            obtain ⟨o14, h⟩ := h
            refine e_gA flX11_23 rfl rfl o14 dX11_service_61 ?_
            refine e_aload_n dX11_service_64 rfl rfl ?_
            refine e_gI flX11_85 rfl rfl dX11_service_65 ?_
            obtain ⟨b15, o16, o17, h⟩ := h
            refine e_new o16 o17 rfl rfl iT6 tyX6_ok (by decide) clX11_21 itX6 izX6 (by decide) (by decide) dX11_service_68 ?_
            refine e_dup rfl dX11_service_71 ?_
            refine e_iload_n dX11_service_72 rfl rfl ?_
            refine e_iload_n dX11_service_73 rfl rfl ?_
            refine e_iload_n dX11_service_74 rfl rfl ?_
            refine e_iload rfl dX11_service_75 ?_
            refine e_callI (As := [iV p1, iV p2, iV p3, iV p4]) (st := [rV (some b15), iV (mI M10 16 13), rV (some 19)]) mt_X6_init rfl ii_X6_init lkX11_170 ⟨by decide, by decide⟩ (Nat.le_of_ble_eq_true rfl) ⟨by decide, by decide⟩ rfl rfl dX11_service_77 (Ctr.mono h (fun v M18 h => ?_))
            obtain ⟨rfl, h⟩ := h
            show E_X11_service l q 80 [(0, rV (some 16)), (1, iV p1), (2, iV p2), (3, iV p3), (4, iV p4)] [rV (some b15), iV (mI M10 16 13), rV (some 19)] M18 4 35
            obtain ⟨o19, h⟩ := h
            refine e_aast (r := (RX6, TX6, 12)) rfl o17 rfl o19 dX11_service_80 ?_
            refine e_aload_n dX11_service_81 rfl rfl ?_
            refine e_dup rfl dX11_service_82 ?_
            refine e_gI flX11_85 rfl rfl dX11_service_83 ?_
            refine e_iconst (v := 1) dX11_service_86 (by decide) ?_
            refine e_iadd dX11_service_87 ?_
            refine e_pI flX11_85 rfl (Or.inl rfl) rfl rfl rfl dX11_service_88 ?_
            refine e_aload_n dX11_service_91 rfl rfl ?_
            refine e_gI flX11_85 rfl rfl dX11_service_92 ?_
            refine e_iconst (v := 1) dX11_service_95 (by decide) ?_
            refine e_isub dX11_service_96 ?_
            exact e_iret rfl trivial dX11_service_97 ⟨_, rfl, h⟩
          · replace h := h.2 c13
            refine e_bipush (v := (-4)) dX11_service_57 (by decide) ?_
            refine e_widen (k' := 4) (n' := 35) (by decide) (by decide) ?_
            exact e_iret rfl trivial dX11_service_59 ⟨_, rfl, h⟩
        · replace h := h.2 c12
          refine e_bipush (v := (-2)) dX11_service_45 (by decide) ?_
          refine e_widen (k' := 4) (n' := 35) (by decide) (by decide) ?_
          exact e_iret rfl trivial dX11_service_47 ⟨_, rfl, h⟩
    · replace h := h.2 c6
      refine e_bipush (v := (-2)) dX11_service_21 (by decide) ?_
      refine e_widen (k' := 4) (n' := 35) (by decide) (by decide) ?_
      exact e_iret rfl trivial dX11_service_23 ⟨_, rfl, h⟩
theorem w_X11_serviceTold (l : Launch) (p1 : Int32) (p2 : Int32) (M : o_M) (q : Int32 → o_M → Prop) (h : K_X11_findService l [rV (some 16), iV p1] M (fun r2 M1 => ((r2 = none → q (-2) M1) ∧ (∀ b3, r2 = some b3 → o_ty b3 = .inl 6 ∧ ((0 ≤ p2 → (((p2 < 0 ∨ 7 < p2) → K_X6_workAt l [rV (some b3), iV (p2 - 8)] M1 (fun r9 M8 => q r9 M8)) ∧ (p2 = 0 → q (mI M1 b3 0) M1) ∧ (p2 = 1 → q (mI M1 b3 1) M1) ∧ (p2 = 2 → q (mI M1 b3 2) M1) ∧ (p2 = 3 → q (mI M1 b3 3) M1) ∧ (p2 = 4 → q (mI M1 b3 7) M1) ∧ (p2 = 5 → q (mI M1 b3 8) M1) ∧ (p2 = 6 → (((mI M1 b3 11) = 0 → q 0 M1) ∧ (¬ (mI M1 b3 11) = 0 → q 1 M1))) ∧ (p2 = 7 → (((mI M1 b3 11) = 0 → q (-1) M1) ∧ (¬ (mI M1 b3 11) = 0 → q (mI M1 b3 9) M1))))) ∧ (¬ 0 ≤ p2 → q (-2) M1)))))) : K_X11_serviceTold l [rV (some 16), iV p1, iV p2] M q := by
  refine o_ctr (ini := false) (by decide +kernel) rfl (fun z => by cases z) (Nat.le_of_ble_eq_true rfl) ?_
  show E_X11_serviceTold l q 0 [(0, rV (some 16)), (1, iV p1), (2, iV p2)] [] M 0 0
  refine e_aload_n dX11_serviceTold_0 rfl rfl ?_
  refine e_iload_n dX11_serviceTold_1 rfl rfl ?_
  refine e_callV (As := [iV p1]) (st := []) mt_X11_findService in_X11_findService lkX11_173 rfl rfl ⟨by decide, by decide⟩ (Nat.le_of_ble_eq_true rfl) ⟨by decide, by decide⟩ rfl rfl dX11_serviceTold_2 (Ctr.mono h (fun v M1 h => ?_))
  obtain ⟨r2, rfl, h⟩ := h
  show E_X11_serviceTold l q 5 [(0, rV (some 16)), (1, iV p1), (2, iV p2)] [rV r2] M1 0 0
  refine e_astore_n (lv' := [(3, rV r2), (0, rV (some 16)), (1, iV p1), (2, iV p2)]) dX11_serviceTold_5 rfl (by decide) rfl ?_
  refine e_aload_n dX11_serviceTold_6 rfl rfl ?_
  refine e_ifnull (tgt := 14) dX11_serviceTold_7 (by decide) (fun c4 => ?_) (fun b3 c4 => ?_)
  · replace h := h.1 c4
    refine e_eq (lv' := [(3, rV none), (0, rV (some 16)), (1, iV p1), (2, iV p2)]) (st' := []) (by rw [c4]) (by first | rfl | rw [c4]) rfl ?_
    refine e_bipush (v := (-2)) dX11_serviceTold_14 (by decide) ?_
    exact e_iret rfl trivial dX11_serviceTold_16 ⟨_, rfl, h⟩
  · obtain ⟨t5, h⟩ := h.2 b3 c4
    refine e_eq (lv' := [(3, rV (some b3)), (0, rV (some 16)), (1, iV p1), (2, iV p2)]) (st' := []) (by rw [c4]) (by first | rfl | rw [c4]) rfl ?_
    refine e_iload_n dX11_serviceTold_10 rfl rfl ?_
    refine e_if_ge (tgt := 17) dX11_serviceTold_11 (by decide) (fun c6 => ?_) (fun c6 => ?_)
    · replace h := h.1 c6
      refine e_iload_n dX11_serviceTold_17 rfl rfl ?_
      rcases o_tab p2 0 7 (a := 0) (b := 7) (by decide) (by decide) with c7 | c7
      · replace h := h.1 c7
        refine e_tabOut (tgt := 123) dX11_serviceTold_18 (o_tabo (by decide) (by decide) c7) (by decide) ?_
        refine e_aload_n dX11_serviceTold_123 rfl rfl ?_
        refine e_iload_n dX11_serviceTold_124 rfl rfl ?_
        refine e_bipush (v := 8) dX11_serviceTold_125 (by decide) ?_
        refine e_isub dX11_serviceTold_127 ?_
        refine e_callV (As := [iV (p2 - 8)]) (st := []) mt_X6_workAt in_X6_workAt lkX11_235 rfl t5 ⟨by decide, by decide⟩ (Nat.le_of_ble_eq_true rfl) ⟨by decide, by decide⟩ rfl rfl dX11_serviceTold_128 (Ctr.mono h (fun v M8 h => ?_))
        obtain ⟨r9, rfl, h⟩ := h
        show E_X11_serviceTold l q 131 [(3, rV (some b3)), (0, rV (some 16)), (1, iV p1), (2, iV p2)] [iV r9] M8 0 0
        exact e_iret rfl trivial dX11_serviceTold_131 ⟨_, rfl, h⟩
      · have h0 := h.2
        have e1 : p2.toInt = 0 ∨ p2.toInt = 1 ∨ p2.toInt = 2 ∨ p2.toInt = 3 ∨ p2.toInt = 4 ∨ p2.toInt = 5 ∨ p2.toInt = 6 ∨ p2.toInt = 7 := by omega
        clear h; rcases e1 with e1 | e1 | e1 | e1 | e1 | e1 | e1 | e1
        · have h := h0.1 (Int32.toInt_inj.mp e1)
          refine e_tabIn (tgt := 64) (off := 46) dX11_serviceTold_18 (by rw [e1]; decide) (by rw [e1]; decide) (by rw [e1]; rfl) (by decide) ?_
          refine e_aload_n dX11_serviceTold_64 rfl rfl ?_
          refine e_gI flX11_218 t5 rfl dX11_serviceTold_65 ?_
          exact e_iret rfl trivial dX11_serviceTold_68 ⟨_, rfl, h⟩
        · have h := h0.2.1 (Int32.toInt_inj.mp e1)
          refine e_tabIn (tgt := 69) (off := 51) dX11_serviceTold_18 (by rw [e1]; decide) (by rw [e1]; decide) (by rw [e1]; rfl) (by decide) ?_
          refine e_aload_n dX11_serviceTold_69 rfl rfl ?_
          refine e_gI flX11_221 t5 rfl dX11_serviceTold_70 ?_
          exact e_iret rfl trivial dX11_serviceTold_73 ⟨_, rfl, h⟩
        · have h := h0.2.2.1 (Int32.toInt_inj.mp e1)
          refine e_tabIn (tgt := 74) (off := 56) dX11_serviceTold_18 (by rw [e1]; decide) (by rw [e1]; decide) (by rw [e1]; rfl) (by decide) ?_
          refine e_aload_n dX11_serviceTold_74 rfl rfl ?_
          refine e_gI flX11_224 t5 rfl dX11_serviceTold_75 ?_
          exact e_iret rfl trivial dX11_serviceTold_78 ⟨_, rfl, h⟩
        · have h := h0.2.2.2.1 (Int32.toInt_inj.mp e1)
          refine e_tabIn (tgt := 79) (off := 61) dX11_serviceTold_18 (by rw [e1]; decide) (by rw [e1]; decide) (by rw [e1]; rfl) (by decide) ?_
          refine e_aload_n dX11_serviceTold_79 rfl rfl ?_
          refine e_gI flX11_227 t5 rfl dX11_serviceTold_80 ?_
          exact e_iret rfl trivial dX11_serviceTold_83 ⟨_, rfl, h⟩
        · have h := h0.2.2.2.2.1 (Int32.toInt_inj.mp e1)
          refine e_tabIn (tgt := 84) (off := 66) dX11_serviceTold_18 (by rw [e1]; decide) (by rw [e1]; decide) (by rw [e1]; rfl) (by decide) ?_
          refine e_aload_n dX11_serviceTold_84 rfl rfl ?_
          refine e_gI flX11_188 t5 rfl dX11_serviceTold_85 ?_
          exact e_iret rfl trivial dX11_serviceTold_88 ⟨_, rfl, h⟩
        · have h := h0.2.2.2.2.2.1 (Int32.toInt_inj.mp e1)
          refine e_tabIn (tgt := 89) (off := 71) dX11_serviceTold_18 (by rw [e1]; decide) (by rw [e1]; decide) (by rw [e1]; rfl) (by decide) ?_
          refine e_aload_n dX11_serviceTold_89 rfl rfl ?_
          refine e_gI flX11_229 t5 rfl dX11_serviceTold_90 ?_
          exact e_iret rfl trivial dX11_serviceTold_93 ⟨_, rfl, h⟩
        · have h := h0.2.2.2.2.2.2.1 (Int32.toInt_inj.mp e1)
          refine e_tabIn (tgt := 94) (off := 76) dX11_serviceTold_18 (by rw [e1]; decide) (by rw [e1]; decide) (by rw [e1]; rfl) (by decide) ?_
          refine e_aload_n dX11_serviceTold_94 rfl rfl ?_
          refine e_gI flX11_177 t5 rfl dX11_serviceTold_95 ?_
          refine e_if_eq (tgt := 105) dX11_serviceTold_98 (by decide) (fun c10 => ?_) (fun c10 => ?_)
          · replace h := h.1 c10
            refine e_iconst (v := 0) dX11_serviceTold_105 (by decide) ?_
            exact e_iret rfl trivial dX11_serviceTold_106 ⟨_, rfl, h⟩
          · replace h := h.2 c10
            refine e_iconst (v := 1) dX11_serviceTold_101 (by decide) ?_
            refine e_goto (tgt := 106) dX11_serviceTold_102 (by decide) ?_
            exact e_iret rfl trivial dX11_serviceTold_106 ⟨_, rfl, h⟩
        · have h := h0.2.2.2.2.2.2.2 (Int32.toInt_inj.mp e1)
          refine e_tabIn (tgt := 107) (off := 89) dX11_serviceTold_18 (by rw [e1]; decide) (by rw [e1]; decide) (by rw [e1]; rfl) (by decide) ?_
          refine e_aload_n dX11_serviceTold_107 rfl rfl ?_
          refine e_gI flX11_177 t5 rfl dX11_serviceTold_108 ?_
          refine e_if_eq (tgt := 121) dX11_serviceTold_111 (by decide) (fun c11 => ?_) (fun c11 => ?_)
          · replace h := h.1 c11
            refine e_iconst (v := (-1)) dX11_serviceTold_121 (by decide) ?_
            exact e_iret rfl trivial dX11_serviceTold_122 ⟨_, rfl, h⟩
          · replace h := h.2 c11
            refine e_aload_n dX11_serviceTold_114 rfl rfl ?_
            refine e_gI flX11_232 t5 rfl dX11_serviceTold_115 ?_
            refine e_goto (tgt := 122) dX11_serviceTold_118 (by decide) ?_
            exact e_iret rfl trivial dX11_serviceTold_122 ⟨_, rfl, h⟩
    · replace h := h.2 c6
      refine e_bipush (v := (-2)) dX11_serviceTold_14 (by decide) ?_
      exact e_iret rfl trivial dX11_serviceTold_16 ⟨_, rfl, h⟩
theorem w_X11_work (l : Launch) (p1 : Int32) (p2 : Int32) (p3 : Int32) (M : o_M) (q : Int32 → o_M → Prop) (h : K_X11_isWithin l [iV p1, iV 1, iV 90] M (fun r2 M1 => ((r2 = 0 → q (-2) M1) ∧ (¬ r2 = 0 → K_X11_isWithin l [iV p2, iV 0, iV 1000] M1 (fun r5 M4 => ((r5 = 0 → q (-2) M4) ∧ (¬ r5 = 0 → K_X11_isWithin l [iV p3, iV 0, iV 4095] M4 (fun r8 M7 => ((¬ r8 = 0 → (((mI M7 16 11) < 12 → (mR M7 16 0 = some 17 ∧ (∃ b12, b12 ∉ mL M7 ∧ o_ty b12 = .inl 10 ∧ K_X10_init l [rV (some b12), iV p1, iV p2, iV p3] (nW M7 b12 0) (fun M15 => (vp_in (mI M7 16 11) (mN M15 17) ∧ q ((mI (sI (sR M15 17 ((mI M7 16 11).toNatClampNeg) (some b12)) 16 11 ((mI (sR M15 17 ((mI M7 16 11).toNatClampNeg) (some b12)) 16 11) + 1)) 16 11) - 1) (sI (sR M15 17 ((mI M7 16 11).toNatClampNeg) (some b12)) 16 11 ((mI (sR M15 17 ((mI M7 16 11).toNatClampNeg) (some b12)) 16 11) + 1))))))) ∧ (¬ (mI M7 16 11) < 12 → q (-4) M7))) ∧ (r8 = 0 → q (-2) M7)))))))))) : K_X11_work l [rV (some 16), iV p1, iV p2, iV p3] M q := by
  refine o_ctr (ini := false) (by decide +kernel) rfl (fun z => by cases z) (Nat.le_of_ble_eq_true rfl) ?_
  show E_X11_work l q 0 [(0, rV (some 16)), (1, iV p1), (2, iV p2), (3, iV p3)] [] M 0 0
  refine e_iload_n dX11_work_0 rfl rfl ?_
  refine e_iconst (v := 1) dX11_work_1 (by decide) ?_
  refine e_bipush (v := 90) dX11_work_2 (by decide) ?_
  refine e_callS (As := [iV p1, iV 1, iV 90]) (st := []) mt_X11_isWithin is_X11_isWithin lkX11_124 ⟨by decide, by decide⟩ (Nat.le_of_ble_eq_true rfl) ⟨by decide, by decide⟩ rfl rfl dX11_work_4 (Ctr.mono h (fun v M1 h => ?_))
  obtain ⟨r2, rfl, h⟩ := h
  show E_X11_work l q 7 [(0, rV (some 16)), (1, iV p1), (2, iV p2), (3, iV p3)] [iV r2] M1 0 0
  refine e_if_eq (tgt := 32) dX11_work_7 (by decide) (fun c3 => ?_) (fun c3 => ?_)
  · replace h := h.1 c3
    refine e_bipush (v := (-2)) dX11_work_32 (by decide) ?_
    refine e_widen (k' := 1) (n' := 6) (by decide) (by decide) ?_
    exact e_iret rfl trivial dX11_work_34 ⟨_, rfl, h⟩
  · replace h := h.2 c3
    refine e_iload_n dX11_work_10 rfl rfl ?_
    refine e_iconst (v := 0) dX11_work_11 (by decide) ?_
    refine e_sipush (v := 1000) dX11_work_12 (by decide) ?_
    refine e_callS (As := [iV p2, iV 0, iV 1000]) (st := []) mt_X11_isWithin is_X11_isWithin lkX11_124 ⟨by decide, by decide⟩ (Nat.le_of_ble_eq_true rfl) ⟨by decide, by decide⟩ rfl rfl dX11_work_15 (Ctr.mono h (fun v M4 h => ?_))
    obtain ⟨r5, rfl, h⟩ := h
    show E_X11_work l q 18 [(0, rV (some 16)), (1, iV p1), (2, iV p2), (3, iV p3)] [iV r5] M4 0 0
    refine e_if_eq (tgt := 32) dX11_work_18 (by decide) (fun c6 => ?_) (fun c6 => ?_)
    · replace h := h.1 c6
      refine e_bipush (v := (-2)) dX11_work_32 (by decide) ?_
      refine e_widen (k' := 1) (n' := 6) (by decide) (by decide) ?_
      exact e_iret rfl trivial dX11_work_34 ⟨_, rfl, h⟩
    · replace h := h.2 c6
      refine e_iload_n dX11_work_21 rfl rfl ?_
      refine e_iconst (v := 0) dX11_work_22 (by decide) ?_
      refine e_sipush (v := 4095) dX11_work_23 (by decide) ?_
      refine e_callS (As := [iV p3, iV 0, iV 4095]) (st := []) mt_X11_isWithin is_X11_isWithin lkX11_124 ⟨by decide, by decide⟩ (Nat.le_of_ble_eq_true rfl) ⟨by decide, by decide⟩ rfl rfl dX11_work_26 (Ctr.mono h (fun v M7 h => ?_))
      obtain ⟨r8, rfl, h⟩ := h
      show E_X11_work l q 29 [(0, rV (some 16)), (1, iV p1), (2, iV p2), (3, iV p3)] [iV r8] M7 0 0
      refine e_if_ne (tgt := 35) dX11_work_29 (by decide) (fun c9 => ?_) (fun c9 => ?_)
      · replace h := h.1 c9
        refine e_aload_n dX11_work_35 rfl rfl ?_
        refine e_gI flX11_78 rfl rfl dX11_work_36 ?_
        refine e_bipush (v := 12) dX11_work_39 (by decide) ?_
        refine e_ic_lt (tgt := 47) dX11_work_41 (by decide) (fun c10 => ?_) (fun c10 => ?_)
        · replace h := h.1 c10
          refine e_aload_n dX11_work_47 rfl rfl ?_
          obtain ⟨o11, h⟩ := h
          refine e_gA flX11_11 rfl rfl o11 dX11_work_48 ?_
          refine e_aload_n dX11_work_51 rfl rfl ?_
          refine e_gI flX11_78 rfl rfl dX11_work_52 ?_
          obtain ⟨b12, o13, o14, h⟩ := h
          refine e_new o13 o14 rfl rfl iT10 tyX10_ok (by decide) clX11_9 itX10 izX10 (by decide) (by decide) dX11_work_55 ?_
          refine e_dup rfl dX11_work_58 ?_
          refine e_iload_n dX11_work_59 rfl rfl ?_
          refine e_iload_n dX11_work_60 rfl rfl ?_
          refine e_iload_n dX11_work_61 rfl rfl ?_
          refine e_callI (As := [iV p1, iV p2, iV p3]) (st := [rV (some b12), iV (mI M7 16 11), rV (some 17)]) mt_X10_init rfl ii_X10_init lkX11_128 ⟨by decide, by decide⟩ (Nat.le_of_ble_eq_true rfl) ⟨by decide, by decide⟩ rfl rfl dX11_work_62 (Ctr.mono h (fun v M15 h => ?_))
          obtain ⟨rfl, h⟩ := h
          show E_X11_work l q 65 [(0, rV (some 16)), (1, iV p1), (2, iV p2), (3, iV p3)] [rV (some b12), iV (mI M7 16 11), rV (some 17)] M15 1 6
          obtain ⟨o16, h⟩ := h
          refine e_aast (r := (RX10, TX10, 6)) rfl o14 rfl o16 dX11_work_65 ?_
          refine e_aload_n dX11_work_66 rfl rfl ?_
          refine e_dup rfl dX11_work_67 ?_
          refine e_gI flX11_78 rfl rfl dX11_work_68 ?_
          refine e_iconst (v := 1) dX11_work_71 (by decide) ?_
          refine e_iadd dX11_work_72 ?_
          refine e_pI flX11_78 rfl (Or.inl rfl) rfl rfl rfl dX11_work_73 ?_
          refine e_aload_n dX11_work_76 rfl rfl ?_
          refine e_gI flX11_78 rfl rfl dX11_work_77 ?_
          refine e_iconst (v := 1) dX11_work_80 (by decide) ?_
          refine e_isub dX11_work_81 ?_
          exact e_iret rfl trivial dX11_work_82 ⟨_, rfl, h⟩
        · replace h := h.2 c10
          refine e_bipush (v := (-4)) dX11_work_44 (by decide) ?_
          refine e_widen (k' := 1) (n' := 6) (by decide) (by decide) ?_
          exact e_iret rfl trivial dX11_work_46 ⟨_, rfl, h⟩
      · replace h := h.2 c9
        refine e_bipush (v := (-2)) dX11_work_32 (by decide) ?_
        refine e_widen (k' := 1) (n' := 6) (by decide) (by decide) ?_
        exact e_iret rfl trivial dX11_work_34 ⟨_, rfl, h⟩
theorem w_X11_workTold (l : Launch) (p1 : Int32) (p2 : Int32) (M : o_M) (q : Int32 → o_M → Prop) (h : K_X11_findWork l [rV (some 16), iV p1] M (fun r2 M1 => ((r2 = none → q (-2) M1) ∧ (∀ b3, r2 = some b3 → o_ty b3 = .inl 10 ∧ (((p2 < 0 ∨ 5 < p2) → q (-2) M1) ∧ (p2 = 0 → q (mI M1 b3 0) M1) ∧ (p2 = 1 → q (mI M1 b3 1) M1) ∧ (p2 = 2 → q (mI M1 b3 2) M1) ∧ (p2 = 3 → q (mI M1 b3 3) M1) ∧ (p2 = 4 → q (mI M1 b3 4) M1) ∧ (p2 = 5 → q (mI M1 b3 5) M1)))))) : K_X11_workTold l [rV (some 16), iV p1, iV p2] M q := by
  refine o_ctr (ini := false) (by decide +kernel) rfl (fun z => by cases z) (Nat.le_of_ble_eq_true rfl) ?_
  show E_X11_workTold l q 0 [(0, rV (some 16)), (1, iV p1), (2, iV p2)] [] M 0 0
  refine e_aload_n dX11_workTold_0 rfl rfl ?_
  refine e_iload_n dX11_workTold_1 rfl rfl ?_
  refine e_callV (As := [iV p1]) (st := []) mt_X11_findWork in_X11_findWork lkX11_131 rfl rfl ⟨by decide, by decide⟩ (Nat.le_of_ble_eq_true rfl) ⟨by decide, by decide⟩ rfl rfl dX11_workTold_2 (Ctr.mono h (fun v M1 h => ?_))
  obtain ⟨r2, rfl, h⟩ := h
  show E_X11_workTold l q 5 [(0, rV (some 16)), (1, iV p1), (2, iV p2)] [rV r2] M1 0 0
  refine e_astore_n (lv' := [(3, rV r2), (0, rV (some 16)), (1, iV p1), (2, iV p2)]) dX11_workTold_5 rfl (by decide) rfl ?_
  refine e_aload_n dX11_workTold_6 rfl rfl ?_
  refine e_ifnonnull (tgt := 13) dX11_workTold_7 (by decide) (fun b3 c4 => ?_) (fun c4 => ?_)
  · obtain ⟨t5, h⟩ := h.2 b3 c4
    refine e_eq (lv' := [(3, rV (some b3)), (0, rV (some 16)), (1, iV p1), (2, iV p2)]) (st' := []) (by rw [c4]) (by first | rfl | rw [c4]) rfl ?_
    refine e_iload_n dX11_workTold_13 rfl rfl ?_
    rcases o_tab p2 0 5 (a := 0) (b := 5) (by decide) (by decide) with c6 | c6
    · replace h := h.1 c6
      refine e_tabOut (tgt := 82) dX11_workTold_14 (o_tabo (by decide) (by decide) c6) (by decide) ?_
      refine e_bipush (v := (-2)) dX11_workTold_82 (by decide) ?_
      exact e_iret rfl trivial dX11_workTold_84 ⟨_, rfl, h⟩
    · have h0 := h.2
      have e1 : p2.toInt = 0 ∨ p2.toInt = 1 ∨ p2.toInt = 2 ∨ p2.toInt = 3 ∨ p2.toInt = 4 ∨ p2.toInt = 5 := by omega
      clear h; rcases e1 with e1 | e1 | e1 | e1 | e1 | e1
      · have h := h0.1 (Int32.toInt_inj.mp e1)
        refine e_tabIn (tgt := 52) (off := 38) dX11_workTold_14 (by rw [e1]; decide) (by rw [e1]; decide) (by rw [e1]; rfl) (by decide) ?_
        refine e_aload_n dX11_workTold_52 rfl rfl ?_
        refine e_gI flX11_193 t5 rfl dX11_workTold_53 ?_
        exact e_iret rfl trivial dX11_workTold_56 ⟨_, rfl, h⟩
      · have h := h0.2.1 (Int32.toInt_inj.mp e1)
        refine e_tabIn (tgt := 57) (off := 43) dX11_workTold_14 (by rw [e1]; decide) (by rw [e1]; decide) (by rw [e1]; rfl) (by decide) ?_
        refine e_aload_n dX11_workTold_57 rfl rfl ?_
        refine e_gI flX11_196 t5 rfl dX11_workTold_58 ?_
        exact e_iret rfl trivial dX11_workTold_61 ⟨_, rfl, h⟩
      · have h := h0.2.2.1 (Int32.toInt_inj.mp e1)
        refine e_tabIn (tgt := 62) (off := 48) dX11_workTold_14 (by rw [e1]; decide) (by rw [e1]; decide) (by rw [e1]; rfl) (by decide) ?_
        refine e_aload_n dX11_workTold_62 rfl rfl ?_
        refine e_gI flX11_199 t5 rfl dX11_workTold_63 ?_
        exact e_iret rfl trivial dX11_workTold_66 ⟨_, rfl, h⟩
      · have h := h0.2.2.2.1 (Int32.toInt_inj.mp e1)
        refine e_tabIn (tgt := 67) (off := 53) dX11_workTold_14 (by rw [e1]; decide) (by rw [e1]; decide) (by rw [e1]; rfl) (by decide) ?_
        refine e_aload_n dX11_workTold_67 rfl rfl ?_
        refine e_gI flX11_139 t5 rfl dX11_workTold_68 ?_
        exact e_iret rfl trivial dX11_workTold_71 ⟨_, rfl, h⟩
      · have h := h0.2.2.2.2.1 (Int32.toInt_inj.mp e1)
        refine e_tabIn (tgt := 72) (off := 58) dX11_workTold_14 (by rw [e1]; decide) (by rw [e1]; decide) (by rw [e1]; rfl) (by decide) ?_
        refine e_aload_n dX11_workTold_72 rfl rfl ?_
        refine e_gI flX11_142 t5 rfl dX11_workTold_73 ?_
        exact e_iret rfl trivial dX11_workTold_76 ⟨_, rfl, h⟩
      · have h := h0.2.2.2.2.2 (Int32.toInt_inj.mp e1)
        refine e_tabIn (tgt := 77) (off := 63) dX11_workTold_14 (by rw [e1]; decide) (by rw [e1]; decide) (by rw [e1]; rfl) (by decide) ?_
        refine e_aload_n dX11_workTold_77 rfl rfl ?_
        refine e_gI flX11_145 t5 rfl dX11_workTold_78 ?_
        exact e_iret rfl trivial dX11_workTold_81 ⟨_, rfl, h⟩
  · replace h := h.1 c4
    refine e_eq (lv' := [(3, rV none), (0, rV (some 16)), (1, iV p1), (2, iV p2)]) (st' := []) (by rw [c4]) (by first | rfl | rw [c4]) rfl ?_
    refine e_bipush (v := (-2)) dX11_workTold_10 (by decide) ?_
    exact e_iret rfl trivial dX11_workTold_12 ⟨_, rfl, h⟩
abbrev H_X1_sumWait_5 (l : Launch) (q : Int32 → o_M → Prop) (a1 : Nat) (v3 : Int32) (v4 : Int32) (M : o_M) : Prop := E_X1_sumWait l q 5 [(0, rV (some 35)), (1, rV (some a1)), (2, rV (some 17)), (3, iV v3), (4, iV v4)] [] M 0 0
theorem w_X1_sumWait (l : Launch) (a1 : Nat) (t1 : o_ty a1 = .inl 6) (M : o_M) (q : Int32 → o_M → Prop) (h : H_X1_sumWait_5 l q a1 0 0 M) : K_X1_sumWait l [rV (some 35), rV (some a1), rV (some 17)] M q := by
  refine o_ctr (ini := false) (by decide +kernel) rfl (fun z => by cases z) (Nat.le_of_ble_eq_true rfl) ?_
  show E_X1_sumWait l q 0 [(0, rV (some 35)), (1, rV (some a1)), (2, rV (some 17))] [] M 0 0
  refine e_iconst (v := 0) dX1_sumWait_0 (by decide) ?_
  refine e_istore_n (lv' := [(3, iV 0), (0, rV (some 35)), (1, rV (some a1)), (2, rV (some 17))]) dX1_sumWait_1 rfl (by decide) rfl ?_
  refine e_iconst (v := 0) dX1_sumWait_2 (by decide) ?_
  refine e_istore (lv' := [(4, iV 0), (3, iV 0), (0, rV (some 35)), (1, rV (some a1)), (2, rV (some 17))]) (by decide) rfl dX1_sumWait_3 ?_
  exact e_lv (List.forall_mem_cons.mpr ⟨rfl, List.forall_mem_cons.mpr ⟨rfl, List.forall_mem_cons.mpr ⟨rfl, List.forall_mem_cons.mpr ⟨rfl, List.forall_mem_cons.mpr ⟨rfl, fun _ h => absurd h List.not_mem_nil⟩⟩⟩⟩⟩) h
theorem w_X1_sumWait_5 (l : Launch) (q : Int32 → o_M → Prop) (a1 : Nat) (t1 : o_ty a1 = .inl 6) (v3 : Int32) (v4 : Int32) (M : o_M) (h : ((6 ≤ v4 → q v3 M) ∧ (¬ 6 ≤ v4 → (mR M a1 5 = some (a1 + 2) ∧ (vp_in v4 (mN M (a1 + 2)) ∧ (((mI M (a1 + 2) v4.toNatClampNeg) ≤ 0 → H_X1_sumWait_5 l q a1 v3 (v4 + 1) M) ∧ (¬ (mI M (a1 + 2) v4.toNatClampNeg) ≤ 0 → (mR M a1 5 = some (a1 + 2) ∧ (vp_in v4 (mN M (a1 + 2)) ∧ K_X1_minutesBetween l [rV (some 35), rV (some 17), iV v4] M (fun r8 M7 => H_X1_sumWait_5 l q a1 (v3 + ((mI M (a1 + 2) v4.toNatClampNeg) * r8)) (v4 + 1) M7)))))))))) : H_X1_sumWait_5 l q a1 v3 v4 M := by
  refine e_iload rfl dX1_sumWait_5 ?_
  refine e_bipush (v := 6) dX1_sumWait_7 (by decide) ?_
  refine e_ic_ge (tgt := 46) dX1_sumWait_9 (by decide) (fun c1 => ?_) (fun c1 => ?_)
  · replace h := h.1 c1
    refine e_iload_n dX1_sumWait_46 rfl rfl ?_
    exact e_iret rfl trivial dX1_sumWait_47 ⟨_, rfl, h⟩
  · replace h := h.2 c1
    refine e_aload_n dX1_sumWait_12 rfl rfl ?_
    obtain ⟨o2, h⟩ := h
    refine e_gA flX1_52 t1 rfl o2 dX1_sumWait_13 ?_
    refine e_iload rfl dX1_sumWait_16 ?_
    obtain ⟨o3, h⟩ := h
    refine e_iald ((o_sub6 t1).2.2.1) o3 dX1_sumWait_18 ?_
    refine e_if_le (tgt := 40) dX1_sumWait_19 (by decide) (fun c4 => ?_) (fun c4 => ?_)
    · replace h := h.1 c4
      refine e_iinc (v := 1) (lv' := [(4, iV (v4 + 1)), (0, rV (some 35)), (1, rV (some a1)), (2, rV (some 17)), (3, iV v3)]) rfl (by decide) (by decide) rfl dX1_sumWait_40 ?_
      refine e_goto (tgt := 5) dX1_sumWait_43 (by decide) ?_
      exact e_lv (List.forall_mem_cons.mpr ⟨rfl, List.forall_mem_cons.mpr ⟨rfl, List.forall_mem_cons.mpr ⟨rfl, List.forall_mem_cons.mpr ⟨rfl, List.forall_mem_cons.mpr ⟨rfl, fun _ h => absurd h List.not_mem_nil⟩⟩⟩⟩⟩) h
    · replace h := h.2 c4
      refine e_iload_n dX1_sumWait_22 rfl rfl ?_
      refine e_aload_n dX1_sumWait_23 rfl rfl ?_
      obtain ⟨o5, h⟩ := h
      refine e_gA flX1_52 t1 rfl o5 dX1_sumWait_24 ?_
      refine e_iload rfl dX1_sumWait_27 ?_
      obtain ⟨o6, h⟩ := h
      refine e_iald ((o_sub6 t1).2.2.1) o6 dX1_sumWait_29 ?_
      refine e_aload_n dX1_sumWait_30 rfl rfl ?_
      refine e_aload_n dX1_sumWait_31 rfl rfl ?_
      refine e_iload rfl dX1_sumWait_32 ?_
      refine e_callV (As := [rV (some 17), iV v4]) (st := [iV (mI M (a1 + 2) v4.toNatClampNeg), iV v3]) mt_X1_minutesBetween in_X1_minutesBetween lkX1_55 rfl rfl ⟨by decide, by decide⟩ (Nat.le_of_ble_eq_true rfl) ⟨by decide, by decide⟩ rfl rfl dX1_sumWait_34 (Ctr.mono h (fun v M7 h => ?_))
      obtain ⟨r8, rfl, h⟩ := h
      show E_X1_sumWait l q 37 [(0, rV (some 35)), (1, rV (some a1)), (2, rV (some 17)), (3, iV v3), (4, iV v4)] [iV r8, iV (mI M (a1 + 2) v4.toNatClampNeg), iV v3] M7 0 0
      refine e_imul dX1_sumWait_37 ?_
      refine e_iadd dX1_sumWait_38 ?_
      refine e_istore_n (lv' := [(3, iV (v3 + ((mI M (a1 + 2) v4.toNatClampNeg) * r8))), (0, rV (some 35)), (1, rV (some a1)), (2, rV (some 17)), (4, iV v4)]) dX1_sumWait_39 rfl (by decide) rfl ?_
      refine e_iinc (v := 1) (lv' := [(4, iV (v4 + 1)), (3, iV (v3 + ((mI M (a1 + 2) v4.toNatClampNeg) * r8))), (0, rV (some 35)), (1, rV (some a1)), (2, rV (some 17))]) rfl (by decide) (by decide) rfl dX1_sumWait_40 ?_
      refine e_goto (tgt := 5) dX1_sumWait_43 (by decide) ?_
      exact e_lv (List.forall_mem_cons.mpr ⟨rfl, List.forall_mem_cons.mpr ⟨rfl, List.forall_mem_cons.mpr ⟨rfl, List.forall_mem_cons.mpr ⟨rfl, List.forall_mem_cons.mpr ⟨rfl, fun _ h => absurd h List.not_mem_nil⟩⟩⟩⟩⟩) h
abbrev H_X4_reckon_18 (l : Launch) (q : Int64 → o_M → Prop) (a1 : Nat) (v3 : Int32) (v4 : Int32) (M : o_M) : Prop := E_X4_reckon l q 18 [(0, rV (some 26)), (1, rV (some a1)), (3, iV v3), (4, iV v4)] [] M 0 0
theorem w_X4_reckon (l : Launch) (a1 : Nat) (p2 : Int32) (t1 : o_ty a1 = .inl 7) (M : o_M) (q : Int64 → o_M → Prop) (h : K_X7_endOf l [rV (some a1), iV p2] (sI M 26 2 0) (fun r2 M1 => K_X7_startOf l [rV (some a1), iV p2] M1 (fun r4 M3 => H_X4_reckon_18 l q a1 r2 r4 M3))) : K_X4_reckon l [rV (some 26), rV (some a1), iV p2] M q := by
  refine o_ctr (ini := false) (by decide +kernel) rfl (fun z => by cases z) (Nat.le_of_ble_eq_true rfl) ?_
  show E_X4_reckon l q 0 [(0, rV (some 26)), (1, rV (some a1)), (2, iV p2)] [] M 0 0
  refine e_aload_n dX4_reckon_0 rfl rfl ?_
  refine e_iconst (v := 0) dX4_reckon_1 (by decide) ?_
  refine e_pI flX4_20 rfl (Or.inl rfl) rfl rfl rfl dX4_reckon_2 ?_
  refine e_aload_n dX4_reckon_5 rfl rfl ?_
  refine e_iload_n dX4_reckon_6 rfl rfl ?_
  refine e_callV (As := [iV p2]) (st := []) mt_X7_endOf in_X7_endOf lkX4_46 rfl t1 ⟨by decide, by decide⟩ (Nat.le_of_ble_eq_true rfl) ⟨by decide, by decide⟩ rfl rfl dX4_reckon_7 (Ctr.mono h (fun v M1 h => ?_))
  obtain ⟨r2, rfl, h⟩ := h
  show E_X4_reckon l q 10 [(0, rV (some 26)), (1, rV (some a1)), (2, iV p2)] [iV r2] M1 0 0
  refine e_istore_n (lv' := [(3, iV r2), (0, rV (some 26)), (1, rV (some a1)), (2, iV p2)]) dX4_reckon_10 rfl (by decide) rfl ?_
  refine e_aload_n dX4_reckon_11 rfl rfl ?_
  refine e_iload_n dX4_reckon_12 rfl rfl ?_
  refine e_callV (As := [iV p2]) (st := []) mt_X7_startOf in_X7_startOf lkX4_52 rfl t1 ⟨by decide, by decide⟩ (Nat.le_of_ble_eq_true rfl) ⟨by decide, by decide⟩ rfl rfl dX4_reckon_13 (Ctr.mono h (fun v M3 h => ?_))
  obtain ⟨r4, rfl, h⟩ := h
  show E_X4_reckon l q 16 [(3, iV r2), (0, rV (some 26)), (1, rV (some a1)), (2, iV p2)] [iV r4] M3 0 0
  refine e_istore (lv' := [(4, iV r4), (3, iV r2), (0, rV (some 26)), (1, rV (some a1)), (2, iV p2)]) (by decide) rfl dX4_reckon_16 ?_
  exact e_lv (List.forall_mem_cons.mpr ⟨rfl, List.forall_mem_cons.mpr ⟨rfl, List.forall_mem_cons.mpr ⟨rfl, List.forall_mem_cons.mpr ⟨rfl, fun _ h => absurd h List.not_mem_nil⟩⟩⟩⟩) h
theorem w_X4_reckon_18 (l : Launch) (q : Int64 → o_M → Prop) (a1 : Nat) (t1 : o_ty a1 = .inl 7) (v3 : Int32) (v4 : Int32) (M : o_M) (h : ((v3 ≤ v4 → K_X4_pop l [rV (some 26)] M (fun r7 M6 => q r7 M6)) ∧ (¬ v3 ≤ v4 → (mR M a1 1 = some (a1 + 2) ∧ (vp_in v4 (mN M (a1 + 2)) ∧ K_X4_step l [rV (some 26), iV (mI M (a1 + 2) v4.toNatClampNeg)] M (fun M10 => H_X4_reckon_18 l q a1 v3 (v4 + 1) M10)))))) : H_X4_reckon_18 l q a1 v3 v4 M := by
  refine e_iload rfl dX4_reckon_18 ?_
  refine e_iload_n dX4_reckon_20 rfl rfl ?_
  refine e_ic_ge (tgt := 41) dX4_reckon_21 (by decide) (fun c5 => ?_) (fun c5 => ?_)
  · replace h := h.1 c5
    refine e_aload_n dX4_reckon_41 rfl rfl ?_
    refine e_callV (As := []) (st := []) mt_X4_pop in_X4_pop lkX4_63 rfl rfl ⟨by decide, by decide⟩ (Nat.le_of_ble_eq_true rfl) ⟨by decide, by decide⟩ rfl rfl dX4_reckon_42 (Ctr.mono h (fun v M6 h => ?_))
    obtain ⟨r7, rfl, h⟩ := h
    show E_X4_reckon l q 45 [(0, rV (some 26)), (1, rV (some a1)), (3, iV v3), (4, iV v4)] [jV r7] M6 0 0
    exact e_lret rfl trivial dX4_reckon_45 ⟨_, rfl, h⟩
  · replace h := h.2 c5
    refine e_aload_n dX4_reckon_24 rfl rfl ?_
    refine e_aload_n dX4_reckon_25 rfl rfl ?_
    obtain ⟨o8, h⟩ := h
    refine e_gA flX4_55 t1 rfl o8 dX4_reckon_26 ?_
    refine e_iload rfl dX4_reckon_29 ?_
    obtain ⟨o9, h⟩ := h
    refine e_iald ((o_sub7 t1).2.2.1) o9 dX4_reckon_31 ?_
    refine e_callV (As := [iV (mI M (a1 + 2) v4.toNatClampNeg)]) (st := []) mt_X4_step in_X4_step lkX4_59 rfl rfl ⟨by decide, by decide⟩ (Nat.le_of_ble_eq_true rfl) ⟨by decide, by decide⟩ rfl rfl dX4_reckon_32 (Ctr.mono h (fun v M10 h => ?_))
    obtain ⟨rfl, h⟩ := h
    show E_X4_reckon l q 35 [(0, rV (some 26)), (1, rV (some a1)), (3, iV v3), (4, iV v4)] [] M10 0 0
    refine e_iinc (v := 1) (lv' := [(4, iV (v4 + 1)), (0, rV (some 26)), (1, rV (some a1)), (3, iV v3)]) rfl (by decide) (by decide) rfl dX4_reckon_35 ?_
    refine e_goto (tgt := 18) dX4_reckon_38 (by decide) ?_
    exact e_lv (List.forall_mem_cons.mpr ⟨rfl, List.forall_mem_cons.mpr ⟨rfl, List.forall_mem_cons.mpr ⟨rfl, List.forall_mem_cons.mpr ⟨rfl, fun _ h => absurd h List.not_mem_nil⟩⟩⟩⟩) h
theorem w_X5_canTake (l : Launch) (p1 : Int32) (p2 : Int32) (M : o_M) (q : Int32 → o_M → Prop) (h : (mR M 29 1 = some 31 ∧ (vp_in p1 (mN M 31) ∧ (mR M 29 2 = some 32 ∧ (vp_in p2 (mN M 32) ∧ ((¬ (mI M 31 p1.toNatClampNeg) = p2 → (((mI M 31 p1.toNatClampNeg) = (-1) → (((mI M 32 p2.toNatClampNeg) = (-1) → (mR M 29 1 = some 31 ∧ (vp_in p1 (mN M 31) ∧ (mR (sI M 31 p1.toNatClampNeg p2) 29 2 = some 32 ∧ (vp_in p2 (mN (sI M 31 p1.toNatClampNeg p2) 32) ∧ (((mI M 31 p1.toNatClampNeg) = (-1) → q 1 (sI (sI M 31 p1.toNatClampNeg p2) 32 p2.toNatClampNeg p1)) ∧ (¬ (mI M 31 p1.toNatClampNeg) = (-1) → ((¬ (mI M 32 p2.toNatClampNeg) = (-1) → K_X5_seatOneMore l [rV (some 29), iV (p1 + 1)] (sI (sI (sI M 31 p1.toNatClampNeg p2) 32 p2.toNatClampNeg p1) 29 6 ((mI (sI (sI M 31 p1.toNatClampNeg p2) 32 p2.toNatClampNeg p1) 29 6) ||| ((1 : Int32) <<< (p2 &&& 31)))) (fun r15 M14 => ((r15 = 0 → (mR (sI M14 29 6 ((mI M14 29 6) &&& (((1 : Int32) <<< (p2 &&& 31)) ^^^ (-1)))) 29 1 = some 31 ∧ (vp_in p1 (mN (sI M14 29 6 ((mI M14 29 6) &&& (((1 : Int32) <<< (p2 &&& 31)) ^^^ (-1)))) 31) ∧ (mR (sI (sI M14 29 6 ((mI M14 29 6) &&& (((1 : Int32) <<< (p2 &&& 31)) ^^^ (-1)))) 31 p1.toNatClampNeg (mI M 31 p1.toNatClampNeg)) 29 2 = some 32 ∧ (vp_in (mI M 31 p1.toNatClampNeg) (mN (sI (sI M14 29 6 ((mI M14 29 6) &&& (((1 : Int32) <<< (p2 &&& 31)) ^^^ (-1)))) 31 p1.toNatClampNeg (mI M 31 p1.toNatClampNeg)) 32) ∧ (mR (sI (sI (sI M14 29 6 ((mI M14 29 6) &&& (((1 : Int32) <<< (p2 &&& 31)) ^^^ (-1)))) 31 p1.toNatClampNeg (mI M 31 p1.toNatClampNeg)) 32 ((mI M 31 p1.toNatClampNeg).toNatClampNeg) p1) 29 1 = some 31 ∧ (vp_in (mI M 32 p2.toNatClampNeg) (mN (sI (sI (sI M14 29 6 ((mI M14 29 6) &&& (((1 : Int32) <<< (p2 &&& 31)) ^^^ (-1)))) 31 p1.toNatClampNeg (mI M 31 p1.toNatClampNeg)) 32 ((mI M 31 p1.toNatClampNeg).toNatClampNeg) p1) 31) ∧ (mR (sI (sI (sI (sI M14 29 6 ((mI M14 29 6) &&& (((1 : Int32) <<< (p2 &&& 31)) ^^^ (-1)))) 31 p1.toNatClampNeg (mI M 31 p1.toNatClampNeg)) 32 ((mI M 31 p1.toNatClampNeg).toNatClampNeg) p1) 31 ((mI M 32 p2.toNatClampNeg).toNatClampNeg) p2) 29 2 = some 32 ∧ (vp_in p2 (mN (sI (sI (sI (sI M14 29 6 ((mI M14 29 6) &&& (((1 : Int32) <<< (p2 &&& 31)) ^^^ (-1)))) 31 p1.toNatClampNeg (mI M 31 p1.toNatClampNeg)) 32 ((mI M 31 p1.toNatClampNeg).toNatClampNeg) p1) 31 ((mI M 32 p2.toNatClampNeg).toNatClampNeg) p2) 32) ∧ (∀ M25, M25 = sI (sI (sI (sI (sI M14 29 6 ((mI M14 29 6) &&& (((1 : Int32) <<< (p2 &&& 31)) ^^^ (-1)))) 31 p1.toNatClampNeg (mI M 31 p1.toNatClampNeg)) 32 ((mI M 31 p1.toNatClampNeg).toNatClampNeg) p1) 31 ((mI M 32 p2.toNatClampNeg).toNatClampNeg) p2) 32 p2.toNatClampNeg (mI M 32 p2.toNatClampNeg) → q 0 M25)))))))))) ∧ (¬ r15 = 0 → q 1 M14)))) ∧ ((mI M 32 p2.toNatClampNeg) = (-1) → q 1 (sI (sI M 31 p1.toNatClampNeg p2) 32 p2.toNatClampNeg p1)))))))))) ∧ (¬ (mI M 32 p2.toNatClampNeg) = (-1) → (mR M 29 1 = some 31 ∧ (vp_in (mI M 32 p2.toNatClampNeg) (mN M 31) ∧ (mR (sI M 31 ((mI M 32 p2.toNatClampNeg).toNatClampNeg) (-1)) 29 1 = some 31 ∧ (vp_in p1 (mN (sI M 31 ((mI M 32 p2.toNatClampNeg).toNatClampNeg) (-1)) 31) ∧ (mR (sI (sI M 31 ((mI M 32 p2.toNatClampNeg).toNatClampNeg) (-1)) 31 p1.toNatClampNeg p2) 29 2 = some 32 ∧ (vp_in p2 (mN (sI (sI M 31 ((mI M 32 p2.toNatClampNeg).toNatClampNeg) (-1)) 31 p1.toNatClampNeg p2) 32) ∧ (((mI M 31 p1.toNatClampNeg) = (-1) → q 1 (sI (sI (sI M 31 ((mI M 32 p2.toNatClampNeg).toNatClampNeg) (-1)) 31 p1.toNatClampNeg p2) 32 p2.toNatClampNeg p1)) ∧ (¬ (mI M 31 p1.toNatClampNeg) = (-1) → ((¬ (mI M 32 p2.toNatClampNeg) = (-1) → (∀ M34, M34 = sI (sI (sI (sI M 31 ((mI M 32 p2.toNatClampNeg).toNatClampNeg) (-1)) 31 p1.toNatClampNeg p2) 32 p2.toNatClampNeg p1) 29 6 ((mI (sI (sI (sI M 31 ((mI M 32 p2.toNatClampNeg).toNatClampNeg) (-1)) 31 p1.toNatClampNeg p2) 32 p2.toNatClampNeg p1) 29 6) ||| ((1 : Int32) <<< (p2 &&& 31))) → K_X5_seatOneMore l [rV (some 29), iV (p1 + 1)] M34 (fun r36 M35 => ((r36 = 0 → (mR (sI M35 29 6 ((mI M35 29 6) &&& (((1 : Int32) <<< (p2 &&& 31)) ^^^ (-1)))) 29 1 = some 31 ∧ (vp_in p1 (mN (sI M35 29 6 ((mI M35 29 6) &&& (((1 : Int32) <<< (p2 &&& 31)) ^^^ (-1)))) 31) ∧ (mR (sI (sI M35 29 6 ((mI M35 29 6) &&& (((1 : Int32) <<< (p2 &&& 31)) ^^^ (-1)))) 31 p1.toNatClampNeg (mI M 31 p1.toNatClampNeg)) 29 2 = some 32 ∧ (vp_in (mI M 31 p1.toNatClampNeg) (mN (sI (sI M35 29 6 ((mI M35 29 6) &&& (((1 : Int32) <<< (p2 &&& 31)) ^^^ (-1)))) 31 p1.toNatClampNeg (mI M 31 p1.toNatClampNeg)) 32) ∧ (mR (sI (sI (sI M35 29 6 ((mI M35 29 6) &&& (((1 : Int32) <<< (p2 &&& 31)) ^^^ (-1)))) 31 p1.toNatClampNeg (mI M 31 p1.toNatClampNeg)) 32 ((mI M 31 p1.toNatClampNeg).toNatClampNeg) p1) 29 1 = some 31 ∧ (vp_in (mI M 32 p2.toNatClampNeg) (mN (sI (sI (sI M35 29 6 ((mI M35 29 6) &&& (((1 : Int32) <<< (p2 &&& 31)) ^^^ (-1)))) 31 p1.toNatClampNeg (mI M 31 p1.toNatClampNeg)) 32 ((mI M 31 p1.toNatClampNeg).toNatClampNeg) p1) 31) ∧ (mR (sI (sI (sI (sI M35 29 6 ((mI M35 29 6) &&& (((1 : Int32) <<< (p2 &&& 31)) ^^^ (-1)))) 31 p1.toNatClampNeg (mI M 31 p1.toNatClampNeg)) 32 ((mI M 31 p1.toNatClampNeg).toNatClampNeg) p1) 31 ((mI M 32 p2.toNatClampNeg).toNatClampNeg) p2) 29 2 = some 32 ∧ (vp_in p2 (mN (sI (sI (sI (sI M35 29 6 ((mI M35 29 6) &&& (((1 : Int32) <<< (p2 &&& 31)) ^^^ (-1)))) 31 p1.toNatClampNeg (mI M 31 p1.toNatClampNeg)) 32 ((mI M 31 p1.toNatClampNeg).toNatClampNeg) p1) 31 ((mI M 32 p2.toNatClampNeg).toNatClampNeg) p2) 32) ∧ (∀ M46, M46 = sI (sI (sI (sI (sI M35 29 6 ((mI M35 29 6) &&& (((1 : Int32) <<< (p2 &&& 31)) ^^^ (-1)))) 31 p1.toNatClampNeg (mI M 31 p1.toNatClampNeg)) 32 ((mI M 31 p1.toNatClampNeg).toNatClampNeg) p1) 31 ((mI M 32 p2.toNatClampNeg).toNatClampNeg) p2) 32 p2.toNatClampNeg (mI M 32 p2.toNatClampNeg) → q 0 M46)))))))))) ∧ (¬ r36 = 0 → q 1 M35))))) ∧ ((mI M 32 p2.toNatClampNeg) = (-1) → q 1 (sI (sI (sI M 31 ((mI M 32 p2.toNatClampNeg).toNatClampNeg) (-1)) 31 p1.toNatClampNeg p2) 32 p2.toNatClampNeg p1)))))))))))))) ∧ (¬ (mI M 31 p1.toNatClampNeg) = (-1) → (mR M 29 2 = some 32 ∧ (vp_in (mI M 31 p1.toNatClampNeg) (mN M 32) ∧ (((mI M 32 p2.toNatClampNeg) = (-1) → (mR (sI M 32 ((mI M 31 p1.toNatClampNeg).toNatClampNeg) (-1)) 29 1 = some 31 ∧ (vp_in p1 (mN (sI M 32 ((mI M 31 p1.toNatClampNeg).toNatClampNeg) (-1)) 31) ∧ (mR (sI (sI M 32 ((mI M 31 p1.toNatClampNeg).toNatClampNeg) (-1)) 31 p1.toNatClampNeg p2) 29 2 = some 32 ∧ (vp_in p2 (mN (sI (sI M 32 ((mI M 31 p1.toNatClampNeg).toNatClampNeg) (-1)) 31 p1.toNatClampNeg p2) 32) ∧ (((mI M 31 p1.toNatClampNeg) = (-1) → q 1 (sI (sI (sI M 32 ((mI M 31 p1.toNatClampNeg).toNatClampNeg) (-1)) 31 p1.toNatClampNeg p2) 32 p2.toNatClampNeg p1)) ∧ (¬ (mI M 31 p1.toNatClampNeg) = (-1) → ((¬ (mI M 32 p2.toNatClampNeg) = (-1) → (∀ M56, M56 = sI (sI (sI (sI M 32 ((mI M 31 p1.toNatClampNeg).toNatClampNeg) (-1)) 31 p1.toNatClampNeg p2) 32 p2.toNatClampNeg p1) 29 6 ((mI (sI (sI (sI M 32 ((mI M 31 p1.toNatClampNeg).toNatClampNeg) (-1)) 31 p1.toNatClampNeg p2) 32 p2.toNatClampNeg p1) 29 6) ||| ((1 : Int32) <<< (p2 &&& 31))) → K_X5_seatOneMore l [rV (some 29), iV (p1 + 1)] M56 (fun r58 M57 => ((r58 = 0 → (mR (sI M57 29 6 ((mI M57 29 6) &&& (((1 : Int32) <<< (p2 &&& 31)) ^^^ (-1)))) 29 1 = some 31 ∧ (vp_in p1 (mN (sI M57 29 6 ((mI M57 29 6) &&& (((1 : Int32) <<< (p2 &&& 31)) ^^^ (-1)))) 31) ∧ (mR (sI (sI M57 29 6 ((mI M57 29 6) &&& (((1 : Int32) <<< (p2 &&& 31)) ^^^ (-1)))) 31 p1.toNatClampNeg (mI M 31 p1.toNatClampNeg)) 29 2 = some 32 ∧ (vp_in (mI M 31 p1.toNatClampNeg) (mN (sI (sI M57 29 6 ((mI M57 29 6) &&& (((1 : Int32) <<< (p2 &&& 31)) ^^^ (-1)))) 31 p1.toNatClampNeg (mI M 31 p1.toNatClampNeg)) 32) ∧ (mR (sI (sI (sI M57 29 6 ((mI M57 29 6) &&& (((1 : Int32) <<< (p2 &&& 31)) ^^^ (-1)))) 31 p1.toNatClampNeg (mI M 31 p1.toNatClampNeg)) 32 ((mI M 31 p1.toNatClampNeg).toNatClampNeg) p1) 29 1 = some 31 ∧ (vp_in (mI M 32 p2.toNatClampNeg) (mN (sI (sI (sI M57 29 6 ((mI M57 29 6) &&& (((1 : Int32) <<< (p2 &&& 31)) ^^^ (-1)))) 31 p1.toNatClampNeg (mI M 31 p1.toNatClampNeg)) 32 ((mI M 31 p1.toNatClampNeg).toNatClampNeg) p1) 31) ∧ (mR (sI (sI (sI (sI M57 29 6 ((mI M57 29 6) &&& (((1 : Int32) <<< (p2 &&& 31)) ^^^ (-1)))) 31 p1.toNatClampNeg (mI M 31 p1.toNatClampNeg)) 32 ((mI M 31 p1.toNatClampNeg).toNatClampNeg) p1) 31 ((mI M 32 p2.toNatClampNeg).toNatClampNeg) p2) 29 2 = some 32 ∧ (vp_in p2 (mN (sI (sI (sI (sI M57 29 6 ((mI M57 29 6) &&& (((1 : Int32) <<< (p2 &&& 31)) ^^^ (-1)))) 31 p1.toNatClampNeg (mI M 31 p1.toNatClampNeg)) 32 ((mI M 31 p1.toNatClampNeg).toNatClampNeg) p1) 31 ((mI M 32 p2.toNatClampNeg).toNatClampNeg) p2) 32) ∧ (∀ M68, M68 = sI (sI (sI (sI (sI M57 29 6 ((mI M57 29 6) &&& (((1 : Int32) <<< (p2 &&& 31)) ^^^ (-1)))) 31 p1.toNatClampNeg (mI M 31 p1.toNatClampNeg)) 32 ((mI M 31 p1.toNatClampNeg).toNatClampNeg) p1) 31 ((mI M 32 p2.toNatClampNeg).toNatClampNeg) p2) 32 p2.toNatClampNeg (mI M 32 p2.toNatClampNeg) → q 0 M68)))))))))) ∧ (¬ r58 = 0 → q 1 M57))))) ∧ ((mI M 32 p2.toNatClampNeg) = (-1) → q 1 (sI (sI (sI M 32 ((mI M 31 p1.toNatClampNeg).toNatClampNeg) (-1)) 31 p1.toNatClampNeg p2) 32 p2.toNatClampNeg p1)))))))))) ∧ (¬ (mI M 32 p2.toNatClampNeg) = (-1) → (mR (sI M 32 ((mI M 31 p1.toNatClampNeg).toNatClampNeg) (-1)) 29 1 = some 31 ∧ (vp_in (mI M 32 p2.toNatClampNeg) (mN (sI M 32 ((mI M 31 p1.toNatClampNeg).toNatClampNeg) (-1)) 31) ∧ (mR (sI (sI M 32 ((mI M 31 p1.toNatClampNeg).toNatClampNeg) (-1)) 31 ((mI M 32 p2.toNatClampNeg).toNatClampNeg) (-1)) 29 1 = some 31 ∧ (vp_in p1 (mN (sI (sI M 32 ((mI M 31 p1.toNatClampNeg).toNatClampNeg) (-1)) 31 ((mI M 32 p2.toNatClampNeg).toNatClampNeg) (-1)) 31) ∧ (mR (sI (sI (sI M 32 ((mI M 31 p1.toNatClampNeg).toNatClampNeg) (-1)) 31 ((mI M 32 p2.toNatClampNeg).toNatClampNeg) (-1)) 31 p1.toNatClampNeg p2) 29 2 = some 32 ∧ (vp_in p2 (mN (sI (sI (sI M 32 ((mI M 31 p1.toNatClampNeg).toNatClampNeg) (-1)) 31 ((mI M 32 p2.toNatClampNeg).toNatClampNeg) (-1)) 31 p1.toNatClampNeg p2) 32) ∧ (((mI M 31 p1.toNatClampNeg) = (-1) → q 1 (sI (sI (sI (sI M 32 ((mI M 31 p1.toNatClampNeg).toNatClampNeg) (-1)) 31 ((mI M 32 p2.toNatClampNeg).toNatClampNeg) (-1)) 31 p1.toNatClampNeg p2) 32 p2.toNatClampNeg p1)) ∧ (¬ (mI M 31 p1.toNatClampNeg) = (-1) → ((¬ (mI M 32 p2.toNatClampNeg) = (-1) → (∀ M77, M77 = sI (sI (sI (sI (sI M 32 ((mI M 31 p1.toNatClampNeg).toNatClampNeg) (-1)) 31 ((mI M 32 p2.toNatClampNeg).toNatClampNeg) (-1)) 31 p1.toNatClampNeg p2) 32 p2.toNatClampNeg p1) 29 6 ((mI (sI (sI (sI (sI M 32 ((mI M 31 p1.toNatClampNeg).toNatClampNeg) (-1)) 31 ((mI M 32 p2.toNatClampNeg).toNatClampNeg) (-1)) 31 p1.toNatClampNeg p2) 32 p2.toNatClampNeg p1) 29 6) ||| ((1 : Int32) <<< (p2 &&& 31))) → K_X5_seatOneMore l [rV (some 29), iV (p1 + 1)] M77 (fun r79 M78 => ((r79 = 0 → (mR (sI M78 29 6 ((mI M78 29 6) &&& (((1 : Int32) <<< (p2 &&& 31)) ^^^ (-1)))) 29 1 = some 31 ∧ (vp_in p1 (mN (sI M78 29 6 ((mI M78 29 6) &&& (((1 : Int32) <<< (p2 &&& 31)) ^^^ (-1)))) 31) ∧ (mR (sI (sI M78 29 6 ((mI M78 29 6) &&& (((1 : Int32) <<< (p2 &&& 31)) ^^^ (-1)))) 31 p1.toNatClampNeg (mI M 31 p1.toNatClampNeg)) 29 2 = some 32 ∧ (vp_in (mI M 31 p1.toNatClampNeg) (mN (sI (sI M78 29 6 ((mI M78 29 6) &&& (((1 : Int32) <<< (p2 &&& 31)) ^^^ (-1)))) 31 p1.toNatClampNeg (mI M 31 p1.toNatClampNeg)) 32) ∧ (mR (sI (sI (sI M78 29 6 ((mI M78 29 6) &&& (((1 : Int32) <<< (p2 &&& 31)) ^^^ (-1)))) 31 p1.toNatClampNeg (mI M 31 p1.toNatClampNeg)) 32 ((mI M 31 p1.toNatClampNeg).toNatClampNeg) p1) 29 1 = some 31 ∧ (vp_in (mI M 32 p2.toNatClampNeg) (mN (sI (sI (sI M78 29 6 ((mI M78 29 6) &&& (((1 : Int32) <<< (p2 &&& 31)) ^^^ (-1)))) 31 p1.toNatClampNeg (mI M 31 p1.toNatClampNeg)) 32 ((mI M 31 p1.toNatClampNeg).toNatClampNeg) p1) 31) ∧ (mR (sI (sI (sI (sI M78 29 6 ((mI M78 29 6) &&& (((1 : Int32) <<< (p2 &&& 31)) ^^^ (-1)))) 31 p1.toNatClampNeg (mI M 31 p1.toNatClampNeg)) 32 ((mI M 31 p1.toNatClampNeg).toNatClampNeg) p1) 31 ((mI M 32 p2.toNatClampNeg).toNatClampNeg) p2) 29 2 = some 32 ∧ (vp_in p2 (mN (sI (sI (sI (sI M78 29 6 ((mI M78 29 6) &&& (((1 : Int32) <<< (p2 &&& 31)) ^^^ (-1)))) 31 p1.toNatClampNeg (mI M 31 p1.toNatClampNeg)) 32 ((mI M 31 p1.toNatClampNeg).toNatClampNeg) p1) 31 ((mI M 32 p2.toNatClampNeg).toNatClampNeg) p2) 32) ∧ (∀ M89, M89 = sI (sI (sI (sI (sI M78 29 6 ((mI M78 29 6) &&& (((1 : Int32) <<< (p2 &&& 31)) ^^^ (-1)))) 31 p1.toNatClampNeg (mI M 31 p1.toNatClampNeg)) 32 ((mI M 31 p1.toNatClampNeg).toNatClampNeg) p1) 31 ((mI M 32 p2.toNatClampNeg).toNatClampNeg) p2) 32 p2.toNatClampNeg (mI M 32 p2.toNatClampNeg) → q 0 M89)))))))))) ∧ (¬ r79 = 0 → q 1 M78))))) ∧ ((mI M 32 p2.toNatClampNeg) = (-1) → q 1 (sI (sI (sI (sI M 32 ((mI M 31 p1.toNatClampNeg).toNatClampNeg) (-1)) 31 ((mI M 32 p2.toNatClampNeg).toNatClampNeg) (-1)) 31 p1.toNatClampNeg p2) 32 p2.toNatClampNeg p1)))))))))))))))))) ∧ ((mI M 31 p1.toNatClampNeg) = p2 → q 1 M))))))) : K_X5_canTake l [rV (some 29), iV p1, iV p2] M q := by
  refine o_ctr (ini := false) (by decide +kernel) rfl (fun z => by cases z) (Nat.le_of_ble_eq_true rfl) ?_
  show E_X5_canTake l q 0 [(0, rV (some 29)), (1, iV p1), (2, iV p2)] [] M 0 0
  refine e_aload_n dX5_canTake_0 rfl rfl ?_
  obtain ⟨o1, h⟩ := h
  refine e_gA flX5_15 rfl rfl o1 dX5_canTake_1 ?_
  refine e_iload_n dX5_canTake_4 rfl rfl ?_
  obtain ⟨o2, h⟩ := h
  refine e_iald rfl o2 dX5_canTake_5 ?_
  refine e_istore_n (lv' := [(3, iV (mI M 31 p1.toNatClampNeg)), (0, rV (some 29)), (1, iV p1), (2, iV p2)]) dX5_canTake_6 rfl (by decide) rfl ?_
  refine e_aload_n dX5_canTake_7 rfl rfl ?_
  obtain ⟨o3, h⟩ := h
  refine e_gA flX5_18 rfl rfl o3 dX5_canTake_8 ?_
  refine e_iload_n dX5_canTake_11 rfl rfl ?_
  obtain ⟨o4, h⟩ := h
  refine e_iald rfl o4 dX5_canTake_12 ?_
  refine e_istore (lv' := [(4, iV (mI M 32 p2.toNatClampNeg)), (3, iV (mI M 31 p1.toNatClampNeg)), (0, rV (some 29)), (1, iV p1), (2, iV p2)]) (by decide) rfl dX5_canTake_13 ?_
  refine e_iload_n dX5_canTake_15 rfl rfl ?_
  refine e_iload_n dX5_canTake_16 rfl rfl ?_
  refine e_ic_ne (tgt := 22) dX5_canTake_17 (by decide) (fun c5 => ?_) (fun c5 => ?_)
  · replace h := h.1 c5
    refine e_iload_n dX5_canTake_22 rfl rfl ?_
    refine e_iconst (v := (-1)) dX5_canTake_23 (by decide) ?_
    refine e_ic_eq (tgt := 34) dX5_canTake_24 (by decide) (fun c6 => ?_) (fun c6 => ?_)
    · replace h := h.1 c6
      refine e_iload rfl dX5_canTake_34 ?_
      refine e_iconst (v := (-1)) dX5_canTake_36 (by decide) ?_
      refine e_ic_eq (tgt := 48) dX5_canTake_37 (by decide) (fun c7 => ?_) (fun c7 => ?_)
      · replace h := h.1 c7
        refine e_aload_n dX5_canTake_48 rfl rfl ?_
        obtain ⟨o8, h⟩ := h
        refine e_gA flX5_15 rfl rfl o8 dX5_canTake_49 ?_
        refine e_iload_n dX5_canTake_52 rfl rfl ?_
        refine e_iload_n dX5_canTake_53 rfl rfl ?_
        obtain ⟨o9, h⟩ := h
        refine e_iast rfl o9 dX5_canTake_54 ?_
        refine e_aload_n dX5_canTake_55 rfl rfl ?_
        obtain ⟨o10, h⟩ := h
        refine e_gA flX5_18 rfl rfl o10 dX5_canTake_56 ?_
        refine e_iload_n dX5_canTake_59 rfl rfl ?_
        refine e_iload_n dX5_canTake_60 rfl rfl ?_
        obtain ⟨o11, h⟩ := h
        refine e_iast rfl o11 dX5_canTake_61 ?_
        refine e_iload_n dX5_canTake_62 rfl rfl ?_
        refine e_iconst (v := (-1)) dX5_canTake_63 (by decide) ?_
        refine e_ic_eq (tgt := 73) dX5_canTake_64 (by decide) (fun c12 => ?_) (fun c12 => ?_)
        · replace h := h.1 c12
          refine e_iconst (v := 1) dX5_canTake_73 (by decide) ?_
          exact e_iret rfl rb_1 dX5_canTake_74 ⟨_, rfl, h⟩
        · replace h := h.2 c12
          refine e_iload rfl dX5_canTake_67 ?_
          refine e_iconst (v := (-1)) dX5_canTake_69 (by decide) ?_
          refine e_ic_ne (tgt := 75) dX5_canTake_70 (by decide) (fun c13 => ?_) (fun c13 => ?_)
          · replace h := h.1 c13
            refine e_aload_n dX5_canTake_75 rfl rfl ?_
            refine e_dup rfl dX5_canTake_76 ?_
            refine e_gI flX5_31 rfl rfl dX5_canTake_77 ?_
            refine e_iconst (v := 1) dX5_canTake_80 (by decide) ?_
            refine e_iload_n dX5_canTake_81 rfl rfl ?_
            refine e_ishl dX5_canTake_82 ?_
            refine e_ior dX5_canTake_83 ?_
            refine e_pI flX5_31 rfl (Or.inl rfl) rfl rfl rfl dX5_canTake_84 ?_
            refine e_aload_n dX5_canTake_87 rfl rfl ?_
            refine e_iload_n dX5_canTake_88 rfl rfl ?_
            refine e_iconst (v := 1) dX5_canTake_89 (by decide) ?_
            refine e_iadd dX5_canTake_90 ?_
            refine e_callV (As := [iV (p1 + 1)]) (st := []) mt_X5_seatOneMore in_X5_seatOneMore lkX5_50 rfl rfl ⟨by decide, by decide⟩ (Nat.le_of_ble_eq_true rfl) ⟨by decide, by decide⟩ rfl rfl dX5_canTake_91 (Ctr.mono h (fun v M14 h => ?_))
            obtain ⟨r15, rfl, h⟩ := h
            show E_X5_canTake l q 94 [(4, iV (mI M 32 p2.toNatClampNeg)), (3, iV (mI M 31 p1.toNatClampNeg)), (0, rV (some 29)), (1, iV p1), (2, iV p2)] [iV r15] M14 0 0
            refine e_if_eq (tgt := 99) dX5_canTake_94 (by decide) (fun c16 => ?_) (fun c16 => ?_)
            · replace h := h.1 c16
              refine e_aload_n dX5_canTake_99 rfl rfl ?_
              refine e_dup rfl dX5_canTake_100 ?_
              refine e_gI flX5_31 rfl rfl dX5_canTake_101 ?_
              refine e_iconst (v := 1) dX5_canTake_104 (by decide) ?_
              refine e_iload_n dX5_canTake_105 rfl rfl ?_
              refine e_ishl dX5_canTake_106 ?_
              refine e_iconst (v := (-1)) dX5_canTake_107 (by decide) ?_
              refine e_ixor dX5_canTake_108 ?_
              refine e_iand dX5_canTake_109 ?_
              refine e_pI flX5_31 rfl (Or.inl rfl) rfl rfl rfl dX5_canTake_110 ?_
              refine e_aload_n dX5_canTake_113 rfl rfl ?_
              obtain ⟨o17, h⟩ := h
              refine e_gA flX5_15 rfl rfl o17 dX5_canTake_114 ?_
              refine e_iload_n dX5_canTake_117 rfl rfl ?_
              refine e_iload_n dX5_canTake_118 rfl rfl ?_
              obtain ⟨o18, h⟩ := h
              refine e_iast rfl o18 dX5_canTake_119 ?_
              refine e_aload_n dX5_canTake_120 rfl rfl ?_
              obtain ⟨o19, h⟩ := h
              refine e_gA flX5_18 rfl rfl o19 dX5_canTake_121 ?_
              refine e_iload_n dX5_canTake_124 rfl rfl ?_
              refine e_iload_n dX5_canTake_125 rfl rfl ?_
              obtain ⟨o20, h⟩ := h
              refine e_iast rfl o20 dX5_canTake_126 ?_
              refine e_aload_n dX5_canTake_127 rfl rfl ?_
              obtain ⟨o21, h⟩ := h
              refine e_gA flX5_15 rfl rfl o21 dX5_canTake_128 ?_
              refine e_iload rfl dX5_canTake_131 ?_
              refine e_iload_n dX5_canTake_133 rfl rfl ?_
              obtain ⟨o22, h⟩ := h
              refine e_iast rfl o22 dX5_canTake_134 ?_
              refine e_aload_n dX5_canTake_135 rfl rfl ?_
              obtain ⟨o23, h⟩ := h
              refine e_gA flX5_18 rfl rfl o23 dX5_canTake_136 ?_
              refine e_iload_n dX5_canTake_139 rfl rfl ?_
              refine e_iload rfl dX5_canTake_140 ?_
              obtain ⟨o24, h⟩ := h
              refine e_iast rfl o24 dX5_canTake_142 ?_
              generalize hgM25 : sI (sI (sI (sI (sI M14 29 6 ((mI M14 29 6) &&& (((1 : Int32) <<< (p2 &&& 31)) ^^^ (-1)))) 31 p1.toNatClampNeg (mI M 31 p1.toNatClampNeg)) 32 ((mI M 31 p1.toNatClampNeg).toNatClampNeg) p1) 31 ((mI M 32 p2.toNatClampNeg).toNatClampNeg) p2) 32 p2.toNatClampNeg (mI M 32 p2.toNatClampNeg) = M25
              replace h := h M25 hgM25.symm
              refine e_iconst (v := 0) dX5_canTake_143 (by decide) ?_
              exact e_iret rfl rb_0 dX5_canTake_144 ⟨_, rfl, h⟩
            · replace h := h.2 c16
              refine e_iconst (v := 1) dX5_canTake_97 (by decide) ?_
              exact e_iret rfl rb_1 dX5_canTake_98 ⟨_, rfl, h⟩
          · replace h := h.2 c13
            refine e_iconst (v := 1) dX5_canTake_73 (by decide) ?_
            exact e_iret rfl rb_1 dX5_canTake_74 ⟨_, rfl, h⟩
      · replace h := h.2 c7
        refine e_aload_n dX5_canTake_40 rfl rfl ?_
        obtain ⟨o26, h⟩ := h
        refine e_gA flX5_15 rfl rfl o26 dX5_canTake_41 ?_
        refine e_iload rfl dX5_canTake_44 ?_
        refine e_iconst (v := (-1)) dX5_canTake_46 (by decide) ?_
        obtain ⟨o27, h⟩ := h
        refine e_iast rfl o27 dX5_canTake_47 ?_
        refine e_aload_n dX5_canTake_48 rfl rfl ?_
        obtain ⟨o28, h⟩ := h
        refine e_gA flX5_15 rfl rfl o28 dX5_canTake_49 ?_
        refine e_iload_n dX5_canTake_52 rfl rfl ?_
        refine e_iload_n dX5_canTake_53 rfl rfl ?_
        obtain ⟨o29, h⟩ := h
        refine e_iast rfl o29 dX5_canTake_54 ?_
        refine e_aload_n dX5_canTake_55 rfl rfl ?_
        obtain ⟨o30, h⟩ := h
        refine e_gA flX5_18 rfl rfl o30 dX5_canTake_56 ?_
        refine e_iload_n dX5_canTake_59 rfl rfl ?_
        refine e_iload_n dX5_canTake_60 rfl rfl ?_
        obtain ⟨o31, h⟩ := h
        refine e_iast rfl o31 dX5_canTake_61 ?_
        refine e_iload_n dX5_canTake_62 rfl rfl ?_
        refine e_iconst (v := (-1)) dX5_canTake_63 (by decide) ?_
        refine e_ic_eq (tgt := 73) dX5_canTake_64 (by decide) (fun c32 => ?_) (fun c32 => ?_)
        · replace h := h.1 c32
          refine e_iconst (v := 1) dX5_canTake_73 (by decide) ?_
          exact e_iret rfl rb_1 dX5_canTake_74 ⟨_, rfl, h⟩
        · replace h := h.2 c32
          refine e_iload rfl dX5_canTake_67 ?_
          refine e_iconst (v := (-1)) dX5_canTake_69 (by decide) ?_
          refine e_ic_ne (tgt := 75) dX5_canTake_70 (by decide) (fun c33 => ?_) (fun c33 => ?_)
          · replace h := h.1 c33
            refine e_aload_n dX5_canTake_75 rfl rfl ?_
            refine e_dup rfl dX5_canTake_76 ?_
            refine e_gI flX5_31 rfl rfl dX5_canTake_77 ?_
            refine e_iconst (v := 1) dX5_canTake_80 (by decide) ?_
            refine e_iload_n dX5_canTake_81 rfl rfl ?_
            refine e_ishl dX5_canTake_82 ?_
            refine e_ior dX5_canTake_83 ?_
            refine e_pI flX5_31 rfl (Or.inl rfl) rfl rfl rfl dX5_canTake_84 ?_
            generalize hgM34 : sI (sI (sI (sI M 31 ((mI M 32 p2.toNatClampNeg).toNatClampNeg) (-1)) 31 p1.toNatClampNeg p2) 32 p2.toNatClampNeg p1) 29 6 ((mI (sI (sI (sI M 31 ((mI M 32 p2.toNatClampNeg).toNatClampNeg) (-1)) 31 p1.toNatClampNeg p2) 32 p2.toNatClampNeg p1) 29 6) ||| ((1 : Int32) <<< (p2 &&& 31))) = M34
            replace h := h M34 hgM34.symm
            refine e_aload_n dX5_canTake_87 rfl rfl ?_
            refine e_iload_n dX5_canTake_88 rfl rfl ?_
            refine e_iconst (v := 1) dX5_canTake_89 (by decide) ?_
            refine e_iadd dX5_canTake_90 ?_
            refine e_callV (As := [iV (p1 + 1)]) (st := []) mt_X5_seatOneMore in_X5_seatOneMore lkX5_50 rfl rfl ⟨by decide, by decide⟩ (Nat.le_of_ble_eq_true rfl) ⟨by decide, by decide⟩ rfl rfl dX5_canTake_91 (Ctr.mono h (fun v M35 h => ?_))
            obtain ⟨r36, rfl, h⟩ := h
            show E_X5_canTake l q 94 [(4, iV (mI M 32 p2.toNatClampNeg)), (3, iV (mI M 31 p1.toNatClampNeg)), (0, rV (some 29)), (1, iV p1), (2, iV p2)] [iV r36] M35 0 0
            refine e_if_eq (tgt := 99) dX5_canTake_94 (by decide) (fun c37 => ?_) (fun c37 => ?_)
            · replace h := h.1 c37
              refine e_aload_n dX5_canTake_99 rfl rfl ?_
              refine e_dup rfl dX5_canTake_100 ?_
              refine e_gI flX5_31 rfl rfl dX5_canTake_101 ?_
              refine e_iconst (v := 1) dX5_canTake_104 (by decide) ?_
              refine e_iload_n dX5_canTake_105 rfl rfl ?_
              refine e_ishl dX5_canTake_106 ?_
              refine e_iconst (v := (-1)) dX5_canTake_107 (by decide) ?_
              refine e_ixor dX5_canTake_108 ?_
              refine e_iand dX5_canTake_109 ?_
              refine e_pI flX5_31 rfl (Or.inl rfl) rfl rfl rfl dX5_canTake_110 ?_
              refine e_aload_n dX5_canTake_113 rfl rfl ?_
              obtain ⟨o38, h⟩ := h
              refine e_gA flX5_15 rfl rfl o38 dX5_canTake_114 ?_
              refine e_iload_n dX5_canTake_117 rfl rfl ?_
              refine e_iload_n dX5_canTake_118 rfl rfl ?_
              obtain ⟨o39, h⟩ := h
              refine e_iast rfl o39 dX5_canTake_119 ?_
              refine e_aload_n dX5_canTake_120 rfl rfl ?_
              obtain ⟨o40, h⟩ := h
              refine e_gA flX5_18 rfl rfl o40 dX5_canTake_121 ?_
              refine e_iload_n dX5_canTake_124 rfl rfl ?_
              refine e_iload_n dX5_canTake_125 rfl rfl ?_
              obtain ⟨o41, h⟩ := h
              refine e_iast rfl o41 dX5_canTake_126 ?_
              refine e_aload_n dX5_canTake_127 rfl rfl ?_
              obtain ⟨o42, h⟩ := h
              refine e_gA flX5_15 rfl rfl o42 dX5_canTake_128 ?_
              refine e_iload rfl dX5_canTake_131 ?_
              refine e_iload_n dX5_canTake_133 rfl rfl ?_
              obtain ⟨o43, h⟩ := h
              refine e_iast rfl o43 dX5_canTake_134 ?_
              refine e_aload_n dX5_canTake_135 rfl rfl ?_
              obtain ⟨o44, h⟩ := h
              refine e_gA flX5_18 rfl rfl o44 dX5_canTake_136 ?_
              refine e_iload_n dX5_canTake_139 rfl rfl ?_
              refine e_iload rfl dX5_canTake_140 ?_
              obtain ⟨o45, h⟩ := h
              refine e_iast rfl o45 dX5_canTake_142 ?_
              generalize hgM46 : sI (sI (sI (sI (sI M35 29 6 ((mI M35 29 6) &&& (((1 : Int32) <<< (p2 &&& 31)) ^^^ (-1)))) 31 p1.toNatClampNeg (mI M 31 p1.toNatClampNeg)) 32 ((mI M 31 p1.toNatClampNeg).toNatClampNeg) p1) 31 ((mI M 32 p2.toNatClampNeg).toNatClampNeg) p2) 32 p2.toNatClampNeg (mI M 32 p2.toNatClampNeg) = M46
              replace h := h M46 hgM46.symm
              refine e_iconst (v := 0) dX5_canTake_143 (by decide) ?_
              exact e_iret rfl rb_0 dX5_canTake_144 ⟨_, rfl, h⟩
            · replace h := h.2 c37
              refine e_iconst (v := 1) dX5_canTake_97 (by decide) ?_
              exact e_iret rfl rb_1 dX5_canTake_98 ⟨_, rfl, h⟩
          · replace h := h.2 c33
            refine e_iconst (v := 1) dX5_canTake_73 (by decide) ?_
            exact e_iret rfl rb_1 dX5_canTake_74 ⟨_, rfl, h⟩
    · replace h := h.2 c6
      refine e_aload_n dX5_canTake_27 rfl rfl ?_
      obtain ⟨o47, h⟩ := h
      refine e_gA flX5_18 rfl rfl o47 dX5_canTake_28 ?_
      refine e_iload_n dX5_canTake_31 rfl rfl ?_
      refine e_iconst (v := (-1)) dX5_canTake_32 (by decide) ?_
      obtain ⟨o48, h⟩ := h
      refine e_iast rfl o48 dX5_canTake_33 ?_
      refine e_iload rfl dX5_canTake_34 ?_
      refine e_iconst (v := (-1)) dX5_canTake_36 (by decide) ?_
      refine e_ic_eq (tgt := 48) dX5_canTake_37 (by decide) (fun c49 => ?_) (fun c49 => ?_)
      · replace h := h.1 c49
        refine e_aload_n dX5_canTake_48 rfl rfl ?_
        obtain ⟨o50, h⟩ := h
        refine e_gA flX5_15 rfl rfl o50 dX5_canTake_49 ?_
        refine e_iload_n dX5_canTake_52 rfl rfl ?_
        refine e_iload_n dX5_canTake_53 rfl rfl ?_
        obtain ⟨o51, h⟩ := h
        refine e_iast rfl o51 dX5_canTake_54 ?_
        refine e_aload_n dX5_canTake_55 rfl rfl ?_
        obtain ⟨o52, h⟩ := h
        refine e_gA flX5_18 rfl rfl o52 dX5_canTake_56 ?_
        refine e_iload_n dX5_canTake_59 rfl rfl ?_
        refine e_iload_n dX5_canTake_60 rfl rfl ?_
        obtain ⟨o53, h⟩ := h
        refine e_iast rfl o53 dX5_canTake_61 ?_
        refine e_iload_n dX5_canTake_62 rfl rfl ?_
        refine e_iconst (v := (-1)) dX5_canTake_63 (by decide) ?_
        refine e_ic_eq (tgt := 73) dX5_canTake_64 (by decide) (fun c54 => ?_) (fun c54 => ?_)
        · replace h := h.1 c54
          refine e_iconst (v := 1) dX5_canTake_73 (by decide) ?_
          exact e_iret rfl rb_1 dX5_canTake_74 ⟨_, rfl, h⟩
        · replace h := h.2 c54
          refine e_iload rfl dX5_canTake_67 ?_
          refine e_iconst (v := (-1)) dX5_canTake_69 (by decide) ?_
          refine e_ic_ne (tgt := 75) dX5_canTake_70 (by decide) (fun c55 => ?_) (fun c55 => ?_)
          · replace h := h.1 c55
            refine e_aload_n dX5_canTake_75 rfl rfl ?_
            refine e_dup rfl dX5_canTake_76 ?_
            refine e_gI flX5_31 rfl rfl dX5_canTake_77 ?_
            refine e_iconst (v := 1) dX5_canTake_80 (by decide) ?_
            refine e_iload_n dX5_canTake_81 rfl rfl ?_
            refine e_ishl dX5_canTake_82 ?_
            refine e_ior dX5_canTake_83 ?_
            refine e_pI flX5_31 rfl (Or.inl rfl) rfl rfl rfl dX5_canTake_84 ?_
            generalize hgM56 : sI (sI (sI (sI M 32 ((mI M 31 p1.toNatClampNeg).toNatClampNeg) (-1)) 31 p1.toNatClampNeg p2) 32 p2.toNatClampNeg p1) 29 6 ((mI (sI (sI (sI M 32 ((mI M 31 p1.toNatClampNeg).toNatClampNeg) (-1)) 31 p1.toNatClampNeg p2) 32 p2.toNatClampNeg p1) 29 6) ||| ((1 : Int32) <<< (p2 &&& 31))) = M56
            replace h := h M56 hgM56.symm
            refine e_aload_n dX5_canTake_87 rfl rfl ?_
            refine e_iload_n dX5_canTake_88 rfl rfl ?_
            refine e_iconst (v := 1) dX5_canTake_89 (by decide) ?_
            refine e_iadd dX5_canTake_90 ?_
            refine e_callV (As := [iV (p1 + 1)]) (st := []) mt_X5_seatOneMore in_X5_seatOneMore lkX5_50 rfl rfl ⟨by decide, by decide⟩ (Nat.le_of_ble_eq_true rfl) ⟨by decide, by decide⟩ rfl rfl dX5_canTake_91 (Ctr.mono h (fun v M57 h => ?_))
            obtain ⟨r58, rfl, h⟩ := h
            show E_X5_canTake l q 94 [(4, iV (mI M 32 p2.toNatClampNeg)), (3, iV (mI M 31 p1.toNatClampNeg)), (0, rV (some 29)), (1, iV p1), (2, iV p2)] [iV r58] M57 0 0
            refine e_if_eq (tgt := 99) dX5_canTake_94 (by decide) (fun c59 => ?_) (fun c59 => ?_)
            · replace h := h.1 c59
              refine e_aload_n dX5_canTake_99 rfl rfl ?_
              refine e_dup rfl dX5_canTake_100 ?_
              refine e_gI flX5_31 rfl rfl dX5_canTake_101 ?_
              refine e_iconst (v := 1) dX5_canTake_104 (by decide) ?_
              refine e_iload_n dX5_canTake_105 rfl rfl ?_
              refine e_ishl dX5_canTake_106 ?_
              refine e_iconst (v := (-1)) dX5_canTake_107 (by decide) ?_
              refine e_ixor dX5_canTake_108 ?_
              refine e_iand dX5_canTake_109 ?_
              refine e_pI flX5_31 rfl (Or.inl rfl) rfl rfl rfl dX5_canTake_110 ?_
              refine e_aload_n dX5_canTake_113 rfl rfl ?_
              obtain ⟨o60, h⟩ := h
              refine e_gA flX5_15 rfl rfl o60 dX5_canTake_114 ?_
              refine e_iload_n dX5_canTake_117 rfl rfl ?_
              refine e_iload_n dX5_canTake_118 rfl rfl ?_
              obtain ⟨o61, h⟩ := h
              refine e_iast rfl o61 dX5_canTake_119 ?_
              refine e_aload_n dX5_canTake_120 rfl rfl ?_
              obtain ⟨o62, h⟩ := h
              refine e_gA flX5_18 rfl rfl o62 dX5_canTake_121 ?_
              refine e_iload_n dX5_canTake_124 rfl rfl ?_
              refine e_iload_n dX5_canTake_125 rfl rfl ?_
              obtain ⟨o63, h⟩ := h
              refine e_iast rfl o63 dX5_canTake_126 ?_
              refine e_aload_n dX5_canTake_127 rfl rfl ?_
              obtain ⟨o64, h⟩ := h
              refine e_gA flX5_15 rfl rfl o64 dX5_canTake_128 ?_
              refine e_iload rfl dX5_canTake_131 ?_
              refine e_iload_n dX5_canTake_133 rfl rfl ?_
              obtain ⟨o65, h⟩ := h
              refine e_iast rfl o65 dX5_canTake_134 ?_
              refine e_aload_n dX5_canTake_135 rfl rfl ?_
              obtain ⟨o66, h⟩ := h
              refine e_gA flX5_18 rfl rfl o66 dX5_canTake_136 ?_
              refine e_iload_n dX5_canTake_139 rfl rfl ?_
              refine e_iload rfl dX5_canTake_140 ?_
              obtain ⟨o67, h⟩ := h
              refine e_iast rfl o67 dX5_canTake_142 ?_
              generalize hgM68 : sI (sI (sI (sI (sI M57 29 6 ((mI M57 29 6) &&& (((1 : Int32) <<< (p2 &&& 31)) ^^^ (-1)))) 31 p1.toNatClampNeg (mI M 31 p1.toNatClampNeg)) 32 ((mI M 31 p1.toNatClampNeg).toNatClampNeg) p1) 31 ((mI M 32 p2.toNatClampNeg).toNatClampNeg) p2) 32 p2.toNatClampNeg (mI M 32 p2.toNatClampNeg) = M68
              replace h := h M68 hgM68.symm
              refine e_iconst (v := 0) dX5_canTake_143 (by decide) ?_
              exact e_iret rfl rb_0 dX5_canTake_144 ⟨_, rfl, h⟩
            · replace h := h.2 c59
              refine e_iconst (v := 1) dX5_canTake_97 (by decide) ?_
              exact e_iret rfl rb_1 dX5_canTake_98 ⟨_, rfl, h⟩
          · replace h := h.2 c55
            refine e_iconst (v := 1) dX5_canTake_73 (by decide) ?_
            exact e_iret rfl rb_1 dX5_canTake_74 ⟨_, rfl, h⟩
      · replace h := h.2 c49
        refine e_aload_n dX5_canTake_40 rfl rfl ?_
        obtain ⟨o69, h⟩ := h
        refine e_gA flX5_15 rfl rfl o69 dX5_canTake_41 ?_
        refine e_iload rfl dX5_canTake_44 ?_
        refine e_iconst (v := (-1)) dX5_canTake_46 (by decide) ?_
        obtain ⟨o70, h⟩ := h
        refine e_iast rfl o70 dX5_canTake_47 ?_
        refine e_aload_n dX5_canTake_48 rfl rfl ?_
        obtain ⟨o71, h⟩ := h
        refine e_gA flX5_15 rfl rfl o71 dX5_canTake_49 ?_
        refine e_iload_n dX5_canTake_52 rfl rfl ?_
        refine e_iload_n dX5_canTake_53 rfl rfl ?_
        obtain ⟨o72, h⟩ := h
        refine e_iast rfl o72 dX5_canTake_54 ?_
        refine e_aload_n dX5_canTake_55 rfl rfl ?_
        obtain ⟨o73, h⟩ := h
        refine e_gA flX5_18 rfl rfl o73 dX5_canTake_56 ?_
        refine e_iload_n dX5_canTake_59 rfl rfl ?_
        refine e_iload_n dX5_canTake_60 rfl rfl ?_
        obtain ⟨o74, h⟩ := h
        refine e_iast rfl o74 dX5_canTake_61 ?_
        refine e_iload_n dX5_canTake_62 rfl rfl ?_
        refine e_iconst (v := (-1)) dX5_canTake_63 (by decide) ?_
        refine e_ic_eq (tgt := 73) dX5_canTake_64 (by decide) (fun c75 => ?_) (fun c75 => ?_)
        · replace h := h.1 c75
          refine e_iconst (v := 1) dX5_canTake_73 (by decide) ?_
          exact e_iret rfl rb_1 dX5_canTake_74 ⟨_, rfl, h⟩
        · replace h := h.2 c75
          refine e_iload rfl dX5_canTake_67 ?_
          refine e_iconst (v := (-1)) dX5_canTake_69 (by decide) ?_
          refine e_ic_ne (tgt := 75) dX5_canTake_70 (by decide) (fun c76 => ?_) (fun c76 => ?_)
          · replace h := h.1 c76
            refine e_aload_n dX5_canTake_75 rfl rfl ?_
            refine e_dup rfl dX5_canTake_76 ?_
            refine e_gI flX5_31 rfl rfl dX5_canTake_77 ?_
            refine e_iconst (v := 1) dX5_canTake_80 (by decide) ?_
            refine e_iload_n dX5_canTake_81 rfl rfl ?_
            refine e_ishl dX5_canTake_82 ?_
            refine e_ior dX5_canTake_83 ?_
            refine e_pI flX5_31 rfl (Or.inl rfl) rfl rfl rfl dX5_canTake_84 ?_
            generalize hgM77 : sI (sI (sI (sI (sI M 32 ((mI M 31 p1.toNatClampNeg).toNatClampNeg) (-1)) 31 ((mI M 32 p2.toNatClampNeg).toNatClampNeg) (-1)) 31 p1.toNatClampNeg p2) 32 p2.toNatClampNeg p1) 29 6 ((mI (sI (sI (sI (sI M 32 ((mI M 31 p1.toNatClampNeg).toNatClampNeg) (-1)) 31 ((mI M 32 p2.toNatClampNeg).toNatClampNeg) (-1)) 31 p1.toNatClampNeg p2) 32 p2.toNatClampNeg p1) 29 6) ||| ((1 : Int32) <<< (p2 &&& 31))) = M77
            replace h := h M77 hgM77.symm
            refine e_aload_n dX5_canTake_87 rfl rfl ?_
            refine e_iload_n dX5_canTake_88 rfl rfl ?_
            refine e_iconst (v := 1) dX5_canTake_89 (by decide) ?_
            refine e_iadd dX5_canTake_90 ?_
            refine e_callV (As := [iV (p1 + 1)]) (st := []) mt_X5_seatOneMore in_X5_seatOneMore lkX5_50 rfl rfl ⟨by decide, by decide⟩ (Nat.le_of_ble_eq_true rfl) ⟨by decide, by decide⟩ rfl rfl dX5_canTake_91 (Ctr.mono h (fun v M78 h => ?_))
            obtain ⟨r79, rfl, h⟩ := h
            show E_X5_canTake l q 94 [(4, iV (mI M 32 p2.toNatClampNeg)), (3, iV (mI M 31 p1.toNatClampNeg)), (0, rV (some 29)), (1, iV p1), (2, iV p2)] [iV r79] M78 0 0
            refine e_if_eq (tgt := 99) dX5_canTake_94 (by decide) (fun c80 => ?_) (fun c80 => ?_)
            · replace h := h.1 c80
              refine e_aload_n dX5_canTake_99 rfl rfl ?_
              refine e_dup rfl dX5_canTake_100 ?_
              refine e_gI flX5_31 rfl rfl dX5_canTake_101 ?_
              refine e_iconst (v := 1) dX5_canTake_104 (by decide) ?_
              refine e_iload_n dX5_canTake_105 rfl rfl ?_
              refine e_ishl dX5_canTake_106 ?_
              refine e_iconst (v := (-1)) dX5_canTake_107 (by decide) ?_
              refine e_ixor dX5_canTake_108 ?_
              refine e_iand dX5_canTake_109 ?_
              refine e_pI flX5_31 rfl (Or.inl rfl) rfl rfl rfl dX5_canTake_110 ?_
              refine e_aload_n dX5_canTake_113 rfl rfl ?_
              obtain ⟨o81, h⟩ := h
              refine e_gA flX5_15 rfl rfl o81 dX5_canTake_114 ?_
              refine e_iload_n dX5_canTake_117 rfl rfl ?_
              refine e_iload_n dX5_canTake_118 rfl rfl ?_
              obtain ⟨o82, h⟩ := h
              refine e_iast rfl o82 dX5_canTake_119 ?_
              refine e_aload_n dX5_canTake_120 rfl rfl ?_
              obtain ⟨o83, h⟩ := h
              refine e_gA flX5_18 rfl rfl o83 dX5_canTake_121 ?_
              refine e_iload_n dX5_canTake_124 rfl rfl ?_
              refine e_iload_n dX5_canTake_125 rfl rfl ?_
              obtain ⟨o84, h⟩ := h
              refine e_iast rfl o84 dX5_canTake_126 ?_
              refine e_aload_n dX5_canTake_127 rfl rfl ?_
              obtain ⟨o85, h⟩ := h
              refine e_gA flX5_15 rfl rfl o85 dX5_canTake_128 ?_
              refine e_iload rfl dX5_canTake_131 ?_
              refine e_iload_n dX5_canTake_133 rfl rfl ?_
              obtain ⟨o86, h⟩ := h
              refine e_iast rfl o86 dX5_canTake_134 ?_
              refine e_aload_n dX5_canTake_135 rfl rfl ?_
              obtain ⟨o87, h⟩ := h
              refine e_gA flX5_18 rfl rfl o87 dX5_canTake_136 ?_
              refine e_iload_n dX5_canTake_139 rfl rfl ?_
              refine e_iload rfl dX5_canTake_140 ?_
              obtain ⟨o88, h⟩ := h
              refine e_iast rfl o88 dX5_canTake_142 ?_
              generalize hgM89 : sI (sI (sI (sI (sI M78 29 6 ((mI M78 29 6) &&& (((1 : Int32) <<< (p2 &&& 31)) ^^^ (-1)))) 31 p1.toNatClampNeg (mI M 31 p1.toNatClampNeg)) 32 ((mI M 31 p1.toNatClampNeg).toNatClampNeg) p1) 31 ((mI M 32 p2.toNatClampNeg).toNatClampNeg) p2) 32 p2.toNatClampNeg (mI M 32 p2.toNatClampNeg) = M89
              replace h := h M89 hgM89.symm
              refine e_iconst (v := 0) dX5_canTake_143 (by decide) ?_
              exact e_iret rfl rb_0 dX5_canTake_144 ⟨_, rfl, h⟩
            · replace h := h.2 c80
              refine e_iconst (v := 1) dX5_canTake_97 (by decide) ?_
              exact e_iret rfl rb_1 dX5_canTake_98 ⟨_, rfl, h⟩
          · replace h := h.2 c76
            refine e_iconst (v := 1) dX5_canTake_73 (by decide) ?_
            exact e_iret rfl rb_1 dX5_canTake_74 ⟨_, rfl, h⟩
  · replace h := h.2 c5
    refine e_iconst (v := 1) dX5_canTake_20 (by decide) ?_
    exact e_iret rfl rb_1 dX5_canTake_21 ⟨_, rfl, h⟩
abbrev H_X6_chairsWith_4 (l : Launch) (q : Int32 → o_M → Prop) (a0 : Nat) (a1 : Nat) (v2 : Int32) (v3 : Int32) (M : o_M) : Prop := E_X6_chairsWith l q 4 [(0, rV (some a0)), (1, rV (some a1)), (2, iV v2), (3, iV v3)] [] M 0 0
theorem w_X6_chairsWith (l : Launch) (a0 : Nat) (a1 : Nat) (t0 : o_ty a0 = .inl 6) (t1 : o_ty a1 = .inl 10) (M : o_M) (q : Int32 → o_M → Prop) (h : H_X6_chairsWith_4 l q a0 a1 0 0 M) : K_X6_chairsWith l [rV (some a0), rV (some a1)] M q := by
  refine o_ctr (ini := false) (by decide +kernel) rfl (fun z => by cases z) (Nat.le_of_ble_eq_true rfl) ?_
  show E_X6_chairsWith l q 0 [(0, rV (some a0)), (1, rV (some a1))] [] M 0 0
  refine e_iconst (v := 0) dX6_chairsWith_0 (by decide) ?_
  refine e_istore_n (lv' := [(2, iV 0), (0, rV (some a0)), (1, rV (some a1))]) dX6_chairsWith_1 rfl (by decide) rfl ?_
  refine e_iconst (v := 0) dX6_chairsWith_2 (by decide) ?_
  refine e_istore_n (lv' := [(3, iV 0), (2, iV 0), (0, rV (some a0)), (1, rV (some a1))]) dX6_chairsWith_3 rfl (by decide) rfl ?_
  exact e_lv (List.forall_mem_cons.mpr ⟨rfl, List.forall_mem_cons.mpr ⟨rfl, List.forall_mem_cons.mpr ⟨rfl, List.forall_mem_cons.mpr ⟨rfl, fun _ h => absurd h List.not_mem_nil⟩⟩⟩⟩) h
theorem w_X6_chairsWith_4 (l : Launch) (q : Int32 → o_M → Prop) (a0 : Nat) (a1 : Nat) (t0 : o_ty a0 = .inl 6) (t1 : o_ty a1 = .inl 10) (v2 : Int32) (v3 : Int32) (M : o_M) (h : ((6 ≤ v3 → q v2 M) ∧ (¬ 6 ≤ v3 → K_X6_needWith l [rV (some a0), rV (some a1), iV v3] M (fun r3 M2 => H_X6_chairsWith_4 l q a0 a1 (v2 + r3) (v3 + 1) M2)))) : H_X6_chairsWith_4 l q a0 a1 v2 v3 M := by
  refine e_iload_n dX6_chairsWith_4 rfl rfl ?_
  refine e_bipush (v := 6) dX6_chairsWith_5 (by decide) ?_
  refine e_ic_ge (tgt := 25) dX6_chairsWith_7 (by decide) (fun c1 => ?_) (fun c1 => ?_)
  · replace h := h.1 c1
    refine e_iload_n dX6_chairsWith_25 rfl rfl ?_
    exact e_iret rfl trivial dX6_chairsWith_26 ⟨_, rfl, h⟩
  · replace h := h.2 c1
    refine e_iload_n dX6_chairsWith_10 rfl rfl ?_
    refine e_aload_n dX6_chairsWith_11 rfl rfl ?_
    refine e_aload_n dX6_chairsWith_12 rfl rfl ?_
    refine e_iload_n dX6_chairsWith_13 rfl rfl ?_
    refine e_callV (As := [rV (some a1), iV v3]) (st := [iV v2]) mt_X6_needWith in_X6_needWith lkX6_79 rfl t0 ⟨by decide, by decide⟩ (Nat.le_of_ble_eq_true rfl) ⟨by decide, by decide⟩ rfl rfl dX6_chairsWith_14 (Ctr.mono h (fun v M2 h => ?_))
    obtain ⟨r3, rfl, h⟩ := h
    show E_X6_chairsWith l q 17 [(0, rV (some a0)), (1, rV (some a1)), (2, iV v2), (3, iV v3)] [iV r3, iV v2] M2 0 0
    refine e_iadd dX6_chairsWith_17 ?_
    refine e_istore_n (lv' := [(2, iV (v2 + r3)), (0, rV (some a0)), (1, rV (some a1)), (3, iV v3)]) dX6_chairsWith_18 rfl (by decide) rfl ?_
    refine e_iinc (v := 1) (lv' := [(3, iV (v3 + 1)), (2, iV (v2 + r3)), (0, rV (some a0)), (1, rV (some a1))]) rfl (by decide) (by decide) rfl dX6_chairsWith_19 ?_
    refine e_goto (tgt := 4) dX6_chairsWith_22 (by decide) ?_
    exact e_lv (List.forall_mem_cons.mpr ⟨rfl, List.forall_mem_cons.mpr ⟨rfl, List.forall_mem_cons.mpr ⟨rfl, List.forall_mem_cons.mpr ⟨rfl, fun _ h => absurd h List.not_mem_nil⟩⟩⟩⟩) h
theorem w_X6_meets (l : Launch) (a0 : Nat) (a1 : Nat) (t0 : o_ty a0 = .inl 6) (t1 : o_ty a1 = .inl 6) (M : o_M) (q : Int32 → o_M → Prop) (h : K_X6_ends l [rV (some a0)] M (fun r2 M1 => K_X6_begins l [rV (some a1)] M1 (fun r4 M3 => ((r2 ≤ r4 → q 0 M3) ∧ (¬ r2 ≤ r4 → K_X6_ends l [rV (some a1)] M3 (fun r7 M6 => K_X6_begins l [rV (some a0)] M6 (fun r9 M8 => ((r7 ≤ r9 → q 0 M8) ∧ (¬ r7 ≤ r9 → q 1 M8))))))))) : K_X6_meets l [rV (some a0), rV (some a1)] M q := by
  refine o_ctr (ini := false) (by decide +kernel) rfl (fun z => by cases z) (Nat.le_of_ble_eq_true rfl) ?_
  show E_X6_meets l q 0 [(0, rV (some a0)), (1, rV (some a1))] [] M 0 0
  refine e_aload_n dX6_meets_0 rfl rfl ?_
  refine e_callV (As := []) (st := []) mt_X6_ends in_X6_ends lkX6_54 rfl t0 ⟨by decide, by decide⟩ (Nat.le_of_ble_eq_true rfl) ⟨by decide, by decide⟩ rfl rfl dX6_meets_1 (Ctr.mono h (fun v M1 h => ?_))
  obtain ⟨r2, rfl, h⟩ := h
  show E_X6_meets l q 4 [(0, rV (some a0)), (1, rV (some a1))] [iV r2] M1 0 0
  refine e_aload_n dX6_meets_4 rfl rfl ?_
  refine e_callV (As := []) (st := [iV r2]) mt_X6_begins in_X6_begins lkX6_50 rfl t1 ⟨by decide, by decide⟩ (Nat.le_of_ble_eq_true rfl) ⟨by decide, by decide⟩ rfl rfl dX6_meets_5 (Ctr.mono h (fun v M3 h => ?_))
  obtain ⟨r4, rfl, h⟩ := h
  show E_X6_meets l q 8 [(0, rV (some a0)), (1, rV (some a1))] [iV r4, iV r2] M3 0 0
  refine e_ic_le (tgt := 26) dX6_meets_8 (by decide) (fun c5 => ?_) (fun c5 => ?_)
  · replace h := h.1 c5
    refine e_iconst (v := 0) dX6_meets_26 (by decide) ?_
    exact e_iret rfl rb_0 dX6_meets_27 ⟨_, rfl, h⟩
  · replace h := h.2 c5
    refine e_aload_n dX6_meets_11 rfl rfl ?_
    refine e_callV (As := []) (st := []) mt_X6_ends in_X6_ends lkX6_54 rfl t1 ⟨by decide, by decide⟩ (Nat.le_of_ble_eq_true rfl) ⟨by decide, by decide⟩ rfl rfl dX6_meets_12 (Ctr.mono h (fun v M6 h => ?_))
    obtain ⟨r7, rfl, h⟩ := h
    show E_X6_meets l q 15 [(0, rV (some a0)), (1, rV (some a1))] [iV r7] M6 0 0
    refine e_aload_n dX6_meets_15 rfl rfl ?_
    refine e_callV (As := []) (st := [iV r7]) mt_X6_begins in_X6_begins lkX6_50 rfl t0 ⟨by decide, by decide⟩ (Nat.le_of_ble_eq_true rfl) ⟨by decide, by decide⟩ rfl rfl dX6_meets_16 (Ctr.mono h (fun v M8 h => ?_))
    obtain ⟨r9, rfl, h⟩ := h
    show E_X6_meets l q 19 [(0, rV (some a0)), (1, rV (some a1))] [iV r9, iV r7] M8 0 0
    refine e_ic_le (tgt := 26) dX6_meets_19 (by decide) (fun c10 => ?_) (fun c10 => ?_)
    · replace h := h.1 c10
      refine e_iconst (v := 0) dX6_meets_26 (by decide) ?_
      exact e_iret rfl rb_0 dX6_meets_27 ⟨_, rfl, h⟩
    · replace h := h.2 c10
      refine e_iconst (v := 1) dX6_meets_22 (by decide) ?_
      refine e_goto (tgt := 27) dX6_meets_23 (by decide) ?_
      exact e_iret rfl rb_1 dX6_meets_27 ⟨_, rfl, h⟩
theorem w_X11_findDue (l : Launch) (a1 : Nat) (p2 : Int32) (p3 : Int32) (t1 : o_ty a1 = .inl 6) (M : o_M) (q : Int64 → o_M → Prop) (h : (mR M 16 3 = some 20 ∧ K_X11_findInForce l [rV (some 16), iV (mI M a1 1)] M (fun r3 M2 => (vp_in r3 (mN M2 20) ∧ (∃ b5, mR M2 20 r3.toNatClampNeg = some b5 ∧ o_ty b5 = .inl 7 ∧ K_X6_instrumentOf l [rV (some a1), iV p2] M2 (fun r9 M8 => K_X11_learn l [rV (some 16), rV (some a1), iV p2, iV r9] M8 (fun M10 => (mR M10 16 7 = some 26 ∧ K_X4_reckon l [rV (some 26), rV (some b5), iV ((mI M10 b5 3) + p3)] M10 (fun r13 M12 => ((((mI M12 a1 0) < 3 ∨ 5 < (mI M12 a1 0)) → q r13 M12) ∧ ((mI M12 a1 0) = 3 → ((¬ p3 = 0 → q (r13 + ((5 : Int32).toInt64)) M12) ∧ (p3 = 0 → q (r13 + ((2 : Int32).toInt64)) M12))) ∧ ((mI M12 a1 0) = 4 → ((¬ p3 = 0 → q (r13 / 2) M12) ∧ (p3 = 0 → q r13 M12))) ∧ ((mI M12 a1 0) = 5 → q (2 * r13) M12))))))))))) : K_X11_findDue l [rV (some 16), rV (some a1), iV p2, iV p3] M q := by
  refine o_ctr (ini := false) (by decide +kernel) rfl (fun z => by cases z) (Nat.le_of_ble_eq_true rfl) ?_
  show E_X11_findDue l q 0 [(0, rV (some 16)), (1, rV (some a1)), (2, iV p2), (3, iV p3)] [] M 0 0
  refine e_aload_n dX11_findDue_0 rfl rfl ?_
  obtain ⟨o1, h⟩ := h
  refine e_gA flX11_29 rfl rfl o1 dX11_findDue_1 ?_
  refine e_aload_n dX11_findDue_4 rfl rfl ?_
  refine e_aload_n dX11_findDue_5 rfl rfl ?_
  refine e_gI flX11_221 t1 rfl dX11_findDue_6 ?_
  refine e_callV (As := [iV (mI M a1 1)]) (st := [rV (some 20)]) mt_X11_findInForce in_X11_findInForce lkX11_238 rfl rfl ⟨by decide, by decide⟩ (Nat.le_of_ble_eq_true rfl) ⟨by decide, by decide⟩ rfl rfl dX11_findDue_9 (Ctr.mono h (fun v M2 h => ?_))
  obtain ⟨r3, rfl, h⟩ := h
  show E_X11_findDue l q 12 [(0, rV (some 16)), (1, rV (some a1)), (2, iV p2), (3, iV p3)] [iV r3, rV (some 20)] M2 0 0
  obtain ⟨o4, h⟩ := h
  obtain ⟨b5, o6, o7, h⟩ := h
  refine e_aaldS rfl o4 o6 dX11_findDue_12 ?_
  refine e_astore (lv' := [(4, rV (some b5)), (0, rV (some 16)), (1, rV (some a1)), (2, iV p2), (3, iV p3)]) (by decide) rfl dX11_findDue_13 ?_
  refine e_aload_n dX11_findDue_15 rfl rfl ?_
  refine e_aload_n dX11_findDue_16 rfl rfl ?_
  refine e_iload_n dX11_findDue_17 rfl rfl ?_
  refine e_aload_n dX11_findDue_18 rfl rfl ?_
  refine e_iload_n dX11_findDue_19 rfl rfl ?_
  refine e_callV (As := [iV p2]) (st := [iV p2, rV (some a1), rV (some 16)]) mt_X6_instrumentOf in_X6_instrumentOf lkX11_440 rfl t1 ⟨by decide, by decide⟩ (Nat.le_of_ble_eq_true rfl) ⟨by decide, by decide⟩ rfl rfl dX11_findDue_20 (Ctr.mono h (fun v M8 h => ?_))
  obtain ⟨r9, rfl, h⟩ := h
  show E_X11_findDue l q 23 [(4, rV (some b5)), (0, rV (some 16)), (1, rV (some a1)), (2, iV p2), (3, iV p3)] [iV r9, iV p2, rV (some a1), rV (some 16)] M8 0 0
  refine e_callV (As := [rV (some a1), iV p2, iV r9]) (st := []) mt_X11_learn in_X11_learn lkX11_250 rfl rfl ⟨by decide, by decide⟩ (Nat.le_of_ble_eq_true rfl) ⟨by decide, by decide⟩ rfl rfl dX11_findDue_23 (Ctr.mono h (fun v M10 h => ?_))
  obtain ⟨rfl, h⟩ := h
  show E_X11_findDue l q 26 [(4, rV (some b5)), (0, rV (some 16)), (1, rV (some a1)), (2, iV p2), (3, iV p3)] [] M10 0 0
  refine e_aload_n dX11_findDue_26 rfl rfl ?_
  obtain ⟨o11, h⟩ := h
  refine e_gA flX11_53 rfl rfl o11 dX11_findDue_27 ?_
  refine e_aload rfl dX11_findDue_30 ?_
  refine e_aload rfl dX11_findDue_32 ?_
  refine e_gI flX11_247 o7 rfl dX11_findDue_34 ?_
  refine e_iload_n dX11_findDue_37 rfl rfl ?_
  refine e_iadd dX11_findDue_38 ?_
  refine e_callV (As := [rV (some b5), iV ((mI M10 b5 3) + p3)]) (st := []) mt_X4_reckon in_X4_reckon lkX11_254 rfl rfl ⟨by decide, by decide⟩ (Nat.le_of_ble_eq_true rfl) ⟨by decide, by decide⟩ rfl rfl dX11_findDue_39 (Ctr.mono h (fun v M12 h => ?_))
  obtain ⟨r13, rfl, h⟩ := h
  show E_X11_findDue l q 42 [(4, rV (some b5)), (0, rV (some 16)), (1, rV (some a1)), (2, iV p2), (3, iV p3)] [jV r13] M12 0 0
  refine e_lstore (lv' := [(5, jV r13), (4, rV (some b5)), (0, rV (some 16)), (1, rV (some a1)), (2, iV p2), (3, iV p3)]) (by decide) rfl dX11_findDue_42 ?_
  refine e_aload_n dX11_findDue_44 rfl rfl ?_
  refine e_gI flX11_218 t1 rfl dX11_findDue_45 ?_
  rcases o_tab (mI M12 a1 0) 3 5 (a := 3) (b := 5) (by decide) (by decide) with c14 | c14
  · replace h := h.1 c14
    refine e_tabOut (tgt := 113) dX11_findDue_48 (o_tabo (by decide) (by decide) c14) (by decide) ?_
    refine e_lload rfl dX11_findDue_113 ?_
    exact e_lret rfl trivial dX11_findDue_115 ⟨_, rfl, h⟩
  · have h0 := h.2
    have e1 : (mI M12 a1 0).toInt = 3 ∨ (mI M12 a1 0).toInt = 4 ∨ (mI M12 a1 0).toInt = 5 := by omega
    clear h; rcases e1 with e1 | e1 | e1
    · have h := h0.1 (Int32.toInt_inj.mp e1)
      refine e_tabIn (tgt := 83) (off := 35) dX11_findDue_48 (by rw [e1]; decide) (by rw [e1]; decide) (by rw [e1]; rfl) (by decide) ?_
      refine e_lload rfl dX11_findDue_83 ?_
      refine e_iload_n dX11_findDue_85 rfl rfl ?_
      refine e_if_ne (tgt := 93) dX11_findDue_86 (by decide) (fun c15 => ?_) (fun c15 => ?_)
      · replace h := h.1 c15
        refine e_iconst (v := 5) dX11_findDue_93 (by decide) ?_
        refine e_i2l dX11_findDue_94 ?_
        refine e_ladd dX11_findDue_95 ?_
        exact e_lret rfl trivial dX11_findDue_96 ⟨_, rfl, h⟩
      · replace h := h.2 c15
        refine e_iconst (v := 2) dX11_findDue_89 (by decide) ?_
        refine e_goto (tgt := 94) dX11_findDue_90 (by decide) ?_
        refine e_i2l dX11_findDue_94 ?_
        refine e_ladd dX11_findDue_95 ?_
        exact e_lret rfl trivial dX11_findDue_96 ⟨_, rfl, h⟩
    · have h := h0.2.1 (Int32.toInt_inj.mp e1)
      refine e_tabIn (tgt := 97) (off := 49) dX11_findDue_48 (by rw [e1]; decide) (by rw [e1]; decide) (by rw [e1]; rfl) (by decide) ?_
      refine e_iload_n dX11_findDue_97 rfl rfl ?_
      refine e_if_ne (tgt := 106) dX11_findDue_98 (by decide) (fun c16 => ?_) (fun c16 => ?_)
      · replace h := h.1 c16
        refine e_lload rfl dX11_findDue_106 ?_
        refine e_ldc2 kcX11_443 dX11_findDue_108 ?_
        refine e_ldiv dX11_findDue_111 (by decide) ?_
        exact e_lret rfl trivial dX11_findDue_112 ⟨_, rfl, h⟩
      · replace h := h.2 c16
        refine e_lload rfl dX11_findDue_101 ?_
        refine e_goto (tgt := 112) dX11_findDue_103 (by decide) ?_
        exact e_lret rfl trivial dX11_findDue_112 ⟨_, rfl, h⟩
    · have h := h0.2.2 (Int32.toInt_inj.mp e1)
      refine e_tabIn (tgt := 76) (off := 28) dX11_findDue_48 (by rw [e1]; decide) (by rw [e1]; decide) (by rw [e1]; rfl) (by decide) ?_
      refine e_ldc2 kcX11_443 dX11_findDue_76 ?_
      refine e_lload rfl dX11_findDue_79 ?_
      refine e_lmul dX11_findDue_81 ?_
      exact e_lret rfl trivial dX11_findDue_82 ⟨_, rfl, h⟩
theorem w_X11_forge (l : Launch) (p1 : Int32) (p2 : Int32) (p3 : Int32) (M : o_M) (q : Int32 → o_M → Prop) (h : K_X11_isWithin l [iV p1, iV 0, iV 5] M (fun r2 M1 => ((r2 = 0 → K_X11_hostRefuses l [rV (some 16), iV 1] M1 (fun r5 M4 => q r5 M4)) ∧ (¬ r2 = 0 → K_X11_isWithin l [iV p3, iV (-100), iV 100] M1 (fun r7 M6 => ((¬ r7 = 0 → (mR M6 16 4 = some 21 ∧ (vp_in p1 (mN M6 21) ∧ (∃ b11, mR M6 21 p1.toNatClampNeg = some b11 ∧ o_ty b11 = .inl 9 ∧ (((p2 < 0 ∨ 8 < p2) → K_X11_hostRefuses l [rV (some 16), iV 1] M6 (fun r16 M15 => q r16 M15)) ∧ (p2 = 0 → K_J9_floorMod_7cf53 l [iV p3, iV 6] M6 (fun r18 M17 => K_X11_forgeDay l [rV (some 16), rV (some b11), iV r18] M17 (fun r20 M19 => q r20 M19))) ∧ (p2 = 1 → K_X11_forgePlace l [rV (some 16), rV (some b11), iV 2, iV p3] M6 (fun r22 M21 => q r22 M21)) ∧ (p2 = 2 → K_X11_forgePlace l [rV (some 16), rV (some b11), iV 3, iV p3] M6 (fun r24 M23 => q r24 M23)) ∧ (p2 = 3 → K_X11_forgePlace l [rV (some 16), rV (some b11), iV 4, iV p3] M6 (fun r26 M25 => q r26 M25)) ∧ (p2 = 4 → ((0 ≤ p3 → K_X11_hostAnswers l [rV (some 16), iV p3] M6 (fun r29 M28 => q r29 M28)) ∧ (¬ 0 ≤ p3 → K_X11_hostRefuses l [rV (some 16), iV 13] M6 (fun r31 M30 => q r31 M30)))) ∧ (p2 = 5 → K_X11_forgeCopy l [rV (some 16), rV (some b11), iV p3] M6 (fun r33 M32 => q r33 M32)) ∧ (p2 = 6 → K_X11_forgeLaid l [rV (some 16), rV (some b11)] M6 (fun r35 M34 => q r35 M34)) ∧ (p2 = 7 → ((¬ p3 = 0 → (¬ p3 = 0 ∧ K_X11_hostAnswers l [rV (some 16), iV (1000 / p3)] M6 (fun r39 M38 => q r39 M38))) ∧ (p3 = 0 → K_X11_hostRefuses l [rV (some 16), iV 15] M6 (fun r41 M40 => q r41 M40)))) ∧ (p2 = 8 → K_X11_hostRefuses l [rV (some 16), iV 10] M6 (fun r43 M42 => q r43 M42))))))) ∧ (r7 = 0 → K_X11_hostRefuses l [rV (some 16), iV 1] M6 (fun r45 M44 => q r45 M44)))))))) : K_X11_forge l [rV (some 16), iV p1, iV p2, iV p3] M q := by
  refine o_ctr (ini := false) (by decide +kernel) rfl (fun z => by cases z) (Nat.le_of_ble_eq_true rfl) ?_
  show E_X11_forge l q 0 [(0, rV (some 16)), (1, iV p1), (2, iV p2), (3, iV p3)] [] M 0 0
  refine e_iload_n dX11_forge_0 rfl rfl ?_
  refine e_iconst (v := 0) dX11_forge_1 (by decide) ?_
  refine e_iconst (v := 5) dX11_forge_2 (by decide) ?_
  refine e_callS (As := [iV p1, iV 0, iV 5]) (st := []) mt_X11_isWithin is_X11_isWithin lkX11_124 ⟨by decide, by decide⟩ (Nat.le_of_ble_eq_true rfl) ⟨by decide, by decide⟩ rfl rfl dX11_forge_3 (Ctr.mono h (fun v M1 h => ?_))
  obtain ⟨r2, rfl, h⟩ := h
  show E_X11_forge l q 6 [(0, rV (some 16)), (1, iV p1), (2, iV p2), (3, iV p3)] [iV r2] M1 0 0
  refine e_if_eq (tgt := 20) dX11_forge_6 (by decide) (fun c3 => ?_) (fun c3 => ?_)
  · replace h := h.1 c3
    refine e_aload_n dX11_forge_20 rfl rfl ?_
    refine e_iconst (v := 1) dX11_forge_21 (by decide) ?_
    refine e_callV (As := [iV 1]) (st := []) mt_X11_hostRefuses in_X11_hostRefuses lkX11_316 rfl rfl ⟨by decide, by decide⟩ (Nat.le_of_ble_eq_true rfl) ⟨by decide, by decide⟩ rfl rfl dX11_forge_22 (Ctr.mono h (fun v M4 h => ?_))
    obtain ⟨r5, rfl, h⟩ := h
    show E_X11_forge l q 25 [(0, rV (some 16)), (1, iV p1), (2, iV p2), (3, iV p3)] [iV r5] M4 0 0
    exact e_iret rfl trivial dX11_forge_25 ⟨_, rfl, h⟩
  · replace h := h.2 c3
    refine e_iload_n dX11_forge_9 rfl rfl ?_
    refine e_bipush (v := (-100)) dX11_forge_10 (by decide) ?_
    refine e_bipush (v := 100) dX11_forge_12 (by decide) ?_
    refine e_callS (As := [iV p3, iV (-100), iV 100]) (st := []) mt_X11_isWithin is_X11_isWithin lkX11_124 ⟨by decide, by decide⟩ (Nat.le_of_ble_eq_true rfl) ⟨by decide, by decide⟩ rfl rfl dX11_forge_14 (Ctr.mono h (fun v M6 h => ?_))
    obtain ⟨r7, rfl, h⟩ := h
    show E_X11_forge l q 17 [(0, rV (some 16)), (1, iV p1), (2, iV p2), (3, iV p3)] [iV r7] M6 0 0
    refine e_if_ne (tgt := 26) dX11_forge_17 (by decide) (fun c8 => ?_) (fun c8 => ?_)
    · replace h := h.1 c8
      refine e_aload_n dX11_forge_26 rfl rfl ?_
      obtain ⟨o9, h⟩ := h
      refine e_gA flX11_35 rfl rfl o9 dX11_forge_27 ?_
      refine e_iload_n dX11_forge_30 rfl rfl ?_
      obtain ⟨o10, h⟩ := h
      obtain ⟨b11, o12, o13, h⟩ := h
      refine e_aaldS rfl o10 o12 dX11_forge_31 ?_
      refine e_astore (lv' := [(4, rV (some b11)), (0, rV (some 16)), (1, iV p1), (2, iV p2), (3, iV p3)]) (by decide) rfl dX11_forge_32 ?_
      refine e_iload_n dX11_forge_34 rfl rfl ?_
      rcases o_tab p2 0 8 (a := 0) (b := 8) (by decide) (by decide) with c14 | c14
      · replace h := h.1 c14
        refine e_tabOut (tgt := 190) dX11_forge_35 (o_tabo (by decide) (by decide) c14) (by decide) ?_
        refine e_aload_n dX11_forge_190 rfl rfl ?_
        refine e_iconst (v := 1) dX11_forge_191 (by decide) ?_
        refine e_callV (As := [iV 1]) (st := []) mt_X11_hostRefuses in_X11_hostRefuses lkX11_316 rfl rfl ⟨by decide, by decide⟩ (Nat.le_of_ble_eq_true rfl) ⟨by decide, by decide⟩ rfl rfl dX11_forge_192 (Ctr.mono h (fun v M15 h => ?_))
        obtain ⟨r16, rfl, h⟩ := h
        show E_X11_forge l q 195 [(4, rV (some b11)), (0, rV (some 16)), (1, iV p1), (2, iV p2), (3, iV p3)] [iV r16] M15 0 0
        exact e_iret rfl trivial dX11_forge_195 ⟨_, rfl, h⟩
      · have h0 := h.2
        have e1 : p2.toInt = 0 ∨ p2.toInt = 1 ∨ p2.toInt = 2 ∨ p2.toInt = 3 ∨ p2.toInt = 4 ∨ p2.toInt = 5 ∨ p2.toInt = 6 ∨ p2.toInt = 7 ∨ p2.toInt = 8 := by omega
        clear h; rcases e1 with e1 | e1 | e1 | e1 | e1 | e1 | e1 | e1 | e1
        · have h := h0.1 (Int32.toInt_inj.mp e1)
          refine e_tabIn (tgt := 84) (off := 49) dX11_forge_35 (by rw [e1]; decide) (by rw [e1]; decide) (by rw [e1]; rfl) (by decide) ?_
          refine e_aload_n dX11_forge_84 rfl rfl ?_
          refine e_aload rfl dX11_forge_85 ?_
          refine e_iload_n dX11_forge_87 rfl rfl ?_
          refine e_kind (Or.inl kaX) dX11_forge_88 ?_
          refine e_klen dX11_forge_91 ?_
          refine e_callS (As := [iV p3, iV 6]) (st := [rV (some b11), rV (some 16)]) mt_J9_floorMod_7cf53 is_J9_floorMod_7cf53 lkX11_340 ⟨by decide, by decide⟩ (Nat.le_of_ble_eq_true rfl) ⟨by decide, by decide⟩ rfl rfl dX11_forge_92 (Ctr.mono h (fun v M17 h => ?_))
          obtain ⟨r18, rfl, h⟩ := h
          show E_X11_forge l q 95 [(4, rV (some b11)), (0, rV (some 16)), (1, iV p1), (2, iV p2), (3, iV p3)] [iV r18, rV (some b11), rV (some 16)] M17 0 0
          refine e_callV (As := [rV (some b11), iV r18]) (st := []) mt_X11_forgeDay in_X11_forgeDay lkX11_345 rfl rfl ⟨by decide, by decide⟩ (Nat.le_of_ble_eq_true rfl) ⟨by decide, by decide⟩ rfl rfl dX11_forge_95 (Ctr.mono h (fun v M19 h => ?_))
          obtain ⟨r20, rfl, h⟩ := h
          show E_X11_forge l q 98 [(4, rV (some b11)), (0, rV (some 16)), (1, iV p1), (2, iV p2), (3, iV p3)] [iV r20] M19 0 0
          exact e_iret rfl trivial dX11_forge_98 ⟨_, rfl, h⟩
        · have h := h0.2.1 (Int32.toInt_inj.mp e1)
          refine e_tabIn (tgt := 99) (off := 64) dX11_forge_35 (by rw [e1]; decide) (by rw [e1]; decide) (by rw [e1]; rfl) (by decide) ?_
          refine e_aload_n dX11_forge_99 rfl rfl ?_
          refine e_aload rfl dX11_forge_100 ?_
          refine e_iconst (v := 2) dX11_forge_102 (by decide) ?_
          refine e_iload_n dX11_forge_103 rfl rfl ?_
          refine e_callV (As := [rV (some b11), iV 2, iV p3]) (st := []) mt_X11_forgePlace in_X11_forgePlace lkX11_349 rfl rfl ⟨by decide, by decide⟩ (Nat.le_of_ble_eq_true rfl) ⟨by decide, by decide⟩ rfl rfl dX11_forge_104 (Ctr.mono h (fun v M21 h => ?_))
          obtain ⟨r22, rfl, h⟩ := h
          show E_X11_forge l q 107 [(4, rV (some b11)), (0, rV (some 16)), (1, iV p1), (2, iV p2), (3, iV p3)] [iV r22] M21 0 0
          exact e_iret rfl trivial dX11_forge_107 ⟨_, rfl, h⟩
        · have h := h0.2.2.1 (Int32.toInt_inj.mp e1)
          refine e_tabIn (tgt := 108) (off := 73) dX11_forge_35 (by rw [e1]; decide) (by rw [e1]; decide) (by rw [e1]; rfl) (by decide) ?_
          refine e_aload_n dX11_forge_108 rfl rfl ?_
          refine e_aload rfl dX11_forge_109 ?_
          refine e_iconst (v := 3) dX11_forge_111 (by decide) ?_
          refine e_iload_n dX11_forge_112 rfl rfl ?_
          refine e_callV (As := [rV (some b11), iV 3, iV p3]) (st := []) mt_X11_forgePlace in_X11_forgePlace lkX11_349 rfl rfl ⟨by decide, by decide⟩ (Nat.le_of_ble_eq_true rfl) ⟨by decide, by decide⟩ rfl rfl dX11_forge_113 (Ctr.mono h (fun v M23 h => ?_))
          obtain ⟨r24, rfl, h⟩ := h
          show E_X11_forge l q 116 [(4, rV (some b11)), (0, rV (some 16)), (1, iV p1), (2, iV p2), (3, iV p3)] [iV r24] M23 0 0
          exact e_iret rfl trivial dX11_forge_116 ⟨_, rfl, h⟩
        · have h := h0.2.2.2.1 (Int32.toInt_inj.mp e1)
          refine e_tabIn (tgt := 117) (off := 82) dX11_forge_35 (by rw [e1]; decide) (by rw [e1]; decide) (by rw [e1]; rfl) (by decide) ?_
          refine e_aload_n dX11_forge_117 rfl rfl ?_
          refine e_aload rfl dX11_forge_118 ?_
          refine e_iconst (v := 4) dX11_forge_120 (by decide) ?_
          refine e_iload_n dX11_forge_121 rfl rfl ?_
          refine e_callV (As := [rV (some b11), iV 4, iV p3]) (st := []) mt_X11_forgePlace in_X11_forgePlace lkX11_349 rfl rfl ⟨by decide, by decide⟩ (Nat.le_of_ble_eq_true rfl) ⟨by decide, by decide⟩ rfl rfl dX11_forge_122 (Ctr.mono h (fun v M25 h => ?_))
          obtain ⟨r26, rfl, h⟩ := h
          show E_X11_forge l q 125 [(4, rV (some b11)), (0, rV (some 16)), (1, iV p1), (2, iV p2), (3, iV p3)] [iV r26] M25 0 0
          exact e_iret rfl trivial dX11_forge_125 ⟨_, rfl, h⟩
        · have h := h0.2.2.2.2.1 (Int32.toInt_inj.mp e1)
          refine e_tabIn (tgt := 126) (off := 91) dX11_forge_35 (by rw [e1]; decide) (by rw [e1]; decide) (by rw [e1]; rfl) (by decide) ?_
          refine e_iload_n dX11_forge_126 rfl rfl ?_
          refine e_if_ge (tgt := 139) dX11_forge_127 (by decide) (fun c27 => ?_) (fun c27 => ?_)
          · replace h := h.1 c27
            refine e_aload_n dX11_forge_139 rfl rfl ?_
            refine e_iload_n dX11_forge_140 rfl rfl ?_
            refine e_callV (As := [iV p3]) (st := []) mt_X11_hostAnswers in_X11_hostAnswers lkX11_337 rfl rfl ⟨by decide, by decide⟩ (Nat.le_of_ble_eq_true rfl) ⟨by decide, by decide⟩ rfl rfl dX11_forge_141 (Ctr.mono h (fun v M28 h => ?_))
            obtain ⟨r29, rfl, h⟩ := h
            show E_X11_forge l q 144 [(4, rV (some b11)), (0, rV (some 16)), (1, iV p1), (2, iV p2), (3, iV p3)] [iV r29] M28 0 0
            exact e_iret rfl trivial dX11_forge_144 ⟨_, rfl, h⟩
          · replace h := h.2 c27
            refine e_aload_n dX11_forge_130 rfl rfl ?_
            refine e_bipush (v := 13) dX11_forge_131 (by decide) ?_
            refine e_callV (As := [iV 13]) (st := []) mt_X11_hostRefuses in_X11_hostRefuses lkX11_316 rfl rfl ⟨by decide, by decide⟩ (Nat.le_of_ble_eq_true rfl) ⟨by decide, by decide⟩ rfl rfl dX11_forge_133 (Ctr.mono h (fun v M30 h => ?_))
            obtain ⟨r31, rfl, h⟩ := h
            show E_X11_forge l q 136 [(4, rV (some b11)), (0, rV (some 16)), (1, iV p1), (2, iV p2), (3, iV p3)] [iV r31] M30 0 0
            refine e_goto (tgt := 144) dX11_forge_136 (by decide) ?_
            exact e_iret rfl trivial dX11_forge_144 ⟨_, rfl, h⟩
        · have h := h0.2.2.2.2.2.1 (Int32.toInt_inj.mp e1)
          refine e_tabIn (tgt := 145) (off := 110) dX11_forge_35 (by rw [e1]; decide) (by rw [e1]; decide) (by rw [e1]; rfl) (by decide) ?_
          refine e_aload_n dX11_forge_145 rfl rfl ?_
          refine e_aload rfl dX11_forge_146 ?_
          refine e_iload_n dX11_forge_148 rfl rfl ?_
          refine e_callV (As := [rV (some b11), iV p3]) (st := []) mt_X11_forgeCopy in_X11_forgeCopy lkX11_353 rfl rfl ⟨by decide, by decide⟩ (Nat.le_of_ble_eq_true rfl) ⟨by decide, by decide⟩ rfl rfl dX11_forge_149 (Ctr.mono h (fun v M32 h => ?_))
          obtain ⟨r33, rfl, h⟩ := h
          show E_X11_forge l q 152 [(4, rV (some b11)), (0, rV (some 16)), (1, iV p1), (2, iV p2), (3, iV p3)] [iV r33] M32 0 0
          exact e_iret rfl trivial dX11_forge_152 ⟨_, rfl, h⟩
        · have h := h0.2.2.2.2.2.2.1 (Int32.toInt_inj.mp e1)
          refine e_tabIn (tgt := 153) (off := 118) dX11_forge_35 (by rw [e1]; decide) (by rw [e1]; decide) (by rw [e1]; rfl) (by decide) ?_
          refine e_aload_n dX11_forge_153 rfl rfl ?_
          refine e_aload rfl dX11_forge_154 ?_
          refine e_callV (As := [rV (some b11)]) (st := []) mt_X11_forgeLaid in_X11_forgeLaid lkX11_356 rfl rfl ⟨by decide, by decide⟩ (Nat.le_of_ble_eq_true rfl) ⟨by decide, by decide⟩ rfl rfl dX11_forge_156 (Ctr.mono h (fun v M34 h => ?_))
          obtain ⟨r35, rfl, h⟩ := h
          show E_X11_forge l q 159 [(4, rV (some b11)), (0, rV (some 16)), (1, iV p1), (2, iV p2), (3, iV p3)] [iV r35] M34 0 0
          exact e_iret rfl trivial dX11_forge_159 ⟨_, rfl, h⟩
        · have h := h0.2.2.2.2.2.2.2.1 (Int32.toInt_inj.mp e1)
          refine e_tabIn (tgt := 160) (off := 125) dX11_forge_35 (by rw [e1]; decide) (by rw [e1]; decide) (by rw [e1]; rfl) (by decide) ?_
          refine e_iload_n dX11_forge_160 rfl rfl ?_
          refine e_if_ne (tgt := 173) dX11_forge_161 (by decide) (fun c36 => ?_) (fun c36 => ?_)
          · replace h := h.1 c36
            refine e_aload_n dX11_forge_173 rfl rfl ?_
            refine e_sipush (v := 1000) dX11_forge_174 (by decide) ?_
            refine e_iload_n dX11_forge_177 rfl rfl ?_
            obtain ⟨o37, h⟩ := h
            refine e_idiv dX11_forge_178 o37 ?_
            refine e_callV (As := [iV (1000 / p3)]) (st := []) mt_X11_hostAnswers in_X11_hostAnswers lkX11_337 rfl rfl ⟨by decide, by decide⟩ (Nat.le_of_ble_eq_true rfl) ⟨by decide, by decide⟩ rfl rfl dX11_forge_179 (Ctr.mono h (fun v M38 h => ?_))
            obtain ⟨r39, rfl, h⟩ := h
            show E_X11_forge l q 182 [(4, rV (some b11)), (0, rV (some 16)), (1, iV p1), (2, iV p2), (3, iV p3)] [iV r39] M38 0 0
            exact e_iret rfl trivial dX11_forge_182 ⟨_, rfl, h⟩
          · replace h := h.2 c36
            refine e_aload_n dX11_forge_164 rfl rfl ?_
            refine e_bipush (v := 15) dX11_forge_165 (by decide) ?_
            refine e_callV (As := [iV 15]) (st := []) mt_X11_hostRefuses in_X11_hostRefuses lkX11_316 rfl rfl ⟨by decide, by decide⟩ (Nat.le_of_ble_eq_true rfl) ⟨by decide, by decide⟩ rfl rfl dX11_forge_167 (Ctr.mono h (fun v M40 h => ?_))
            obtain ⟨r41, rfl, h⟩ := h
            show E_X11_forge l q 170 [(4, rV (some b11)), (0, rV (some 16)), (1, iV p1), (2, iV p2), (3, iV p3)] [iV r41] M40 0 0
            refine e_goto (tgt := 182) dX11_forge_170 (by decide) ?_
            exact e_iret rfl trivial dX11_forge_182 ⟨_, rfl, h⟩
        · have h := h0.2.2.2.2.2.2.2.2 (Int32.toInt_inj.mp e1)
          refine e_tabIn (tgt := 183) (off := 148) dX11_forge_35 (by rw [e1]; decide) (by rw [e1]; decide) (by rw [e1]; rfl) (by decide) ?_
          refine e_aload_n dX11_forge_183 rfl rfl ?_
          refine e_bipush (v := 10) dX11_forge_184 (by decide) ?_
          refine e_callV (As := [iV 10]) (st := []) mt_X11_hostRefuses in_X11_hostRefuses lkX11_316 rfl rfl ⟨by decide, by decide⟩ (Nat.le_of_ble_eq_true rfl) ⟨by decide, by decide⟩ rfl rfl dX11_forge_186 (Ctr.mono h (fun v M42 h => ?_))
          obtain ⟨r43, rfl, h⟩ := h
          show E_X11_forge l q 189 [(4, rV (some b11)), (0, rV (some 16)), (1, iV p1), (2, iV p2), (3, iV p3)] [iV r43] M42 0 0
          exact e_iret rfl trivial dX11_forge_189 ⟨_, rfl, h⟩
    · replace h := h.2 c8
      refine e_aload_n dX11_forge_20 rfl rfl ?_
      refine e_iconst (v := 1) dX11_forge_21 (by decide) ?_
      refine e_callV (As := [iV 1]) (st := []) mt_X11_hostRefuses in_X11_hostRefuses lkX11_316 rfl rfl ⟨by decide, by decide⟩ (Nat.le_of_ble_eq_true rfl) ⟨by decide, by decide⟩ rfl rfl dX11_forge_22 (Ctr.mono h (fun v M44 h => ?_))
      obtain ⟨r45, rfl, h⟩ := h
      show E_X11_forge l q 25 [(0, rV (some 16)), (1, iV p1), (2, iV p2), (3, iV p3)] [iV r45] M44 0 0
      exact e_iret rfl trivial dX11_forge_25 ⟨_, rfl, h⟩
theorem w_X11_leave (l : Launch) (p1 : Int32) (p2 : Int32) (p3 : Int32) (M : o_M) (q : Int32 → o_M → Prop) (h : K_X11_findPlayer l [rV (some 16), iV p1] M (fun r2 M1 => ((r2 = none → q (-2) M1) ∧ (∀ b3, r2 = some b3 → o_ty b3 = .inl 2 ∧ K_X11_isSpan l [iV p2, iV p3] M1 (fun r7 M6 => ((¬ r7 = 0 → (((mI M6 b3 5) < 6 → K_X2_addLeave l [rV (some b3), iV p2, iV p3] M6 (fun M10 => q (mI M10 b3 5) M10)) ∧ (¬ (mI M6 b3 5) < 6 → q (-4) M6))) ∧ (r7 = 0 → q (-2) M6))))))) : K_X11_leave l [rV (some 16), iV p1, iV p2, iV p3] M q := by
  refine o_ctr (ini := false) (by decide +kernel) rfl (fun z => by cases z) (Nat.le_of_ble_eq_true rfl) ?_
  show E_X11_leave l q 0 [(0, rV (some 16)), (1, iV p1), (2, iV p2), (3, iV p3)] [] M 0 0
  refine e_aload_n dX11_leave_0 rfl rfl ?_
  refine e_iload_n dX11_leave_1 rfl rfl ?_
  refine e_callV (As := [iV p1]) (st := []) mt_X11_findPlayer in_X11_findPlayer lkX11_153 rfl rfl ⟨by decide, by decide⟩ (Nat.le_of_ble_eq_true rfl) ⟨by decide, by decide⟩ rfl rfl dX11_leave_2 (Ctr.mono h (fun v M1 h => ?_))
  obtain ⟨r2, rfl, h⟩ := h
  show E_X11_leave l q 5 [(0, rV (some 16)), (1, iV p1), (2, iV p2), (3, iV p3)] [rV r2] M1 0 0
  refine e_astore (lv' := [(4, rV r2), (0, rV (some 16)), (1, iV p1), (2, iV p2), (3, iV p3)]) (by decide) rfl dX11_leave_5 ?_
  refine e_aload rfl dX11_leave_7 ?_
  refine e_ifnull (tgt := 20) dX11_leave_9 (by decide) (fun c4 => ?_) (fun b3 c4 => ?_)
  · replace h := h.1 c4
    refine e_eq (lv' := [(4, rV none), (0, rV (some 16)), (1, iV p1), (2, iV p2), (3, iV p3)]) (st' := []) (by rw [c4]) (by first | rfl | rw [c4]) rfl ?_
    refine e_bipush (v := (-2)) dX11_leave_20 (by decide) ?_
    exact e_iret rfl trivial dX11_leave_22 ⟨_, rfl, h⟩
  · obtain ⟨t5, h⟩ := h.2 b3 c4
    refine e_eq (lv' := [(4, rV (some b3)), (0, rV (some 16)), (1, iV p1), (2, iV p2), (3, iV p3)]) (st' := []) (by rw [c4]) (by first | rfl | rw [c4]) rfl ?_
    refine e_iload_n dX11_leave_12 rfl rfl ?_
    refine e_iload_n dX11_leave_13 rfl rfl ?_
    refine e_callS (As := [iV p2, iV p3]) (st := []) mt_X11_isSpan is_X11_isSpan lkX11_135 ⟨by decide, by decide⟩ (Nat.le_of_ble_eq_true rfl) ⟨by decide, by decide⟩ rfl rfl dX11_leave_14 (Ctr.mono h (fun v M6 h => ?_))
    obtain ⟨r7, rfl, h⟩ := h
    show E_X11_leave l q 17 [(4, rV (some b3)), (0, rV (some 16)), (1, iV p1), (2, iV p2), (3, iV p3)] [iV r7] M6 0 0
    refine e_if_ne (tgt := 23) dX11_leave_17 (by decide) (fun c8 => ?_) (fun c8 => ?_)
    · replace h := h.1 c8
      refine e_aload rfl dX11_leave_23 ?_
      refine e_gI flX11_157 t5 rfl dX11_leave_25 ?_
      refine e_bipush (v := 6) dX11_leave_28 (by decide) ?_
      refine e_ic_lt (tgt := 36) dX11_leave_30 (by decide) (fun c9 => ?_) (fun c9 => ?_)
      · replace h := h.1 c9
        refine e_aload rfl dX11_leave_36 ?_
        refine e_iload_n dX11_leave_38 rfl rfl ?_
        refine e_iload_n dX11_leave_39 rfl rfl ?_
        refine e_callV (As := [iV p2, iV p3]) (st := []) mt_X2_addLeave in_X2_addLeave lkX11_160 rfl t5 ⟨by decide, by decide⟩ (Nat.le_of_ble_eq_true rfl) ⟨by decide, by decide⟩ rfl rfl dX11_leave_40 (Ctr.mono h (fun v M10 h => ?_))
        obtain ⟨rfl, h⟩ := h
        show E_X11_leave l q 43 [(4, rV (some b3)), (0, rV (some 16)), (1, iV p1), (2, iV p2), (3, iV p3)] [] M10 0 0
        refine e_aload rfl dX11_leave_43 ?_
        refine e_gI flX11_157 t5 rfl dX11_leave_45 ?_
        exact e_iret rfl trivial dX11_leave_48 ⟨_, rfl, h⟩
      · replace h := h.2 c9
        refine e_bipush (v := (-4)) dX11_leave_33 (by decide) ?_
        exact e_iret rfl trivial dX11_leave_35 ⟨_, rfl, h⟩
    · replace h := h.2 c8
      refine e_bipush (v := (-2)) dX11_leave_20 (by decide) ?_
      exact e_iret rfl trivial dX11_leave_22 ⟨_, rfl, h⟩
abbrev H_X11_programme_20 (l : Launch) (q : Int32 → o_M → Prop) (v1 : Int32) (v2 : Int32) (v3 : Int32) (v4 : Int32) (M : o_M) : Prop := E_X11_programme l q 20 [(0, rV (some 16)), (1, iV v1), (2, iV v2), (3, iV v3), (4, iV v4)] [] M 0 0
abbrev H_X11_programme_69 (l : Launch) (q : Int32 → o_M → Prop) (v1 : Int32) (v2 : Int32) (v3 : Int32) (v4 : Int32) (M : o_M) : Prop := E_X11_programme l q 69 [(0, rV (some 16)), (1, iV v1), (2, iV v2), (3, iV v3), (4, iV v4)] [] M 0 0
theorem w_X11_programme (l : Launch) (p1 : Int32) (p2 : Int32) (p3 : Int32) (M : o_M) (q : Int32 → o_M → Prop) (h : K_X11_isDay l [iV p1] M (fun r2 M1 => ((¬ r2 = 0 → (mR M1 16 10 = some 38 ∧ K_X0_begin l [rV (some 38)] M1 (fun M5 => H_X11_programme_20 l q p1 p2 p3 0 M5))) ∧ (r2 = 0 → q (-2) M1)))) : K_X11_programme l [rV (some 16), iV p1, iV p2, iV p3] M q := by
  refine o_ctr (ini := false) (by decide +kernel) rfl (fun z => by cases z) (Nat.le_of_ble_eq_true rfl) ?_
  show E_X11_programme l q 0 [(0, rV (some 16)), (1, iV p1), (2, iV p2), (3, iV p3)] [] M 0 0
  refine e_iload_n dX11_programme_0 rfl rfl ?_
  refine e_callS (As := [iV p1]) (st := []) mt_X11_isDay is_X11_isDay lkX11_167 ⟨by decide, by decide⟩ (Nat.le_of_ble_eq_true rfl) ⟨by decide, by decide⟩ rfl rfl dX11_programme_1 (Ctr.mono h (fun v M1 h => ?_))
  obtain ⟨r2, rfl, h⟩ := h
  show E_X11_programme l q 4 [(0, rV (some 16)), (1, iV p1), (2, iV p2), (3, iV p3)] [iV r2] M1 0 0
  refine e_if_ne (tgt := 10) dX11_programme_4 (by decide) (fun c3 => ?_) (fun c3 => ?_)
  · replace h := h.1 c3
    refine e_aload_n dX11_programme_10 rfl rfl ?_
    obtain ⟨o4, h⟩ := h
    refine e_gA flX11_74 rfl rfl o4 dX11_programme_11 ?_
    refine e_callV (As := []) (st := []) mt_X0_begin in_X0_begin lkX11_292 rfl rfl ⟨by decide, by decide⟩ (Nat.le_of_ble_eq_true rfl) ⟨by decide, by decide⟩ rfl rfl dX11_programme_14 (Ctr.mono h (fun v M5 h => ?_))
    obtain ⟨rfl, h⟩ := h
    show E_X11_programme l q 17 [(0, rV (some 16)), (1, iV p1), (2, iV p2), (3, iV p3)] [] M5 0 0
    refine e_iconst (v := 0) dX11_programme_17 (by decide) ?_
    refine e_istore (lv' := [(4, iV 0), (0, rV (some 16)), (1, iV p1), (2, iV p2), (3, iV p3)]) (by decide) rfl dX11_programme_18 ?_
    exact e_lv (List.forall_mem_cons.mpr ⟨rfl, List.forall_mem_cons.mpr ⟨rfl, List.forall_mem_cons.mpr ⟨rfl, List.forall_mem_cons.mpr ⟨rfl, List.forall_mem_cons.mpr ⟨rfl, fun _ h => absurd h List.not_mem_nil⟩⟩⟩⟩⟩) h
  · replace h := h.2 c3
    refine e_bipush (v := (-2)) dX11_programme_7 (by decide) ?_
    exact e_iret rfl trivial dX11_programme_9 ⟨_, rfl, h⟩
theorem w_X11_programme_20 (l : Launch) (q : Int32 → o_M → Prop) (v1 : Int32) (v2 : Int32) (v3 : Int32) (v4 : Int32) (M : o_M) (h : (((mI M 16 12) ≤ v4 → H_X11_programme_69 l q v1 v2 v3 0 M) ∧ (¬ (mI M 16 12) ≤ v4 → (mR M 16 1 = some 18 ∧ (vp_in v4 (mN M 18) ∧ (∃ b9, mR M 18 v4.toNatClampNeg = some b9 ∧ o_ty b9 = .inl 2 ∧ K_X2_hasLeave l [rV (some b9), iV v1] M (fun r13 M12 => ((¬ r13 = 0 → H_X11_programme_20 l q v1 v2 v3 (v4 + 1) M12) ∧ (r13 = 0 → (mR M12 16 10 = some 38 ∧ (mR M12 16 1 = some 18 ∧ (vp_in v4 (mN M12 18) ∧ (∃ b18, mR M12 18 v4.toNatClampNeg = some b18 ∧ o_ty b18 = .inl 2 ∧ K_X0_addPost l [rV (some 38), iV (mI M12 b18 0)] M12 (fun M21 => H_X11_programme_20 l q v1 v2 v3 (v4 + 1) M21)))))))))))))) : H_X11_programme_20 l q v1 v2 v3 v4 M := by
  refine e_iload rfl dX11_programme_20 ?_
  refine e_aload_n dX11_programme_22 rfl rfl ?_
  refine e_gI flX11_82 rfl rfl dX11_programme_23 ?_
  refine e_ic_ge (tgt := 66) dX11_programme_26 (by decide) (fun c6 => ?_) (fun c6 => ?_)
  · replace h := h.1 c6
    refine e_iconst (v := 0) dX11_programme_66 (by decide) ?_
    refine e_istore (lv' := [(4, iV 0), (0, rV (some 16)), (1, iV v1), (2, iV v2), (3, iV v3)]) (by decide) rfl dX11_programme_67 ?_
    exact e_lv (List.forall_mem_cons.mpr ⟨rfl, List.forall_mem_cons.mpr ⟨rfl, List.forall_mem_cons.mpr ⟨rfl, List.forall_mem_cons.mpr ⟨rfl, List.forall_mem_cons.mpr ⟨rfl, fun _ h => absurd h List.not_mem_nil⟩⟩⟩⟩⟩) h
  · replace h := h.2 c6
    refine e_aload_n dX11_programme_29 rfl rfl ?_
    obtain ⟨o7, h⟩ := h
    refine e_gA flX11_17 rfl rfl o7 dX11_programme_30 ?_
    refine e_iload rfl dX11_programme_33 ?_
    obtain ⟨o8, h⟩ := h
    obtain ⟨b9, o10, o11, h⟩ := h
    refine e_aaldS rfl o8 o10 dX11_programme_35 ?_
    refine e_iload_n dX11_programme_36 rfl rfl ?_
    refine e_callV (As := [iV v1]) (st := []) mt_X2_hasLeave in_X2_hasLeave lkX11_295 rfl o11 ⟨by decide, by decide⟩ (Nat.le_of_ble_eq_true rfl) ⟨by decide, by decide⟩ rfl rfl dX11_programme_37 (Ctr.mono h (fun v M12 h => ?_))
    obtain ⟨r13, rfl, h⟩ := h
    show E_X11_programme l q 40 [(0, rV (some 16)), (1, iV v1), (2, iV v2), (3, iV v3), (4, iV v4)] [iV r13] M12 0 0
    refine e_if_ne (tgt := 60) dX11_programme_40 (by decide) (fun c14 => ?_) (fun c14 => ?_)
    · replace h := h.1 c14
      refine e_iinc (v := 1) (lv' := [(4, iV (v4 + 1)), (0, rV (some 16)), (1, iV v1), (2, iV v2), (3, iV v3)]) rfl (by decide) (by decide) rfl dX11_programme_60 ?_
      refine e_goto (tgt := 20) dX11_programme_63 (by decide) ?_
      exact e_lv (List.forall_mem_cons.mpr ⟨rfl, List.forall_mem_cons.mpr ⟨rfl, List.forall_mem_cons.mpr ⟨rfl, List.forall_mem_cons.mpr ⟨rfl, List.forall_mem_cons.mpr ⟨rfl, fun _ h => absurd h List.not_mem_nil⟩⟩⟩⟩⟩) h
    · replace h := h.2 c14
      refine e_aload_n dX11_programme_43 rfl rfl ?_
      obtain ⟨o15, h⟩ := h
      refine e_gA flX11_74 rfl rfl o15 dX11_programme_44 ?_
      refine e_aload_n dX11_programme_47 rfl rfl ?_
      obtain ⟨o16, h⟩ := h
      refine e_gA flX11_17 rfl rfl o16 dX11_programme_48 ?_
      refine e_iload rfl dX11_programme_51 ?_
      obtain ⟨o17, h⟩ := h
      obtain ⟨b18, o19, o20, h⟩ := h
      refine e_aaldS rfl o17 o19 dX11_programme_53 ?_
      refine e_gI flX11_205 o20 rfl dX11_programme_54 ?_
      refine e_callV (As := [iV (mI M12 b18 0)]) (st := []) mt_X0_addPost in_X0_addPost lkX11_298 rfl rfl ⟨by decide, by decide⟩ (Nat.le_of_ble_eq_true rfl) ⟨by decide, by decide⟩ rfl rfl dX11_programme_57 (Ctr.mono h (fun v M21 h => ?_))
      obtain ⟨rfl, h⟩ := h
      show E_X11_programme l q 60 [(0, rV (some 16)), (1, iV v1), (2, iV v2), (3, iV v3), (4, iV v4)] [] M21 0 0
      refine e_iinc (v := 1) (lv' := [(4, iV (v4 + 1)), (0, rV (some 16)), (1, iV v1), (2, iV v2), (3, iV v3)]) rfl (by decide) (by decide) rfl dX11_programme_60 ?_
      refine e_goto (tgt := 20) dX11_programme_63 (by decide) ?_
      exact e_lv (List.forall_mem_cons.mpr ⟨rfl, List.forall_mem_cons.mpr ⟨rfl, List.forall_mem_cons.mpr ⟨rfl, List.forall_mem_cons.mpr ⟨rfl, List.forall_mem_cons.mpr ⟨rfl, fun _ h => absurd h List.not_mem_nil⟩⟩⟩⟩⟩) h
theorem w_X11_programme_69 (l : Launch) (q : Int32 → o_M → Prop) (v1 : Int32) (v2 : Int32) (v3 : Int32) (v4 : Int32) (M : o_M) (h : (((mI M 16 11) ≤ v4 → (mR M 16 10 = some 38 ∧ K_X0_choose l [rV (some 38), iV v2, iV v3] M (fun r25 M24 => q r25 M24))) ∧ (¬ (mI M 16 11) ≤ v4 → (mR M 16 0 = some 17 ∧ (vp_in v4 (mN M 17) ∧ (∃ b28, mR M 17 v4.toNatClampNeg = some b28 ∧ o_ty b28 = .inl 10 ∧ K_X10_canBePlayed l [rV (some b28), iV v1] M (fun r32 M31 => ((r32 = 0 → H_X11_programme_69 l q v1 v2 v3 (v4 + 1) M31) ∧ (¬ r32 = 0 → (mR M31 16 10 = some 38 ∧ (mR M31 16 0 = some 17 ∧ (vp_in v4 (mN M31 17) ∧ (∃ b37, mR M31 17 v4.toNatClampNeg = some b37 ∧ o_ty b37 = .inl 10 ∧ K_X0_addWork l [rV (some 38), iV v4, rV (some b37)] M31 (fun M40 => H_X11_programme_69 l q v1 v2 v3 (v4 + 1) M40)))))))))))))) : H_X11_programme_69 l q v1 v2 v3 v4 M := by
  refine e_iload rfl dX11_programme_69 ?_
  refine e_aload_n dX11_programme_71 rfl rfl ?_
  refine e_gI flX11_78 rfl rfl dX11_programme_72 ?_
  refine e_ic_ge (tgt := 114) dX11_programme_75 (by decide) (fun c22 => ?_) (fun c22 => ?_)
  · replace h := h.1 c22
    refine e_aload_n dX11_programme_114 rfl rfl ?_
    obtain ⟨o23, h⟩ := h
    refine e_gA flX11_74 rfl rfl o23 dX11_programme_115 ?_
    refine e_iload_n dX11_programme_118 rfl rfl ?_
    refine e_iload_n dX11_programme_119 rfl rfl ?_
    refine e_callV (As := [iV v2, iV v3]) (st := []) mt_X0_choose in_X0_choose lkX11_303 rfl rfl ⟨by decide, by decide⟩ (Nat.le_of_ble_eq_true rfl) ⟨by decide, by decide⟩ rfl rfl dX11_programme_120 (Ctr.mono h (fun v M24 h => ?_))
    obtain ⟨r25, rfl, h⟩ := h
    show E_X11_programme l q 123 [(0, rV (some 16)), (1, iV v1), (2, iV v2), (3, iV v3), (4, iV v4)] [iV r25] M24 0 0
    exact e_iret rfl trivial dX11_programme_123 ⟨_, rfl, h⟩
  · replace h := h.2 c22
    refine e_aload_n dX11_programme_78 rfl rfl ?_
    obtain ⟨o26, h⟩ := h
    refine e_gA flX11_11 rfl rfl o26 dX11_programme_79 ?_
    refine e_iload rfl dX11_programme_82 ?_
    obtain ⟨o27, h⟩ := h
    obtain ⟨b28, o29, o30, h⟩ := h
    refine e_aaldS rfl o27 o29 dX11_programme_84 ?_
    refine e_iload_n dX11_programme_85 rfl rfl ?_
    refine e_callV (As := [iV v1]) (st := []) mt_X10_canBePlayed in_X10_canBePlayed lkX11_202 rfl o30 ⟨by decide, by decide⟩ (Nat.le_of_ble_eq_true rfl) ⟨by decide, by decide⟩ rfl rfl dX11_programme_86 (Ctr.mono h (fun v M31 h => ?_))
    obtain ⟨r32, rfl, h⟩ := h
    show E_X11_programme l q 89 [(0, rV (some 16)), (1, iV v1), (2, iV v2), (3, iV v3), (4, iV v4)] [iV r32] M31 0 0
    refine e_if_eq (tgt := 108) dX11_programme_89 (by decide) (fun c33 => ?_) (fun c33 => ?_)
    · replace h := h.1 c33
      refine e_iinc (v := 1) (lv' := [(4, iV (v4 + 1)), (0, rV (some 16)), (1, iV v1), (2, iV v2), (3, iV v3)]) rfl (by decide) (by decide) rfl dX11_programme_108 ?_
      refine e_goto (tgt := 69) dX11_programme_111 (by decide) ?_
      exact e_lv (List.forall_mem_cons.mpr ⟨rfl, List.forall_mem_cons.mpr ⟨rfl, List.forall_mem_cons.mpr ⟨rfl, List.forall_mem_cons.mpr ⟨rfl, List.forall_mem_cons.mpr ⟨rfl, fun _ h => absurd h List.not_mem_nil⟩⟩⟩⟩⟩) h
    · replace h := h.2 c33
      refine e_aload_n dX11_programme_92 rfl rfl ?_
      obtain ⟨o34, h⟩ := h
      refine e_gA flX11_74 rfl rfl o34 dX11_programme_93 ?_
      refine e_iload rfl dX11_programme_96 ?_
      refine e_aload_n dX11_programme_98 rfl rfl ?_
      obtain ⟨o35, h⟩ := h
      refine e_gA flX11_11 rfl rfl o35 dX11_programme_99 ?_
      refine e_iload rfl dX11_programme_102 ?_
      obtain ⟨o36, h⟩ := h
      obtain ⟨b37, o38, o39, h⟩ := h
      refine e_aaldS rfl o36 o38 dX11_programme_104 ?_
      refine e_callV (As := [iV v4, rV (some b37)]) (st := []) mt_X0_addWork in_X0_addWork lkX11_302 rfl rfl ⟨by decide, by decide⟩ (Nat.le_of_ble_eq_true rfl) ⟨by decide, by decide⟩ rfl rfl dX11_programme_105 (Ctr.mono h (fun v M40 h => ?_))
      obtain ⟨rfl, h⟩ := h
      show E_X11_programme l q 108 [(0, rV (some 16)), (1, iV v1), (2, iV v2), (3, iV v3), (4, iV v4)] [] M40 0 0
      refine e_iinc (v := 1) (lv' := [(4, iV (v4 + 1)), (0, rV (some 16)), (1, iV v1), (2, iV v2), (3, iV v3)]) rfl (by decide) (by decide) rfl dX11_programme_108 ?_
      refine e_goto (tgt := 69) dX11_programme_111 (by decide) ?_
      exact e_lv (List.forall_mem_cons.mpr ⟨rfl, List.forall_mem_cons.mpr ⟨rfl, List.forall_mem_cons.mpr ⟨rfl, List.forall_mem_cons.mpr ⟨rfl, List.forall_mem_cons.mpr ⟨rfl, fun _ h => absurd h List.not_mem_nil⟩⟩⟩⟩⟩) h
theorem w_X11_score (l : Launch) (p1 : Int32) (p2 : Int32) (p3 : Int32) (p4 : Int32) (M : o_M) (q : Int32 → o_M → Prop) (h : K_X11_findWork l [rV (some 16), iV p1] M (fun r2 M1 => ((r2 = none → q (-2) M1) ∧ (∀ b3, r2 = some b3 → o_ty b3 = .inl 10 ∧ K_X11_isWithin l [iV p2, iV 0, iV 2] M1 (fun r7 M6 => ((¬ r7 = 0 → ((¬ p2 = 1 → ((¬ p2 = 1 → ((¬ p2 = 1 → q 1 (sI (sI (sI M6 b3 3 p2) b3 4 (-1)) b3 5 (-1))) ∧ (p2 = 1 → q 1 (sI (sI (sI M6 b3 3 p2) b3 4 (-1)) b3 5 p4)))) ∧ (p2 = 1 → ((¬ p2 = 1 → q 1 (sI (sI (sI M6 b3 3 p2) b3 4 p3) b3 5 (-1))) ∧ (p2 = 1 → q 1 (sI (sI (sI M6 b3 3 p2) b3 4 p3) b3 5 p4)))))) ∧ (p2 = 1 → K_X11_isSpan l [iV p3, iV p4] M6 (fun r14 M13 => ((¬ r14 = 0 → ((¬ p2 = 1 → ((¬ p2 = 1 → q 1 (sI (sI (sI M13 b3 3 p2) b3 4 (-1)) b3 5 (-1))) ∧ (p2 = 1 → q 1 (sI (sI (sI M13 b3 3 p2) b3 4 (-1)) b3 5 p4)))) ∧ (p2 = 1 → ((¬ p2 = 1 → q 1 (sI (sI (sI M13 b3 3 p2) b3 4 p3) b3 5 (-1))) ∧ (p2 = 1 → q 1 (sI (sI (sI M13 b3 3 p2) b3 4 p3) b3 5 p4)))))) ∧ (r14 = 0 → q (-2) M13)))))) ∧ (r7 = 0 → q (-2) M6))))))) : K_X11_score l [rV (some 16), iV p1, iV p2, iV p3, iV p4] M q := by
  refine o_ctr (ini := false) (by decide +kernel) rfl (fun z => by cases z) (Nat.le_of_ble_eq_true rfl) ?_
  show E_X11_score l q 0 [(0, rV (some 16)), (1, iV p1), (2, iV p2), (3, iV p3), (4, iV p4)] [] M 0 0
  refine e_aload_n dX11_score_0 rfl rfl ?_
  refine e_iload_n dX11_score_1 rfl rfl ?_
  refine e_callV (As := [iV p1]) (st := []) mt_X11_findWork in_X11_findWork lkX11_131 rfl rfl ⟨by decide, by decide⟩ (Nat.le_of_ble_eq_true rfl) ⟨by decide, by decide⟩ rfl rfl dX11_score_2 (Ctr.mono h (fun v M1 h => ?_))
  obtain ⟨r2, rfl, h⟩ := h
  show E_X11_score l q 5 [(0, rV (some 16)), (1, iV p1), (2, iV p2), (3, iV p3), (4, iV p4)] [rV r2] M1 0 0
  refine e_astore (lv' := [(5, rV r2), (0, rV (some 16)), (1, iV p1), (2, iV p2), (3, iV p3), (4, iV p4)]) (by decide) rfl dX11_score_5 ?_
  refine e_aload rfl dX11_score_7 ?_
  refine e_ifnull (tgt := 21) dX11_score_9 (by decide) (fun c4 => ?_) (fun b3 c4 => ?_)
  · replace h := h.1 c4
    refine e_eq (lv' := [(5, rV none), (0, rV (some 16)), (1, iV p1), (2, iV p2), (3, iV p3), (4, iV p4)]) (st' := []) (by rw [c4]) (by first | rfl | rw [c4]) rfl ?_
    refine e_bipush (v := (-2)) dX11_score_21 (by decide) ?_
    exact e_iret rfl trivial dX11_score_23 ⟨_, rfl, h⟩
  · obtain ⟨t5, h⟩ := h.2 b3 c4
    refine e_eq (lv' := [(5, rV (some b3)), (0, rV (some 16)), (1, iV p1), (2, iV p2), (3, iV p3), (4, iV p4)]) (st' := []) (by rw [c4]) (by first | rfl | rw [c4]) rfl ?_
    refine e_iload_n dX11_score_12 rfl rfl ?_
    refine e_iconst (v := 0) dX11_score_13 (by decide) ?_
    refine e_iconst (v := 2) dX11_score_14 (by decide) ?_
    refine e_callS (As := [iV p2, iV 0, iV 2]) (st := []) mt_X11_isWithin is_X11_isWithin lkX11_124 ⟨by decide, by decide⟩ (Nat.le_of_ble_eq_true rfl) ⟨by decide, by decide⟩ rfl rfl dX11_score_15 (Ctr.mono h (fun v M6 h => ?_))
    obtain ⟨r7, rfl, h⟩ := h
    show E_X11_score l q 18 [(5, rV (some b3)), (0, rV (some 16)), (1, iV p1), (2, iV p2), (3, iV p3), (4, iV p4)] [iV r7] M6 0 0
    refine e_if_ne (tgt := 24) dX11_score_18 (by decide) (fun c8 => ?_) (fun c8 => ?_)
    · replace h := h.1 c8
      refine e_iload_n dX11_score_24 rfl rfl ?_
      refine e_iconst (v := 1) dX11_score_25 (by decide) ?_
      refine e_ic_ne (tgt := 41) dX11_score_26 (by decide) (fun c9 => ?_) (fun c9 => ?_)
      · replace h := h.1 c9
        refine e_aload rfl dX11_score_41 ?_
        refine e_iload_n dX11_score_43 rfl rfl ?_
        refine e_pI flX11_139 t5 (Or.inl rfl) rfl rfl rfl dX11_score_44 ?_
        refine e_aload rfl dX11_score_47 ?_
        refine e_iload_n dX11_score_49 rfl rfl ?_
        refine e_iconst (v := 1) dX11_score_50 (by decide) ?_
        refine e_ic_ne (tgt := 58) dX11_score_51 (by decide) (fun c10 => ?_) (fun c10 => ?_)
        · replace h := h.1 c10
          refine e_iconst (v := (-1)) dX11_score_58 (by decide) ?_
          refine e_pI flX11_142 t5 (Or.inl rfl) rfl rfl rfl dX11_score_59 ?_
          refine e_aload rfl dX11_score_62 ?_
          refine e_iload_n dX11_score_64 rfl rfl ?_
          refine e_iconst (v := 1) dX11_score_65 (by decide) ?_
          refine e_ic_ne (tgt := 74) dX11_score_66 (by decide) (fun c11 => ?_) (fun c11 => ?_)
          · replace h := h.1 c11
            refine e_iconst (v := (-1)) dX11_score_74 (by decide) ?_
            refine e_pI flX11_145 t5 (Or.inl rfl) rfl rfl rfl dX11_score_75 ?_
            refine e_iconst (v := 1) dX11_score_78 (by decide) ?_
            exact e_iret rfl trivial dX11_score_79 ⟨_, rfl, h⟩
          · replace h := h.2 c11
            refine e_iload rfl dX11_score_69 ?_
            refine e_goto (tgt := 75) dX11_score_71 (by decide) ?_
            refine e_pI flX11_145 t5 (Or.inl rfl) rfl rfl rfl dX11_score_75 ?_
            refine e_iconst (v := 1) dX11_score_78 (by decide) ?_
            exact e_iret rfl trivial dX11_score_79 ⟨_, rfl, h⟩
        · replace h := h.2 c10
          refine e_iload_n dX11_score_54 rfl rfl ?_
          refine e_goto (tgt := 59) dX11_score_55 (by decide) ?_
          refine e_pI flX11_142 t5 (Or.inl rfl) rfl rfl rfl dX11_score_59 ?_
          refine e_aload rfl dX11_score_62 ?_
          refine e_iload_n dX11_score_64 rfl rfl ?_
          refine e_iconst (v := 1) dX11_score_65 (by decide) ?_
          refine e_ic_ne (tgt := 74) dX11_score_66 (by decide) (fun c12 => ?_) (fun c12 => ?_)
          · replace h := h.1 c12
            refine e_iconst (v := (-1)) dX11_score_74 (by decide) ?_
            refine e_pI flX11_145 t5 (Or.inl rfl) rfl rfl rfl dX11_score_75 ?_
            refine e_iconst (v := 1) dX11_score_78 (by decide) ?_
            exact e_iret rfl trivial dX11_score_79 ⟨_, rfl, h⟩
          · replace h := h.2 c12
            refine e_iload rfl dX11_score_69 ?_
            refine e_goto (tgt := 75) dX11_score_71 (by decide) ?_
            refine e_pI flX11_145 t5 (Or.inl rfl) rfl rfl rfl dX11_score_75 ?_
            refine e_iconst (v := 1) dX11_score_78 (by decide) ?_
            exact e_iret rfl trivial dX11_score_79 ⟨_, rfl, h⟩
      · replace h := h.2 c9
        refine e_iload_n dX11_score_29 rfl rfl ?_
        refine e_iload rfl dX11_score_30 ?_
        refine e_callS (As := [iV p3, iV p4]) (st := []) mt_X11_isSpan is_X11_isSpan lkX11_135 ⟨by decide, by decide⟩ (Nat.le_of_ble_eq_true rfl) ⟨by decide, by decide⟩ rfl rfl dX11_score_32 (Ctr.mono h (fun v M13 h => ?_))
        obtain ⟨r14, rfl, h⟩ := h
        show E_X11_score l q 35 [(5, rV (some b3)), (0, rV (some 16)), (1, iV p1), (2, iV p2), (3, iV p3), (4, iV p4)] [iV r14] M13 0 0
        refine e_if_ne (tgt := 41) dX11_score_35 (by decide) (fun c15 => ?_) (fun c15 => ?_)
        · replace h := h.1 c15
          refine e_aload rfl dX11_score_41 ?_
          refine e_iload_n dX11_score_43 rfl rfl ?_
          refine e_pI flX11_139 t5 (Or.inl rfl) rfl rfl rfl dX11_score_44 ?_
          refine e_aload rfl dX11_score_47 ?_
          refine e_iload_n dX11_score_49 rfl rfl ?_
          refine e_iconst (v := 1) dX11_score_50 (by decide) ?_
          refine e_ic_ne (tgt := 58) dX11_score_51 (by decide) (fun c16 => ?_) (fun c16 => ?_)
          · replace h := h.1 c16
            refine e_iconst (v := (-1)) dX11_score_58 (by decide) ?_
            refine e_pI flX11_142 t5 (Or.inl rfl) rfl rfl rfl dX11_score_59 ?_
            refine e_aload rfl dX11_score_62 ?_
            refine e_iload_n dX11_score_64 rfl rfl ?_
            refine e_iconst (v := 1) dX11_score_65 (by decide) ?_
            refine e_ic_ne (tgt := 74) dX11_score_66 (by decide) (fun c17 => ?_) (fun c17 => ?_)
            · replace h := h.1 c17
              refine e_iconst (v := (-1)) dX11_score_74 (by decide) ?_
              refine e_pI flX11_145 t5 (Or.inl rfl) rfl rfl rfl dX11_score_75 ?_
              refine e_iconst (v := 1) dX11_score_78 (by decide) ?_
              exact e_iret rfl trivial dX11_score_79 ⟨_, rfl, h⟩
            · replace h := h.2 c17
              refine e_iload rfl dX11_score_69 ?_
              refine e_goto (tgt := 75) dX11_score_71 (by decide) ?_
              refine e_pI flX11_145 t5 (Or.inl rfl) rfl rfl rfl dX11_score_75 ?_
              refine e_iconst (v := 1) dX11_score_78 (by decide) ?_
              exact e_iret rfl trivial dX11_score_79 ⟨_, rfl, h⟩
          · replace h := h.2 c16
            refine e_iload_n dX11_score_54 rfl rfl ?_
            refine e_goto (tgt := 59) dX11_score_55 (by decide) ?_
            refine e_pI flX11_142 t5 (Or.inl rfl) rfl rfl rfl dX11_score_59 ?_
            refine e_aload rfl dX11_score_62 ?_
            refine e_iload_n dX11_score_64 rfl rfl ?_
            refine e_iconst (v := 1) dX11_score_65 (by decide) ?_
            refine e_ic_ne (tgt := 74) dX11_score_66 (by decide) (fun c18 => ?_) (fun c18 => ?_)
            · replace h := h.1 c18
              refine e_iconst (v := (-1)) dX11_score_74 (by decide) ?_
              refine e_pI flX11_145 t5 (Or.inl rfl) rfl rfl rfl dX11_score_75 ?_
              refine e_iconst (v := 1) dX11_score_78 (by decide) ?_
              exact e_iret rfl trivial dX11_score_79 ⟨_, rfl, h⟩
            · replace h := h.2 c18
              refine e_iload rfl dX11_score_69 ?_
              refine e_goto (tgt := 75) dX11_score_71 (by decide) ?_
              refine e_pI flX11_145 t5 (Or.inl rfl) rfl rfl rfl dX11_score_75 ?_
              refine e_iconst (v := 1) dX11_score_78 (by decide) ?_
              exact e_iret rfl trivial dX11_score_79 ⟨_, rfl, h⟩
        · replace h := h.2 c15
          refine e_bipush (v := (-2)) dX11_score_38 (by decide) ?_
          exact e_iret rfl trivial dX11_score_40 ⟨_, rfl, h⟩
    · replace h := h.2 c8
      refine e_bipush (v := (-2)) dX11_score_21 (by decide) ?_
      exact e_iret rfl trivial dX11_score_23 ⟨_, rfl, h⟩
abbrev H_X11_sitsInMeeting_2 (l : Launch) (q : Int32 → o_M → Prop) (a1 : Nat) (v2 : Int32) (v3 : Int32) (M : o_M) : Prop := E_X11_sitsInMeeting l q 2 [(0, rV (some 16)), (1, rV (some a1)), (2, iV v2), (3, iV v3)] [] M 0 0
theorem w_X11_sitsInMeeting (l : Launch) (a1 : Nat) (p2 : Int32) (t1 : o_ty a1 = .inl 6) (M : o_M) (q : Int32 → o_M → Prop) (h : H_X11_sitsInMeeting_2 l q a1 p2 0 M) : K_X11_sitsInMeeting l [rV (some 16), rV (some a1), iV p2] M q := by
  refine o_ctr (ini := false) (by decide +kernel) rfl (fun z => by cases z) (Nat.le_of_ble_eq_true rfl) ?_
  show E_X11_sitsInMeeting l q 0 [(0, rV (some 16)), (1, rV (some a1)), (2, iV p2)] [] M 0 0
  refine e_iconst (v := 0) dX11_sitsInMeeting_0 (by decide) ?_
  refine e_istore_n (lv' := [(3, iV 0), (0, rV (some 16)), (1, rV (some a1)), (2, iV p2)]) dX11_sitsInMeeting_1 rfl (by decide) rfl ?_
  exact e_lv (List.forall_mem_cons.mpr ⟨rfl, List.forall_mem_cons.mpr ⟨rfl, List.forall_mem_cons.mpr ⟨rfl, List.forall_mem_cons.mpr ⟨rfl, fun _ h => absurd h List.not_mem_nil⟩⟩⟩⟩) h
theorem w_X11_sitsInMeeting_2 (l : Launch) (q : Int32 → o_M → Prop) (a1 : Nat) (t1 : o_ty a1 = .inl 6) (v2 : Int32) (v3 : Int32) (M : o_M) (h : (((mI M 16 13) ≤ v3 → q 0 M) ∧ (¬ (mI M 16 13) ≤ v3 → (mR M 16 2 = some 19 ∧ (vp_in v3 (mN M 19) ∧ (∃ b4, mR M 19 v3.toNatClampNeg = some b4 ∧ o_ty b4 = .inl 6 ∧ ((b4 = a1 → H_X11_sitsInMeeting_2 l q a1 v2 (v3 + 1) M) ∧ (¬ b4 = a1 → K_X6_sits l [rV (some b4), iV v2] M (fun r9 M8 => ((r9 = 0 → H_X11_sitsInMeeting_2 l q a1 v2 (v3 + 1) M8) ∧ (¬ r9 = 0 → K_X6_meets l [rV (some b4), rV (some a1)] M8 (fun r12 M11 => ((r12 = 0 → H_X11_sitsInMeeting_2 l q a1 v2 (v3 + 1) M11) ∧ (¬ r12 = 0 → q 1 M11)))))))))))))) : H_X11_sitsInMeeting_2 l q a1 v2 v3 M := by
  refine e_iload_n dX11_sitsInMeeting_2 rfl rfl ?_
  refine e_aload_n dX11_sitsInMeeting_3 rfl rfl ?_
  refine e_gI flX11_85 rfl rfl dX11_sitsInMeeting_4 ?_
  refine e_ic_ge (tgt := 50) dX11_sitsInMeeting_7 (by decide) (fun c1 => ?_) (fun c1 => ?_)
  · replace h := h.1 c1
    refine e_iconst (v := 0) dX11_sitsInMeeting_50 (by decide) ?_
    exact e_iret rfl rb_0 dX11_sitsInMeeting_51 ⟨_, rfl, h⟩
  · replace h := h.2 c1
    refine e_aload_n dX11_sitsInMeeting_10 rfl rfl ?_
    obtain ⟨o2, h⟩ := h
    refine e_gA flX11_23 rfl rfl o2 dX11_sitsInMeeting_11 ?_
    refine e_iload_n dX11_sitsInMeeting_14 rfl rfl ?_
    obtain ⟨o3, h⟩ := h
    obtain ⟨b4, o5, o6, h⟩ := h
    refine e_aaldS rfl o3 o5 dX11_sitsInMeeting_15 ?_
    refine e_astore (lv' := [(4, rV (some b4)), (0, rV (some 16)), (1, rV (some a1)), (2, iV v2), (3, iV v3)]) (by decide) rfl dX11_sitsInMeeting_16 ?_
    refine e_aload rfl dX11_sitsInMeeting_18 ?_
    refine e_aload_n dX11_sitsInMeeting_20 rfl rfl ?_
    refine e_ac_eq (tgt := 44) (o_16o o6) (o_16o t1) dX11_sitsInMeeting_21 (by decide) (fun c7 => ?_) (fun c7 => ?_)
    · replace h := h.1 c7
      refine e_iinc (v := 1) (lv' := [(3, iV (v3 + 1)), (4, rV (some b4)), (0, rV (some 16)), (1, rV (some a1)), (2, iV v2)]) rfl (by decide) (by decide) rfl dX11_sitsInMeeting_44 ?_
      refine e_goto (tgt := 2) dX11_sitsInMeeting_47 (by decide) ?_
      exact e_lv (List.forall_mem_cons.mpr ⟨rfl, List.forall_mem_cons.mpr ⟨rfl, List.forall_mem_cons.mpr ⟨rfl, List.forall_mem_cons.mpr ⟨rfl, fun _ h => absurd h List.not_mem_nil⟩⟩⟩⟩) h
    · replace h := h.2 c7
      refine e_aload rfl dX11_sitsInMeeting_24 ?_
      refine e_iload_n dX11_sitsInMeeting_26 rfl rfl ?_
      refine e_callV (As := [iV v2]) (st := []) mt_X6_sits in_X6_sits lkX11_360 rfl o6 ⟨by decide, by decide⟩ (Nat.le_of_ble_eq_true rfl) ⟨by decide, by decide⟩ rfl rfl dX11_sitsInMeeting_27 (Ctr.mono h (fun v M8 h => ?_))
      obtain ⟨r9, rfl, h⟩ := h
      show E_X11_sitsInMeeting l q 30 [(4, rV (some b4)), (0, rV (some 16)), (1, rV (some a1)), (2, iV v2), (3, iV v3)] [iV r9] M8 0 0
      refine e_if_eq (tgt := 44) dX11_sitsInMeeting_30 (by decide) (fun c10 => ?_) (fun c10 => ?_)
      · replace h := h.1 c10
        refine e_iinc (v := 1) (lv' := [(3, iV (v3 + 1)), (4, rV (some b4)), (0, rV (some 16)), (1, rV (some a1)), (2, iV v2)]) rfl (by decide) (by decide) rfl dX11_sitsInMeeting_44 ?_
        refine e_goto (tgt := 2) dX11_sitsInMeeting_47 (by decide) ?_
        exact e_lv (List.forall_mem_cons.mpr ⟨rfl, List.forall_mem_cons.mpr ⟨rfl, List.forall_mem_cons.mpr ⟨rfl, List.forall_mem_cons.mpr ⟨rfl, fun _ h => absurd h List.not_mem_nil⟩⟩⟩⟩) h
      · replace h := h.2 c10
        refine e_aload rfl dX11_sitsInMeeting_33 ?_
        refine e_aload_n dX11_sitsInMeeting_35 rfl rfl ?_
        refine e_callV (As := [rV (some a1)]) (st := []) mt_X6_meets in_X6_meets lkX11_418 rfl o6 ⟨by decide, by decide⟩ (Nat.le_of_ble_eq_true rfl) ⟨by decide, by decide⟩ rfl rfl dX11_sitsInMeeting_36 (Ctr.mono h (fun v M11 h => ?_))
        obtain ⟨r12, rfl, h⟩ := h
        show E_X11_sitsInMeeting l q 39 [(4, rV (some b4)), (0, rV (some 16)), (1, rV (some a1)), (2, iV v2), (3, iV v3)] [iV r12] M11 0 0
        refine e_if_eq (tgt := 44) dX11_sitsInMeeting_39 (by decide) (fun c13 => ?_) (fun c13 => ?_)
        · replace h := h.1 c13
          refine e_iinc (v := 1) (lv' := [(3, iV (v3 + 1)), (4, rV (some b4)), (0, rV (some 16)), (1, rV (some a1)), (2, iV v2)]) rfl (by decide) (by decide) rfl dX11_sitsInMeeting_44 ?_
          refine e_goto (tgt := 2) dX11_sitsInMeeting_47 (by decide) ?_
          exact e_lv (List.forall_mem_cons.mpr ⟨rfl, List.forall_mem_cons.mpr ⟨rfl, List.forall_mem_cons.mpr ⟨rfl, List.forall_mem_cons.mpr ⟨rfl, fun _ h => absurd h List.not_mem_nil⟩⟩⟩⟩) h
        · replace h := h.2 c13
          refine e_iconst (v := 1) dX11_sitsInMeeting_42 (by decide) ?_
          exact e_iret rfl rb_1 dX11_sitsInMeeting_43 ⟨_, rfl, h⟩
theorem w_X11_worth (l : Launch) (p1 : Int32) (p2 : Int32) (p3 : Int32) (p4 : Int32) (M : o_M) (q : Int64 → o_M → Prop) (h : K_X11_findService l [rV (some 16), iV p1] M (fun r2 M1 => ((r2 = none → q (-4611686018427387904) M1) ∧ (∀ b3, r2 = some b3 → o_ty b3 = .inl 6 ∧ K_X11_findPlayer l [rV (some 16), iV p2] M1 (fun r7 M6 => ((r7 = none → q (-4611686018427387904) M6) ∧ (∀ b8, r7 = some b8 → o_ty b8 = .inl 2 ∧ K_X11_isInstrument l [iV p3] M6 (fun r12 M11 => ((¬ r12 = 0 → (mR M11 16 3 = some 20 ∧ K_X11_findInForce l [rV (some 16), iV (mI M11 b3 1)] M11 (fun r16 M15 => (vp_in r16 (mN M15 20) ∧ (∃ b18, mR M15 20 r16.toNatClampNeg = some b18 ∧ o_ty b18 = .inl 7 ∧ K_X11_isWithin l [iV p4, iV 0, iV ((mI M15 b18 3) + 1)] M15 (fun r22 M21 => ((¬ r22 = 0 → K_X11_learn l [rV (some 16), rV (some b3), iV p2, iV p3] M21 (fun M24 => (mR M24 16 7 = some 26 ∧ ((2 ≤ p4 → K_X4_reckon l [rV (some 26), rV (some b18), iV (p4 - 2)] M24 (fun r28 M27 => q r28 M27)) ∧ (¬ 2 ≤ p4 → K_X4_reckon l [rV (some 26), rV (some b18), iV ((mI M24 b18 3) + p4)] M24 (fun r30 M29 => q r30 M29)))))) ∧ (r22 = 0 → q (-4611686018427387904) M21)))))))) ∧ (r12 = 0 → q (-4611686018427387904) M11)))))))))) : K_X11_worth l [rV (some 16), iV p1, iV p2, iV p3, iV p4] M q := by
  refine o_ctr (ini := false) (by decide +kernel) rfl (fun z => by cases z) (Nat.le_of_ble_eq_true rfl) ?_
  show E_X11_worth l q 0 [(0, rV (some 16)), (1, iV p1), (2, iV p2), (3, iV p3), (4, iV p4)] [] M 0 0
  refine e_aload_n dX11_worth_0 rfl rfl ?_
  refine e_iload_n dX11_worth_1 rfl rfl ?_
  refine e_callV (As := [iV p1]) (st := []) mt_X11_findService in_X11_findService lkX11_173 rfl rfl ⟨by decide, by decide⟩ (Nat.le_of_ble_eq_true rfl) ⟨by decide, by decide⟩ rfl rfl dX11_worth_2 (Ctr.mono h (fun v M1 h => ?_))
  obtain ⟨r2, rfl, h⟩ := h
  show E_X11_worth l q 5 [(0, rV (some 16)), (1, iV p1), (2, iV p2), (3, iV p3), (4, iV p4)] [rV r2] M1 0 0
  refine e_astore (lv' := [(5, rV r2), (0, rV (some 16)), (1, iV p1), (2, iV p2), (3, iV p3), (4, iV p4)]) (by decide) rfl dX11_worth_5 ?_
  refine e_aload rfl dX11_worth_7 ?_
  refine e_ifnull (tgt := 27) dX11_worth_9 (by decide) (fun c4 => ?_) (fun b3 c4 => ?_)
  · replace h := h.1 c4
    refine e_eq (lv' := [(5, rV none), (0, rV (some 16)), (1, iV p1), (2, iV p2), (3, iV p3), (4, iV p4)]) (st' := []) (by rw [c4]) (by first | rfl | rw [c4]) rfl ?_
    refine e_ldc2 kcX11_245 dX11_worth_27 ?_
    exact e_lret rfl trivial dX11_worth_30 ⟨_, rfl, h⟩
  · obtain ⟨t5, h⟩ := h.2 b3 c4
    refine e_eq (lv' := [(5, rV (some b3)), (0, rV (some 16)), (1, iV p1), (2, iV p2), (3, iV p3), (4, iV p4)]) (st' := []) (by rw [c4]) (by first | rfl | rw [c4]) rfl ?_
    refine e_aload_n dX11_worth_12 rfl rfl ?_
    refine e_iload_n dX11_worth_13 rfl rfl ?_
    refine e_callV (As := [iV p2]) (st := []) mt_X11_findPlayer in_X11_findPlayer lkX11_153 rfl rfl ⟨by decide, by decide⟩ (Nat.le_of_ble_eq_true rfl) ⟨by decide, by decide⟩ rfl rfl dX11_worth_14 (Ctr.mono h (fun v M6 h => ?_))
    obtain ⟨r7, rfl, h⟩ := h
    show E_X11_worth l q 17 [(5, rV (some b3)), (0, rV (some 16)), (1, iV p1), (2, iV p2), (3, iV p3), (4, iV p4)] [rV r7] M6 0 0
    refine e_ifnull (tgt := 27) dX11_worth_17 (by decide) (fun c9 => ?_) (fun b8 c9 => ?_)
    · replace h := h.1 c9
      refine e_eq (lv' := [(5, rV (some b3)), (0, rV (some 16)), (1, iV p1), (2, iV p2), (3, iV p3), (4, iV p4)]) (st' := []) rfl (by first | rfl | rw [c9]) rfl ?_
      refine e_ldc2 kcX11_245 dX11_worth_27 ?_
      exact e_lret rfl trivial dX11_worth_30 ⟨_, rfl, h⟩
    · obtain ⟨t10, h⟩ := h.2 b8 c9
      refine e_eq (lv' := [(5, rV (some b3)), (0, rV (some 16)), (1, iV p1), (2, iV p2), (3, iV p3), (4, iV p4)]) (st' := []) rfl (by first | rfl | rw [c9]) rfl ?_
      refine e_iload_n dX11_worth_20 rfl rfl ?_
      refine e_callS (As := [iV p3]) (st := []) mt_X11_isInstrument is_X11_isInstrument lkX11_148 ⟨by decide, by decide⟩ (Nat.le_of_ble_eq_true rfl) ⟨by decide, by decide⟩ rfl rfl dX11_worth_21 (Ctr.mono h (fun v M11 h => ?_))
      obtain ⟨r12, rfl, h⟩ := h
      show E_X11_worth l q 24 [(5, rV (some b3)), (0, rV (some 16)), (1, iV p1), (2, iV p2), (3, iV p3), (4, iV p4)] [iV r12] M11 0 0
      refine e_if_ne (tgt := 31) dX11_worth_24 (by decide) (fun c13 => ?_) (fun c13 => ?_)
      · replace h := h.1 c13
        refine e_aload_n dX11_worth_31 rfl rfl ?_
        obtain ⟨o14, h⟩ := h
        refine e_gA flX11_29 rfl rfl o14 dX11_worth_32 ?_
        refine e_aload_n dX11_worth_35 rfl rfl ?_
        refine e_aload rfl dX11_worth_36 ?_
        refine e_gI flX11_221 t5 rfl dX11_worth_38 ?_
        refine e_callV (As := [iV (mI M11 b3 1)]) (st := [rV (some 20)]) mt_X11_findInForce in_X11_findInForce lkX11_238 rfl rfl ⟨by decide, by decide⟩ (Nat.le_of_ble_eq_true rfl) ⟨by decide, by decide⟩ rfl rfl dX11_worth_41 (Ctr.mono h (fun v M15 h => ?_))
        obtain ⟨r16, rfl, h⟩ := h
        show E_X11_worth l q 44 [(5, rV (some b3)), (0, rV (some 16)), (1, iV p1), (2, iV p2), (3, iV p3), (4, iV p4)] [iV r16, rV (some 20)] M15 0 0
        obtain ⟨o17, h⟩ := h
        obtain ⟨b18, o19, o20, h⟩ := h
        refine e_aaldS rfl o17 o19 dX11_worth_44 ?_
        refine e_astore (lv' := [(6, rV (some b18)), (5, rV (some b3)), (0, rV (some 16)), (1, iV p1), (2, iV p2), (3, iV p3), (4, iV p4)]) (by decide) rfl dX11_worth_45 ?_
        refine e_iload rfl dX11_worth_47 ?_
        refine e_iconst (v := 0) dX11_worth_49 (by decide) ?_
        refine e_aload rfl dX11_worth_50 ?_
        refine e_gI flX11_247 o20 rfl dX11_worth_52 ?_
        refine e_iconst (v := 1) dX11_worth_55 (by decide) ?_
        refine e_iadd dX11_worth_56 ?_
        refine e_callS (As := [iV p4, iV 0, iV ((mI M15 b18 3) + 1)]) (st := []) mt_X11_isWithin is_X11_isWithin lkX11_124 ⟨by decide, by decide⟩ (Nat.le_of_ble_eq_true rfl) ⟨by decide, by decide⟩ rfl rfl dX11_worth_57 (Ctr.mono h (fun v M21 h => ?_))
        obtain ⟨r22, rfl, h⟩ := h
        show E_X11_worth l q 60 [(6, rV (some b18)), (5, rV (some b3)), (0, rV (some 16)), (1, iV p1), (2, iV p2), (3, iV p3), (4, iV p4)] [iV r22] M21 0 0
        refine e_if_ne (tgt := 67) dX11_worth_60 (by decide) (fun c23 => ?_) (fun c23 => ?_)
        · replace h := h.1 c23
          refine e_aload_n dX11_worth_67 rfl rfl ?_
          refine e_aload rfl dX11_worth_68 ?_
          refine e_iload_n dX11_worth_70 rfl rfl ?_
          refine e_iload_n dX11_worth_71 rfl rfl ?_
          refine e_callV (As := [rV (some b3), iV p2, iV p3]) (st := []) mt_X11_learn in_X11_learn lkX11_250 rfl rfl ⟨by decide, by decide⟩ (Nat.le_of_ble_eq_true rfl) ⟨by decide, by decide⟩ rfl rfl dX11_worth_72 (Ctr.mono h (fun v M24 h => ?_))
          obtain ⟨rfl, h⟩ := h
          show E_X11_worth l q 75 [(6, rV (some b18)), (5, rV (some b3)), (0, rV (some 16)), (1, iV p1), (2, iV p2), (3, iV p3), (4, iV p4)] [] M24 0 0
          refine e_aload_n dX11_worth_75 rfl rfl ?_
          obtain ⟨o25, h⟩ := h
          refine e_gA flX11_53 rfl rfl o25 dX11_worth_76 ?_
          refine e_aload rfl dX11_worth_79 ?_
          refine e_iload rfl dX11_worth_81 ?_
          refine e_iconst (v := 2) dX11_worth_83 (by decide) ?_
          refine e_ic_ge (tgt := 98) dX11_worth_84 (by decide) (fun c26 => ?_) (fun c26 => ?_)
          · replace h := h.1 c26
            refine e_iload rfl dX11_worth_98 ?_
            refine e_iconst (v := 2) dX11_worth_100 (by decide) ?_
            refine e_isub dX11_worth_101 ?_
            refine e_callV (As := [rV (some b18), iV (p4 - 2)]) (st := []) mt_X4_reckon in_X4_reckon lkX11_254 rfl rfl ⟨by decide, by decide⟩ (Nat.le_of_ble_eq_true rfl) ⟨by decide, by decide⟩ rfl rfl dX11_worth_102 (Ctr.mono h (fun v M27 h => ?_))
            obtain ⟨r28, rfl, h⟩ := h
            show E_X11_worth l q 105 [(6, rV (some b18)), (5, rV (some b3)), (0, rV (some 16)), (1, iV p1), (2, iV p2), (3, iV p3), (4, iV p4)] [jV r28] M27 0 0
            exact e_lret rfl trivial dX11_worth_105 ⟨_, rfl, h⟩
          · replace h := h.2 c26
            refine e_aload rfl dX11_worth_87 ?_
            refine e_gI flX11_247 o20 rfl dX11_worth_89 ?_
            refine e_iload rfl dX11_worth_92 ?_
            refine e_iadd dX11_worth_94 ?_
            refine e_goto (tgt := 102) dX11_worth_95 (by decide) ?_
            refine e_callV (As := [rV (some b18), iV ((mI M24 b18 3) + p4)]) (st := []) mt_X4_reckon in_X4_reckon lkX11_254 rfl rfl ⟨by decide, by decide⟩ (Nat.le_of_ble_eq_true rfl) ⟨by decide, by decide⟩ rfl rfl dX11_worth_102 (Ctr.mono h (fun v M29 h => ?_))
            obtain ⟨r30, rfl, h⟩ := h
            show E_X11_worth l q 105 [(6, rV (some b18)), (5, rV (some b3)), (0, rV (some 16)), (1, iV p1), (2, iV p2), (3, iV p3), (4, iV p4)] [jV r30] M29 0 0
            exact e_lret rfl trivial dX11_worth_105 ⟨_, rfl, h⟩
        · replace h := h.2 c23
          refine e_ldc2 kcX11_245 dX11_worth_63 ?_
          exact e_lret rfl trivial dX11_worth_66 ⟨_, rfl, h⟩
      · replace h := h.2 c13
        refine e_ldc2 kcX11_245 dX11_worth_27 ?_
        exact e_lret rfl trivial dX11_worth_30 ⟨_, rfl, h⟩
abbrev H_X1_findOrder_16 (l : Launch) (q : o_M → Prop) (a1 : Nat) (v3 : Int32) (v4 : Int32) (M : o_M) : Prop := E_X1_findOrder l q 16 [(0, rV (some 35)), (1, rV (some a1)), (2, rV (some 17)), (3, iV v3), (4, iV v4)] [] M 0 0
theorem w_X1_findOrder (l : Launch) (a1 : Nat) (t1 : o_ty a1 = .inl 6) (M : o_M) (q : o_M → Prop) (h : K_X1_begin l [rV (some 35), rV (some a1)] M (fun M1 => H_X1_findOrder_16 l q a1 1 0 (sI M1 35 3 1073741824))) : K_X1_findOrder l [rV (some 35), rV (some a1), rV (some 17)] M q := by
  refine o_ctr (ini := false) (by decide +kernel) rfl (fun z => by cases z) (Nat.le_of_ble_eq_true rfl) ?_
  show E_X1_findOrder l q 0 [(0, rV (some 35)), (1, rV (some a1)), (2, rV (some 17))] [] M 0 0
  refine e_aload_n dX1_findOrder_0 rfl rfl ?_
  refine e_aload_n dX1_findOrder_1 rfl rfl ?_
  refine e_callV (As := [rV (some a1)]) (st := []) mt_X1_begin in_X1_begin lkX1_25 rfl rfl ⟨by decide, by decide⟩ (Nat.le_of_ble_eq_true rfl) ⟨by decide, by decide⟩ rfl rfl dX1_findOrder_2 (Ctr.mono h (fun v M1 h => ?_))
  obtain ⟨rfl, h⟩ := h
  show E_X1_findOrder l q 5 [(0, rV (some 35)), (1, rV (some a1)), (2, rV (some 17))] [] M1 0 0
  refine e_iconst (v := 1) dX1_findOrder_5 (by decide) ?_
  refine e_istore_n (lv' := [(3, iV 1), (0, rV (some 35)), (1, rV (some a1)), (2, rV (some 17))]) dX1_findOrder_6 rfl (by decide) rfl ?_
  refine e_aload_n dX1_findOrder_7 rfl rfl ?_
  refine e_ldc kcX1_29 dX1_findOrder_8 ?_
  refine e_pI flX1_22 rfl (Or.inl rfl) rfl rfl rfl dX1_findOrder_10 ?_
  refine e_iconst (v := 0) dX1_findOrder_13 (by decide) ?_
  refine e_istore (lv' := [(4, iV 0), (3, iV 1), (0, rV (some 35)), (1, rV (some a1)), (2, rV (some 17))]) (by decide) rfl dX1_findOrder_14 ?_
  exact e_lv (List.forall_mem_cons.mpr ⟨rfl, List.forall_mem_cons.mpr ⟨rfl, List.forall_mem_cons.mpr ⟨rfl, List.forall_mem_cons.mpr ⟨rfl, List.forall_mem_cons.mpr ⟨rfl, fun _ h => absurd h List.not_mem_nil⟩⟩⟩⟩⟩) h
theorem w_X1_findOrder_16 (l : Launch) (q : o_M → Prop) (a1 : Nat) (t1 : o_ty a1 = .inl 6) (v3 : Int32) (v4 : Int32) (M : o_M) (h : ((120 ≤ v4 → q M) ∧ (¬ 120 ≤ v4 → ((v3 = 0 → q M) ∧ (¬ v3 = 0 → K_X1_sumWait l [rV (some 35), rV (some a1), rV (some 17)] M (fun r5 M4 => (((mI M4 35 3) ≤ r5 → K_X1_nextOrder l [rV (some 35)] M4 (fun r8 M7 => H_X1_findOrder_16 l q a1 r8 (v4 + 1) M7)) ∧ (¬ (mI M4 35 3) ≤ r5 → (mR (sI M4 35 3 r5) 35 0 = some 36 ∧ (mR (sI M4 35 3 r5) 35 1 = some 37 ∧ (o_cpok 0 0 (mI (sI M4 35 3 r5) 35 2) (mN (sI M4 35 3 r5) 36) (mN (sI M4 35 3 r5) 37) ∧ K_X1_nextOrder l [rV (some 35)] (sA (sI M4 35 3 r5) 37 (va_cpy (mI (sI M4 35 3 r5) 36) (mI (sI M4 35 3 r5) 37) (0 : Int32).toNatClampNeg (0 : Int32).toNatClampNeg (mI (sI M4 35 3 r5) 35 2).toNatClampNeg)) (fun r13 M12 => H_X1_findOrder_16 l q a1 r13 (v4 + 1) M12)))))))))))) : H_X1_findOrder_16 l q a1 v3 v4 M := by
  refine e_iload rfl dX1_findOrder_16 ?_
  refine e_bipush (v := 120) dX1_findOrder_18 (by decide) ?_
  refine e_ic_ge (tgt := 78) dX1_findOrder_20 (by decide) (fun c2 => ?_) (fun c2 => ?_)
  · replace h := h.1 c2
    exact e_ret rfl dX1_findOrder_78 ⟨rfl, h⟩
  · replace h := h.2 c2
    refine e_iload_n dX1_findOrder_23 rfl rfl ?_
    refine e_if_eq (tgt := 78) dX1_findOrder_24 (by decide) (fun c3 => ?_) (fun c3 => ?_)
    · replace h := h.1 c3
      exact e_ret rfl dX1_findOrder_78 ⟨rfl, h⟩
    · replace h := h.2 c3
      refine e_aload_n dX1_findOrder_27 rfl rfl ?_
      refine e_aload_n dX1_findOrder_28 rfl rfl ?_
      refine e_aload_n dX1_findOrder_29 rfl rfl ?_
      refine e_callV (As := [rV (some a1), rV (some 17)]) (st := []) mt_X1_sumWait in_X1_sumWait lkX1_30 rfl rfl ⟨by decide, by decide⟩ (Nat.le_of_ble_eq_true rfl) ⟨by decide, by decide⟩ rfl rfl dX1_findOrder_30 (Ctr.mono h (fun v M4 h => ?_))
      obtain ⟨r5, rfl, h⟩ := h
      show E_X1_findOrder l q 33 [(0, rV (some 35)), (1, rV (some a1)), (2, rV (some 17)), (3, iV v3), (4, iV v4)] [iV r5] M4 0 0
      refine e_istore (lv' := [(5, iV r5), (0, rV (some 35)), (1, rV (some a1)), (2, rV (some 17)), (3, iV v3), (4, iV v4)]) (by decide) rfl dX1_findOrder_33 ?_
      refine e_iload rfl dX1_findOrder_35 ?_
      refine e_aload_n dX1_findOrder_37 rfl rfl ?_
      refine e_gI flX1_22 rfl rfl dX1_findOrder_38 ?_
      refine e_ic_ge (tgt := 67) dX1_findOrder_41 (by decide) (fun c6 => ?_) (fun c6 => ?_)
      · replace h := h.1 c6
        refine e_aload_n dX1_findOrder_67 rfl rfl ?_
        refine e_callV (As := []) (st := []) mt_X1_nextOrder in_X1_nextOrder lkX1_40 rfl rfl ⟨by decide, by decide⟩ (Nat.le_of_ble_eq_true rfl) ⟨by decide, by decide⟩ rfl rfl dX1_findOrder_68 (Ctr.mono h (fun v M7 h => ?_))
        obtain ⟨r8, rfl, h⟩ := h
        show E_X1_findOrder l q 71 [(5, iV r5), (0, rV (some 35)), (1, rV (some a1)), (2, rV (some 17)), (3, iV v3), (4, iV v4)] [iV r8] M7 0 0
        refine e_istore_n (lv' := [(3, iV r8), (5, iV r5), (0, rV (some 35)), (1, rV (some a1)), (2, rV (some 17)), (4, iV v4)]) dX1_findOrder_71 rfl (by decide) rfl ?_
        refine e_iinc (v := 1) (lv' := [(4, iV (v4 + 1)), (3, iV r8), (5, iV r5), (0, rV (some 35)), (1, rV (some a1)), (2, rV (some 17))]) rfl (by decide) (by decide) rfl dX1_findOrder_72 ?_
        refine e_goto (tgt := 16) dX1_findOrder_75 (by decide) ?_
        exact e_lv (List.forall_mem_cons.mpr ⟨rfl, List.forall_mem_cons.mpr ⟨rfl, List.forall_mem_cons.mpr ⟨rfl, List.forall_mem_cons.mpr ⟨rfl, List.forall_mem_cons.mpr ⟨rfl, fun _ h => absurd h List.not_mem_nil⟩⟩⟩⟩⟩) h
      · replace h := h.2 c6
        refine e_aload_n dX1_findOrder_44 rfl rfl ?_
        refine e_iload rfl dX1_findOrder_45 ?_
        refine e_pI flX1_22 rfl (Or.inl rfl) rfl rfl rfl dX1_findOrder_47 ?_
        refine e_aload_n dX1_findOrder_50 rfl rfl ?_
        obtain ⟨o9, h⟩ := h
        refine e_gA flX1_9 rfl rfl o9 dX1_findOrder_51 ?_
        refine e_iconst (v := 0) dX1_findOrder_54 (by decide) ?_
        refine e_aload_n dX1_findOrder_55 rfl rfl ?_
        obtain ⟨o10, h⟩ := h
        refine e_gA flX1_15 rfl rfl o10 dX1_findOrder_56 ?_
        refine e_iconst (v := 0) dX1_findOrder_59 (by decide) ?_
        refine e_aload_n dX1_findOrder_60 rfl rfl ?_
        refine e_gI flX1_18 rfl rfl dX1_findOrder_61 ?_
        obtain ⟨o11, h⟩ := h
        refine e_copyI wcX1_34 rfl rfl o11 (by decide) (Nat.le_of_ble_eq_true rfl) (by decide) dX1_findOrder_64 ?_
        refine e_aload_n dX1_findOrder_67 rfl rfl ?_
        refine e_callV (As := []) (st := []) mt_X1_nextOrder in_X1_nextOrder lkX1_40 rfl rfl ⟨by decide, by decide⟩ (Nat.le_of_ble_eq_true rfl) ⟨by decide, by decide⟩ rfl rfl dX1_findOrder_68 (Ctr.mono h (fun v M12 h => ?_))
        obtain ⟨r13, rfl, h⟩ := h
        show E_X1_findOrder l q 71 [(5, iV r5), (0, rV (some 35)), (1, rV (some a1)), (2, rV (some 17)), (3, iV v3), (4, iV v4)] [iV r13] M12 0 0
        refine e_istore_n (lv' := [(3, iV r13), (5, iV r5), (0, rV (some 35)), (1, rV (some a1)), (2, rV (some 17)), (4, iV v4)]) dX1_findOrder_71 rfl (by decide) rfl ?_
        refine e_iinc (v := 1) (lv' := [(4, iV (v4 + 1)), (3, iV r13), (5, iV r5), (0, rV (some 35)), (1, rV (some a1)), (2, rV (some 17))]) rfl (by decide) (by decide) rfl dX1_findOrder_72 ?_
        refine e_goto (tgt := 16) dX1_findOrder_75 (by decide) ?_
        exact e_lv (List.forall_mem_cons.mpr ⟨rfl, List.forall_mem_cons.mpr ⟨rfl, List.forall_mem_cons.mpr ⟨rfl, List.forall_mem_cons.mpr ⟨rfl, List.forall_mem_cons.mpr ⟨rfl, fun _ h => absurd h List.not_mem_nil⟩⟩⟩⟩⟩) h
abbrev H_X5_settle_2 (l : Launch) (q : o_M → Prop) (v1 : Int32) (v2 : Int32) (M : o_M) : Prop := E_X5_settle l q 2 [(0, rV (some 29)), (1, iV v1), (2, iV v2)] [] M 0 0
theorem w_X5_settle (l : Launch) (p1 : Int32) (M : o_M) (q : o_M → Prop) (h : H_X5_settle_2 l q p1 0 M) : K_X5_settle l [rV (some 29), iV p1] M q := by
  refine o_ctr (ini := false) (by decide +kernel) rfl (fun z => by cases z) (Nat.le_of_ble_eq_true rfl) ?_
  show E_X5_settle l q 0 [(0, rV (some 29)), (1, iV p1)] [] M 0 0
  refine e_iconst (v := 0) dX5_settle_0 (by decide) ?_
  refine e_istore_n (lv' := [(2, iV 0), (0, rV (some 29)), (1, iV p1)]) dX5_settle_1 rfl (by decide) rfl ?_
  exact e_lv (List.forall_mem_cons.mpr ⟨rfl, List.forall_mem_cons.mpr ⟨rfl, List.forall_mem_cons.mpr ⟨rfl, fun _ h => absurd h List.not_mem_nil⟩⟩⟩) h
theorem w_X5_settle_2 (l : Launch) (q : o_M → Prop) (v1 : Int32) (v2 : Int32) (M : o_M) (h : ((10 ≤ v2 → q M) ∧ (¬ 10 ≤ v2 → (mR M 29 0 = some 30 ∧ (vp_in v1 (mN M 30) ∧ (((((mI M 30 v1.toNatClampNeg) &&& ((mI M 29 6) ^^^ (-1))) &&& ((1 : Int32) <<< (v2 &&& 31))) = 0 → H_X5_settle_2 l q v1 (v2 + 1) M) ∧ (¬ (((mI M 30 v1.toNatClampNeg) &&& ((mI M 29 6) ^^^ (-1))) &&& ((1 : Int32) <<< (v2 &&& 31))) = 0 → K_X5_canTake l [rV (some 29), iV v1, iV v2] M (fun r6 M5 => ((r6 = 0 → H_X5_settle_2 l q v1 (v2 + 1) M5) ∧ (¬ r6 = 0 → q (sI M5 29 6 ((mI M5 29 6) ||| ((1 : Int32) <<< (v2 &&& 31)))))))))))))) : H_X5_settle_2 l q v1 v2 M := by
  refine e_iload_n dX5_settle_2 rfl rfl ?_
  refine e_bipush (v := 10) dX5_settle_3 (by decide) ?_
  refine e_ic_ge (tgt := 56) dX5_settle_5 (by decide) (fun c1 => ?_) (fun c1 => ?_)
  · replace h := h.1 c1
    exact e_ret rfl dX5_settle_56 ⟨rfl, h⟩
  · replace h := h.2 c1
    refine e_iconst (v := 1) dX5_settle_8 (by decide) ?_
    refine e_iload_n dX5_settle_9 rfl rfl ?_
    refine e_ishl dX5_settle_10 ?_
    refine e_istore_n (lv' := [(3, iV ((1 : Int32) <<< (v2 &&& 31))), (0, rV (some 29)), (1, iV v1), (2, iV v2)]) dX5_settle_11 rfl (by decide) rfl ?_
    refine e_aload_n dX5_settle_12 rfl rfl ?_
    obtain ⟨o2, h⟩ := h
    refine e_gA flX5_9 rfl rfl o2 dX5_settle_13 ?_
    refine e_iload_n dX5_settle_16 rfl rfl ?_
    obtain ⟨o3, h⟩ := h
    refine e_iald rfl o3 dX5_settle_17 ?_
    refine e_aload_n dX5_settle_18 rfl rfl ?_
    refine e_gI flX5_31 rfl rfl dX5_settle_19 ?_
    refine e_iconst (v := (-1)) dX5_settle_22 (by decide) ?_
    refine e_ixor dX5_settle_23 ?_
    refine e_iand dX5_settle_24 ?_
    refine e_iload_n dX5_settle_25 rfl rfl ?_
    refine e_iand dX5_settle_26 ?_
    refine e_if_eq (tgt := 50) dX5_settle_27 (by decide) (fun c4 => ?_) (fun c4 => ?_)
    · replace h := h.1 c4
      refine e_iinc (v := 1) (lv' := [(2, iV (v2 + 1)), (3, iV ((1 : Int32) <<< (v2 &&& 31))), (0, rV (some 29)), (1, iV v1)]) rfl (by decide) (by decide) rfl dX5_settle_50 ?_
      refine e_goto (tgt := 2) dX5_settle_53 (by decide) ?_
      exact e_lv (List.forall_mem_cons.mpr ⟨rfl, List.forall_mem_cons.mpr ⟨rfl, List.forall_mem_cons.mpr ⟨rfl, fun _ h => absurd h List.not_mem_nil⟩⟩⟩) h
    · replace h := h.2 c4
      refine e_aload_n dX5_settle_30 rfl rfl ?_
      refine e_iload_n dX5_settle_31 rfl rfl ?_
      refine e_iload_n dX5_settle_32 rfl rfl ?_
      refine e_callV (As := [iV v1, iV v2]) (st := []) mt_X5_canTake in_X5_canTake lkX5_61 rfl rfl ⟨by decide, by decide⟩ (Nat.le_of_ble_eq_true rfl) ⟨by decide, by decide⟩ rfl rfl dX5_settle_33 (Ctr.mono h (fun v M5 h => ?_))
      obtain ⟨r6, rfl, h⟩ := h
      show E_X5_settle l q 36 [(3, iV ((1 : Int32) <<< (v2 &&& 31))), (0, rV (some 29)), (1, iV v1), (2, iV v2)] [iV r6] M5 0 0
      refine e_if_eq (tgt := 50) dX5_settle_36 (by decide) (fun c7 => ?_) (fun c7 => ?_)
      · replace h := h.1 c7
        refine e_iinc (v := 1) (lv' := [(2, iV (v2 + 1)), (3, iV ((1 : Int32) <<< (v2 &&& 31))), (0, rV (some 29)), (1, iV v1)]) rfl (by decide) (by decide) rfl dX5_settle_50 ?_
        refine e_goto (tgt := 2) dX5_settle_53 (by decide) ?_
        exact e_lv (List.forall_mem_cons.mpr ⟨rfl, List.forall_mem_cons.mpr ⟨rfl, List.forall_mem_cons.mpr ⟨rfl, fun _ h => absurd h List.not_mem_nil⟩⟩⟩) h
      · replace h := h.2 c7
        refine e_aload_n dX5_settle_39 rfl rfl ?_
        refine e_dup rfl dX5_settle_40 ?_
        refine e_gI flX5_31 rfl rfl dX5_settle_41 ?_
        refine e_iload_n dX5_settle_44 rfl rfl ?_
        refine e_ior dX5_settle_45 ?_
        refine e_pI flX5_31 rfl (Or.inl rfl) rfl rfl rfl dX5_settle_46 ?_
        exact e_ret rfl dX5_settle_49 ⟨rfl, h⟩
abbrev H_X6_addWork_40 (l : Launch) (q : o_M → Prop) (a0 : Nat) (a2 : Nat) (v3 : Int32) (M : o_M) : Prop := E_X6_addWork l q 40 [(0, rV (some a0)), (2, rV (some a2)), (3, iV v3)] [] M 0 0
theorem w_X6_addWork (l : Launch) (a0 : Nat) (p1 : Int32) (a2 : Nat) (t0 : o_ty a0 = .inl 6) (t2 : o_ty a2 = .inl 10) (M : o_M) (q : o_M → Prop) (h : (((mI M a0 7) < 5 → (mR M a0 4 = some (a0 + 1) ∧ (vp_in (mI M a0 7) (mN M (a0 + 1)) ∧ K_X6_chairsWith l [rV (some a0), rV (some a2)] (sI (sI M (a0 + 1) ((mI M a0 7).toNatClampNeg) p1) a0 7 ((mI (sI M (a0 + 1) ((mI M a0 7).toNatClampNeg) p1) a0 7) + 1)) (fun r5 M4 => H_X6_addWork_40 l q a0 a2 0 (sI M4 a0 8 r5))))) ∧ (¬ (mI M a0 7) < 5 → q M))) : K_X6_addWork l [rV (some a0), iV p1, rV (some a2)] M q := by
  refine o_ctr (ini := false) (by decide +kernel) rfl (fun z => by cases z) (Nat.le_of_ble_eq_true rfl) ?_
  show E_X6_addWork l q 0 [(0, rV (some a0)), (1, iV p1), (2, rV (some a2))] [] M 0 0
  refine e_aload_n dX6_addWork_0 rfl rfl ?_
  refine e_gI flX6_21 t0 rfl dX6_addWork_1 ?_
  refine e_iconst (v := 5) dX6_addWork_4 (by decide) ?_
  refine e_ic_lt (tgt := 9) dX6_addWork_5 (by decide) (fun c1 => ?_) (fun c1 => ?_)
  · replace h := h.1 c1
    refine e_aload_n dX6_addWork_9 rfl rfl ?_
    obtain ⟨o2, h⟩ := h
    refine e_gA flX6_9 t0 rfl o2 dX6_addWork_10 ?_
    refine e_aload_n dX6_addWork_13 rfl rfl ?_
    refine e_gI flX6_21 t0 rfl dX6_addWork_14 ?_
    refine e_iload_n dX6_addWork_17 rfl rfl ?_
    obtain ⟨o3, h⟩ := h
    refine e_iast ((o_sub6 t0).2.1) o3 dX6_addWork_18 ?_
    refine e_aload_n dX6_addWork_19 rfl rfl ?_
    refine e_dup rfl dX6_addWork_20 ?_
    refine e_gI flX6_21 t0 rfl dX6_addWork_21 ?_
    refine e_iconst (v := 1) dX6_addWork_24 (by decide) ?_
    refine e_iadd dX6_addWork_25 ?_
    refine e_pI flX6_21 t0 (Or.inl rfl) rfl rfl rfl dX6_addWork_26 ?_
    refine e_aload_n dX6_addWork_29 rfl rfl ?_
    refine e_aload_n dX6_addWork_30 rfl rfl ?_
    refine e_aload_n dX6_addWork_31 rfl rfl ?_
    refine e_callV (As := [rV (some a2)]) (st := [rV (some a0)]) mt_X6_chairsWith in_X6_chairsWith lkX6_83 rfl t0 ⟨by decide, by decide⟩ (Nat.le_of_ble_eq_true rfl) ⟨by decide, by decide⟩ rfl rfl dX6_addWork_32 (Ctr.mono h (fun v M4 h => ?_))
    obtain ⟨r5, rfl, h⟩ := h
    show E_X6_addWork l q 35 [(0, rV (some a0)), (1, iV p1), (2, rV (some a2))] [iV r5, rV (some a0)] M4 0 0
    refine e_pI flX6_25 t0 (Or.inl rfl) rfl rfl rfl dX6_addWork_35 ?_
    refine e_iconst (v := 0) dX6_addWork_38 (by decide) ?_
    refine e_istore_n (lv' := [(3, iV 0), (0, rV (some a0)), (1, iV p1), (2, rV (some a2))]) dX6_addWork_39 rfl (by decide) rfl ?_
    exact e_lv (List.forall_mem_cons.mpr ⟨rfl, List.forall_mem_cons.mpr ⟨rfl, List.forall_mem_cons.mpr ⟨rfl, fun _ h => absurd h List.not_mem_nil⟩⟩⟩) h
  · replace h := h.2 c1
    exact e_ret rfl dX6_addWork_8 ⟨rfl, h⟩
theorem w_X6_addWork_40 (l : Launch) (q : o_M → Prop) (a0 : Nat) (a2 : Nat) (t0 : o_ty a0 = .inl 6) (t2 : o_ty a2 = .inl 10) (v3 : Int32) (M : o_M) (h : ((6 ≤ v3 → q M) ∧ (¬ 6 ≤ v3 → (mR M a0 5 = some (a0 + 2) ∧ K_X6_needWith l [rV (some a0), rV (some a2), iV v3] M (fun r9 M8 => (vp_in v3 (mN M8 (a0 + 2)) ∧ H_X6_addWork_40 l q a0 a2 (v3 + 1) (sI M8 (a0 + 2) v3.toNatClampNeg r9))))))) : H_X6_addWork_40 l q a0 a2 v3 M := by
  refine e_iload_n dX6_addWork_40 rfl rfl ?_
  refine e_bipush (v := 6) dX6_addWork_41 (by decide) ?_
  refine e_ic_ge (tgt := 64) dX6_addWork_43 (by decide) (fun c6 => ?_) (fun c6 => ?_)
  · replace h := h.1 c6
    exact e_ret rfl dX6_addWork_64 ⟨rfl, h⟩
  · replace h := h.2 c6
    refine e_aload_n dX6_addWork_46 rfl rfl ?_
    obtain ⟨o7, h⟩ := h
    refine e_gA flX6_15 t0 rfl o7 dX6_addWork_47 ?_
    refine e_iload_n dX6_addWork_50 rfl rfl ?_
    refine e_aload_n dX6_addWork_51 rfl rfl ?_
    refine e_aload_n dX6_addWork_52 rfl rfl ?_
    refine e_iload_n dX6_addWork_53 rfl rfl ?_
    refine e_callV (As := [rV (some a2), iV v3]) (st := [iV v3, rV (some (a0 + 2))]) mt_X6_needWith in_X6_needWith lkX6_79 rfl t0 ⟨by decide, by decide⟩ (Nat.le_of_ble_eq_true rfl) ⟨by decide, by decide⟩ rfl rfl dX6_addWork_54 (Ctr.mono h (fun v M8 h => ?_))
    obtain ⟨r9, rfl, h⟩ := h
    show E_X6_addWork l q 57 [(0, rV (some a0)), (2, rV (some a2)), (3, iV v3)] [iV r9, iV v3, rV (some (a0 + 2))] M8 0 0
    obtain ⟨o10, h⟩ := h
    refine e_iast ((o_sub6 t0).2.2.1) o10 dX6_addWork_57 ?_
    refine e_iinc (v := 1) (lv' := [(3, iV (v3 + 1)), (0, rV (some a0)), (2, rV (some a2))]) rfl (by decide) (by decide) rfl dX6_addWork_58 ?_
    refine e_goto (tgt := 40) dX6_addWork_61 (by decide) ?_
    exact e_lv (List.forall_mem_cons.mpr ⟨rfl, List.forall_mem_cons.mpr ⟨rfl, List.forall_mem_cons.mpr ⟨rfl, fun _ h => absurd h List.not_mem_nil⟩⟩⟩) h
theorem w_X11_call (l : Launch) (p1 : Int32) (p2 : Int32) (M : o_M) (q : Int32 → o_M → Prop) (h : K_X11_findService l [rV (some 16), iV p1] M (fun r2 M1 => K_X11_findWork l [rV (some 16), iV p2] M1 (fun r4 M3 => ((r2 = none → q (-2) M3) ∧ (∀ b5, r2 = some b5 → o_ty b5 = .inl 6 ∧ ((r4 = none → q (-2) M3) ∧ (∀ b8, r4 = some b8 → o_ty b8 = .inl 10 ∧ ((¬ (mI M3 b5 11) = 0 → q (-3) M3) ∧ ((mI M3 b5 11) = 0 → K_X6_hasWork l [rV (some b5), iV p2] M3 (fun r13 M12 => ((¬ r13 = 0 → q (-3) M12) ∧ (r13 = 0 → K_X6_chairsWith l [rV (some b5), rV (some b8)] M12 (fun r16 M15 => ((r16 ≤ 12 → (((mI M15 b5 7) < 5 → K_X6_addWork l [rV (some b5), iV p2, rV (some b8)] M15 (fun M19 => q (mI M19 b5 7) M19)) ∧ (¬ (mI M15 b5 7) < 5 → q (-4) M15))) ∧ (¬ r16 ≤ 12 → q (-3) M15))))))))))))))) : K_X11_call l [rV (some 16), iV p1, iV p2] M q := by
  refine o_ctr (ini := false) (by decide +kernel) rfl (fun z => by cases z) (Nat.le_of_ble_eq_true rfl) ?_
  show E_X11_call l q 0 [(0, rV (some 16)), (1, iV p1), (2, iV p2)] [] M 0 0
  refine e_aload_n dX11_call_0 rfl rfl ?_
  refine e_iload_n dX11_call_1 rfl rfl ?_
  refine e_callV (As := [iV p1]) (st := []) mt_X11_findService in_X11_findService lkX11_173 rfl rfl ⟨by decide, by decide⟩ (Nat.le_of_ble_eq_true rfl) ⟨by decide, by decide⟩ rfl rfl dX11_call_2 (Ctr.mono h (fun v M1 h => ?_))
  obtain ⟨r2, rfl, h⟩ := h
  show E_X11_call l q 5 [(0, rV (some 16)), (1, iV p1), (2, iV p2)] [rV r2] M1 0 0
  refine e_astore_n (lv' := [(3, rV r2), (0, rV (some 16)), (1, iV p1), (2, iV p2)]) dX11_call_5 rfl (by decide) rfl ?_
  refine e_aload_n dX11_call_6 rfl rfl ?_
  refine e_iload_n dX11_call_7 rfl rfl ?_
  refine e_callV (As := [iV p2]) (st := []) mt_X11_findWork in_X11_findWork lkX11_131 rfl rfl ⟨by decide, by decide⟩ (Nat.le_of_ble_eq_true rfl) ⟨by decide, by decide⟩ rfl rfl dX11_call_8 (Ctr.mono h (fun v M3 h => ?_))
  obtain ⟨r4, rfl, h⟩ := h
  show E_X11_call l q 11 [(3, rV r2), (0, rV (some 16)), (1, iV p1), (2, iV p2)] [rV r4] M3 0 0
  refine e_astore (lv' := [(4, rV r4), (3, rV r2), (0, rV (some 16)), (1, iV p1), (2, iV p2)]) (by decide) rfl dX11_call_11 ?_
  refine e_aload_n dX11_call_13 rfl rfl ?_
  refine e_ifnull (tgt := 22) dX11_call_14 (by decide) (fun c6 => ?_) (fun b5 c6 => ?_)
  · replace h := h.1 c6
    refine e_eq (lv' := [(4, rV r4), (3, rV none), (0, rV (some 16)), (1, iV p1), (2, iV p2)]) (st' := []) (by rw [c6]) (by first | rfl | rw [c6]) rfl ?_
    refine e_bipush (v := (-2)) dX11_call_22 (by decide) ?_
    exact e_iret rfl trivial dX11_call_24 ⟨_, rfl, h⟩
  · obtain ⟨t7, h⟩ := h.2 b5 c6
    refine e_eq (lv' := [(4, rV r4), (3, rV (some b5)), (0, rV (some 16)), (1, iV p1), (2, iV p2)]) (st' := []) (by rw [c6]) (by first | rfl | rw [c6]) rfl ?_
    refine e_aload rfl dX11_call_17 ?_
    refine e_ifnonnull (tgt := 25) dX11_call_19 (by decide) (fun b8 c9 => ?_) (fun c9 => ?_)
    · obtain ⟨t10, h⟩ := h.2 b8 c9
      refine e_eq (lv' := [(4, rV (some b8)), (3, rV (some b5)), (0, rV (some 16)), (1, iV p1), (2, iV p2)]) (st' := []) (by rw [c9]) (by first | rfl | rw [c9]) rfl ?_
      refine e_aload_n dX11_call_25 rfl rfl ?_
      refine e_gI flX11_177 t7 rfl dX11_call_26 ?_
      refine e_if_ne (tgt := 51) dX11_call_29 (by decide) (fun c11 => ?_) (fun c11 => ?_)
      · replace h := h.1 c11
        refine e_bipush (v := (-3)) dX11_call_51 (by decide) ?_
        exact e_iret rfl trivial dX11_call_53 ⟨_, rfl, h⟩
      · replace h := h.2 c11
        refine e_aload_n dX11_call_32 rfl rfl ?_
        refine e_iload_n dX11_call_33 rfl rfl ?_
        refine e_callV (As := [iV p2]) (st := []) mt_X6_hasWork in_X6_hasWork lkX11_181 rfl t7 ⟨by decide, by decide⟩ (Nat.le_of_ble_eq_true rfl) ⟨by decide, by decide⟩ rfl rfl dX11_call_34 (Ctr.mono h (fun v M12 h => ?_))
        obtain ⟨r13, rfl, h⟩ := h
        show E_X11_call l q 37 [(4, rV (some b8)), (3, rV (some b5)), (0, rV (some 16)), (1, iV p1), (2, iV p2)] [iV r13] M12 0 0
        refine e_if_ne (tgt := 51) dX11_call_37 (by decide) (fun c14 => ?_) (fun c14 => ?_)
        · replace h := h.1 c14
          refine e_bipush (v := (-3)) dX11_call_51 (by decide) ?_
          exact e_iret rfl trivial dX11_call_53 ⟨_, rfl, h⟩
        · replace h := h.2 c14
          refine e_aload_n dX11_call_40 rfl rfl ?_
          refine e_aload rfl dX11_call_41 ?_
          refine e_callV (As := [rV (some b8)]) (st := []) mt_X6_chairsWith in_X6_chairsWith lkX11_184 rfl t7 ⟨by decide, by decide⟩ (Nat.le_of_ble_eq_true rfl) ⟨by decide, by decide⟩ rfl rfl dX11_call_43 (Ctr.mono h (fun v M15 h => ?_))
          obtain ⟨r16, rfl, h⟩ := h
          show E_X11_call l q 46 [(4, rV (some b8)), (3, rV (some b5)), (0, rV (some 16)), (1, iV p1), (2, iV p2)] [iV r16] M15 0 0
          refine e_bipush (v := 12) dX11_call_46 (by decide) ?_
          refine e_ic_le (tgt := 54) dX11_call_48 (by decide) (fun c17 => ?_) (fun c17 => ?_)
          · replace h := h.1 c17
            refine e_aload_n dX11_call_54 rfl rfl ?_
            refine e_gI flX11_188 t7 rfl dX11_call_55 ?_
            refine e_iconst (v := 5) dX11_call_58 (by decide) ?_
            refine e_ic_lt (tgt := 65) dX11_call_59 (by decide) (fun c18 => ?_) (fun c18 => ?_)
            · replace h := h.1 c18
              refine e_aload_n dX11_call_65 rfl rfl ?_
              refine e_iload_n dX11_call_66 rfl rfl ?_
              refine e_aload rfl dX11_call_67 ?_
              refine e_callV (As := [iV p2, rV (some b8)]) (st := []) mt_X6_addWork in_X6_addWork lkX11_189 rfl t7 ⟨by decide, by decide⟩ (Nat.le_of_ble_eq_true rfl) ⟨by decide, by decide⟩ rfl rfl dX11_call_69 (Ctr.mono h (fun v M19 h => ?_))
              obtain ⟨rfl, h⟩ := h
              show E_X11_call l q 72 [(4, rV (some b8)), (3, rV (some b5)), (0, rV (some 16)), (1, iV p1), (2, iV p2)] [] M19 0 0
              refine e_aload_n dX11_call_72 rfl rfl ?_
              refine e_gI flX11_188 t7 rfl dX11_call_73 ?_
              exact e_iret rfl trivial dX11_call_76 ⟨_, rfl, h⟩
            · replace h := h.2 c18
              refine e_bipush (v := (-4)) dX11_call_62 (by decide) ?_
              exact e_iret rfl trivial dX11_call_64 ⟨_, rfl, h⟩
          · replace h := h.2 c17
            refine e_bipush (v := (-3)) dX11_call_51 (by decide) ?_
            exact e_iret rfl trivial dX11_call_53 ⟨_, rfl, h⟩
    · replace h := h.1 c9
      refine e_eq (lv' := [(4, rV none), (3, rV (some b5)), (0, rV (some 16)), (1, iV p1), (2, iV p2)]) (st' := []) (by rw [c9]) (by first | rfl | rw [c9]) rfl ?_
      refine e_bipush (v := (-2)) dX11_call_22 (by decide) ?_
      exact e_iret rfl trivial dX11_call_24 ⟨_, rfl, h⟩
abbrev H_X11_findHindrance_69 (l : Launch) (q : Int32 → o_M → Prop) (w5 : Nat) (v6 : Int32) (M : o_M) : Prop := E_X11_findHindrance l q 69 [(0, rV (some 16)), (5, rV (some w5)), (6, iV v6)] [] M 0 0
theorem w_X11_findHindrance (l : Launch) (a1 : Nat) (p2 : Int32) (p3 : Int32) (t1 : o_ty a1 = .inl 6) (M : o_M) (q : Int32 → o_M → Prop) (h : (mR M 16 1 = some 18 ∧ (vp_in p2 (mN M 18) ∧ (∃ b3, mR M 18 p2.toNatClampNeg = some b3 ∧ o_ty b3 = .inl 2 ∧ K_X2_plays l [rV (some b3), iV p3] M (fun r7 M6 => ((¬ r7 = 0 → K_X2_hasLeave l [rV (some b3), iV (mI M6 a1 1)] M6 (fun r10 M9 => ((r10 = 0 → K_X11_sitsInMeeting l [rV (some 16), rV (some a1), iV p2] M9 (fun r13 M12 => ((r13 = 0 → (mR M12 16 3 = some 20 ∧ K_X11_findInForce l [rV (some 16), iV (mI M12 a1 1)] M12 (fun r17 M16 => (vp_in r17 (mN M16 20) ∧ (∃ b19, mR M16 20 r17.toNatClampNeg = some b19 ∧ o_ty b19 = .inl 7 ∧ K_X11_learn l [rV (some 16), rV (some a1), iV p2, iV p3] M16 (fun M22 => H_X11_findHindrance_69 l q b19 0 M22)))))) ∧ (¬ r13 = 0 → q 3 M12)))) ∧ (¬ r10 = 0 → q 2 M9)))) ∧ (r7 = 0 → q 1 M6))))))) : K_X11_findHindrance l [rV (some 16), rV (some a1), iV p2, iV p3] M q := by
  refine o_ctr (ini := false) (by decide +kernel) rfl (fun z => by cases z) (Nat.le_of_ble_eq_true rfl) ?_
  show E_X11_findHindrance l q 0 [(0, rV (some 16)), (1, rV (some a1)), (2, iV p2), (3, iV p3)] [] M 0 0
  refine e_aload_n dX11_findHindrance_0 rfl rfl ?_
  obtain ⟨o1, h⟩ := h
  refine e_gA flX11_17 rfl rfl o1 dX11_findHindrance_1 ?_
  refine e_iload_n dX11_findHindrance_4 rfl rfl ?_
  obtain ⟨o2, h⟩ := h
  obtain ⟨b3, o4, o5, h⟩ := h
  refine e_aaldS rfl o2 o4 dX11_findHindrance_5 ?_
  refine e_astore (lv' := [(4, rV (some b3)), (0, rV (some 16)), (1, rV (some a1)), (2, iV p2), (3, iV p3)]) (by decide) rfl dX11_findHindrance_6 ?_
  refine e_aload rfl dX11_findHindrance_8 ?_
  refine e_iload_n dX11_findHindrance_10 rfl rfl ?_
  refine e_callV (As := [iV p3]) (st := []) mt_X2_plays in_X2_plays lkX11_411 rfl o5 ⟨by decide, by decide⟩ (Nat.le_of_ble_eq_true rfl) ⟨by decide, by decide⟩ rfl rfl dX11_findHindrance_11 (Ctr.mono h (fun v M6 h => ?_))
  obtain ⟨r7, rfl, h⟩ := h
  show E_X11_findHindrance l q 14 [(4, rV (some b3)), (0, rV (some 16)), (1, rV (some a1)), (2, iV p2), (3, iV p3)] [iV r7] M6 0 0
  refine e_if_ne (tgt := 19) dX11_findHindrance_14 (by decide) (fun c8 => ?_) (fun c8 => ?_)
  · replace h := h.1 c8
    refine e_aload rfl dX11_findHindrance_19 ?_
    refine e_aload_n dX11_findHindrance_21 rfl rfl ?_
    refine e_gI flX11_221 t1 rfl dX11_findHindrance_22 ?_
    refine e_callV (As := [iV (mI M6 a1 1)]) (st := []) mt_X2_hasLeave in_X2_hasLeave lkX11_295 rfl o5 ⟨by decide, by decide⟩ (Nat.le_of_ble_eq_true rfl) ⟨by decide, by decide⟩ rfl rfl dX11_findHindrance_25 (Ctr.mono h (fun v M9 h => ?_))
    obtain ⟨r10, rfl, h⟩ := h
    show E_X11_findHindrance l q 28 [(4, rV (some b3)), (0, rV (some 16)), (1, rV (some a1)), (2, iV p2), (3, iV p3)] [iV r10] M9 0 0
    refine e_if_eq (tgt := 33) dX11_findHindrance_28 (by decide) (fun c11 => ?_) (fun c11 => ?_)
    · replace h := h.1 c11
      refine e_aload_n dX11_findHindrance_33 rfl rfl ?_
      refine e_aload_n dX11_findHindrance_34 rfl rfl ?_
      refine e_iload_n dX11_findHindrance_35 rfl rfl ?_
      refine e_callV (As := [rV (some a1), iV p2]) (st := []) mt_X11_sitsInMeeting in_X11_sitsInMeeting lkX11_414 rfl rfl ⟨by decide, by decide⟩ (Nat.le_of_ble_eq_true rfl) ⟨by decide, by decide⟩ rfl rfl dX11_findHindrance_36 (Ctr.mono h (fun v M12 h => ?_))
      obtain ⟨r13, rfl, h⟩ := h
      show E_X11_findHindrance l q 39 [(4, rV (some b3)), (0, rV (some 16)), (1, rV (some a1)), (2, iV p2), (3, iV p3)] [iV r13] M12 0 0
      refine e_if_eq (tgt := 44) dX11_findHindrance_39 (by decide) (fun c14 => ?_) (fun c14 => ?_)
      · replace h := h.1 c14
        refine e_aload_n dX11_findHindrance_44 rfl rfl ?_
        obtain ⟨o15, h⟩ := h
        refine e_gA flX11_29 rfl rfl o15 dX11_findHindrance_45 ?_
        refine e_aload_n dX11_findHindrance_48 rfl rfl ?_
        refine e_aload_n dX11_findHindrance_49 rfl rfl ?_
        refine e_gI flX11_221 t1 rfl dX11_findHindrance_50 ?_
        refine e_callV (As := [iV (mI M12 a1 1)]) (st := [rV (some 20)]) mt_X11_findInForce in_X11_findInForce lkX11_238 rfl rfl ⟨by decide, by decide⟩ (Nat.le_of_ble_eq_true rfl) ⟨by decide, by decide⟩ rfl rfl dX11_findHindrance_53 (Ctr.mono h (fun v M16 h => ?_))
        obtain ⟨r17, rfl, h⟩ := h
        show E_X11_findHindrance l q 56 [(4, rV (some b3)), (0, rV (some 16)), (1, rV (some a1)), (2, iV p2), (3, iV p3)] [iV r17, rV (some 20)] M16 0 0
        obtain ⟨o18, h⟩ := h
        obtain ⟨b19, o20, o21, h⟩ := h
        refine e_aaldS rfl o18 o20 dX11_findHindrance_56 ?_
        refine e_astore (lv' := [(5, rV (some b19)), (4, rV (some b3)), (0, rV (some 16)), (1, rV (some a1)), (2, iV p2), (3, iV p3)]) (by decide) rfl dX11_findHindrance_57 ?_
        refine e_aload_n dX11_findHindrance_59 rfl rfl ?_
        refine e_aload_n dX11_findHindrance_60 rfl rfl ?_
        refine e_iload_n dX11_findHindrance_61 rfl rfl ?_
        refine e_iload_n dX11_findHindrance_62 rfl rfl ?_
        refine e_callV (As := [rV (some a1), iV p2, iV p3]) (st := []) mt_X11_learn in_X11_learn lkX11_250 rfl rfl ⟨by decide, by decide⟩ (Nat.le_of_ble_eq_true rfl) ⟨by decide, by decide⟩ rfl rfl dX11_findHindrance_63 (Ctr.mono h (fun v M22 h => ?_))
        obtain ⟨rfl, h⟩ := h
        show E_X11_findHindrance l q 66 [(5, rV (some b19)), (4, rV (some b3)), (0, rV (some 16)), (1, rV (some a1)), (2, iV p2), (3, iV p3)] [] M22 0 0
        refine e_iconst (v := 0) dX11_findHindrance_66 (by decide) ?_
        refine e_istore (lv' := [(6, iV 0), (5, rV (some b19)), (4, rV (some b3)), (0, rV (some 16)), (1, rV (some a1)), (2, iV p2), (3, iV p3)]) (by decide) rfl dX11_findHindrance_67 ?_
        exact e_lv (List.forall_mem_cons.mpr ⟨rfl, List.forall_mem_cons.mpr ⟨rfl, List.forall_mem_cons.mpr ⟨rfl, fun _ h => absurd h List.not_mem_nil⟩⟩⟩) h
      · replace h := h.2 c14
        refine e_iconst (v := 3) dX11_findHindrance_42 (by decide) ?_
        exact e_iret rfl trivial dX11_findHindrance_43 ⟨_, rfl, h⟩
    · replace h := h.2 c11
      refine e_iconst (v := 2) dX11_findHindrance_31 (by decide) ?_
      exact e_iret rfl trivial dX11_findHindrance_32 ⟨_, rfl, h⟩
  · replace h := h.2 c8
    refine e_iconst (v := 1) dX11_findHindrance_17 (by decide) ?_
    exact e_iret rfl trivial dX11_findHindrance_18 ⟨_, rfl, h⟩
theorem w_X11_findHindrance_69 (l : Launch) (q : Int32 → o_M → Prop) (w5 : Nat) (v6 : Int32) (tw5 : o_ty w5 = .inl 7) (M : o_M) (h : (((mI M w5 3) ≤ v6 → q 0 M) ∧ (¬ (mI M w5 3) ≤ v6 → (mR M 16 7 = some 26 ∧ K_X4_reckon l [rV (some 26), rV (some w5), iV v6] M (fun r26 M25 => (((lg_cmp r26 0) = 0 → H_X11_findHindrance_69 l q w5 (v6 + 1) M25) ∧ (¬ (lg_cmp r26 0) = 0 → q (4 + v6) M25))))))) : H_X11_findHindrance_69 l q w5 v6 M := by
  refine e_iload rfl dX11_findHindrance_69 ?_
  refine e_aload rfl dX11_findHindrance_71 ?_
  refine e_gI flX11_247 tw5 rfl dX11_findHindrance_73 ?_
  refine e_ic_ge (tgt := 106) dX11_findHindrance_76 (by decide) (fun c23 => ?_) (fun c23 => ?_)
  · replace h := h.1 c23
    refine e_iconst (v := 0) dX11_findHindrance_106 (by decide) ?_
    exact e_iret rfl trivial dX11_findHindrance_107 ⟨_, rfl, h⟩
  · replace h := h.2 c23
    refine e_aload_n dX11_findHindrance_79 rfl rfl ?_
    obtain ⟨o24, h⟩ := h
    refine e_gA flX11_53 rfl rfl o24 dX11_findHindrance_80 ?_
    refine e_aload rfl dX11_findHindrance_83 ?_
    refine e_iload rfl dX11_findHindrance_85 ?_
    refine e_callV (As := [rV (some w5), iV v6]) (st := []) mt_X4_reckon in_X4_reckon lkX11_254 rfl rfl ⟨by decide, by decide⟩ (Nat.le_of_ble_eq_true rfl) ⟨by decide, by decide⟩ rfl rfl dX11_findHindrance_87 (Ctr.mono h (fun v M25 h => ?_))
    obtain ⟨r26, rfl, h⟩ := h
    show E_X11_findHindrance l q 90 [(0, rV (some 16)), (5, rV (some w5)), (6, iV v6)] [jV r26] M25 0 0
    refine e_lconst (v := 0) dX11_findHindrance_90 (by decide) ?_
    refine e_lcmp dX11_findHindrance_91 ?_
    refine e_if_eq (tgt := 100) dX11_findHindrance_92 (by decide) (fun c27 => ?_) (fun c27 => ?_)
    · replace h := h.1 c27
      refine e_iinc (v := 1) (lv' := [(6, iV (v6 + 1)), (0, rV (some 16)), (5, rV (some w5))]) rfl (by decide) (by decide) rfl dX11_findHindrance_100 ?_
      refine e_goto (tgt := 69) dX11_findHindrance_103 (by decide) ?_
      exact e_lv (List.forall_mem_cons.mpr ⟨rfl, List.forall_mem_cons.mpr ⟨rfl, List.forall_mem_cons.mpr ⟨rfl, fun _ h => absurd h List.not_mem_nil⟩⟩⟩) h
    · replace h := h.2 c27
      refine e_iconst (v := 4) dX11_findHindrance_95 (by decide) ?_
      refine e_iload rfl dX11_findHindrance_96 ?_
      refine e_iadd dX11_findHindrance_98 ?_
      exact e_iret rfl trivial dX11_findHindrance_99 ⟨_, rfl, h⟩
theorem w_X11_order (l : Launch) (p1 : Int32) (p2 : Int32) (M : o_M) (q : Int32 → o_M → Prop) (h : K_X11_findService l [rV (some 16), iV p1] M (fun r2 M1 => ((r2 = none → q (-2) M1) ∧ (∀ b3, r2 = some b3 → o_ty b3 = .inl 6 ∧ K_X11_isWithin l [iV p2, iV 0, iV ((mI M1 b3 7) - 1)] M1 (fun r7 M6 => ((¬ r7 = 0 → (mR M6 16 9 = some 35 ∧ (mR M6 16 0 = some 17 ∧ K_X1_findOrder l [rV (some 35), rV (some b3), rV (some 17)] M6 (fun M11 => (mR M11 16 9 = some 35 ∧ (mR M11 35 1 = some 37 ∧ (vp_in p2 (mN M11 37) ∧ q (mI M11 37 p2.toNatClampNeg) M11))))))) ∧ (r7 = 0 → q (-1) M6))))))) : K_X11_order l [rV (some 16), iV p1, iV p2] M q := by
  refine o_ctr (ini := false) (by decide +kernel) rfl (fun z => by cases z) (Nat.le_of_ble_eq_true rfl) ?_
  show E_X11_order l q 0 [(0, rV (some 16)), (1, iV p1), (2, iV p2)] [] M 0 0
  refine e_aload_n dX11_order_0 rfl rfl ?_
  refine e_iload_n dX11_order_1 rfl rfl ?_
  refine e_callV (As := [iV p1]) (st := []) mt_X11_findService in_X11_findService lkX11_173 rfl rfl ⟨by decide, by decide⟩ (Nat.le_of_ble_eq_true rfl) ⟨by decide, by decide⟩ rfl rfl dX11_order_2 (Ctr.mono h (fun v M1 h => ?_))
  obtain ⟨r2, rfl, h⟩ := h
  show E_X11_order l q 5 [(0, rV (some 16)), (1, iV p1), (2, iV p2)] [rV r2] M1 0 0
  refine e_astore_n (lv' := [(3, rV r2), (0, rV (some 16)), (1, iV p1), (2, iV p2)]) dX11_order_5 rfl (by decide) rfl ?_
  refine e_aload_n dX11_order_6 rfl rfl ?_
  refine e_ifnonnull (tgt := 13) dX11_order_7 (by decide) (fun b3 c4 => ?_) (fun c4 => ?_)
  · obtain ⟨t5, h⟩ := h.2 b3 c4
    refine e_eq (lv' := [(3, rV (some b3)), (0, rV (some 16)), (1, iV p1), (2, iV p2)]) (st' := []) (by rw [c4]) (by first | rfl | rw [c4]) rfl ?_
    refine e_iload_n dX11_order_13 rfl rfl ?_
    refine e_iconst (v := 0) dX11_order_14 (by decide) ?_
    refine e_aload_n dX11_order_15 rfl rfl ?_
    refine e_gI flX11_188 t5 rfl dX11_order_16 ?_
    refine e_iconst (v := 1) dX11_order_19 (by decide) ?_
    refine e_isub dX11_order_20 ?_
    refine e_callS (As := [iV p2, iV 0, iV ((mI M1 b3 7) - 1)]) (st := []) mt_X11_isWithin is_X11_isWithin lkX11_124 ⟨by decide, by decide⟩ (Nat.le_of_ble_eq_true rfl) ⟨by decide, by decide⟩ rfl rfl dX11_order_21 (Ctr.mono h (fun v M6 h => ?_))
    obtain ⟨r7, rfl, h⟩ := h
    show E_X11_order l q 24 [(3, rV (some b3)), (0, rV (some 16)), (1, iV p1), (2, iV p2)] [iV r7] M6 0 0
    refine e_if_ne (tgt := 29) dX11_order_24 (by decide) (fun c8 => ?_) (fun c8 => ?_)
    · replace h := h.1 c8
      refine e_aload_n dX11_order_29 rfl rfl ?_
      obtain ⟨o9, h⟩ := h
      refine e_gA flX11_67 rfl rfl o9 dX11_order_30 ?_
      refine e_aload_n dX11_order_33 rfl rfl ?_
      refine e_aload_n dX11_order_34 rfl rfl ?_
      obtain ⟨o10, h⟩ := h
      refine e_gA flX11_11 rfl rfl o10 dX11_order_35 ?_
      refine e_callV (As := [rV (some b3), rV (some 17)]) (st := []) mt_X1_findOrder in_X1_findOrder lkX11_282 rfl rfl ⟨by decide, by decide⟩ (Nat.le_of_ble_eq_true rfl) ⟨by decide, by decide⟩ rfl rfl dX11_order_38 (Ctr.mono h (fun v M11 h => ?_))
      obtain ⟨rfl, h⟩ := h
      show E_X11_order l q 41 [(3, rV (some b3)), (0, rV (some 16)), (1, iV p1), (2, iV p2)] [] M11 0 0
      refine e_aload_n dX11_order_41 rfl rfl ?_
      obtain ⟨o12, h⟩ := h
      refine e_gA flX11_67 rfl rfl o12 dX11_order_42 ?_
      obtain ⟨o13, h⟩ := h
      refine e_gA flX11_289 rfl rfl o13 dX11_order_45 ?_
      refine e_iload_n dX11_order_48 rfl rfl ?_
      obtain ⟨o14, h⟩ := h
      refine e_iald rfl o14 dX11_order_49 ?_
      exact e_iret rfl trivial dX11_order_50 ⟨_, rfl, h⟩
    · replace h := h.2 c8
      refine e_iconst (v := (-1)) dX11_order_27 (by decide) ?_
      exact e_iret rfl trivial dX11_order_28 ⟨_, rfl, h⟩
  · replace h := h.1 c4
    refine e_eq (lv' := [(3, rV none), (0, rV (some 16)), (1, iV p1), (2, iV p2)]) (st' := []) (by rw [c4]) (by first | rfl | rw [c4]) rfl ?_
    refine e_bipush (v := (-2)) dX11_order_10 (by decide) ?_
    exact e_iret rfl trivial dX11_order_12 ⟨_, rfl, h⟩
abbrev H_X11_sumDue_6 (l : Launch) (q : Int64 → o_M → Prop) (v1 : Int32) (v2 : Int32) (v3 : Int32) (v4 : Int32) (v5 : Int64) (v7 : Int32) (M : o_M) : Prop := E_X11_sumDue l q 6 [(0, rV (some 16)), (1, iV v1), (2, iV v2), (3, iV v3), (4, iV v4), (5, jV v5), (7, iV v7)] [] M 0 0
theorem w_X11_sumDue (l : Launch) (p1 : Int32) (p2 : Int32) (p3 : Int32) (p4 : Int32) (M : o_M) (q : Int64 → o_M → Prop) (h : H_X11_sumDue_6 l q p1 p2 p3 p4 0 0 M) : K_X11_sumDue l [rV (some 16), iV p1, iV p2, iV p3, iV p4] M q := by
  refine o_ctr (ini := false) (by decide +kernel) rfl (fun z => by cases z) (Nat.le_of_ble_eq_true rfl) ?_
  show E_X11_sumDue l q 0 [(0, rV (some 16)), (1, iV p1), (2, iV p2), (3, iV p3), (4, iV p4)] [] M 0 0
  refine e_lconst (v := 0) dX11_sumDue_0 (by decide) ?_
  refine e_lstore (lv' := [(5, jV 0), (0, rV (some 16)), (1, iV p1), (2, iV p2), (3, iV p3), (4, iV p4)]) (by decide) rfl dX11_sumDue_1 ?_
  refine e_iconst (v := 0) dX11_sumDue_3 (by decide) ?_
  refine e_istore (lv' := [(7, iV 0), (5, jV 0), (0, rV (some 16)), (1, iV p1), (2, iV p2), (3, iV p3), (4, iV p4)]) (by decide) rfl dX11_sumDue_4 ?_
  exact e_lv (List.forall_mem_cons.mpr ⟨rfl, List.forall_mem_cons.mpr ⟨rfl, List.forall_mem_cons.mpr ⟨rfl, List.forall_mem_cons.mpr ⟨rfl, List.forall_mem_cons.mpr ⟨rfl, List.forall_mem_cons.mpr ⟨rfl, List.forall_mem_cons.mpr ⟨rfl, fun _ h => absurd h List.not_mem_nil⟩⟩⟩⟩⟩⟩⟩) h
theorem w_X11_sumDue_6 (l : Launch) (q : Int64 → o_M → Prop) (v1 : Int32) (v2 : Int32) (v3 : Int32) (v4 : Int32) (v5 : Int64) (v7 : Int32) (M : o_M) (h : (((mI M 16 13) ≤ v7 → q v5 M) ∧ (¬ (mI M 16 13) ≤ v7 → (mR M 16 2 = some 19 ∧ (vp_in v7 (mN M 19) ∧ (∃ b4, mR M 19 v7.toNatClampNeg = some b4 ∧ o_ty b4 = .inl 6 ∧ K_X11_isWithin l [iV (mI M b4 1), iV v2, iV v3] M (fun r8 M7 => ((r8 = 0 → H_X11_sumDue_6 l q v1 v2 v3 v4 v5 (v7 + 1) M7) ∧ (¬ r8 = 0 → K_X6_sits l [rV (some b4), iV v1] M7 (fun r11 M10 => ((r11 = 0 → H_X11_sumDue_6 l q v1 v2 v3 v4 v5 (v7 + 1) M10) ∧ (¬ r11 = 0 → K_X11_findDue l [rV (some 16), rV (some b4), iV v1, iV v4] M10 (fun r14 M13 => H_X11_sumDue_6 l q v1 v2 v3 v4 (v5 + r14) (v7 + 1) M13))))))))))))) : H_X11_sumDue_6 l q v1 v2 v3 v4 v5 v7 M := by
  refine e_iload rfl dX11_sumDue_6 ?_
  refine e_aload_n dX11_sumDue_8 rfl rfl ?_
  refine e_gI flX11_85 rfl rfl dX11_sumDue_9 ?_
  refine e_ic_ge (tgt := 66) dX11_sumDue_12 (by decide) (fun c1 => ?_) (fun c1 => ?_)
  · replace h := h.1 c1
    refine e_lload rfl dX11_sumDue_66 ?_
    exact e_lret rfl trivial dX11_sumDue_68 ⟨_, rfl, h⟩
  · replace h := h.2 c1
    refine e_aload_n dX11_sumDue_15 rfl rfl ?_
    obtain ⟨o2, h⟩ := h
    refine e_gA flX11_23 rfl rfl o2 dX11_sumDue_16 ?_
    refine e_iload rfl dX11_sumDue_19 ?_
    obtain ⟨o3, h⟩ := h
    obtain ⟨b4, o5, o6, h⟩ := h
    refine e_aaldS rfl o3 o5 dX11_sumDue_21 ?_
    refine e_astore (lv' := [(8, rV (some b4)), (0, rV (some 16)), (1, iV v1), (2, iV v2), (3, iV v3), (4, iV v4), (5, jV v5), (7, iV v7)]) (by decide) rfl dX11_sumDue_22 ?_
    refine e_aload rfl dX11_sumDue_24 ?_
    refine e_gI flX11_221 o6 rfl dX11_sumDue_26 ?_
    refine e_iload_n dX11_sumDue_29 rfl rfl ?_
    refine e_iload_n dX11_sumDue_30 rfl rfl ?_
    refine e_callS (As := [iV (mI M b4 1), iV v2, iV v3]) (st := []) mt_X11_isWithin is_X11_isWithin lkX11_124 ⟨by decide, by decide⟩ (Nat.le_of_ble_eq_true rfl) ⟨by decide, by decide⟩ rfl rfl dX11_sumDue_31 (Ctr.mono h (fun v M7 h => ?_))
    obtain ⟨r8, rfl, h⟩ := h
    show E_X11_sumDue l q 34 [(8, rV (some b4)), (0, rV (some 16)), (1, iV v1), (2, iV v2), (3, iV v3), (4, iV v4), (5, jV v5), (7, iV v7)] [iV r8] M7 0 0
    refine e_if_eq (tgt := 60) dX11_sumDue_34 (by decide) (fun c9 => ?_) (fun c9 => ?_)
    · replace h := h.1 c9
      refine e_iinc (v := 1) (lv' := [(7, iV (v7 + 1)), (8, rV (some b4)), (0, rV (some 16)), (1, iV v1), (2, iV v2), (3, iV v3), (4, iV v4), (5, jV v5)]) rfl (by decide) (by decide) rfl dX11_sumDue_60 ?_
      refine e_goto (tgt := 6) dX11_sumDue_63 (by decide) ?_
      exact e_lv (List.forall_mem_cons.mpr ⟨rfl, List.forall_mem_cons.mpr ⟨rfl, List.forall_mem_cons.mpr ⟨rfl, List.forall_mem_cons.mpr ⟨rfl, List.forall_mem_cons.mpr ⟨rfl, List.forall_mem_cons.mpr ⟨rfl, List.forall_mem_cons.mpr ⟨rfl, fun _ h => absurd h List.not_mem_nil⟩⟩⟩⟩⟩⟩⟩) h
    · replace h := h.2 c9
      refine e_aload rfl dX11_sumDue_37 ?_
      refine e_iload_n dX11_sumDue_39 rfl rfl ?_
      refine e_callV (As := [iV v1]) (st := []) mt_X6_sits in_X6_sits lkX11_360 rfl o6 ⟨by decide, by decide⟩ (Nat.le_of_ble_eq_true rfl) ⟨by decide, by decide⟩ rfl rfl dX11_sumDue_40 (Ctr.mono h (fun v M10 h => ?_))
      obtain ⟨r11, rfl, h⟩ := h
      show E_X11_sumDue l q 43 [(8, rV (some b4)), (0, rV (some 16)), (1, iV v1), (2, iV v2), (3, iV v3), (4, iV v4), (5, jV v5), (7, iV v7)] [iV r11] M10 0 0
      refine e_if_eq (tgt := 60) dX11_sumDue_43 (by decide) (fun c12 => ?_) (fun c12 => ?_)
      · replace h := h.1 c12
        refine e_iinc (v := 1) (lv' := [(7, iV (v7 + 1)), (8, rV (some b4)), (0, rV (some 16)), (1, iV v1), (2, iV v2), (3, iV v3), (4, iV v4), (5, jV v5)]) rfl (by decide) (by decide) rfl dX11_sumDue_60 ?_
        refine e_goto (tgt := 6) dX11_sumDue_63 (by decide) ?_
        exact e_lv (List.forall_mem_cons.mpr ⟨rfl, List.forall_mem_cons.mpr ⟨rfl, List.forall_mem_cons.mpr ⟨rfl, List.forall_mem_cons.mpr ⟨rfl, List.forall_mem_cons.mpr ⟨rfl, List.forall_mem_cons.mpr ⟨rfl, List.forall_mem_cons.mpr ⟨rfl, fun _ h => absurd h List.not_mem_nil⟩⟩⟩⟩⟩⟩⟩) h
      · replace h := h.2 c12
        refine e_lload rfl dX11_sumDue_46 ?_
        refine e_aload_n dX11_sumDue_48 rfl rfl ?_
        refine e_aload rfl dX11_sumDue_49 ?_
        refine e_iload_n dX11_sumDue_51 rfl rfl ?_
        refine e_iload rfl dX11_sumDue_52 ?_
        refine e_callV (As := [rV (some b4), iV v1, iV v4]) (st := [jV v5]) mt_X11_findDue in_X11_findDue lkX11_436 rfl rfl ⟨by decide, by decide⟩ (Nat.le_of_ble_eq_true rfl) ⟨by decide, by decide⟩ rfl rfl dX11_sumDue_54 (Ctr.mono h (fun v M13 h => ?_))
        obtain ⟨r14, rfl, h⟩ := h
        show E_X11_sumDue l q 57 [(8, rV (some b4)), (0, rV (some 16)), (1, iV v1), (2, iV v2), (3, iV v3), (4, iV v4), (5, jV v5), (7, iV v7)] [jV r14, jV v5] M13 0 0
        refine e_ladd dX11_sumDue_57 ?_
        refine e_lstore (lv' := [(5, jV (v5 + r14)), (8, rV (some b4)), (0, rV (some 16)), (1, iV v1), (2, iV v2), (3, iV v3), (4, iV v4), (7, iV v7)]) (by decide) rfl dX11_sumDue_58 ?_
        refine e_iinc (v := 1) (lv' := [(7, iV (v7 + 1)), (5, jV (v5 + r14)), (8, rV (some b4)), (0, rV (some 16)), (1, iV v1), (2, iV v2), (3, iV v3), (4, iV v4)]) rfl (by decide) (by decide) rfl dX11_sumDue_60 ?_
        refine e_goto (tgt := 6) dX11_sumDue_63 (by decide) ?_
        exact e_lv (List.forall_mem_cons.mpr ⟨rfl, List.forall_mem_cons.mpr ⟨rfl, List.forall_mem_cons.mpr ⟨rfl, List.forall_mem_cons.mpr ⟨rfl, List.forall_mem_cons.mpr ⟨rfl, List.forall_mem_cons.mpr ⟨rfl, List.forall_mem_cons.mpr ⟨rfl, fun _ h => absurd h List.not_mem_nil⟩⟩⟩⟩⟩⟩⟩) h
theorem w_X11_waits (l : Launch) (p1 : Int32) (M : o_M) (q : Int32 → o_M → Prop) (h : K_X11_findService l [rV (some 16), iV p1] M (fun r2 M1 => ((r2 = none → q (-2) M1) ∧ (∀ b3, r2 = some b3 → o_ty b3 = .inl 6 ∧ (mR M1 16 9 = some 35 ∧ (mR M1 16 0 = some 17 ∧ K_X1_findOrder l [rV (some 35), rV (some b3), rV (some 17)] M1 (fun M8 => (mR M8 16 9 = some 35 ∧ q (mI M8 35 3) M8)))))))) : K_X11_waits l [rV (some 16), iV p1] M q := by
  refine o_ctr (ini := false) (by decide +kernel) rfl (fun z => by cases z) (Nat.le_of_ble_eq_true rfl) ?_
  show E_X11_waits l q 0 [(0, rV (some 16)), (1, iV p1)] [] M 0 0
  refine e_aload_n dX11_waits_0 rfl rfl ?_
  refine e_iload_n dX11_waits_1 rfl rfl ?_
  refine e_callV (As := [iV p1]) (st := []) mt_X11_findService in_X11_findService lkX11_173 rfl rfl ⟨by decide, by decide⟩ (Nat.le_of_ble_eq_true rfl) ⟨by decide, by decide⟩ rfl rfl dX11_waits_2 (Ctr.mono h (fun v M1 h => ?_))
  obtain ⟨r2, rfl, h⟩ := h
  show E_X11_waits l q 5 [(0, rV (some 16)), (1, iV p1)] [rV r2] M1 0 0
  refine e_astore_n (lv' := [(2, rV r2), (0, rV (some 16)), (1, iV p1)]) dX11_waits_5 rfl (by decide) rfl ?_
  refine e_aload_n dX11_waits_6 rfl rfl ?_
  refine e_ifnonnull (tgt := 13) dX11_waits_7 (by decide) (fun b3 c4 => ?_) (fun c4 => ?_)
  · obtain ⟨t5, h⟩ := h.2 b3 c4
    refine e_eq (lv' := [(2, rV (some b3)), (0, rV (some 16)), (1, iV p1)]) (st' := []) (by rw [c4]) (by first | rfl | rw [c4]) rfl ?_
    refine e_aload_n dX11_waits_13 rfl rfl ?_
    obtain ⟨o6, h⟩ := h
    refine e_gA flX11_67 rfl rfl o6 dX11_waits_14 ?_
    refine e_aload_n dX11_waits_17 rfl rfl ?_
    refine e_aload_n dX11_waits_18 rfl rfl ?_
    obtain ⟨o7, h⟩ := h
    refine e_gA flX11_11 rfl rfl o7 dX11_waits_19 ?_
    refine e_callV (As := [rV (some b3), rV (some 17)]) (st := []) mt_X1_findOrder in_X1_findOrder lkX11_282 rfl rfl ⟨by decide, by decide⟩ (Nat.le_of_ble_eq_true rfl) ⟨by decide, by decide⟩ rfl rfl dX11_waits_22 (Ctr.mono h (fun v M8 h => ?_))
    obtain ⟨rfl, h⟩ := h
    show E_X11_waits l q 25 [(2, rV (some b3)), (0, rV (some 16)), (1, iV p1)] [] M8 0 0
    refine e_aload_n dX11_waits_25 rfl rfl ?_
    obtain ⟨o9, h⟩ := h
    refine e_gA flX11_67 rfl rfl o9 dX11_waits_26 ?_
    refine e_gI flX11_286 rfl rfl dX11_waits_29 ?_
    exact e_iret rfl trivial dX11_waits_32 ⟨_, rfl, h⟩
  · replace h := h.1 c4
    refine e_eq (lv' := [(2, rV none), (0, rV (some 16)), (1, iV p1)]) (st' := []) (by rw [c4]) (by first | rfl | rw [c4]) rfl ?_
    refine e_bipush (v := (-2)) dX11_waits_10 (by decide) ?_
    exact e_iret rfl trivial dX11_waits_12 ⟨_, rfl, h⟩
abbrev H_X5_seatAll_4 (l : Launch) (q : o_M → Prop) (v1 : Int32) (v2 : Int32) (M : o_M) : Prop := E_X5_seatAll l q 4 [(0, rV (some 29)), (1, iV v1), (2, iV v2)] [] M 0 0
abbrev H_X5_seatAll_28 (l : Launch) (q : o_M → Prop) (v2 : Int32) (M : o_M) : Prop := E_X5_seatAll l q 28 [(0, rV (some 29)), (2, iV v2)] [] M 0 0
theorem w_X5_seatAll (l : Launch) (M : o_M) (q : o_M → Prop) (h : H_X5_seatAll_4 l q 1 0 M) : K_X5_seatAll l [rV (some 29)] M q := by
  refine o_ctr (ini := false) (by decide +kernel) rfl (fun z => by cases z) (Nat.le_of_ble_eq_true rfl) ?_
  show E_X5_seatAll l q 0 [(0, rV (some 29))] [] M 0 0
  refine e_iconst (v := 1) dX5_seatAll_0 (by decide) ?_
  refine e_istore_n (lv' := [(1, iV 1), (0, rV (some 29))]) dX5_seatAll_1 rfl (by decide) rfl ?_
  refine e_iconst (v := 0) dX5_seatAll_2 (by decide) ?_
  refine e_istore_n (lv' := [(2, iV 0), (1, iV 1), (0, rV (some 29))]) dX5_seatAll_3 rfl (by decide) rfl ?_
  exact e_lv (List.forall_mem_cons.mpr ⟨rfl, List.forall_mem_cons.mpr ⟨rfl, List.forall_mem_cons.mpr ⟨rfl, fun _ h => absurd h List.not_mem_nil⟩⟩⟩) h
theorem w_X5_seatAll_4 (l : Launch) (q : o_M → Prop) (v1 : Int32) (v2 : Int32) (M : o_M) (h : ((12 ≤ v2 → H_X5_seatAll_28 l q 0 M) ∧ (¬ 12 ≤ v2 → ((v1 = 0 → H_X5_seatAll_28 l q 0 M) ∧ (¬ v1 = 0 → K_X5_seatOneMore l [rV (some 29), iV 0] M (fun r4 M3 => H_X5_seatAll_4 l q r4 (v2 + 1) M3)))))) : H_X5_seatAll_4 l q v1 v2 M := by
  refine e_iload_n dX5_seatAll_4 rfl rfl ?_
  refine e_bipush (v := 12) dX5_seatAll_5 (by decide) ?_
  refine e_ic_ge (tgt := 26) dX5_seatAll_7 (by decide) (fun c1 => ?_) (fun c1 => ?_)
  · replace h := h.1 c1
    refine e_iconst (v := 0) dX5_seatAll_26 (by decide) ?_
    refine e_istore_n (lv' := [(2, iV 0), (0, rV (some 29)), (1, iV v1)]) dX5_seatAll_27 rfl (by decide) rfl ?_
    exact e_lv (List.forall_mem_cons.mpr ⟨rfl, List.forall_mem_cons.mpr ⟨rfl, fun _ h => absurd h List.not_mem_nil⟩⟩) h
  · replace h := h.2 c1
    refine e_iload_n dX5_seatAll_10 rfl rfl ?_
    refine e_if_eq (tgt := 26) dX5_seatAll_11 (by decide) (fun c2 => ?_) (fun c2 => ?_)
    · replace h := h.1 c2
      refine e_iconst (v := 0) dX5_seatAll_26 (by decide) ?_
      refine e_istore_n (lv' := [(2, iV 0), (0, rV (some 29)), (1, iV v1)]) dX5_seatAll_27 rfl (by decide) rfl ?_
      exact e_lv (List.forall_mem_cons.mpr ⟨rfl, List.forall_mem_cons.mpr ⟨rfl, fun _ h => absurd h List.not_mem_nil⟩⟩) h
    · replace h := h.2 c2
      refine e_aload_n dX5_seatAll_14 rfl rfl ?_
      refine e_iconst (v := 0) dX5_seatAll_15 (by decide) ?_
      refine e_callV (As := [iV 0]) (st := []) mt_X5_seatOneMore in_X5_seatOneMore lkX5_50 rfl rfl ⟨by decide, by decide⟩ (Nat.le_of_ble_eq_true rfl) ⟨by decide, by decide⟩ rfl rfl dX5_seatAll_16 (Ctr.mono h (fun v M3 h => ?_))
      obtain ⟨r4, rfl, h⟩ := h
      show E_X5_seatAll l q 19 [(0, rV (some 29)), (1, iV v1), (2, iV v2)] [iV r4] M3 0 0
      refine e_istore_n (lv' := [(1, iV r4), (0, rV (some 29)), (2, iV v2)]) dX5_seatAll_19 rfl (by decide) rfl ?_
      refine e_iinc (v := 1) (lv' := [(2, iV (v2 + 1)), (1, iV r4), (0, rV (some 29))]) rfl (by decide) (by decide) rfl dX5_seatAll_20 ?_
      refine e_goto (tgt := 4) dX5_seatAll_23 (by decide) ?_
      exact e_lv (List.forall_mem_cons.mpr ⟨rfl, List.forall_mem_cons.mpr ⟨rfl, List.forall_mem_cons.mpr ⟨rfl, fun _ h => absurd h List.not_mem_nil⟩⟩⟩) h
theorem w_X5_seatAll_28 (l : Launch) (q : o_M → Prop) (v2 : Int32) (M : o_M) (h : (((mI M 29 5) ≤ v2 → q M) ∧ (¬ (mI M 29 5) ≤ v2 → K_X5_settle l [rV (some 29), iV v2] M (fun M6 => H_X5_seatAll_28 l q (v2 + 1) M6)))) : H_X5_seatAll_28 l q v2 M := by
  refine e_iload_n dX5_seatAll_28 rfl rfl ?_
  refine e_aload_n dX5_seatAll_29 rfl rfl ?_
  refine e_gI flX5_27 rfl rfl dX5_seatAll_30 ?_
  refine e_ic_ge (tgt := 47) dX5_seatAll_33 (by decide) (fun c5 => ?_) (fun c5 => ?_)
  · replace h := h.1 c5
    exact e_ret rfl dX5_seatAll_47 ⟨rfl, h⟩
  · replace h := h.2 c5
    refine e_aload_n dX5_seatAll_36 rfl rfl ?_
    refine e_iload_n dX5_seatAll_37 rfl rfl ?_
    refine e_callV (As := [iV v2]) (st := []) mt_X5_settle in_X5_settle lkX5_54 rfl rfl ⟨by decide, by decide⟩ (Nat.le_of_ble_eq_true rfl) ⟨by decide, by decide⟩ rfl rfl dX5_seatAll_38 (Ctr.mono h (fun v M6 h => ?_))
    obtain ⟨rfl, h⟩ := h
    show E_X5_seatAll l q 41 [(0, rV (some 29)), (2, iV v2)] [] M6 0 0
    refine e_iinc (v := 1) (lv' := [(2, iV (v2 + 1)), (0, rV (some 29))]) rfl (by decide) (by decide) rfl dX5_seatAll_41 ?_
    refine e_goto (tgt := 28) dX5_seatAll_44 (by decide) ?_
    exact e_lv (List.forall_mem_cons.mpr ⟨rfl, List.forall_mem_cons.mpr ⟨rfl, fun _ h => absurd h List.not_mem_nil⟩⟩) h
