/-! walks of methods (printed by program): X12_orders X12_programme X12_count X12_order X12_serviceTold X12_waits X12_worthOf X12_dueOf X12_hinders X12_worth X12_due X12_may X12_put X12_seats -/
theorem dX12_orders_0 : decode cX12_orders 0 = .ok (.aload_n 0, 1) := by decide +kernel
theorem dX12_orders_1 : decode cX12_orders 1 = .ok (.getfield 58, 3) := by decide +kernel
theorem dX12_orders_4 : decode cX12_orders 4 = .ok (.iload_n 1, 1) := by decide +kernel
theorem dX12_orders_5 : decode cX12_orders 5 = .ok (.iaload, 1) := by decide +kernel
theorem dX12_orders_6 : decode cX12_orders 6 = .ok (.istore_n 2, 1) := by decide +kernel
theorem dX12_orders_7 : decode cX12_orders 7 = .ok (.iconst 1, 1) := by decide +kernel
theorem dX12_orders_8 : decode cX12_orders 8 = .ok (.istore_n 3, 1) := by decide +kernel
theorem dX12_orders_9 : decode cX12_orders 9 = .ok (.iconst 0, 1) := by decide +kernel
theorem dX12_orders_10 : decode cX12_orders 10 = .ok (.istore 4, 2) := by decide +kernel
theorem dX12_orders_12 : decode cX12_orders 12 = .ok (.iload 4, 2) := by decide +kernel
theorem dX12_orders_14 : decode cX12_orders 14 = .ok (.iload_n 2, 1) := by decide +kernel
theorem dX12_orders_15 : decode cX12_orders 15 = .ok (.if_icmp .ge 85, 3) := by decide +kernel
theorem dX12_orders_18 : decode cX12_orders 18 = .ok (.iload 4, 2) := by decide +kernel
theorem dX12_orders_20 : decode cX12_orders 20 = .ok (.istore 5, 2) := by decide +kernel
theorem dX12_orders_22 : decode cX12_orders 22 = .ok (.iload 5, 2) := by decide +kernel
theorem dX12_orders_24 : decode cX12_orders 24 = .ok (.ifCond .le 48, 3) := by decide +kernel
theorem dX12_orders_27 : decode cX12_orders 27 = .ok (.aload_n 0, 1) := by decide +kernel
theorem dX12_orders_28 : decode cX12_orders 28 = .ok (.getfield 135, 3) := by decide +kernel
theorem dX12_orders_31 : decode cX12_orders 31 = .ok (.iload 5, 2) := by decide +kernel
theorem dX12_orders_33 : decode cX12_orders 33 = .ok (.iconst 1, 1) := by decide +kernel
theorem dX12_orders_34 : decode cX12_orders 34 = .ok (.isub, 1) := by decide +kernel
theorem dX12_orders_35 : decode cX12_orders 35 = .ok (.iaload, 1) := by decide +kernel
theorem dX12_orders_36 : decode cX12_orders 36 = .ok (.aload_n 0, 1) := by decide +kernel
theorem dX12_orders_37 : decode cX12_orders 37 = .ok (.getfield 61, 3) := by decide +kernel
theorem dX12_orders_40 : decode cX12_orders 40 = .ok (.iconst 5, 1) := by decide +kernel
theorem dX12_orders_41 : decode cX12_orders 41 = .ok (.iload_n 1, 1) := by decide +kernel
theorem dX12_orders_42 : decode cX12_orders 42 = .ok (.imul, 1) := by decide +kernel
theorem dX12_orders_43 : decode cX12_orders 43 = .ok (.iload 4, 2) := by decide +kernel
theorem dX12_orders_45 : decode cX12_orders 45 = .ok (.iadd, 1) := by decide +kernel
theorem dX12_orders_46 : decode cX12_orders 46 = .ok (.iaload, 1) := by decide +kernel
theorem dX12_orders_47 : decode cX12_orders 47 = .ok (.if_icmp .le 25, 3) := by decide +kernel
theorem dX12_orders_50 : decode cX12_orders 50 = .ok (.aload_n 0, 1) := by decide +kernel
theorem dX12_orders_51 : decode cX12_orders 51 = .ok (.getfield 135, 3) := by decide +kernel
theorem dX12_orders_54 : decode cX12_orders 54 = .ok (.iload 5, 2) := by decide +kernel
theorem dX12_orders_56 : decode cX12_orders 56 = .ok (.aload_n 0, 1) := by decide +kernel
theorem dX12_orders_57 : decode cX12_orders 57 = .ok (.getfield 135, 3) := by decide +kernel
theorem dX12_orders_60 : decode cX12_orders 60 = .ok (.iload 5, 2) := by decide +kernel
theorem dX12_orders_62 : decode cX12_orders 62 = .ok (.iconst 1, 1) := by decide +kernel
theorem dX12_orders_63 : decode cX12_orders 63 = .ok (.isub, 1) := by decide +kernel
theorem dX12_orders_64 : decode cX12_orders 64 = .ok (.iaload, 1) := by decide +kernel
theorem dX12_orders_65 : decode cX12_orders 65 = .ok (.iastore, 1) := by decide +kernel
theorem dX12_orders_66 : decode cX12_orders 66 = .ok (.iinc 5 (-1), 3) := by decide +kernel
theorem dX12_orders_69 : decode cX12_orders 69 = .ok (.goto (-47), 3) := by decide +kernel
theorem dX12_orders_72 : decode cX12_orders 72 = .ok (.aload_n 0, 1) := by decide +kernel
theorem dX12_orders_73 : decode cX12_orders 73 = .ok (.getfield 135, 3) := by decide +kernel
theorem dX12_orders_76 : decode cX12_orders 76 = .ok (.iload 5, 2) := by decide +kernel
theorem dX12_orders_78 : decode cX12_orders 78 = .ok (.aload_n 0, 1) := by decide +kernel
theorem dX12_orders_79 : decode cX12_orders 79 = .ok (.getfield 61, 3) := by decide +kernel
theorem dX12_orders_82 : decode cX12_orders 82 = .ok (.iconst 5, 1) := by decide +kernel
theorem dX12_orders_83 : decode cX12_orders 83 = .ok (.iload_n 1, 1) := by decide +kernel
theorem dX12_orders_84 : decode cX12_orders 84 = .ok (.imul, 1) := by decide +kernel
theorem dX12_orders_85 : decode cX12_orders 85 = .ok (.iload 4, 2) := by decide +kernel
theorem dX12_orders_87 : decode cX12_orders 87 = .ok (.iadd, 1) := by decide +kernel
theorem dX12_orders_88 : decode cX12_orders 88 = .ok (.iaload, 1) := by decide +kernel
theorem dX12_orders_89 : decode cX12_orders 89 = .ok (.iastore, 1) := by decide +kernel
theorem dX12_orders_90 : decode cX12_orders 90 = .ok (.iload_n 3, 1) := by decide +kernel
theorem dX12_orders_91 : decode cX12_orders 91 = .ok (.iload_n 2, 1) := by decide +kernel
theorem dX12_orders_92 : decode cX12_orders 92 = .ok (.imul, 1) := by decide +kernel
theorem dX12_orders_93 : decode cX12_orders 93 = .ok (.istore_n 3, 1) := by decide +kernel
theorem dX12_orders_94 : decode cX12_orders 94 = .ok (.iinc 4 1, 3) := by decide +kernel
theorem dX12_orders_97 : decode cX12_orders 97 = .ok (.goto (-85), 3) := by decide +kernel
theorem dX12_orders_100 : decode cX12_orders 100 = .ok (.iconst (-1), 1) := by decide +kernel
theorem dX12_orders_101 : decode cX12_orders 101 = .ok (.istore 4, 2) := by decide +kernel
theorem dX12_orders_103 : decode cX12_orders 103 = .ok (.iconst 0, 1) := by decide +kernel
theorem dX12_orders_104 : decode cX12_orders 104 = .ok (.istore 5, 2) := by decide +kernel
theorem dX12_orders_106 : decode cX12_orders 106 = .ok (.iload 5, 2) := by decide +kernel
theorem dX12_orders_108 : decode cX12_orders 108 = .ok (.iload_n 3, 1) := by decide +kernel
theorem dX12_orders_109 : decode cX12_orders 109 = .ok (.if_icmp .ge 91, 3) := by decide +kernel
theorem dX12_orders_112 : decode cX12_orders 112 = .ok (.aload_n 0, 1) := by decide +kernel
theorem dX12_orders_113 : decode cX12_orders 113 = .ok (.iload 5, 2) := by decide +kernel
theorem dX12_orders_115 : decode cX12_orders 115 = .ok (.iload_n 2, 1) := by decide +kernel
theorem dX12_orders_116 : decode cX12_orders 116 = .ok (.iload_n 3, 1) := by decide +kernel
theorem dX12_orders_117 : decode cX12_orders 117 = .ok (.invokevirtual 338, 3) := by decide +kernel
theorem dX12_orders_120 : decode cX12_orders 120 = .ok (.ifCond .eq 74, 3) := by decide +kernel
theorem dX12_orders_123 : decode cX12_orders 123 = .ok (.aload_n 0, 1) := by decide +kernel
theorem dX12_orders_124 : decode cX12_orders 124 = .ok (.iload_n 1, 1) := by decide +kernel
theorem dX12_orders_125 : decode cX12_orders 125 = .ok (.invokevirtual 341, 3) := by decide +kernel
theorem dX12_orders_128 : decode cX12_orders 128 = .ok (.istore 6, 2) := by decide +kernel
theorem dX12_orders_130 : decode cX12_orders 130 = .ok (.iconst 0, 1) := by decide +kernel
theorem dX12_orders_131 : decode cX12_orders 131 = .ok (.istore 7, 2) := by decide +kernel
theorem dX12_orders_133 : decode cX12_orders 133 = .ok (.iload 7, 2) := by decide +kernel
theorem dX12_orders_135 : decode cX12_orders 135 = .ok (.iload_n 2, 1) := by decide +kernel
theorem dX12_orders_136 : decode cX12_orders 136 = .ok (.if_icmp .ge 36, 3) := by decide +kernel
theorem dX12_orders_139 : decode cX12_orders 139 = .ok (.iload 4, 2) := by decide +kernel
theorem dX12_orders_141 : decode cX12_orders 141 = .ok (.iconst (-1), 1) := by decide +kernel
theorem dX12_orders_142 : decode cX12_orders 142 = .ok (.if_icmp .eq 10, 3) := by decide +kernel
theorem dX12_orders_145 : decode cX12_orders 145 = .ok (.iload 6, 2) := by decide +kernel
theorem dX12_orders_147 : decode cX12_orders 147 = .ok (.iload 4, 2) := by decide +kernel
theorem dX12_orders_149 : decode cX12_orders 149 = .ok (.if_icmp .ge 23, 3) := by decide +kernel
theorem dX12_orders_152 : decode cX12_orders 152 = .ok (.aload_n 0, 1) := by decide +kernel
theorem dX12_orders_153 : decode cX12_orders 153 = .ok (.getfield 132, 3) := by decide +kernel
theorem dX12_orders_156 : decode cX12_orders 156 = .ok (.iload 7, 2) := by decide +kernel
theorem dX12_orders_158 : decode cX12_orders 158 = .ok (.aload_n 0, 1) := by decide +kernel
theorem dX12_orders_159 : decode cX12_orders 159 = .ok (.getfield 129, 3) := by decide +kernel
theorem dX12_orders_162 : decode cX12_orders 162 = .ok (.iload 7, 2) := by decide +kernel
theorem dX12_orders_164 : decode cX12_orders 164 = .ok (.iaload, 1) := by decide +kernel
theorem dX12_orders_165 : decode cX12_orders 165 = .ok (.iastore, 1) := by decide +kernel
theorem dX12_orders_166 : decode cX12_orders 166 = .ok (.iinc 7 1, 3) := by decide +kernel
theorem dX12_orders_169 : decode cX12_orders 169 = .ok (.goto (-36), 3) := by decide +kernel
theorem dX12_orders_172 : decode cX12_orders 172 = .ok (.iload 4, 2) := by decide +kernel
theorem dX12_orders_174 : decode cX12_orders 174 = .ok (.iconst (-1), 1) := by decide +kernel
theorem dX12_orders_175 : decode cX12_orders 175 = .ok (.if_icmp .eq 10, 3) := by decide +kernel
theorem dX12_orders_178 : decode cX12_orders 178 = .ok (.iload 6, 2) := by decide +kernel
theorem dX12_orders_180 : decode cX12_orders 180 = .ok (.iload 4, 2) := by decide +kernel
theorem dX12_orders_182 : decode cX12_orders 182 = .ok (.if_icmp .ge 8, 3) := by decide +kernel
theorem dX12_orders_185 : decode cX12_orders 185 = .ok (.iload 6, 2) := by decide +kernel
theorem dX12_orders_187 : decode cX12_orders 187 = .ok (.goto 5, 3) := by decide +kernel
theorem dX12_orders_190 : decode cX12_orders 190 = .ok (.iload 4, 2) := by decide +kernel
theorem dX12_orders_192 : decode cX12_orders 192 = .ok (.istore 4, 2) := by decide +kernel
theorem dX12_orders_194 : decode cX12_orders 194 = .ok (.iinc 5 1, 3) := by decide +kernel
theorem dX12_orders_197 : decode cX12_orders 197 = .ok (.goto (-91), 3) := by decide +kernel
theorem dX12_orders_200 : decode cX12_orders 200 = .ok (.iload 4, 2) := by decide +kernel
theorem dX12_orders_202 : decode cX12_orders 202 = .ok (.ireturn, 1) := by decide +kernel
theorem dX12_programme_0 : decode cX12_programme 0 = .ok (.iload_n 1, 1) := by decide +kernel
theorem dX12_programme_1 : decode cX12_programme 1 = .ok (.invokestatic 169, 3) := by decide +kernel
theorem dX12_programme_4 : decode cX12_programme 4 = .ok (.ifCond .ne 6, 3) := by decide +kernel
theorem dX12_programme_7 : decode cX12_programme 7 = .ok (.bipush (-2), 2) := by decide +kernel
theorem dX12_programme_9 : decode cX12_programme 9 = .ok (.ireturn, 1) := by decide +kernel
theorem dX12_programme_10 : decode cX12_programme 10 = .ok (.iconst 0, 1) := by decide +kernel
theorem dX12_programme_11 : decode cX12_programme 11 = .ok (.istore 4, 2) := by decide +kernel
theorem dX12_programme_13 : decode cX12_programme 13 = .ok (.iload 4, 2) := by decide +kernel
theorem dX12_programme_15 : decode cX12_programme 15 = .ok (.bipush 6, 2) := by decide +kernel
theorem dX12_programme_17 : decode cX12_programme 17 = .ok (.if_icmp .ge 17, 3) := by decide +kernel
theorem dX12_programme_20 : decode cX12_programme 20 = .ok (.aload_n 0, 1) := by decide +kernel
theorem dX12_programme_21 : decode cX12_programme 21 = .ok (.getfield 138, 3) := by decide +kernel
theorem dX12_programme_24 : decode cX12_programme 24 = .ok (.iload 4, 2) := by decide +kernel
theorem dX12_programme_26 : decode cX12_programme 26 = .ok (.iconst 0, 1) := by decide +kernel
theorem dX12_programme_27 : decode cX12_programme 27 = .ok (.iastore, 1) := by decide +kernel
theorem dX12_programme_28 : decode cX12_programme 28 = .ok (.iinc 4 1, 3) := by decide +kernel
theorem dX12_programme_31 : decode cX12_programme 31 = .ok (.goto (-18), 3) := by decide +kernel
theorem dX12_programme_34 : decode cX12_programme 34 = .ok (.iconst 0, 1) := by decide +kernel
theorem dX12_programme_35 : decode cX12_programme 35 = .ok (.istore 4, 2) := by decide +kernel
theorem dX12_programme_37 : decode cX12_programme 37 = .ok (.iload 4, 2) := by decide +kernel
theorem dX12_programme_39 : decode cX12_programme 39 = .ok (.aload_n 0, 1) := by decide +kernel
theorem dX12_programme_40 : decode cX12_programme 40 = .ok (.getfield 159, 3) := by decide +kernel
theorem dX12_programme_43 : decode cX12_programme 43 = .ok (.if_icmp .ge 39, 3) := by decide +kernel
theorem dX12_programme_46 : decode cX12_programme 46 = .ok (.aload_n 0, 1) := by decide +kernel
theorem dX12_programme_47 : decode cX12_programme 47 = .ok (.getfield 138, 3) := by decide +kernel
theorem dX12_programme_50 : decode cX12_programme 50 = .ok (.aload_n 0, 1) := by decide +kernel
theorem dX12_programme_51 : decode cX12_programme 51 = .ok (.getfield 28, 3) := by decide +kernel
theorem dX12_programme_54 : decode cX12_programme 54 = .ok (.iload 4, 2) := by decide +kernel
theorem dX12_programme_56 : decode cX12_programme 56 = .ok (.iaload, 1) := by decide +kernel
theorem dX12_programme_57 : decode cX12_programme 57 = .ok (.dup2, 1) := by decide +kernel
theorem dX12_programme_58 : decode cX12_programme 58 = .ok (.iaload, 1) := by decide +kernel
theorem dX12_programme_59 : decode cX12_programme 59 = .ok (.aload_n 0, 1) := by decide +kernel
theorem dX12_programme_60 : decode cX12_programme 60 = .ok (.iload 4, 2) := by decide +kernel
theorem dX12_programme_62 : decode cX12_programme 62 = .ok (.iload_n 1, 1) := by decide +kernel
theorem dX12_programme_63 : decode cX12_programme 63 = .ok (.invokevirtual 309, 3) := by decide +kernel
theorem dX12_programme_66 : decode cX12_programme 66 = .ok (.ifCond .eq 7, 3) := by decide +kernel
theorem dX12_programme_69 : decode cX12_programme 69 = .ok (.iconst 0, 1) := by decide +kernel
theorem dX12_programme_70 : decode cX12_programme 70 = .ok (.goto 4, 3) := by decide +kernel
theorem dX12_programme_73 : decode cX12_programme 73 = .ok (.iconst 1, 1) := by decide +kernel
theorem dX12_programme_74 : decode cX12_programme 74 = .ok (.iadd, 1) := by decide +kernel
theorem dX12_programme_75 : decode cX12_programme 75 = .ok (.iastore, 1) := by decide +kernel
theorem dX12_programme_76 : decode cX12_programme 76 = .ok (.iinc 4 1, 3) := by decide +kernel
theorem dX12_programme_79 : decode cX12_programme 79 = .ok (.goto (-42), 3) := by decide +kernel
theorem dX12_programme_82 : decode cX12_programme 82 = .ok (.iconst (-1), 1) := by decide +kernel
theorem dX12_programme_83 : decode cX12_programme 83 = .ok (.istore 4, 2) := by decide +kernel
theorem dX12_programme_85 : decode cX12_programme 85 = .ok (.iconst 0, 1) := by decide +kernel
theorem dX12_programme_86 : decode cX12_programme 86 = .ok (.istore 5, 2) := by decide +kernel
theorem dX12_programme_88 : decode cX12_programme 88 = .ok (.iload 5, 2) := by decide +kernel
theorem dX12_programme_90 : decode cX12_programme 90 = .ok (.iconst 1, 1) := by decide +kernel
theorem dX12_programme_91 : decode cX12_programme 91 = .ok (.aload_n 0, 1) := by decide +kernel
theorem dX12_programme_92 : decode cX12_programme 92 = .ok (.getfield 152, 3) := by decide +kernel
theorem dX12_programme_95 : decode cX12_programme 95 = .ok (.ishl, 1) := by decide +kernel
theorem dX12_programme_96 : decode cX12_programme 96 = .ok (.if_icmp .ge 42, 3) := by decide +kernel
theorem dX12_programme_99 : decode cX12_programme 99 = .ok (.aload_n 0, 1) := by decide +kernel
theorem dX12_programme_100 : decode cX12_programme 100 = .ok (.iload 5, 2) := by decide +kernel
theorem dX12_programme_102 : decode cX12_programme 102 = .ok (.iload_n 1, 1) := by decide +kernel
theorem dX12_programme_103 : decode cX12_programme 103 = .ok (.iload_n 2, 1) := by decide +kernel
theorem dX12_programme_104 : decode cX12_programme 104 = .ok (.iload_n 3, 1) := by decide +kernel
theorem dX12_programme_105 : decode cX12_programme 105 = .ok (.invokevirtual 347, 3) := by decide +kernel
theorem dX12_programme_108 : decode cX12_programme 108 = .ok (.ifCond .eq 24, 3) := by decide +kernel
theorem dX12_programme_111 : decode cX12_programme 111 = .ok (.iload 4, 2) := by decide +kernel
theorem dX12_programme_113 : decode cX12_programme 113 = .ok (.iconst (-1), 1) := by decide +kernel
theorem dX12_programme_114 : decode cX12_programme 114 = .ok (.if_icmp .eq 14, 3) := by decide +kernel
theorem dX12_programme_117 : decode cX12_programme 117 = .ok (.aload_n 0, 1) := by decide +kernel
theorem dX12_programme_118 : decode cX12_programme 118 = .ok (.iload 5, 2) := by decide +kernel
theorem dX12_programme_120 : decode cX12_programme 120 = .ok (.iload 4, 2) := by decide +kernel
theorem dX12_programme_122 : decode cX12_programme 122 = .ok (.invokevirtual 351, 3) := by decide +kernel
theorem dX12_programme_125 : decode cX12_programme 125 = .ok (.ifCond .eq 7, 3) := by decide +kernel
theorem dX12_programme_128 : decode cX12_programme 128 = .ok (.iload 5, 2) := by decide +kernel
theorem dX12_programme_130 : decode cX12_programme 130 = .ok (.istore 4, 2) := by decide +kernel
theorem dX12_programme_132 : decode cX12_programme 132 = .ok (.iinc 5 1, 3) := by decide +kernel
theorem dX12_programme_135 : decode cX12_programme 135 = .ok (.goto (-47), 3) := by decide +kernel
theorem dX12_programme_138 : decode cX12_programme 138 = .ok (.iload 4, 2) := by decide +kernel
theorem dX12_programme_140 : decode cX12_programme 140 = .ok (.ireturn, 1) := by decide +kernel
theorem dX12_count_0 : decode cX12_count 0 = .ok (.iconst 0, 1) := by decide +kernel
theorem dX12_count_1 : decode cX12_count 1 = .ok (.istore_n 2, 1) := by decide +kernel
theorem dX12_count_2 : decode cX12_count 2 = .ok (.iload_n 1, 1) := by decide +kernel
theorem dX12_count_3 : decode cX12_count 3 = .ok (.tableswitch 114 0 6 #[41, 46, 51, 56, 61, 66, 66], 41) := by decide +kernel
theorem dX12_count_44 : decode cX12_count 44 = .ok (.aload_n 0, 1) := by decide +kernel
theorem dX12_count_45 : decode cX12_count 45 = .ok (.getfield 152, 3) := by decide +kernel
theorem dX12_count_48 : decode cX12_count 48 = .ok (.ireturn, 1) := by decide +kernel
theorem dX12_count_49 : decode cX12_count 49 = .ok (.aload_n 0, 1) := by decide +kernel
theorem dX12_count_50 : decode cX12_count 50 = .ok (.getfield 159, 3) := by decide +kernel
theorem dX12_count_53 : decode cX12_count 53 = .ok (.ireturn, 1) := by decide +kernel
theorem dX12_count_54 : decode cX12_count 54 = .ok (.aload_n 0, 1) := by decide +kernel
theorem dX12_count_55 : decode cX12_count 55 = .ok (.getfield 162, 3) := by decide +kernel
theorem dX12_count_58 : decode cX12_count 58 = .ok (.ireturn, 1) := by decide +kernel
theorem dX12_count_59 : decode cX12_count 59 = .ok (.aload_n 0, 1) := by decide +kernel
theorem dX12_count_60 : decode cX12_count 60 = .ok (.getfield 145, 3) := by decide +kernel
theorem dX12_count_63 : decode cX12_count 63 = .ok (.ireturn, 1) := by decide +kernel
theorem dX12_count_64 : decode cX12_count 64 = .ok (.aload_n 0, 1) := by decide +kernel
theorem dX12_count_65 : decode cX12_count 65 = .ok (.getfield 301, 3) := by decide +kernel
theorem dX12_count_68 : decode cX12_count 68 = .ok (.ireturn, 1) := by decide +kernel
theorem dX12_count_69 : decode cX12_count 69 = .ok (.iconst 0, 1) := by decide +kernel
theorem dX12_count_70 : decode cX12_count 70 = .ok (.istore_n 3, 1) := by decide +kernel
theorem dX12_count_71 : decode cX12_count 71 = .ok (.iload_n 3, 1) := by decide +kernel
theorem dX12_count_72 : decode cX12_count 72 = .ok (.aload_n 0, 1) := by decide +kernel
theorem dX12_count_73 : decode cX12_count 73 = .ok (.getfield 162, 3) := by decide +kernel
theorem dX12_count_76 : decode cX12_count 76 = .ok (.if_icmp .ge 39, 3) := by decide +kernel
theorem dX12_count_79 : decode cX12_count 79 = .ok (.iload_n 2, 1) := by decide +kernel
theorem dX12_count_80 : decode cX12_count 80 = .ok (.aload_n 0, 1) := by decide +kernel
theorem dX12_count_81 : decode cX12_count 81 = .ok (.getfield 67, 3) := by decide +kernel
theorem dX12_count_84 : decode cX12_count 84 = .ok (.iload_n 3, 1) := by decide +kernel
theorem dX12_count_85 : decode cX12_count 85 = .ok (.baload, 1) := by decide +kernel
theorem dX12_count_86 : decode cX12_count 86 = .ok (.ifCond .ne 7, 3) := by decide +kernel
theorem dX12_count_89 : decode cX12_count 89 = .ok (.iconst 0, 1) := by decide +kernel
theorem dX12_count_90 : decode cX12_count 90 = .ok (.goto 17, 3) := by decide +kernel
theorem dX12_count_93 : decode cX12_count 93 = .ok (.iload_n 1, 1) := by decide +kernel
theorem dX12_count_94 : decode cX12_count 94 = .ok (.iconst 5, 1) := by decide +kernel
theorem dX12_count_95 : decode cX12_count 95 = .ok (.if_icmp .ne 7, 3) := by decide +kernel
theorem dX12_count_98 : decode cX12_count 98 = .ok (.iconst 1, 1) := by decide +kernel
theorem dX12_count_99 : decode cX12_count 99 = .ok (.goto 8, 3) := by decide +kernel
theorem dX12_count_102 : decode cX12_count 102 = .ok (.aload_n 0, 1) := by decide +kernel
theorem dX12_count_103 : decode cX12_count 103 = .ok (.iload_n 3, 1) := by decide +kernel
theorem dX12_count_104 : decode cX12_count 104 = .ok (.invokevirtual 199, 3) := by decide +kernel
theorem dX12_count_107 : decode cX12_count 107 = .ok (.iadd, 1) := by decide +kernel
theorem dX12_count_108 : decode cX12_count 108 = .ok (.istore_n 2, 1) := by decide +kernel
theorem dX12_count_109 : decode cX12_count 109 = .ok (.iinc 3 1, 3) := by decide +kernel
theorem dX12_count_112 : decode cX12_count 112 = .ok (.goto (-41), 3) := by decide +kernel
theorem dX12_count_115 : decode cX12_count 115 = .ok (.iload_n 2, 1) := by decide +kernel
theorem dX12_count_116 : decode cX12_count 116 = .ok (.ireturn, 1) := by decide +kernel
theorem dX12_count_117 : decode cX12_count 117 = .ok (.bipush (-2), 2) := by decide +kernel
theorem dX12_count_119 : decode cX12_count 119 = .ok (.ireturn, 1) := by decide +kernel
theorem dX12_order_0 : decode cX12_order 0 = .ok (.aload_n 0, 1) := by decide +kernel
theorem dX12_order_1 : decode cX12_order 1 = .ok (.iload_n 1, 1) := by decide +kernel
theorem dX12_order_2 : decode cX12_order 2 = .ok (.invokevirtual 193, 3) := by decide +kernel
theorem dX12_order_5 : decode cX12_order 5 = .ok (.ifCond .ne 6, 3) := by decide +kernel
theorem dX12_order_8 : decode cX12_order 8 = .ok (.bipush (-2), 2) := by decide +kernel
theorem dX12_order_10 : decode cX12_order 10 = .ok (.ireturn, 1) := by decide +kernel
theorem dX12_order_11 : decode cX12_order 11 = .ok (.iload_n 2, 1) := by decide +kernel
theorem dX12_order_12 : decode cX12_order 12 = .ok (.iconst 0, 1) := by decide +kernel
theorem dX12_order_13 : decode cX12_order 13 = .ok (.aload_n 0, 1) := by decide +kernel
theorem dX12_order_14 : decode cX12_order 14 = .ok (.getfield 58, 3) := by decide +kernel
theorem dX12_order_17 : decode cX12_order 17 = .ok (.iload_n 1, 1) := by decide +kernel
theorem dX12_order_18 : decode cX12_order 18 = .ok (.iaload, 1) := by decide +kernel
theorem dX12_order_19 : decode cX12_order 19 = .ok (.iconst 1, 1) := by decide +kernel
theorem dX12_order_20 : decode cX12_order 20 = .ok (.isub, 1) := by decide +kernel
theorem dX12_order_21 : decode cX12_order 21 = .ok (.invokestatic 155, 3) := by decide +kernel
theorem dX12_order_24 : decode cX12_order 24 = .ok (.ifCond .ne 5, 3) := by decide +kernel
theorem dX12_order_27 : decode cX12_order 27 = .ok (.iconst (-1), 1) := by decide +kernel
theorem dX12_order_28 : decode cX12_order 28 = .ok (.ireturn, 1) := by decide +kernel
theorem dX12_order_29 : decode cX12_order 29 = .ok (.aload_n 0, 1) := by decide +kernel
theorem dX12_order_30 : decode cX12_order 30 = .ok (.iload_n 1, 1) := by decide +kernel
theorem dX12_order_31 : decode cX12_order 31 = .ok (.invokevirtual 344, 3) := by decide +kernel
theorem dX12_order_34 : decode cX12_order 34 = .ok (.istore_n 3, 1) := by decide +kernel
theorem dX12_order_35 : decode cX12_order 35 = .ok (.iload_n 3, 1) := by decide +kernel
theorem dX12_order_36 : decode cX12_order 36 = .ok (.ifCond .ge 7, 3) := by decide +kernel
theorem dX12_order_39 : decode cX12_order 39 = .ok (.iconst (-1), 1) := by decide +kernel
theorem dX12_order_40 : decode cX12_order 40 = .ok (.goto 9, 3) := by decide +kernel
theorem dX12_order_43 : decode cX12_order 43 = .ok (.aload_n 0, 1) := by decide +kernel
theorem dX12_order_44 : decode cX12_order 44 = .ok (.getfield 132, 3) := by decide +kernel
theorem dX12_order_47 : decode cX12_order 47 = .ok (.iload_n 2, 1) := by decide +kernel
theorem dX12_order_48 : decode cX12_order 48 = .ok (.iaload, 1) := by decide +kernel
theorem dX12_order_49 : decode cX12_order 49 = .ok (.ireturn, 1) := by decide +kernel
theorem dX12_serviceTold_0 : decode cX12_serviceTold 0 = .ok (.aload_n 0, 1) := by decide +kernel
theorem dX12_serviceTold_1 : decode cX12_serviceTold 1 = .ok (.iload_n 1, 1) := by decide +kernel
theorem dX12_serviceTold_2 : decode cX12_serviceTold 2 = .ok (.invokevirtual 193, 3) := by decide +kernel
theorem dX12_serviceTold_5 : decode cX12_serviceTold 5 = .ok (.ifCond .eq 7, 3) := by decide +kernel
theorem dX12_serviceTold_8 : decode cX12_serviceTold 8 = .ok (.iload_n 2, 1) := by decide +kernel
theorem dX12_serviceTold_9 : decode cX12_serviceTold 9 = .ok (.ifCond .ge 6, 3) := by decide +kernel
theorem dX12_serviceTold_12 : decode cX12_serviceTold 12 = .ok (.bipush (-2), 2) := by decide +kernel
theorem dX12_serviceTold_14 : decode cX12_serviceTold 14 = .ok (.ireturn, 1) := by decide +kernel
theorem dX12_serviceTold_15 : decode cX12_serviceTold 15 = .ok (.iload_n 2, 1) := by decide +kernel
theorem dX12_serviceTold_16 : decode cX12_serviceTold 16 = .ok (.tableswitch 124 0 7 #[48, 55, 62, 69, 76, 83, 90, 105], 48) := by decide +kernel
theorem dX12_serviceTold_64 : decode cX12_serviceTold 64 = .ok (.aload_n 0, 1) := by decide +kernel
theorem dX12_serviceTold_65 : decode cX12_serviceTold 65 = .ok (.getfield 46, 3) := by decide +kernel
theorem dX12_serviceTold_68 : decode cX12_serviceTold 68 = .ok (.iload_n 1, 1) := by decide +kernel
theorem dX12_serviceTold_69 : decode cX12_serviceTold 69 = .ok (.iaload, 1) := by decide +kernel
theorem dX12_serviceTold_70 : decode cX12_serviceTold 70 = .ok (.ireturn, 1) := by decide +kernel
theorem dX12_serviceTold_71 : decode cX12_serviceTold 71 = .ok (.aload_n 0, 1) := by decide +kernel
theorem dX12_serviceTold_72 : decode cX12_serviceTold 72 = .ok (.getfield 49, 3) := by decide +kernel
theorem dX12_serviceTold_75 : decode cX12_serviceTold 75 = .ok (.iload_n 1, 1) := by decide +kernel
theorem dX12_serviceTold_76 : decode cX12_serviceTold 76 = .ok (.iaload, 1) := by decide +kernel
theorem dX12_serviceTold_77 : decode cX12_serviceTold 77 = .ok (.ireturn, 1) := by decide +kernel
theorem dX12_serviceTold_78 : decode cX12_serviceTold 78 = .ok (.aload_n 0, 1) := by decide +kernel
theorem dX12_serviceTold_79 : decode cX12_serviceTold 79 = .ok (.getfield 52, 3) := by decide +kernel
theorem dX12_serviceTold_82 : decode cX12_serviceTold 82 = .ok (.iload_n 1, 1) := by decide +kernel
theorem dX12_serviceTold_83 : decode cX12_serviceTold 83 = .ok (.iaload, 1) := by decide +kernel
theorem dX12_serviceTold_84 : decode cX12_serviceTold 84 = .ok (.ireturn, 1) := by decide +kernel
theorem dX12_serviceTold_85 : decode cX12_serviceTold 85 = .ok (.aload_n 0, 1) := by decide +kernel
theorem dX12_serviceTold_86 : decode cX12_serviceTold 86 = .ok (.getfield 55, 3) := by decide +kernel
theorem dX12_serviceTold_89 : decode cX12_serviceTold 89 = .ok (.iload_n 1, 1) := by decide +kernel
theorem dX12_serviceTold_90 : decode cX12_serviceTold 90 = .ok (.iaload, 1) := by decide +kernel
theorem dX12_serviceTold_91 : decode cX12_serviceTold 91 = .ok (.ireturn, 1) := by decide +kernel
theorem dX12_serviceTold_92 : decode cX12_serviceTold 92 = .ok (.aload_n 0, 1) := by decide +kernel
theorem dX12_serviceTold_93 : decode cX12_serviceTold 93 = .ok (.getfield 58, 3) := by decide +kernel
theorem dX12_serviceTold_96 : decode cX12_serviceTold 96 = .ok (.iload_n 1, 1) := by decide +kernel
theorem dX12_serviceTold_97 : decode cX12_serviceTold 97 = .ok (.iaload, 1) := by decide +kernel
theorem dX12_serviceTold_98 : decode cX12_serviceTold 98 = .ok (.ireturn, 1) := by decide +kernel
theorem dX12_serviceTold_99 : decode cX12_serviceTold 99 = .ok (.aload_n 0, 1) := by decide +kernel
theorem dX12_serviceTold_100 : decode cX12_serviceTold 100 = .ok (.iload_n 1, 1) := by decide +kernel
theorem dX12_serviceTold_101 : decode cX12_serviceTold 101 = .ok (.iconst (-1), 1) := by decide +kernel
theorem dX12_serviceTold_102 : decode cX12_serviceTold 102 = .ok (.invokevirtual 196, 3) := by decide +kernel
theorem dX12_serviceTold_105 : decode cX12_serviceTold 105 = .ok (.ireturn, 1) := by decide +kernel
theorem dX12_serviceTold_106 : decode cX12_serviceTold 106 = .ok (.aload_n 0, 1) := by decide +kernel
theorem dX12_serviceTold_107 : decode cX12_serviceTold 107 = .ok (.getfield 67, 3) := by decide +kernel
theorem dX12_serviceTold_110 : decode cX12_serviceTold 110 = .ok (.iload_n 1, 1) := by decide +kernel
theorem dX12_serviceTold_111 : decode cX12_serviceTold 111 = .ok (.baload, 1) := by decide +kernel
theorem dX12_serviceTold_112 : decode cX12_serviceTold 112 = .ok (.ifCond .eq 7, 3) := by decide +kernel
theorem dX12_serviceTold_115 : decode cX12_serviceTold 115 = .ok (.iconst 1, 1) := by decide +kernel
theorem dX12_serviceTold_116 : decode cX12_serviceTold 116 = .ok (.goto 4, 3) := by decide +kernel
theorem dX12_serviceTold_119 : decode cX12_serviceTold 119 = .ok (.iconst 0, 1) := by decide +kernel
theorem dX12_serviceTold_120 : decode cX12_serviceTold 120 = .ok (.ireturn, 1) := by decide +kernel
theorem dX12_serviceTold_121 : decode cX12_serviceTold 121 = .ok (.aload_n 0, 1) := by decide +kernel
theorem dX12_serviceTold_122 : decode cX12_serviceTold 122 = .ok (.getfield 67, 3) := by decide +kernel
theorem dX12_serviceTold_125 : decode cX12_serviceTold 125 = .ok (.iload_n 1, 1) := by decide +kernel
theorem dX12_serviceTold_126 : decode cX12_serviceTold 126 = .ok (.baload, 1) := by decide +kernel
theorem dX12_serviceTold_127 : decode cX12_serviceTold 127 = .ok (.ifCond .eq 11, 3) := by decide +kernel
theorem dX12_serviceTold_130 : decode cX12_serviceTold 130 = .ok (.aload_n 0, 1) := by decide +kernel
theorem dX12_serviceTold_131 : decode cX12_serviceTold 131 = .ok (.iload_n 1, 1) := by decide +kernel
theorem dX12_serviceTold_132 : decode cX12_serviceTold 132 = .ok (.invokevirtual 199, 3) := by decide +kernel
theorem dX12_serviceTold_135 : decode cX12_serviceTold 135 = .ok (.goto 4, 3) := by decide +kernel
theorem dX12_serviceTold_138 : decode cX12_serviceTold 138 = .ok (.iconst (-1), 1) := by decide +kernel
theorem dX12_serviceTold_139 : decode cX12_serviceTold 139 = .ok (.ireturn, 1) := by decide +kernel
theorem dX12_serviceTold_140 : decode cX12_serviceTold 140 = .ok (.iload_n 2, 1) := by decide +kernel
theorem dX12_serviceTold_141 : decode cX12_serviceTold 141 = .ok (.bipush 8, 2) := by decide +kernel
theorem dX12_serviceTold_143 : decode cX12_serviceTold 143 = .ok (.isub, 1) := by decide +kernel
theorem dX12_serviceTold_144 : decode cX12_serviceTold 144 = .ok (.aload_n 0, 1) := by decide +kernel
theorem dX12_serviceTold_145 : decode cX12_serviceTold 145 = .ok (.getfield 58, 3) := by decide +kernel
theorem dX12_serviceTold_148 : decode cX12_serviceTold 148 = .ok (.iload_n 1, 1) := by decide +kernel
theorem dX12_serviceTold_149 : decode cX12_serviceTold 149 = .ok (.iaload, 1) := by decide +kernel
theorem dX12_serviceTold_150 : decode cX12_serviceTold 150 = .ok (.if_icmp .ge 19, 3) := by decide +kernel
theorem dX12_serviceTold_153 : decode cX12_serviceTold 153 = .ok (.aload_n 0, 1) := by decide +kernel
theorem dX12_serviceTold_154 : decode cX12_serviceTold 154 = .ok (.getfield 61, 3) := by decide +kernel
theorem dX12_serviceTold_157 : decode cX12_serviceTold 157 = .ok (.iconst 5, 1) := by decide +kernel
theorem dX12_serviceTold_158 : decode cX12_serviceTold 158 = .ok (.iload_n 1, 1) := by decide +kernel
theorem dX12_serviceTold_159 : decode cX12_serviceTold 159 = .ok (.imul, 1) := by decide +kernel
theorem dX12_serviceTold_160 : decode cX12_serviceTold 160 = .ok (.iload_n 2, 1) := by decide +kernel
theorem dX12_serviceTold_161 : decode cX12_serviceTold 161 = .ok (.iadd, 1) := by decide +kernel
theorem dX12_serviceTold_162 : decode cX12_serviceTold 162 = .ok (.bipush 8, 2) := by decide +kernel
theorem dX12_serviceTold_164 : decode cX12_serviceTold 164 = .ok (.isub, 1) := by decide +kernel
theorem dX12_serviceTold_165 : decode cX12_serviceTold 165 = .ok (.iaload, 1) := by decide +kernel
theorem dX12_serviceTold_166 : decode cX12_serviceTold 166 = .ok (.goto 4, 3) := by decide +kernel
theorem dX12_serviceTold_169 : decode cX12_serviceTold 169 = .ok (.iconst (-1), 1) := by decide +kernel
theorem dX12_serviceTold_170 : decode cX12_serviceTold 170 = .ok (.ireturn, 1) := by decide +kernel
theorem dX12_waits_0 : decode cX12_waits 0 = .ok (.aload_n 0, 1) := by decide +kernel
theorem dX12_waits_1 : decode cX12_waits 1 = .ok (.iload_n 1, 1) := by decide +kernel
theorem dX12_waits_2 : decode cX12_waits 2 = .ok (.invokevirtual 193, 3) := by decide +kernel
theorem dX12_waits_5 : decode cX12_waits 5 = .ok (.ifCond .eq 11, 3) := by decide +kernel
theorem dX12_waits_8 : decode cX12_waits 8 = .ok (.aload_n 0, 1) := by decide +kernel
theorem dX12_waits_9 : decode cX12_waits 9 = .ok (.iload_n 1, 1) := by decide +kernel
theorem dX12_waits_10 : decode cX12_waits 10 = .ok (.invokevirtual 344, 3) := by decide +kernel
theorem dX12_waits_13 : decode cX12_waits 13 = .ok (.goto 5, 3) := by decide +kernel
theorem dX12_waits_16 : decode cX12_waits 16 = .ok (.bipush (-2), 2) := by decide +kernel
theorem dX12_waits_18 : decode cX12_waits 18 = .ok (.ireturn, 1) := by decide +kernel
theorem dX12_worthOf_0 : decode cX12_worthOf 0 = .ok (.iconst 0, 1) := by decide +kernel
theorem dX12_worthOf_1 : decode cX12_worthOf 1 = .ok (.istore 6, 2) := by decide +kernel
theorem dX12_worthOf_3 : decode cX12_worthOf 3 = .ok (.aload_n 0, 1) := by decide +kernel
theorem dX12_worthOf_4 : decode cX12_worthOf 4 = .ok (.getfield 89, 3) := by decide +kernel
theorem dX12_worthOf_7 : decode cX12_worthOf 7 = .ok (.bipush 11, 2) := by decide +kernel
theorem dX12_worthOf_9 : decode cX12_worthOf 9 = .ok (.iload_n 1, 1) := by decide +kernel
theorem dX12_worthOf_10 : decode cX12_worthOf 10 = .ok (.imul, 1) := by decide +kernel
theorem dX12_worthOf_11 : decode cX12_worthOf 11 = .ok (.iload_n 2, 1) := by decide +kernel
theorem dX12_worthOf_12 : decode cX12_worthOf 12 = .ok (.iadd, 1) := by decide +kernel
theorem dX12_worthOf_13 : decode cX12_worthOf 13 = .ok (.iaload, 1) := by decide +kernel
theorem dX12_worthOf_14 : decode cX12_worthOf 14 = .ok (.istore 7, 2) := by decide +kernel
theorem dX12_worthOf_16 : decode cX12_worthOf 16 = .ok (.iload 7, 2) := by decide +kernel
theorem dX12_worthOf_18 : decode cX12_worthOf 18 = .ok (.aload_n 0, 1) := by decide +kernel
theorem dX12_worthOf_19 : decode cX12_worthOf 19 = .ok (.getfield 89, 3) := by decide +kernel
theorem dX12_worthOf_22 : decode cX12_worthOf 22 = .ok (.bipush 11, 2) := by decide +kernel
theorem dX12_worthOf_24 : decode cX12_worthOf 24 = .ok (.iload_n 1, 1) := by decide +kernel
theorem dX12_worthOf_25 : decode cX12_worthOf 25 = .ok (.imul, 1) := by decide +kernel
theorem dX12_worthOf_26 : decode cX12_worthOf 26 = .ok (.iload_n 2, 1) := by decide +kernel
theorem dX12_worthOf_27 : decode cX12_worthOf 27 = .ok (.iadd, 1) := by decide +kernel
theorem dX12_worthOf_28 : decode cX12_worthOf 28 = .ok (.iconst 1, 1) := by decide +kernel
theorem dX12_worthOf_29 : decode cX12_worthOf 29 = .ok (.iadd, 1) := by decide +kernel
theorem dX12_worthOf_30 : decode cX12_worthOf 30 = .ok (.iaload, 1) := by decide +kernel
theorem dX12_worthOf_31 : decode cX12_worthOf 31 = .ok (.if_icmp .ge 185, 3) := by decide +kernel
theorem dX12_worthOf_34 : decode cX12_worthOf 34 = .ok (.aload_n 0, 1) := by decide +kernel
theorem dX12_worthOf_35 : decode cX12_worthOf 35 = .ok (.getfield 80, 3) := by decide +kernel
theorem dX12_worthOf_38 : decode cX12_worthOf 38 = .ok (.sipush 300, 3) := by decide +kernel
theorem dX12_worthOf_41 : decode cX12_worthOf 41 = .ok (.iload_n 1, 1) := by decide +kernel
theorem dX12_worthOf_42 : decode cX12_worthOf 42 = .ok (.imul, 1) := by decide +kernel
theorem dX12_worthOf_43 : decode cX12_worthOf 43 = .ok (.iload 7, 2) := by decide +kernel
theorem dX12_worthOf_45 : decode cX12_worthOf 45 = .ok (.iadd, 1) := by decide +kernel
theorem dX12_worthOf_46 : decode cX12_worthOf 46 = .ok (.iaload, 1) := by decide +kernel
theorem dX12_worthOf_47 : decode cX12_worthOf 47 = .ok (.istore 8, 2) := by decide +kernel
theorem dX12_worthOf_49 : decode cX12_worthOf 49 = .ok (.aload_n 0, 1) := by decide +kernel
theorem dX12_worthOf_50 : decode cX12_worthOf 50 = .ok (.getfield 83, 3) := by decide +kernel
theorem dX12_worthOf_53 : decode cX12_worthOf 53 = .ok (.sipush 300, 3) := by decide +kernel
theorem dX12_worthOf_56 : decode cX12_worthOf 56 = .ok (.iload_n 1, 1) := by decide +kernel
theorem dX12_worthOf_57 : decode cX12_worthOf 57 = .ok (.imul, 1) := by decide +kernel
theorem dX12_worthOf_58 : decode cX12_worthOf 58 = .ok (.iload 7, 2) := by decide +kernel
theorem dX12_worthOf_60 : decode cX12_worthOf 60 = .ok (.iadd, 1) := by decide +kernel
theorem dX12_worthOf_61 : decode cX12_worthOf 61 = .ok (.iaload, 1) := by decide +kernel
theorem dX12_worthOf_62 : decode cX12_worthOf 62 = .ok (.istore 9, 2) := by decide +kernel
theorem dX12_worthOf_64 : decode cX12_worthOf 64 = .ok (.iload 8, 2) := by decide +kernel
theorem dX12_worthOf_66 : decode cX12_worthOf 66 = .ok (.ifCond .eq 9, 3) := by decide +kernel
theorem dX12_worthOf_69 : decode cX12_worthOf 69 = .ok (.iload 8, 2) := by decide +kernel
theorem dX12_worthOf_71 : decode cX12_worthOf 71 = .ok (.iconst 1, 1) := by decide +kernel
theorem dX12_worthOf_72 : decode cX12_worthOf 72 = .ok (.if_icmp .ne 39, 3) := by decide +kernel
theorem dX12_worthOf_75 : decode cX12_worthOf 75 = .ok (.aload_n 0, 1) := by decide +kernel
theorem dX12_worthOf_76 : decode cX12_worthOf 76 = .ok (.getfield 117, 3) := by decide +kernel
theorem dX12_worthOf_79 : decode cX12_worthOf 79 = .ok (.iload 6, 2) := by decide +kernel
theorem dX12_worthOf_81 : decode cX12_worthOf 81 = .ok (.iload 8, 2) := by decide +kernel
theorem dX12_worthOf_83 : decode cX12_worthOf 83 = .ok (.ifCond .ne 9, 3) := by decide +kernel
theorem dX12_worthOf_86 : decode cX12_worthOf 86 = .ok (.iload 9, 2) := by decide +kernel
theorem dX12_worthOf_88 : decode cX12_worthOf 88 = .ok (.i2l, 1) := by decide +kernel
theorem dX12_worthOf_89 : decode cX12_worthOf 89 = .ok (.goto 15, 3) := by decide +kernel
theorem dX12_worthOf_92 : decode cX12_worthOf 92 = .ok (.aload_n 0, 1) := by decide +kernel
theorem dX12_worthOf_93 : decode cX12_worthOf 93 = .ok (.iload 9, 2) := by decide +kernel
theorem dX12_worthOf_95 : decode cX12_worthOf 95 = .ok (.iload_n 3, 1) := by decide +kernel
theorem dX12_worthOf_96 : decode cX12_worthOf 96 = .ok (.iload 4, 2) := by decide +kernel
theorem dX12_worthOf_98 : decode cX12_worthOf 98 = .ok (.iload 5, 2) := by decide +kernel
theorem dX12_worthOf_100 : decode cX12_worthOf 100 = .ok (.invokevirtual 293, 3) := by decide +kernel
theorem dX12_worthOf_103 : decode cX12_worthOf 103 = .ok (.i2l, 1) := by decide +kernel
theorem dX12_worthOf_104 : decode cX12_worthOf 104 = .ok (.lastore, 1) := by decide +kernel
theorem dX12_worthOf_105 : decode cX12_worthOf 105 = .ok (.iinc 6 1, 3) := by decide +kernel
theorem dX12_worthOf_108 : decode cX12_worthOf 108 = .ok (.goto 102, 3) := by decide +kernel
theorem dX12_worthOf_111 : decode cX12_worthOf 111 = .ok (.iload 8, 2) := by decide +kernel
theorem dX12_worthOf_113 : decode cX12_worthOf 113 = .ok (.iconst 4, 1) := by decide +kernel
theorem dX12_worthOf_114 : decode cX12_worthOf 114 = .ok (.if_icmp .ne 34, 3) := by decide +kernel
theorem dX12_worthOf_117 : decode cX12_worthOf 117 = .ok (.aload_n 0, 1) := by decide +kernel
theorem dX12_worthOf_118 : decode cX12_worthOf 118 = .ok (.getfield 117, 3) := by decide +kernel
theorem dX12_worthOf_121 : decode cX12_worthOf 121 = .ok (.iload 6, 2) := by decide +kernel
theorem dX12_worthOf_123 : decode cX12_worthOf 123 = .ok (.iconst 1, 1) := by decide +kernel
theorem dX12_worthOf_124 : decode cX12_worthOf 124 = .ok (.isub, 1) := by decide +kernel
theorem dX12_worthOf_125 : decode cX12_worthOf 125 = .ok (.aload_n 0, 1) := by decide +kernel
theorem dX12_worthOf_126 : decode cX12_worthOf 126 = .ok (.getfield 117, 3) := by decide +kernel
theorem dX12_worthOf_129 : decode cX12_worthOf 129 = .ok (.iload 6, 2) := by decide +kernel
theorem dX12_worthOf_131 : decode cX12_worthOf 131 = .ok (.iconst 1, 1) := by decide +kernel
theorem dX12_worthOf_132 : decode cX12_worthOf 132 = .ok (.isub, 1) := by decide +kernel
theorem dX12_worthOf_133 : decode cX12_worthOf 133 = .ok (.laload, 1) := by decide +kernel
theorem dX12_worthOf_134 : decode cX12_worthOf 134 = .ok (.lconst 0, 1) := by decide +kernel
theorem dX12_worthOf_135 : decode cX12_worthOf 135 = .ok (.lcmp, 1) := by decide +kernel
theorem dX12_worthOf_136 : decode cX12_worthOf 136 = .ok (.ifCond .ne 7, 3) := by decide +kernel
theorem dX12_worthOf_139 : decode cX12_worthOf 139 = .ok (.lconst 1, 1) := by decide +kernel
theorem dX12_worthOf_140 : decode cX12_worthOf 140 = .ok (.goto 4, 3) := by decide +kernel
theorem dX12_worthOf_143 : decode cX12_worthOf 143 = .ok (.lconst 0, 1) := by decide +kernel
theorem dX12_worthOf_144 : decode cX12_worthOf 144 = .ok (.lastore, 1) := by decide +kernel
theorem dX12_worthOf_145 : decode cX12_worthOf 145 = .ok (.goto 65, 3) := by decide +kernel
theorem dX12_worthOf_148 : decode cX12_worthOf 148 = .ok (.iload 8, 2) := by decide +kernel
theorem dX12_worthOf_150 : decode cX12_worthOf 150 = .ok (.bipush 10, 2) := by decide +kernel
theorem dX12_worthOf_152 : decode cX12_worthOf 152 = .ok (.if_icmp .ne 25, 3) := by decide +kernel
theorem dX12_worthOf_155 : decode cX12_worthOf 155 = .ok (.aload_n 0, 1) := by decide +kernel
theorem dX12_worthOf_156 : decode cX12_worthOf 156 = .ok (.getfield 117, 3) := by decide +kernel
theorem dX12_worthOf_159 : decode cX12_worthOf 159 = .ok (.iload 6, 2) := by decide +kernel
theorem dX12_worthOf_161 : decode cX12_worthOf 161 = .ok (.iconst 1, 1) := by decide +kernel
theorem dX12_worthOf_162 : decode cX12_worthOf 162 = .ok (.isub, 1) := by decide +kernel
theorem dX12_worthOf_163 : decode cX12_worthOf 163 = .ok (.aload_n 0, 1) := by decide +kernel
theorem dX12_worthOf_164 : decode cX12_worthOf 164 = .ok (.getfield 117, 3) := by decide +kernel
theorem dX12_worthOf_167 : decode cX12_worthOf 167 = .ok (.iload 6, 2) := by decide +kernel
theorem dX12_worthOf_169 : decode cX12_worthOf 169 = .ok (.iconst 1, 1) := by decide +kernel
theorem dX12_worthOf_170 : decode cX12_worthOf 170 = .ok (.isub, 1) := by decide +kernel
theorem dX12_worthOf_171 : decode cX12_worthOf 171 = .ok (.laload, 1) := by decide +kernel
theorem dX12_worthOf_172 : decode cX12_worthOf 172 = .ok (.lneg, 1) := by decide +kernel
theorem dX12_worthOf_173 : decode cX12_worthOf 173 = .ok (.lastore, 1) := by decide +kernel
theorem dX12_worthOf_174 : decode cX12_worthOf 174 = .ok (.goto 36, 3) := by decide +kernel
theorem dX12_worthOf_177 : decode cX12_worthOf 177 = .ok (.iinc 6 (-1), 3) := by decide +kernel
theorem dX12_worthOf_180 : decode cX12_worthOf 180 = .ok (.aload_n 0, 1) := by decide +kernel
theorem dX12_worthOf_181 : decode cX12_worthOf 181 = .ok (.getfield 117, 3) := by decide +kernel
theorem dX12_worthOf_184 : decode cX12_worthOf 184 = .ok (.iload 6, 2) := by decide +kernel
theorem dX12_worthOf_186 : decode cX12_worthOf 186 = .ok (.iconst 1, 1) := by decide +kernel
theorem dX12_worthOf_187 : decode cX12_worthOf 187 = .ok (.isub, 1) := by decide +kernel
theorem dX12_worthOf_188 : decode cX12_worthOf 188 = .ok (.iload 8, 2) := by decide +kernel
theorem dX12_worthOf_190 : decode cX12_worthOf 190 = .ok (.aload_n 0, 1) := by decide +kernel
theorem dX12_worthOf_191 : decode cX12_worthOf 191 = .ok (.getfield 117, 3) := by decide +kernel
theorem dX12_worthOf_194 : decode cX12_worthOf 194 = .ok (.iload 6, 2) := by decide +kernel
theorem dX12_worthOf_196 : decode cX12_worthOf 196 = .ok (.iconst 1, 1) := by decide +kernel
theorem dX12_worthOf_197 : decode cX12_worthOf 197 = .ok (.isub, 1) := by decide +kernel
theorem dX12_worthOf_198 : decode cX12_worthOf 198 = .ok (.laload, 1) := by decide +kernel
theorem dX12_worthOf_199 : decode cX12_worthOf 199 = .ok (.aload_n 0, 1) := by decide +kernel
theorem dX12_worthOf_200 : decode cX12_worthOf 200 = .ok (.getfield 117, 3) := by decide +kernel
theorem dX12_worthOf_203 : decode cX12_worthOf 203 = .ok (.iload 6, 2) := by decide +kernel
theorem dX12_worthOf_205 : decode cX12_worthOf 205 = .ok (.laload, 1) := by decide +kernel
theorem dX12_worthOf_206 : decode cX12_worthOf 206 = .ok (.invokestatic 297, 3) := by decide +kernel
theorem dX12_worthOf_209 : decode cX12_worthOf 209 = .ok (.lastore, 1) := by decide +kernel
theorem dX12_worthOf_210 : decode cX12_worthOf 210 = .ok (.iinc 7 1, 3) := by decide +kernel
theorem dX12_worthOf_213 : decode cX12_worthOf 213 = .ok (.goto (-197), 3) := by decide +kernel
theorem dX12_worthOf_216 : decode cX12_worthOf 216 = .ok (.aload_n 0, 1) := by decide +kernel
theorem dX12_worthOf_217 : decode cX12_worthOf 217 = .ok (.getfield 117, 3) := by decide +kernel
theorem dX12_worthOf_220 : decode cX12_worthOf 220 = .ok (.iconst 0, 1) := by decide +kernel
theorem dX12_worthOf_221 : decode cX12_worthOf 221 = .ok (.laload, 1) := by decide +kernel
theorem dX12_worthOf_222 : decode cX12_worthOf 222 = .ok (.lreturn, 1) := by decide +kernel
theorem dX12_dueOf_0 : decode cX12_dueOf 0 = .ok (.lconst 0, 1) := by decide +kernel
theorem dX12_dueOf_1 : decode cX12_dueOf 1 = .ok (.lstore 5, 2) := by decide +kernel
theorem dX12_dueOf_3 : decode cX12_dueOf 3 = .ok (.iconst 0, 1) := by decide +kernel
theorem dX12_dueOf_4 : decode cX12_dueOf 4 = .ok (.istore 7, 2) := by decide +kernel
theorem dX12_dueOf_6 : decode cX12_dueOf 6 = .ok (.iload 7, 2) := by decide +kernel
theorem dX12_dueOf_8 : decode cX12_dueOf 8 = .ok (.aload_n 0, 1) := by decide +kernel
theorem dX12_dueOf_9 : decode cX12_dueOf 9 = .ok (.getfield 162, 3) := by decide +kernel
theorem dX12_dueOf_12 : decode cX12_dueOf 12 = .ok (.if_icmp .ge 169, 3) := by decide +kernel
theorem dX12_dueOf_15 : decode cX12_dueOf 15 = .ok (.aload_n 0, 1) := by decide +kernel
theorem dX12_dueOf_16 : decode cX12_dueOf 16 = .ok (.iload 7, 2) := by decide +kernel
theorem dX12_dueOf_18 : decode cX12_dueOf 18 = .ok (.iload_n 1, 1) := by decide +kernel
theorem dX12_dueOf_19 : decode cX12_dueOf 19 = .ok (.invokevirtual 182, 3) := by decide +kernel
theorem dX12_dueOf_22 : decode cX12_dueOf 22 = .ok (.istore 8, 2) := by decide +kernel
theorem dX12_dueOf_24 : decode cX12_dueOf 24 = .ok (.iload 8, 2) := by decide +kernel
theorem dX12_dueOf_26 : decode cX12_dueOf 26 = .ok (.iconst (-1), 1) := by decide +kernel
theorem dX12_dueOf_27 : decode cX12_dueOf 27 = .ok (.if_icmp .eq 148, 3) := by decide +kernel
theorem dX12_dueOf_30 : decode cX12_dueOf 30 = .ok (.aload_n 0, 1) := by decide +kernel
theorem dX12_dueOf_31 : decode cX12_dueOf 31 = .ok (.getfield 49, 3) := by decide +kernel
theorem dX12_dueOf_34 : decode cX12_dueOf 34 = .ok (.iload 7, 2) := by decide +kernel
theorem dX12_dueOf_36 : decode cX12_dueOf 36 = .ok (.iaload, 1) := by decide +kernel
theorem dX12_dueOf_37 : decode cX12_dueOf 37 = .ok (.iload_n 2, 1) := by decide +kernel
theorem dX12_dueOf_38 : decode cX12_dueOf 38 = .ok (.iload_n 3, 1) := by decide +kernel
theorem dX12_dueOf_39 : decode cX12_dueOf 39 = .ok (.invokestatic 155, 3) := by decide +kernel
theorem dX12_dueOf_42 : decode cX12_dueOf 42 = .ok (.ifCond .eq 133, 3) := by decide +kernel
theorem dX12_dueOf_45 : decode cX12_dueOf 45 = .ok (.aload_n 0, 1) := by decide +kernel
theorem dX12_dueOf_46 : decode cX12_dueOf 46 = .ok (.aload_n 0, 1) := by decide +kernel
theorem dX12_dueOf_47 : decode cX12_dueOf 47 = .ok (.getfield 49, 3) := by decide +kernel
theorem dX12_dueOf_50 : decode cX12_dueOf 50 = .ok (.iload 7, 2) := by decide +kernel
theorem dX12_dueOf_52 : decode cX12_dueOf 52 = .ok (.iaload, 1) := by decide +kernel
theorem dX12_dueOf_53 : decode cX12_dueOf 53 = .ok (.invokevirtual 306, 3) := by decide +kernel
theorem dX12_dueOf_56 : decode cX12_dueOf 56 = .ok (.istore 9, 2) := by decide +kernel
theorem dX12_dueOf_58 : decode cX12_dueOf 58 = .ok (.aload_n 0, 1) := by decide +kernel
theorem dX12_dueOf_59 : decode cX12_dueOf 59 = .ok (.iload 9, 2) := by decide +kernel
theorem dX12_dueOf_61 : decode cX12_dueOf 61 = .ok (.aload_n 0, 1) := by decide +kernel
theorem dX12_dueOf_62 : decode cX12_dueOf 62 = .ok (.getfield 86, 3) := by decide +kernel
theorem dX12_dueOf_65 : decode cX12_dueOf 65 = .ok (.iload 9, 2) := by decide +kernel
theorem dX12_dueOf_67 : decode cX12_dueOf 67 = .ok (.iaload, 1) := by decide +kernel
theorem dX12_dueOf_68 : decode cX12_dueOf 68 = .ok (.iload 4, 2) := by decide +kernel
theorem dX12_dueOf_70 : decode cX12_dueOf 70 = .ok (.iadd, 1) := by decide +kernel
theorem dX12_dueOf_71 : decode cX12_dueOf 71 = .ok (.iload 7, 2) := by decide +kernel
theorem dX12_dueOf_73 : decode cX12_dueOf 73 = .ok (.iload_n 1, 1) := by decide +kernel
theorem dX12_dueOf_74 : decode cX12_dueOf 74 = .ok (.aload_n 0, 1) := by decide +kernel
theorem dX12_dueOf_75 : decode cX12_dueOf 75 = .ok (.iload 7, 2) := by decide +kernel
theorem dX12_dueOf_77 : decode cX12_dueOf 77 = .ok (.iload 8, 2) := by decide +kernel
theorem dX12_dueOf_79 : decode cX12_dueOf 79 = .ok (.invokevirtual 321, 3) := by decide +kernel
theorem dX12_dueOf_82 : decode cX12_dueOf 82 = .ok (.invokevirtual 312, 3) := by decide +kernel
theorem dX12_dueOf_85 : decode cX12_dueOf 85 = .ok (.lstore 10, 2) := by decide +kernel
theorem dX12_dueOf_87 : decode cX12_dueOf 87 = .ok (.aload_n 0, 1) := by decide +kernel
theorem dX12_dueOf_88 : decode cX12_dueOf 88 = .ok (.getfield 46, 3) := by decide +kernel
theorem dX12_dueOf_91 : decode cX12_dueOf 91 = .ok (.iload 7, 2) := by decide +kernel
theorem dX12_dueOf_93 : decode cX12_dueOf 93 = .ok (.iaload, 1) := by decide +kernel
theorem dX12_dueOf_94 : decode cX12_dueOf 94 = .ok (.iconst 5, 1) := by decide +kernel
theorem dX12_dueOf_95 : decode cX12_dueOf 95 = .ok (.if_icmp .ne 12, 3) := by decide +kernel
theorem dX12_dueOf_98 : decode cX12_dueOf 98 = .ok (.ldc2_w 330, 3) := by decide +kernel
theorem dX12_dueOf_101 : decode cX12_dueOf 101 = .ok (.lload 10, 2) := by decide +kernel
theorem dX12_dueOf_103 : decode cX12_dueOf 103 = .ok (.lmul, 1) := by decide +kernel
theorem dX12_dueOf_104 : decode cX12_dueOf 104 = .ok (.goto 31, 3) := by decide +kernel
theorem dX12_dueOf_107 : decode cX12_dueOf 107 = .ok (.aload_n 0, 1) := by decide +kernel
theorem dX12_dueOf_108 : decode cX12_dueOf 108 = .ok (.getfield 46, 3) := by decide +kernel
theorem dX12_dueOf_111 : decode cX12_dueOf 111 = .ok (.iload 7, 2) := by decide +kernel
theorem dX12_dueOf_113 : decode cX12_dueOf 113 = .ok (.iaload, 1) := by decide +kernel
theorem dX12_dueOf_114 : decode cX12_dueOf 114 = .ok (.iconst 4, 1) := by decide +kernel
theorem dX12_dueOf_115 : decode cX12_dueOf 115 = .ok (.if_icmp .ne 18, 3) := by decide +kernel
theorem dX12_dueOf_118 : decode cX12_dueOf 118 = .ok (.iload 4, 2) := by decide +kernel
theorem dX12_dueOf_120 : decode cX12_dueOf 120 = .ok (.iconst 1, 1) := by decide +kernel
theorem dX12_dueOf_121 : decode cX12_dueOf 121 = .ok (.if_icmp .ne 12, 3) := by decide +kernel
theorem dX12_dueOf_124 : decode cX12_dueOf 124 = .ok (.lload 10, 2) := by decide +kernel
theorem dX12_dueOf_126 : decode cX12_dueOf 126 = .ok (.ldc2_w 330, 3) := by decide +kernel
theorem dX12_dueOf_129 : decode cX12_dueOf 129 = .ok (.ldiv, 1) := by decide +kernel
theorem dX12_dueOf_130 : decode cX12_dueOf 130 = .ok (.goto 5, 3) := by decide +kernel
theorem dX12_dueOf_133 : decode cX12_dueOf 133 = .ok (.lload 10, 2) := by decide +kernel
theorem dX12_dueOf_135 : decode cX12_dueOf 135 = .ok (.lstore 10, 2) := by decide +kernel
theorem dX12_dueOf_137 : decode cX12_dueOf 137 = .ok (.lload 5, 2) := by decide +kernel
theorem dX12_dueOf_139 : decode cX12_dueOf 139 = .ok (.aload_n 0, 1) := by decide +kernel
theorem dX12_dueOf_140 : decode cX12_dueOf 140 = .ok (.getfield 46, 3) := by decide +kernel
theorem dX12_dueOf_143 : decode cX12_dueOf 143 = .ok (.iload 7, 2) := by decide +kernel
theorem dX12_dueOf_145 : decode cX12_dueOf 145 = .ok (.iaload, 1) := by decide +kernel
theorem dX12_dueOf_146 : decode cX12_dueOf 146 = .ok (.iconst 3, 1) := by decide +kernel
theorem dX12_dueOf_147 : decode cX12_dueOf 147 = .ok (.if_icmp .ne 23, 3) := by decide +kernel
theorem dX12_dueOf_150 : decode cX12_dueOf 150 = .ok (.lload 10, 2) := by decide +kernel
theorem dX12_dueOf_152 : decode cX12_dueOf 152 = .ok (.iload 4, 2) := by decide +kernel
theorem dX12_dueOf_154 : decode cX12_dueOf 154 = .ok (.ifCond .ne 9, 3) := by decide +kernel
theorem dX12_dueOf_157 : decode cX12_dueOf 157 = .ok (.ldc2_w 330, 3) := by decide +kernel
theorem dX12_dueOf_160 : decode cX12_dueOf 160 = .ok (.goto 6, 3) := by decide +kernel
theorem dX12_dueOf_163 : decode cX12_dueOf 163 = .ok (.ldc2_w 332, 3) := by decide +kernel
theorem dX12_dueOf_166 : decode cX12_dueOf 166 = .ok (.ladd, 1) := by decide +kernel
theorem dX12_dueOf_167 : decode cX12_dueOf 167 = .ok (.goto 5, 3) := by decide +kernel
theorem dX12_dueOf_170 : decode cX12_dueOf 170 = .ok (.lload 10, 2) := by decide +kernel
theorem dX12_dueOf_172 : decode cX12_dueOf 172 = .ok (.ladd, 1) := by decide +kernel
theorem dX12_dueOf_173 : decode cX12_dueOf 173 = .ok (.lstore 5, 2) := by decide +kernel
theorem dX12_dueOf_175 : decode cX12_dueOf 175 = .ok (.iinc 7 1, 3) := by decide +kernel
theorem dX12_dueOf_178 : decode cX12_dueOf 178 = .ok (.goto (-172), 3) := by decide +kernel
theorem dX12_dueOf_181 : decode cX12_dueOf 181 = .ok (.lload 5, 2) := by decide +kernel
theorem dX12_dueOf_183 : decode cX12_dueOf 183 = .ok (.lreturn, 1) := by decide +kernel
theorem dX12_hinders_0 : decode cX12_hinders 0 = .ok (.aload_n 0, 1) := by decide +kernel
theorem dX12_hinders_1 : decode cX12_hinders 1 = .ok (.getfield 28, 3) := by decide +kernel
theorem dX12_hinders_4 : decode cX12_hinders 4 = .ok (.iload_n 2, 1) := by decide +kernel
theorem dX12_hinders_5 : decode cX12_hinders 5 = .ok (.iaload, 1) := by decide +kernel
theorem dX12_hinders_6 : decode cX12_hinders 6 = .ok (.iload_n 3, 1) := by decide +kernel
theorem dX12_hinders_7 : decode cX12_hinders 7 = .ok (.if_icmp .eq 18, 3) := by decide +kernel
theorem dX12_hinders_10 : decode cX12_hinders 10 = .ok (.aload_n 0, 1) := by decide +kernel
theorem dX12_hinders_11 : decode cX12_hinders 11 = .ok (.getfield 31, 3) := by decide +kernel
theorem dX12_hinders_14 : decode cX12_hinders 14 = .ok (.iload_n 2, 1) := by decide +kernel
theorem dX12_hinders_15 : decode cX12_hinders 15 = .ok (.iaload, 1) := by decide +kernel
theorem dX12_hinders_16 : decode cX12_hinders 16 = .ok (.iload_n 3, 1) := by decide +kernel
theorem dX12_hinders_17 : decode cX12_hinders 17 = .ok (.ishr, 1) := by decide +kernel
theorem dX12_hinders_18 : decode cX12_hinders 18 = .ok (.iconst 1, 1) := by decide +kernel
theorem dX12_hinders_19 : decode cX12_hinders 19 = .ok (.iand, 1) := by decide +kernel
theorem dX12_hinders_20 : decode cX12_hinders 20 = .ok (.ifCond .ne 5, 3) := by decide +kernel
theorem dX12_hinders_23 : decode cX12_hinders 23 = .ok (.iconst 1, 1) := by decide +kernel
theorem dX12_hinders_24 : decode cX12_hinders 24 = .ok (.ireturn, 1) := by decide +kernel
theorem dX12_hinders_25 : decode cX12_hinders 25 = .ok (.aload_n 0, 1) := by decide +kernel
theorem dX12_hinders_26 : decode cX12_hinders 26 = .ok (.iload_n 2, 1) := by decide +kernel
theorem dX12_hinders_27 : decode cX12_hinders 27 = .ok (.aload_n 0, 1) := by decide +kernel
theorem dX12_hinders_28 : decode cX12_hinders 28 = .ok (.getfield 49, 3) := by decide +kernel
theorem dX12_hinders_31 : decode cX12_hinders 31 = .ok (.iload_n 1, 1) := by decide +kernel
theorem dX12_hinders_32 : decode cX12_hinders 32 = .ok (.iaload, 1) := by decide +kernel
theorem dX12_hinders_33 : decode cX12_hinders 33 = .ok (.invokevirtual 309, 3) := by decide +kernel
theorem dX12_hinders_36 : decode cX12_hinders 36 = .ok (.ifCond .eq 5, 3) := by decide +kernel
theorem dX12_hinders_39 : decode cX12_hinders 39 = .ok (.iconst 2, 1) := by decide +kernel
theorem dX12_hinders_40 : decode cX12_hinders 40 = .ok (.ireturn, 1) := by decide +kernel
theorem dX12_hinders_41 : decode cX12_hinders 41 = .ok (.iconst 0, 1) := by decide +kernel
theorem dX12_hinders_42 : decode cX12_hinders 42 = .ok (.istore 4, 2) := by decide +kernel
theorem dX12_hinders_44 : decode cX12_hinders 44 = .ok (.iload 4, 2) := by decide +kernel
theorem dX12_hinders_46 : decode cX12_hinders 46 = .ok (.aload_n 0, 1) := by decide +kernel
theorem dX12_hinders_47 : decode cX12_hinders 47 = .ok (.getfield 162, 3) := by decide +kernel
theorem dX12_hinders_50 : decode cX12_hinders 50 = .ok (.if_icmp .ge 56, 3) := by decide +kernel
theorem dX12_hinders_53 : decode cX12_hinders 53 = .ok (.iload 4, 2) := by decide +kernel
theorem dX12_hinders_55 : decode cX12_hinders 55 = .ok (.iload_n 1, 1) := by decide +kernel
theorem dX12_hinders_56 : decode cX12_hinders 56 = .ok (.if_icmp .eq 44, 3) := by decide +kernel
theorem dX12_hinders_59 : decode cX12_hinders 59 = .ok (.aload_n 0, 1) := by decide +kernel
theorem dX12_hinders_60 : decode cX12_hinders 60 = .ok (.iload 4, 2) := by decide +kernel
theorem dX12_hinders_62 : decode cX12_hinders 62 = .ok (.invokevirtual 284, 3) := by decide +kernel
theorem dX12_hinders_65 : decode cX12_hinders 65 = .ok (.aload_n 0, 1) := by decide +kernel
theorem dX12_hinders_66 : decode cX12_hinders 66 = .ok (.iload_n 1, 1) := by decide +kernel
theorem dX12_hinders_67 : decode cX12_hinders 67 = .ok (.invokevirtual 281, 3) := by decide +kernel
theorem dX12_hinders_70 : decode cX12_hinders 70 = .ok (.if_icmp .le 30, 3) := by decide +kernel
theorem dX12_hinders_73 : decode cX12_hinders 73 = .ok (.aload_n 0, 1) := by decide +kernel
theorem dX12_hinders_74 : decode cX12_hinders 74 = .ok (.iload_n 1, 1) := by decide +kernel
theorem dX12_hinders_75 : decode cX12_hinders 75 = .ok (.invokevirtual 284, 3) := by decide +kernel
theorem dX12_hinders_78 : decode cX12_hinders 78 = .ok (.aload_n 0, 1) := by decide +kernel
theorem dX12_hinders_79 : decode cX12_hinders 79 = .ok (.iload 4, 2) := by decide +kernel
theorem dX12_hinders_81 : decode cX12_hinders 81 = .ok (.invokevirtual 281, 3) := by decide +kernel
theorem dX12_hinders_84 : decode cX12_hinders 84 = .ok (.if_icmp .le 16, 3) := by decide +kernel
theorem dX12_hinders_87 : decode cX12_hinders 87 = .ok (.aload_n 0, 1) := by decide +kernel
theorem dX12_hinders_88 : decode cX12_hinders 88 = .ok (.iload 4, 2) := by decide +kernel
theorem dX12_hinders_90 : decode cX12_hinders 90 = .ok (.iload_n 2, 1) := by decide +kernel
theorem dX12_hinders_91 : decode cX12_hinders 91 = .ok (.invokevirtual 182, 3) := by decide +kernel
theorem dX12_hinders_94 : decode cX12_hinders 94 = .ok (.iconst (-1), 1) := by decide +kernel
theorem dX12_hinders_95 : decode cX12_hinders 95 = .ok (.if_icmp .eq 5, 3) := by decide +kernel
theorem dX12_hinders_98 : decode cX12_hinders 98 = .ok (.iconst 3, 1) := by decide +kernel
theorem dX12_hinders_99 : decode cX12_hinders 99 = .ok (.ireturn, 1) := by decide +kernel
theorem dX12_hinders_100 : decode cX12_hinders 100 = .ok (.iinc 4 1, 3) := by decide +kernel
theorem dX12_hinders_103 : decode cX12_hinders 103 = .ok (.goto (-59), 3) := by decide +kernel
theorem dX12_hinders_106 : decode cX12_hinders 106 = .ok (.aload_n 0, 1) := by decide +kernel
theorem dX12_hinders_107 : decode cX12_hinders 107 = .ok (.aload_n 0, 1) := by decide +kernel
theorem dX12_hinders_108 : decode cX12_hinders 108 = .ok (.getfield 49, 3) := by decide +kernel
theorem dX12_hinders_111 : decode cX12_hinders 111 = .ok (.iload_n 1, 1) := by decide +kernel
theorem dX12_hinders_112 : decode cX12_hinders 112 = .ok (.iaload, 1) := by decide +kernel
theorem dX12_hinders_113 : decode cX12_hinders 113 = .ok (.invokevirtual 306, 3) := by decide +kernel
theorem dX12_hinders_116 : decode cX12_hinders 116 = .ok (.istore 4, 2) := by decide +kernel
theorem dX12_hinders_118 : decode cX12_hinders 118 = .ok (.iconst 0, 1) := by decide +kernel
theorem dX12_hinders_119 : decode cX12_hinders 119 = .ok (.istore 5, 2) := by decide +kernel
theorem dX12_hinders_121 : decode cX12_hinders 121 = .ok (.iload 5, 2) := by decide +kernel
theorem dX12_hinders_123 : decode cX12_hinders 123 = .ok (.aload_n 0, 1) := by decide +kernel
theorem dX12_hinders_124 : decode cX12_hinders 124 = .ok (.getfield 86, 3) := by decide +kernel
theorem dX12_hinders_127 : decode cX12_hinders 127 = .ok (.iload 4, 2) := by decide +kernel
theorem dX12_hinders_129 : decode cX12_hinders 129 = .ok (.iaload, 1) := by decide +kernel
theorem dX12_hinders_130 : decode cX12_hinders 130 = .ok (.if_icmp .ge 30, 3) := by decide +kernel
theorem dX12_hinders_133 : decode cX12_hinders 133 = .ok (.aload_n 0, 1) := by decide +kernel
theorem dX12_hinders_134 : decode cX12_hinders 134 = .ok (.iload 4, 2) := by decide +kernel
theorem dX12_hinders_136 : decode cX12_hinders 136 = .ok (.iload 5, 2) := by decide +kernel
theorem dX12_hinders_138 : decode cX12_hinders 138 = .ok (.iload_n 1, 1) := by decide +kernel
theorem dX12_hinders_139 : decode cX12_hinders 139 = .ok (.iload_n 2, 1) := by decide +kernel
theorem dX12_hinders_140 : decode cX12_hinders 140 = .ok (.iload_n 3, 1) := by decide +kernel
theorem dX12_hinders_141 : decode cX12_hinders 141 = .ok (.invokevirtual 312, 3) := by decide +kernel
theorem dX12_hinders_144 : decode cX12_hinders 144 = .ok (.lconst 0, 1) := by decide +kernel
theorem dX12_hinders_145 : decode cX12_hinders 145 = .ok (.lcmp, 1) := by decide +kernel
theorem dX12_hinders_146 : decode cX12_hinders 146 = .ok (.ifCond .eq 8, 3) := by decide +kernel
theorem dX12_hinders_149 : decode cX12_hinders 149 = .ok (.iconst 4, 1) := by decide +kernel
theorem dX12_hinders_150 : decode cX12_hinders 150 = .ok (.iload 5, 2) := by decide +kernel
theorem dX12_hinders_152 : decode cX12_hinders 152 = .ok (.iadd, 1) := by decide +kernel
theorem dX12_hinders_153 : decode cX12_hinders 153 = .ok (.ireturn, 1) := by decide +kernel
theorem dX12_hinders_154 : decode cX12_hinders 154 = .ok (.iinc 5 1, 3) := by decide +kernel
theorem dX12_hinders_157 : decode cX12_hinders 157 = .ok (.goto (-36), 3) := by decide +kernel
theorem dX12_hinders_160 : decode cX12_hinders 160 = .ok (.iconst 0, 1) := by decide +kernel
theorem dX12_hinders_161 : decode cX12_hinders 161 = .ok (.ireturn, 1) := by decide +kernel
theorem dX12_worth_0 : decode cX12_worth 0 = .ok (.aload_n 0, 1) := by decide +kernel
theorem dX12_worth_1 : decode cX12_worth 1 = .ok (.iload_n 1, 1) := by decide +kernel
theorem dX12_worth_2 : decode cX12_worth 2 = .ok (.invokevirtual 193, 3) := by decide +kernel
theorem dX12_worth_5 : decode cX12_worth 5 = .ok (.ifCond .eq 18, 3) := by decide +kernel
theorem dX12_worth_8 : decode cX12_worth 8 = .ok (.aload_n 0, 1) := by decide +kernel
theorem dX12_worth_9 : decode cX12_worth 9 = .ok (.iload_n 2, 1) := by decide +kernel
theorem dX12_worth_10 : decode cX12_worth 10 = .ok (.invokevirtual 179, 3) := by decide +kernel
theorem dX12_worth_13 : decode cX12_worth 13 = .ok (.ifCond .eq 10, 3) := by decide +kernel
theorem dX12_worth_16 : decode cX12_worth 16 = .ok (.iload_n 3, 1) := by decide +kernel
theorem dX12_worth_17 : decode cX12_worth 17 = .ok (.invokestatic 176, 3) := by decide +kernel
theorem dX12_worth_20 : decode cX12_worth 20 = .ok (.ifCond .ne 7, 3) := by decide +kernel
theorem dX12_worth_23 : decode cX12_worth 23 = .ok (.ldc2_w 319, 3) := by decide +kernel
theorem dX12_worth_26 : decode cX12_worth 26 = .ok (.lreturn, 1) := by decide +kernel
theorem dX12_worth_27 : decode cX12_worth 27 = .ok (.aload_n 0, 1) := by decide +kernel
theorem dX12_worth_28 : decode cX12_worth 28 = .ok (.aload_n 0, 1) := by decide +kernel
theorem dX12_worth_29 : decode cX12_worth 29 = .ok (.getfield 49, 3) := by decide +kernel
theorem dX12_worth_32 : decode cX12_worth 32 = .ok (.iload_n 1, 1) := by decide +kernel
theorem dX12_worth_33 : decode cX12_worth 33 = .ok (.iaload, 1) := by decide +kernel
theorem dX12_worth_34 : decode cX12_worth 34 = .ok (.invokevirtual 306, 3) := by decide +kernel
theorem dX12_worth_37 : decode cX12_worth 37 = .ok (.istore 5, 2) := by decide +kernel
theorem dX12_worth_39 : decode cX12_worth 39 = .ok (.iload 4, 2) := by decide +kernel
theorem dX12_worth_41 : decode cX12_worth 41 = .ok (.iconst 0, 1) := by decide +kernel
theorem dX12_worth_42 : decode cX12_worth 42 = .ok (.iconst 1, 1) := by decide +kernel
theorem dX12_worth_43 : decode cX12_worth 43 = .ok (.aload_n 0, 1) := by decide +kernel
theorem dX12_worth_44 : decode cX12_worth 44 = .ok (.getfield 86, 3) := by decide +kernel
theorem dX12_worth_47 : decode cX12_worth 47 = .ok (.iload 5, 2) := by decide +kernel
theorem dX12_worth_49 : decode cX12_worth 49 = .ok (.iaload, 1) := by decide +kernel
theorem dX12_worth_50 : decode cX12_worth 50 = .ok (.iadd, 1) := by decide +kernel
theorem dX12_worth_51 : decode cX12_worth 51 = .ok (.invokestatic 155, 3) := by decide +kernel
theorem dX12_worth_54 : decode cX12_worth 54 = .ok (.ifCond .ne 7, 3) := by decide +kernel
theorem dX12_worth_57 : decode cX12_worth 57 = .ok (.ldc2_w 319, 3) := by decide +kernel
theorem dX12_worth_60 : decode cX12_worth 60 = .ok (.lreturn, 1) := by decide +kernel
theorem dX12_worth_61 : decode cX12_worth 61 = .ok (.aload_n 0, 1) := by decide +kernel
theorem dX12_worth_62 : decode cX12_worth 62 = .ok (.iload 5, 2) := by decide +kernel
theorem dX12_worth_64 : decode cX12_worth 64 = .ok (.iload 4, 2) := by decide +kernel
theorem dX12_worth_66 : decode cX12_worth 66 = .ok (.iconst 2, 1) := by decide +kernel
theorem dX12_worth_67 : decode cX12_worth 67 = .ok (.if_icmp .ge 16, 3) := by decide +kernel
theorem dX12_worth_70 : decode cX12_worth 70 = .ok (.aload_n 0, 1) := by decide +kernel
theorem dX12_worth_71 : decode cX12_worth 71 = .ok (.getfield 86, 3) := by decide +kernel
theorem dX12_worth_74 : decode cX12_worth 74 = .ok (.iload 5, 2) := by decide +kernel
theorem dX12_worth_76 : decode cX12_worth 76 = .ok (.iaload, 1) := by decide +kernel
theorem dX12_worth_77 : decode cX12_worth 77 = .ok (.iload 4, 2) := by decide +kernel
theorem dX12_worth_79 : decode cX12_worth 79 = .ok (.iadd, 1) := by decide +kernel
theorem dX12_worth_80 : decode cX12_worth 80 = .ok (.goto 7, 3) := by decide +kernel
theorem dX12_worth_83 : decode cX12_worth 83 = .ok (.iload 4, 2) := by decide +kernel
theorem dX12_worth_85 : decode cX12_worth 85 = .ok (.iconst 2, 1) := by decide +kernel
theorem dX12_worth_86 : decode cX12_worth 86 = .ok (.isub, 1) := by decide +kernel
theorem dX12_worth_87 : decode cX12_worth 87 = .ok (.iload_n 1, 1) := by decide +kernel
theorem dX12_worth_88 : decode cX12_worth 88 = .ok (.iload_n 2, 1) := by decide +kernel
theorem dX12_worth_89 : decode cX12_worth 89 = .ok (.iload_n 3, 1) := by decide +kernel
theorem dX12_worth_90 : decode cX12_worth 90 = .ok (.invokevirtual 312, 3) := by decide +kernel
theorem dX12_worth_93 : decode cX12_worth 93 = .ok (.lreturn, 1) := by decide +kernel
theorem dX12_due_0 : decode cX12_due 0 = .ok (.aload_n 0, 1) := by decide +kernel
theorem dX12_due_1 : decode cX12_due 1 = .ok (.iload_n 1, 1) := by decide +kernel
theorem dX12_due_2 : decode cX12_due 2 = .ok (.invokevirtual 179, 3) := by decide +kernel
theorem dX12_due_5 : decode cX12_due 5 = .ok (.ifCond .eq 32, 3) := by decide +kernel
theorem dX12_due_8 : decode cX12_due 8 = .ok (.iload_n 2, 1) := by decide +kernel
theorem dX12_due_9 : decode cX12_due 9 = .ok (.invokestatic 169, 3) := by decide +kernel
theorem dX12_due_12 : decode cX12_due 12 = .ok (.ifCond .eq 25, 3) := by decide +kernel
theorem dX12_due_15 : decode cX12_due 15 = .ok (.iload_n 3, 1) := by decide +kernel
theorem dX12_due_16 : decode cX12_due 16 = .ok (.invokestatic 169, 3) := by decide +kernel
theorem dX12_due_19 : decode cX12_due 19 = .ok (.ifCond .eq 18, 3) := by decide +kernel
theorem dX12_due_22 : decode cX12_due 22 = .ok (.iload_n 2, 1) := by decide +kernel
theorem dX12_due_23 : decode cX12_due 23 = .ok (.iload_n 3, 1) := by decide +kernel
theorem dX12_due_24 : decode cX12_due 24 = .ok (.if_icmp .gt 13, 3) := by decide +kernel
theorem dX12_due_27 : decode cX12_due 27 = .ok (.iload 4, 2) := by decide +kernel
theorem dX12_due_29 : decode cX12_due 29 = .ok (.iconst 0, 1) := by decide +kernel
theorem dX12_due_30 : decode cX12_due 30 = .ok (.iconst 1, 1) := by decide +kernel
theorem dX12_due_31 : decode cX12_due 31 = .ok (.invokestatic 155, 3) := by decide +kernel
theorem dX12_due_34 : decode cX12_due 34 = .ok (.ifCond .ne 7, 3) := by decide +kernel
theorem dX12_due_37 : decode cX12_due 37 = .ok (.ldc2_w 319, 3) := by decide +kernel
theorem dX12_due_40 : decode cX12_due 40 = .ok (.lreturn, 1) := by decide +kernel
theorem dX12_due_41 : decode cX12_due 41 = .ok (.aload_n 0, 1) := by decide +kernel
theorem dX12_due_42 : decode cX12_due 42 = .ok (.iload_n 1, 1) := by decide +kernel
theorem dX12_due_43 : decode cX12_due 43 = .ok (.iload_n 2, 1) := by decide +kernel
theorem dX12_due_44 : decode cX12_due 44 = .ok (.iload_n 3, 1) := by decide +kernel
theorem dX12_due_45 : decode cX12_due 45 = .ok (.iload 4, 2) := by decide +kernel
theorem dX12_due_47 : decode cX12_due 47 = .ok (.invokevirtual 334, 3) := by decide +kernel
theorem dX12_due_50 : decode cX12_due 50 = .ok (.lreturn, 1) := by decide +kernel
theorem dX12_may_0 : decode cX12_may 0 = .ok (.aload_n 0, 1) := by decide +kernel
theorem dX12_may_1 : decode cX12_may 1 = .ok (.iload_n 1, 1) := by decide +kernel
theorem dX12_may_2 : decode cX12_may 2 = .ok (.invokevirtual 193, 3) := by decide +kernel
theorem dX12_may_5 : decode cX12_may 5 = .ok (.ifCond .eq 28, 3) := by decide +kernel
theorem dX12_may_8 : decode cX12_may 8 = .ok (.aload_n 0, 1) := by decide +kernel
theorem dX12_may_9 : decode cX12_may 9 = .ok (.iload_n 2, 1) := by decide +kernel
theorem dX12_may_10 : decode cX12_may 10 = .ok (.invokevirtual 179, 3) := by decide +kernel
theorem dX12_may_13 : decode cX12_may 13 = .ok (.ifCond .eq 20, 3) := by decide +kernel
theorem dX12_may_16 : decode cX12_may 16 = .ok (.iload_n 3, 1) := by decide +kernel
theorem dX12_may_17 : decode cX12_may 17 = .ok (.invokestatic 176, 3) := by decide +kernel
theorem dX12_may_20 : decode cX12_may 20 = .ok (.ifCond .eq 13, 3) := by decide +kernel
theorem dX12_may_23 : decode cX12_may 23 = .ok (.aload_n 0, 1) := by decide +kernel
theorem dX12_may_24 : decode cX12_may 24 = .ok (.iload_n 1, 1) := by decide +kernel
theorem dX12_may_25 : decode cX12_may 25 = .ok (.iload_n 2, 1) := by decide +kernel
theorem dX12_may_26 : decode cX12_may 26 = .ok (.iload_n 3, 1) := by decide +kernel
theorem dX12_may_27 : decode cX12_may 27 = .ok (.invokevirtual 316, 3) := by decide +kernel
theorem dX12_may_30 : decode cX12_may 30 = .ok (.goto 5, 3) := by decide +kernel
theorem dX12_may_33 : decode cX12_may 33 = .ok (.bipush (-2), 2) := by decide +kernel
theorem dX12_may_35 : decode cX12_may 35 = .ok (.ireturn, 1) := by decide +kernel
theorem dX12_put_0 : decode cX12_put 0 = .ok (.iload_n 2, 1) := by decide +kernel
theorem dX12_put_1 : decode cX12_put 1 = .ok (.ifCond .eq 38, 3) := by decide +kernel
theorem dX12_put_4 : decode cX12_put 4 = .ok (.iload_n 2, 1) := by decide +kernel
theorem dX12_put_5 : decode cX12_put 5 = .ok (.iconst 3, 1) := by decide +kernel
theorem dX12_put_6 : decode cX12_put 6 = .ok (.if_icmp .eq 33, 3) := by decide +kernel
theorem dX12_put_9 : decode cX12_put 9 = .ok (.iload_n 2, 1) := by decide +kernel
theorem dX12_put_10 : decode cX12_put 10 = .ok (.iconst 1, 1) := by decide +kernel
theorem dX12_put_11 : decode cX12_put 11 = .ok (.if_icmp .ne 11, 3) := by decide +kernel
theorem dX12_put_14 : decode cX12_put 14 = .ok (.aload_n 0, 1) := by decide +kernel
theorem dX12_put_15 : decode cX12_put 15 = .ok (.iload_n 3, 1) := by decide +kernel
theorem dX12_put_16 : decode cX12_put 16 = .ok (.invokevirtual 193, 3) := by decide +kernel
theorem dX12_put_19 : decode cX12_put 19 = .ok (.ifCond .ne 20, 3) := by decide +kernel
theorem dX12_put_22 : decode cX12_put 22 = .ok (.iload_n 2, 1) := by decide +kernel
theorem dX12_put_23 : decode cX12_put 23 = .ok (.iconst 2, 1) := by decide +kernel
theorem dX12_put_24 : decode cX12_put 24 = .ok (.if_icmp .eq 8, 3) := by decide +kernel
theorem dX12_put_27 : decode cX12_put 27 = .ok (.iload_n 2, 1) := by decide +kernel
theorem dX12_put_28 : decode cX12_put 28 = .ok (.iconst 4, 1) := by decide +kernel
theorem dX12_put_29 : decode cX12_put 29 = .ok (.if_icmp .ne 14, 3) := by decide +kernel
theorem dX12_put_32 : decode cX12_put 32 = .ok (.iload_n 3, 1) := by decide +kernel
theorem dX12_put_33 : decode cX12_put 33 = .ok (.invokestatic 169, 3) := by decide +kernel
theorem dX12_put_36 : decode cX12_put 36 = .ok (.ifCond .eq 7, 3) := by decide +kernel
theorem dX12_put_39 : decode cX12_put 39 = .ok (.iconst 1, 1) := by decide +kernel
theorem dX12_put_40 : decode cX12_put 40 = .ok (.goto 4, 3) := by decide +kernel
theorem dX12_put_43 : decode cX12_put 43 = .ok (.iconst 0, 1) := by decide +kernel
theorem dX12_put_44 : decode cX12_put 44 = .ok (.istore 4, 2) := by decide +kernel
theorem dX12_put_46 : decode cX12_put 46 = .ok (.iload_n 1, 1) := by decide +kernel
theorem dX12_put_47 : decode cX12_put 47 = .ok (.iconst 0, 1) := by decide +kernel
theorem dX12_put_48 : decode cX12_put 48 = .ok (.iconst 5, 1) := by decide +kernel
theorem dX12_put_49 : decode cX12_put 49 = .ok (.invokestatic 155, 3) := by decide +kernel
theorem dX12_put_52 : decode cX12_put 52 = .ok (.ifCond .eq 8, 3) := by decide +kernel
theorem dX12_put_55 : decode cX12_put 55 = .ok (.iload 4, 2) := by decide +kernel
theorem dX12_put_57 : decode cX12_put 57 = .ok (.ifCond .ne 9, 3) := by decide +kernel
theorem dX12_put_60 : decode cX12_put 60 = .ok (.aload_n 0, 1) := by decide +kernel
theorem dX12_put_61 : decode cX12_put 61 = .ok (.iconst 1, 1) := by decide +kernel
theorem dX12_put_62 : decode cX12_put 62 = .ok (.invokevirtual 360, 3) := by decide +kernel
theorem dX12_put_65 : decode cX12_put 65 = .ok (.ireturn, 1) := by decide +kernel
theorem dX12_put_66 : decode cX12_put 66 = .ok (.aload_n 0, 1) := by decide +kernel
theorem dX12_put_67 : decode cX12_put 67 = .ok (.getfield 98, 3) := by decide +kernel
theorem dX12_put_70 : decode cX12_put 70 = .ok (.iload_n 1, 1) := by decide +kernel
theorem dX12_put_71 : decode cX12_put 71 = .ok (.iload_n 2, 1) := by decide +kernel
theorem dX12_put_72 : decode cX12_put 72 = .ok (.iastore, 1) := by decide +kernel
theorem dX12_put_73 : decode cX12_put 73 = .ok (.aload_n 0, 1) := by decide +kernel
theorem dX12_put_74 : decode cX12_put 74 = .ok (.getfield 101, 3) := by decide +kernel
theorem dX12_put_77 : decode cX12_put 77 = .ok (.iload_n 1, 1) := by decide +kernel
theorem dX12_put_78 : decode cX12_put 78 = .ok (.iload_n 3, 1) := by decide +kernel
theorem dX12_put_79 : decode cX12_put 79 = .ok (.iastore, 1) := by decide +kernel
theorem dX12_put_80 : decode cX12_put 80 = .ok (.iload_n 2, 1) := by decide +kernel
theorem dX12_put_81 : decode cX12_put 81 = .ok (.iconst 2, 1) := by decide +kernel
theorem dX12_put_82 : decode cX12_put 82 = .ok (.if_icmp .ne 11, 3) := by decide +kernel
theorem dX12_put_85 : decode cX12_put 85 = .ok (.aload_n 0, 1) := by decide +kernel
theorem dX12_put_86 : decode cX12_put 86 = .ok (.iload_n 3, 1) := by decide +kernel
theorem dX12_put_87 : decode cX12_put 87 = .ok (.invokevirtual 306, 3) := by decide +kernel
theorem dX12_put_90 : decode cX12_put 90 = .ok (.goto 4, 3) := by decide +kernel
theorem dX12_put_93 : decode cX12_put 93 = .ok (.iconst 0, 1) := by decide +kernel
theorem dX12_put_94 : decode cX12_put 94 = .ok (.istore 5, 2) := by decide +kernel
theorem dX12_put_96 : decode cX12_put 96 = .ok (.iload_n 2, 1) := by decide +kernel
theorem dX12_put_97 : decode cX12_put 97 = .ok (.iconst 2, 1) := by decide +kernel
theorem dX12_put_98 : decode cX12_put 98 = .ok (.if_icmp .ne 13, 3) := by decide +kernel
theorem dX12_put_101 : decode cX12_put 101 = .ok (.aload_n 0, 1) := by decide +kernel
theorem dX12_put_102 : decode cX12_put 102 = .ok (.getfield 74, 3) := by decide +kernel
theorem dX12_put_105 : decode cX12_put 105 = .ok (.iload 5, 2) := by decide +kernel
theorem dX12_put_107 : decode cX12_put 107 = .ok (.iaload, 1) := by decide +kernel
theorem dX12_put_108 : decode cX12_put 108 = .ok (.goto 21, 3) := by decide +kernel
theorem dX12_put_111 : decode cX12_put 111 = .ok (.iload_n 2, 1) := by decide +kernel
theorem dX12_put_112 : decode cX12_put 112 = .ok (.iconst 3, 1) := by decide +kernel
theorem dX12_put_113 : decode cX12_put 113 = .ok (.if_icmp .eq 8, 3) := by decide +kernel
theorem dX12_put_116 : decode cX12_put 116 = .ok (.iload_n 2, 1) := by decide +kernel
theorem dX12_put_117 : decode cX12_put 117 = .ok (.iconst 4, 1) := by decide +kernel
theorem dX12_put_118 : decode cX12_put 118 = .ok (.if_icmp .ne 10, 3) := by decide +kernel
theorem dX12_put_121 : decode cX12_put 121 = .ok (.aload_n 0, 1) := by decide +kernel
theorem dX12_put_122 : decode cX12_put 122 = .ok (.getfield 159, 3) := by decide +kernel
theorem dX12_put_125 : decode cX12_put 125 = .ok (.goto 4, 3) := by decide +kernel
theorem dX12_put_128 : decode cX12_put 128 = .ok (.iconst 0, 1) := by decide +kernel
theorem dX12_put_129 : decode cX12_put 129 = .ok (.istore 6, 2) := by decide +kernel
theorem dX12_put_131 : decode cX12_put 131 = .ok (.aload_n 0, 1) := by decide +kernel
theorem dX12_put_132 : decode cX12_put 132 = .ok (.getfield 104, 3) := by decide +kernel
theorem dX12_put_135 : decode cX12_put 135 = .ok (.iload_n 1, 1) := by decide +kernel
theorem dX12_put_136 : decode cX12_put 136 = .ok (.iload 6, 2) := by decide +kernel
theorem dX12_put_138 : decode cX12_put 138 = .ok (.iastore, 1) := by decide +kernel
theorem dX12_put_139 : decode cX12_put 139 = .ok (.iconst 0, 1) := by decide +kernel
theorem dX12_put_140 : decode cX12_put 140 = .ok (.istore 7, 2) := by decide +kernel
theorem dX12_put_142 : decode cX12_put 142 = .ok (.iload 7, 2) := by decide +kernel
theorem dX12_put_144 : decode cX12_put 144 = .ok (.iload 6, 2) := by decide +kernel
theorem dX12_put_146 : decode cX12_put 146 = .ok (.if_icmp .ge 79, 3) := by decide +kernel
theorem dX12_put_149 : decode cX12_put 149 = .ok (.aload_n 0, 1) := by decide +kernel
theorem dX12_put_150 : decode cX12_put 150 = .ok (.getfield 107, 3) := by decide +kernel
theorem dX12_put_153 : decode cX12_put 153 = .ok (.sipush 300, 3) := by decide +kernel
theorem dX12_put_156 : decode cX12_put 156 = .ok (.iload_n 1, 1) := by decide +kernel
theorem dX12_put_157 : decode cX12_put 157 = .ok (.imul, 1) := by decide +kernel
theorem dX12_put_158 : decode cX12_put 158 = .ok (.iload 7, 2) := by decide +kernel
theorem dX12_put_160 : decode cX12_put 160 = .ok (.iadd, 1) := by decide +kernel
theorem dX12_put_161 : decode cX12_put 161 = .ok (.iload_n 2, 1) := by decide +kernel
theorem dX12_put_162 : decode cX12_put 162 = .ok (.iconst 2, 1) := by decide +kernel
theorem dX12_put_163 : decode cX12_put 163 = .ok (.if_icmp .ne 21, 3) := by decide +kernel
theorem dX12_put_166 : decode cX12_put 166 = .ok (.aload_n 0, 1) := by decide +kernel
theorem dX12_put_167 : decode cX12_put 167 = .ok (.getfield 77, 3) := by decide +kernel
theorem dX12_put_170 : decode cX12_put 170 = .ok (.sipush 300, 3) := by decide +kernel
theorem dX12_put_173 : decode cX12_put 173 = .ok (.iload 5, 2) := by decide +kernel
theorem dX12_put_175 : decode cX12_put 175 = .ok (.imul, 1) := by decide +kernel
theorem dX12_put_176 : decode cX12_put 176 = .ok (.iload 7, 2) := by decide +kernel
theorem dX12_put_178 : decode cX12_put 178 = .ok (.iadd, 1) := by decide +kernel
theorem dX12_put_179 : decode cX12_put 179 = .ok (.iaload, 1) := by decide +kernel
theorem dX12_put_180 : decode cX12_put 180 = .ok (.i2l, 1) := by decide +kernel
theorem dX12_put_181 : decode cX12_put 181 = .ok (.goto 37, 3) := by decide +kernel
theorem dX12_put_184 : decode cX12_put 184 = .ok (.iload_n 2, 1) := by decide +kernel
theorem dX12_put_185 : decode cX12_put 185 = .ok (.iconst 3, 1) := by decide +kernel
theorem dX12_put_186 : decode cX12_put 186 = .ok (.if_icmp .ne 17, 3) := by decide +kernel
theorem dX12_put_189 : decode cX12_put 189 = .ok (.aload_n 0, 1) := by decide +kernel
theorem dX12_put_190 : decode cX12_put 190 = .ok (.iload 7, 2) := by decide +kernel
theorem dX12_put_192 : decode cX12_put 192 = .ok (.iconst 0, 1) := by decide +kernel
theorem dX12_put_193 : decode cX12_put 193 = .ok (.sipush 400, 3) := by decide +kernel
theorem dX12_put_196 : decode cX12_put 196 = .ok (.iconst 1, 1) := by decide +kernel
theorem dX12_put_197 : decode cX12_put 197 = .ok (.invokevirtual 334, 3) := by decide +kernel
theorem dX12_put_200 : decode cX12_put 200 = .ok (.goto 18, 3) := by decide +kernel
theorem dX12_put_203 : decode cX12_put 203 = .ok (.aload_n 0, 1) := by decide +kernel
theorem dX12_put_204 : decode cX12_put 204 = .ok (.iload 7, 2) := by decide +kernel
theorem dX12_put_206 : decode cX12_put 206 = .ok (.iload_n 3, 1) := by decide +kernel
theorem dX12_put_207 : decode cX12_put 207 = .ok (.invokevirtual 309, 3) := by decide +kernel
theorem dX12_put_210 : decode cX12_put 210 = .ok (.ifCond .eq 7, 3) := by decide +kernel
theorem dX12_put_213 : decode cX12_put 213 = .ok (.lconst 1, 1) := by decide +kernel
theorem dX12_put_214 : decode cX12_put 214 = .ok (.goto 4, 3) := by decide +kernel
theorem dX12_put_217 : decode cX12_put 217 = .ok (.lconst 0, 1) := by decide +kernel
theorem dX12_put_218 : decode cX12_put 218 = .ok (.lastore, 1) := by decide +kernel
theorem dX12_put_219 : decode cX12_put 219 = .ok (.iinc 7 1, 3) := by decide +kernel
theorem dX12_put_222 : decode cX12_put 222 = .ok (.goto (-80), 3) := by decide +kernel
theorem dX12_put_225 : decode cX12_put 225 = .ok (.aload_n 0, 1) := by decide +kernel
theorem dX12_put_226 : decode cX12_put 226 = .ok (.iconst 1, 1) := by decide +kernel
theorem dX12_put_227 : decode cX12_put 227 = .ok (.invokevirtual 363, 3) := by decide +kernel
theorem dX12_put_230 : decode cX12_put 230 = .ok (.ireturn, 1) := by decide +kernel
theorem dX12_seats_0 : decode cX12_seats 0 = .ok (.aload_n 0, 1) := by decide +kernel
theorem dX12_seats_1 : decode cX12_seats 1 = .ok (.iload_n 1, 1) := by decide +kernel
theorem dX12_seats_2 : decode cX12_seats 2 = .ok (.iconst (-1), 1) := by decide +kernel
theorem dX12_seats_3 : decode cX12_seats 3 = .ok (.invokevirtual 196, 3) := by decide +kernel
theorem dX12_seats_6 : decode cX12_seats 6 = .ok (.istore_n 2, 1) := by decide +kernel
theorem dX12_seats_7 : decode cX12_seats 7 = .ok (.iconst 0, 1) := by decide +kernel
theorem dX12_seats_8 : decode cX12_seats 8 = .ok (.istore_n 3, 1) := by decide +kernel
theorem dX12_seats_9 : decode cX12_seats 9 = .ok (.iload_n 3, 1) := by decide +kernel
theorem dX12_seats_10 : decode cX12_seats 10 = .ok (.iload_n 2, 1) := by decide +kernel
theorem dX12_seats_11 : decode cX12_seats 11 = .ok (.if_icmp .ge 60, 3) := by decide +kernel
theorem dX12_seats_14 : decode cX12_seats 14 = .ok (.iconst 0, 1) := by decide +kernel
theorem dX12_seats_15 : decode cX12_seats 15 = .ok (.istore 4, 2) := by decide +kernel
theorem dX12_seats_17 : decode cX12_seats 17 = .ok (.iload 4, 2) := by decide +kernel
theorem dX12_seats_19 : decode cX12_seats 19 = .ok (.aload_n 0, 1) := by decide +kernel
theorem dX12_seats_20 : decode cX12_seats 20 = .ok (.getfield 159, 3) := by decide +kernel
theorem dX12_seats_23 : decode cX12_seats 23 = .ok (.if_icmp .ge 42, 3) := by decide +kernel
theorem dX12_seats_26 : decode cX12_seats 26 = .ok (.aload_n 0, 1) := by decide +kernel
theorem dX12_seats_27 : decode cX12_seats 27 = .ok (.getfield 120, 3) := by decide +kernel
theorem dX12_seats_30 : decode cX12_seats 30 = .ok (.bipush 10, 2) := by decide +kernel
theorem dX12_seats_32 : decode cX12_seats 32 = .ok (.iload_n 3, 1) := by decide +kernel
theorem dX12_seats_33 : decode cX12_seats 33 = .ok (.imul, 1) := by decide +kernel
theorem dX12_seats_34 : decode cX12_seats 34 = .ok (.iload 4, 2) := by decide +kernel
theorem dX12_seats_36 : decode cX12_seats 36 = .ok (.iadd, 1) := by decide +kernel
theorem dX12_seats_37 : decode cX12_seats 37 = .ok (.aload_n 0, 1) := by decide +kernel
theorem dX12_seats_38 : decode cX12_seats 38 = .ok (.iload_n 1, 1) := by decide +kernel
theorem dX12_seats_39 : decode cX12_seats 39 = .ok (.iload 4, 2) := by decide +kernel
theorem dX12_seats_41 : decode cX12_seats 41 = .ok (.aload_n 0, 1) := by decide +kernel
theorem dX12_seats_42 : decode cX12_seats 42 = .ok (.iload_n 1, 1) := by decide +kernel
theorem dX12_seats_43 : decode cX12_seats 43 = .ok (.iload_n 3, 1) := by decide +kernel
theorem dX12_seats_44 : decode cX12_seats 44 = .ok (.invokevirtual 321, 3) := by decide +kernel
theorem dX12_seats_47 : decode cX12_seats 47 = .ok (.invokevirtual 316, 3) := by decide +kernel
theorem dX12_seats_50 : decode cX12_seats 50 = .ok (.ifCond .ne 7, 3) := by decide +kernel
theorem dX12_seats_53 : decode cX12_seats 53 = .ok (.iconst 1, 1) := by decide +kernel
theorem dX12_seats_54 : decode cX12_seats 54 = .ok (.goto 4, 3) := by decide +kernel
theorem dX12_seats_57 : decode cX12_seats 57 = .ok (.iconst 0, 1) := by decide +kernel
theorem dX12_seats_58 : decode cX12_seats 58 = .ok (.bastore, 1) := by decide +kernel
theorem dX12_seats_59 : decode cX12_seats 59 = .ok (.iinc 4 1, 3) := by decide +kernel
theorem dX12_seats_62 : decode cX12_seats 62 = .ok (.goto (-45), 3) := by decide +kernel
theorem dX12_seats_65 : decode cX12_seats 65 = .ok (.iinc 3 1, 3) := by decide +kernel
theorem dX12_seats_68 : decode cX12_seats 68 = .ok (.goto (-59), 3) := by decide +kernel
theorem dX12_seats_71 : decode cX12_seats 71 = .ok (.iload_n 2, 1) := by decide +kernel
theorem dX12_seats_72 : decode cX12_seats 72 = .ok (.istore_n 3, 1) := by decide +kernel
theorem dX12_seats_73 : decode cX12_seats 73 = .ok (.iload_n 3, 1) := by decide +kernel
theorem dX12_seats_74 : decode cX12_seats 74 = .ok (.ifCond .lt 146, 3) := by decide +kernel
theorem dX12_seats_77 : decode cX12_seats 77 = .ok (.iconst 0, 1) := by decide +kernel
theorem dX12_seats_78 : decode cX12_seats 78 = .ok (.istore 4, 2) := by decide +kernel
theorem dX12_seats_80 : decode cX12_seats 80 = .ok (.iload 4, 2) := by decide +kernel
theorem dX12_seats_82 : decode cX12_seats 82 = .ok (.sipush 1024, 3) := by decide +kernel
theorem dX12_seats_85 : decode cX12_seats 85 = .ok (.if_icmp .ge 129, 3) := by decide +kernel
theorem dX12_seats_88 : decode cX12_seats 88 = .ok (.aload_n 0, 1) := by decide +kernel
theorem dX12_seats_89 : decode cX12_seats 89 = .ok (.getfield 123, 3) := by decide +kernel
theorem dX12_seats_92 : decode cX12_seats 92 = .ok (.sipush 1024, 3) := by decide +kernel
theorem dX12_seats_95 : decode cX12_seats 95 = .ok (.iload_n 3, 1) := by decide +kernel
theorem dX12_seats_96 : decode cX12_seats 96 = .ok (.imul, 1) := by decide +kernel
theorem dX12_seats_97 : decode cX12_seats 97 = .ok (.iload 4, 2) := by decide +kernel
theorem dX12_seats_99 : decode cX12_seats 99 = .ok (.iadd, 1) := by decide +kernel
theorem dX12_seats_100 : decode cX12_seats 100 = .ok (.iload_n 3, 1) := by decide +kernel
theorem dX12_seats_101 : decode cX12_seats 101 = .ok (.iload_n 2, 1) := by decide +kernel
theorem dX12_seats_102 : decode cX12_seats 102 = .ok (.if_icmp .ne 7, 3) := by decide +kernel
theorem dX12_seats_105 : decode cX12_seats 105 = .ok (.iconst 0, 1) := by decide +kernel
theorem dX12_seats_106 : decode cX12_seats 106 = .ok (.goto 18, 3) := by decide +kernel
theorem dX12_seats_109 : decode cX12_seats 109 = .ok (.aload_n 0, 1) := by decide +kernel
theorem dX12_seats_110 : decode cX12_seats 110 = .ok (.getfield 123, 3) := by decide +kernel
theorem dX12_seats_113 : decode cX12_seats 113 = .ok (.sipush 1024, 3) := by decide +kernel
theorem dX12_seats_116 : decode cX12_seats 116 = .ok (.iload_n 3, 1) := by decide +kernel
theorem dX12_seats_117 : decode cX12_seats 117 = .ok (.iconst 1, 1) := by decide +kernel
theorem dX12_seats_118 : decode cX12_seats 118 = .ok (.iadd, 1) := by decide +kernel
theorem dX12_seats_119 : decode cX12_seats 119 = .ok (.imul, 1) := by decide +kernel
theorem dX12_seats_120 : decode cX12_seats 120 = .ok (.iload 4, 2) := by decide +kernel
theorem dX12_seats_122 : decode cX12_seats 122 = .ok (.iadd, 1) := by decide +kernel
theorem dX12_seats_123 : decode cX12_seats 123 = .ok (.iaload, 1) := by decide +kernel
theorem dX12_seats_124 : decode cX12_seats 124 = .ok (.iastore, 1) := by decide +kernel
theorem dX12_seats_125 : decode cX12_seats 125 = .ok (.iconst 0, 1) := by decide +kernel
theorem dX12_seats_126 : decode cX12_seats 126 = .ok (.istore 5, 2) := by decide +kernel
theorem dX12_seats_128 : decode cX12_seats 128 = .ok (.iload 5, 2) := by decide +kernel
theorem dX12_seats_130 : decode cX12_seats 130 = .ok (.aload_n 0, 1) := by decide +kernel
theorem dX12_seats_131 : decode cX12_seats 131 = .ok (.getfield 159, 3) := by decide +kernel
theorem dX12_seats_134 : decode cX12_seats 134 = .ok (.if_icmp .ge 74, 3) := by decide +kernel
theorem dX12_seats_137 : decode cX12_seats 137 = .ok (.iload_n 3, 1) := by decide +kernel
theorem dX12_seats_138 : decode cX12_seats 138 = .ok (.iload_n 2, 1) := by decide +kernel
theorem dX12_seats_139 : decode cX12_seats 139 = .ok (.if_icmp .ge 69, 3) := by decide +kernel
theorem dX12_seats_142 : decode cX12_seats 142 = .ok (.aload_n 0, 1) := by decide +kernel
theorem dX12_seats_143 : decode cX12_seats 143 = .ok (.iload_n 3, 1) := by decide +kernel
theorem dX12_seats_144 : decode cX12_seats 144 = .ok (.iload 4, 2) := by decide +kernel
theorem dX12_seats_146 : decode cX12_seats 146 = .ok (.iload 5, 2) := by decide +kernel
theorem dX12_seats_148 : decode cX12_seats 148 = .ok (.invokevirtual 324, 3) := by decide +kernel
theorem dX12_seats_151 : decode cX12_seats 151 = .ok (.istore 6, 2) := by decide +kernel
theorem dX12_seats_153 : decode cX12_seats 153 = .ok (.aload_n 0, 1) := by decide +kernel
theorem dX12_seats_154 : decode cX12_seats 154 = .ok (.getfield 123, 3) := by decide +kernel
theorem dX12_seats_157 : decode cX12_seats 157 = .ok (.sipush 1024, 3) := by decide +kernel
theorem dX12_seats_160 : decode cX12_seats 160 = .ok (.iload_n 3, 1) := by decide +kernel
theorem dX12_seats_161 : decode cX12_seats 161 = .ok (.imul, 1) := by decide +kernel
theorem dX12_seats_162 : decode cX12_seats 162 = .ok (.iload 4, 2) := by decide +kernel
theorem dX12_seats_164 : decode cX12_seats 164 = .ok (.iadd, 1) := by decide +kernel
theorem dX12_seats_165 : decode cX12_seats 165 = .ok (.iload 6, 2) := by decide +kernel
theorem dX12_seats_167 : decode cX12_seats 167 = .ok (.aload_n 0, 1) := by decide +kernel
theorem dX12_seats_168 : decode cX12_seats 168 = .ok (.getfield 123, 3) := by decide +kernel
theorem dX12_seats_171 : decode cX12_seats 171 = .ok (.sipush 1024, 3) := by decide +kernel
theorem dX12_seats_174 : decode cX12_seats 174 = .ok (.iload_n 3, 1) := by decide +kernel
theorem dX12_seats_175 : decode cX12_seats 175 = .ok (.imul, 1) := by decide +kernel
theorem dX12_seats_176 : decode cX12_seats 176 = .ok (.iload 4, 2) := by decide +kernel
theorem dX12_seats_178 : decode cX12_seats 178 = .ok (.iadd, 1) := by decide +kernel
theorem dX12_seats_179 : decode cX12_seats 179 = .ok (.iaload, 1) := by decide +kernel
theorem dX12_seats_180 : decode cX12_seats 180 = .ok (.if_icmp .le 8, 3) := by decide +kernel
theorem dX12_seats_183 : decode cX12_seats 183 = .ok (.iload 6, 2) := by decide +kernel
theorem dX12_seats_185 : decode cX12_seats 185 = .ok (.goto 16, 3) := by decide +kernel
theorem dX12_seats_188 : decode cX12_seats 188 = .ok (.aload_n 0, 1) := by decide +kernel
theorem dX12_seats_189 : decode cX12_seats 189 = .ok (.getfield 123, 3) := by decide +kernel
theorem dX12_seats_192 : decode cX12_seats 192 = .ok (.sipush 1024, 3) := by decide +kernel
theorem dX12_seats_195 : decode cX12_seats 195 = .ok (.iload_n 3, 1) := by decide +kernel
theorem dX12_seats_196 : decode cX12_seats 196 = .ok (.imul, 1) := by decide +kernel
theorem dX12_seats_197 : decode cX12_seats 197 = .ok (.iload 4, 2) := by decide +kernel
theorem dX12_seats_199 : decode cX12_seats 199 = .ok (.iadd, 1) := by decide +kernel
theorem dX12_seats_200 : decode cX12_seats 200 = .ok (.iaload, 1) := by decide +kernel
theorem dX12_seats_201 : decode cX12_seats 201 = .ok (.iastore, 1) := by decide +kernel
theorem dX12_seats_202 : decode cX12_seats 202 = .ok (.iinc 5 1, 3) := by decide +kernel
theorem dX12_seats_205 : decode cX12_seats 205 = .ok (.goto (-77), 3) := by decide +kernel
theorem dX12_seats_208 : decode cX12_seats 208 = .ok (.iinc 4 1, 3) := by decide +kernel
theorem dX12_seats_211 : decode cX12_seats 211 = .ok (.goto (-131), 3) := by decide +kernel
theorem dX12_seats_214 : decode cX12_seats 214 = .ok (.iinc 3 (-1), 3) := by decide +kernel
theorem dX12_seats_217 : decode cX12_seats 217 = .ok (.goto (-144), 3) := by decide +kernel
theorem dX12_seats_220 : decode cX12_seats 220 = .ok (.iconst 0, 1) := by decide +kernel
theorem dX12_seats_221 : decode cX12_seats 221 = .ok (.istore_n 3, 1) := by decide +kernel
theorem dX12_seats_222 : decode cX12_seats 222 = .ok (.iconst 0, 1) := by decide +kernel
theorem dX12_seats_223 : decode cX12_seats 223 = .ok (.istore 4, 2) := by decide +kernel
theorem dX12_seats_225 : decode cX12_seats 225 = .ok (.iload 4, 2) := by decide +kernel
theorem dX12_seats_227 : decode cX12_seats 227 = .ok (.iload_n 2, 1) := by decide +kernel
theorem dX12_seats_228 : decode cX12_seats 228 = .ok (.if_icmp .ge 107, 3) := by decide +kernel
theorem dX12_seats_231 : decode cX12_seats 231 = .ok (.aload_n 0, 1) := by decide +kernel
theorem dX12_seats_232 : decode cX12_seats 232 = .ok (.getfield 126, 3) := by decide +kernel
theorem dX12_seats_235 : decode cX12_seats 235 = .ok (.iload 4, 2) := by decide +kernel
theorem dX12_seats_237 : decode cX12_seats 237 = .ok (.iconst (-1), 1) := by decide +kernel
theorem dX12_seats_238 : decode cX12_seats 238 = .ok (.iastore, 1) := by decide +kernel
theorem dX12_seats_239 : decode cX12_seats 239 = .ok (.aload_n 0, 1) := by decide +kernel
theorem dX12_seats_240 : decode cX12_seats 240 = .ok (.getfield 159, 3) := by decide +kernel
theorem dX12_seats_243 : decode cX12_seats 243 = .ok (.iconst 1, 1) := by decide +kernel
theorem dX12_seats_244 : decode cX12_seats 244 = .ok (.isub, 1) := by decide +kernel
theorem dX12_seats_245 : decode cX12_seats 245 = .ok (.istore 5, 2) := by decide +kernel
theorem dX12_seats_247 : decode cX12_seats 247 = .ok (.iload 5, 2) := by decide +kernel
theorem dX12_seats_249 : decode cX12_seats 249 = .ok (.ifCond .lt 53, 3) := by decide +kernel
theorem dX12_seats_252 : decode cX12_seats 252 = .ok (.aload_n 0, 1) := by decide +kernel
theorem dX12_seats_253 : decode cX12_seats 253 = .ok (.getfield 126, 3) := by decide +kernel
theorem dX12_seats_256 : decode cX12_seats 256 = .ok (.iload 4, 2) := by decide +kernel
theorem dX12_seats_258 : decode cX12_seats 258 = .ok (.aload_n 0, 1) := by decide +kernel
theorem dX12_seats_259 : decode cX12_seats 259 = .ok (.iload 4, 2) := by decide +kernel
theorem dX12_seats_261 : decode cX12_seats 261 = .ok (.iload_n 3, 1) := by decide +kernel
theorem dX12_seats_262 : decode cX12_seats 262 = .ok (.iload 5, 2) := by decide +kernel
theorem dX12_seats_264 : decode cX12_seats 264 = .ok (.invokevirtual 324, 3) := by decide +kernel
theorem dX12_seats_267 : decode cX12_seats 267 = .ok (.aload_n 0, 1) := by decide +kernel
theorem dX12_seats_268 : decode cX12_seats 268 = .ok (.getfield 123, 3) := by decide +kernel
theorem dX12_seats_271 : decode cX12_seats 271 = .ok (.sipush 1024, 3) := by decide +kernel
theorem dX12_seats_274 : decode cX12_seats 274 = .ok (.iload 4, 2) := by decide +kernel
theorem dX12_seats_276 : decode cX12_seats 276 = .ok (.imul, 1) := by decide +kernel
theorem dX12_seats_277 : decode cX12_seats 277 = .ok (.iload_n 3, 1) := by decide +kernel
theorem dX12_seats_278 : decode cX12_seats 278 = .ok (.iadd, 1) := by decide +kernel
theorem dX12_seats_279 : decode cX12_seats 279 = .ok (.iaload, 1) := by decide +kernel
theorem dX12_seats_280 : decode cX12_seats 280 = .ok (.if_icmp .ne 8, 3) := by decide +kernel
theorem dX12_seats_283 : decode cX12_seats 283 = .ok (.iload 5, 2) := by decide +kernel
theorem dX12_seats_285 : decode cX12_seats 285 = .ok (.goto 10, 3) := by decide +kernel
theorem dX12_seats_288 : decode cX12_seats 288 = .ok (.aload_n 0, 1) := by decide +kernel
theorem dX12_seats_289 : decode cX12_seats 289 = .ok (.getfield 126, 3) := by decide +kernel
theorem dX12_seats_292 : decode cX12_seats 292 = .ok (.iload 4, 2) := by decide +kernel
theorem dX12_seats_294 : decode cX12_seats 294 = .ok (.iaload, 1) := by decide +kernel
theorem dX12_seats_295 : decode cX12_seats 295 = .ok (.iastore, 1) := by decide +kernel
theorem dX12_seats_296 : decode cX12_seats 296 = .ok (.iinc 5 (-1), 3) := by decide +kernel
theorem dX12_seats_299 : decode cX12_seats 299 = .ok (.goto (-52), 3) := by decide +kernel
theorem dX12_seats_302 : decode cX12_seats 302 = .ok (.iload_n 3, 1) := by decide +kernel
theorem dX12_seats_303 : decode cX12_seats 303 = .ok (.aload_n 0, 1) := by decide +kernel
theorem dX12_seats_304 : decode cX12_seats 304 = .ok (.getfield 126, 3) := by decide +kernel
theorem dX12_seats_307 : decode cX12_seats 307 = .ok (.iload 4, 2) := by decide +kernel
theorem dX12_seats_309 : decode cX12_seats 309 = .ok (.iaload, 1) := by decide +kernel
theorem dX12_seats_310 : decode cX12_seats 310 = .ok (.iconst (-1), 1) := by decide +kernel
theorem dX12_seats_311 : decode cX12_seats 311 = .ok (.if_icmp .ne 7, 3) := by decide +kernel
theorem dX12_seats_314 : decode cX12_seats 314 = .ok (.iconst 0, 1) := by decide +kernel
theorem dX12_seats_315 : decode cX12_seats 315 = .ok (.goto 12, 3) := by decide +kernel
theorem dX12_seats_318 : decode cX12_seats 318 = .ok (.iconst 1, 1) := by decide +kernel
theorem dX12_seats_319 : decode cX12_seats 319 = .ok (.aload_n 0, 1) := by decide +kernel
theorem dX12_seats_320 : decode cX12_seats 320 = .ok (.getfield 126, 3) := by decide +kernel
theorem dX12_seats_323 : decode cX12_seats 323 = .ok (.iload 4, 2) := by decide +kernel
theorem dX12_seats_325 : decode cX12_seats 325 = .ok (.iaload, 1) := by decide +kernel
theorem dX12_seats_326 : decode cX12_seats 326 = .ok (.ishl, 1) := by decide +kernel
theorem dX12_seats_327 : decode cX12_seats 327 = .ok (.ior, 1) := by decide +kernel
theorem dX12_seats_328 : decode cX12_seats 328 = .ok (.istore_n 3, 1) := by decide +kernel
theorem dX12_seats_329 : decode cX12_seats 329 = .ok (.iinc 4 1, 3) := by decide +kernel
theorem dX12_seats_332 : decode cX12_seats 332 = .ok (.goto (-107), 3) := by decide +kernel
theorem dX12_seats_335 : decode cX12_seats 335 = .ok (.iload_n 2, 1) := by decide +kernel
theorem dX12_seats_336 : decode cX12_seats 336 = .ok (.aload_n 0, 1) := by decide +kernel
theorem dX12_seats_337 : decode cX12_seats 337 = .ok (.getfield 123, 3) := by decide +kernel
theorem dX12_seats_340 : decode cX12_seats 340 = .ok (.iconst 0, 1) := by decide +kernel
theorem dX12_seats_341 : decode cX12_seats 341 = .ok (.iaload, 1) := by decide +kernel
theorem dX12_seats_342 : decode cX12_seats 342 = .ok (.isub, 1) := by decide +kernel
theorem dX12_seats_343 : decode cX12_seats 343 = .ok (.ireturn, 1) := by decide +kernel
abbrev H_X12_orders_12 (l : Launch) (q : Int32 → o_M → Prop) (v1 : Int32) (v2 : Int32) (v3 : Int32) (v4 : Int32) (M : o_M) : Prop := E_X12_orders l q 12 [(0, rV (some 60)), (1, iV v1), (2, iV v2), (3, iV v3), (4, iV v4)] [] M 0 0
abbrev H_X12_orders_22 (l : Launch) (q : Int32 → o_M → Prop) (v1 : Int32) (v2 : Int32) (v3 : Int32) (v4 : Int32) (v5 : Int32) (M : o_M) : Prop := E_X12_orders l q 22 [(0, rV (some 60)), (1, iV v1), (2, iV v2), (3, iV v3), (4, iV v4), (5, iV v5)] [] M 0 0
abbrev H_X12_orders_106 (l : Launch) (q : Int32 → o_M → Prop) (v1 : Int32) (v2 : Int32) (v3 : Int32) (v4 : Int32) (v5 : Int32) (M : o_M) : Prop := E_X12_orders l q 106 [(0, rV (some 60)), (1, iV v1), (2, iV v2), (3, iV v3), (4, iV v4), (5, iV v5)] [] M 0 0
abbrev H_X12_orders_133 (l : Launch) (q : Int32 → o_M → Prop) (v1 : Int32) (v2 : Int32) (v3 : Int32) (v4 : Int32) (v5 : Int32) (v6 : Int32) (v7 : Int32) (M : o_M) : Prop := E_X12_orders l q 133 [(0, rV (some 60)), (1, iV v1), (2, iV v2), (3, iV v3), (4, iV v4), (5, iV v5), (6, iV v6), (7, iV v7)] [] M 0 0
theorem w_X12_orders (l : Launch) (p1 : Int32) (M : o_M) (q : Int32 → o_M → Prop) (h : (mR M 60 19 = some 80 ∧ (vp_in p1 (mN M 80) ∧ H_X12_orders_12 l q p1 (mI M 80 p1.toNatClampNeg) 1 0 M))) : K_X12_orders l [rV (some 60), iV p1] M q := by
  refine o_ctr (ini := false) (by decide +kernel) rfl (fun z => by cases z) (Nat.le_of_ble_eq_true rfl) ?_
  show E_X12_orders l q 0 [(0, rV (some 60)), (1, iV p1)] [] M 0 0
  refine e_aload_n dX12_orders_0 rfl rfl ?_
  obtain ⟨o1, h⟩ := h
  refine e_gA flX12_58 rfl rfl o1 dX12_orders_1 ?_
  refine e_iload_n dX12_orders_4 rfl rfl ?_
  obtain ⟨o2, h⟩ := h
  refine e_iald rfl o2 dX12_orders_5 ?_
  refine e_istore_n (lv' := [(2, iV (mI M 80 p1.toNatClampNeg)), (0, rV (some 60)), (1, iV p1)]) dX12_orders_6 rfl (by decide) rfl ?_
  refine e_iconst (v := 1) dX12_orders_7 (by decide) ?_
  refine e_istore_n (lv' := [(3, iV 1), (2, iV (mI M 80 p1.toNatClampNeg)), (0, rV (some 60)), (1, iV p1)]) dX12_orders_8 rfl (by decide) rfl ?_
  refine e_iconst (v := 0) dX12_orders_9 (by decide) ?_
  refine e_istore (lv' := [(4, iV 0), (3, iV 1), (2, iV (mI M 80 p1.toNatClampNeg)), (0, rV (some 60)), (1, iV p1)]) (by decide) rfl dX12_orders_10 ?_
  exact e_lv (List.forall_mem_cons.mpr ⟨rfl, List.forall_mem_cons.mpr ⟨rfl, List.forall_mem_cons.mpr ⟨rfl, List.forall_mem_cons.mpr ⟨rfl, List.forall_mem_cons.mpr ⟨rfl, fun _ h => absurd h List.not_mem_nil⟩⟩⟩⟩⟩) h
theorem w_X12_orders_12 (l : Launch) (q : Int32 → o_M → Prop) (v1 : Int32) (v2 : Int32) (v3 : Int32) (v4 : Int32) (M : o_M) (h : ((v2 ≤ v4 → H_X12_orders_106 l q v1 v2 v3 (-1) 0 M) ∧ (¬ v2 ≤ v4 → H_X12_orders_22 l q v1 v2 v3 v4 v4 M))) : H_X12_orders_12 l q v1 v2 v3 v4 M := by
  refine e_iload rfl dX12_orders_12 ?_
  refine e_iload_n dX12_orders_14 rfl rfl ?_
  refine e_ic_ge (tgt := 100) dX12_orders_15 (by decide) (fun c3 => ?_) (fun c3 => ?_)
  · replace h := h.1 c3
    refine e_iconst (v := (-1)) dX12_orders_100 (by decide) ?_
    refine e_istore (lv' := [(4, iV (-1)), (0, rV (some 60)), (1, iV v1), (2, iV v2), (3, iV v3)]) (by decide) rfl dX12_orders_101 ?_
    refine e_iconst (v := 0) dX12_orders_103 (by decide) ?_
    refine e_istore (lv' := [(5, iV 0), (4, iV (-1)), (0, rV (some 60)), (1, iV v1), (2, iV v2), (3, iV v3)]) (by decide) rfl dX12_orders_104 ?_
    exact e_lv (List.forall_mem_cons.mpr ⟨rfl, List.forall_mem_cons.mpr ⟨rfl, List.forall_mem_cons.mpr ⟨rfl, List.forall_mem_cons.mpr ⟨rfl, List.forall_mem_cons.mpr ⟨rfl, List.forall_mem_cons.mpr ⟨rfl, fun _ h => absurd h List.not_mem_nil⟩⟩⟩⟩⟩⟩) h
  · replace h := h.2 c3
    refine e_iload rfl dX12_orders_18 ?_
    refine e_istore (lv' := [(5, iV v4), (0, rV (some 60)), (1, iV v1), (2, iV v2), (3, iV v3), (4, iV v4)]) (by decide) rfl dX12_orders_20 ?_
    exact e_lv (List.forall_mem_cons.mpr ⟨rfl, List.forall_mem_cons.mpr ⟨rfl, List.forall_mem_cons.mpr ⟨rfl, List.forall_mem_cons.mpr ⟨rfl, List.forall_mem_cons.mpr ⟨rfl, List.forall_mem_cons.mpr ⟨rfl, fun _ h => absurd h List.not_mem_nil⟩⟩⟩⟩⟩⟩) h
theorem w_X12_orders_106 (l : Launch) (q : Int32 → o_M → Prop) (v1 : Int32) (v2 : Int32) (v3 : Int32) (v4 : Int32) (v5 : Int32) (M : o_M) (h : ((v3 ≤ v5 → q v4 M) ∧ (¬ v3 ≤ v5 → K_X12_isOrder l [rV (some 60), iV v5, iV v2, iV v3] M (fun r6 M5 => ((r6 = 0 → H_X12_orders_106 l q v1 v2 v3 v4 (v5 + 1) M5) ∧ (¬ r6 = 0 → K_X12_waitOf l [rV (some 60), iV v1] M5 (fun r9 M8 => H_X12_orders_133 l q v1 v2 v3 v4 v5 r9 0 M8))))))) : H_X12_orders_106 l q v1 v2 v3 v4 v5 M := by
  refine e_iload rfl dX12_orders_106 ?_
  refine e_iload_n dX12_orders_108 rfl rfl ?_
  refine e_ic_ge (tgt := 200) dX12_orders_109 (by decide) (fun c4 => ?_) (fun c4 => ?_)
  · replace h := h.1 c4
    refine e_iload rfl dX12_orders_200 ?_
    exact e_iret rfl trivial dX12_orders_202 ⟨_, rfl, h⟩
  · replace h := h.2 c4
    refine e_aload_n dX12_orders_112 rfl rfl ?_
    refine e_iload rfl dX12_orders_113 ?_
    refine e_iload_n dX12_orders_115 rfl rfl ?_
    refine e_iload_n dX12_orders_116 rfl rfl ?_
    refine e_callV (As := [iV v5, iV v2, iV v3]) (st := []) mt_X12_isOrder in_X12_isOrder lkX12_338 rfl rfl ⟨by decide, by decide⟩ (Nat.le_of_ble_eq_true rfl) ⟨by decide, by decide⟩ rfl rfl dX12_orders_117 (Ctr.mono h (fun v M5 h => ?_))
    obtain ⟨r6, rfl, h⟩ := h
    show E_X12_orders l q 120 [(0, rV (some 60)), (1, iV v1), (2, iV v2), (3, iV v3), (4, iV v4), (5, iV v5)] [iV r6] M5 0 0
    refine e_if_eq (tgt := 194) dX12_orders_120 (by decide) (fun c7 => ?_) (fun c7 => ?_)
    · replace h := h.1 c7
      refine e_iinc (v := 1) (lv' := [(5, iV (v5 + 1)), (0, rV (some 60)), (1, iV v1), (2, iV v2), (3, iV v3), (4, iV v4)]) rfl (by decide) (by decide) rfl dX12_orders_194 ?_
      refine e_goto (tgt := 106) dX12_orders_197 (by decide) ?_
      exact e_lv (List.forall_mem_cons.mpr ⟨rfl, List.forall_mem_cons.mpr ⟨rfl, List.forall_mem_cons.mpr ⟨rfl, List.forall_mem_cons.mpr ⟨rfl, List.forall_mem_cons.mpr ⟨rfl, List.forall_mem_cons.mpr ⟨rfl, fun _ h => absurd h List.not_mem_nil⟩⟩⟩⟩⟩⟩) h
    · replace h := h.2 c7
      refine e_aload_n dX12_orders_123 rfl rfl ?_
      refine e_iload_n dX12_orders_124 rfl rfl ?_
      refine e_callV (As := [iV v1]) (st := []) mt_X12_waitOf in_X12_waitOf lkX12_341 rfl rfl ⟨by decide, by decide⟩ (Nat.le_of_ble_eq_true rfl) ⟨by decide, by decide⟩ rfl rfl dX12_orders_125 (Ctr.mono h (fun v M8 h => ?_))
      obtain ⟨r9, rfl, h⟩ := h
      show E_X12_orders l q 128 [(0, rV (some 60)), (1, iV v1), (2, iV v2), (3, iV v3), (4, iV v4), (5, iV v5)] [iV r9] M8 0 0
      refine e_istore (lv' := [(6, iV r9), (0, rV (some 60)), (1, iV v1), (2, iV v2), (3, iV v3), (4, iV v4), (5, iV v5)]) (by decide) rfl dX12_orders_128 ?_
      refine e_iconst (v := 0) dX12_orders_130 (by decide) ?_
      refine e_istore (lv' := [(7, iV 0), (6, iV r9), (0, rV (some 60)), (1, iV v1), (2, iV v2), (3, iV v3), (4, iV v4), (5, iV v5)]) (by decide) rfl dX12_orders_131 ?_
      exact e_lv (List.forall_mem_cons.mpr ⟨rfl, List.forall_mem_cons.mpr ⟨rfl, List.forall_mem_cons.mpr ⟨rfl, List.forall_mem_cons.mpr ⟨rfl, List.forall_mem_cons.mpr ⟨rfl, List.forall_mem_cons.mpr ⟨rfl, List.forall_mem_cons.mpr ⟨rfl, List.forall_mem_cons.mpr ⟨rfl, fun _ h => absurd h List.not_mem_nil⟩⟩⟩⟩⟩⟩⟩⟩) h
theorem w_X12_orders_22 (l : Launch) (q : Int32 → o_M → Prop) (v1 : Int32) (v2 : Int32) (v3 : Int32) (v4 : Int32) (v5 : Int32) (M : o_M) (h : ((v5 ≤ 0 → (mR M 60 56 = some 117 ∧ (mR M 60 20 = some 81 ∧ (vp_in ((5 * v1) + v4) (mN M 81) ∧ (vp_in v5 (mN M 117) ∧ H_X12_orders_12 l q v1 v2 (v3 * v2) (v4 + 1) (sI M 117 v5.toNatClampNeg (mI M 81 ((5 * v1) + v4).toNatClampNeg))))))) ∧ (¬ v5 ≤ 0 → (mR M 60 56 = some 117 ∧ (vp_in (v5 - 1) (mN M 117) ∧ (mR M 60 20 = some 81 ∧ (vp_in ((5 * v1) + v4) (mN M 81) ∧ (((mI M 117 (v5 - 1).toNatClampNeg) ≤ (mI M 81 ((5 * v1) + v4).toNatClampNeg) → (mR M 60 56 = some 117 ∧ (mR M 60 20 = some 81 ∧ (vp_in ((5 * v1) + v4) (mN M 81) ∧ (vp_in v5 (mN M 117) ∧ H_X12_orders_12 l q v1 v2 (v3 * v2) (v4 + 1) (sI M 117 v5.toNatClampNeg (mI M 81 ((5 * v1) + v4).toNatClampNeg))))))) ∧ (¬ (mI M 117 (v5 - 1).toNatClampNeg) ≤ (mI M 81 ((5 * v1) + v4).toNatClampNeg) → (mR M 60 56 = some 117 ∧ (mR M 60 56 = some 117 ∧ (vp_in (v5 - 1) (mN M 117) ∧ (vp_in v5 (mN M 117) ∧ H_X12_orders_22 l q v1 v2 v3 v4 (v5 + (-1)) (sI M 117 v5.toNatClampNeg (mI M 117 (v5 - 1).toNatClampNeg))))))))))))))) : H_X12_orders_22 l q v1 v2 v3 v4 v5 M := by
  refine e_iload rfl dX12_orders_22 ?_
  refine e_if_le (tgt := 72) dX12_orders_24 (by decide) (fun c10 => ?_) (fun c10 => ?_)
  · replace h := h.1 c10
    refine e_aload_n dX12_orders_72 rfl rfl ?_
    obtain ⟨o11, h⟩ := h
    refine e_gA flX12_135 rfl rfl o11 dX12_orders_73 ?_
    refine e_iload rfl dX12_orders_76 ?_
    refine e_aload_n dX12_orders_78 rfl rfl ?_
    obtain ⟨o12, h⟩ := h
    refine e_gA flX12_61 rfl rfl o12 dX12_orders_79 ?_
    refine e_iconst (v := 5) dX12_orders_82 (by decide) ?_
    refine e_iload_n dX12_orders_83 rfl rfl ?_
    refine e_imul dX12_orders_84 ?_
    refine e_iload rfl dX12_orders_85 ?_
    refine e_iadd dX12_orders_87 ?_
    obtain ⟨o13, h⟩ := h
    refine e_iald rfl o13 dX12_orders_88 ?_
    obtain ⟨o14, h⟩ := h
    refine e_iast rfl o14 dX12_orders_89 ?_
    refine e_iload_n dX12_orders_90 rfl rfl ?_
    refine e_iload_n dX12_orders_91 rfl rfl ?_
    refine e_imul dX12_orders_92 ?_
    refine e_istore_n (lv' := [(3, iV (v3 * v2)), (0, rV (some 60)), (1, iV v1), (2, iV v2), (4, iV v4), (5, iV v5)]) dX12_orders_93 rfl (by decide) rfl ?_
    refine e_iinc (v := 1) (lv' := [(4, iV (v4 + 1)), (3, iV (v3 * v2)), (0, rV (some 60)), (1, iV v1), (2, iV v2), (5, iV v5)]) rfl (by decide) (by decide) rfl dX12_orders_94 ?_
    refine e_goto (tgt := 12) dX12_orders_97 (by decide) ?_
    exact e_lv (List.forall_mem_cons.mpr ⟨rfl, List.forall_mem_cons.mpr ⟨rfl, List.forall_mem_cons.mpr ⟨rfl, List.forall_mem_cons.mpr ⟨rfl, List.forall_mem_cons.mpr ⟨rfl, fun _ h => absurd h List.not_mem_nil⟩⟩⟩⟩⟩) h
  · replace h := h.2 c10
    refine e_aload_n dX12_orders_27 rfl rfl ?_
    obtain ⟨o15, h⟩ := h
    refine e_gA flX12_135 rfl rfl o15 dX12_orders_28 ?_
    refine e_iload rfl dX12_orders_31 ?_
    refine e_iconst (v := 1) dX12_orders_33 (by decide) ?_
    refine e_isub dX12_orders_34 ?_
    obtain ⟨o16, h⟩ := h
    refine e_iald rfl o16 dX12_orders_35 ?_
    refine e_aload_n dX12_orders_36 rfl rfl ?_
    obtain ⟨o17, h⟩ := h
    refine e_gA flX12_61 rfl rfl o17 dX12_orders_37 ?_
    refine e_iconst (v := 5) dX12_orders_40 (by decide) ?_
    refine e_iload_n dX12_orders_41 rfl rfl ?_
    refine e_imul dX12_orders_42 ?_
    refine e_iload rfl dX12_orders_43 ?_
    refine e_iadd dX12_orders_45 ?_
    obtain ⟨o18, h⟩ := h
    refine e_iald rfl o18 dX12_orders_46 ?_
    refine e_ic_le (tgt := 72) dX12_orders_47 (by decide) (fun c19 => ?_) (fun c19 => ?_)
    · replace h := h.1 c19
      refine e_aload_n dX12_orders_72 rfl rfl ?_
      obtain ⟨o20, h⟩ := h
      refine e_gA flX12_135 rfl rfl o20 dX12_orders_73 ?_
      refine e_iload rfl dX12_orders_76 ?_
      refine e_aload_n dX12_orders_78 rfl rfl ?_
      obtain ⟨o21, h⟩ := h
      refine e_gA flX12_61 rfl rfl o21 dX12_orders_79 ?_
      refine e_iconst (v := 5) dX12_orders_82 (by decide) ?_
      refine e_iload_n dX12_orders_83 rfl rfl ?_
      refine e_imul dX12_orders_84 ?_
      refine e_iload rfl dX12_orders_85 ?_
      refine e_iadd dX12_orders_87 ?_
      obtain ⟨o22, h⟩ := h
      refine e_iald rfl o22 dX12_orders_88 ?_
      obtain ⟨o23, h⟩ := h
      refine e_iast rfl o23 dX12_orders_89 ?_
      refine e_iload_n dX12_orders_90 rfl rfl ?_
      refine e_iload_n dX12_orders_91 rfl rfl ?_
      refine e_imul dX12_orders_92 ?_
      refine e_istore_n (lv' := [(3, iV (v3 * v2)), (0, rV (some 60)), (1, iV v1), (2, iV v2), (4, iV v4), (5, iV v5)]) dX12_orders_93 rfl (by decide) rfl ?_
      refine e_iinc (v := 1) (lv' := [(4, iV (v4 + 1)), (3, iV (v3 * v2)), (0, rV (some 60)), (1, iV v1), (2, iV v2), (5, iV v5)]) rfl (by decide) (by decide) rfl dX12_orders_94 ?_
      refine e_goto (tgt := 12) dX12_orders_97 (by decide) ?_
      exact e_lv (List.forall_mem_cons.mpr ⟨rfl, List.forall_mem_cons.mpr ⟨rfl, List.forall_mem_cons.mpr ⟨rfl, List.forall_mem_cons.mpr ⟨rfl, List.forall_mem_cons.mpr ⟨rfl, fun _ h => absurd h List.not_mem_nil⟩⟩⟩⟩⟩) h
    · replace h := h.2 c19
      refine e_aload_n dX12_orders_50 rfl rfl ?_
      obtain ⟨o24, h⟩ := h
      refine e_gA flX12_135 rfl rfl o24 dX12_orders_51 ?_
      refine e_iload rfl dX12_orders_54 ?_
      refine e_aload_n dX12_orders_56 rfl rfl ?_
      obtain ⟨o25, h⟩ := h
      refine e_gA flX12_135 rfl rfl o25 dX12_orders_57 ?_
      refine e_iload rfl dX12_orders_60 ?_
      refine e_iconst (v := 1) dX12_orders_62 (by decide) ?_
      refine e_isub dX12_orders_63 ?_
      obtain ⟨o26, h⟩ := h
      refine e_iald rfl o26 dX12_orders_64 ?_
      obtain ⟨o27, h⟩ := h
      refine e_iast rfl o27 dX12_orders_65 ?_
      refine e_iinc (v := (-1)) (lv' := [(5, iV (v5 + (-1))), (0, rV (some 60)), (1, iV v1), (2, iV v2), (3, iV v3), (4, iV v4)]) rfl (by decide) (by decide) rfl dX12_orders_66 ?_
      refine e_goto (tgt := 22) dX12_orders_69 (by decide) ?_
      exact e_lv (List.forall_mem_cons.mpr ⟨rfl, List.forall_mem_cons.mpr ⟨rfl, List.forall_mem_cons.mpr ⟨rfl, List.forall_mem_cons.mpr ⟨rfl, List.forall_mem_cons.mpr ⟨rfl, List.forall_mem_cons.mpr ⟨rfl, fun _ h => absurd h List.not_mem_nil⟩⟩⟩⟩⟩⟩) h
theorem w_X12_orders_133 (l : Launch) (q : Int32 → o_M → Prop) (v1 : Int32) (v2 : Int32) (v3 : Int32) (v4 : Int32) (v5 : Int32) (v6 : Int32) (v7 : Int32) (M : o_M) (h : ((v2 ≤ v7 → ((v4 = (-1) → H_X12_orders_106 l q v1 v2 v3 v6 (v5 + 1) M) ∧ (¬ v4 = (-1) → ((v4 ≤ v6 → H_X12_orders_106 l q v1 v2 v3 v4 (v5 + 1) M) ∧ (¬ v4 ≤ v6 → H_X12_orders_106 l q v1 v2 v3 v6 (v5 + 1) M))))) ∧ (¬ v2 ≤ v7 → ((v4 = (-1) → (mR M 60 55 = some 116 ∧ (mR M 60 54 = some 115 ∧ (vp_in v7 (mN M 115) ∧ (vp_in v7 (mN M 116) ∧ H_X12_orders_133 l q v1 v2 v3 v4 v5 v6 (v7 + 1) (sI M 116 v7.toNatClampNeg (mI M 115 v7.toNatClampNeg))))))) ∧ (¬ v4 = (-1) → ((v4 ≤ v6 → ((v4 = (-1) → H_X12_orders_106 l q v1 v2 v3 v6 (v5 + 1) M) ∧ (¬ v4 = (-1) → ((v4 ≤ v6 → H_X12_orders_106 l q v1 v2 v3 v4 (v5 + 1) M) ∧ (¬ v4 ≤ v6 → H_X12_orders_106 l q v1 v2 v3 v6 (v5 + 1) M))))) ∧ (¬ v4 ≤ v6 → (mR M 60 55 = some 116 ∧ (mR M 60 54 = some 115 ∧ (vp_in v7 (mN M 115) ∧ (vp_in v7 (mN M 116) ∧ H_X12_orders_133 l q v1 v2 v3 v4 v5 v6 (v7 + 1) (sI M 116 v7.toNatClampNeg (mI M 115 v7.toNatClampNeg))))))))))))) : H_X12_orders_133 l q v1 v2 v3 v4 v5 v6 v7 M := by
  refine e_iload rfl dX12_orders_133 ?_
  refine e_iload_n dX12_orders_135 rfl rfl ?_
  refine e_ic_ge (tgt := 172) dX12_orders_136 (by decide) (fun c28 => ?_) (fun c28 => ?_)
  · replace h := h.1 c28
    refine e_iload rfl dX12_orders_172 ?_
    refine e_iconst (v := (-1)) dX12_orders_174 (by decide) ?_
    refine e_ic_eq (tgt := 185) dX12_orders_175 (by decide) (fun c29 => ?_) (fun c29 => ?_)
    · replace h := h.1 c29
      refine e_iload rfl dX12_orders_185 ?_
      refine e_goto (tgt := 192) dX12_orders_187 (by decide) ?_
      refine e_istore (lv' := [(4, iV v6), (0, rV (some 60)), (1, iV v1), (2, iV v2), (3, iV v3), (5, iV v5), (6, iV v6), (7, iV v7)]) (by decide) rfl dX12_orders_192 ?_
      refine e_iinc (v := 1) (lv' := [(5, iV (v5 + 1)), (4, iV v6), (0, rV (some 60)), (1, iV v1), (2, iV v2), (3, iV v3), (6, iV v6), (7, iV v7)]) rfl (by decide) (by decide) rfl dX12_orders_194 ?_
      refine e_goto (tgt := 106) dX12_orders_197 (by decide) ?_
      exact e_lv (List.forall_mem_cons.mpr ⟨rfl, List.forall_mem_cons.mpr ⟨rfl, List.forall_mem_cons.mpr ⟨rfl, List.forall_mem_cons.mpr ⟨rfl, List.forall_mem_cons.mpr ⟨rfl, List.forall_mem_cons.mpr ⟨rfl, fun _ h => absurd h List.not_mem_nil⟩⟩⟩⟩⟩⟩) h
    · replace h := h.2 c29
      refine e_iload rfl dX12_orders_178 ?_
      refine e_iload rfl dX12_orders_180 ?_
      refine e_ic_ge (tgt := 190) dX12_orders_182 (by decide) (fun c30 => ?_) (fun c30 => ?_)
      · replace h := h.1 c30
        refine e_iload rfl dX12_orders_190 ?_
        refine e_istore (lv' := [(4, iV v4), (0, rV (some 60)), (1, iV v1), (2, iV v2), (3, iV v3), (5, iV v5), (6, iV v6), (7, iV v7)]) (by decide) rfl dX12_orders_192 ?_
        refine e_iinc (v := 1) (lv' := [(5, iV (v5 + 1)), (4, iV v4), (0, rV (some 60)), (1, iV v1), (2, iV v2), (3, iV v3), (6, iV v6), (7, iV v7)]) rfl (by decide) (by decide) rfl dX12_orders_194 ?_
        refine e_goto (tgt := 106) dX12_orders_197 (by decide) ?_
        exact e_lv (List.forall_mem_cons.mpr ⟨rfl, List.forall_mem_cons.mpr ⟨rfl, List.forall_mem_cons.mpr ⟨rfl, List.forall_mem_cons.mpr ⟨rfl, List.forall_mem_cons.mpr ⟨rfl, List.forall_mem_cons.mpr ⟨rfl, fun _ h => absurd h List.not_mem_nil⟩⟩⟩⟩⟩⟩) h
      · replace h := h.2 c30
        refine e_iload rfl dX12_orders_185 ?_
        refine e_goto (tgt := 192) dX12_orders_187 (by decide) ?_
        refine e_istore (lv' := [(4, iV v6), (0, rV (some 60)), (1, iV v1), (2, iV v2), (3, iV v3), (5, iV v5), (6, iV v6), (7, iV v7)]) (by decide) rfl dX12_orders_192 ?_
        refine e_iinc (v := 1) (lv' := [(5, iV (v5 + 1)), (4, iV v6), (0, rV (some 60)), (1, iV v1), (2, iV v2), (3, iV v3), (6, iV v6), (7, iV v7)]) rfl (by decide) (by decide) rfl dX12_orders_194 ?_
        refine e_goto (tgt := 106) dX12_orders_197 (by decide) ?_
        exact e_lv (List.forall_mem_cons.mpr ⟨rfl, List.forall_mem_cons.mpr ⟨rfl, List.forall_mem_cons.mpr ⟨rfl, List.forall_mem_cons.mpr ⟨rfl, List.forall_mem_cons.mpr ⟨rfl, List.forall_mem_cons.mpr ⟨rfl, fun _ h => absurd h List.not_mem_nil⟩⟩⟩⟩⟩⟩) h
  · replace h := h.2 c28
    refine e_iload rfl dX12_orders_139 ?_
    refine e_iconst (v := (-1)) dX12_orders_141 (by decide) ?_
    refine e_ic_eq (tgt := 152) dX12_orders_142 (by decide) (fun c31 => ?_) (fun c31 => ?_)
    · replace h := h.1 c31
      refine e_aload_n dX12_orders_152 rfl rfl ?_
      obtain ⟨o32, h⟩ := h
      refine e_gA flX12_132 rfl rfl o32 dX12_orders_153 ?_
      refine e_iload rfl dX12_orders_156 ?_
      refine e_aload_n dX12_orders_158 rfl rfl ?_
      obtain ⟨o33, h⟩ := h
      refine e_gA flX12_129 rfl rfl o33 dX12_orders_159 ?_
      refine e_iload rfl dX12_orders_162 ?_
      obtain ⟨o34, h⟩ := h
      refine e_iald rfl o34 dX12_orders_164 ?_
      obtain ⟨o35, h⟩ := h
      refine e_iast rfl o35 dX12_orders_165 ?_
      refine e_iinc (v := 1) (lv' := [(7, iV (v7 + 1)), (0, rV (some 60)), (1, iV v1), (2, iV v2), (3, iV v3), (4, iV v4), (5, iV v5), (6, iV v6)]) rfl (by decide) (by decide) rfl dX12_orders_166 ?_
      refine e_goto (tgt := 133) dX12_orders_169 (by decide) ?_
      exact e_lv (List.forall_mem_cons.mpr ⟨rfl, List.forall_mem_cons.mpr ⟨rfl, List.forall_mem_cons.mpr ⟨rfl, List.forall_mem_cons.mpr ⟨rfl, List.forall_mem_cons.mpr ⟨rfl, List.forall_mem_cons.mpr ⟨rfl, List.forall_mem_cons.mpr ⟨rfl, List.forall_mem_cons.mpr ⟨rfl, fun _ h => absurd h List.not_mem_nil⟩⟩⟩⟩⟩⟩⟩⟩) h
    · replace h := h.2 c31
      refine e_iload rfl dX12_orders_145 ?_
      refine e_iload rfl dX12_orders_147 ?_
      refine e_ic_ge (tgt := 172) dX12_orders_149 (by decide) (fun c36 => ?_) (fun c36 => ?_)
      · replace h := h.1 c36
        refine e_iload rfl dX12_orders_172 ?_
        refine e_iconst (v := (-1)) dX12_orders_174 (by decide) ?_
        refine e_ic_eq (tgt := 185) dX12_orders_175 (by decide) (fun c37 => ?_) (fun c37 => ?_)
        · replace h := h.1 c37
          refine e_iload rfl dX12_orders_185 ?_
          refine e_goto (tgt := 192) dX12_orders_187 (by decide) ?_
          refine e_istore (lv' := [(4, iV v6), (0, rV (some 60)), (1, iV v1), (2, iV v2), (3, iV v3), (5, iV v5), (6, iV v6), (7, iV v7)]) (by decide) rfl dX12_orders_192 ?_
          refine e_iinc (v := 1) (lv' := [(5, iV (v5 + 1)), (4, iV v6), (0, rV (some 60)), (1, iV v1), (2, iV v2), (3, iV v3), (6, iV v6), (7, iV v7)]) rfl (by decide) (by decide) rfl dX12_orders_194 ?_
          refine e_goto (tgt := 106) dX12_orders_197 (by decide) ?_
          exact e_lv (List.forall_mem_cons.mpr ⟨rfl, List.forall_mem_cons.mpr ⟨rfl, List.forall_mem_cons.mpr ⟨rfl, List.forall_mem_cons.mpr ⟨rfl, List.forall_mem_cons.mpr ⟨rfl, List.forall_mem_cons.mpr ⟨rfl, fun _ h => absurd h List.not_mem_nil⟩⟩⟩⟩⟩⟩) h
        · replace h := h.2 c37
          refine e_iload rfl dX12_orders_178 ?_
          refine e_iload rfl dX12_orders_180 ?_
          refine e_ic_ge (tgt := 190) dX12_orders_182 (by decide) (fun c38 => ?_) (fun c38 => ?_)
          · replace h := h.1 c38
            refine e_iload rfl dX12_orders_190 ?_
            refine e_istore (lv' := [(4, iV v4), (0, rV (some 60)), (1, iV v1), (2, iV v2), (3, iV v3), (5, iV v5), (6, iV v6), (7, iV v7)]) (by decide) rfl dX12_orders_192 ?_
            refine e_iinc (v := 1) (lv' := [(5, iV (v5 + 1)), (4, iV v4), (0, rV (some 60)), (1, iV v1), (2, iV v2), (3, iV v3), (6, iV v6), (7, iV v7)]) rfl (by decide) (by decide) rfl dX12_orders_194 ?_
            refine e_goto (tgt := 106) dX12_orders_197 (by decide) ?_
            exact e_lv (List.forall_mem_cons.mpr ⟨rfl, List.forall_mem_cons.mpr ⟨rfl, List.forall_mem_cons.mpr ⟨rfl, List.forall_mem_cons.mpr ⟨rfl, List.forall_mem_cons.mpr ⟨rfl, List.forall_mem_cons.mpr ⟨rfl, fun _ h => absurd h List.not_mem_nil⟩⟩⟩⟩⟩⟩) h
          · replace h := h.2 c38
            refine e_iload rfl dX12_orders_185 ?_
            refine e_goto (tgt := 192) dX12_orders_187 (by decide) ?_
            refine e_istore (lv' := [(4, iV v6), (0, rV (some 60)), (1, iV v1), (2, iV v2), (3, iV v3), (5, iV v5), (6, iV v6), (7, iV v7)]) (by decide) rfl dX12_orders_192 ?_
            refine e_iinc (v := 1) (lv' := [(5, iV (v5 + 1)), (4, iV v6), (0, rV (some 60)), (1, iV v1), (2, iV v2), (3, iV v3), (6, iV v6), (7, iV v7)]) rfl (by decide) (by decide) rfl dX12_orders_194 ?_
            refine e_goto (tgt := 106) dX12_orders_197 (by decide) ?_
            exact e_lv (List.forall_mem_cons.mpr ⟨rfl, List.forall_mem_cons.mpr ⟨rfl, List.forall_mem_cons.mpr ⟨rfl, List.forall_mem_cons.mpr ⟨rfl, List.forall_mem_cons.mpr ⟨rfl, List.forall_mem_cons.mpr ⟨rfl, fun _ h => absurd h List.not_mem_nil⟩⟩⟩⟩⟩⟩) h
      · replace h := h.2 c36
        refine e_aload_n dX12_orders_152 rfl rfl ?_
        obtain ⟨o39, h⟩ := h
        refine e_gA flX12_132 rfl rfl o39 dX12_orders_153 ?_
        refine e_iload rfl dX12_orders_156 ?_
        refine e_aload_n dX12_orders_158 rfl rfl ?_
        obtain ⟨o40, h⟩ := h
        refine e_gA flX12_129 rfl rfl o40 dX12_orders_159 ?_
        refine e_iload rfl dX12_orders_162 ?_
        obtain ⟨o41, h⟩ := h
        refine e_iald rfl o41 dX12_orders_164 ?_
        obtain ⟨o42, h⟩ := h
        refine e_iast rfl o42 dX12_orders_165 ?_
        refine e_iinc (v := 1) (lv' := [(7, iV (v7 + 1)), (0, rV (some 60)), (1, iV v1), (2, iV v2), (3, iV v3), (4, iV v4), (5, iV v5), (6, iV v6)]) rfl (by decide) (by decide) rfl dX12_orders_166 ?_
        refine e_goto (tgt := 133) dX12_orders_169 (by decide) ?_
        exact e_lv (List.forall_mem_cons.mpr ⟨rfl, List.forall_mem_cons.mpr ⟨rfl, List.forall_mem_cons.mpr ⟨rfl, List.forall_mem_cons.mpr ⟨rfl, List.forall_mem_cons.mpr ⟨rfl, List.forall_mem_cons.mpr ⟨rfl, List.forall_mem_cons.mpr ⟨rfl, List.forall_mem_cons.mpr ⟨rfl, fun _ h => absurd h List.not_mem_nil⟩⟩⟩⟩⟩⟩⟩⟩) h
abbrev H_X12_programme_13 (l : Launch) (q : Int32 → o_M → Prop) (v1 : Int32) (v2 : Int32) (v3 : Int32) (v4 : Int32) (M : o_M) : Prop := E_X12_programme l q 13 [(0, rV (some 60)), (1, iV v1), (2, iV v2), (3, iV v3), (4, iV v4)] [] M 0 0
abbrev H_X12_programme_37 (l : Launch) (q : Int32 → o_M → Prop) (v1 : Int32) (v2 : Int32) (v3 : Int32) (v4 : Int32) (M : o_M) : Prop := E_X12_programme l q 37 [(0, rV (some 60)), (1, iV v1), (2, iV v2), (3, iV v3), (4, iV v4)] [] M 0 0
abbrev H_X12_programme_88 (l : Launch) (q : Int32 → o_M → Prop) (v1 : Int32) (v2 : Int32) (v3 : Int32) (v4 : Int32) (v5 : Int32) (M : o_M) : Prop := E_X12_programme l q 88 [(0, rV (some 60)), (1, iV v1), (2, iV v2), (3, iV v3), (4, iV v4), (5, iV v5)] [] M 0 0
theorem w_X12_programme (l : Launch) (p1 : Int32) (p2 : Int32) (p3 : Int32) (M : o_M) (q : Int32 → o_M → Prop) (h : K_X12_isDay l [iV p1] M (fun r2 M1 => ((¬ r2 = 0 → H_X12_programme_13 l q p1 p2 p3 0 M1) ∧ (r2 = 0 → q (-2) M1)))) : K_X12_programme l [rV (some 60), iV p1, iV p2, iV p3] M q := by
  refine o_ctr (ini := false) (by decide +kernel) rfl (fun z => by cases z) (Nat.le_of_ble_eq_true rfl) ?_
  show E_X12_programme l q 0 [(0, rV (some 60)), (1, iV p1), (2, iV p2), (3, iV p3)] [] M 0 0
  refine e_iload_n dX12_programme_0 rfl rfl ?_
  refine e_callS (As := [iV p1]) (st := []) mt_X12_isDay is_X12_isDay lkX12_169 ⟨by decide, by decide⟩ (Nat.le_of_ble_eq_true rfl) ⟨by decide, by decide⟩ rfl rfl dX12_programme_1 (Ctr.mono h (fun v M1 h => ?_))
  obtain ⟨r2, rfl, h⟩ := h
  show E_X12_programme l q 4 [(0, rV (some 60)), (1, iV p1), (2, iV p2), (3, iV p3)] [iV r2] M1 0 0
  refine e_if_ne (tgt := 10) dX12_programme_4 (by decide) (fun c3 => ?_) (fun c3 => ?_)
  · replace h := h.1 c3
    refine e_iconst (v := 0) dX12_programme_10 (by decide) ?_
    refine e_istore (lv' := [(4, iV 0), (0, rV (some 60)), (1, iV p1), (2, iV p2), (3, iV p3)]) (by decide) rfl dX12_programme_11 ?_
    exact e_lv (List.forall_mem_cons.mpr ⟨rfl, List.forall_mem_cons.mpr ⟨rfl, List.forall_mem_cons.mpr ⟨rfl, List.forall_mem_cons.mpr ⟨rfl, List.forall_mem_cons.mpr ⟨rfl, fun _ h => absurd h List.not_mem_nil⟩⟩⟩⟩⟩) h
  · replace h := h.2 c3
    refine e_bipush (v := (-2)) dX12_programme_7 (by decide) ?_
    exact e_iret rfl trivial dX12_programme_9 ⟨_, rfl, h⟩
theorem w_X12_programme_13 (l : Launch) (q : Int32 → o_M → Prop) (v1 : Int32) (v2 : Int32) (v3 : Int32) (v4 : Int32) (M : o_M) (h : ((6 ≤ v4 → H_X12_programme_37 l q v1 v2 v3 0 M) ∧ (¬ 6 ≤ v4 → (mR M 60 57 = some 118 ∧ (vp_in v4 (mN M 118) ∧ H_X12_programme_13 l q v1 v2 v3 (v4 + 1) (sI M 118 v4.toNatClampNeg 0)))))) : H_X12_programme_13 l q v1 v2 v3 v4 M := by
  refine e_iload rfl dX12_programme_13 ?_
  refine e_bipush (v := 6) dX12_programme_15 (by decide) ?_
  refine e_ic_ge (tgt := 34) dX12_programme_17 (by decide) (fun c4 => ?_) (fun c4 => ?_)
  · replace h := h.1 c4
    refine e_iconst (v := 0) dX12_programme_34 (by decide) ?_
    refine e_istore (lv' := [(4, iV 0), (0, rV (some 60)), (1, iV v1), (2, iV v2), (3, iV v3)]) (by decide) rfl dX12_programme_35 ?_
    exact e_lv (List.forall_mem_cons.mpr ⟨rfl, List.forall_mem_cons.mpr ⟨rfl, List.forall_mem_cons.mpr ⟨rfl, List.forall_mem_cons.mpr ⟨rfl, List.forall_mem_cons.mpr ⟨rfl, fun _ h => absurd h List.not_mem_nil⟩⟩⟩⟩⟩) h
  · replace h := h.2 c4
    refine e_aload_n dX12_programme_20 rfl rfl ?_
    obtain ⟨o5, h⟩ := h
    refine e_gA flX12_138 rfl rfl o5 dX12_programme_21 ?_
    refine e_iload rfl dX12_programme_24 ?_
    refine e_iconst (v := 0) dX12_programme_26 (by decide) ?_
    obtain ⟨o6, h⟩ := h
    refine e_iast rfl o6 dX12_programme_27 ?_
    refine e_iinc (v := 1) (lv' := [(4, iV (v4 + 1)), (0, rV (some 60)), (1, iV v1), (2, iV v2), (3, iV v3)]) rfl (by decide) (by decide) rfl dX12_programme_28 ?_
    refine e_goto (tgt := 13) dX12_programme_31 (by decide) ?_
    exact e_lv (List.forall_mem_cons.mpr ⟨rfl, List.forall_mem_cons.mpr ⟨rfl, List.forall_mem_cons.mpr ⟨rfl, List.forall_mem_cons.mpr ⟨rfl, List.forall_mem_cons.mpr ⟨rfl, fun _ h => absurd h List.not_mem_nil⟩⟩⟩⟩⟩) h
theorem w_X12_programme_37 (l : Launch) (q : Int32 → o_M → Prop) (v1 : Int32) (v2 : Int32) (v3 : Int32) (v4 : Int32) (M : o_M) (h : (((mI M 60 7) ≤ v4 → H_X12_programme_88 l q v1 v2 v3 (-1) 0 M) ∧ (¬ (mI M 60 7) ≤ v4 → (mR M 60 57 = some 118 ∧ (mR M 60 8 = some 69 ∧ (vp_in v4 (mN M 69) ∧ (vp_in (mI M 69 v4.toNatClampNeg) (mN M 118) ∧ K_X12_isAway l [rV (some 60), iV v4, iV v1] M (fun r13 M12 => ((r13 = 0 → (vp_in (mI M 69 v4.toNatClampNeg) (mN M12 118) ∧ H_X12_programme_37 l q v1 v2 v3 (v4 + 1) (sI M12 118 ((mI M 69 v4.toNatClampNeg).toNatClampNeg) ((mI M 118 (mI M 69 v4.toNatClampNeg).toNatClampNeg) + 1)))) ∧ (¬ r13 = 0 → (vp_in (mI M 69 v4.toNatClampNeg) (mN M12 118) ∧ H_X12_programme_37 l q v1 v2 v3 (v4 + 1) (sI M12 118 ((mI M 69 v4.toNatClampNeg).toNatClampNeg) ((mI M 118 (mI M 69 v4.toNatClampNeg).toNatClampNeg) + 0))))))))))))) : H_X12_programme_37 l q v1 v2 v3 v4 M := by
  refine e_iload rfl dX12_programme_37 ?_
  refine e_aload_n dX12_programme_39 rfl rfl ?_
  refine e_gI flX12_159 rfl rfl dX12_programme_40 ?_
  refine e_ic_ge (tgt := 82) dX12_programme_43 (by decide) (fun c7 => ?_) (fun c7 => ?_)
  · replace h := h.1 c7
    refine e_iconst (v := (-1)) dX12_programme_82 (by decide) ?_
    refine e_istore (lv' := [(4, iV (-1)), (0, rV (some 60)), (1, iV v1), (2, iV v2), (3, iV v3)]) (by decide) rfl dX12_programme_83 ?_
    refine e_iconst (v := 0) dX12_programme_85 (by decide) ?_
    refine e_istore (lv' := [(5, iV 0), (4, iV (-1)), (0, rV (some 60)), (1, iV v1), (2, iV v2), (3, iV v3)]) (by decide) rfl dX12_programme_86 ?_
    exact e_lv (List.forall_mem_cons.mpr ⟨rfl, List.forall_mem_cons.mpr ⟨rfl, List.forall_mem_cons.mpr ⟨rfl, List.forall_mem_cons.mpr ⟨rfl, List.forall_mem_cons.mpr ⟨rfl, List.forall_mem_cons.mpr ⟨rfl, fun _ h => absurd h List.not_mem_nil⟩⟩⟩⟩⟩⟩) h
  · replace h := h.2 c7
    refine e_aload_n dX12_programme_46 rfl rfl ?_
    obtain ⟨o8, h⟩ := h
    refine e_gA flX12_138 rfl rfl o8 dX12_programme_47 ?_
    refine e_aload_n dX12_programme_50 rfl rfl ?_
    obtain ⟨o9, h⟩ := h
    refine e_gA flX12_28 rfl rfl o9 dX12_programme_51 ?_
    refine e_iload rfl dX12_programme_54 ?_
    obtain ⟨o10, h⟩ := h
    refine e_iald rfl o10 dX12_programme_56 ?_
    refine e_dup2 rfl rfl dX12_programme_57 ?_
    obtain ⟨o11, h⟩ := h
    refine e_iald rfl o11 dX12_programme_58 ?_
    refine e_aload_n dX12_programme_59 rfl rfl ?_
    refine e_iload rfl dX12_programme_60 ?_
    refine e_iload_n dX12_programme_62 rfl rfl ?_
    refine e_callV (As := [iV v4, iV v1]) (st := [iV (mI M 118 (mI M 69 v4.toNatClampNeg).toNatClampNeg), iV (mI M 69 v4.toNatClampNeg), rV (some 118)]) mt_X12_isAway in_X12_isAway lkX12_309 rfl rfl ⟨by decide, by decide⟩ (Nat.le_of_ble_eq_true rfl) ⟨by decide, by decide⟩ rfl rfl dX12_programme_63 (Ctr.mono h (fun v M12 h => ?_))
    obtain ⟨r13, rfl, h⟩ := h
    show E_X12_programme l q 66 [(0, rV (some 60)), (1, iV v1), (2, iV v2), (3, iV v3), (4, iV v4)] [iV r13, iV (mI M 118 (mI M 69 v4.toNatClampNeg).toNatClampNeg), iV (mI M 69 v4.toNatClampNeg), rV (some 118)] M12 0 0
    refine e_if_eq (tgt := 73) dX12_programme_66 (by decide) (fun c14 => ?_) (fun c14 => ?_)
    · replace h := h.1 c14
      refine e_iconst (v := 1) dX12_programme_73 (by decide) ?_
      refine e_iadd dX12_programme_74 ?_
      obtain ⟨o15, h⟩ := h
      refine e_iast rfl o15 dX12_programme_75 ?_
      refine e_iinc (v := 1) (lv' := [(4, iV (v4 + 1)), (0, rV (some 60)), (1, iV v1), (2, iV v2), (3, iV v3)]) rfl (by decide) (by decide) rfl dX12_programme_76 ?_
      refine e_goto (tgt := 37) dX12_programme_79 (by decide) ?_
      exact e_lv (List.forall_mem_cons.mpr ⟨rfl, List.forall_mem_cons.mpr ⟨rfl, List.forall_mem_cons.mpr ⟨rfl, List.forall_mem_cons.mpr ⟨rfl, List.forall_mem_cons.mpr ⟨rfl, fun _ h => absurd h List.not_mem_nil⟩⟩⟩⟩⟩) h
    · replace h := h.2 c14
      refine e_iconst (v := 0) dX12_programme_69 (by decide) ?_
      refine e_goto (tgt := 74) dX12_programme_70 (by decide) ?_
      refine e_iadd dX12_programme_74 ?_
      obtain ⟨o16, h⟩ := h
      refine e_iast rfl o16 dX12_programme_75 ?_
      refine e_iinc (v := 1) (lv' := [(4, iV (v4 + 1)), (0, rV (some 60)), (1, iV v1), (2, iV v2), (3, iV v3)]) rfl (by decide) (by decide) rfl dX12_programme_76 ?_
      refine e_goto (tgt := 37) dX12_programme_79 (by decide) ?_
      exact e_lv (List.forall_mem_cons.mpr ⟨rfl, List.forall_mem_cons.mpr ⟨rfl, List.forall_mem_cons.mpr ⟨rfl, List.forall_mem_cons.mpr ⟨rfl, List.forall_mem_cons.mpr ⟨rfl, fun _ h => absurd h List.not_mem_nil⟩⟩⟩⟩⟩) h
theorem w_X12_programme_88 (l : Launch) (q : Int32 → o_M → Prop) (v1 : Int32) (v2 : Int32) (v3 : Int32) (v4 : Int32) (v5 : Int32) (M : o_M) (h : ((((1 : Int32) <<< ((mI M 60 0) &&& 31)) ≤ v5 → q v4 M) ∧ (¬ ((1 : Int32) <<< ((mI M 60 0) &&& 31)) ≤ v5 → K_X12_isProgramme l [rV (some 60), iV v5, iV v1, iV v2, iV v3] M (fun r19 M18 => ((r19 = 0 → H_X12_programme_88 l q v1 v2 v3 v4 (v5 + 1) M18) ∧ (¬ r19 = 0 → ((v4 = (-1) → H_X12_programme_88 l q v1 v2 v3 v5 (v5 + 1) M18) ∧ (¬ v4 = (-1) → K_X12_isBefore l [rV (some 60), iV v5, iV v4] M18 (fun r23 M22 => ((r23 = 0 → H_X12_programme_88 l q v1 v2 v3 v4 (v5 + 1) M22) ∧ (¬ r23 = 0 → H_X12_programme_88 l q v1 v2 v3 v5 (v5 + 1) M22))))))))))) : H_X12_programme_88 l q v1 v2 v3 v4 v5 M := by
  refine e_iload rfl dX12_programme_88 ?_
  refine e_iconst (v := 1) dX12_programme_90 (by decide) ?_
  refine e_aload_n dX12_programme_91 rfl rfl ?_
  refine e_gI flX12_152 rfl rfl dX12_programme_92 ?_
  refine e_ishl dX12_programme_95 ?_
  refine e_ic_ge (tgt := 138) dX12_programme_96 (by decide) (fun c17 => ?_) (fun c17 => ?_)
  · replace h := h.1 c17
    refine e_iload rfl dX12_programme_138 ?_
    exact e_iret rfl trivial dX12_programme_140 ⟨_, rfl, h⟩
  · replace h := h.2 c17
    refine e_aload_n dX12_programme_99 rfl rfl ?_
    refine e_iload rfl dX12_programme_100 ?_
    refine e_iload_n dX12_programme_102 rfl rfl ?_
    refine e_iload_n dX12_programme_103 rfl rfl ?_
    refine e_iload_n dX12_programme_104 rfl rfl ?_
    refine e_callV (As := [iV v5, iV v1, iV v2, iV v3]) (st := []) mt_X12_isProgramme in_X12_isProgramme lkX12_347 rfl rfl ⟨by decide, by decide⟩ (Nat.le_of_ble_eq_true rfl) ⟨by decide, by decide⟩ rfl rfl dX12_programme_105 (Ctr.mono h (fun v M18 h => ?_))
    obtain ⟨r19, rfl, h⟩ := h
    show E_X12_programme l q 108 [(0, rV (some 60)), (1, iV v1), (2, iV v2), (3, iV v3), (4, iV v4), (5, iV v5)] [iV r19] M18 0 0
    refine e_if_eq (tgt := 132) dX12_programme_108 (by decide) (fun c20 => ?_) (fun c20 => ?_)
    · replace h := h.1 c20
      refine e_iinc (v := 1) (lv' := [(5, iV (v5 + 1)), (0, rV (some 60)), (1, iV v1), (2, iV v2), (3, iV v3), (4, iV v4)]) rfl (by decide) (by decide) rfl dX12_programme_132 ?_
      refine e_goto (tgt := 88) dX12_programme_135 (by decide) ?_
      exact e_lv (List.forall_mem_cons.mpr ⟨rfl, List.forall_mem_cons.mpr ⟨rfl, List.forall_mem_cons.mpr ⟨rfl, List.forall_mem_cons.mpr ⟨rfl, List.forall_mem_cons.mpr ⟨rfl, List.forall_mem_cons.mpr ⟨rfl, fun _ h => absurd h List.not_mem_nil⟩⟩⟩⟩⟩⟩) h
    · replace h := h.2 c20
      refine e_iload rfl dX12_programme_111 ?_
      refine e_iconst (v := (-1)) dX12_programme_113 (by decide) ?_
      refine e_ic_eq (tgt := 128) dX12_programme_114 (by decide) (fun c21 => ?_) (fun c21 => ?_)
      · replace h := h.1 c21
        refine e_iload rfl dX12_programme_128 ?_
        refine e_istore (lv' := [(4, iV v5), (0, rV (some 60)), (1, iV v1), (2, iV v2), (3, iV v3), (5, iV v5)]) (by decide) rfl dX12_programme_130 ?_
        refine e_iinc (v := 1) (lv' := [(5, iV (v5 + 1)), (4, iV v5), (0, rV (some 60)), (1, iV v1), (2, iV v2), (3, iV v3)]) rfl (by decide) (by decide) rfl dX12_programme_132 ?_
        refine e_goto (tgt := 88) dX12_programme_135 (by decide) ?_
        exact e_lv (List.forall_mem_cons.mpr ⟨rfl, List.forall_mem_cons.mpr ⟨rfl, List.forall_mem_cons.mpr ⟨rfl, List.forall_mem_cons.mpr ⟨rfl, List.forall_mem_cons.mpr ⟨rfl, List.forall_mem_cons.mpr ⟨rfl, fun _ h => absurd h List.not_mem_nil⟩⟩⟩⟩⟩⟩) h
      · replace h := h.2 c21
        refine e_aload_n dX12_programme_117 rfl rfl ?_
        refine e_iload rfl dX12_programme_118 ?_
        refine e_iload rfl dX12_programme_120 ?_
        refine e_callV (As := [iV v5, iV v4]) (st := []) mt_X12_isBefore in_X12_isBefore lkX12_351 rfl rfl ⟨by decide, by decide⟩ (Nat.le_of_ble_eq_true rfl) ⟨by decide, by decide⟩ rfl rfl dX12_programme_122 (Ctr.mono h (fun v M22 h => ?_))
        obtain ⟨r23, rfl, h⟩ := h
        show E_X12_programme l q 125 [(0, rV (some 60)), (1, iV v1), (2, iV v2), (3, iV v3), (4, iV v4), (5, iV v5)] [iV r23] M22 0 0
        refine e_if_eq (tgt := 132) dX12_programme_125 (by decide) (fun c24 => ?_) (fun c24 => ?_)
        · replace h := h.1 c24
          refine e_iinc (v := 1) (lv' := [(5, iV (v5 + 1)), (0, rV (some 60)), (1, iV v1), (2, iV v2), (3, iV v3), (4, iV v4)]) rfl (by decide) (by decide) rfl dX12_programme_132 ?_
          refine e_goto (tgt := 88) dX12_programme_135 (by decide) ?_
          exact e_lv (List.forall_mem_cons.mpr ⟨rfl, List.forall_mem_cons.mpr ⟨rfl, List.forall_mem_cons.mpr ⟨rfl, List.forall_mem_cons.mpr ⟨rfl, List.forall_mem_cons.mpr ⟨rfl, List.forall_mem_cons.mpr ⟨rfl, fun _ h => absurd h List.not_mem_nil⟩⟩⟩⟩⟩⟩) h
        · replace h := h.2 c24
          refine e_iload rfl dX12_programme_128 ?_
          refine e_istore (lv' := [(4, iV v5), (0, rV (some 60)), (1, iV v1), (2, iV v2), (3, iV v3), (5, iV v5)]) (by decide) rfl dX12_programme_130 ?_
          refine e_iinc (v := 1) (lv' := [(5, iV (v5 + 1)), (4, iV v5), (0, rV (some 60)), (1, iV v1), (2, iV v2), (3, iV v3)]) rfl (by decide) (by decide) rfl dX12_programme_132 ?_
          refine e_goto (tgt := 88) dX12_programme_135 (by decide) ?_
          exact e_lv (List.forall_mem_cons.mpr ⟨rfl, List.forall_mem_cons.mpr ⟨rfl, List.forall_mem_cons.mpr ⟨rfl, List.forall_mem_cons.mpr ⟨rfl, List.forall_mem_cons.mpr ⟨rfl, List.forall_mem_cons.mpr ⟨rfl, fun _ h => absurd h List.not_mem_nil⟩⟩⟩⟩⟩⟩) h
abbrev H_X12_count_71 (l : Launch) (q : Int32 → o_M → Prop) (v1 : Int32) (v2 : Int32) (v3 : Int32) (M : o_M) : Prop := E_X12_count l q 71 [(0, rV (some 60)), (1, iV v1), (2, iV v2), (3, iV v3)] [] M 0 0
theorem w_X12_count (l : Launch) (p1 : Int32) (M : o_M) (q : Int32 → o_M → Prop) (h : (((p1 < 0 ∨ 6 < p1) → q (-2) M) ∧ (p1 = 0 → q (mI M 60 0) M) ∧ (p1 = 1 → q (mI M 60 7) M) ∧ (p1 = 2 → q (mI M 60 14) M) ∧ (p1 = 3 → q (mI M 60 25) M) ∧ (p1 = 4 → q (mI M 60 24) M) ∧ (p1 = 5 → H_X12_count_71 l q p1 0 0 M) ∧ (p1 = 6 → H_X12_count_71 l q p1 0 0 M))) : K_X12_count l [rV (some 60), iV p1] M q := by
  refine o_ctr (ini := false) (by decide +kernel) rfl (fun z => by cases z) (Nat.le_of_ble_eq_true rfl) ?_
  show E_X12_count l q 0 [(0, rV (some 60)), (1, iV p1)] [] M 0 0
  refine e_iconst (v := 0) dX12_count_0 (by decide) ?_
  refine e_istore_n (lv' := [(2, iV 0), (0, rV (some 60)), (1, iV p1)]) dX12_count_1 rfl (by decide) rfl ?_
  refine e_iload_n dX12_count_2 rfl rfl ?_
  rcases o_tab p1 0 6 (a := 0) (b := 6) (by decide) (by decide) with c1 | c1
  · replace h := h.1 c1
    refine e_tabOut (tgt := 117) dX12_count_3 (o_tabo (by decide) (by decide) c1) (by decide) ?_
    refine e_bipush (v := (-2)) dX12_count_117 (by decide) ?_
    exact e_iret rfl trivial dX12_count_119 ⟨_, rfl, h⟩
  · have h0 := h.2
    have e1 : p1.toInt = 0 ∨ p1.toInt = 1 ∨ p1.toInt = 2 ∨ p1.toInt = 3 ∨ p1.toInt = 4 ∨ p1.toInt = 5 ∨ p1.toInt = 6 := by omega
    clear h; rcases e1 with e1 | e1 | e1 | e1 | e1 | e1 | e1
    · have h := h0.1 (Int32.toInt_inj.mp e1)
      refine e_tabIn (tgt := 44) (off := 41) dX12_count_3 (by rw [e1]; decide) (by rw [e1]; decide) (by rw [e1]; rfl) (by decide) ?_
      refine e_aload_n dX12_count_44 rfl rfl ?_
      refine e_gI flX12_152 rfl rfl dX12_count_45 ?_
      exact e_iret rfl trivial dX12_count_48 ⟨_, rfl, h⟩
    · have h := h0.2.1 (Int32.toInt_inj.mp e1)
      refine e_tabIn (tgt := 49) (off := 46) dX12_count_3 (by rw [e1]; decide) (by rw [e1]; decide) (by rw [e1]; rfl) (by decide) ?_
      refine e_aload_n dX12_count_49 rfl rfl ?_
      refine e_gI flX12_159 rfl rfl dX12_count_50 ?_
      exact e_iret rfl trivial dX12_count_53 ⟨_, rfl, h⟩
    · have h := h0.2.2.1 (Int32.toInt_inj.mp e1)
      refine e_tabIn (tgt := 54) (off := 51) dX12_count_3 (by rw [e1]; decide) (by rw [e1]; decide) (by rw [e1]; rfl) (by decide) ?_
      refine e_aload_n dX12_count_54 rfl rfl ?_
      refine e_gI flX12_162 rfl rfl dX12_count_55 ?_
      exact e_iret rfl trivial dX12_count_58 ⟨_, rfl, h⟩
    · have h := h0.2.2.2.1 (Int32.toInt_inj.mp e1)
      refine e_tabIn (tgt := 59) (off := 56) dX12_count_3 (by rw [e1]; decide) (by rw [e1]; decide) (by rw [e1]; rfl) (by decide) ?_
      refine e_aload_n dX12_count_59 rfl rfl ?_
      refine e_gI flX12_145 rfl rfl dX12_count_60 ?_
      exact e_iret rfl trivial dX12_count_63 ⟨_, rfl, h⟩
    · have h := h0.2.2.2.2.1 (Int32.toInt_inj.mp e1)
      refine e_tabIn (tgt := 64) (off := 61) dX12_count_3 (by rw [e1]; decide) (by rw [e1]; decide) (by rw [e1]; rfl) (by decide) ?_
      refine e_aload_n dX12_count_64 rfl rfl ?_
      refine e_gI flX12_301 rfl rfl dX12_count_65 ?_
      exact e_iret rfl trivial dX12_count_68 ⟨_, rfl, h⟩
    · have h := h0.2.2.2.2.2.1 (Int32.toInt_inj.mp e1)
      refine e_tabIn (tgt := 69) (off := 66) dX12_count_3 (by rw [e1]; decide) (by rw [e1]; decide) (by rw [e1]; rfl) (by decide) ?_
      refine e_iconst (v := 0) dX12_count_69 (by decide) ?_
      refine e_istore_n (lv' := [(3, iV 0), (2, iV 0), (0, rV (some 60)), (1, iV p1)]) dX12_count_70 rfl (by decide) rfl ?_
      exact e_lv (List.forall_mem_cons.mpr ⟨rfl, List.forall_mem_cons.mpr ⟨rfl, List.forall_mem_cons.mpr ⟨rfl, List.forall_mem_cons.mpr ⟨rfl, fun _ h => absurd h List.not_mem_nil⟩⟩⟩⟩) h
    · have h := h0.2.2.2.2.2.2 (Int32.toInt_inj.mp e1)
      refine e_tabIn (tgt := 69) (off := 66) dX12_count_3 (by rw [e1]; decide) (by rw [e1]; decide) (by rw [e1]; rfl) (by decide) ?_
      refine e_iconst (v := 0) dX12_count_69 (by decide) ?_
      refine e_istore_n (lv' := [(3, iV 0), (2, iV 0), (0, rV (some 60)), (1, iV p1)]) dX12_count_70 rfl (by decide) rfl ?_
      exact e_lv (List.forall_mem_cons.mpr ⟨rfl, List.forall_mem_cons.mpr ⟨rfl, List.forall_mem_cons.mpr ⟨rfl, List.forall_mem_cons.mpr ⟨rfl, fun _ h => absurd h List.not_mem_nil⟩⟩⟩⟩) h
theorem w_X12_count_71 (l : Launch) (q : Int32 → o_M → Prop) (v1 : Int32) (v2 : Int32) (v3 : Int32) (M : o_M) (h : (((mI M 60 14) ≤ v3 → q v2 M) ∧ (¬ (mI M 60 14) ≤ v3 → (mR M 60 22 = some 83 ∧ (vp_in v3 (mN M 83) ∧ ((¬ (mI M 83 v3.toNatClampNeg) = 0 → ((¬ v1 = 5 → K_X12_gapsIn l [rV (some 60), iV v3] M (fun r8 M7 => H_X12_count_71 l q v1 (v2 + r8) (v3 + 1) M7)) ∧ (v1 = 5 → H_X12_count_71 l q v1 (v2 + 1) (v3 + 1) M))) ∧ ((mI M 83 v3.toNatClampNeg) = 0 → H_X12_count_71 l q v1 (v2 + 0) (v3 + 1) M))))))) : H_X12_count_71 l q v1 v2 v3 M := by
  refine e_iload_n dX12_count_71 rfl rfl ?_
  refine e_aload_n dX12_count_72 rfl rfl ?_
  refine e_gI flX12_162 rfl rfl dX12_count_73 ?_
  refine e_ic_ge (tgt := 115) dX12_count_76 (by decide) (fun c2 => ?_) (fun c2 => ?_)
  · replace h := h.1 c2
    refine e_iload_n dX12_count_115 rfl rfl ?_
    exact e_iret rfl trivial dX12_count_116 ⟨_, rfl, h⟩
  · replace h := h.2 c2
    refine e_iload_n dX12_count_79 rfl rfl ?_
    refine e_aload_n dX12_count_80 rfl rfl ?_
    obtain ⟨o3, h⟩ := h
    refine e_gA flX12_67 rfl rfl o3 dX12_count_81 ?_
    refine e_iload_n dX12_count_84 rfl rfl ?_
    obtain ⟨o4, h⟩ := h
    refine e_zald rfl o4 dX12_count_85 ?_
    refine e_if_ne (tgt := 93) dX12_count_86 (by decide) (fun c5 => ?_) (fun c5 => ?_)
    · replace h := h.1 c5
      refine e_iload_n dX12_count_93 rfl rfl ?_
      refine e_iconst (v := 5) dX12_count_94 (by decide) ?_
      refine e_ic_ne (tgt := 102) dX12_count_95 (by decide) (fun c6 => ?_) (fun c6 => ?_)
      · replace h := h.1 c6
        refine e_aload_n dX12_count_102 rfl rfl ?_
        refine e_iload_n dX12_count_103 rfl rfl ?_
        refine e_callV (As := [iV v3]) (st := [iV v2]) mt_X12_gapsIn in_X12_gapsIn lkX12_199 rfl rfl ⟨by decide, by decide⟩ (Nat.le_of_ble_eq_true rfl) ⟨by decide, by decide⟩ rfl rfl dX12_count_104 (Ctr.mono h (fun v M7 h => ?_))
        obtain ⟨r8, rfl, h⟩ := h
        show E_X12_count l q 107 [(0, rV (some 60)), (1, iV v1), (2, iV v2), (3, iV v3)] [iV r8, iV v2] M7 0 0
        refine e_iadd dX12_count_107 ?_
        refine e_istore_n (lv' := [(2, iV (v2 + r8)), (0, rV (some 60)), (1, iV v1), (3, iV v3)]) dX12_count_108 rfl (by decide) rfl ?_
        refine e_iinc (v := 1) (lv' := [(3, iV (v3 + 1)), (2, iV (v2 + r8)), (0, rV (some 60)), (1, iV v1)]) rfl (by decide) (by decide) rfl dX12_count_109 ?_
        refine e_goto (tgt := 71) dX12_count_112 (by decide) ?_
        exact e_lv (List.forall_mem_cons.mpr ⟨rfl, List.forall_mem_cons.mpr ⟨rfl, List.forall_mem_cons.mpr ⟨rfl, List.forall_mem_cons.mpr ⟨rfl, fun _ h => absurd h List.not_mem_nil⟩⟩⟩⟩) h
      · replace h := h.2 c6
        refine e_iconst (v := 1) dX12_count_98 (by decide) ?_
        refine e_goto (tgt := 107) dX12_count_99 (by decide) ?_
        refine e_iadd dX12_count_107 ?_
        refine e_istore_n (lv' := [(2, iV (v2 + 1)), (0, rV (some 60)), (1, iV v1), (3, iV v3)]) dX12_count_108 rfl (by decide) rfl ?_
        refine e_iinc (v := 1) (lv' := [(3, iV (v3 + 1)), (2, iV (v2 + 1)), (0, rV (some 60)), (1, iV v1)]) rfl (by decide) (by decide) rfl dX12_count_109 ?_
        refine e_goto (tgt := 71) dX12_count_112 (by decide) ?_
        exact e_lv (List.forall_mem_cons.mpr ⟨rfl, List.forall_mem_cons.mpr ⟨rfl, List.forall_mem_cons.mpr ⟨rfl, List.forall_mem_cons.mpr ⟨rfl, fun _ h => absurd h List.not_mem_nil⟩⟩⟩⟩) h
    · replace h := h.2 c5
      refine e_iconst (v := 0) dX12_count_89 (by decide) ?_
      refine e_goto (tgt := 107) dX12_count_90 (by decide) ?_
      refine e_iadd dX12_count_107 ?_
      refine e_istore_n (lv' := [(2, iV (v2 + 0)), (0, rV (some 60)), (1, iV v1), (3, iV v3)]) dX12_count_108 rfl (by decide) rfl ?_
      refine e_iinc (v := 1) (lv' := [(3, iV (v3 + 1)), (2, iV (v2 + 0)), (0, rV (some 60)), (1, iV v1)]) rfl (by decide) (by decide) rfl dX12_count_109 ?_
      refine e_goto (tgt := 71) dX12_count_112 (by decide) ?_
      exact e_lv (List.forall_mem_cons.mpr ⟨rfl, List.forall_mem_cons.mpr ⟨rfl, List.forall_mem_cons.mpr ⟨rfl, List.forall_mem_cons.mpr ⟨rfl, fun _ h => absurd h List.not_mem_nil⟩⟩⟩⟩) h
theorem w_X12_order (l : Launch) (p1 : Int32) (p2 : Int32) (M : o_M) (q : Int32 → o_M → Prop) (h : K_X12_isService l [rV (some 60), iV p1] M (fun r2 M1 => ((¬ r2 = 0 → (mR M1 60 19 = some 80 ∧ (vp_in p1 (mN M1 80) ∧ K_X12_in l [iV p2, iV 0, iV ((mI M1 80 p1.toNatClampNeg) - 1)] M1 (fun r7 M6 => ((¬ r7 = 0 → K_X12_orders l [rV (some 60), iV p1] M6 (fun r10 M9 => ((0 ≤ r10 → (mR M9 60 55 = some 116 ∧ (vp_in p2 (mN M9 116) ∧ q (mI M9 116 p2.toNatClampNeg) M9))) ∧ (¬ 0 ≤ r10 → q (-1) M9)))) ∧ (r7 = 0 → q (-1) M6)))))) ∧ (r2 = 0 → q (-2) M1)))) : K_X12_order l [rV (some 60), iV p1, iV p2] M q := by
  refine o_ctr (ini := false) (by decide +kernel) rfl (fun z => by cases z) (Nat.le_of_ble_eq_true rfl) ?_
  show E_X12_order l q 0 [(0, rV (some 60)), (1, iV p1), (2, iV p2)] [] M 0 0
  refine e_aload_n dX12_order_0 rfl rfl ?_
  refine e_iload_n dX12_order_1 rfl rfl ?_
  refine e_callV (As := [iV p1]) (st := []) mt_X12_isService in_X12_isService lkX12_193 rfl rfl ⟨by decide, by decide⟩ (Nat.le_of_ble_eq_true rfl) ⟨by decide, by decide⟩ rfl rfl dX12_order_2 (Ctr.mono h (fun v M1 h => ?_))
  obtain ⟨r2, rfl, h⟩ := h
  show E_X12_order l q 5 [(0, rV (some 60)), (1, iV p1), (2, iV p2)] [iV r2] M1 0 0
  refine e_if_ne (tgt := 11) dX12_order_5 (by decide) (fun c3 => ?_) (fun c3 => ?_)
  · replace h := h.1 c3
    refine e_iload_n dX12_order_11 rfl rfl ?_
    refine e_iconst (v := 0) dX12_order_12 (by decide) ?_
    refine e_aload_n dX12_order_13 rfl rfl ?_
    obtain ⟨o4, h⟩ := h
    refine e_gA flX12_58 rfl rfl o4 dX12_order_14 ?_
    refine e_iload_n dX12_order_17 rfl rfl ?_
    obtain ⟨o5, h⟩ := h
    refine e_iald rfl o5 dX12_order_18 ?_
    refine e_iconst (v := 1) dX12_order_19 (by decide) ?_
    refine e_isub dX12_order_20 ?_
    refine e_callS (As := [iV p2, iV 0, iV ((mI M1 80 p1.toNatClampNeg) - 1)]) (st := []) mt_X12_in is_X12_in lkX12_155 ⟨by decide, by decide⟩ (Nat.le_of_ble_eq_true rfl) ⟨by decide, by decide⟩ rfl rfl dX12_order_21 (Ctr.mono h (fun v M6 h => ?_))
    obtain ⟨r7, rfl, h⟩ := h
    show E_X12_order l q 24 [(0, rV (some 60)), (1, iV p1), (2, iV p2)] [iV r7] M6 0 0
    refine e_if_ne (tgt := 29) dX12_order_24 (by decide) (fun c8 => ?_) (fun c8 => ?_)
    · replace h := h.1 c8
      refine e_aload_n dX12_order_29 rfl rfl ?_
      refine e_iload_n dX12_order_30 rfl rfl ?_
      refine e_callV (As := [iV p1]) (st := []) mt_X12_orders in_X12_orders lkX12_344 rfl rfl ⟨by decide, by decide⟩ (Nat.le_of_ble_eq_true rfl) ⟨by decide, by decide⟩ rfl rfl dX12_order_31 (Ctr.mono h (fun v M9 h => ?_))
      obtain ⟨r10, rfl, h⟩ := h
      show E_X12_order l q 34 [(0, rV (some 60)), (1, iV p1), (2, iV p2)] [iV r10] M9 0 0
      refine e_istore_n (lv' := [(3, iV r10), (0, rV (some 60)), (1, iV p1), (2, iV p2)]) dX12_order_34 rfl (by decide) rfl ?_
      refine e_iload_n dX12_order_35 rfl rfl ?_
      refine e_if_ge (tgt := 43) dX12_order_36 (by decide) (fun c11 => ?_) (fun c11 => ?_)
      · replace h := h.1 c11
        refine e_aload_n dX12_order_43 rfl rfl ?_
        obtain ⟨o12, h⟩ := h
        refine e_gA flX12_132 rfl rfl o12 dX12_order_44 ?_
        refine e_iload_n dX12_order_47 rfl rfl ?_
        obtain ⟨o13, h⟩ := h
        refine e_iald rfl o13 dX12_order_48 ?_
        exact e_iret rfl trivial dX12_order_49 ⟨_, rfl, h⟩
      · replace h := h.2 c11
        refine e_iconst (v := (-1)) dX12_order_39 (by decide) ?_
        refine e_goto (tgt := 49) dX12_order_40 (by decide) ?_
        exact e_iret rfl trivial dX12_order_49 ⟨_, rfl, h⟩
    · replace h := h.2 c8
      refine e_iconst (v := (-1)) dX12_order_27 (by decide) ?_
      exact e_iret rfl trivial dX12_order_28 ⟨_, rfl, h⟩
  · replace h := h.2 c3
    refine e_bipush (v := (-2)) dX12_order_8 (by decide) ?_
    exact e_iret rfl trivial dX12_order_10 ⟨_, rfl, h⟩
theorem w_X12_serviceTold (l : Launch) (p1 : Int32) (p2 : Int32) (M : o_M) (q : Int32 → o_M → Prop) (h : K_X12_isService l [rV (some 60), iV p1] M (fun r2 M1 => ((r2 = 0 → q (-2) M1) ∧ (¬ r2 = 0 → ((0 ≤ p2 → (((p2 < 0 ∨ 7 < p2) → (mR M1 60 19 = some 80 ∧ (vp_in p1 (mN M1 80) ∧ (((mI M1 80 p1.toNatClampNeg) ≤ (p2 - 8) → q (-1) M1) ∧ (¬ (mI M1 80 p1.toNatClampNeg) ≤ (p2 - 8) → (mR M1 60 20 = some 81 ∧ (vp_in (((5 * p1) + p2) - 8) (mN M1 81) ∧ q (mI M1 81 (((5 * p1) + p2) - 8).toNatClampNeg) M1))))))) ∧ (p2 = 0 → (mR M1 60 15 = some 76 ∧ (vp_in p1 (mN M1 76) ∧ q (mI M1 76 p1.toNatClampNeg) M1))) ∧ (p2 = 1 → (mR M1 60 16 = some 77 ∧ (vp_in p1 (mN M1 77) ∧ q (mI M1 77 p1.toNatClampNeg) M1))) ∧ (p2 = 2 → (mR M1 60 17 = some 78 ∧ (vp_in p1 (mN M1 78) ∧ q (mI M1 78 p1.toNatClampNeg) M1))) ∧ (p2 = 3 → (mR M1 60 18 = some 79 ∧ (vp_in p1 (mN M1 79) ∧ q (mI M1 79 p1.toNatClampNeg) M1))) ∧ (p2 = 4 → (mR M1 60 19 = some 80 ∧ (vp_in p1 (mN M1 80) ∧ q (mI M1 80 p1.toNatClampNeg) M1))) ∧ (p2 = 5 → K_X12_chairs l [rV (some 60), iV p1, iV (-1)] M1 (fun r22 M21 => q r22 M21)) ∧ (p2 = 6 → (mR M1 60 22 = some 83 ∧ (vp_in p1 (mN M1 83) ∧ (((mI M1 83 p1.toNatClampNeg) = 0 → q 0 M1) ∧ (¬ (mI M1 83 p1.toNatClampNeg) = 0 → q 1 M1))))) ∧ (p2 = 7 → (mR M1 60 22 = some 83 ∧ (vp_in p1 (mN M1 83) ∧ (((mI M1 83 p1.toNatClampNeg) = 0 → q (-1) M1) ∧ (¬ (mI M1 83 p1.toNatClampNeg) = 0 → K_X12_gapsIn l [rV (some 60), iV p1] M1 (fun r30 M29 => q r30 M29)))))))) ∧ (¬ 0 ≤ p2 → q (-2) M1)))))) : K_X12_serviceTold l [rV (some 60), iV p1, iV p2] M q := by
  refine o_ctr (ini := false) (by decide +kernel) rfl (fun z => by cases z) (Nat.le_of_ble_eq_true rfl) ?_
  show E_X12_serviceTold l q 0 [(0, rV (some 60)), (1, iV p1), (2, iV p2)] [] M 0 0
  refine e_aload_n dX12_serviceTold_0 rfl rfl ?_
  refine e_iload_n dX12_serviceTold_1 rfl rfl ?_
  refine e_callV (As := [iV p1]) (st := []) mt_X12_isService in_X12_isService lkX12_193 rfl rfl ⟨by decide, by decide⟩ (Nat.le_of_ble_eq_true rfl) ⟨by decide, by decide⟩ rfl rfl dX12_serviceTold_2 (Ctr.mono h (fun v M1 h => ?_))
  obtain ⟨r2, rfl, h⟩ := h
  show E_X12_serviceTold l q 5 [(0, rV (some 60)), (1, iV p1), (2, iV p2)] [iV r2] M1 0 0
  refine e_if_eq (tgt := 12) dX12_serviceTold_5 (by decide) (fun c3 => ?_) (fun c3 => ?_)
  · replace h := h.1 c3
    refine e_bipush (v := (-2)) dX12_serviceTold_12 (by decide) ?_
    exact e_iret rfl trivial dX12_serviceTold_14 ⟨_, rfl, h⟩
  · replace h := h.2 c3
    refine e_iload_n dX12_serviceTold_8 rfl rfl ?_
    refine e_if_ge (tgt := 15) dX12_serviceTold_9 (by decide) (fun c4 => ?_) (fun c4 => ?_)
    · replace h := h.1 c4
      refine e_iload_n dX12_serviceTold_15 rfl rfl ?_
      rcases o_tab p2 0 7 (a := 0) (b := 7) (by decide) (by decide) with c5 | c5
      · replace h := h.1 c5
        refine e_tabOut (tgt := 140) dX12_serviceTold_16 (o_tabo (by decide) (by decide) c5) (by decide) ?_
        refine e_iload_n dX12_serviceTold_140 rfl rfl ?_
        refine e_bipush (v := 8) dX12_serviceTold_141 (by decide) ?_
        refine e_isub dX12_serviceTold_143 ?_
        refine e_aload_n dX12_serviceTold_144 rfl rfl ?_
        obtain ⟨o6, h⟩ := h
        refine e_gA flX12_58 rfl rfl o6 dX12_serviceTold_145 ?_
        refine e_iload_n dX12_serviceTold_148 rfl rfl ?_
        obtain ⟨o7, h⟩ := h
        refine e_iald rfl o7 dX12_serviceTold_149 ?_
        refine e_ic_ge (tgt := 169) dX12_serviceTold_150 (by decide) (fun c8 => ?_) (fun c8 => ?_)
        · replace h := h.1 c8
          refine e_iconst (v := (-1)) dX12_serviceTold_169 (by decide) ?_
          exact e_iret rfl trivial dX12_serviceTold_170 ⟨_, rfl, h⟩
        · replace h := h.2 c8
          refine e_aload_n dX12_serviceTold_153 rfl rfl ?_
          obtain ⟨o9, h⟩ := h
          refine e_gA flX12_61 rfl rfl o9 dX12_serviceTold_154 ?_
          refine e_iconst (v := 5) dX12_serviceTold_157 (by decide) ?_
          refine e_iload_n dX12_serviceTold_158 rfl rfl ?_
          refine e_imul dX12_serviceTold_159 ?_
          refine e_iload_n dX12_serviceTold_160 rfl rfl ?_
          refine e_iadd dX12_serviceTold_161 ?_
          refine e_bipush (v := 8) dX12_serviceTold_162 (by decide) ?_
          refine e_isub dX12_serviceTold_164 ?_
          obtain ⟨o10, h⟩ := h
          refine e_iald rfl o10 dX12_serviceTold_165 ?_
          refine e_goto (tgt := 170) dX12_serviceTold_166 (by decide) ?_
          exact e_iret rfl trivial dX12_serviceTold_170 ⟨_, rfl, h⟩
      · have h0 := h.2
        have e1 : p2.toInt = 0 ∨ p2.toInt = 1 ∨ p2.toInt = 2 ∨ p2.toInt = 3 ∨ p2.toInt = 4 ∨ p2.toInt = 5 ∨ p2.toInt = 6 ∨ p2.toInt = 7 := by omega
        clear h; rcases e1 with e1 | e1 | e1 | e1 | e1 | e1 | e1 | e1
        · have h := h0.1 (Int32.toInt_inj.mp e1)
          refine e_tabIn (tgt := 64) (off := 48) dX12_serviceTold_16 (by rw [e1]; decide) (by rw [e1]; decide) (by rw [e1]; rfl) (by decide) ?_
          refine e_aload_n dX12_serviceTold_64 rfl rfl ?_
          obtain ⟨o11, h⟩ := h
          refine e_gA flX12_46 rfl rfl o11 dX12_serviceTold_65 ?_
          refine e_iload_n dX12_serviceTold_68 rfl rfl ?_
          obtain ⟨o12, h⟩ := h
          refine e_iald rfl o12 dX12_serviceTold_69 ?_
          exact e_iret rfl trivial dX12_serviceTold_70 ⟨_, rfl, h⟩
        · have h := h0.2.1 (Int32.toInt_inj.mp e1)
          refine e_tabIn (tgt := 71) (off := 55) dX12_serviceTold_16 (by rw [e1]; decide) (by rw [e1]; decide) (by rw [e1]; rfl) (by decide) ?_
          refine e_aload_n dX12_serviceTold_71 rfl rfl ?_
          obtain ⟨o13, h⟩ := h
          refine e_gA flX12_49 rfl rfl o13 dX12_serviceTold_72 ?_
          refine e_iload_n dX12_serviceTold_75 rfl rfl ?_
          obtain ⟨o14, h⟩ := h
          refine e_iald rfl o14 dX12_serviceTold_76 ?_
          exact e_iret rfl trivial dX12_serviceTold_77 ⟨_, rfl, h⟩
        · have h := h0.2.2.1 (Int32.toInt_inj.mp e1)
          refine e_tabIn (tgt := 78) (off := 62) dX12_serviceTold_16 (by rw [e1]; decide) (by rw [e1]; decide) (by rw [e1]; rfl) (by decide) ?_
          refine e_aload_n dX12_serviceTold_78 rfl rfl ?_
          obtain ⟨o15, h⟩ := h
          refine e_gA flX12_52 rfl rfl o15 dX12_serviceTold_79 ?_
          refine e_iload_n dX12_serviceTold_82 rfl rfl ?_
          obtain ⟨o16, h⟩ := h
          refine e_iald rfl o16 dX12_serviceTold_83 ?_
          exact e_iret rfl trivial dX12_serviceTold_84 ⟨_, rfl, h⟩
        · have h := h0.2.2.2.1 (Int32.toInt_inj.mp e1)
          refine e_tabIn (tgt := 85) (off := 69) dX12_serviceTold_16 (by rw [e1]; decide) (by rw [e1]; decide) (by rw [e1]; rfl) (by decide) ?_
          refine e_aload_n dX12_serviceTold_85 rfl rfl ?_
          obtain ⟨o17, h⟩ := h
          refine e_gA flX12_55 rfl rfl o17 dX12_serviceTold_86 ?_
          refine e_iload_n dX12_serviceTold_89 rfl rfl ?_
          obtain ⟨o18, h⟩ := h
          refine e_iald rfl o18 dX12_serviceTold_90 ?_
          exact e_iret rfl trivial dX12_serviceTold_91 ⟨_, rfl, h⟩
        · have h := h0.2.2.2.2.1 (Int32.toInt_inj.mp e1)
          refine e_tabIn (tgt := 92) (off := 76) dX12_serviceTold_16 (by rw [e1]; decide) (by rw [e1]; decide) (by rw [e1]; rfl) (by decide) ?_
          refine e_aload_n dX12_serviceTold_92 rfl rfl ?_
          obtain ⟨o19, h⟩ := h
          refine e_gA flX12_58 rfl rfl o19 dX12_serviceTold_93 ?_
          refine e_iload_n dX12_serviceTold_96 rfl rfl ?_
          obtain ⟨o20, h⟩ := h
          refine e_iald rfl o20 dX12_serviceTold_97 ?_
          exact e_iret rfl trivial dX12_serviceTold_98 ⟨_, rfl, h⟩
        · have h := h0.2.2.2.2.2.1 (Int32.toInt_inj.mp e1)
          refine e_tabIn (tgt := 99) (off := 83) dX12_serviceTold_16 (by rw [e1]; decide) (by rw [e1]; decide) (by rw [e1]; rfl) (by decide) ?_
          refine e_aload_n dX12_serviceTold_99 rfl rfl ?_
          refine e_iload_n dX12_serviceTold_100 rfl rfl ?_
          refine e_iconst (v := (-1)) dX12_serviceTold_101 (by decide) ?_
          refine e_callV (As := [iV p1, iV (-1)]) (st := []) mt_X12_chairs in_X12_chairs lkX12_196 rfl rfl ⟨by decide, by decide⟩ (Nat.le_of_ble_eq_true rfl) ⟨by decide, by decide⟩ rfl rfl dX12_serviceTold_102 (Ctr.mono h (fun v M21 h => ?_))
          obtain ⟨r22, rfl, h⟩ := h
          show E_X12_serviceTold l q 105 [(0, rV (some 60)), (1, iV p1), (2, iV p2)] [iV r22] M21 0 0
          exact e_iret rfl trivial dX12_serviceTold_105 ⟨_, rfl, h⟩
        · have h := h0.2.2.2.2.2.2.1 (Int32.toInt_inj.mp e1)
          refine e_tabIn (tgt := 106) (off := 90) dX12_serviceTold_16 (by rw [e1]; decide) (by rw [e1]; decide) (by rw [e1]; rfl) (by decide) ?_
          refine e_aload_n dX12_serviceTold_106 rfl rfl ?_
          obtain ⟨o23, h⟩ := h
          refine e_gA flX12_67 rfl rfl o23 dX12_serviceTold_107 ?_
          refine e_iload_n dX12_serviceTold_110 rfl rfl ?_
          obtain ⟨o24, h⟩ := h
          refine e_zald rfl o24 dX12_serviceTold_111 ?_
          refine e_if_eq (tgt := 119) dX12_serviceTold_112 (by decide) (fun c25 => ?_) (fun c25 => ?_)
          · replace h := h.1 c25
            refine e_iconst (v := 0) dX12_serviceTold_119 (by decide) ?_
            exact e_iret rfl trivial dX12_serviceTold_120 ⟨_, rfl, h⟩
          · replace h := h.2 c25
            refine e_iconst (v := 1) dX12_serviceTold_115 (by decide) ?_
            refine e_goto (tgt := 120) dX12_serviceTold_116 (by decide) ?_
            exact e_iret rfl trivial dX12_serviceTold_120 ⟨_, rfl, h⟩
        · have h := h0.2.2.2.2.2.2.2 (Int32.toInt_inj.mp e1)
          refine e_tabIn (tgt := 121) (off := 105) dX12_serviceTold_16 (by rw [e1]; decide) (by rw [e1]; decide) (by rw [e1]; rfl) (by decide) ?_
          refine e_aload_n dX12_serviceTold_121 rfl rfl ?_
          obtain ⟨o26, h⟩ := h
          refine e_gA flX12_67 rfl rfl o26 dX12_serviceTold_122 ?_
          refine e_iload_n dX12_serviceTold_125 rfl rfl ?_
          obtain ⟨o27, h⟩ := h
          refine e_zald rfl o27 dX12_serviceTold_126 ?_
          refine e_if_eq (tgt := 138) dX12_serviceTold_127 (by decide) (fun c28 => ?_) (fun c28 => ?_)
          · replace h := h.1 c28
            refine e_iconst (v := (-1)) dX12_serviceTold_138 (by decide) ?_
            exact e_iret rfl trivial dX12_serviceTold_139 ⟨_, rfl, h⟩
          · replace h := h.2 c28
            refine e_aload_n dX12_serviceTold_130 rfl rfl ?_
            refine e_iload_n dX12_serviceTold_131 rfl rfl ?_
            refine e_callV (As := [iV p1]) (st := []) mt_X12_gapsIn in_X12_gapsIn lkX12_199 rfl rfl ⟨by decide, by decide⟩ (Nat.le_of_ble_eq_true rfl) ⟨by decide, by decide⟩ rfl rfl dX12_serviceTold_132 (Ctr.mono h (fun v M29 h => ?_))
            obtain ⟨r30, rfl, h⟩ := h
            show E_X12_serviceTold l q 135 [(0, rV (some 60)), (1, iV p1), (2, iV p2)] [iV r30] M29 0 0
            refine e_goto (tgt := 139) dX12_serviceTold_135 (by decide) ?_
            exact e_iret rfl trivial dX12_serviceTold_139 ⟨_, rfl, h⟩
    · replace h := h.2 c4
      refine e_bipush (v := (-2)) dX12_serviceTold_12 (by decide) ?_
      exact e_iret rfl trivial dX12_serviceTold_14 ⟨_, rfl, h⟩
theorem w_X12_waits (l : Launch) (p1 : Int32) (M : o_M) (q : Int32 → o_M → Prop) (h : K_X12_isService l [rV (some 60), iV p1] M (fun r2 M1 => ((r2 = 0 → q (-2) M1) ∧ (¬ r2 = 0 → K_X12_orders l [rV (some 60), iV p1] M1 (fun r5 M4 => q r5 M4))))) : K_X12_waits l [rV (some 60), iV p1] M q := by
  refine o_ctr (ini := false) (by decide +kernel) rfl (fun z => by cases z) (Nat.le_of_ble_eq_true rfl) ?_
  show E_X12_waits l q 0 [(0, rV (some 60)), (1, iV p1)] [] M 0 0
  refine e_aload_n dX12_waits_0 rfl rfl ?_
  refine e_iload_n dX12_waits_1 rfl rfl ?_
  refine e_callV (As := [iV p1]) (st := []) mt_X12_isService in_X12_isService lkX12_193 rfl rfl ⟨by decide, by decide⟩ (Nat.le_of_ble_eq_true rfl) ⟨by decide, by decide⟩ rfl rfl dX12_waits_2 (Ctr.mono h (fun v M1 h => ?_))
  obtain ⟨r2, rfl, h⟩ := h
  show E_X12_waits l q 5 [(0, rV (some 60)), (1, iV p1)] [iV r2] M1 0 0
  refine e_if_eq (tgt := 16) dX12_waits_5 (by decide) (fun c3 => ?_) (fun c3 => ?_)
  · replace h := h.1 c3
    refine e_bipush (v := (-2)) dX12_waits_16 (by decide) ?_
    exact e_iret rfl trivial dX12_waits_18 ⟨_, rfl, h⟩
  · replace h := h.2 c3
    refine e_aload_n dX12_waits_8 rfl rfl ?_
    refine e_iload_n dX12_waits_9 rfl rfl ?_
    refine e_callV (As := [iV p1]) (st := []) mt_X12_orders in_X12_orders lkX12_344 rfl rfl ⟨by decide, by decide⟩ (Nat.le_of_ble_eq_true rfl) ⟨by decide, by decide⟩ rfl rfl dX12_waits_10 (Ctr.mono h (fun v M4 h => ?_))
    obtain ⟨r5, rfl, h⟩ := h
    show E_X12_waits l q 13 [(0, rV (some 60)), (1, iV p1)] [iV r5] M4 0 0
    refine e_goto (tgt := 18) dX12_waits_13 (by decide) ?_
    exact e_iret rfl trivial dX12_waits_18 ⟨_, rfl, h⟩
abbrev H_X12_worthOf_16 (l : Launch) (q : Int64 → o_M → Prop) (v1 : Int32) (v2 : Int32) (v3 : Int32) (v4 : Int32) (v5 : Int32) (v6 : Int32) (v7 : Int32) (M : o_M) : Prop := E_X12_worthOf l q 16 [(0, rV (some 60)), (1, iV v1), (2, iV v2), (3, iV v3), (4, iV v4), (5, iV v5), (6, iV v6), (7, iV v7)] [] M 0 0
theorem w_X12_worthOf (l : Launch) (p1 : Int32) (p2 : Int32) (p3 : Int32) (p4 : Int32) (p5 : Int32) (M : o_M) (q : Int64 → o_M → Prop) (h : (mR M 60 31 = some 92 ∧ (vp_in ((11 * p1) + p2) (mN M 92) ∧ H_X12_worthOf_16 l q p1 p2 p3 p4 p5 0 (mI M 92 ((11 * p1) + p2).toNatClampNeg) M))) : K_X12_worthOf l [rV (some 60), iV p1, iV p2, iV p3, iV p4, iV p5] M q := by
  refine o_ctr (ini := false) (by decide +kernel) rfl (fun z => by cases z) (Nat.le_of_ble_eq_true rfl) ?_
  show E_X12_worthOf l q 0 [(0, rV (some 60)), (1, iV p1), (2, iV p2), (3, iV p3), (4, iV p4), (5, iV p5)] [] M 0 0
  refine e_iconst (v := 0) dX12_worthOf_0 (by decide) ?_
  refine e_istore (lv' := [(6, iV 0), (0, rV (some 60)), (1, iV p1), (2, iV p2), (3, iV p3), (4, iV p4), (5, iV p5)]) (by decide) rfl dX12_worthOf_1 ?_
  refine e_aload_n dX12_worthOf_3 rfl rfl ?_
  obtain ⟨o1, h⟩ := h
  refine e_gA flX12_89 rfl rfl o1 dX12_worthOf_4 ?_
  refine e_bipush (v := 11) dX12_worthOf_7 (by decide) ?_
  refine e_iload_n dX12_worthOf_9 rfl rfl ?_
  refine e_imul dX12_worthOf_10 ?_
  refine e_iload_n dX12_worthOf_11 rfl rfl ?_
  refine e_iadd dX12_worthOf_12 ?_
  obtain ⟨o2, h⟩ := h
  refine e_iald rfl o2 dX12_worthOf_13 ?_
  refine e_istore (lv' := [(7, iV (mI M 92 ((11 * p1) + p2).toNatClampNeg)), (6, iV 0), (0, rV (some 60)), (1, iV p1), (2, iV p2), (3, iV p3), (4, iV p4), (5, iV p5)]) (by decide) rfl dX12_worthOf_14 ?_
  exact e_lv (List.forall_mem_cons.mpr ⟨rfl, List.forall_mem_cons.mpr ⟨rfl, List.forall_mem_cons.mpr ⟨rfl, List.forall_mem_cons.mpr ⟨rfl, List.forall_mem_cons.mpr ⟨rfl, List.forall_mem_cons.mpr ⟨rfl, List.forall_mem_cons.mpr ⟨rfl, List.forall_mem_cons.mpr ⟨rfl, fun _ h => absurd h List.not_mem_nil⟩⟩⟩⟩⟩⟩⟩⟩) h
theorem w_X12_worthOf_16 (l : Launch) (q : Int64 → o_M → Prop) (v1 : Int32) (v2 : Int32) (v3 : Int32) (v4 : Int32) (v5 : Int32) (v6 : Int32) (v7 : Int32) (M : o_M) (h : (mR M 60 31 = some 92 ∧ (vp_in (((11 * v1) + v2) + 1) (mN M 92) ∧ (((mI M 92 (((11 * v1) + v2) + 1).toNatClampNeg) ≤ v7 → (mR M 60 50 = some 111 ∧ (vp_in 0 (mN M 111) ∧ q (mJ M 111 (0 : Int32).toNatClampNeg) M))) ∧ (¬ (mI M 92 (((11 * v1) + v2) + 1).toNatClampNeg) ≤ v7 → (mR M 60 28 = some 89 ∧ (vp_in ((300 * v1) + v7) (mN M 89) ∧ (mR M 60 29 = some 90 ∧ (vp_in ((300 * v1) + v7) (mN M 90) ∧ (((mI M 89 ((300 * v1) + v7).toNatClampNeg) = 0 → (mR M 60 50 = some 111 ∧ ((¬ (mI M 89 ((300 * v1) + v7).toNatClampNeg) = 0 → K_X12_named l [rV (some 60), iV (mI M 90 ((300 * v1) + v7).toNatClampNeg), iV v3, iV v4, iV v5] M (fun r16 M15 => (vp_in v6 (mN M15 111) ∧ H_X12_worthOf_16 l q v1 v2 v3 v4 v5 (v6 + 1) (v7 + 1) (sJ M15 111 v6.toNatClampNeg r16.toInt64)))) ∧ ((mI M 89 ((300 * v1) + v7).toNatClampNeg) = 0 → (vp_in v6 (mN M 111) ∧ H_X12_worthOf_16 l q v1 v2 v3 v4 v5 (v6 + 1) (v7 + 1) (sJ M 111 v6.toNatClampNeg ((mI M 90 ((300 * v1) + v7).toNatClampNeg).toInt64))))))) ∧ (¬ (mI M 89 ((300 * v1) + v7).toNatClampNeg) = 0 → ((¬ (mI M 89 ((300 * v1) + v7).toNatClampNeg) = 1 → ((¬ (mI M 89 ((300 * v1) + v7).toNatClampNeg) = 4 → ((¬ (mI M 89 ((300 * v1) + v7).toNatClampNeg) = 10 → (mR M 60 50 = some 111 ∧ (mR M 60 50 = some 111 ∧ (vp_in ((v6 + (-1)) - 1) (mN M 111) ∧ (mR M 60 50 = some 111 ∧ (vp_in (v6 + (-1)) (mN M 111) ∧ K_X12_two l [iV (mI M 89 ((300 * v1) + v7).toNatClampNeg), jV (mJ M 111 ((v6 + (-1)) - 1).toNatClampNeg), jV (mJ M 111 (v6 + (-1)).toNatClampNeg)] M (fun r28 M27 => (vp_in ((v6 + (-1)) - 1) (mN M27 111) ∧ H_X12_worthOf_16 l q v1 v2 v3 v4 v5 (v6 + (-1)) (v7 + 1) (sJ M27 111 (((v6 + (-1)) - 1).toNatClampNeg) r28))))))))) ∧ ((mI M 89 ((300 * v1) + v7).toNatClampNeg) = 10 → (mR M 60 50 = some 111 ∧ (mR M 60 50 = some 111 ∧ (vp_in (v6 - 1) (mN M 111) ∧ (vp_in (v6 - 1) (mN M 111) ∧ H_X12_worthOf_16 l q v1 v2 v3 v4 v5 v6 (v7 + 1) (sJ M 111 ((v6 - 1).toNatClampNeg) (-(mJ M 111 (v6 - 1).toNatClampNeg)))))))))) ∧ ((mI M 89 ((300 * v1) + v7).toNatClampNeg) = 4 → (mR M 60 50 = some 111 ∧ (mR M 60 50 = some 111 ∧ (vp_in (v6 - 1) (mN M 111) ∧ ((¬ (lg_cmp (mJ M 111 (v6 - 1).toNatClampNeg) 0) = 0 → (vp_in (v6 - 1) (mN M 111) ∧ H_X12_worthOf_16 l q v1 v2 v3 v4 v5 v6 (v7 + 1) (sJ M 111 ((v6 - 1).toNatClampNeg) 0))) ∧ ((lg_cmp (mJ M 111 (v6 - 1).toNatClampNeg) 0) = 0 → (vp_in (v6 - 1) (mN M 111) ∧ H_X12_worthOf_16 l q v1 v2 v3 v4 v5 v6 (v7 + 1) (sJ M 111 ((v6 - 1).toNatClampNeg) 1)))))))))) ∧ ((mI M 89 ((300 * v1) + v7).toNatClampNeg) = 1 → (mR M 60 50 = some 111 ∧ ((¬ (mI M 89 ((300 * v1) + v7).toNatClampNeg) = 0 → K_X12_named l [rV (some 60), iV (mI M 90 ((300 * v1) + v7).toNatClampNeg), iV v3, iV v4, iV v5] M (fun r43 M42 => (vp_in v6 (mN M42 111) ∧ H_X12_worthOf_16 l q v1 v2 v3 v4 v5 (v6 + 1) (v7 + 1) (sJ M42 111 v6.toNatClampNeg r43.toInt64)))) ∧ ((mI M 89 ((300 * v1) + v7).toNatClampNeg) = 0 → (vp_in v6 (mN M 111) ∧ H_X12_worthOf_16 l q v1 v2 v3 v4 v5 (v6 + 1) (v7 + 1) (sJ M 111 v6.toNatClampNeg ((mI M 90 ((300 * v1) + v7).toNatClampNeg).toInt64))))))))))))))))))) : H_X12_worthOf_16 l q v1 v2 v3 v4 v5 v6 v7 M := by
  refine e_iload rfl dX12_worthOf_16 ?_
  refine e_aload_n dX12_worthOf_18 rfl rfl ?_
  obtain ⟨o3, h⟩ := h
  refine e_gA flX12_89 rfl rfl o3 dX12_worthOf_19 ?_
  refine e_bipush (v := 11) dX12_worthOf_22 (by decide) ?_
  refine e_iload_n dX12_worthOf_24 rfl rfl ?_
  refine e_imul dX12_worthOf_25 ?_
  refine e_iload_n dX12_worthOf_26 rfl rfl ?_
  refine e_iadd dX12_worthOf_27 ?_
  refine e_iconst (v := 1) dX12_worthOf_28 (by decide) ?_
  refine e_iadd dX12_worthOf_29 ?_
  obtain ⟨o4, h⟩ := h
  refine e_iald rfl o4 dX12_worthOf_30 ?_
  refine e_ic_ge (tgt := 216) dX12_worthOf_31 (by decide) (fun c5 => ?_) (fun c5 => ?_)
  · replace h := h.1 c5
    refine e_aload_n dX12_worthOf_216 rfl rfl ?_
    obtain ⟨o6, h⟩ := h
    refine e_gA flX12_117 rfl rfl o6 dX12_worthOf_217 ?_
    refine e_iconst (v := 0) dX12_worthOf_220 (by decide) ?_
    obtain ⟨o7, h⟩ := h
    refine e_lald rfl o7 dX12_worthOf_221 ?_
    exact e_lret rfl trivial dX12_worthOf_222 ⟨_, rfl, h⟩
  · replace h := h.2 c5
    refine e_aload_n dX12_worthOf_34 rfl rfl ?_
    obtain ⟨o8, h⟩ := h
    refine e_gA flX12_80 rfl rfl o8 dX12_worthOf_35 ?_
    refine e_sipush (v := 300) dX12_worthOf_38 (by decide) ?_
    refine e_iload_n dX12_worthOf_41 rfl rfl ?_
    refine e_imul dX12_worthOf_42 ?_
    refine e_iload rfl dX12_worthOf_43 ?_
    refine e_iadd dX12_worthOf_45 ?_
    obtain ⟨o9, h⟩ := h
    refine e_iald rfl o9 dX12_worthOf_46 ?_
    refine e_istore (lv' := [(8, iV (mI M 89 ((300 * v1) + v7).toNatClampNeg)), (0, rV (some 60)), (1, iV v1), (2, iV v2), (3, iV v3), (4, iV v4), (5, iV v5), (6, iV v6), (7, iV v7)]) (by decide) rfl dX12_worthOf_47 ?_
    refine e_aload_n dX12_worthOf_49 rfl rfl ?_
    obtain ⟨o10, h⟩ := h
    refine e_gA flX12_83 rfl rfl o10 dX12_worthOf_50 ?_
    refine e_sipush (v := 300) dX12_worthOf_53 (by decide) ?_
    refine e_iload_n dX12_worthOf_56 rfl rfl ?_
    refine e_imul dX12_worthOf_57 ?_
    refine e_iload rfl dX12_worthOf_58 ?_
    refine e_iadd dX12_worthOf_60 ?_
    obtain ⟨o11, h⟩ := h
    refine e_iald rfl o11 dX12_worthOf_61 ?_
    refine e_istore (lv' := [(9, iV (mI M 90 ((300 * v1) + v7).toNatClampNeg)), (8, iV (mI M 89 ((300 * v1) + v7).toNatClampNeg)), (0, rV (some 60)), (1, iV v1), (2, iV v2), (3, iV v3), (4, iV v4), (5, iV v5), (6, iV v6), (7, iV v7)]) (by decide) rfl dX12_worthOf_62 ?_
    refine e_iload rfl dX12_worthOf_64 ?_
    refine e_if_eq (tgt := 75) dX12_worthOf_66 (by decide) (fun c12 => ?_) (fun c12 => ?_)
    · replace h := h.1 c12
      refine e_aload_n dX12_worthOf_75 rfl rfl ?_
      obtain ⟨o13, h⟩ := h
      refine e_gA flX12_117 rfl rfl o13 dX12_worthOf_76 ?_
      refine e_iload rfl dX12_worthOf_79 ?_
      refine e_iload rfl dX12_worthOf_81 ?_
      refine e_if_ne (tgt := 92) dX12_worthOf_83 (by decide) (fun c14 => ?_) (fun c14 => ?_)
      · replace h := h.1 c14
        refine e_aload_n dX12_worthOf_92 rfl rfl ?_
        refine e_iload rfl dX12_worthOf_93 ?_
        refine e_iload_n dX12_worthOf_95 rfl rfl ?_
        refine e_iload rfl dX12_worthOf_96 ?_
        refine e_iload rfl dX12_worthOf_98 ?_
        refine e_callV (As := [iV (mI M 90 ((300 * v1) + v7).toNatClampNeg), iV v3, iV v4, iV v5]) (st := [iV v6, rV (some 111)]) mt_X12_named in_X12_named lkX12_293 rfl rfl ⟨by decide, by decide⟩ (Nat.le_of_ble_eq_true rfl) ⟨by decide, by decide⟩ rfl rfl dX12_worthOf_100 (Ctr.mono h (fun v M15 h => ?_))
        obtain ⟨r16, rfl, h⟩ := h
        show E_X12_worthOf l q 103 [(9, iV (mI M 90 ((300 * v1) + v7).toNatClampNeg)), (8, iV (mI M 89 ((300 * v1) + v7).toNatClampNeg)), (0, rV (some 60)), (1, iV v1), (2, iV v2), (3, iV v3), (4, iV v4), (5, iV v5), (6, iV v6), (7, iV v7)] [iV r16, iV v6, rV (some 111)] M15 0 0
        refine e_i2l dX12_worthOf_103 ?_
        obtain ⟨o17, h⟩ := h
        refine e_last rfl o17 dX12_worthOf_104 ?_
        refine e_iinc (v := 1) (lv' := [(6, iV (v6 + 1)), (9, iV (mI M 90 ((300 * v1) + v7).toNatClampNeg)), (8, iV (mI M 89 ((300 * v1) + v7).toNatClampNeg)), (0, rV (some 60)), (1, iV v1), (2, iV v2), (3, iV v3), (4, iV v4), (5, iV v5), (7, iV v7)]) rfl (by decide) (by decide) rfl dX12_worthOf_105 ?_
        refine e_goto (tgt := 210) dX12_worthOf_108 (by decide) ?_
        refine e_iinc (v := 1) (lv' := [(7, iV (v7 + 1)), (6, iV (v6 + 1)), (9, iV (mI M 90 ((300 * v1) + v7).toNatClampNeg)), (8, iV (mI M 89 ((300 * v1) + v7).toNatClampNeg)), (0, rV (some 60)), (1, iV v1), (2, iV v2), (3, iV v3), (4, iV v4), (5, iV v5)]) rfl (by decide) (by decide) rfl dX12_worthOf_210 ?_
        refine e_goto (tgt := 16) dX12_worthOf_213 (by decide) ?_
        exact e_lv (List.forall_mem_cons.mpr ⟨rfl, List.forall_mem_cons.mpr ⟨rfl, List.forall_mem_cons.mpr ⟨rfl, List.forall_mem_cons.mpr ⟨rfl, List.forall_mem_cons.mpr ⟨rfl, List.forall_mem_cons.mpr ⟨rfl, List.forall_mem_cons.mpr ⟨rfl, List.forall_mem_cons.mpr ⟨rfl, fun _ h => absurd h List.not_mem_nil⟩⟩⟩⟩⟩⟩⟩⟩) h
      · replace h := h.2 c14
        refine e_iload rfl dX12_worthOf_86 ?_
        refine e_i2l dX12_worthOf_88 ?_
        refine e_goto (tgt := 104) dX12_worthOf_89 (by decide) ?_
        obtain ⟨o18, h⟩ := h
        refine e_last rfl o18 dX12_worthOf_104 ?_
        refine e_iinc (v := 1) (lv' := [(6, iV (v6 + 1)), (9, iV (mI M 90 ((300 * v1) + v7).toNatClampNeg)), (8, iV (mI M 89 ((300 * v1) + v7).toNatClampNeg)), (0, rV (some 60)), (1, iV v1), (2, iV v2), (3, iV v3), (4, iV v4), (5, iV v5), (7, iV v7)]) rfl (by decide) (by decide) rfl dX12_worthOf_105 ?_
        refine e_goto (tgt := 210) dX12_worthOf_108 (by decide) ?_
        refine e_iinc (v := 1) (lv' := [(7, iV (v7 + 1)), (6, iV (v6 + 1)), (9, iV (mI M 90 ((300 * v1) + v7).toNatClampNeg)), (8, iV (mI M 89 ((300 * v1) + v7).toNatClampNeg)), (0, rV (some 60)), (1, iV v1), (2, iV v2), (3, iV v3), (4, iV v4), (5, iV v5)]) rfl (by decide) (by decide) rfl dX12_worthOf_210 ?_
        refine e_goto (tgt := 16) dX12_worthOf_213 (by decide) ?_
        exact e_lv (List.forall_mem_cons.mpr ⟨rfl, List.forall_mem_cons.mpr ⟨rfl, List.forall_mem_cons.mpr ⟨rfl, List.forall_mem_cons.mpr ⟨rfl, List.forall_mem_cons.mpr ⟨rfl, List.forall_mem_cons.mpr ⟨rfl, List.forall_mem_cons.mpr ⟨rfl, List.forall_mem_cons.mpr ⟨rfl, fun _ h => absurd h List.not_mem_nil⟩⟩⟩⟩⟩⟩⟩⟩) h
    · replace h := h.2 c12
      refine e_iload rfl dX12_worthOf_69 ?_
      refine e_iconst (v := 1) dX12_worthOf_71 (by decide) ?_
      refine e_ic_ne (tgt := 111) dX12_worthOf_72 (by decide) (fun c19 => ?_) (fun c19 => ?_)
      · replace h := h.1 c19
        refine e_iload rfl dX12_worthOf_111 ?_
        refine e_iconst (v := 4) dX12_worthOf_113 (by decide) ?_
        refine e_ic_ne (tgt := 148) dX12_worthOf_114 (by decide) (fun c20 => ?_) (fun c20 => ?_)
        · replace h := h.1 c20
          refine e_iload rfl dX12_worthOf_148 ?_
          refine e_bipush (v := 10) dX12_worthOf_150 (by decide) ?_
          refine e_ic_ne (tgt := 177) dX12_worthOf_152 (by decide) (fun c21 => ?_) (fun c21 => ?_)
          · replace h := h.1 c21
            refine e_iinc (v := (-1)) (lv' := [(6, iV (v6 + (-1))), (9, iV (mI M 90 ((300 * v1) + v7).toNatClampNeg)), (8, iV (mI M 89 ((300 * v1) + v7).toNatClampNeg)), (0, rV (some 60)), (1, iV v1), (2, iV v2), (3, iV v3), (4, iV v4), (5, iV v5), (7, iV v7)]) rfl (by decide) (by decide) rfl dX12_worthOf_177 ?_
            refine e_aload_n dX12_worthOf_180 rfl rfl ?_
            obtain ⟨o22, h⟩ := h
            refine e_gA flX12_117 rfl rfl o22 dX12_worthOf_181 ?_
            refine e_iload rfl dX12_worthOf_184 ?_
            refine e_iconst (v := 1) dX12_worthOf_186 (by decide) ?_
            refine e_isub dX12_worthOf_187 ?_
            refine e_iload rfl dX12_worthOf_188 ?_
            refine e_aload_n dX12_worthOf_190 rfl rfl ?_
            obtain ⟨o23, h⟩ := h
            refine e_gA flX12_117 rfl rfl o23 dX12_worthOf_191 ?_
            refine e_iload rfl dX12_worthOf_194 ?_
            refine e_iconst (v := 1) dX12_worthOf_196 (by decide) ?_
            refine e_isub dX12_worthOf_197 ?_
            obtain ⟨o24, h⟩ := h
            refine e_lald rfl o24 dX12_worthOf_198 ?_
            refine e_aload_n dX12_worthOf_199 rfl rfl ?_
            obtain ⟨o25, h⟩ := h
            refine e_gA flX12_117 rfl rfl o25 dX12_worthOf_200 ?_
            refine e_iload rfl dX12_worthOf_203 ?_
            obtain ⟨o26, h⟩ := h
            refine e_lald rfl o26 dX12_worthOf_205 ?_
            refine e_callS (As := [iV (mI M 89 ((300 * v1) + v7).toNatClampNeg), jV (mJ M 111 ((v6 + (-1)) - 1).toNatClampNeg), jV (mJ M 111 (v6 + (-1)).toNatClampNeg)]) (st := [iV ((v6 + (-1)) - 1), rV (some 111)]) mt_X12_two is_X12_two lkX12_297 ⟨by decide, by decide⟩ (Nat.le_of_ble_eq_true rfl) ⟨by decide, by decide⟩ rfl rfl dX12_worthOf_206 (Ctr.mono h (fun v M27 h => ?_))
            obtain ⟨r28, rfl, h⟩ := h
            show E_X12_worthOf l q 209 [(6, iV (v6 + (-1))), (9, iV (mI M 90 ((300 * v1) + v7).toNatClampNeg)), (8, iV (mI M 89 ((300 * v1) + v7).toNatClampNeg)), (0, rV (some 60)), (1, iV v1), (2, iV v2), (3, iV v3), (4, iV v4), (5, iV v5), (7, iV v7)] [jV r28, iV ((v6 + (-1)) - 1), rV (some 111)] M27 0 0
            obtain ⟨o29, h⟩ := h
            refine e_last rfl o29 dX12_worthOf_209 ?_
            refine e_iinc (v := 1) (lv' := [(7, iV (v7 + 1)), (6, iV (v6 + (-1))), (9, iV (mI M 90 ((300 * v1) + v7).toNatClampNeg)), (8, iV (mI M 89 ((300 * v1) + v7).toNatClampNeg)), (0, rV (some 60)), (1, iV v1), (2, iV v2), (3, iV v3), (4, iV v4), (5, iV v5)]) rfl (by decide) (by decide) rfl dX12_worthOf_210 ?_
            refine e_goto (tgt := 16) dX12_worthOf_213 (by decide) ?_
            exact e_lv (List.forall_mem_cons.mpr ⟨rfl, List.forall_mem_cons.mpr ⟨rfl, List.forall_mem_cons.mpr ⟨rfl, List.forall_mem_cons.mpr ⟨rfl, List.forall_mem_cons.mpr ⟨rfl, List.forall_mem_cons.mpr ⟨rfl, List.forall_mem_cons.mpr ⟨rfl, List.forall_mem_cons.mpr ⟨rfl, fun _ h => absurd h List.not_mem_nil⟩⟩⟩⟩⟩⟩⟩⟩) h
          · replace h := h.2 c21
            refine e_aload_n dX12_worthOf_155 rfl rfl ?_
            obtain ⟨o30, h⟩ := h
            refine e_gA flX12_117 rfl rfl o30 dX12_worthOf_156 ?_
            refine e_iload rfl dX12_worthOf_159 ?_
            refine e_iconst (v := 1) dX12_worthOf_161 (by decide) ?_
            refine e_isub dX12_worthOf_162 ?_
            refine e_aload_n dX12_worthOf_163 rfl rfl ?_
            obtain ⟨o31, h⟩ := h
            refine e_gA flX12_117 rfl rfl o31 dX12_worthOf_164 ?_
            refine e_iload rfl dX12_worthOf_167 ?_
            refine e_iconst (v := 1) dX12_worthOf_169 (by decide) ?_
            refine e_isub dX12_worthOf_170 ?_
            obtain ⟨o32, h⟩ := h
            refine e_lald rfl o32 dX12_worthOf_171 ?_
            refine e_lneg dX12_worthOf_172 ?_
            obtain ⟨o33, h⟩ := h
            refine e_last rfl o33 dX12_worthOf_173 ?_
            refine e_goto (tgt := 210) dX12_worthOf_174 (by decide) ?_
            refine e_iinc (v := 1) (lv' := [(7, iV (v7 + 1)), (9, iV (mI M 90 ((300 * v1) + v7).toNatClampNeg)), (8, iV (mI M 89 ((300 * v1) + v7).toNatClampNeg)), (0, rV (some 60)), (1, iV v1), (2, iV v2), (3, iV v3), (4, iV v4), (5, iV v5), (6, iV v6)]) rfl (by decide) (by decide) rfl dX12_worthOf_210 ?_
            refine e_goto (tgt := 16) dX12_worthOf_213 (by decide) ?_
            exact e_lv (List.forall_mem_cons.mpr ⟨rfl, List.forall_mem_cons.mpr ⟨rfl, List.forall_mem_cons.mpr ⟨rfl, List.forall_mem_cons.mpr ⟨rfl, List.forall_mem_cons.mpr ⟨rfl, List.forall_mem_cons.mpr ⟨rfl, List.forall_mem_cons.mpr ⟨rfl, List.forall_mem_cons.mpr ⟨rfl, fun _ h => absurd h List.not_mem_nil⟩⟩⟩⟩⟩⟩⟩⟩) h
        · replace h := h.2 c20
          refine e_aload_n dX12_worthOf_117 rfl rfl ?_
          obtain ⟨o34, h⟩ := h
          refine e_gA flX12_117 rfl rfl o34 dX12_worthOf_118 ?_
          refine e_iload rfl dX12_worthOf_121 ?_
          refine e_iconst (v := 1) dX12_worthOf_123 (by decide) ?_
          refine e_isub dX12_worthOf_124 ?_
          refine e_aload_n dX12_worthOf_125 rfl rfl ?_
          obtain ⟨o35, h⟩ := h
          refine e_gA flX12_117 rfl rfl o35 dX12_worthOf_126 ?_
          refine e_iload rfl dX12_worthOf_129 ?_
          refine e_iconst (v := 1) dX12_worthOf_131 (by decide) ?_
          refine e_isub dX12_worthOf_132 ?_
          obtain ⟨o36, h⟩ := h
          refine e_lald rfl o36 dX12_worthOf_133 ?_
          refine e_lconst (v := 0) dX12_worthOf_134 (by decide) ?_
          refine e_lcmp dX12_worthOf_135 ?_
          refine e_if_ne (tgt := 143) dX12_worthOf_136 (by decide) (fun c37 => ?_) (fun c37 => ?_)
          · replace h := h.1 c37
            refine e_lconst (v := 0) dX12_worthOf_143 (by decide) ?_
            obtain ⟨o38, h⟩ := h
            refine e_last rfl o38 dX12_worthOf_144 ?_
            refine e_goto (tgt := 210) dX12_worthOf_145 (by decide) ?_
            refine e_iinc (v := 1) (lv' := [(7, iV (v7 + 1)), (9, iV (mI M 90 ((300 * v1) + v7).toNatClampNeg)), (8, iV (mI M 89 ((300 * v1) + v7).toNatClampNeg)), (0, rV (some 60)), (1, iV v1), (2, iV v2), (3, iV v3), (4, iV v4), (5, iV v5), (6, iV v6)]) rfl (by decide) (by decide) rfl dX12_worthOf_210 ?_
            refine e_goto (tgt := 16) dX12_worthOf_213 (by decide) ?_
            exact e_lv (List.forall_mem_cons.mpr ⟨rfl, List.forall_mem_cons.mpr ⟨rfl, List.forall_mem_cons.mpr ⟨rfl, List.forall_mem_cons.mpr ⟨rfl, List.forall_mem_cons.mpr ⟨rfl, List.forall_mem_cons.mpr ⟨rfl, List.forall_mem_cons.mpr ⟨rfl, List.forall_mem_cons.mpr ⟨rfl, fun _ h => absurd h List.not_mem_nil⟩⟩⟩⟩⟩⟩⟩⟩) h
          · replace h := h.2 c37
            refine e_lconst (v := 1) dX12_worthOf_139 (by decide) ?_
            refine e_goto (tgt := 144) dX12_worthOf_140 (by decide) ?_
            obtain ⟨o39, h⟩ := h
            refine e_last rfl o39 dX12_worthOf_144 ?_
            refine e_goto (tgt := 210) dX12_worthOf_145 (by decide) ?_
            refine e_iinc (v := 1) (lv' := [(7, iV (v7 + 1)), (9, iV (mI M 90 ((300 * v1) + v7).toNatClampNeg)), (8, iV (mI M 89 ((300 * v1) + v7).toNatClampNeg)), (0, rV (some 60)), (1, iV v1), (2, iV v2), (3, iV v3), (4, iV v4), (5, iV v5), (6, iV v6)]) rfl (by decide) (by decide) rfl dX12_worthOf_210 ?_
            refine e_goto (tgt := 16) dX12_worthOf_213 (by decide) ?_
            exact e_lv (List.forall_mem_cons.mpr ⟨rfl, List.forall_mem_cons.mpr ⟨rfl, List.forall_mem_cons.mpr ⟨rfl, List.forall_mem_cons.mpr ⟨rfl, List.forall_mem_cons.mpr ⟨rfl, List.forall_mem_cons.mpr ⟨rfl, List.forall_mem_cons.mpr ⟨rfl, List.forall_mem_cons.mpr ⟨rfl, fun _ h => absurd h List.not_mem_nil⟩⟩⟩⟩⟩⟩⟩⟩) h
      · replace h := h.2 c19
        refine e_aload_n dX12_worthOf_75 rfl rfl ?_
        obtain ⟨o40, h⟩ := h
        refine e_gA flX12_117 rfl rfl o40 dX12_worthOf_76 ?_
        refine e_iload rfl dX12_worthOf_79 ?_
        refine e_iload rfl dX12_worthOf_81 ?_
        refine e_if_ne (tgt := 92) dX12_worthOf_83 (by decide) (fun c41 => ?_) (fun c41 => ?_)
        · replace h := h.1 c41
          refine e_aload_n dX12_worthOf_92 rfl rfl ?_
          refine e_iload rfl dX12_worthOf_93 ?_
          refine e_iload_n dX12_worthOf_95 rfl rfl ?_
          refine e_iload rfl dX12_worthOf_96 ?_
          refine e_iload rfl dX12_worthOf_98 ?_
          refine e_callV (As := [iV (mI M 90 ((300 * v1) + v7).toNatClampNeg), iV v3, iV v4, iV v5]) (st := [iV v6, rV (some 111)]) mt_X12_named in_X12_named lkX12_293 rfl rfl ⟨by decide, by decide⟩ (Nat.le_of_ble_eq_true rfl) ⟨by decide, by decide⟩ rfl rfl dX12_worthOf_100 (Ctr.mono h (fun v M42 h => ?_))
          obtain ⟨r43, rfl, h⟩ := h
          show E_X12_worthOf l q 103 [(9, iV (mI M 90 ((300 * v1) + v7).toNatClampNeg)), (8, iV (mI M 89 ((300 * v1) + v7).toNatClampNeg)), (0, rV (some 60)), (1, iV v1), (2, iV v2), (3, iV v3), (4, iV v4), (5, iV v5), (6, iV v6), (7, iV v7)] [iV r43, iV v6, rV (some 111)] M42 0 0
          refine e_i2l dX12_worthOf_103 ?_
          obtain ⟨o44, h⟩ := h
          refine e_last rfl o44 dX12_worthOf_104 ?_
          refine e_iinc (v := 1) (lv' := [(6, iV (v6 + 1)), (9, iV (mI M 90 ((300 * v1) + v7).toNatClampNeg)), (8, iV (mI M 89 ((300 * v1) + v7).toNatClampNeg)), (0, rV (some 60)), (1, iV v1), (2, iV v2), (3, iV v3), (4, iV v4), (5, iV v5), (7, iV v7)]) rfl (by decide) (by decide) rfl dX12_worthOf_105 ?_
          refine e_goto (tgt := 210) dX12_worthOf_108 (by decide) ?_
          refine e_iinc (v := 1) (lv' := [(7, iV (v7 + 1)), (6, iV (v6 + 1)), (9, iV (mI M 90 ((300 * v1) + v7).toNatClampNeg)), (8, iV (mI M 89 ((300 * v1) + v7).toNatClampNeg)), (0, rV (some 60)), (1, iV v1), (2, iV v2), (3, iV v3), (4, iV v4), (5, iV v5)]) rfl (by decide) (by decide) rfl dX12_worthOf_210 ?_
          refine e_goto (tgt := 16) dX12_worthOf_213 (by decide) ?_
          exact e_lv (List.forall_mem_cons.mpr ⟨rfl, List.forall_mem_cons.mpr ⟨rfl, List.forall_mem_cons.mpr ⟨rfl, List.forall_mem_cons.mpr ⟨rfl, List.forall_mem_cons.mpr ⟨rfl, List.forall_mem_cons.mpr ⟨rfl, List.forall_mem_cons.mpr ⟨rfl, List.forall_mem_cons.mpr ⟨rfl, fun _ h => absurd h List.not_mem_nil⟩⟩⟩⟩⟩⟩⟩⟩) h
        · replace h := h.2 c41
          refine e_iload rfl dX12_worthOf_86 ?_
          refine e_i2l dX12_worthOf_88 ?_
          refine e_goto (tgt := 104) dX12_worthOf_89 (by decide) ?_
          obtain ⟨o45, h⟩ := h
          refine e_last rfl o45 dX12_worthOf_104 ?_
          refine e_iinc (v := 1) (lv' := [(6, iV (v6 + 1)), (9, iV (mI M 90 ((300 * v1) + v7).toNatClampNeg)), (8, iV (mI M 89 ((300 * v1) + v7).toNatClampNeg)), (0, rV (some 60)), (1, iV v1), (2, iV v2), (3, iV v3), (4, iV v4), (5, iV v5), (7, iV v7)]) rfl (by decide) (by decide) rfl dX12_worthOf_105 ?_
          refine e_goto (tgt := 210) dX12_worthOf_108 (by decide) ?_
          refine e_iinc (v := 1) (lv' := [(7, iV (v7 + 1)), (6, iV (v6 + 1)), (9, iV (mI M 90 ((300 * v1) + v7).toNatClampNeg)), (8, iV (mI M 89 ((300 * v1) + v7).toNatClampNeg)), (0, rV (some 60)), (1, iV v1), (2, iV v2), (3, iV v3), (4, iV v4), (5, iV v5)]) rfl (by decide) (by decide) rfl dX12_worthOf_210 ?_
          refine e_goto (tgt := 16) dX12_worthOf_213 (by decide) ?_
          exact e_lv (List.forall_mem_cons.mpr ⟨rfl, List.forall_mem_cons.mpr ⟨rfl, List.forall_mem_cons.mpr ⟨rfl, List.forall_mem_cons.mpr ⟨rfl, List.forall_mem_cons.mpr ⟨rfl, List.forall_mem_cons.mpr ⟨rfl, List.forall_mem_cons.mpr ⟨rfl, List.forall_mem_cons.mpr ⟨rfl, fun _ h => absurd h List.not_mem_nil⟩⟩⟩⟩⟩⟩⟩⟩) h
abbrev H_X12_dueOf_6 (l : Launch) (q : Int64 → o_M → Prop) (v1 : Int32) (v2 : Int32) (v3 : Int32) (v4 : Int32) (v5 : Int64) (v7 : Int32) (M : o_M) : Prop := E_X12_dueOf l q 6 [(0, rV (some 60)), (1, iV v1), (2, iV v2), (3, iV v3), (4, iV v4), (5, jV v5), (7, iV v7)] [] M 0 0
theorem w_X12_dueOf (l : Launch) (p1 : Int32) (p2 : Int32) (p3 : Int32) (p4 : Int32) (M : o_M) (q : Int64 → o_M → Prop) (h : H_X12_dueOf_6 l q p1 p2 p3 p4 0 0 M) : K_X12_dueOf l [rV (some 60), iV p1, iV p2, iV p3, iV p4] M q := by
  refine o_ctr (ini := false) (by decide +kernel) rfl (fun z => by cases z) (Nat.le_of_ble_eq_true rfl) ?_
  show E_X12_dueOf l q 0 [(0, rV (some 60)), (1, iV p1), (2, iV p2), (3, iV p3), (4, iV p4)] [] M 0 0
  refine e_lconst (v := 0) dX12_dueOf_0 (by decide) ?_
  refine e_lstore (lv' := [(5, jV 0), (0, rV (some 60)), (1, iV p1), (2, iV p2), (3, iV p3), (4, iV p4)]) (by decide) rfl dX12_dueOf_1 ?_
  refine e_iconst (v := 0) dX12_dueOf_3 (by decide) ?_
  refine e_istore (lv' := [(7, iV 0), (5, jV 0), (0, rV (some 60)), (1, iV p1), (2, iV p2), (3, iV p3), (4, iV p4)]) (by decide) rfl dX12_dueOf_4 ?_
  exact e_lv (List.forall_mem_cons.mpr ⟨rfl, List.forall_mem_cons.mpr ⟨rfl, List.forall_mem_cons.mpr ⟨rfl, List.forall_mem_cons.mpr ⟨rfl, List.forall_mem_cons.mpr ⟨rfl, List.forall_mem_cons.mpr ⟨rfl, List.forall_mem_cons.mpr ⟨rfl, fun _ h => absurd h List.not_mem_nil⟩⟩⟩⟩⟩⟩⟩) h
theorem w_X12_dueOf_6 (l : Launch) (q : Int64 → o_M → Prop) (v1 : Int32) (v2 : Int32) (v3 : Int32) (v4 : Int32) (v5 : Int64) (v7 : Int32) (M : o_M) (h : (((mI M 60 14) ≤ v7 → q v5 M) ∧ (¬ (mI M 60 14) ≤ v7 → K_X12_chairOf l [rV (some 60), iV v7, iV v1] M (fun r3 M2 => ((r3 = (-1) → H_X12_dueOf_6 l q v1 v2 v3 v4 v5 (v7 + 1) M2) ∧ (¬ r3 = (-1) → (mR M2 60 16 = some 77 ∧ (vp_in v7 (mN M2 77) ∧ K_X12_in l [iV (mI M2 77 v7.toNatClampNeg), iV v2, iV v3] M2 (fun r8 M7 => ((r8 = 0 → H_X12_dueOf_6 l q v1 v2 v3 v4 v5 (v7 + 1) M7) ∧ (¬ r8 = 0 → (mR M7 60 16 = some 77 ∧ (vp_in v7 (mN M7 77) ∧ K_X12_textOn l [rV (some 60), iV (mI M7 77 v7.toNatClampNeg)] M7 (fun r13 M12 => (mR M12 60 30 = some 91 ∧ (vp_in r13 (mN M12 91) ∧ K_X12_instrumentOf l [rV (some 60), iV v7, iV r3] M12 (fun r17 M16 => K_X12_worthOf l [rV (some 60), iV r13, iV ((mI M12 91 r13.toNatClampNeg) + v4), iV v7, iV v1, iV r17] M16 (fun r19 M18 => (mR M18 60 15 = some 76 ∧ (vp_in v7 (mN M18 76) ∧ ((¬ (mI M18 76 v7.toNatClampNeg) = 5 → (mR M18 60 15 = some 76 ∧ (vp_in v7 (mN M18 76) ∧ ((¬ (mI M18 76 v7.toNatClampNeg) = 4 → (mR M18 60 15 = some 76 ∧ (vp_in v7 (mN M18 76) ∧ ((¬ (mI M18 76 v7.toNatClampNeg) = 3 → H_X12_dueOf_6 l q v1 v2 v3 v4 (v5 + r19) (v7 + 1) M18) ∧ ((mI M18 76 v7.toNatClampNeg) = 3 → ((¬ v4 = 0 → H_X12_dueOf_6 l q v1 v2 v3 v4 (v5 + (r19 + 5)) (v7 + 1) M18) ∧ (v4 = 0 → H_X12_dueOf_6 l q v1 v2 v3 v4 (v5 + (r19 + 2)) (v7 + 1) M18))))))) ∧ ((mI M18 76 v7.toNatClampNeg) = 4 → ((¬ v4 = 1 → (mR M18 60 15 = some 76 ∧ (vp_in v7 (mN M18 76) ∧ ((¬ (mI M18 76 v7.toNatClampNeg) = 3 → H_X12_dueOf_6 l q v1 v2 v3 v4 (v5 + r19) (v7 + 1) M18) ∧ ((mI M18 76 v7.toNatClampNeg) = 3 → ((¬ v4 = 0 → H_X12_dueOf_6 l q v1 v2 v3 v4 (v5 + (r19 + 5)) (v7 + 1) M18) ∧ (v4 = 0 → H_X12_dueOf_6 l q v1 v2 v3 v4 (v5 + (r19 + 2)) (v7 + 1) M18))))))) ∧ (v4 = 1 → (mR M18 60 15 = some 76 ∧ (vp_in v7 (mN M18 76) ∧ ((¬ (mI M18 76 v7.toNatClampNeg) = 3 → H_X12_dueOf_6 l q v1 v2 v3 v4 (v5 + (r19 / 2)) (v7 + 1) M18) ∧ ((mI M18 76 v7.toNatClampNeg) = 3 → ((¬ v4 = 0 → H_X12_dueOf_6 l q v1 v2 v3 v4 (v5 + ((r19 / 2) + 5)) (v7 + 1) M18) ∧ (v4 = 0 → H_X12_dueOf_6 l q v1 v2 v3 v4 (v5 + ((r19 / 2) + 2)) (v7 + 1) M18))))))))))))) ∧ ((mI M18 76 v7.toNatClampNeg) = 5 → (mR M18 60 15 = some 76 ∧ (vp_in v7 (mN M18 76) ∧ ((¬ (mI M18 76 v7.toNatClampNeg) = 3 → H_X12_dueOf_6 l q v1 v2 v3 v4 (v5 + (2 * r19)) (v7 + 1) M18) ∧ ((mI M18 76 v7.toNatClampNeg) = 3 → ((¬ v4 = 0 → H_X12_dueOf_6 l q v1 v2 v3 v4 (v5 + ((2 * r19) + 5)) (v7 + 1) M18) ∧ (v4 = 0 → H_X12_dueOf_6 l q v1 v2 v3 v4 (v5 + ((2 * r19) + 2)) (v7 + 1) M18)))))))))))))))))))))))))))) : H_X12_dueOf_6 l q v1 v2 v3 v4 v5 v7 M := by
  refine e_iload rfl dX12_dueOf_6 ?_
  refine e_aload_n dX12_dueOf_8 rfl rfl ?_
  refine e_gI flX12_162 rfl rfl dX12_dueOf_9 ?_
  refine e_ic_ge (tgt := 181) dX12_dueOf_12 (by decide) (fun c1 => ?_) (fun c1 => ?_)
  · replace h := h.1 c1
    refine e_lload rfl dX12_dueOf_181 ?_
    exact e_lret rfl trivial dX12_dueOf_183 ⟨_, rfl, h⟩
  · replace h := h.2 c1
    refine e_aload_n dX12_dueOf_15 rfl rfl ?_
    refine e_iload rfl dX12_dueOf_16 ?_
    refine e_iload_n dX12_dueOf_18 rfl rfl ?_
    refine e_callV (As := [iV v7, iV v1]) (st := []) mt_X12_chairOf in_X12_chairOf lkX12_182 rfl rfl ⟨by decide, by decide⟩ (Nat.le_of_ble_eq_true rfl) ⟨by decide, by decide⟩ rfl rfl dX12_dueOf_19 (Ctr.mono h (fun v M2 h => ?_))
    obtain ⟨r3, rfl, h⟩ := h
    show E_X12_dueOf l q 22 [(0, rV (some 60)), (1, iV v1), (2, iV v2), (3, iV v3), (4, iV v4), (5, jV v5), (7, iV v7)] [iV r3] M2 0 0
    refine e_istore (lv' := [(8, iV r3), (0, rV (some 60)), (1, iV v1), (2, iV v2), (3, iV v3), (4, iV v4), (5, jV v5), (7, iV v7)]) (by decide) rfl dX12_dueOf_22 ?_
    refine e_iload rfl dX12_dueOf_24 ?_
    refine e_iconst (v := (-1)) dX12_dueOf_26 (by decide) ?_
    refine e_ic_eq (tgt := 175) dX12_dueOf_27 (by decide) (fun c4 => ?_) (fun c4 => ?_)
    · replace h := h.1 c4
      refine e_iinc (v := 1) (lv' := [(7, iV (v7 + 1)), (8, iV r3), (0, rV (some 60)), (1, iV v1), (2, iV v2), (3, iV v3), (4, iV v4), (5, jV v5)]) rfl (by decide) (by decide) rfl dX12_dueOf_175 ?_
      refine e_goto (tgt := 6) dX12_dueOf_178 (by decide) ?_
      exact e_lv (List.forall_mem_cons.mpr ⟨rfl, List.forall_mem_cons.mpr ⟨rfl, List.forall_mem_cons.mpr ⟨rfl, List.forall_mem_cons.mpr ⟨rfl, List.forall_mem_cons.mpr ⟨rfl, List.forall_mem_cons.mpr ⟨rfl, List.forall_mem_cons.mpr ⟨rfl, fun _ h => absurd h List.not_mem_nil⟩⟩⟩⟩⟩⟩⟩) h
    · replace h := h.2 c4
      refine e_aload_n dX12_dueOf_30 rfl rfl ?_
      obtain ⟨o5, h⟩ := h
      refine e_gA flX12_49 rfl rfl o5 dX12_dueOf_31 ?_
      refine e_iload rfl dX12_dueOf_34 ?_
      obtain ⟨o6, h⟩ := h
      refine e_iald rfl o6 dX12_dueOf_36 ?_
      refine e_iload_n dX12_dueOf_37 rfl rfl ?_
      refine e_iload_n dX12_dueOf_38 rfl rfl ?_
      refine e_callS (As := [iV (mI M2 77 v7.toNatClampNeg), iV v2, iV v3]) (st := []) mt_X12_in is_X12_in lkX12_155 ⟨by decide, by decide⟩ (Nat.le_of_ble_eq_true rfl) ⟨by decide, by decide⟩ rfl rfl dX12_dueOf_39 (Ctr.mono h (fun v M7 h => ?_))
      obtain ⟨r8, rfl, h⟩ := h
      show E_X12_dueOf l q 42 [(8, iV r3), (0, rV (some 60)), (1, iV v1), (2, iV v2), (3, iV v3), (4, iV v4), (5, jV v5), (7, iV v7)] [iV r8] M7 0 0
      refine e_if_eq (tgt := 175) dX12_dueOf_42 (by decide) (fun c9 => ?_) (fun c9 => ?_)
      · replace h := h.1 c9
        refine e_iinc (v := 1) (lv' := [(7, iV (v7 + 1)), (8, iV r3), (0, rV (some 60)), (1, iV v1), (2, iV v2), (3, iV v3), (4, iV v4), (5, jV v5)]) rfl (by decide) (by decide) rfl dX12_dueOf_175 ?_
        refine e_goto (tgt := 6) dX12_dueOf_178 (by decide) ?_
        exact e_lv (List.forall_mem_cons.mpr ⟨rfl, List.forall_mem_cons.mpr ⟨rfl, List.forall_mem_cons.mpr ⟨rfl, List.forall_mem_cons.mpr ⟨rfl, List.forall_mem_cons.mpr ⟨rfl, List.forall_mem_cons.mpr ⟨rfl, List.forall_mem_cons.mpr ⟨rfl, fun _ h => absurd h List.not_mem_nil⟩⟩⟩⟩⟩⟩⟩) h
      · replace h := h.2 c9
        refine e_aload_n dX12_dueOf_45 rfl rfl ?_
        refine e_aload_n dX12_dueOf_46 rfl rfl ?_
        obtain ⟨o10, h⟩ := h
        refine e_gA flX12_49 rfl rfl o10 dX12_dueOf_47 ?_
        refine e_iload rfl dX12_dueOf_50 ?_
        obtain ⟨o11, h⟩ := h
        refine e_iald rfl o11 dX12_dueOf_52 ?_
        refine e_callV (As := [iV (mI M7 77 v7.toNatClampNeg)]) (st := []) mt_X12_textOn in_X12_textOn lkX12_306 rfl rfl ⟨by decide, by decide⟩ (Nat.le_of_ble_eq_true rfl) ⟨by decide, by decide⟩ rfl rfl dX12_dueOf_53 (Ctr.mono h (fun v M12 h => ?_))
        obtain ⟨r13, rfl, h⟩ := h
        show E_X12_dueOf l q 56 [(8, iV r3), (0, rV (some 60)), (1, iV v1), (2, iV v2), (3, iV v3), (4, iV v4), (5, jV v5), (7, iV v7)] [iV r13] M12 0 0
        refine e_istore (lv' := [(9, iV r13), (8, iV r3), (0, rV (some 60)), (1, iV v1), (2, iV v2), (3, iV v3), (4, iV v4), (5, jV v5), (7, iV v7)]) (by decide) rfl dX12_dueOf_56 ?_
        refine e_aload_n dX12_dueOf_58 rfl rfl ?_
        refine e_iload rfl dX12_dueOf_59 ?_
        refine e_aload_n dX12_dueOf_61 rfl rfl ?_
        obtain ⟨o14, h⟩ := h
        refine e_gA flX12_86 rfl rfl o14 dX12_dueOf_62 ?_
        refine e_iload rfl dX12_dueOf_65 ?_
        obtain ⟨o15, h⟩ := h
        refine e_iald rfl o15 dX12_dueOf_67 ?_
        refine e_iload rfl dX12_dueOf_68 ?_
        refine e_iadd dX12_dueOf_70 ?_
        refine e_iload rfl dX12_dueOf_71 ?_
        refine e_iload_n dX12_dueOf_73 rfl rfl ?_
        refine e_aload_n dX12_dueOf_74 rfl rfl ?_
        refine e_iload rfl dX12_dueOf_75 ?_
        refine e_iload rfl dX12_dueOf_77 ?_
        refine e_callV (As := [iV v7, iV r3]) (st := [iV v1, iV v7, iV ((mI M12 91 r13.toNatClampNeg) + v4), iV r13, rV (some 60)]) mt_X12_instrumentOf in_X12_instrumentOf lkX12_321 rfl rfl ⟨by decide, by decide⟩ (Nat.le_of_ble_eq_true rfl) ⟨by decide, by decide⟩ rfl rfl dX12_dueOf_79 (Ctr.mono h (fun v M16 h => ?_))
        obtain ⟨r17, rfl, h⟩ := h
        show E_X12_dueOf l q 82 [(9, iV r13), (8, iV r3), (0, rV (some 60)), (1, iV v1), (2, iV v2), (3, iV v3), (4, iV v4), (5, jV v5), (7, iV v7)] [iV r17, iV v1, iV v7, iV ((mI M12 91 r13.toNatClampNeg) + v4), iV r13, rV (some 60)] M16 0 0
        refine e_callV (As := [iV r13, iV ((mI M12 91 r13.toNatClampNeg) + v4), iV v7, iV v1, iV r17]) (st := []) mt_X12_worthOf in_X12_worthOf lkX12_312 rfl rfl ⟨by decide, by decide⟩ (Nat.le_of_ble_eq_true rfl) ⟨by decide, by decide⟩ rfl rfl dX12_dueOf_82 (Ctr.mono h (fun v M18 h => ?_))
        obtain ⟨r19, rfl, h⟩ := h
        show E_X12_dueOf l q 85 [(9, iV r13), (8, iV r3), (0, rV (some 60)), (1, iV v1), (2, iV v2), (3, iV v3), (4, iV v4), (5, jV v5), (7, iV v7)] [jV r19] M18 0 0
        refine e_lstore (lv' := [(10, jV r19), (9, iV r13), (8, iV r3), (0, rV (some 60)), (1, iV v1), (2, iV v2), (3, iV v3), (4, iV v4), (5, jV v5), (7, iV v7)]) (by decide) rfl dX12_dueOf_85 ?_
        refine e_aload_n dX12_dueOf_87 rfl rfl ?_
        obtain ⟨o20, h⟩ := h
        refine e_gA flX12_46 rfl rfl o20 dX12_dueOf_88 ?_
        refine e_iload rfl dX12_dueOf_91 ?_
        obtain ⟨o21, h⟩ := h
        refine e_iald rfl o21 dX12_dueOf_93 ?_
        refine e_iconst (v := 5) dX12_dueOf_94 (by decide) ?_
        refine e_ic_ne (tgt := 107) dX12_dueOf_95 (by decide) (fun c22 => ?_) (fun c22 => ?_)
        · replace h := h.1 c22
          refine e_aload_n dX12_dueOf_107 rfl rfl ?_
          obtain ⟨o23, h⟩ := h
          refine e_gA flX12_46 rfl rfl o23 dX12_dueOf_108 ?_
          refine e_iload rfl dX12_dueOf_111 ?_
          obtain ⟨o24, h⟩ := h
          refine e_iald rfl o24 dX12_dueOf_113 ?_
          refine e_iconst (v := 4) dX12_dueOf_114 (by decide) ?_
          refine e_ic_ne (tgt := 133) dX12_dueOf_115 (by decide) (fun c25 => ?_) (fun c25 => ?_)
          · replace h := h.1 c25
            refine e_lload rfl dX12_dueOf_133 ?_
            refine e_lstore (lv' := [(10, jV r19), (9, iV r13), (8, iV r3), (0, rV (some 60)), (1, iV v1), (2, iV v2), (3, iV v3), (4, iV v4), (5, jV v5), (7, iV v7)]) (by decide) rfl dX12_dueOf_135 ?_
            refine e_lload rfl dX12_dueOf_137 ?_
            refine e_aload_n dX12_dueOf_139 rfl rfl ?_
            obtain ⟨o26, h⟩ := h
            refine e_gA flX12_46 rfl rfl o26 dX12_dueOf_140 ?_
            refine e_iload rfl dX12_dueOf_143 ?_
            obtain ⟨o27, h⟩ := h
            refine e_iald rfl o27 dX12_dueOf_145 ?_
            refine e_iconst (v := 3) dX12_dueOf_146 (by decide) ?_
            refine e_ic_ne (tgt := 170) dX12_dueOf_147 (by decide) (fun c28 => ?_) (fun c28 => ?_)
            · replace h := h.1 c28
              refine e_lload rfl dX12_dueOf_170 ?_
              refine e_ladd dX12_dueOf_172 ?_
              refine e_lstore (lv' := [(5, jV (v5 + r19)), (10, jV r19), (9, iV r13), (8, iV r3), (0, rV (some 60)), (1, iV v1), (2, iV v2), (3, iV v3), (4, iV v4), (7, iV v7)]) (by decide) rfl dX12_dueOf_173 ?_
              refine e_iinc (v := 1) (lv' := [(7, iV (v7 + 1)), (5, jV (v5 + r19)), (10, jV r19), (9, iV r13), (8, iV r3), (0, rV (some 60)), (1, iV v1), (2, iV v2), (3, iV v3), (4, iV v4)]) rfl (by decide) (by decide) rfl dX12_dueOf_175 ?_
              refine e_goto (tgt := 6) dX12_dueOf_178 (by decide) ?_
              exact e_lv (List.forall_mem_cons.mpr ⟨rfl, List.forall_mem_cons.mpr ⟨rfl, List.forall_mem_cons.mpr ⟨rfl, List.forall_mem_cons.mpr ⟨rfl, List.forall_mem_cons.mpr ⟨rfl, List.forall_mem_cons.mpr ⟨rfl, List.forall_mem_cons.mpr ⟨rfl, fun _ h => absurd h List.not_mem_nil⟩⟩⟩⟩⟩⟩⟩) h
            · replace h := h.2 c28
              refine e_lload rfl dX12_dueOf_150 ?_
              refine e_iload rfl dX12_dueOf_152 ?_
              refine e_if_ne (tgt := 163) dX12_dueOf_154 (by decide) (fun c29 => ?_) (fun c29 => ?_)
              · replace h := h.1 c29
                refine e_ldc2 kcX12_332 dX12_dueOf_163 ?_
                refine e_ladd dX12_dueOf_166 ?_
                refine e_goto (tgt := 172) dX12_dueOf_167 (by decide) ?_
                refine e_ladd dX12_dueOf_172 ?_
                refine e_lstore (lv' := [(5, jV (v5 + (r19 + 5))), (10, jV r19), (9, iV r13), (8, iV r3), (0, rV (some 60)), (1, iV v1), (2, iV v2), (3, iV v3), (4, iV v4), (7, iV v7)]) (by decide) rfl dX12_dueOf_173 ?_
                refine e_iinc (v := 1) (lv' := [(7, iV (v7 + 1)), (5, jV (v5 + (r19 + 5))), (10, jV r19), (9, iV r13), (8, iV r3), (0, rV (some 60)), (1, iV v1), (2, iV v2), (3, iV v3), (4, iV v4)]) rfl (by decide) (by decide) rfl dX12_dueOf_175 ?_
                refine e_goto (tgt := 6) dX12_dueOf_178 (by decide) ?_
                exact e_lv (List.forall_mem_cons.mpr ⟨rfl, List.forall_mem_cons.mpr ⟨rfl, List.forall_mem_cons.mpr ⟨rfl, List.forall_mem_cons.mpr ⟨rfl, List.forall_mem_cons.mpr ⟨rfl, List.forall_mem_cons.mpr ⟨rfl, List.forall_mem_cons.mpr ⟨rfl, fun _ h => absurd h List.not_mem_nil⟩⟩⟩⟩⟩⟩⟩) h
              · replace h := h.2 c29
                refine e_ldc2 kcX12_330 dX12_dueOf_157 ?_
                refine e_goto (tgt := 166) dX12_dueOf_160 (by decide) ?_
                refine e_ladd dX12_dueOf_166 ?_
                refine e_goto (tgt := 172) dX12_dueOf_167 (by decide) ?_
                refine e_ladd dX12_dueOf_172 ?_
                refine e_lstore (lv' := [(5, jV (v5 + (r19 + 2))), (10, jV r19), (9, iV r13), (8, iV r3), (0, rV (some 60)), (1, iV v1), (2, iV v2), (3, iV v3), (4, iV v4), (7, iV v7)]) (by decide) rfl dX12_dueOf_173 ?_
                refine e_iinc (v := 1) (lv' := [(7, iV (v7 + 1)), (5, jV (v5 + (r19 + 2))), (10, jV r19), (9, iV r13), (8, iV r3), (0, rV (some 60)), (1, iV v1), (2, iV v2), (3, iV v3), (4, iV v4)]) rfl (by decide) (by decide) rfl dX12_dueOf_175 ?_
                refine e_goto (tgt := 6) dX12_dueOf_178 (by decide) ?_
                exact e_lv (List.forall_mem_cons.mpr ⟨rfl, List.forall_mem_cons.mpr ⟨rfl, List.forall_mem_cons.mpr ⟨rfl, List.forall_mem_cons.mpr ⟨rfl, List.forall_mem_cons.mpr ⟨rfl, List.forall_mem_cons.mpr ⟨rfl, List.forall_mem_cons.mpr ⟨rfl, fun _ h => absurd h List.not_mem_nil⟩⟩⟩⟩⟩⟩⟩) h
          · replace h := h.2 c25
            refine e_iload rfl dX12_dueOf_118 ?_
            refine e_iconst (v := 1) dX12_dueOf_120 (by decide) ?_
            refine e_ic_ne (tgt := 133) dX12_dueOf_121 (by decide) (fun c30 => ?_) (fun c30 => ?_)
            · replace h := h.1 c30
              refine e_lload rfl dX12_dueOf_133 ?_
              refine e_lstore (lv' := [(10, jV r19), (9, iV r13), (8, iV r3), (0, rV (some 60)), (1, iV v1), (2, iV v2), (3, iV v3), (4, iV v4), (5, jV v5), (7, iV v7)]) (by decide) rfl dX12_dueOf_135 ?_
              refine e_lload rfl dX12_dueOf_137 ?_
              refine e_aload_n dX12_dueOf_139 rfl rfl ?_
              obtain ⟨o31, h⟩ := h
              refine e_gA flX12_46 rfl rfl o31 dX12_dueOf_140 ?_
              refine e_iload rfl dX12_dueOf_143 ?_
              obtain ⟨o32, h⟩ := h
              refine e_iald rfl o32 dX12_dueOf_145 ?_
              refine e_iconst (v := 3) dX12_dueOf_146 (by decide) ?_
              refine e_ic_ne (tgt := 170) dX12_dueOf_147 (by decide) (fun c33 => ?_) (fun c33 => ?_)
              · replace h := h.1 c33
                refine e_lload rfl dX12_dueOf_170 ?_
                refine e_ladd dX12_dueOf_172 ?_
                refine e_lstore (lv' := [(5, jV (v5 + r19)), (10, jV r19), (9, iV r13), (8, iV r3), (0, rV (some 60)), (1, iV v1), (2, iV v2), (3, iV v3), (4, iV v4), (7, iV v7)]) (by decide) rfl dX12_dueOf_173 ?_
                refine e_iinc (v := 1) (lv' := [(7, iV (v7 + 1)), (5, jV (v5 + r19)), (10, jV r19), (9, iV r13), (8, iV r3), (0, rV (some 60)), (1, iV v1), (2, iV v2), (3, iV v3), (4, iV v4)]) rfl (by decide) (by decide) rfl dX12_dueOf_175 ?_
                refine e_goto (tgt := 6) dX12_dueOf_178 (by decide) ?_
                exact e_lv (List.forall_mem_cons.mpr ⟨rfl, List.forall_mem_cons.mpr ⟨rfl, List.forall_mem_cons.mpr ⟨rfl, List.forall_mem_cons.mpr ⟨rfl, List.forall_mem_cons.mpr ⟨rfl, List.forall_mem_cons.mpr ⟨rfl, List.forall_mem_cons.mpr ⟨rfl, fun _ h => absurd h List.not_mem_nil⟩⟩⟩⟩⟩⟩⟩) h
              · replace h := h.2 c33
                refine e_lload rfl dX12_dueOf_150 ?_
                refine e_iload rfl dX12_dueOf_152 ?_
                refine e_if_ne (tgt := 163) dX12_dueOf_154 (by decide) (fun c34 => ?_) (fun c34 => ?_)
                · replace h := h.1 c34
                  refine e_ldc2 kcX12_332 dX12_dueOf_163 ?_
                  refine e_ladd dX12_dueOf_166 ?_
                  refine e_goto (tgt := 172) dX12_dueOf_167 (by decide) ?_
                  refine e_ladd dX12_dueOf_172 ?_
                  refine e_lstore (lv' := [(5, jV (v5 + (r19 + 5))), (10, jV r19), (9, iV r13), (8, iV r3), (0, rV (some 60)), (1, iV v1), (2, iV v2), (3, iV v3), (4, iV v4), (7, iV v7)]) (by decide) rfl dX12_dueOf_173 ?_
                  refine e_iinc (v := 1) (lv' := [(7, iV (v7 + 1)), (5, jV (v5 + (r19 + 5))), (10, jV r19), (9, iV r13), (8, iV r3), (0, rV (some 60)), (1, iV v1), (2, iV v2), (3, iV v3), (4, iV v4)]) rfl (by decide) (by decide) rfl dX12_dueOf_175 ?_
                  refine e_goto (tgt := 6) dX12_dueOf_178 (by decide) ?_
                  exact e_lv (List.forall_mem_cons.mpr ⟨rfl, List.forall_mem_cons.mpr ⟨rfl, List.forall_mem_cons.mpr ⟨rfl, List.forall_mem_cons.mpr ⟨rfl, List.forall_mem_cons.mpr ⟨rfl, List.forall_mem_cons.mpr ⟨rfl, List.forall_mem_cons.mpr ⟨rfl, fun _ h => absurd h List.not_mem_nil⟩⟩⟩⟩⟩⟩⟩) h
                · replace h := h.2 c34
                  refine e_ldc2 kcX12_330 dX12_dueOf_157 ?_
                  refine e_goto (tgt := 166) dX12_dueOf_160 (by decide) ?_
                  refine e_ladd dX12_dueOf_166 ?_
                  refine e_goto (tgt := 172) dX12_dueOf_167 (by decide) ?_
                  refine e_ladd dX12_dueOf_172 ?_
                  refine e_lstore (lv' := [(5, jV (v5 + (r19 + 2))), (10, jV r19), (9, iV r13), (8, iV r3), (0, rV (some 60)), (1, iV v1), (2, iV v2), (3, iV v3), (4, iV v4), (7, iV v7)]) (by decide) rfl dX12_dueOf_173 ?_
                  refine e_iinc (v := 1) (lv' := [(7, iV (v7 + 1)), (5, jV (v5 + (r19 + 2))), (10, jV r19), (9, iV r13), (8, iV r3), (0, rV (some 60)), (1, iV v1), (2, iV v2), (3, iV v3), (4, iV v4)]) rfl (by decide) (by decide) rfl dX12_dueOf_175 ?_
                  refine e_goto (tgt := 6) dX12_dueOf_178 (by decide) ?_
                  exact e_lv (List.forall_mem_cons.mpr ⟨rfl, List.forall_mem_cons.mpr ⟨rfl, List.forall_mem_cons.mpr ⟨rfl, List.forall_mem_cons.mpr ⟨rfl, List.forall_mem_cons.mpr ⟨rfl, List.forall_mem_cons.mpr ⟨rfl, List.forall_mem_cons.mpr ⟨rfl, fun _ h => absurd h List.not_mem_nil⟩⟩⟩⟩⟩⟩⟩) h
            · replace h := h.2 c30
              refine e_lload rfl dX12_dueOf_124 ?_
              refine e_ldc2 kcX12_330 dX12_dueOf_126 ?_
              refine e_ldiv dX12_dueOf_129 (by decide) ?_
              refine e_goto (tgt := 135) dX12_dueOf_130 (by decide) ?_
              refine e_lstore (lv' := [(10, jV (r19 / 2)), (9, iV r13), (8, iV r3), (0, rV (some 60)), (1, iV v1), (2, iV v2), (3, iV v3), (4, iV v4), (5, jV v5), (7, iV v7)]) (by decide) rfl dX12_dueOf_135 ?_
              refine e_lload rfl dX12_dueOf_137 ?_
              refine e_aload_n dX12_dueOf_139 rfl rfl ?_
              obtain ⟨o35, h⟩ := h
              refine e_gA flX12_46 rfl rfl o35 dX12_dueOf_140 ?_
              refine e_iload rfl dX12_dueOf_143 ?_
              obtain ⟨o36, h⟩ := h
              refine e_iald rfl o36 dX12_dueOf_145 ?_
              refine e_iconst (v := 3) dX12_dueOf_146 (by decide) ?_
              refine e_ic_ne (tgt := 170) dX12_dueOf_147 (by decide) (fun c37 => ?_) (fun c37 => ?_)
              · replace h := h.1 c37
                refine e_lload rfl dX12_dueOf_170 ?_
                refine e_ladd dX12_dueOf_172 ?_
                refine e_lstore (lv' := [(5, jV (v5 + (r19 / 2))), (10, jV (r19 / 2)), (9, iV r13), (8, iV r3), (0, rV (some 60)), (1, iV v1), (2, iV v2), (3, iV v3), (4, iV v4), (7, iV v7)]) (by decide) rfl dX12_dueOf_173 ?_
                refine e_iinc (v := 1) (lv' := [(7, iV (v7 + 1)), (5, jV (v5 + (r19 / 2))), (10, jV (r19 / 2)), (9, iV r13), (8, iV r3), (0, rV (some 60)), (1, iV v1), (2, iV v2), (3, iV v3), (4, iV v4)]) rfl (by decide) (by decide) rfl dX12_dueOf_175 ?_
                refine e_goto (tgt := 6) dX12_dueOf_178 (by decide) ?_
                exact e_lv (List.forall_mem_cons.mpr ⟨rfl, List.forall_mem_cons.mpr ⟨rfl, List.forall_mem_cons.mpr ⟨rfl, List.forall_mem_cons.mpr ⟨rfl, List.forall_mem_cons.mpr ⟨rfl, List.forall_mem_cons.mpr ⟨rfl, List.forall_mem_cons.mpr ⟨rfl, fun _ h => absurd h List.not_mem_nil⟩⟩⟩⟩⟩⟩⟩) h
              · replace h := h.2 c37
                refine e_lload rfl dX12_dueOf_150 ?_
                refine e_iload rfl dX12_dueOf_152 ?_
                refine e_if_ne (tgt := 163) dX12_dueOf_154 (by decide) (fun c38 => ?_) (fun c38 => ?_)
                · replace h := h.1 c38
                  refine e_ldc2 kcX12_332 dX12_dueOf_163 ?_
                  refine e_ladd dX12_dueOf_166 ?_
                  refine e_goto (tgt := 172) dX12_dueOf_167 (by decide) ?_
                  refine e_ladd dX12_dueOf_172 ?_
                  refine e_lstore (lv' := [(5, jV (v5 + ((r19 / 2) + 5))), (10, jV (r19 / 2)), (9, iV r13), (8, iV r3), (0, rV (some 60)), (1, iV v1), (2, iV v2), (3, iV v3), (4, iV v4), (7, iV v7)]) (by decide) rfl dX12_dueOf_173 ?_
                  refine e_iinc (v := 1) (lv' := [(7, iV (v7 + 1)), (5, jV (v5 + ((r19 / 2) + 5))), (10, jV (r19 / 2)), (9, iV r13), (8, iV r3), (0, rV (some 60)), (1, iV v1), (2, iV v2), (3, iV v3), (4, iV v4)]) rfl (by decide) (by decide) rfl dX12_dueOf_175 ?_
                  refine e_goto (tgt := 6) dX12_dueOf_178 (by decide) ?_
                  exact e_lv (List.forall_mem_cons.mpr ⟨rfl, List.forall_mem_cons.mpr ⟨rfl, List.forall_mem_cons.mpr ⟨rfl, List.forall_mem_cons.mpr ⟨rfl, List.forall_mem_cons.mpr ⟨rfl, List.forall_mem_cons.mpr ⟨rfl, List.forall_mem_cons.mpr ⟨rfl, fun _ h => absurd h List.not_mem_nil⟩⟩⟩⟩⟩⟩⟩) h
                · replace h := h.2 c38
                  refine e_ldc2 kcX12_330 dX12_dueOf_157 ?_
                  refine e_goto (tgt := 166) dX12_dueOf_160 (by decide) ?_
                  refine e_ladd dX12_dueOf_166 ?_
                  refine e_goto (tgt := 172) dX12_dueOf_167 (by decide) ?_
                  refine e_ladd dX12_dueOf_172 ?_
                  refine e_lstore (lv' := [(5, jV (v5 + ((r19 / 2) + 2))), (10, jV (r19 / 2)), (9, iV r13), (8, iV r3), (0, rV (some 60)), (1, iV v1), (2, iV v2), (3, iV v3), (4, iV v4), (7, iV v7)]) (by decide) rfl dX12_dueOf_173 ?_
                  refine e_iinc (v := 1) (lv' := [(7, iV (v7 + 1)), (5, jV (v5 + ((r19 / 2) + 2))), (10, jV (r19 / 2)), (9, iV r13), (8, iV r3), (0, rV (some 60)), (1, iV v1), (2, iV v2), (3, iV v3), (4, iV v4)]) rfl (by decide) (by decide) rfl dX12_dueOf_175 ?_
                  refine e_goto (tgt := 6) dX12_dueOf_178 (by decide) ?_
                  exact e_lv (List.forall_mem_cons.mpr ⟨rfl, List.forall_mem_cons.mpr ⟨rfl, List.forall_mem_cons.mpr ⟨rfl, List.forall_mem_cons.mpr ⟨rfl, List.forall_mem_cons.mpr ⟨rfl, List.forall_mem_cons.mpr ⟨rfl, List.forall_mem_cons.mpr ⟨rfl, fun _ h => absurd h List.not_mem_nil⟩⟩⟩⟩⟩⟩⟩) h
        · replace h := h.2 c22
          refine e_ldc2 kcX12_330 dX12_dueOf_98 ?_
          refine e_lload rfl dX12_dueOf_101 ?_
          refine e_lmul dX12_dueOf_103 ?_
          refine e_goto (tgt := 135) dX12_dueOf_104 (by decide) ?_
          refine e_lstore (lv' := [(10, jV (2 * r19)), (9, iV r13), (8, iV r3), (0, rV (some 60)), (1, iV v1), (2, iV v2), (3, iV v3), (4, iV v4), (5, jV v5), (7, iV v7)]) (by decide) rfl dX12_dueOf_135 ?_
          refine e_lload rfl dX12_dueOf_137 ?_
          refine e_aload_n dX12_dueOf_139 rfl rfl ?_
          obtain ⟨o39, h⟩ := h
          refine e_gA flX12_46 rfl rfl o39 dX12_dueOf_140 ?_
          refine e_iload rfl dX12_dueOf_143 ?_
          obtain ⟨o40, h⟩ := h
          refine e_iald rfl o40 dX12_dueOf_145 ?_
          refine e_iconst (v := 3) dX12_dueOf_146 (by decide) ?_
          refine e_ic_ne (tgt := 170) dX12_dueOf_147 (by decide) (fun c41 => ?_) (fun c41 => ?_)
          · replace h := h.1 c41
            refine e_lload rfl dX12_dueOf_170 ?_
            refine e_ladd dX12_dueOf_172 ?_
            refine e_lstore (lv' := [(5, jV (v5 + (2 * r19))), (10, jV (2 * r19)), (9, iV r13), (8, iV r3), (0, rV (some 60)), (1, iV v1), (2, iV v2), (3, iV v3), (4, iV v4), (7, iV v7)]) (by decide) rfl dX12_dueOf_173 ?_
            refine e_iinc (v := 1) (lv' := [(7, iV (v7 + 1)), (5, jV (v5 + (2 * r19))), (10, jV (2 * r19)), (9, iV r13), (8, iV r3), (0, rV (some 60)), (1, iV v1), (2, iV v2), (3, iV v3), (4, iV v4)]) rfl (by decide) (by decide) rfl dX12_dueOf_175 ?_
            refine e_goto (tgt := 6) dX12_dueOf_178 (by decide) ?_
            exact e_lv (List.forall_mem_cons.mpr ⟨rfl, List.forall_mem_cons.mpr ⟨rfl, List.forall_mem_cons.mpr ⟨rfl, List.forall_mem_cons.mpr ⟨rfl, List.forall_mem_cons.mpr ⟨rfl, List.forall_mem_cons.mpr ⟨rfl, List.forall_mem_cons.mpr ⟨rfl, fun _ h => absurd h List.not_mem_nil⟩⟩⟩⟩⟩⟩⟩) h
          · replace h := h.2 c41
            refine e_lload rfl dX12_dueOf_150 ?_
            refine e_iload rfl dX12_dueOf_152 ?_
            refine e_if_ne (tgt := 163) dX12_dueOf_154 (by decide) (fun c42 => ?_) (fun c42 => ?_)
            · replace h := h.1 c42
              refine e_ldc2 kcX12_332 dX12_dueOf_163 ?_
              refine e_ladd dX12_dueOf_166 ?_
              refine e_goto (tgt := 172) dX12_dueOf_167 (by decide) ?_
              refine e_ladd dX12_dueOf_172 ?_
              refine e_lstore (lv' := [(5, jV (v5 + ((2 * r19) + 5))), (10, jV (2 * r19)), (9, iV r13), (8, iV r3), (0, rV (some 60)), (1, iV v1), (2, iV v2), (3, iV v3), (4, iV v4), (7, iV v7)]) (by decide) rfl dX12_dueOf_173 ?_
              refine e_iinc (v := 1) (lv' := [(7, iV (v7 + 1)), (5, jV (v5 + ((2 * r19) + 5))), (10, jV (2 * r19)), (9, iV r13), (8, iV r3), (0, rV (some 60)), (1, iV v1), (2, iV v2), (3, iV v3), (4, iV v4)]) rfl (by decide) (by decide) rfl dX12_dueOf_175 ?_
              refine e_goto (tgt := 6) dX12_dueOf_178 (by decide) ?_
              exact e_lv (List.forall_mem_cons.mpr ⟨rfl, List.forall_mem_cons.mpr ⟨rfl, List.forall_mem_cons.mpr ⟨rfl, List.forall_mem_cons.mpr ⟨rfl, List.forall_mem_cons.mpr ⟨rfl, List.forall_mem_cons.mpr ⟨rfl, List.forall_mem_cons.mpr ⟨rfl, fun _ h => absurd h List.not_mem_nil⟩⟩⟩⟩⟩⟩⟩) h
            · replace h := h.2 c42
              refine e_ldc2 kcX12_330 dX12_dueOf_157 ?_
              refine e_goto (tgt := 166) dX12_dueOf_160 (by decide) ?_
              refine e_ladd dX12_dueOf_166 ?_
              refine e_goto (tgt := 172) dX12_dueOf_167 (by decide) ?_
              refine e_ladd dX12_dueOf_172 ?_
              refine e_lstore (lv' := [(5, jV (v5 + ((2 * r19) + 2))), (10, jV (2 * r19)), (9, iV r13), (8, iV r3), (0, rV (some 60)), (1, iV v1), (2, iV v2), (3, iV v3), (4, iV v4), (7, iV v7)]) (by decide) rfl dX12_dueOf_173 ?_
              refine e_iinc (v := 1) (lv' := [(7, iV (v7 + 1)), (5, jV (v5 + ((2 * r19) + 2))), (10, jV (2 * r19)), (9, iV r13), (8, iV r3), (0, rV (some 60)), (1, iV v1), (2, iV v2), (3, iV v3), (4, iV v4)]) rfl (by decide) (by decide) rfl dX12_dueOf_175 ?_
              refine e_goto (tgt := 6) dX12_dueOf_178 (by decide) ?_
              exact e_lv (List.forall_mem_cons.mpr ⟨rfl, List.forall_mem_cons.mpr ⟨rfl, List.forall_mem_cons.mpr ⟨rfl, List.forall_mem_cons.mpr ⟨rfl, List.forall_mem_cons.mpr ⟨rfl, List.forall_mem_cons.mpr ⟨rfl, List.forall_mem_cons.mpr ⟨rfl, fun _ h => absurd h List.not_mem_nil⟩⟩⟩⟩⟩⟩⟩) h
abbrev H_X12_hinders_44 (l : Launch) (q : Int32 → o_M → Prop) (v1 : Int32) (v2 : Int32) (v3 : Int32) (v4 : Int32) (M : o_M) : Prop := E_X12_hinders l q 44 [(0, rV (some 60)), (1, iV v1), (2, iV v2), (3, iV v3), (4, iV v4)] [] M 0 0
abbrev H_X12_hinders_121 (l : Launch) (q : Int32 → o_M → Prop) (v1 : Int32) (v2 : Int32) (v3 : Int32) (v4 : Int32) (v5 : Int32) (M : o_M) : Prop := E_X12_hinders l q 121 [(0, rV (some 60)), (1, iV v1), (2, iV v2), (3, iV v3), (4, iV v4), (5, iV v5)] [] M 0 0
theorem w_X12_hinders (l : Launch) (p1 : Int32) (p2 : Int32) (p3 : Int32) (M : o_M) (q : Int32 → o_M → Prop) (h : (mR M 60 8 = some 69 ∧ (vp_in p2 (mN M 69) ∧ (((mI M 69 p2.toNatClampNeg) = p3 → (mR M 60 16 = some 77 ∧ (vp_in p1 (mN M 77) ∧ K_X12_isAway l [rV (some 60), iV p2, iV (mI M 77 p1.toNatClampNeg)] M (fun r7 M6 => ((r7 = 0 → H_X12_hinders_44 l q p1 p2 p3 0 M6) ∧ (¬ r7 = 0 → q 2 M6)))))) ∧ (¬ (mI M 69 p2.toNatClampNeg) = p3 → (mR M 60 9 = some 70 ∧ (vp_in p2 (mN M 70) ∧ ((¬ (((mI M 70 p2.toNatClampNeg) >>> (p3 &&& 31)) &&& 1) = 0 → (mR M 60 16 = some 77 ∧ (vp_in p1 (mN M 77) ∧ K_X12_isAway l [rV (some 60), iV p2, iV (mI M 77 p1.toNatClampNeg)] M (fun r15 M14 => ((r15 = 0 → H_X12_hinders_44 l q p1 p2 p3 0 M14) ∧ (¬ r15 = 0 → q 2 M14)))))) ∧ ((((mI M 70 p2.toNatClampNeg) >>> (p3 &&& 31)) &&& 1) = 0 → q 1 M))))))))) : K_X12_hinders l [rV (some 60), iV p1, iV p2, iV p3] M q := by
  refine o_ctr (ini := false) (by decide +kernel) rfl (fun z => by cases z) (Nat.le_of_ble_eq_true rfl) ?_
  show E_X12_hinders l q 0 [(0, rV (some 60)), (1, iV p1), (2, iV p2), (3, iV p3)] [] M 0 0
  refine e_aload_n dX12_hinders_0 rfl rfl ?_
  obtain ⟨o1, h⟩ := h
  refine e_gA flX12_28 rfl rfl o1 dX12_hinders_1 ?_
  refine e_iload_n dX12_hinders_4 rfl rfl ?_
  obtain ⟨o2, h⟩ := h
  refine e_iald rfl o2 dX12_hinders_5 ?_
  refine e_iload_n dX12_hinders_6 rfl rfl ?_
  refine e_ic_eq (tgt := 25) dX12_hinders_7 (by decide) (fun c3 => ?_) (fun c3 => ?_)
  · replace h := h.1 c3
    refine e_aload_n dX12_hinders_25 rfl rfl ?_
    refine e_iload_n dX12_hinders_26 rfl rfl ?_
    refine e_aload_n dX12_hinders_27 rfl rfl ?_
    obtain ⟨o4, h⟩ := h
    refine e_gA flX12_49 rfl rfl o4 dX12_hinders_28 ?_
    refine e_iload_n dX12_hinders_31 rfl rfl ?_
    obtain ⟨o5, h⟩ := h
    refine e_iald rfl o5 dX12_hinders_32 ?_
    refine e_callV (As := [iV p2, iV (mI M 77 p1.toNatClampNeg)]) (st := []) mt_X12_isAway in_X12_isAway lkX12_309 rfl rfl ⟨by decide, by decide⟩ (Nat.le_of_ble_eq_true rfl) ⟨by decide, by decide⟩ rfl rfl dX12_hinders_33 (Ctr.mono h (fun v M6 h => ?_))
    obtain ⟨r7, rfl, h⟩ := h
    show E_X12_hinders l q 36 [(0, rV (some 60)), (1, iV p1), (2, iV p2), (3, iV p3)] [iV r7] M6 0 0
    refine e_if_eq (tgt := 41) dX12_hinders_36 (by decide) (fun c8 => ?_) (fun c8 => ?_)
    · replace h := h.1 c8
      refine e_iconst (v := 0) dX12_hinders_41 (by decide) ?_
      refine e_istore (lv' := [(4, iV 0), (0, rV (some 60)), (1, iV p1), (2, iV p2), (3, iV p3)]) (by decide) rfl dX12_hinders_42 ?_
      exact e_lv (List.forall_mem_cons.mpr ⟨rfl, List.forall_mem_cons.mpr ⟨rfl, List.forall_mem_cons.mpr ⟨rfl, List.forall_mem_cons.mpr ⟨rfl, List.forall_mem_cons.mpr ⟨rfl, fun _ h => absurd h List.not_mem_nil⟩⟩⟩⟩⟩) h
    · replace h := h.2 c8
      refine e_iconst (v := 2) dX12_hinders_39 (by decide) ?_
      exact e_iret rfl trivial dX12_hinders_40 ⟨_, rfl, h⟩
  · replace h := h.2 c3
    refine e_aload_n dX12_hinders_10 rfl rfl ?_
    obtain ⟨o9, h⟩ := h
    refine e_gA flX12_31 rfl rfl o9 dX12_hinders_11 ?_
    refine e_iload_n dX12_hinders_14 rfl rfl ?_
    obtain ⟨o10, h⟩ := h
    refine e_iald rfl o10 dX12_hinders_15 ?_
    refine e_iload_n dX12_hinders_16 rfl rfl ?_
    refine e_ishr dX12_hinders_17 ?_
    refine e_iconst (v := 1) dX12_hinders_18 (by decide) ?_
    refine e_iand dX12_hinders_19 ?_
    refine e_if_ne (tgt := 25) dX12_hinders_20 (by decide) (fun c11 => ?_) (fun c11 => ?_)
    · replace h := h.1 c11
      refine e_aload_n dX12_hinders_25 rfl rfl ?_
      refine e_iload_n dX12_hinders_26 rfl rfl ?_
      refine e_aload_n dX12_hinders_27 rfl rfl ?_
      obtain ⟨o12, h⟩ := h
      refine e_gA flX12_49 rfl rfl o12 dX12_hinders_28 ?_
      refine e_iload_n dX12_hinders_31 rfl rfl ?_
      obtain ⟨o13, h⟩ := h
      refine e_iald rfl o13 dX12_hinders_32 ?_
      refine e_callV (As := [iV p2, iV (mI M 77 p1.toNatClampNeg)]) (st := []) mt_X12_isAway in_X12_isAway lkX12_309 rfl rfl ⟨by decide, by decide⟩ (Nat.le_of_ble_eq_true rfl) ⟨by decide, by decide⟩ rfl rfl dX12_hinders_33 (Ctr.mono h (fun v M14 h => ?_))
      obtain ⟨r15, rfl, h⟩ := h
      show E_X12_hinders l q 36 [(0, rV (some 60)), (1, iV p1), (2, iV p2), (3, iV p3)] [iV r15] M14 0 0
      refine e_if_eq (tgt := 41) dX12_hinders_36 (by decide) (fun c16 => ?_) (fun c16 => ?_)
      · replace h := h.1 c16
        refine e_iconst (v := 0) dX12_hinders_41 (by decide) ?_
        refine e_istore (lv' := [(4, iV 0), (0, rV (some 60)), (1, iV p1), (2, iV p2), (3, iV p3)]) (by decide) rfl dX12_hinders_42 ?_
        exact e_lv (List.forall_mem_cons.mpr ⟨rfl, List.forall_mem_cons.mpr ⟨rfl, List.forall_mem_cons.mpr ⟨rfl, List.forall_mem_cons.mpr ⟨rfl, List.forall_mem_cons.mpr ⟨rfl, fun _ h => absurd h List.not_mem_nil⟩⟩⟩⟩⟩) h
      · replace h := h.2 c16
        refine e_iconst (v := 2) dX12_hinders_39 (by decide) ?_
        exact e_iret rfl trivial dX12_hinders_40 ⟨_, rfl, h⟩
    · replace h := h.2 c11
      refine e_iconst (v := 1) dX12_hinders_23 (by decide) ?_
      exact e_iret rfl trivial dX12_hinders_24 ⟨_, rfl, h⟩
theorem w_X12_hinders_44 (l : Launch) (q : Int32 → o_M → Prop) (v1 : Int32) (v2 : Int32) (v3 : Int32) (v4 : Int32) (M : o_M) (h : (((mI M 60 14) ≤ v4 → (mR M 60 16 = some 77 ∧ (vp_in v1 (mN M 77) ∧ K_X12_textOn l [rV (some 60), iV (mI M 77 v1.toNatClampNeg)] M (fun r21 M20 => H_X12_hinders_121 l q v1 v2 v3 r21 0 M20)))) ∧ (¬ (mI M 60 14) ≤ v4 → ((v4 = v1 → H_X12_hinders_44 l q v1 v2 v3 (v4 + 1) M) ∧ (¬ v4 = v1 → K_X12_ends l [rV (some 60), iV v4] M (fun r24 M23 => K_X12_begins l [rV (some 60), iV v1] M23 (fun r26 M25 => ((r24 ≤ r26 → H_X12_hinders_44 l q v1 v2 v3 (v4 + 1) M25) ∧ (¬ r24 ≤ r26 → K_X12_ends l [rV (some 60), iV v1] M25 (fun r29 M28 => K_X12_begins l [rV (some 60), iV v4] M28 (fun r31 M30 => ((r29 ≤ r31 → H_X12_hinders_44 l q v1 v2 v3 (v4 + 1) M30) ∧ (¬ r29 ≤ r31 → K_X12_chairOf l [rV (some 60), iV v4, iV v2] M30 (fun r34 M33 => ((r34 = (-1) → H_X12_hinders_44 l q v1 v2 v3 (v4 + 1) M33) ∧ (¬ r34 = (-1) → q 3 M33)))))))))))))))) : H_X12_hinders_44 l q v1 v2 v3 v4 M := by
  refine e_iload rfl dX12_hinders_44 ?_
  refine e_aload_n dX12_hinders_46 rfl rfl ?_
  refine e_gI flX12_162 rfl rfl dX12_hinders_47 ?_
  refine e_ic_ge (tgt := 106) dX12_hinders_50 (by decide) (fun c17 => ?_) (fun c17 => ?_)
  · replace h := h.1 c17
    refine e_aload_n dX12_hinders_106 rfl rfl ?_
    refine e_aload_n dX12_hinders_107 rfl rfl ?_
    obtain ⟨o18, h⟩ := h
    refine e_gA flX12_49 rfl rfl o18 dX12_hinders_108 ?_
    refine e_iload_n dX12_hinders_111 rfl rfl ?_
    obtain ⟨o19, h⟩ := h
    refine e_iald rfl o19 dX12_hinders_112 ?_
    refine e_callV (As := [iV (mI M 77 v1.toNatClampNeg)]) (st := []) mt_X12_textOn in_X12_textOn lkX12_306 rfl rfl ⟨by decide, by decide⟩ (Nat.le_of_ble_eq_true rfl) ⟨by decide, by decide⟩ rfl rfl dX12_hinders_113 (Ctr.mono h (fun v M20 h => ?_))
    obtain ⟨r21, rfl, h⟩ := h
    show E_X12_hinders l q 116 [(0, rV (some 60)), (1, iV v1), (2, iV v2), (3, iV v3), (4, iV v4)] [iV r21] M20 0 0
    refine e_istore (lv' := [(4, iV r21), (0, rV (some 60)), (1, iV v1), (2, iV v2), (3, iV v3)]) (by decide) rfl dX12_hinders_116 ?_
    refine e_iconst (v := 0) dX12_hinders_118 (by decide) ?_
    refine e_istore (lv' := [(5, iV 0), (4, iV r21), (0, rV (some 60)), (1, iV v1), (2, iV v2), (3, iV v3)]) (by decide) rfl dX12_hinders_119 ?_
    exact e_lv (List.forall_mem_cons.mpr ⟨rfl, List.forall_mem_cons.mpr ⟨rfl, List.forall_mem_cons.mpr ⟨rfl, List.forall_mem_cons.mpr ⟨rfl, List.forall_mem_cons.mpr ⟨rfl, List.forall_mem_cons.mpr ⟨rfl, fun _ h => absurd h List.not_mem_nil⟩⟩⟩⟩⟩⟩) h
  · replace h := h.2 c17
    refine e_iload rfl dX12_hinders_53 ?_
    refine e_iload_n dX12_hinders_55 rfl rfl ?_
    refine e_ic_eq (tgt := 100) dX12_hinders_56 (by decide) (fun c22 => ?_) (fun c22 => ?_)
    · replace h := h.1 c22
      refine e_iinc (v := 1) (lv' := [(4, iV (v4 + 1)), (0, rV (some 60)), (1, iV v1), (2, iV v2), (3, iV v3)]) rfl (by decide) (by decide) rfl dX12_hinders_100 ?_
      refine e_goto (tgt := 44) dX12_hinders_103 (by decide) ?_
      exact e_lv (List.forall_mem_cons.mpr ⟨rfl, List.forall_mem_cons.mpr ⟨rfl, List.forall_mem_cons.mpr ⟨rfl, List.forall_mem_cons.mpr ⟨rfl, List.forall_mem_cons.mpr ⟨rfl, fun _ h => absurd h List.not_mem_nil⟩⟩⟩⟩⟩) h
    · replace h := h.2 c22
      refine e_aload_n dX12_hinders_59 rfl rfl ?_
      refine e_iload rfl dX12_hinders_60 ?_
      refine e_callV (As := [iV v4]) (st := []) mt_X12_ends in_X12_ends lkX12_284 rfl rfl ⟨by decide, by decide⟩ (Nat.le_of_ble_eq_true rfl) ⟨by decide, by decide⟩ rfl rfl dX12_hinders_62 (Ctr.mono h (fun v M23 h => ?_))
      obtain ⟨r24, rfl, h⟩ := h
      show E_X12_hinders l q 65 [(0, rV (some 60)), (1, iV v1), (2, iV v2), (3, iV v3), (4, iV v4)] [iV r24] M23 0 0
      refine e_aload_n dX12_hinders_65 rfl rfl ?_
      refine e_iload_n dX12_hinders_66 rfl rfl ?_
      refine e_callV (As := [iV v1]) (st := [iV r24]) mt_X12_begins in_X12_begins lkX12_281 rfl rfl ⟨by decide, by decide⟩ (Nat.le_of_ble_eq_true rfl) ⟨by decide, by decide⟩ rfl rfl dX12_hinders_67 (Ctr.mono h (fun v M25 h => ?_))
      obtain ⟨r26, rfl, h⟩ := h
      show E_X12_hinders l q 70 [(0, rV (some 60)), (1, iV v1), (2, iV v2), (3, iV v3), (4, iV v4)] [iV r26, iV r24] M25 0 0
      refine e_ic_le (tgt := 100) dX12_hinders_70 (by decide) (fun c27 => ?_) (fun c27 => ?_)
      · replace h := h.1 c27
        refine e_iinc (v := 1) (lv' := [(4, iV (v4 + 1)), (0, rV (some 60)), (1, iV v1), (2, iV v2), (3, iV v3)]) rfl (by decide) (by decide) rfl dX12_hinders_100 ?_
        refine e_goto (tgt := 44) dX12_hinders_103 (by decide) ?_
        exact e_lv (List.forall_mem_cons.mpr ⟨rfl, List.forall_mem_cons.mpr ⟨rfl, List.forall_mem_cons.mpr ⟨rfl, List.forall_mem_cons.mpr ⟨rfl, List.forall_mem_cons.mpr ⟨rfl, fun _ h => absurd h List.not_mem_nil⟩⟩⟩⟩⟩) h
      · replace h := h.2 c27
        refine e_aload_n dX12_hinders_73 rfl rfl ?_
        refine e_iload_n dX12_hinders_74 rfl rfl ?_
        refine e_callV (As := [iV v1]) (st := []) mt_X12_ends in_X12_ends lkX12_284 rfl rfl ⟨by decide, by decide⟩ (Nat.le_of_ble_eq_true rfl) ⟨by decide, by decide⟩ rfl rfl dX12_hinders_75 (Ctr.mono h (fun v M28 h => ?_))
        obtain ⟨r29, rfl, h⟩ := h
        show E_X12_hinders l q 78 [(0, rV (some 60)), (1, iV v1), (2, iV v2), (3, iV v3), (4, iV v4)] [iV r29] M28 0 0
        refine e_aload_n dX12_hinders_78 rfl rfl ?_
        refine e_iload rfl dX12_hinders_79 ?_
        refine e_callV (As := [iV v4]) (st := [iV r29]) mt_X12_begins in_X12_begins lkX12_281 rfl rfl ⟨by decide, by decide⟩ (Nat.le_of_ble_eq_true rfl) ⟨by decide, by decide⟩ rfl rfl dX12_hinders_81 (Ctr.mono h (fun v M30 h => ?_))
        obtain ⟨r31, rfl, h⟩ := h
        show E_X12_hinders l q 84 [(0, rV (some 60)), (1, iV v1), (2, iV v2), (3, iV v3), (4, iV v4)] [iV r31, iV r29] M30 0 0
        refine e_ic_le (tgt := 100) dX12_hinders_84 (by decide) (fun c32 => ?_) (fun c32 => ?_)
        · replace h := h.1 c32
          refine e_iinc (v := 1) (lv' := [(4, iV (v4 + 1)), (0, rV (some 60)), (1, iV v1), (2, iV v2), (3, iV v3)]) rfl (by decide) (by decide) rfl dX12_hinders_100 ?_
          refine e_goto (tgt := 44) dX12_hinders_103 (by decide) ?_
          exact e_lv (List.forall_mem_cons.mpr ⟨rfl, List.forall_mem_cons.mpr ⟨rfl, List.forall_mem_cons.mpr ⟨rfl, List.forall_mem_cons.mpr ⟨rfl, List.forall_mem_cons.mpr ⟨rfl, fun _ h => absurd h List.not_mem_nil⟩⟩⟩⟩⟩) h
        · replace h := h.2 c32
          refine e_aload_n dX12_hinders_87 rfl rfl ?_
          refine e_iload rfl dX12_hinders_88 ?_
          refine e_iload_n dX12_hinders_90 rfl rfl ?_
          refine e_callV (As := [iV v4, iV v2]) (st := []) mt_X12_chairOf in_X12_chairOf lkX12_182 rfl rfl ⟨by decide, by decide⟩ (Nat.le_of_ble_eq_true rfl) ⟨by decide, by decide⟩ rfl rfl dX12_hinders_91 (Ctr.mono h (fun v M33 h => ?_))
          obtain ⟨r34, rfl, h⟩ := h
          show E_X12_hinders l q 94 [(0, rV (some 60)), (1, iV v1), (2, iV v2), (3, iV v3), (4, iV v4)] [iV r34] M33 0 0
          refine e_iconst (v := (-1)) dX12_hinders_94 (by decide) ?_
          refine e_ic_eq (tgt := 100) dX12_hinders_95 (by decide) (fun c35 => ?_) (fun c35 => ?_)
          · replace h := h.1 c35
            refine e_iinc (v := 1) (lv' := [(4, iV (v4 + 1)), (0, rV (some 60)), (1, iV v1), (2, iV v2), (3, iV v3)]) rfl (by decide) (by decide) rfl dX12_hinders_100 ?_
            refine e_goto (tgt := 44) dX12_hinders_103 (by decide) ?_
            exact e_lv (List.forall_mem_cons.mpr ⟨rfl, List.forall_mem_cons.mpr ⟨rfl, List.forall_mem_cons.mpr ⟨rfl, List.forall_mem_cons.mpr ⟨rfl, List.forall_mem_cons.mpr ⟨rfl, fun _ h => absurd h List.not_mem_nil⟩⟩⟩⟩⟩) h
          · replace h := h.2 c35
            refine e_iconst (v := 3) dX12_hinders_98 (by decide) ?_
            exact e_iret rfl trivial dX12_hinders_99 ⟨_, rfl, h⟩
theorem w_X12_hinders_121 (l : Launch) (q : Int32 → o_M → Prop) (v1 : Int32) (v2 : Int32) (v3 : Int32) (v4 : Int32) (v5 : Int32) (M : o_M) (h : (mR M 60 30 = some 91 ∧ (vp_in v4 (mN M 91) ∧ (((mI M 91 v4.toNatClampNeg) ≤ v5 → q 0 M) ∧ (¬ (mI M 91 v4.toNatClampNeg) ≤ v5 → K_X12_worthOf l [rV (some 60), iV v4, iV v5, iV v1, iV v2, iV v3] M (fun r40 M39 => (((lg_cmp r40 0) = 0 → H_X12_hinders_121 l q v1 v2 v3 v4 (v5 + 1) M39) ∧ (¬ (lg_cmp r40 0) = 0 → q (4 + v5) M39)))))))) : H_X12_hinders_121 l q v1 v2 v3 v4 v5 M := by
  refine e_iload rfl dX12_hinders_121 ?_
  refine e_aload_n dX12_hinders_123 rfl rfl ?_
  obtain ⟨o36, h⟩ := h
  refine e_gA flX12_86 rfl rfl o36 dX12_hinders_124 ?_
  refine e_iload rfl dX12_hinders_127 ?_
  obtain ⟨o37, h⟩ := h
  refine e_iald rfl o37 dX12_hinders_129 ?_
  refine e_ic_ge (tgt := 160) dX12_hinders_130 (by decide) (fun c38 => ?_) (fun c38 => ?_)
  · replace h := h.1 c38
    refine e_iconst (v := 0) dX12_hinders_160 (by decide) ?_
    exact e_iret rfl trivial dX12_hinders_161 ⟨_, rfl, h⟩
  · replace h := h.2 c38
    refine e_aload_n dX12_hinders_133 rfl rfl ?_
    refine e_iload rfl dX12_hinders_134 ?_
    refine e_iload rfl dX12_hinders_136 ?_
    refine e_iload_n dX12_hinders_138 rfl rfl ?_
    refine e_iload_n dX12_hinders_139 rfl rfl ?_
    refine e_iload_n dX12_hinders_140 rfl rfl ?_
    refine e_callV (As := [iV v4, iV v5, iV v1, iV v2, iV v3]) (st := []) mt_X12_worthOf in_X12_worthOf lkX12_312 rfl rfl ⟨by decide, by decide⟩ (Nat.le_of_ble_eq_true rfl) ⟨by decide, by decide⟩ rfl rfl dX12_hinders_141 (Ctr.mono h (fun v M39 h => ?_))
    obtain ⟨r40, rfl, h⟩ := h
    show E_X12_hinders l q 144 [(0, rV (some 60)), (1, iV v1), (2, iV v2), (3, iV v3), (4, iV v4), (5, iV v5)] [jV r40] M39 0 0
    refine e_lconst (v := 0) dX12_hinders_144 (by decide) ?_
    refine e_lcmp dX12_hinders_145 ?_
    refine e_if_eq (tgt := 154) dX12_hinders_146 (by decide) (fun c41 => ?_) (fun c41 => ?_)
    · replace h := h.1 c41
      refine e_iinc (v := 1) (lv' := [(5, iV (v5 + 1)), (0, rV (some 60)), (1, iV v1), (2, iV v2), (3, iV v3), (4, iV v4)]) rfl (by decide) (by decide) rfl dX12_hinders_154 ?_
      refine e_goto (tgt := 121) dX12_hinders_157 (by decide) ?_
      exact e_lv (List.forall_mem_cons.mpr ⟨rfl, List.forall_mem_cons.mpr ⟨rfl, List.forall_mem_cons.mpr ⟨rfl, List.forall_mem_cons.mpr ⟨rfl, List.forall_mem_cons.mpr ⟨rfl, List.forall_mem_cons.mpr ⟨rfl, fun _ h => absurd h List.not_mem_nil⟩⟩⟩⟩⟩⟩) h
    · replace h := h.2 c41
      refine e_iconst (v := 4) dX12_hinders_149 (by decide) ?_
      refine e_iload rfl dX12_hinders_150 ?_
      refine e_iadd dX12_hinders_152 ?_
      exact e_iret rfl trivial dX12_hinders_153 ⟨_, rfl, h⟩
theorem w_X12_worth (l : Launch) (p1 : Int32) (p2 : Int32) (p3 : Int32) (p4 : Int32) (M : o_M) (q : Int64 → o_M → Prop) (h : K_X12_isService l [rV (some 60), iV p1] M (fun r2 M1 => ((r2 = 0 → q (-4611686018427387904) M1) ∧ (¬ r2 = 0 → K_X12_isPlayer l [rV (some 60), iV p2] M1 (fun r5 M4 => ((r5 = 0 → q (-4611686018427387904) M4) ∧ (¬ r5 = 0 → K_X12_isInstrument l [iV p3] M4 (fun r8 M7 => ((¬ r8 = 0 → (mR M7 60 16 = some 77 ∧ (vp_in p1 (mN M7 77) ∧ K_X12_textOn l [rV (some 60), iV (mI M7 77 p1.toNatClampNeg)] M7 (fun r13 M12 => (mR M12 60 30 = some 91 ∧ (vp_in r13 (mN M12 91) ∧ K_X12_in l [iV p4, iV 0, iV (1 + (mI M12 91 r13.toNatClampNeg))] M12 (fun r17 M16 => ((¬ r17 = 0 → ((2 ≤ p4 → K_X12_worthOf l [rV (some 60), iV r13, iV (p4 - 2), iV p1, iV p2, iV p3] M16 (fun r21 M20 => q r21 M20)) ∧ (¬ 2 ≤ p4 → (mR M16 60 30 = some 91 ∧ (vp_in r13 (mN M16 91) ∧ K_X12_worthOf l [rV (some 60), iV r13, iV ((mI M16 91 r13.toNatClampNeg) + p4), iV p1, iV p2, iV p3] M16 (fun r25 M24 => q r25 M24)))))) ∧ (r17 = 0 → q (-4611686018427387904) M16))))))))) ∧ (r8 = 0 → q (-4611686018427387904) M7)))))))))) : K_X12_worth l [rV (some 60), iV p1, iV p2, iV p3, iV p4] M q := by
  refine o_ctr (ini := false) (by decide +kernel) rfl (fun z => by cases z) (Nat.le_of_ble_eq_true rfl) ?_
  show E_X12_worth l q 0 [(0, rV (some 60)), (1, iV p1), (2, iV p2), (3, iV p3), (4, iV p4)] [] M 0 0
  refine e_aload_n dX12_worth_0 rfl rfl ?_
  refine e_iload_n dX12_worth_1 rfl rfl ?_
  refine e_callV (As := [iV p1]) (st := []) mt_X12_isService in_X12_isService lkX12_193 rfl rfl ⟨by decide, by decide⟩ (Nat.le_of_ble_eq_true rfl) ⟨by decide, by decide⟩ rfl rfl dX12_worth_2 (Ctr.mono h (fun v M1 h => ?_))
  obtain ⟨r2, rfl, h⟩ := h
  show E_X12_worth l q 5 [(0, rV (some 60)), (1, iV p1), (2, iV p2), (3, iV p3), (4, iV p4)] [iV r2] M1 0 0
  refine e_if_eq (tgt := 23) dX12_worth_5 (by decide) (fun c3 => ?_) (fun c3 => ?_)
  · replace h := h.1 c3
    refine e_ldc2 kcX12_319 dX12_worth_23 ?_
    exact e_lret rfl trivial dX12_worth_26 ⟨_, rfl, h⟩
  · replace h := h.2 c3
    refine e_aload_n dX12_worth_8 rfl rfl ?_
    refine e_iload_n dX12_worth_9 rfl rfl ?_
    refine e_callV (As := [iV p2]) (st := []) mt_X12_isPlayer in_X12_isPlayer lkX12_179 rfl rfl ⟨by decide, by decide⟩ (Nat.le_of_ble_eq_true rfl) ⟨by decide, by decide⟩ rfl rfl dX12_worth_10 (Ctr.mono h (fun v M4 h => ?_))
    obtain ⟨r5, rfl, h⟩ := h
    show E_X12_worth l q 13 [(0, rV (some 60)), (1, iV p1), (2, iV p2), (3, iV p3), (4, iV p4)] [iV r5] M4 0 0
    refine e_if_eq (tgt := 23) dX12_worth_13 (by decide) (fun c6 => ?_) (fun c6 => ?_)
    · replace h := h.1 c6
      refine e_ldc2 kcX12_319 dX12_worth_23 ?_
      exact e_lret rfl trivial dX12_worth_26 ⟨_, rfl, h⟩
    · replace h := h.2 c6
      refine e_iload_n dX12_worth_16 rfl rfl ?_
      refine e_callS (As := [iV p3]) (st := []) mt_X12_isInstrument is_X12_isInstrument lkX12_176 ⟨by decide, by decide⟩ (Nat.le_of_ble_eq_true rfl) ⟨by decide, by decide⟩ rfl rfl dX12_worth_17 (Ctr.mono h (fun v M7 h => ?_))
      obtain ⟨r8, rfl, h⟩ := h
      show E_X12_worth l q 20 [(0, rV (some 60)), (1, iV p1), (2, iV p2), (3, iV p3), (4, iV p4)] [iV r8] M7 0 0
      refine e_if_ne (tgt := 27) dX12_worth_20 (by decide) (fun c9 => ?_) (fun c9 => ?_)
      · replace h := h.1 c9
        refine e_aload_n dX12_worth_27 rfl rfl ?_
        refine e_aload_n dX12_worth_28 rfl rfl ?_
        obtain ⟨o10, h⟩ := h
        refine e_gA flX12_49 rfl rfl o10 dX12_worth_29 ?_
        refine e_iload_n dX12_worth_32 rfl rfl ?_
        obtain ⟨o11, h⟩ := h
        refine e_iald rfl o11 dX12_worth_33 ?_
        refine e_callV (As := [iV (mI M7 77 p1.toNatClampNeg)]) (st := []) mt_X12_textOn in_X12_textOn lkX12_306 rfl rfl ⟨by decide, by decide⟩ (Nat.le_of_ble_eq_true rfl) ⟨by decide, by decide⟩ rfl rfl dX12_worth_34 (Ctr.mono h (fun v M12 h => ?_))
        obtain ⟨r13, rfl, h⟩ := h
        show E_X12_worth l q 37 [(0, rV (some 60)), (1, iV p1), (2, iV p2), (3, iV p3), (4, iV p4)] [iV r13] M12 0 0
        refine e_istore (lv' := [(5, iV r13), (0, rV (some 60)), (1, iV p1), (2, iV p2), (3, iV p3), (4, iV p4)]) (by decide) rfl dX12_worth_37 ?_
        refine e_iload rfl dX12_worth_39 ?_
        refine e_iconst (v := 0) dX12_worth_41 (by decide) ?_
        refine e_iconst (v := 1) dX12_worth_42 (by decide) ?_
        refine e_aload_n dX12_worth_43 rfl rfl ?_
        obtain ⟨o14, h⟩ := h
        refine e_gA flX12_86 rfl rfl o14 dX12_worth_44 ?_
        refine e_iload rfl dX12_worth_47 ?_
        obtain ⟨o15, h⟩ := h
        refine e_iald rfl o15 dX12_worth_49 ?_
        refine e_iadd dX12_worth_50 ?_
        refine e_callS (As := [iV p4, iV 0, iV (1 + (mI M12 91 r13.toNatClampNeg))]) (st := []) mt_X12_in is_X12_in lkX12_155 ⟨by decide, by decide⟩ (Nat.le_of_ble_eq_true rfl) ⟨by decide, by decide⟩ rfl rfl dX12_worth_51 (Ctr.mono h (fun v M16 h => ?_))
        obtain ⟨r17, rfl, h⟩ := h
        show E_X12_worth l q 54 [(5, iV r13), (0, rV (some 60)), (1, iV p1), (2, iV p2), (3, iV p3), (4, iV p4)] [iV r17] M16 0 0
        refine e_if_ne (tgt := 61) dX12_worth_54 (by decide) (fun c18 => ?_) (fun c18 => ?_)
        · replace h := h.1 c18
          refine e_aload_n dX12_worth_61 rfl rfl ?_
          refine e_iload rfl dX12_worth_62 ?_
          refine e_iload rfl dX12_worth_64 ?_
          refine e_iconst (v := 2) dX12_worth_66 (by decide) ?_
          refine e_ic_ge (tgt := 83) dX12_worth_67 (by decide) (fun c19 => ?_) (fun c19 => ?_)
          · replace h := h.1 c19
            refine e_iload rfl dX12_worth_83 ?_
            refine e_iconst (v := 2) dX12_worth_85 (by decide) ?_
            refine e_isub dX12_worth_86 ?_
            refine e_iload_n dX12_worth_87 rfl rfl ?_
            refine e_iload_n dX12_worth_88 rfl rfl ?_
            refine e_iload_n dX12_worth_89 rfl rfl ?_
            refine e_callV (As := [iV r13, iV (p4 - 2), iV p1, iV p2, iV p3]) (st := []) mt_X12_worthOf in_X12_worthOf lkX12_312 rfl rfl ⟨by decide, by decide⟩ (Nat.le_of_ble_eq_true rfl) ⟨by decide, by decide⟩ rfl rfl dX12_worth_90 (Ctr.mono h (fun v M20 h => ?_))
            obtain ⟨r21, rfl, h⟩ := h
            show E_X12_worth l q 93 [(5, iV r13), (0, rV (some 60)), (1, iV p1), (2, iV p2), (3, iV p3), (4, iV p4)] [jV r21] M20 0 0
            exact e_lret rfl trivial dX12_worth_93 ⟨_, rfl, h⟩
          · replace h := h.2 c19
            refine e_aload_n dX12_worth_70 rfl rfl ?_
            obtain ⟨o22, h⟩ := h
            refine e_gA flX12_86 rfl rfl o22 dX12_worth_71 ?_
            refine e_iload rfl dX12_worth_74 ?_
            obtain ⟨o23, h⟩ := h
            refine e_iald rfl o23 dX12_worth_76 ?_
            refine e_iload rfl dX12_worth_77 ?_
            refine e_iadd dX12_worth_79 ?_
            refine e_goto (tgt := 87) dX12_worth_80 (by decide) ?_
            refine e_iload_n dX12_worth_87 rfl rfl ?_
            refine e_iload_n dX12_worth_88 rfl rfl ?_
            refine e_iload_n dX12_worth_89 rfl rfl ?_
            refine e_callV (As := [iV r13, iV ((mI M16 91 r13.toNatClampNeg) + p4), iV p1, iV p2, iV p3]) (st := []) mt_X12_worthOf in_X12_worthOf lkX12_312 rfl rfl ⟨by decide, by decide⟩ (Nat.le_of_ble_eq_true rfl) ⟨by decide, by decide⟩ rfl rfl dX12_worth_90 (Ctr.mono h (fun v M24 h => ?_))
            obtain ⟨r25, rfl, h⟩ := h
            show E_X12_worth l q 93 [(5, iV r13), (0, rV (some 60)), (1, iV p1), (2, iV p2), (3, iV p3), (4, iV p4)] [jV r25] M24 0 0
            exact e_lret rfl trivial dX12_worth_93 ⟨_, rfl, h⟩
        · replace h := h.2 c18
          refine e_ldc2 kcX12_319 dX12_worth_57 ?_
          exact e_lret rfl trivial dX12_worth_60 ⟨_, rfl, h⟩
      · replace h := h.2 c9
        refine e_ldc2 kcX12_319 dX12_worth_23 ?_
        exact e_lret rfl trivial dX12_worth_26 ⟨_, rfl, h⟩
theorem w_X12_due (l : Launch) (p1 : Int32) (p2 : Int32) (p3 : Int32) (p4 : Int32) (M : o_M) (q : Int64 → o_M → Prop) (h : K_X12_isPlayer l [rV (some 60), iV p1] M (fun r2 M1 => ((r2 = 0 → q (-4611686018427387904) M1) ∧ (¬ r2 = 0 → K_X12_isDay l [iV p2] M1 (fun r5 M4 => ((r5 = 0 → q (-4611686018427387904) M4) ∧ (¬ r5 = 0 → K_X12_isDay l [iV p3] M4 (fun r8 M7 => ((r8 = 0 → q (-4611686018427387904) M7) ∧ (¬ r8 = 0 → ((p3 < p2 → q (-4611686018427387904) M7) ∧ (¬ p3 < p2 → K_X12_in l [iV p4, iV 0, iV 1] M7 (fun r12 M11 => ((¬ r12 = 0 → K_X12_dueOf l [rV (some 60), iV p1, iV p2, iV p3, iV p4] M11 (fun r15 M14 => q r15 M14)) ∧ (r12 = 0 → q (-4611686018427387904) M11))))))))))))))) : K_X12_due l [rV (some 60), iV p1, iV p2, iV p3, iV p4] M q := by
  refine o_ctr (ini := false) (by decide +kernel) rfl (fun z => by cases z) (Nat.le_of_ble_eq_true rfl) ?_
  show E_X12_due l q 0 [(0, rV (some 60)), (1, iV p1), (2, iV p2), (3, iV p3), (4, iV p4)] [] M 0 0
  refine e_aload_n dX12_due_0 rfl rfl ?_
  refine e_iload_n dX12_due_1 rfl rfl ?_
  refine e_callV (As := [iV p1]) (st := []) mt_X12_isPlayer in_X12_isPlayer lkX12_179 rfl rfl ⟨by decide, by decide⟩ (Nat.le_of_ble_eq_true rfl) ⟨by decide, by decide⟩ rfl rfl dX12_due_2 (Ctr.mono h (fun v M1 h => ?_))
  obtain ⟨r2, rfl, h⟩ := h
  show E_X12_due l q 5 [(0, rV (some 60)), (1, iV p1), (2, iV p2), (3, iV p3), (4, iV p4)] [iV r2] M1 0 0
  refine e_if_eq (tgt := 37) dX12_due_5 (by decide) (fun c3 => ?_) (fun c3 => ?_)
  · replace h := h.1 c3
    refine e_ldc2 kcX12_319 dX12_due_37 ?_
    exact e_lret rfl trivial dX12_due_40 ⟨_, rfl, h⟩
  · replace h := h.2 c3
    refine e_iload_n dX12_due_8 rfl rfl ?_
    refine e_callS (As := [iV p2]) (st := []) mt_X12_isDay is_X12_isDay lkX12_169 ⟨by decide, by decide⟩ (Nat.le_of_ble_eq_true rfl) ⟨by decide, by decide⟩ rfl rfl dX12_due_9 (Ctr.mono h (fun v M4 h => ?_))
    obtain ⟨r5, rfl, h⟩ := h
    show E_X12_due l q 12 [(0, rV (some 60)), (1, iV p1), (2, iV p2), (3, iV p3), (4, iV p4)] [iV r5] M4 0 0
    refine e_if_eq (tgt := 37) dX12_due_12 (by decide) (fun c6 => ?_) (fun c6 => ?_)
    · replace h := h.1 c6
      refine e_ldc2 kcX12_319 dX12_due_37 ?_
      exact e_lret rfl trivial dX12_due_40 ⟨_, rfl, h⟩
    · replace h := h.2 c6
      refine e_iload_n dX12_due_15 rfl rfl ?_
      refine e_callS (As := [iV p3]) (st := []) mt_X12_isDay is_X12_isDay lkX12_169 ⟨by decide, by decide⟩ (Nat.le_of_ble_eq_true rfl) ⟨by decide, by decide⟩ rfl rfl dX12_due_16 (Ctr.mono h (fun v M7 h => ?_))
      obtain ⟨r8, rfl, h⟩ := h
      show E_X12_due l q 19 [(0, rV (some 60)), (1, iV p1), (2, iV p2), (3, iV p3), (4, iV p4)] [iV r8] M7 0 0
      refine e_if_eq (tgt := 37) dX12_due_19 (by decide) (fun c9 => ?_) (fun c9 => ?_)
      · replace h := h.1 c9
        refine e_ldc2 kcX12_319 dX12_due_37 ?_
        exact e_lret rfl trivial dX12_due_40 ⟨_, rfl, h⟩
      · replace h := h.2 c9
        refine e_iload_n dX12_due_22 rfl rfl ?_
        refine e_iload_n dX12_due_23 rfl rfl ?_
        refine e_ic_gt (tgt := 37) dX12_due_24 (by decide) (fun c10 => ?_) (fun c10 => ?_)
        · replace h := h.1 c10
          refine e_ldc2 kcX12_319 dX12_due_37 ?_
          exact e_lret rfl trivial dX12_due_40 ⟨_, rfl, h⟩
        · replace h := h.2 c10
          refine e_iload rfl dX12_due_27 ?_
          refine e_iconst (v := 0) dX12_due_29 (by decide) ?_
          refine e_iconst (v := 1) dX12_due_30 (by decide) ?_
          refine e_callS (As := [iV p4, iV 0, iV 1]) (st := []) mt_X12_in is_X12_in lkX12_155 ⟨by decide, by decide⟩ (Nat.le_of_ble_eq_true rfl) ⟨by decide, by decide⟩ rfl rfl dX12_due_31 (Ctr.mono h (fun v M11 h => ?_))
          obtain ⟨r12, rfl, h⟩ := h
          show E_X12_due l q 34 [(0, rV (some 60)), (1, iV p1), (2, iV p2), (3, iV p3), (4, iV p4)] [iV r12] M11 0 0
          refine e_if_ne (tgt := 41) dX12_due_34 (by decide) (fun c13 => ?_) (fun c13 => ?_)
          · replace h := h.1 c13
            refine e_aload_n dX12_due_41 rfl rfl ?_
            refine e_iload_n dX12_due_42 rfl rfl ?_
            refine e_iload_n dX12_due_43 rfl rfl ?_
            refine e_iload_n dX12_due_44 rfl rfl ?_
            refine e_iload rfl dX12_due_45 ?_
            refine e_callV (As := [iV p1, iV p2, iV p3, iV p4]) (st := []) mt_X12_dueOf in_X12_dueOf lkX12_334 rfl rfl ⟨by decide, by decide⟩ (Nat.le_of_ble_eq_true rfl) ⟨by decide, by decide⟩ rfl rfl dX12_due_47 (Ctr.mono h (fun v M14 h => ?_))
            obtain ⟨r15, rfl, h⟩ := h
            show E_X12_due l q 50 [(0, rV (some 60)), (1, iV p1), (2, iV p2), (3, iV p3), (4, iV p4)] [jV r15] M14 0 0
            exact e_lret rfl trivial dX12_due_50 ⟨_, rfl, h⟩
          · replace h := h.2 c13
            refine e_ldc2 kcX12_319 dX12_due_37 ?_
            exact e_lret rfl trivial dX12_due_40 ⟨_, rfl, h⟩
theorem w_X12_may (l : Launch) (p1 : Int32) (p2 : Int32) (p3 : Int32) (M : o_M) (q : Int32 → o_M → Prop) (h : K_X12_isService l [rV (some 60), iV p1] M (fun r2 M1 => ((r2 = 0 → q (-2) M1) ∧ (¬ r2 = 0 → K_X12_isPlayer l [rV (some 60), iV p2] M1 (fun r5 M4 => ((r5 = 0 → q (-2) M4) ∧ (¬ r5 = 0 → K_X12_isInstrument l [iV p3] M4 (fun r8 M7 => ((r8 = 0 → q (-2) M7) ∧ (¬ r8 = 0 → K_X12_hinders l [rV (some 60), iV p1, iV p2, iV p3] M7 (fun r11 M10 => q r11 M10))))))))))) : K_X12_may l [rV (some 60), iV p1, iV p2, iV p3] M q := by
  refine o_ctr (ini := false) (by decide +kernel) rfl (fun z => by cases z) (Nat.le_of_ble_eq_true rfl) ?_
  show E_X12_may l q 0 [(0, rV (some 60)), (1, iV p1), (2, iV p2), (3, iV p3)] [] M 0 0
  refine e_aload_n dX12_may_0 rfl rfl ?_
  refine e_iload_n dX12_may_1 rfl rfl ?_
  refine e_callV (As := [iV p1]) (st := []) mt_X12_isService in_X12_isService lkX12_193 rfl rfl ⟨by decide, by decide⟩ (Nat.le_of_ble_eq_true rfl) ⟨by decide, by decide⟩ rfl rfl dX12_may_2 (Ctr.mono h (fun v M1 h => ?_))
  obtain ⟨r2, rfl, h⟩ := h
  show E_X12_may l q 5 [(0, rV (some 60)), (1, iV p1), (2, iV p2), (3, iV p3)] [iV r2] M1 0 0
  refine e_if_eq (tgt := 33) dX12_may_5 (by decide) (fun c3 => ?_) (fun c3 => ?_)
  · replace h := h.1 c3
    refine e_bipush (v := (-2)) dX12_may_33 (by decide) ?_
    exact e_iret rfl trivial dX12_may_35 ⟨_, rfl, h⟩
  · replace h := h.2 c3
    refine e_aload_n dX12_may_8 rfl rfl ?_
    refine e_iload_n dX12_may_9 rfl rfl ?_
    refine e_callV (As := [iV p2]) (st := []) mt_X12_isPlayer in_X12_isPlayer lkX12_179 rfl rfl ⟨by decide, by decide⟩ (Nat.le_of_ble_eq_true rfl) ⟨by decide, by decide⟩ rfl rfl dX12_may_10 (Ctr.mono h (fun v M4 h => ?_))
    obtain ⟨r5, rfl, h⟩ := h
    show E_X12_may l q 13 [(0, rV (some 60)), (1, iV p1), (2, iV p2), (3, iV p3)] [iV r5] M4 0 0
    refine e_if_eq (tgt := 33) dX12_may_13 (by decide) (fun c6 => ?_) (fun c6 => ?_)
    · replace h := h.1 c6
      refine e_bipush (v := (-2)) dX12_may_33 (by decide) ?_
      exact e_iret rfl trivial dX12_may_35 ⟨_, rfl, h⟩
    · replace h := h.2 c6
      refine e_iload_n dX12_may_16 rfl rfl ?_
      refine e_callS (As := [iV p3]) (st := []) mt_X12_isInstrument is_X12_isInstrument lkX12_176 ⟨by decide, by decide⟩ (Nat.le_of_ble_eq_true rfl) ⟨by decide, by decide⟩ rfl rfl dX12_may_17 (Ctr.mono h (fun v M7 h => ?_))
      obtain ⟨r8, rfl, h⟩ := h
      show E_X12_may l q 20 [(0, rV (some 60)), (1, iV p1), (2, iV p2), (3, iV p3)] [iV r8] M7 0 0
      refine e_if_eq (tgt := 33) dX12_may_20 (by decide) (fun c9 => ?_) (fun c9 => ?_)
      · replace h := h.1 c9
        refine e_bipush (v := (-2)) dX12_may_33 (by decide) ?_
        exact e_iret rfl trivial dX12_may_35 ⟨_, rfl, h⟩
      · replace h := h.2 c9
        refine e_aload_n dX12_may_23 rfl rfl ?_
        refine e_iload_n dX12_may_24 rfl rfl ?_
        refine e_iload_n dX12_may_25 rfl rfl ?_
        refine e_iload_n dX12_may_26 rfl rfl ?_
        refine e_callV (As := [iV p1, iV p2, iV p3]) (st := []) mt_X12_hinders in_X12_hinders lkX12_316 rfl rfl ⟨by decide, by decide⟩ (Nat.le_of_ble_eq_true rfl) ⟨by decide, by decide⟩ rfl rfl dX12_may_27 (Ctr.mono h (fun v M10 h => ?_))
        obtain ⟨r11, rfl, h⟩ := h
        show E_X12_may l q 30 [(0, rV (some 60)), (1, iV p1), (2, iV p2), (3, iV p3)] [iV r11] M10 0 0
        refine e_goto (tgt := 35) dX12_may_30 (by decide) ?_
        exact e_iret rfl trivial dX12_may_35 ⟨_, rfl, h⟩
abbrev H_X12_put_44 (l : Launch) (q : Int32 → o_M → Prop) (v1 : Int32) (v2 : Int32) (v3 : Int32) (s0 : Int32) (M : o_M) : Prop := E_X12_put l q 44 [(0, rV (some 60)), (1, iV v1), (2, iV v2), (3, iV v3)] [iV s0] M 0 0
abbrev H_X12_put_66 (l : Launch) (q : Int32 → o_M → Prop) (v1 : Int32) (v2 : Int32) (v3 : Int32) (M : o_M) : Prop := E_X12_put l q 66 [(0, rV (some 60)), (1, iV v1), (2, iV v2), (3, iV v3)] [] M 0 0
abbrev H_X12_put_94 (l : Launch) (q : Int32 → o_M → Prop) (v1 : Int32) (v2 : Int32) (v3 : Int32) (s0 : Int32) (M : o_M) : Prop := E_X12_put l q 94 [(0, rV (some 60)), (1, iV v1), (2, iV v2), (3, iV v3)] [iV s0] M 0 0
abbrev H_X12_put_129 (l : Launch) (q : Int32 → o_M → Prop) (v1 : Int32) (v2 : Int32) (v3 : Int32) (v5 : Int32) (s0 : Int32) (M : o_M) : Prop := E_X12_put l q 129 [(0, rV (some 60)), (1, iV v1), (2, iV v2), (3, iV v3), (5, iV v5)] [iV s0] M 0 0
abbrev H_X12_put_142 (l : Launch) (q : Int32 → o_M → Prop) (v1 : Int32) (v2 : Int32) (v3 : Int32) (v5 : Int32) (v6 : Int32) (v7 : Int32) (M : o_M) : Prop := E_X12_put l q 142 [(0, rV (some 60)), (1, iV v1), (2, iV v2), (3, iV v3), (5, iV v5), (6, iV v6), (7, iV v7)] [] M 0 0
theorem w_X12_put (l : Launch) (p1 : Int32) (p2 : Int32) (p3 : Int32) (M : o_M) (q : Int32 → o_M → Prop) (h : ((p2 = 0 → H_X12_put_44 l q p1 p2 p3 1 M) ∧ (¬ p2 = 0 → ((p2 = 3 → H_X12_put_44 l q p1 p2 p3 1 M) ∧ (¬ p2 = 3 → ((¬ p2 = 1 → ((p2 = 2 → K_X12_isDay l [iV p3] M (fun r6 M5 => ((r6 = 0 → H_X12_put_44 l q p1 p2 p3 0 M5) ∧ (¬ r6 = 0 → H_X12_put_44 l q p1 p2 p3 1 M5)))) ∧ (¬ p2 = 2 → ((¬ p2 = 4 → H_X12_put_44 l q p1 p2 p3 0 M) ∧ (p2 = 4 → K_X12_isDay l [iV p3] M (fun r10 M9 => ((r10 = 0 → H_X12_put_44 l q p1 p2 p3 0 M9) ∧ (¬ r10 = 0 → H_X12_put_44 l q p1 p2 p3 1 M9)))))))) ∧ (p2 = 1 → K_X12_isService l [rV (some 60), iV p3] M (fun r13 M12 => ((¬ r13 = 0 → H_X12_put_44 l q p1 p2 p3 1 M12) ∧ (r13 = 0 → ((p2 = 2 → K_X12_isDay l [iV p3] M12 (fun r17 M16 => ((r17 = 0 → H_X12_put_44 l q p1 p2 p3 0 M16) ∧ (¬ r17 = 0 → H_X12_put_44 l q p1 p2 p3 1 M16)))) ∧ (¬ p2 = 2 → ((¬ p2 = 4 → H_X12_put_44 l q p1 p2 p3 0 M12) ∧ (p2 = 4 → K_X12_isDay l [iV p3] M12 (fun r21 M20 => ((r21 = 0 → H_X12_put_44 l q p1 p2 p3 0 M20) ∧ (¬ r21 = 0 → H_X12_put_44 l q p1 p2 p3 1 M20))))))))))))))))) : K_X12_put l [rV (some 60), iV p1, iV p2, iV p3] M q := by
  refine o_ctr (ini := false) (by decide +kernel) rfl (fun z => by cases z) (Nat.le_of_ble_eq_true rfl) ?_
  show E_X12_put l q 0 [(0, rV (some 60)), (1, iV p1), (2, iV p2), (3, iV p3)] [] M 0 0
  refine e_iload_n dX12_put_0 rfl rfl ?_
  refine e_if_eq (tgt := 39) dX12_put_1 (by decide) (fun c1 => ?_) (fun c1 => ?_)
  · replace h := h.1 c1
    refine e_iconst (v := 1) dX12_put_39 (by decide) ?_
    refine e_goto (tgt := 44) dX12_put_40 (by decide) ?_
    exact e_lv (List.forall_mem_cons.mpr ⟨rfl, List.forall_mem_cons.mpr ⟨rfl, List.forall_mem_cons.mpr ⟨rfl, List.forall_mem_cons.mpr ⟨rfl, fun _ h => absurd h List.not_mem_nil⟩⟩⟩⟩) h
  · replace h := h.2 c1
    refine e_iload_n dX12_put_4 rfl rfl ?_
    refine e_iconst (v := 3) dX12_put_5 (by decide) ?_
    refine e_ic_eq (tgt := 39) dX12_put_6 (by decide) (fun c2 => ?_) (fun c2 => ?_)
    · replace h := h.1 c2
      refine e_iconst (v := 1) dX12_put_39 (by decide) ?_
      refine e_goto (tgt := 44) dX12_put_40 (by decide) ?_
      exact e_lv (List.forall_mem_cons.mpr ⟨rfl, List.forall_mem_cons.mpr ⟨rfl, List.forall_mem_cons.mpr ⟨rfl, List.forall_mem_cons.mpr ⟨rfl, fun _ h => absurd h List.not_mem_nil⟩⟩⟩⟩) h
    · replace h := h.2 c2
      refine e_iload_n dX12_put_9 rfl rfl ?_
      refine e_iconst (v := 1) dX12_put_10 (by decide) ?_
      refine e_ic_ne (tgt := 22) dX12_put_11 (by decide) (fun c3 => ?_) (fun c3 => ?_)
      · replace h := h.1 c3
        refine e_iload_n dX12_put_22 rfl rfl ?_
        refine e_iconst (v := 2) dX12_put_23 (by decide) ?_
        refine e_ic_eq (tgt := 32) dX12_put_24 (by decide) (fun c4 => ?_) (fun c4 => ?_)
        · replace h := h.1 c4
          refine e_iload_n dX12_put_32 rfl rfl ?_
          refine e_callS (As := [iV p3]) (st := []) mt_X12_isDay is_X12_isDay lkX12_169 ⟨by decide, by decide⟩ (Nat.le_of_ble_eq_true rfl) ⟨by decide, by decide⟩ rfl rfl dX12_put_33 (Ctr.mono h (fun v M5 h => ?_))
          obtain ⟨r6, rfl, h⟩ := h
          show E_X12_put l q 36 [(0, rV (some 60)), (1, iV p1), (2, iV p2), (3, iV p3)] [iV r6] M5 0 0
          refine e_if_eq (tgt := 43) dX12_put_36 (by decide) (fun c7 => ?_) (fun c7 => ?_)
          · replace h := h.1 c7
            refine e_iconst (v := 0) dX12_put_43 (by decide) ?_
            exact e_lv (List.forall_mem_cons.mpr ⟨rfl, List.forall_mem_cons.mpr ⟨rfl, List.forall_mem_cons.mpr ⟨rfl, List.forall_mem_cons.mpr ⟨rfl, fun _ h => absurd h List.not_mem_nil⟩⟩⟩⟩) h
          · replace h := h.2 c7
            refine e_iconst (v := 1) dX12_put_39 (by decide) ?_
            refine e_goto (tgt := 44) dX12_put_40 (by decide) ?_
            exact e_lv (List.forall_mem_cons.mpr ⟨rfl, List.forall_mem_cons.mpr ⟨rfl, List.forall_mem_cons.mpr ⟨rfl, List.forall_mem_cons.mpr ⟨rfl, fun _ h => absurd h List.not_mem_nil⟩⟩⟩⟩) h
        · replace h := h.2 c4
          refine e_iload_n dX12_put_27 rfl rfl ?_
          refine e_iconst (v := 4) dX12_put_28 (by decide) ?_
          refine e_ic_ne (tgt := 43) dX12_put_29 (by decide) (fun c8 => ?_) (fun c8 => ?_)
          · replace h := h.1 c8
            refine e_iconst (v := 0) dX12_put_43 (by decide) ?_
            exact e_lv (List.forall_mem_cons.mpr ⟨rfl, List.forall_mem_cons.mpr ⟨rfl, List.forall_mem_cons.mpr ⟨rfl, List.forall_mem_cons.mpr ⟨rfl, fun _ h => absurd h List.not_mem_nil⟩⟩⟩⟩) h
          · replace h := h.2 c8
            refine e_iload_n dX12_put_32 rfl rfl ?_
            refine e_callS (As := [iV p3]) (st := []) mt_X12_isDay is_X12_isDay lkX12_169 ⟨by decide, by decide⟩ (Nat.le_of_ble_eq_true rfl) ⟨by decide, by decide⟩ rfl rfl dX12_put_33 (Ctr.mono h (fun v M9 h => ?_))
            obtain ⟨r10, rfl, h⟩ := h
            show E_X12_put l q 36 [(0, rV (some 60)), (1, iV p1), (2, iV p2), (3, iV p3)] [iV r10] M9 0 0
            refine e_if_eq (tgt := 43) dX12_put_36 (by decide) (fun c11 => ?_) (fun c11 => ?_)
            · replace h := h.1 c11
              refine e_iconst (v := 0) dX12_put_43 (by decide) ?_
              exact e_lv (List.forall_mem_cons.mpr ⟨rfl, List.forall_mem_cons.mpr ⟨rfl, List.forall_mem_cons.mpr ⟨rfl, List.forall_mem_cons.mpr ⟨rfl, fun _ h => absurd h List.not_mem_nil⟩⟩⟩⟩) h
            · replace h := h.2 c11
              refine e_iconst (v := 1) dX12_put_39 (by decide) ?_
              refine e_goto (tgt := 44) dX12_put_40 (by decide) ?_
              exact e_lv (List.forall_mem_cons.mpr ⟨rfl, List.forall_mem_cons.mpr ⟨rfl, List.forall_mem_cons.mpr ⟨rfl, List.forall_mem_cons.mpr ⟨rfl, fun _ h => absurd h List.not_mem_nil⟩⟩⟩⟩) h
      · replace h := h.2 c3
        refine e_aload_n dX12_put_14 rfl rfl ?_
        refine e_iload_n dX12_put_15 rfl rfl ?_
        refine e_callV (As := [iV p3]) (st := []) mt_X12_isService in_X12_isService lkX12_193 rfl rfl ⟨by decide, by decide⟩ (Nat.le_of_ble_eq_true rfl) ⟨by decide, by decide⟩ rfl rfl dX12_put_16 (Ctr.mono h (fun v M12 h => ?_))
        obtain ⟨r13, rfl, h⟩ := h
        show E_X12_put l q 19 [(0, rV (some 60)), (1, iV p1), (2, iV p2), (3, iV p3)] [iV r13] M12 0 0
        refine e_if_ne (tgt := 39) dX12_put_19 (by decide) (fun c14 => ?_) (fun c14 => ?_)
        · replace h := h.1 c14
          refine e_iconst (v := 1) dX12_put_39 (by decide) ?_
          refine e_goto (tgt := 44) dX12_put_40 (by decide) ?_
          exact e_lv (List.forall_mem_cons.mpr ⟨rfl, List.forall_mem_cons.mpr ⟨rfl, List.forall_mem_cons.mpr ⟨rfl, List.forall_mem_cons.mpr ⟨rfl, fun _ h => absurd h List.not_mem_nil⟩⟩⟩⟩) h
        · replace h := h.2 c14
          refine e_iload_n dX12_put_22 rfl rfl ?_
          refine e_iconst (v := 2) dX12_put_23 (by decide) ?_
          refine e_ic_eq (tgt := 32) dX12_put_24 (by decide) (fun c15 => ?_) (fun c15 => ?_)
          · replace h := h.1 c15
            refine e_iload_n dX12_put_32 rfl rfl ?_
            refine e_callS (As := [iV p3]) (st := []) mt_X12_isDay is_X12_isDay lkX12_169 ⟨by decide, by decide⟩ (Nat.le_of_ble_eq_true rfl) ⟨by decide, by decide⟩ rfl rfl dX12_put_33 (Ctr.mono h (fun v M16 h => ?_))
            obtain ⟨r17, rfl, h⟩ := h
            show E_X12_put l q 36 [(0, rV (some 60)), (1, iV p1), (2, iV p2), (3, iV p3)] [iV r17] M16 0 0
            refine e_if_eq (tgt := 43) dX12_put_36 (by decide) (fun c18 => ?_) (fun c18 => ?_)
            · replace h := h.1 c18
              refine e_iconst (v := 0) dX12_put_43 (by decide) ?_
              exact e_lv (List.forall_mem_cons.mpr ⟨rfl, List.forall_mem_cons.mpr ⟨rfl, List.forall_mem_cons.mpr ⟨rfl, List.forall_mem_cons.mpr ⟨rfl, fun _ h => absurd h List.not_mem_nil⟩⟩⟩⟩) h
            · replace h := h.2 c18
              refine e_iconst (v := 1) dX12_put_39 (by decide) ?_
              refine e_goto (tgt := 44) dX12_put_40 (by decide) ?_
              exact e_lv (List.forall_mem_cons.mpr ⟨rfl, List.forall_mem_cons.mpr ⟨rfl, List.forall_mem_cons.mpr ⟨rfl, List.forall_mem_cons.mpr ⟨rfl, fun _ h => absurd h List.not_mem_nil⟩⟩⟩⟩) h
          · replace h := h.2 c15
            refine e_iload_n dX12_put_27 rfl rfl ?_
            refine e_iconst (v := 4) dX12_put_28 (by decide) ?_
            refine e_ic_ne (tgt := 43) dX12_put_29 (by decide) (fun c19 => ?_) (fun c19 => ?_)
            · replace h := h.1 c19
              refine e_iconst (v := 0) dX12_put_43 (by decide) ?_
              exact e_lv (List.forall_mem_cons.mpr ⟨rfl, List.forall_mem_cons.mpr ⟨rfl, List.forall_mem_cons.mpr ⟨rfl, List.forall_mem_cons.mpr ⟨rfl, fun _ h => absurd h List.not_mem_nil⟩⟩⟩⟩) h
            · replace h := h.2 c19
              refine e_iload_n dX12_put_32 rfl rfl ?_
              refine e_callS (As := [iV p3]) (st := []) mt_X12_isDay is_X12_isDay lkX12_169 ⟨by decide, by decide⟩ (Nat.le_of_ble_eq_true rfl) ⟨by decide, by decide⟩ rfl rfl dX12_put_33 (Ctr.mono h (fun v M20 h => ?_))
              obtain ⟨r21, rfl, h⟩ := h
              show E_X12_put l q 36 [(0, rV (some 60)), (1, iV p1), (2, iV p2), (3, iV p3)] [iV r21] M20 0 0
              refine e_if_eq (tgt := 43) dX12_put_36 (by decide) (fun c22 => ?_) (fun c22 => ?_)
              · replace h := h.1 c22
                refine e_iconst (v := 0) dX12_put_43 (by decide) ?_
                exact e_lv (List.forall_mem_cons.mpr ⟨rfl, List.forall_mem_cons.mpr ⟨rfl, List.forall_mem_cons.mpr ⟨rfl, List.forall_mem_cons.mpr ⟨rfl, fun _ h => absurd h List.not_mem_nil⟩⟩⟩⟩) h
              · replace h := h.2 c22
                refine e_iconst (v := 1) dX12_put_39 (by decide) ?_
                refine e_goto (tgt := 44) dX12_put_40 (by decide) ?_
                exact e_lv (List.forall_mem_cons.mpr ⟨rfl, List.forall_mem_cons.mpr ⟨rfl, List.forall_mem_cons.mpr ⟨rfl, List.forall_mem_cons.mpr ⟨rfl, fun _ h => absurd h List.not_mem_nil⟩⟩⟩⟩) h
theorem w_X12_put_44 (l : Launch) (q : Int32 → o_M → Prop) (v1 : Int32) (v2 : Int32) (v3 : Int32) (s0 : Int32) (M : o_M) (h : K_X12_in l [iV v1, iV 0, iV 5] M (fun r24 M23 => ((r24 = 0 → K_X12_refuse l [rV (some 60), iV 1] M23 (fun r27 M26 => q r27 M26)) ∧ (¬ r24 = 0 → ((¬ s0 = 0 → H_X12_put_66 l q v1 v2 v3 M23) ∧ (s0 = 0 → K_X12_refuse l [rV (some 60), iV 1] M23 (fun r30 M29 => q r30 M29))))))) : H_X12_put_44 l q v1 v2 v3 s0 M := by
  refine e_istore (lv' := [(4, iV s0), (0, rV (some 60)), (1, iV v1), (2, iV v2), (3, iV v3)]) (by decide) rfl dX12_put_44 ?_
  refine e_iload_n dX12_put_46 rfl rfl ?_
  refine e_iconst (v := 0) dX12_put_47 (by decide) ?_
  refine e_iconst (v := 5) dX12_put_48 (by decide) ?_
  refine e_callS (As := [iV v1, iV 0, iV 5]) (st := []) mt_X12_in is_X12_in lkX12_155 ⟨by decide, by decide⟩ (Nat.le_of_ble_eq_true rfl) ⟨by decide, by decide⟩ rfl rfl dX12_put_49 (Ctr.mono h (fun v M23 h => ?_))
  obtain ⟨r24, rfl, h⟩ := h
  show E_X12_put l q 52 [(4, iV s0), (0, rV (some 60)), (1, iV v1), (2, iV v2), (3, iV v3)] [iV r24] M23 0 0
  refine e_if_eq (tgt := 60) dX12_put_52 (by decide) (fun c25 => ?_) (fun c25 => ?_)
  · replace h := h.1 c25
    refine e_aload_n dX12_put_60 rfl rfl ?_
    refine e_iconst (v := 1) dX12_put_61 (by decide) ?_
    refine e_callV (As := [iV 1]) (st := []) mt_X12_refuse in_X12_refuse lkX12_360 rfl rfl ⟨by decide, by decide⟩ (Nat.le_of_ble_eq_true rfl) ⟨by decide, by decide⟩ rfl rfl dX12_put_62 (Ctr.mono h (fun v M26 h => ?_))
    obtain ⟨r27, rfl, h⟩ := h
    show E_X12_put l q 65 [(4, iV s0), (0, rV (some 60)), (1, iV v1), (2, iV v2), (3, iV v3)] [iV r27] M26 0 0
    exact e_iret rfl trivial dX12_put_65 ⟨_, rfl, h⟩
  · replace h := h.2 c25
    refine e_iload rfl dX12_put_55 ?_
    refine e_if_ne (tgt := 66) dX12_put_57 (by decide) (fun c28 => ?_) (fun c28 => ?_)
    · replace h := h.1 c28
      exact e_lv (List.forall_mem_cons.mpr ⟨rfl, List.forall_mem_cons.mpr ⟨rfl, List.forall_mem_cons.mpr ⟨rfl, List.forall_mem_cons.mpr ⟨rfl, fun _ h => absurd h List.not_mem_nil⟩⟩⟩⟩) h
    · replace h := h.2 c28
      refine e_aload_n dX12_put_60 rfl rfl ?_
      refine e_iconst (v := 1) dX12_put_61 (by decide) ?_
      refine e_callV (As := [iV 1]) (st := []) mt_X12_refuse in_X12_refuse lkX12_360 rfl rfl ⟨by decide, by decide⟩ (Nat.le_of_ble_eq_true rfl) ⟨by decide, by decide⟩ rfl rfl dX12_put_62 (Ctr.mono h (fun v M29 h => ?_))
      obtain ⟨r30, rfl, h⟩ := h
      show E_X12_put l q 65 [(4, iV s0), (0, rV (some 60)), (1, iV v1), (2, iV v2), (3, iV v3)] [iV r30] M29 0 0
      exact e_iret rfl trivial dX12_put_65 ⟨_, rfl, h⟩
theorem w_X12_put_66 (l : Launch) (q : Int32 → o_M → Prop) (v1 : Int32) (v2 : Int32) (v3 : Int32) (M : o_M) (h : (mR M 60 35 = some 96 ∧ (vp_in v1 (mN M 96) ∧ (mR (sI M 96 v1.toNatClampNeg v2) 60 36 = some 97 ∧ (vp_in v1 (mN (sI M 96 v1.toNatClampNeg v2) 97) ∧ ((¬ v2 = 2 → H_X12_put_94 l q v1 v2 v3 0 (sI (sI M 96 v1.toNatClampNeg v2) 97 v1.toNatClampNeg v3)) ∧ (v2 = 2 → K_X12_textOn l [rV (some 60), iV v3] (sI (sI M 96 v1.toNatClampNeg v2) 97 v1.toNatClampNeg v3) (fun r37 M36 => H_X12_put_94 l q v1 v2 v3 r37 M36)))))))) : H_X12_put_66 l q v1 v2 v3 M := by
  refine e_aload_n dX12_put_66 rfl rfl ?_
  obtain ⟨o31, h⟩ := h
  refine e_gA flX12_98 rfl rfl o31 dX12_put_67 ?_
  refine e_iload_n dX12_put_70 rfl rfl ?_
  refine e_iload_n dX12_put_71 rfl rfl ?_
  obtain ⟨o32, h⟩ := h
  refine e_iast rfl o32 dX12_put_72 ?_
  refine e_aload_n dX12_put_73 rfl rfl ?_
  obtain ⟨o33, h⟩ := h
  refine e_gA flX12_101 rfl rfl o33 dX12_put_74 ?_
  refine e_iload_n dX12_put_77 rfl rfl ?_
  refine e_iload_n dX12_put_78 rfl rfl ?_
  obtain ⟨o34, h⟩ := h
  refine e_iast rfl o34 dX12_put_79 ?_
  refine e_iload_n dX12_put_80 rfl rfl ?_
  refine e_iconst (v := 2) dX12_put_81 (by decide) ?_
  refine e_ic_ne (tgt := 93) dX12_put_82 (by decide) (fun c35 => ?_) (fun c35 => ?_)
  · replace h := h.1 c35
    refine e_iconst (v := 0) dX12_put_93 (by decide) ?_
    exact e_lv (List.forall_mem_cons.mpr ⟨rfl, List.forall_mem_cons.mpr ⟨rfl, List.forall_mem_cons.mpr ⟨rfl, List.forall_mem_cons.mpr ⟨rfl, fun _ h => absurd h List.not_mem_nil⟩⟩⟩⟩) h
  · replace h := h.2 c35
    refine e_aload_n dX12_put_85 rfl rfl ?_
    refine e_iload_n dX12_put_86 rfl rfl ?_
    refine e_callV (As := [iV v3]) (st := []) mt_X12_textOn in_X12_textOn lkX12_306 rfl rfl ⟨by decide, by decide⟩ (Nat.le_of_ble_eq_true rfl) ⟨by decide, by decide⟩ rfl rfl dX12_put_87 (Ctr.mono h (fun v M36 h => ?_))
    obtain ⟨r37, rfl, h⟩ := h
    show E_X12_put l q 90 [(0, rV (some 60)), (1, iV v1), (2, iV v2), (3, iV v3)] [iV r37] M36 0 0
    refine e_goto (tgt := 94) dX12_put_90 (by decide) ?_
    exact e_lv (List.forall_mem_cons.mpr ⟨rfl, List.forall_mem_cons.mpr ⟨rfl, List.forall_mem_cons.mpr ⟨rfl, List.forall_mem_cons.mpr ⟨rfl, fun _ h => absurd h List.not_mem_nil⟩⟩⟩⟩) h
theorem w_X12_put_94 (l : Launch) (q : Int32 → o_M → Prop) (v1 : Int32) (v2 : Int32) (v3 : Int32) (s0 : Int32) (M : o_M) (h : ((¬ v2 = 2 → ((v2 = 3 → H_X12_put_129 l q v1 v2 v3 s0 (mI M 60 7) M) ∧ (¬ v2 = 3 → ((¬ v2 = 4 → H_X12_put_129 l q v1 v2 v3 s0 0 M) ∧ (v2 = 4 → H_X12_put_129 l q v1 v2 v3 s0 (mI M 60 7) M))))) ∧ (v2 = 2 → (mR M 60 26 = some 87 ∧ (vp_in s0 (mN M 87) ∧ H_X12_put_129 l q v1 v2 v3 s0 (mI M 87 s0.toNatClampNeg) M))))) : H_X12_put_94 l q v1 v2 v3 s0 M := by
  refine e_istore (lv' := [(5, iV s0), (0, rV (some 60)), (1, iV v1), (2, iV v2), (3, iV v3)]) (by decide) rfl dX12_put_94 ?_
  refine e_iload_n dX12_put_96 rfl rfl ?_
  refine e_iconst (v := 2) dX12_put_97 (by decide) ?_
  refine e_ic_ne (tgt := 111) dX12_put_98 (by decide) (fun c38 => ?_) (fun c38 => ?_)
  · replace h := h.1 c38
    refine e_iload_n dX12_put_111 rfl rfl ?_
    refine e_iconst (v := 3) dX12_put_112 (by decide) ?_
    refine e_ic_eq (tgt := 121) dX12_put_113 (by decide) (fun c39 => ?_) (fun c39 => ?_)
    · replace h := h.1 c39
      refine e_aload_n dX12_put_121 rfl rfl ?_
      refine e_gI flX12_159 rfl rfl dX12_put_122 ?_
      refine e_goto (tgt := 129) dX12_put_125 (by decide) ?_
      exact e_lv (List.forall_mem_cons.mpr ⟨rfl, List.forall_mem_cons.mpr ⟨rfl, List.forall_mem_cons.mpr ⟨rfl, List.forall_mem_cons.mpr ⟨rfl, List.forall_mem_cons.mpr ⟨rfl, fun _ h => absurd h List.not_mem_nil⟩⟩⟩⟩⟩) h
    · replace h := h.2 c39
      refine e_iload_n dX12_put_116 rfl rfl ?_
      refine e_iconst (v := 4) dX12_put_117 (by decide) ?_
      refine e_ic_ne (tgt := 128) dX12_put_118 (by decide) (fun c40 => ?_) (fun c40 => ?_)
      · replace h := h.1 c40
        refine e_iconst (v := 0) dX12_put_128 (by decide) ?_
        exact e_lv (List.forall_mem_cons.mpr ⟨rfl, List.forall_mem_cons.mpr ⟨rfl, List.forall_mem_cons.mpr ⟨rfl, List.forall_mem_cons.mpr ⟨rfl, List.forall_mem_cons.mpr ⟨rfl, fun _ h => absurd h List.not_mem_nil⟩⟩⟩⟩⟩) h
      · replace h := h.2 c40
        refine e_aload_n dX12_put_121 rfl rfl ?_
        refine e_gI flX12_159 rfl rfl dX12_put_122 ?_
        refine e_goto (tgt := 129) dX12_put_125 (by decide) ?_
        exact e_lv (List.forall_mem_cons.mpr ⟨rfl, List.forall_mem_cons.mpr ⟨rfl, List.forall_mem_cons.mpr ⟨rfl, List.forall_mem_cons.mpr ⟨rfl, List.forall_mem_cons.mpr ⟨rfl, fun _ h => absurd h List.not_mem_nil⟩⟩⟩⟩⟩) h
  · replace h := h.2 c38
    refine e_aload_n dX12_put_101 rfl rfl ?_
    obtain ⟨o41, h⟩ := h
    refine e_gA flX12_74 rfl rfl o41 dX12_put_102 ?_
    refine e_iload rfl dX12_put_105 ?_
    obtain ⟨o42, h⟩ := h
    refine e_iald rfl o42 dX12_put_107 ?_
    refine e_goto (tgt := 129) dX12_put_108 (by decide) ?_
    exact e_lv (List.forall_mem_cons.mpr ⟨rfl, List.forall_mem_cons.mpr ⟨rfl, List.forall_mem_cons.mpr ⟨rfl, List.forall_mem_cons.mpr ⟨rfl, List.forall_mem_cons.mpr ⟨rfl, fun _ h => absurd h List.not_mem_nil⟩⟩⟩⟩⟩) h
theorem w_X12_put_129 (l : Launch) (q : Int32 → o_M → Prop) (v1 : Int32) (v2 : Int32) (v3 : Int32) (v5 : Int32) (s0 : Int32) (M : o_M) (h : (mR M 60 37 = some 98 ∧ (vp_in v1 (mN M 98) ∧ H_X12_put_142 l q v1 v2 v3 v5 s0 0 (sI M 98 v1.toNatClampNeg s0)))) : H_X12_put_129 l q v1 v2 v3 v5 s0 M := by
  refine e_istore (lv' := [(6, iV s0), (0, rV (some 60)), (1, iV v1), (2, iV v2), (3, iV v3), (5, iV v5)]) (by decide) rfl dX12_put_129 ?_
  refine e_aload_n dX12_put_131 rfl rfl ?_
  obtain ⟨o43, h⟩ := h
  refine e_gA flX12_104 rfl rfl o43 dX12_put_132 ?_
  refine e_iload_n dX12_put_135 rfl rfl ?_
  refine e_iload rfl dX12_put_136 ?_
  obtain ⟨o44, h⟩ := h
  refine e_iast rfl o44 dX12_put_138 ?_
  refine e_iconst (v := 0) dX12_put_139 (by decide) ?_
  refine e_istore (lv' := [(7, iV 0), (6, iV s0), (0, rV (some 60)), (1, iV v1), (2, iV v2), (3, iV v3), (5, iV v5)]) (by decide) rfl dX12_put_140 ?_
  exact e_lv (List.forall_mem_cons.mpr ⟨rfl, List.forall_mem_cons.mpr ⟨rfl, List.forall_mem_cons.mpr ⟨rfl, List.forall_mem_cons.mpr ⟨rfl, List.forall_mem_cons.mpr ⟨rfl, List.forall_mem_cons.mpr ⟨rfl, List.forall_mem_cons.mpr ⟨rfl, fun _ h => absurd h List.not_mem_nil⟩⟩⟩⟩⟩⟩⟩) h
theorem w_X12_put_142 (l : Launch) (q : Int32 → o_M → Prop) (v1 : Int32) (v2 : Int32) (v3 : Int32) (v5 : Int32) (v6 : Int32) (v7 : Int32) (M : o_M) (h : ((v6 ≤ v7 → K_X12_done l [rV (some 60), iV 1] M (fun r47 M46 => q r47 M46)) ∧ (¬ v6 ≤ v7 → (mR M 60 38 = some 99 ∧ ((¬ v2 = 2 → ((¬ v2 = 3 → K_X12_isAway l [rV (some 60), iV v7, iV v3] M (fun r52 M51 => ((r52 = 0 → (vp_in ((300 * v1) + v7) (mN M51 99) ∧ H_X12_put_142 l q v1 v2 v3 v5 v6 (v7 + 1) (sJ M51 99 (((300 * v1) + v7).toNatClampNeg) 0))) ∧ (¬ r52 = 0 → (vp_in ((300 * v1) + v7) (mN M51 99) ∧ H_X12_put_142 l q v1 v2 v3 v5 v6 (v7 + 1) (sJ M51 99 (((300 * v1) + v7).toNatClampNeg) 1)))))) ∧ (v2 = 3 → K_X12_dueOf l [rV (some 60), iV v7, iV 0, iV 400, iV 1] M (fun r57 M56 => (vp_in ((300 * v1) + v7) (mN M56 99) ∧ H_X12_put_142 l q v1 v2 v3 v5 v6 (v7 + 1) (sJ M56 99 (((300 * v1) + v7).toNatClampNeg) r57)))))) ∧ (v2 = 2 → (mR M 60 27 = some 88 ∧ (vp_in ((300 * v5) + v7) (mN M 88) ∧ (vp_in ((300 * v1) + v7) (mN M 99) ∧ H_X12_put_142 l q v1 v2 v3 v5 v6 (v7 + 1) (sJ M 99 (((300 * v1) + v7).toNatClampNeg) ((mI M 88 ((300 * v5) + v7).toNatClampNeg).toInt64))))))))))) : H_X12_put_142 l q v1 v2 v3 v5 v6 v7 M := by
  refine e_iload rfl dX12_put_142 ?_
  refine e_iload rfl dX12_put_144 ?_
  refine e_ic_ge (tgt := 225) dX12_put_146 (by decide) (fun c45 => ?_) (fun c45 => ?_)
  · replace h := h.1 c45
    refine e_aload_n dX12_put_225 rfl rfl ?_
    refine e_iconst (v := 1) dX12_put_226 (by decide) ?_
    refine e_callV (As := [iV 1]) (st := []) mt_X12_done in_X12_done lkX12_363 rfl rfl ⟨by decide, by decide⟩ (Nat.le_of_ble_eq_true rfl) ⟨by decide, by decide⟩ rfl rfl dX12_put_227 (Ctr.mono h (fun v M46 h => ?_))
    obtain ⟨r47, rfl, h⟩ := h
    show E_X12_put l q 230 [(0, rV (some 60)), (1, iV v1), (2, iV v2), (3, iV v3), (5, iV v5), (6, iV v6), (7, iV v7)] [iV r47] M46 0 0
    exact e_iret rfl trivial dX12_put_230 ⟨_, rfl, h⟩
  · replace h := h.2 c45
    refine e_aload_n dX12_put_149 rfl rfl ?_
    obtain ⟨o48, h⟩ := h
    refine e_gA flX12_107 rfl rfl o48 dX12_put_150 ?_
    refine e_sipush (v := 300) dX12_put_153 (by decide) ?_
    refine e_iload_n dX12_put_156 rfl rfl ?_
    refine e_imul dX12_put_157 ?_
    refine e_iload rfl dX12_put_158 ?_
    refine e_iadd dX12_put_160 ?_
    refine e_iload_n dX12_put_161 rfl rfl ?_
    refine e_iconst (v := 2) dX12_put_162 (by decide) ?_
    refine e_ic_ne (tgt := 184) dX12_put_163 (by decide) (fun c49 => ?_) (fun c49 => ?_)
    · replace h := h.1 c49
      refine e_iload_n dX12_put_184 rfl rfl ?_
      refine e_iconst (v := 3) dX12_put_185 (by decide) ?_
      refine e_ic_ne (tgt := 203) dX12_put_186 (by decide) (fun c50 => ?_) (fun c50 => ?_)
      · replace h := h.1 c50
        refine e_aload_n dX12_put_203 rfl rfl ?_
        refine e_iload rfl dX12_put_204 ?_
        refine e_iload_n dX12_put_206 rfl rfl ?_
        refine e_callV (As := [iV v7, iV v3]) (st := [iV ((300 * v1) + v7), rV (some 99)]) mt_X12_isAway in_X12_isAway lkX12_309 rfl rfl ⟨by decide, by decide⟩ (Nat.le_of_ble_eq_true rfl) ⟨by decide, by decide⟩ rfl rfl dX12_put_207 (Ctr.mono h (fun v M51 h => ?_))
        obtain ⟨r52, rfl, h⟩ := h
        show E_X12_put l q 210 [(0, rV (some 60)), (1, iV v1), (2, iV v2), (3, iV v3), (5, iV v5), (6, iV v6), (7, iV v7)] [iV r52, iV ((300 * v1) + v7), rV (some 99)] M51 0 0
        refine e_if_eq (tgt := 217) dX12_put_210 (by decide) (fun c53 => ?_) (fun c53 => ?_)
        · replace h := h.1 c53
          refine e_lconst (v := 0) dX12_put_217 (by decide) ?_
          obtain ⟨o54, h⟩ := h
          refine e_last rfl o54 dX12_put_218 ?_
          refine e_iinc (v := 1) (lv' := [(7, iV (v7 + 1)), (0, rV (some 60)), (1, iV v1), (2, iV v2), (3, iV v3), (5, iV v5), (6, iV v6)]) rfl (by decide) (by decide) rfl dX12_put_219 ?_
          refine e_goto (tgt := 142) dX12_put_222 (by decide) ?_
          exact e_lv (List.forall_mem_cons.mpr ⟨rfl, List.forall_mem_cons.mpr ⟨rfl, List.forall_mem_cons.mpr ⟨rfl, List.forall_mem_cons.mpr ⟨rfl, List.forall_mem_cons.mpr ⟨rfl, List.forall_mem_cons.mpr ⟨rfl, List.forall_mem_cons.mpr ⟨rfl, fun _ h => absurd h List.not_mem_nil⟩⟩⟩⟩⟩⟩⟩) h
        · replace h := h.2 c53
          refine e_lconst (v := 1) dX12_put_213 (by decide) ?_
          refine e_goto (tgt := 218) dX12_put_214 (by decide) ?_
          obtain ⟨o55, h⟩ := h
          refine e_last rfl o55 dX12_put_218 ?_
          refine e_iinc (v := 1) (lv' := [(7, iV (v7 + 1)), (0, rV (some 60)), (1, iV v1), (2, iV v2), (3, iV v3), (5, iV v5), (6, iV v6)]) rfl (by decide) (by decide) rfl dX12_put_219 ?_
          refine e_goto (tgt := 142) dX12_put_222 (by decide) ?_
          exact e_lv (List.forall_mem_cons.mpr ⟨rfl, List.forall_mem_cons.mpr ⟨rfl, List.forall_mem_cons.mpr ⟨rfl, List.forall_mem_cons.mpr ⟨rfl, List.forall_mem_cons.mpr ⟨rfl, List.forall_mem_cons.mpr ⟨rfl, List.forall_mem_cons.mpr ⟨rfl, fun _ h => absurd h List.not_mem_nil⟩⟩⟩⟩⟩⟩⟩) h
      · replace h := h.2 c50
        refine e_aload_n dX12_put_189 rfl rfl ?_
        refine e_iload rfl dX12_put_190 ?_
        refine e_iconst (v := 0) dX12_put_192 (by decide) ?_
        refine e_sipush (v := 400) dX12_put_193 (by decide) ?_
        refine e_iconst (v := 1) dX12_put_196 (by decide) ?_
        refine e_callV (As := [iV v7, iV 0, iV 400, iV 1]) (st := [iV ((300 * v1) + v7), rV (some 99)]) mt_X12_dueOf in_X12_dueOf lkX12_334 rfl rfl ⟨by decide, by decide⟩ (Nat.le_of_ble_eq_true rfl) ⟨by decide, by decide⟩ rfl rfl dX12_put_197 (Ctr.mono h (fun v M56 h => ?_))
        obtain ⟨r57, rfl, h⟩ := h
        show E_X12_put l q 200 [(0, rV (some 60)), (1, iV v1), (2, iV v2), (3, iV v3), (5, iV v5), (6, iV v6), (7, iV v7)] [jV r57, iV ((300 * v1) + v7), rV (some 99)] M56 0 0
        refine e_goto (tgt := 218) dX12_put_200 (by decide) ?_
        obtain ⟨o58, h⟩ := h
        refine e_last rfl o58 dX12_put_218 ?_
        refine e_iinc (v := 1) (lv' := [(7, iV (v7 + 1)), (0, rV (some 60)), (1, iV v1), (2, iV v2), (3, iV v3), (5, iV v5), (6, iV v6)]) rfl (by decide) (by decide) rfl dX12_put_219 ?_
        refine e_goto (tgt := 142) dX12_put_222 (by decide) ?_
        exact e_lv (List.forall_mem_cons.mpr ⟨rfl, List.forall_mem_cons.mpr ⟨rfl, List.forall_mem_cons.mpr ⟨rfl, List.forall_mem_cons.mpr ⟨rfl, List.forall_mem_cons.mpr ⟨rfl, List.forall_mem_cons.mpr ⟨rfl, List.forall_mem_cons.mpr ⟨rfl, fun _ h => absurd h List.not_mem_nil⟩⟩⟩⟩⟩⟩⟩) h
    · replace h := h.2 c49
      refine e_aload_n dX12_put_166 rfl rfl ?_
      obtain ⟨o59, h⟩ := h
      refine e_gA flX12_77 rfl rfl o59 dX12_put_167 ?_
      refine e_sipush (v := 300) dX12_put_170 (by decide) ?_
      refine e_iload rfl dX12_put_173 ?_
      refine e_imul dX12_put_175 ?_
      refine e_iload rfl dX12_put_176 ?_
      refine e_iadd dX12_put_178 ?_
      obtain ⟨o60, h⟩ := h
      refine e_iald rfl o60 dX12_put_179 ?_
      refine e_i2l dX12_put_180 ?_
      refine e_goto (tgt := 218) dX12_put_181 (by decide) ?_
      obtain ⟨o61, h⟩ := h
      refine e_last rfl o61 dX12_put_218 ?_
      refine e_iinc (v := 1) (lv' := [(7, iV (v7 + 1)), (0, rV (some 60)), (1, iV v1), (2, iV v2), (3, iV v3), (5, iV v5), (6, iV v6)]) rfl (by decide) (by decide) rfl dX12_put_219 ?_
      refine e_goto (tgt := 142) dX12_put_222 (by decide) ?_
      exact e_lv (List.forall_mem_cons.mpr ⟨rfl, List.forall_mem_cons.mpr ⟨rfl, List.forall_mem_cons.mpr ⟨rfl, List.forall_mem_cons.mpr ⟨rfl, List.forall_mem_cons.mpr ⟨rfl, List.forall_mem_cons.mpr ⟨rfl, List.forall_mem_cons.mpr ⟨rfl, fun _ h => absurd h List.not_mem_nil⟩⟩⟩⟩⟩⟩⟩) h
abbrev H_X12_seats_9 (l : Launch) (q : Int32 → o_M → Prop) (v1 : Int32) (v2 : Int32) (v3 : Int32) (M : o_M) : Prop := E_X12_seats l q 9 [(0, rV (some 60)), (1, iV v1), (2, iV v2), (3, iV v3)] [] M 0 0
abbrev H_X12_seats_17 (l : Launch) (q : Int32 → o_M → Prop) (v1 : Int32) (v2 : Int32) (v3 : Int32) (v4 : Int32) (M : o_M) : Prop := E_X12_seats l q 17 [(0, rV (some 60)), (1, iV v1), (2, iV v2), (3, iV v3), (4, iV v4)] [] M 0 0
abbrev H_X12_seats_73 (l : Launch) (q : Int32 → o_M → Prop) (v2 : Int32) (v3 : Int32) (M : o_M) : Prop := E_X12_seats l q 73 [(0, rV (some 60)), (2, iV v2), (3, iV v3)] [] M 0 0
abbrev H_X12_seats_80 (l : Launch) (q : Int32 → o_M → Prop) (v2 : Int32) (v3 : Int32) (v4 : Int32) (M : o_M) : Prop := E_X12_seats l q 80 [(0, rV (some 60)), (2, iV v2), (3, iV v3), (4, iV v4)] [] M 0 0
abbrev H_X12_seats_128 (l : Launch) (q : Int32 → o_M → Prop) (v2 : Int32) (v3 : Int32) (v4 : Int32) (v5 : Int32) (M : o_M) : Prop := E_X12_seats l q 128 [(0, rV (some 60)), (2, iV v2), (3, iV v3), (4, iV v4), (5, iV v5)] [] M 0 0
abbrev H_X12_seats_225 (l : Launch) (q : Int32 → o_M → Prop) (v2 : Int32) (v3 : Int32) (v4 : Int32) (M : o_M) : Prop := E_X12_seats l q 225 [(0, rV (some 60)), (2, iV v2), (3, iV v3), (4, iV v4)] [] M 0 0
abbrev H_X12_seats_247 (l : Launch) (q : Int32 → o_M → Prop) (v2 : Int32) (v3 : Int32) (v4 : Int32) (v5 : Int32) (M : o_M) : Prop := E_X12_seats l q 247 [(0, rV (some 60)), (2, iV v2), (3, iV v3), (4, iV v4), (5, iV v5)] [] M 0 0
theorem w_X12_seats (l : Launch) (p1 : Int32) (M : o_M) (q : Int32 → o_M → Prop) (h : K_X12_chairs l [rV (some 60), iV p1, iV (-1)] M (fun r2 M1 => H_X12_seats_9 l q p1 r2 0 M1)) : K_X12_seats l [rV (some 60), iV p1] M q := by
  refine o_ctr (ini := false) (by decide +kernel) rfl (fun z => by cases z) (Nat.le_of_ble_eq_true rfl) ?_
  show E_X12_seats l q 0 [(0, rV (some 60)), (1, iV p1)] [] M 0 0
  refine e_aload_n dX12_seats_0 rfl rfl ?_
  refine e_iload_n dX12_seats_1 rfl rfl ?_
  refine e_iconst (v := (-1)) dX12_seats_2 (by decide) ?_
  refine e_callV (As := [iV p1, iV (-1)]) (st := []) mt_X12_chairs in_X12_chairs lkX12_196 rfl rfl ⟨by decide, by decide⟩ (Nat.le_of_ble_eq_true rfl) ⟨by decide, by decide⟩ rfl rfl dX12_seats_3 (Ctr.mono h (fun v M1 h => ?_))
  obtain ⟨r2, rfl, h⟩ := h
  show E_X12_seats l q 6 [(0, rV (some 60)), (1, iV p1)] [iV r2] M1 0 0
  refine e_istore_n (lv' := [(2, iV r2), (0, rV (some 60)), (1, iV p1)]) dX12_seats_6 rfl (by decide) rfl ?_
  refine e_iconst (v := 0) dX12_seats_7 (by decide) ?_
  refine e_istore_n (lv' := [(3, iV 0), (2, iV r2), (0, rV (some 60)), (1, iV p1)]) dX12_seats_8 rfl (by decide) rfl ?_
  exact e_lv (List.forall_mem_cons.mpr ⟨rfl, List.forall_mem_cons.mpr ⟨rfl, List.forall_mem_cons.mpr ⟨rfl, List.forall_mem_cons.mpr ⟨rfl, fun _ h => absurd h List.not_mem_nil⟩⟩⟩⟩) h
theorem w_X12_seats_9 (l : Launch) (q : Int32 → o_M → Prop) (v1 : Int32) (v2 : Int32) (v3 : Int32) (M : o_M) (h : ((v2 ≤ v3 → H_X12_seats_73 l q v2 v2 M) ∧ (¬ v2 ≤ v3 → H_X12_seats_17 l q v1 v2 v3 0 M))) : H_X12_seats_9 l q v1 v2 v3 M := by
  refine e_iload_n dX12_seats_9 rfl rfl ?_
  refine e_iload_n dX12_seats_10 rfl rfl ?_
  refine e_ic_ge (tgt := 71) dX12_seats_11 (by decide) (fun c3 => ?_) (fun c3 => ?_)
  · replace h := h.1 c3
    refine e_iload_n dX12_seats_71 rfl rfl ?_
    refine e_istore_n (lv' := [(3, iV v2), (0, rV (some 60)), (1, iV v1), (2, iV v2)]) dX12_seats_72 rfl (by decide) rfl ?_
    exact e_lv (List.forall_mem_cons.mpr ⟨rfl, List.forall_mem_cons.mpr ⟨rfl, List.forall_mem_cons.mpr ⟨rfl, fun _ h => absurd h List.not_mem_nil⟩⟩⟩) h
  · replace h := h.2 c3
    refine e_iconst (v := 0) dX12_seats_14 (by decide) ?_
    refine e_istore (lv' := [(4, iV 0), (0, rV (some 60)), (1, iV v1), (2, iV v2), (3, iV v3)]) (by decide) rfl dX12_seats_15 ?_
    exact e_lv (List.forall_mem_cons.mpr ⟨rfl, List.forall_mem_cons.mpr ⟨rfl, List.forall_mem_cons.mpr ⟨rfl, List.forall_mem_cons.mpr ⟨rfl, List.forall_mem_cons.mpr ⟨rfl, fun _ h => absurd h List.not_mem_nil⟩⟩⟩⟩⟩) h
theorem w_X12_seats_73 (l : Launch) (q : Int32 → o_M → Prop) (v2 : Int32) (v3 : Int32) (M : o_M) (h : ((v3 < 0 → H_X12_seats_225 l q v2 0 0 M) ∧ (¬ v3 < 0 → H_X12_seats_80 l q v2 v3 0 M))) : H_X12_seats_73 l q v2 v3 M := by
  refine e_iload_n dX12_seats_73 rfl rfl ?_
  refine e_if_lt (tgt := 220) dX12_seats_74 (by decide) (fun c4 => ?_) (fun c4 => ?_)
  · replace h := h.1 c4
    refine e_iconst (v := 0) dX12_seats_220 (by decide) ?_
    refine e_istore_n (lv' := [(3, iV 0), (0, rV (some 60)), (2, iV v2)]) dX12_seats_221 rfl (by decide) rfl ?_
    refine e_iconst (v := 0) dX12_seats_222 (by decide) ?_
    refine e_istore (lv' := [(4, iV 0), (3, iV 0), (0, rV (some 60)), (2, iV v2)]) (by decide) rfl dX12_seats_223 ?_
    exact e_lv (List.forall_mem_cons.mpr ⟨rfl, List.forall_mem_cons.mpr ⟨rfl, List.forall_mem_cons.mpr ⟨rfl, List.forall_mem_cons.mpr ⟨rfl, fun _ h => absurd h List.not_mem_nil⟩⟩⟩⟩) h
  · replace h := h.2 c4
    refine e_iconst (v := 0) dX12_seats_77 (by decide) ?_
    refine e_istore (lv' := [(4, iV 0), (0, rV (some 60)), (2, iV v2), (3, iV v3)]) (by decide) rfl dX12_seats_78 ?_
    exact e_lv (List.forall_mem_cons.mpr ⟨rfl, List.forall_mem_cons.mpr ⟨rfl, List.forall_mem_cons.mpr ⟨rfl, List.forall_mem_cons.mpr ⟨rfl, fun _ h => absurd h List.not_mem_nil⟩⟩⟩⟩) h
theorem w_X12_seats_17 (l : Launch) (q : Int32 → o_M → Prop) (v1 : Int32) (v2 : Int32) (v3 : Int32) (v4 : Int32) (M : o_M) (h : (((mI M 60 7) ≤ v4 → H_X12_seats_9 l q v1 v2 (v3 + 1) M) ∧ (¬ (mI M 60 7) ≤ v4 → (mR M 60 51 = some 112 ∧ K_X12_instrumentOf l [rV (some 60), iV v1, iV v3] M (fun r8 M7 => K_X12_hinders l [rV (some 60), iV v1, iV v4, iV r8] M7 (fun r10 M9 => ((¬ r10 = 0 → (vp_in ((10 * v3) + v4) (mN M9 112) ∧ H_X12_seats_17 l q v1 v2 v3 (v4 + 1) (sI M9 112 (((10 * v3) + v4).toNatClampNeg) (vp_nar .boolean 0)))) ∧ (r10 = 0 → (vp_in ((10 * v3) + v4) (mN M9 112) ∧ H_X12_seats_17 l q v1 v2 v3 (v4 + 1) (sI M9 112 (((10 * v3) + v4).toNatClampNeg) (vp_nar .boolean 1))))))))))) : H_X12_seats_17 l q v1 v2 v3 v4 M := by
  refine e_iload rfl dX12_seats_17 ?_
  refine e_aload_n dX12_seats_19 rfl rfl ?_
  refine e_gI flX12_159 rfl rfl dX12_seats_20 ?_
  refine e_ic_ge (tgt := 65) dX12_seats_23 (by decide) (fun c5 => ?_) (fun c5 => ?_)
  · replace h := h.1 c5
    refine e_iinc (v := 1) (lv' := [(3, iV (v3 + 1)), (0, rV (some 60)), (1, iV v1), (2, iV v2), (4, iV v4)]) rfl (by decide) (by decide) rfl dX12_seats_65 ?_
    refine e_goto (tgt := 9) dX12_seats_68 (by decide) ?_
    exact e_lv (List.forall_mem_cons.mpr ⟨rfl, List.forall_mem_cons.mpr ⟨rfl, List.forall_mem_cons.mpr ⟨rfl, List.forall_mem_cons.mpr ⟨rfl, fun _ h => absurd h List.not_mem_nil⟩⟩⟩⟩) h
  · replace h := h.2 c5
    refine e_aload_n dX12_seats_26 rfl rfl ?_
    obtain ⟨o6, h⟩ := h
    refine e_gA flX12_120 rfl rfl o6 dX12_seats_27 ?_
    refine e_bipush (v := 10) dX12_seats_30 (by decide) ?_
    refine e_iload_n dX12_seats_32 rfl rfl ?_
    refine e_imul dX12_seats_33 ?_
    refine e_iload rfl dX12_seats_34 ?_
    refine e_iadd dX12_seats_36 ?_
    refine e_aload_n dX12_seats_37 rfl rfl ?_
    refine e_iload_n dX12_seats_38 rfl rfl ?_
    refine e_iload rfl dX12_seats_39 ?_
    refine e_aload_n dX12_seats_41 rfl rfl ?_
    refine e_iload_n dX12_seats_42 rfl rfl ?_
    refine e_iload_n dX12_seats_43 rfl rfl ?_
    refine e_callV (As := [iV v1, iV v3]) (st := [iV v4, iV v1, rV (some 60), iV ((10 * v3) + v4), rV (some 112)]) mt_X12_instrumentOf in_X12_instrumentOf lkX12_321 rfl rfl ⟨by decide, by decide⟩ (Nat.le_of_ble_eq_true rfl) ⟨by decide, by decide⟩ rfl rfl dX12_seats_44 (Ctr.mono h (fun v M7 h => ?_))
    obtain ⟨r8, rfl, h⟩ := h
    show E_X12_seats l q 47 [(0, rV (some 60)), (1, iV v1), (2, iV v2), (3, iV v3), (4, iV v4)] [iV r8, iV v4, iV v1, rV (some 60), iV ((10 * v3) + v4), rV (some 112)] M7 0 0
    refine e_callV (As := [iV v1, iV v4, iV r8]) (st := [iV ((10 * v3) + v4), rV (some 112)]) mt_X12_hinders in_X12_hinders lkX12_316 rfl rfl ⟨by decide, by decide⟩ (Nat.le_of_ble_eq_true rfl) ⟨by decide, by decide⟩ rfl rfl dX12_seats_47 (Ctr.mono h (fun v M9 h => ?_))
    obtain ⟨r10, rfl, h⟩ := h
    show E_X12_seats l q 50 [(0, rV (some 60)), (1, iV v1), (2, iV v2), (3, iV v3), (4, iV v4)] [iV r10, iV ((10 * v3) + v4), rV (some 112)] M9 0 0
    refine e_if_ne (tgt := 57) dX12_seats_50 (by decide) (fun c11 => ?_) (fun c11 => ?_)
    · replace h := h.1 c11
      refine e_iconst (v := 0) dX12_seats_57 (by decide) ?_
      obtain ⟨o12, h⟩ := h
      refine e_zast rfl o12 dX12_seats_58 ?_
      refine e_iinc (v := 1) (lv' := [(4, iV (v4 + 1)), (0, rV (some 60)), (1, iV v1), (2, iV v2), (3, iV v3)]) rfl (by decide) (by decide) rfl dX12_seats_59 ?_
      refine e_goto (tgt := 17) dX12_seats_62 (by decide) ?_
      exact e_lv (List.forall_mem_cons.mpr ⟨rfl, List.forall_mem_cons.mpr ⟨rfl, List.forall_mem_cons.mpr ⟨rfl, List.forall_mem_cons.mpr ⟨rfl, List.forall_mem_cons.mpr ⟨rfl, fun _ h => absurd h List.not_mem_nil⟩⟩⟩⟩⟩) h
    · replace h := h.2 c11
      refine e_iconst (v := 1) dX12_seats_53 (by decide) ?_
      refine e_goto (tgt := 58) dX12_seats_54 (by decide) ?_
      obtain ⟨o13, h⟩ := h
      refine e_zast rfl o13 dX12_seats_58 ?_
      refine e_iinc (v := 1) (lv' := [(4, iV (v4 + 1)), (0, rV (some 60)), (1, iV v1), (2, iV v2), (3, iV v3)]) rfl (by decide) (by decide) rfl dX12_seats_59 ?_
      refine e_goto (tgt := 17) dX12_seats_62 (by decide) ?_
      exact e_lv (List.forall_mem_cons.mpr ⟨rfl, List.forall_mem_cons.mpr ⟨rfl, List.forall_mem_cons.mpr ⟨rfl, List.forall_mem_cons.mpr ⟨rfl, List.forall_mem_cons.mpr ⟨rfl, fun _ h => absurd h List.not_mem_nil⟩⟩⟩⟩⟩) h
theorem w_X12_seats_225 (l : Launch) (q : Int32 → o_M → Prop) (v2 : Int32) (v3 : Int32) (v4 : Int32) (M : o_M) (h : ((v2 ≤ v4 → (mR M 60 52 = some 113 ∧ (vp_in 0 (mN M 113) ∧ q (v2 - (mI M 113 (0 : Int32).toNatClampNeg)) M))) ∧ (¬ v2 ≤ v4 → (mR M 60 53 = some 114 ∧ (vp_in v4 (mN M 114) ∧ H_X12_seats_247 l q v2 v3 v4 ((mI (sI M 114 v4.toNatClampNeg (-1)) 60 7) - 1) (sI M 114 v4.toNatClampNeg (-1))))))) : H_X12_seats_225 l q v2 v3 v4 M := by
  refine e_iload rfl dX12_seats_225 ?_
  refine e_iload_n dX12_seats_227 rfl rfl ?_
  refine e_ic_ge (tgt := 335) dX12_seats_228 (by decide) (fun c14 => ?_) (fun c14 => ?_)
  · replace h := h.1 c14
    refine e_iload_n dX12_seats_335 rfl rfl ?_
    refine e_aload_n dX12_seats_336 rfl rfl ?_
    obtain ⟨o15, h⟩ := h
    refine e_gA flX12_123 rfl rfl o15 dX12_seats_337 ?_
    refine e_iconst (v := 0) dX12_seats_340 (by decide) ?_
    obtain ⟨o16, h⟩ := h
    refine e_iald rfl o16 dX12_seats_341 ?_
    refine e_isub dX12_seats_342 ?_
    exact e_iret rfl trivial dX12_seats_343 ⟨_, rfl, h⟩
  · replace h := h.2 c14
    refine e_aload_n dX12_seats_231 rfl rfl ?_
    obtain ⟨o17, h⟩ := h
    refine e_gA flX12_126 rfl rfl o17 dX12_seats_232 ?_
    refine e_iload rfl dX12_seats_235 ?_
    refine e_iconst (v := (-1)) dX12_seats_237 (by decide) ?_
    obtain ⟨o18, h⟩ := h
    refine e_iast rfl o18 dX12_seats_238 ?_
    refine e_aload_n dX12_seats_239 rfl rfl ?_
    refine e_gI flX12_159 rfl rfl dX12_seats_240 ?_
    refine e_iconst (v := 1) dX12_seats_243 (by decide) ?_
    refine e_isub dX12_seats_244 ?_
    refine e_istore (lv' := [(5, iV ((mI (sI M 114 v4.toNatClampNeg (-1)) 60 7) - 1)), (0, rV (some 60)), (2, iV v2), (3, iV v3), (4, iV v4)]) (by decide) rfl dX12_seats_245 ?_
    exact e_lv (List.forall_mem_cons.mpr ⟨rfl, List.forall_mem_cons.mpr ⟨rfl, List.forall_mem_cons.mpr ⟨rfl, List.forall_mem_cons.mpr ⟨rfl, List.forall_mem_cons.mpr ⟨rfl, fun _ h => absurd h List.not_mem_nil⟩⟩⟩⟩⟩) h
theorem w_X12_seats_80 (l : Launch) (q : Int32 → o_M → Prop) (v2 : Int32) (v3 : Int32) (v4 : Int32) (M : o_M) (h : ((1024 ≤ v4 → H_X12_seats_73 l q v2 (v3 + (-1)) M) ∧ (¬ 1024 ≤ v4 → (mR M 60 52 = some 113 ∧ ((¬ v3 = v2 → (mR M 60 52 = some 113 ∧ (vp_in ((1024 * (v3 + 1)) + v4) (mN M 113) ∧ (vp_in ((1024 * v3) + v4) (mN M 113) ∧ H_X12_seats_128 l q v2 v3 v4 0 (sI M 113 (((1024 * v3) + v4).toNatClampNeg) (mI M 113 ((1024 * (v3 + 1)) + v4).toNatClampNeg)))))) ∧ (v3 = v2 → (vp_in ((1024 * v3) + v4) (mN M 113) ∧ H_X12_seats_128 l q v2 v3 v4 0 (sI M 113 (((1024 * v3) + v4).toNatClampNeg) 0)))))))) : H_X12_seats_80 l q v2 v3 v4 M := by
  refine e_iload rfl dX12_seats_80 ?_
  refine e_sipush (v := 1024) dX12_seats_82 (by decide) ?_
  refine e_ic_ge (tgt := 214) dX12_seats_85 (by decide) (fun c19 => ?_) (fun c19 => ?_)
  · replace h := h.1 c19
    refine e_iinc (v := (-1)) (lv' := [(3, iV (v3 + (-1))), (0, rV (some 60)), (2, iV v2), (4, iV v4)]) rfl (by decide) (by decide) rfl dX12_seats_214 ?_
    refine e_goto (tgt := 73) dX12_seats_217 (by decide) ?_
    exact e_lv (List.forall_mem_cons.mpr ⟨rfl, List.forall_mem_cons.mpr ⟨rfl, List.forall_mem_cons.mpr ⟨rfl, fun _ h => absurd h List.not_mem_nil⟩⟩⟩) h
  · replace h := h.2 c19
    refine e_aload_n dX12_seats_88 rfl rfl ?_
    obtain ⟨o20, h⟩ := h
    refine e_gA flX12_123 rfl rfl o20 dX12_seats_89 ?_
    refine e_sipush (v := 1024) dX12_seats_92 (by decide) ?_
    refine e_iload_n dX12_seats_95 rfl rfl ?_
    refine e_imul dX12_seats_96 ?_
    refine e_iload rfl dX12_seats_97 ?_
    refine e_iadd dX12_seats_99 ?_
    refine e_iload_n dX12_seats_100 rfl rfl ?_
    refine e_iload_n dX12_seats_101 rfl rfl ?_
    refine e_ic_ne (tgt := 109) dX12_seats_102 (by decide) (fun c21 => ?_) (fun c21 => ?_)
    · replace h := h.1 c21
      refine e_aload_n dX12_seats_109 rfl rfl ?_
      obtain ⟨o22, h⟩ := h
      refine e_gA flX12_123 rfl rfl o22 dX12_seats_110 ?_
      refine e_sipush (v := 1024) dX12_seats_113 (by decide) ?_
      refine e_iload_n dX12_seats_116 rfl rfl ?_
      refine e_iconst (v := 1) dX12_seats_117 (by decide) ?_
      refine e_iadd dX12_seats_118 ?_
      refine e_imul dX12_seats_119 ?_
      refine e_iload rfl dX12_seats_120 ?_
      refine e_iadd dX12_seats_122 ?_
      obtain ⟨o23, h⟩ := h
      refine e_iald rfl o23 dX12_seats_123 ?_
      obtain ⟨o24, h⟩ := h
      refine e_iast rfl o24 dX12_seats_124 ?_
      refine e_iconst (v := 0) dX12_seats_125 (by decide) ?_
      refine e_istore (lv' := [(5, iV 0), (0, rV (some 60)), (2, iV v2), (3, iV v3), (4, iV v4)]) (by decide) rfl dX12_seats_126 ?_
      exact e_lv (List.forall_mem_cons.mpr ⟨rfl, List.forall_mem_cons.mpr ⟨rfl, List.forall_mem_cons.mpr ⟨rfl, List.forall_mem_cons.mpr ⟨rfl, List.forall_mem_cons.mpr ⟨rfl, fun _ h => absurd h List.not_mem_nil⟩⟩⟩⟩⟩) h
    · replace h := h.2 c21
      refine e_iconst (v := 0) dX12_seats_105 (by decide) ?_
      refine e_goto (tgt := 124) dX12_seats_106 (by decide) ?_
      obtain ⟨o25, h⟩ := h
      refine e_iast rfl o25 dX12_seats_124 ?_
      refine e_iconst (v := 0) dX12_seats_125 (by decide) ?_
      refine e_istore (lv' := [(5, iV 0), (0, rV (some 60)), (2, iV v2), (3, iV v3), (4, iV v4)]) (by decide) rfl dX12_seats_126 ?_
      exact e_lv (List.forall_mem_cons.mpr ⟨rfl, List.forall_mem_cons.mpr ⟨rfl, List.forall_mem_cons.mpr ⟨rfl, List.forall_mem_cons.mpr ⟨rfl, List.forall_mem_cons.mpr ⟨rfl, fun _ h => absurd h List.not_mem_nil⟩⟩⟩⟩⟩) h
theorem w_X12_seats_247 (l : Launch) (q : Int32 → o_M → Prop) (v2 : Int32) (v3 : Int32) (v4 : Int32) (v5 : Int32) (M : o_M) (h : ((v5 < 0 → (mR M 60 53 = some 114 ∧ (vp_in v4 (mN M 114) ∧ ((¬ (mI M 114 v4.toNatClampNeg) = (-1) → (mR M 60 53 = some 114 ∧ (vp_in v4 (mN M 114) ∧ H_X12_seats_225 l q v2 (v3 ||| ((1 : Int32) <<< ((mI M 114 v4.toNatClampNeg) &&& 31))) (v4 + 1) M))) ∧ ((mI M 114 v4.toNatClampNeg) = (-1) → H_X12_seats_225 l q v2 (v3 ||| 0) (v4 + 1) M))))) ∧ (¬ v5 < 0 → (mR M 60 53 = some 114 ∧ K_X12_choice l [rV (some 60), iV v4, iV v3, iV v5] M (fun r34 M33 => (mR M33 60 52 = some 113 ∧ (vp_in ((1024 * v4) + v3) (mN M33 113) ∧ ((¬ r34 = (mI M33 113 ((1024 * v4) + v3).toNatClampNeg) → (mR M33 60 53 = some 114 ∧ (vp_in v4 (mN M33 114) ∧ (vp_in v4 (mN M33 114) ∧ H_X12_seats_247 l q v2 v3 v4 (v5 + (-1)) (sI M33 114 v4.toNatClampNeg (mI M33 114 v4.toNatClampNeg)))))) ∧ (r34 = (mI M33 113 ((1024 * v4) + v3).toNatClampNeg) → (vp_in v4 (mN M33 114) ∧ H_X12_seats_247 l q v2 v3 v4 (v5 + (-1)) (sI M33 114 v4.toNatClampNeg v5))))))))))) : H_X12_seats_247 l q v2 v3 v4 v5 M := by
  refine e_iload rfl dX12_seats_247 ?_
  refine e_if_lt (tgt := 302) dX12_seats_249 (by decide) (fun c26 => ?_) (fun c26 => ?_)
  · replace h := h.1 c26
    refine e_iload_n dX12_seats_302 rfl rfl ?_
    refine e_aload_n dX12_seats_303 rfl rfl ?_
    obtain ⟨o27, h⟩ := h
    refine e_gA flX12_126 rfl rfl o27 dX12_seats_304 ?_
    refine e_iload rfl dX12_seats_307 ?_
    obtain ⟨o28, h⟩ := h
    refine e_iald rfl o28 dX12_seats_309 ?_
    refine e_iconst (v := (-1)) dX12_seats_310 (by decide) ?_
    refine e_ic_ne (tgt := 318) dX12_seats_311 (by decide) (fun c29 => ?_) (fun c29 => ?_)
    · replace h := h.1 c29
      refine e_iconst (v := 1) dX12_seats_318 (by decide) ?_
      refine e_aload_n dX12_seats_319 rfl rfl ?_
      obtain ⟨o30, h⟩ := h
      refine e_gA flX12_126 rfl rfl o30 dX12_seats_320 ?_
      refine e_iload rfl dX12_seats_323 ?_
      obtain ⟨o31, h⟩ := h
      refine e_iald rfl o31 dX12_seats_325 ?_
      refine e_ishl dX12_seats_326 ?_
      refine e_ior dX12_seats_327 ?_
      refine e_istore_n (lv' := [(3, iV (v3 ||| ((1 : Int32) <<< ((mI M 114 v4.toNatClampNeg) &&& 31)))), (0, rV (some 60)), (2, iV v2), (4, iV v4), (5, iV v5)]) dX12_seats_328 rfl (by decide) rfl ?_
      refine e_iinc (v := 1) (lv' := [(4, iV (v4 + 1)), (3, iV (v3 ||| ((1 : Int32) <<< ((mI M 114 v4.toNatClampNeg) &&& 31)))), (0, rV (some 60)), (2, iV v2), (5, iV v5)]) rfl (by decide) (by decide) rfl dX12_seats_329 ?_
      refine e_goto (tgt := 225) dX12_seats_332 (by decide) ?_
      exact e_lv (List.forall_mem_cons.mpr ⟨rfl, List.forall_mem_cons.mpr ⟨rfl, List.forall_mem_cons.mpr ⟨rfl, List.forall_mem_cons.mpr ⟨rfl, fun _ h => absurd h List.not_mem_nil⟩⟩⟩⟩) h
    · replace h := h.2 c29
      refine e_iconst (v := 0) dX12_seats_314 (by decide) ?_
      refine e_goto (tgt := 327) dX12_seats_315 (by decide) ?_
      refine e_ior dX12_seats_327 ?_
      refine e_istore_n (lv' := [(3, iV (v3 ||| 0)), (0, rV (some 60)), (2, iV v2), (4, iV v4), (5, iV v5)]) dX12_seats_328 rfl (by decide) rfl ?_
      refine e_iinc (v := 1) (lv' := [(4, iV (v4 + 1)), (3, iV (v3 ||| 0)), (0, rV (some 60)), (2, iV v2), (5, iV v5)]) rfl (by decide) (by decide) rfl dX12_seats_329 ?_
      refine e_goto (tgt := 225) dX12_seats_332 (by decide) ?_
      exact e_lv (List.forall_mem_cons.mpr ⟨rfl, List.forall_mem_cons.mpr ⟨rfl, List.forall_mem_cons.mpr ⟨rfl, List.forall_mem_cons.mpr ⟨rfl, fun _ h => absurd h List.not_mem_nil⟩⟩⟩⟩) h
  · replace h := h.2 c26
    refine e_aload_n dX12_seats_252 rfl rfl ?_
    obtain ⟨o32, h⟩ := h
    refine e_gA flX12_126 rfl rfl o32 dX12_seats_253 ?_
    refine e_iload rfl dX12_seats_256 ?_
    refine e_aload_n dX12_seats_258 rfl rfl ?_
    refine e_iload rfl dX12_seats_259 ?_
    refine e_iload_n dX12_seats_261 rfl rfl ?_
    refine e_iload rfl dX12_seats_262 ?_
    refine e_callV (As := [iV v4, iV v3, iV v5]) (st := [iV v4, rV (some 114)]) mt_X12_choice in_X12_choice lkX12_324 rfl rfl ⟨by decide, by decide⟩ (Nat.le_of_ble_eq_true rfl) ⟨by decide, by decide⟩ rfl rfl dX12_seats_264 (Ctr.mono h (fun v M33 h => ?_))
    obtain ⟨r34, rfl, h⟩ := h
    show E_X12_seats l q 267 [(0, rV (some 60)), (2, iV v2), (3, iV v3), (4, iV v4), (5, iV v5)] [iV r34, iV v4, rV (some 114)] M33 0 0
    refine e_aload_n dX12_seats_267 rfl rfl ?_
    obtain ⟨o35, h⟩ := h
    refine e_gA flX12_123 rfl rfl o35 dX12_seats_268 ?_
    refine e_sipush (v := 1024) dX12_seats_271 (by decide) ?_
    refine e_iload rfl dX12_seats_274 ?_
    refine e_imul dX12_seats_276 ?_
    refine e_iload_n dX12_seats_277 rfl rfl ?_
    refine e_iadd dX12_seats_278 ?_
    obtain ⟨o36, h⟩ := h
    refine e_iald rfl o36 dX12_seats_279 ?_
    refine e_ic_ne (tgt := 288) dX12_seats_280 (by decide) (fun c37 => ?_) (fun c37 => ?_)
    · replace h := h.1 c37
      refine e_aload_n dX12_seats_288 rfl rfl ?_
      obtain ⟨o38, h⟩ := h
      refine e_gA flX12_126 rfl rfl o38 dX12_seats_289 ?_
      refine e_iload rfl dX12_seats_292 ?_
      obtain ⟨o39, h⟩ := h
      refine e_iald rfl o39 dX12_seats_294 ?_
      obtain ⟨o40, h⟩ := h
      refine e_iast rfl o40 dX12_seats_295 ?_
      refine e_iinc (v := (-1)) (lv' := [(5, iV (v5 + (-1))), (0, rV (some 60)), (2, iV v2), (3, iV v3), (4, iV v4)]) rfl (by decide) (by decide) rfl dX12_seats_296 ?_
      refine e_goto (tgt := 247) dX12_seats_299 (by decide) ?_
      exact e_lv (List.forall_mem_cons.mpr ⟨rfl, List.forall_mem_cons.mpr ⟨rfl, List.forall_mem_cons.mpr ⟨rfl, List.forall_mem_cons.mpr ⟨rfl, List.forall_mem_cons.mpr ⟨rfl, fun _ h => absurd h List.not_mem_nil⟩⟩⟩⟩⟩) h
    · replace h := h.2 c37
      refine e_iload rfl dX12_seats_283 ?_
      refine e_goto (tgt := 295) dX12_seats_285 (by decide) ?_
      obtain ⟨o41, h⟩ := h
      refine e_iast rfl o41 dX12_seats_295 ?_
      refine e_iinc (v := (-1)) (lv' := [(5, iV (v5 + (-1))), (0, rV (some 60)), (2, iV v2), (3, iV v3), (4, iV v4)]) rfl (by decide) (by decide) rfl dX12_seats_296 ?_
      refine e_goto (tgt := 247) dX12_seats_299 (by decide) ?_
      exact e_lv (List.forall_mem_cons.mpr ⟨rfl, List.forall_mem_cons.mpr ⟨rfl, List.forall_mem_cons.mpr ⟨rfl, List.forall_mem_cons.mpr ⟨rfl, List.forall_mem_cons.mpr ⟨rfl, fun _ h => absurd h List.not_mem_nil⟩⟩⟩⟩⟩) h
theorem w_X12_seats_128 (l : Launch) (q : Int32 → o_M → Prop) (v2 : Int32) (v3 : Int32) (v4 : Int32) (v5 : Int32) (M : o_M) (h : (((mI M 60 7) ≤ v5 → H_X12_seats_80 l q v2 v3 (v4 + 1) M) ∧ (¬ (mI M 60 7) ≤ v5 → ((v2 ≤ v3 → H_X12_seats_80 l q v2 v3 (v4 + 1) M) ∧ (¬ v2 ≤ v3 → K_X12_choice l [rV (some 60), iV v3, iV v4, iV v5] M (fun r45 M44 => (mR M44 60 52 = some 113 ∧ (mR M44 60 52 = some 113 ∧ (vp_in ((1024 * v3) + v4) (mN M44 113) ∧ ((r45 ≤ (mI M44 113 ((1024 * v3) + v4).toNatClampNeg) → (mR M44 60 52 = some 113 ∧ (vp_in ((1024 * v3) + v4) (mN M44 113) ∧ (vp_in ((1024 * v3) + v4) (mN M44 113) ∧ H_X12_seats_128 l q v2 v3 v4 (v5 + 1) (sI M44 113 (((1024 * v3) + v4).toNatClampNeg) (mI M44 113 ((1024 * v3) + v4).toNatClampNeg)))))) ∧ (¬ r45 ≤ (mI M44 113 ((1024 * v3) + v4).toNatClampNeg) → (vp_in ((1024 * v3) + v4) (mN M44 113) ∧ H_X12_seats_128 l q v2 v3 v4 (v5 + 1) (sI M44 113 (((1024 * v3) + v4).toNatClampNeg) r45))))))))))))) : H_X12_seats_128 l q v2 v3 v4 v5 M := by
  refine e_iload rfl dX12_seats_128 ?_
  refine e_aload_n dX12_seats_130 rfl rfl ?_
  refine e_gI flX12_159 rfl rfl dX12_seats_131 ?_
  refine e_ic_ge (tgt := 208) dX12_seats_134 (by decide) (fun c42 => ?_) (fun c42 => ?_)
  · replace h := h.1 c42
    refine e_iinc (v := 1) (lv' := [(4, iV (v4 + 1)), (0, rV (some 60)), (2, iV v2), (3, iV v3), (5, iV v5)]) rfl (by decide) (by decide) rfl dX12_seats_208 ?_
    refine e_goto (tgt := 80) dX12_seats_211 (by decide) ?_
    exact e_lv (List.forall_mem_cons.mpr ⟨rfl, List.forall_mem_cons.mpr ⟨rfl, List.forall_mem_cons.mpr ⟨rfl, List.forall_mem_cons.mpr ⟨rfl, fun _ h => absurd h List.not_mem_nil⟩⟩⟩⟩) h
  · replace h := h.2 c42
    refine e_iload_n dX12_seats_137 rfl rfl ?_
    refine e_iload_n dX12_seats_138 rfl rfl ?_
    refine e_ic_ge (tgt := 208) dX12_seats_139 (by decide) (fun c43 => ?_) (fun c43 => ?_)
    · replace h := h.1 c43
      refine e_iinc (v := 1) (lv' := [(4, iV (v4 + 1)), (0, rV (some 60)), (2, iV v2), (3, iV v3), (5, iV v5)]) rfl (by decide) (by decide) rfl dX12_seats_208 ?_
      refine e_goto (tgt := 80) dX12_seats_211 (by decide) ?_
      exact e_lv (List.forall_mem_cons.mpr ⟨rfl, List.forall_mem_cons.mpr ⟨rfl, List.forall_mem_cons.mpr ⟨rfl, List.forall_mem_cons.mpr ⟨rfl, fun _ h => absurd h List.not_mem_nil⟩⟩⟩⟩) h
    · replace h := h.2 c43
      refine e_aload_n dX12_seats_142 rfl rfl ?_
      refine e_iload_n dX12_seats_143 rfl rfl ?_
      refine e_iload rfl dX12_seats_144 ?_
      refine e_iload rfl dX12_seats_146 ?_
      refine e_callV (As := [iV v3, iV v4, iV v5]) (st := []) mt_X12_choice in_X12_choice lkX12_324 rfl rfl ⟨by decide, by decide⟩ (Nat.le_of_ble_eq_true rfl) ⟨by decide, by decide⟩ rfl rfl dX12_seats_148 (Ctr.mono h (fun v M44 h => ?_))
      obtain ⟨r45, rfl, h⟩ := h
      show E_X12_seats l q 151 [(0, rV (some 60)), (2, iV v2), (3, iV v3), (4, iV v4), (5, iV v5)] [iV r45] M44 0 0
      refine e_istore (lv' := [(6, iV r45), (0, rV (some 60)), (2, iV v2), (3, iV v3), (4, iV v4), (5, iV v5)]) (by decide) rfl dX12_seats_151 ?_
      refine e_aload_n dX12_seats_153 rfl rfl ?_
      obtain ⟨o46, h⟩ := h
      refine e_gA flX12_123 rfl rfl o46 dX12_seats_154 ?_
      refine e_sipush (v := 1024) dX12_seats_157 (by decide) ?_
      refine e_iload_n dX12_seats_160 rfl rfl ?_
      refine e_imul dX12_seats_161 ?_
      refine e_iload rfl dX12_seats_162 ?_
      refine e_iadd dX12_seats_164 ?_
      refine e_iload rfl dX12_seats_165 ?_
      refine e_aload_n dX12_seats_167 rfl rfl ?_
      obtain ⟨o47, h⟩ := h
      refine e_gA flX12_123 rfl rfl o47 dX12_seats_168 ?_
      refine e_sipush (v := 1024) dX12_seats_171 (by decide) ?_
      refine e_iload_n dX12_seats_174 rfl rfl ?_
      refine e_imul dX12_seats_175 ?_
      refine e_iload rfl dX12_seats_176 ?_
      refine e_iadd dX12_seats_178 ?_
      obtain ⟨o48, h⟩ := h
      refine e_iald rfl o48 dX12_seats_179 ?_
      refine e_ic_le (tgt := 188) dX12_seats_180 (by decide) (fun c49 => ?_) (fun c49 => ?_)
      · replace h := h.1 c49
        refine e_aload_n dX12_seats_188 rfl rfl ?_
        obtain ⟨o50, h⟩ := h
        refine e_gA flX12_123 rfl rfl o50 dX12_seats_189 ?_
        refine e_sipush (v := 1024) dX12_seats_192 (by decide) ?_
        refine e_iload_n dX12_seats_195 rfl rfl ?_
        refine e_imul dX12_seats_196 ?_
        refine e_iload rfl dX12_seats_197 ?_
        refine e_iadd dX12_seats_199 ?_
        obtain ⟨o51, h⟩ := h
        refine e_iald rfl o51 dX12_seats_200 ?_
        obtain ⟨o52, h⟩ := h
        refine e_iast rfl o52 dX12_seats_201 ?_
        refine e_iinc (v := 1) (lv' := [(5, iV (v5 + 1)), (6, iV r45), (0, rV (some 60)), (2, iV v2), (3, iV v3), (4, iV v4)]) rfl (by decide) (by decide) rfl dX12_seats_202 ?_
        refine e_goto (tgt := 128) dX12_seats_205 (by decide) ?_
        exact e_lv (List.forall_mem_cons.mpr ⟨rfl, List.forall_mem_cons.mpr ⟨rfl, List.forall_mem_cons.mpr ⟨rfl, List.forall_mem_cons.mpr ⟨rfl, List.forall_mem_cons.mpr ⟨rfl, fun _ h => absurd h List.not_mem_nil⟩⟩⟩⟩⟩) h
      · replace h := h.2 c49
        refine e_iload rfl dX12_seats_183 ?_
        refine e_goto (tgt := 201) dX12_seats_185 (by decide) ?_
        obtain ⟨o53, h⟩ := h
        refine e_iast rfl o53 dX12_seats_201 ?_
        refine e_iinc (v := 1) (lv' := [(5, iV (v5 + 1)), (6, iV r45), (0, rV (some 60)), (2, iV v2), (3, iV v3), (4, iV v4)]) rfl (by decide) (by decide) rfl dX12_seats_202 ?_
        refine e_goto (tgt := 128) dX12_seats_205 (by decide) ?_
        exact e_lv (List.forall_mem_cons.mpr ⟨rfl, List.forall_mem_cons.mpr ⟨rfl, List.forall_mem_cons.mpr ⟨rfl, List.forall_mem_cons.mpr ⟨rfl, List.forall_mem_cons.mpr ⟨rfl, fun _ h => absurd h List.not_mem_nil⟩⟩⟩⟩⟩) h
