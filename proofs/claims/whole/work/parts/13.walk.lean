/-! walks of methods (printed by program): X12_force X12_forge X12_inForce X12_instrumentOf X12_isProgramme X12_leave X12_next X12_played X12_player X12_playerTold X12_rest X12_rise X12_score X12_service X12_waitOf X12_workTold X12_call X12_gapsIn X12_named X12_need_ X12_opens -/
theorem dX12_force_0 : decode cX12_force 0 = .ok (.iload_n 1, 1) := by decide +kernel
theorem dX12_force_1 : decode cX12_force 1 = .ok (.iconst 0, 1) := by decide +kernel
theorem dX12_force_2 : decode cX12_force 2 = .ok (.aload_n 0, 1) := by decide +kernel
theorem dX12_force_3 : decode cX12_force 3 = .ok (.getfield 145, 3) := by decide +kernel
theorem dX12_force_6 : decode cX12_force 6 = .ok (.iconst 1, 1) := by decide +kernel
theorem dX12_force_7 : decode cX12_force 7 = .ok (.isub, 1) := by decide +kernel
theorem dX12_force_8 : decode cX12_force 8 = .ok (.invokestatic 155, 3) := by decide +kernel
theorem dX12_force_11 : decode cX12_force 11 = .ok (.ifCond .eq 10, 3) := by decide +kernel
theorem dX12_force_14 : decode cX12_force 14 = .ok (.iload_n 2, 1) := by decide +kernel
theorem dX12_force_15 : decode cX12_force 15 = .ok (.invokestatic 169, 3) := by decide +kernel
theorem dX12_force_18 : decode cX12_force 18 = .ok (.ifCond .ne 6, 3) := by decide +kernel
theorem dX12_force_21 : decode cX12_force 21 = .ok (.bipush (-2), 2) := by decide +kernel
theorem dX12_force_23 : decode cX12_force 23 = .ok (.ireturn, 1) := by decide +kernel
theorem dX12_force_24 : decode cX12_force 24 = .ok (.aload_n 0, 1) := by decide +kernel
theorem dX12_force_25 : decode cX12_force 25 = .ok (.getfield 92, 3) := by decide +kernel
theorem dX12_force_28 : decode cX12_force 28 = .ok (.iload_n 1, 1) := by decide +kernel
theorem dX12_force_29 : decode cX12_force 29 = .ok (.iload_n 2, 1) := by decide +kernel
theorem dX12_force_30 : decode cX12_force 30 = .ok (.iastore, 1) := by decide +kernel
theorem dX12_force_31 : decode cX12_force 31 = .ok (.aload_n 0, 1) := by decide +kernel
theorem dX12_force_32 : decode cX12_force 32 = .ok (.getfield 95, 3) := by decide +kernel
theorem dX12_force_35 : decode cX12_force 35 = .ok (.iload_n 1, 1) := by decide +kernel
theorem dX12_force_36 : decode cX12_force 36 = .ok (.aload_n 0, 1) := by decide +kernel
theorem dX12_force_37 : decode cX12_force 37 = .ok (.getfield 149, 3) := by decide +kernel
theorem dX12_force_40 : decode cX12_force 40 = .ok (.iastore, 1) := by decide +kernel
theorem dX12_force_41 : decode cX12_force 41 = .ok (.aload_n 0, 1) := by decide +kernel
theorem dX12_force_42 : decode cX12_force 42 = .ok (.dup, 1) := by decide +kernel
theorem dX12_force_43 : decode cX12_force 43 = .ok (.getfield 149, 3) := by decide +kernel
theorem dX12_force_46 : decode cX12_force 46 = .ok (.iconst 1, 1) := by decide +kernel
theorem dX12_force_47 : decode cX12_force 47 = .ok (.iadd, 1) := by decide +kernel
theorem dX12_force_48 : decode cX12_force 48 = .ok (.putfield 149, 3) := by decide +kernel
theorem dX12_force_51 : decode cX12_force 51 = .ok (.iconst 1, 1) := by decide +kernel
theorem dX12_force_52 : decode cX12_force 52 = .ok (.ireturn, 1) := by decide +kernel
theorem dX12_forge_0 : decode cX12_forge 0 = .ok (.iload_n 1, 1) := by decide +kernel
theorem dX12_forge_1 : decode cX12_forge 1 = .ok (.iconst 0, 1) := by decide +kernel
theorem dX12_forge_2 : decode cX12_forge 2 = .ok (.iconst 5, 1) := by decide +kernel
theorem dX12_forge_3 : decode cX12_forge 3 = .ok (.invokestatic 155, 3) := by decide +kernel
theorem dX12_forge_6 : decode cX12_forge 6 = .ok (.ifCond .eq 24, 3) := by decide +kernel
theorem dX12_forge_9 : decode cX12_forge 9 = .ok (.iload_n 2, 1) := by decide +kernel
theorem dX12_forge_10 : decode cX12_forge 10 = .ok (.iconst 0, 1) := by decide +kernel
theorem dX12_forge_11 : decode cX12_forge 11 = .ok (.bipush 8, 2) := by decide +kernel
theorem dX12_forge_13 : decode cX12_forge 13 = .ok (.invokestatic 155, 3) := by decide +kernel
theorem dX12_forge_16 : decode cX12_forge 16 = .ok (.ifCond .eq 14, 3) := by decide +kernel
theorem dX12_forge_19 : decode cX12_forge 19 = .ok (.iload_n 3, 1) := by decide +kernel
theorem dX12_forge_20 : decode cX12_forge 20 = .ok (.bipush (-100), 2) := by decide +kernel
theorem dX12_forge_22 : decode cX12_forge 22 = .ok (.bipush 100, 2) := by decide +kernel
theorem dX12_forge_24 : decode cX12_forge 24 = .ok (.invokestatic 155, 3) := by decide +kernel
theorem dX12_forge_27 : decode cX12_forge 27 = .ok (.ifCond .ne 9, 3) := by decide +kernel
theorem dX12_forge_30 : decode cX12_forge 30 = .ok (.aload_n 0, 1) := by decide +kernel
theorem dX12_forge_31 : decode cX12_forge 31 = .ok (.iconst 1, 1) := by decide +kernel
theorem dX12_forge_32 : decode cX12_forge 32 = .ok (.invokevirtual 360, 3) := by decide +kernel
theorem dX12_forge_35 : decode cX12_forge 35 = .ok (.ireturn, 1) := by decide +kernel
theorem dX12_forge_36 : decode cX12_forge 36 = .ok (.iload_n 2, 1) := by decide +kernel
theorem dX12_forge_37 : decode cX12_forge 37 = .ok (.tableswitch 147 0 7 #[47, 65, 73, 81, 89, 108, 115, 124], 47) := by decide +kernel
theorem dX12_forge_84 : decode cX12_forge 84 = .ok (.aload_n 0, 1) := by decide +kernel
theorem dX12_forge_85 : decode cX12_forge 85 = .ok (.iload_n 1, 1) := by decide +kernel
theorem dX12_forge_86 : decode cX12_forge 86 = .ok (.iload_n 3, 1) := by decide +kernel
theorem dX12_forge_87 : decode cX12_forge 87 = .ok (.bipush 6, 2) := by decide +kernel
theorem dX12_forge_89 : decode cX12_forge 89 = .ok (.irem, 1) := by decide +kernel
theorem dX12_forge_90 : decode cX12_forge 90 = .ok (.bipush 6, 2) := by decide +kernel
theorem dX12_forge_92 : decode cX12_forge 92 = .ok (.iadd, 1) := by decide +kernel
theorem dX12_forge_93 : decode cX12_forge 93 = .ok (.bipush 6, 2) := by decide +kernel
theorem dX12_forge_95 : decode cX12_forge 95 = .ok (.irem, 1) := by decide +kernel
theorem dX12_forge_96 : decode cX12_forge 96 = .ok (.bipush 11, 2) := by decide +kernel
theorem dX12_forge_98 : decode cX12_forge 98 = .ok (.invokevirtual 369, 3) := by decide +kernel
theorem dX12_forge_101 : decode cX12_forge 101 = .ok (.ireturn, 1) := by decide +kernel
theorem dX12_forge_102 : decode cX12_forge 102 = .ok (.aload_n 0, 1) := by decide +kernel
theorem dX12_forge_103 : decode cX12_forge 103 = .ok (.iload_n 1, 1) := by decide +kernel
theorem dX12_forge_104 : decode cX12_forge 104 = .ok (.iconst 2, 1) := by decide +kernel
theorem dX12_forge_105 : decode cX12_forge 105 = .ok (.iload_n 3, 1) := by decide +kernel
theorem dX12_forge_106 : decode cX12_forge 106 = .ok (.invokevirtual 372, 3) := by decide +kernel
theorem dX12_forge_109 : decode cX12_forge 109 = .ok (.ireturn, 1) := by decide +kernel
theorem dX12_forge_110 : decode cX12_forge 110 = .ok (.aload_n 0, 1) := by decide +kernel
theorem dX12_forge_111 : decode cX12_forge 111 = .ok (.iload_n 1, 1) := by decide +kernel
theorem dX12_forge_112 : decode cX12_forge 112 = .ok (.iconst 3, 1) := by decide +kernel
theorem dX12_forge_113 : decode cX12_forge 113 = .ok (.iload_n 3, 1) := by decide +kernel
theorem dX12_forge_114 : decode cX12_forge 114 = .ok (.invokevirtual 372, 3) := by decide +kernel
theorem dX12_forge_117 : decode cX12_forge 117 = .ok (.ireturn, 1) := by decide +kernel
theorem dX12_forge_118 : decode cX12_forge 118 = .ok (.aload_n 0, 1) := by decide +kernel
theorem dX12_forge_119 : decode cX12_forge 119 = .ok (.iload_n 1, 1) := by decide +kernel
theorem dX12_forge_120 : decode cX12_forge 120 = .ok (.iconst 4, 1) := by decide +kernel
theorem dX12_forge_121 : decode cX12_forge 121 = .ok (.iload_n 3, 1) := by decide +kernel
theorem dX12_forge_122 : decode cX12_forge 122 = .ok (.invokevirtual 372, 3) := by decide +kernel
theorem dX12_forge_125 : decode cX12_forge 125 = .ok (.ireturn, 1) := by decide +kernel
theorem dX12_forge_126 : decode cX12_forge 126 = .ok (.iload_n 3, 1) := by decide +kernel
theorem dX12_forge_127 : decode cX12_forge 127 = .ok (.ifCond .ge 12, 3) := by decide +kernel
theorem dX12_forge_130 : decode cX12_forge 130 = .ok (.aload_n 0, 1) := by decide +kernel
theorem dX12_forge_131 : decode cX12_forge 131 = .ok (.bipush 13, 2) := by decide +kernel
theorem dX12_forge_133 : decode cX12_forge 133 = .ok (.invokevirtual 360, 3) := by decide +kernel
theorem dX12_forge_136 : decode cX12_forge 136 = .ok (.goto 8, 3) := by decide +kernel
theorem dX12_forge_139 : decode cX12_forge 139 = .ok (.aload_n 0, 1) := by decide +kernel
theorem dX12_forge_140 : decode cX12_forge 140 = .ok (.iload_n 3, 1) := by decide +kernel
theorem dX12_forge_141 : decode cX12_forge 141 = .ok (.invokevirtual 363, 3) := by decide +kernel
theorem dX12_forge_144 : decode cX12_forge 144 = .ok (.ireturn, 1) := by decide +kernel
theorem dX12_forge_145 : decode cX12_forge 145 = .ok (.aload_n 0, 1) := by decide +kernel
theorem dX12_forge_146 : decode cX12_forge 146 = .ok (.iload_n 1, 1) := by decide +kernel
theorem dX12_forge_147 : decode cX12_forge 147 = .ok (.iload_n 3, 1) := by decide +kernel
theorem dX12_forge_148 : decode cX12_forge 148 = .ok (.invokevirtual 375, 3) := by decide +kernel
theorem dX12_forge_151 : decode cX12_forge 151 = .ok (.ireturn, 1) := by decide +kernel
theorem dX12_forge_152 : decode cX12_forge 152 = .ok (.aload_n 0, 1) := by decide +kernel
theorem dX12_forge_153 : decode cX12_forge 153 = .ok (.iload_n 1, 1) := by decide +kernel
theorem dX12_forge_154 : decode cX12_forge 154 = .ok (.iconst 1, 1) := by decide +kernel
theorem dX12_forge_155 : decode cX12_forge 155 = .ok (.bipush 14, 2) := by decide +kernel
theorem dX12_forge_157 : decode cX12_forge 157 = .ok (.invokevirtual 369, 3) := by decide +kernel
theorem dX12_forge_160 : decode cX12_forge 160 = .ok (.ireturn, 1) := by decide +kernel
theorem dX12_forge_161 : decode cX12_forge 161 = .ok (.iload_n 3, 1) := by decide +kernel
theorem dX12_forge_162 : decode cX12_forge 162 = .ok (.ifCond .ne 12, 3) := by decide +kernel
theorem dX12_forge_165 : decode cX12_forge 165 = .ok (.aload_n 0, 1) := by decide +kernel
theorem dX12_forge_166 : decode cX12_forge 166 = .ok (.bipush 15, 2) := by decide +kernel
theorem dX12_forge_168 : decode cX12_forge 168 = .ok (.invokevirtual 360, 3) := by decide +kernel
theorem dX12_forge_171 : decode cX12_forge 171 = .ok (.goto 12, 3) := by decide +kernel
theorem dX12_forge_174 : decode cX12_forge 174 = .ok (.aload_n 0, 1) := by decide +kernel
theorem dX12_forge_175 : decode cX12_forge 175 = .ok (.sipush 1000, 3) := by decide +kernel
theorem dX12_forge_178 : decode cX12_forge 178 = .ok (.iload_n 3, 1) := by decide +kernel
theorem dX12_forge_179 : decode cX12_forge 179 = .ok (.idiv, 1) := by decide +kernel
theorem dX12_forge_180 : decode cX12_forge 180 = .ok (.invokevirtual 363, 3) := by decide +kernel
theorem dX12_forge_183 : decode cX12_forge 183 = .ok (.ireturn, 1) := by decide +kernel
theorem dX12_forge_184 : decode cX12_forge 184 = .ok (.aload_n 0, 1) := by decide +kernel
theorem dX12_forge_185 : decode cX12_forge 185 = .ok (.bipush 10, 2) := by decide +kernel
theorem dX12_forge_187 : decode cX12_forge 187 = .ok (.invokevirtual 360, 3) := by decide +kernel
theorem dX12_forge_190 : decode cX12_forge 190 = .ok (.ireturn, 1) := by decide +kernel
theorem dX12_inForce_0 : decode cX12_inForce 0 = .ok (.iload_n 1, 1) := by decide +kernel
theorem dX12_inForce_1 : decode cX12_inForce 1 = .ok (.invokestatic 169, 3) := by decide +kernel
theorem dX12_inForce_4 : decode cX12_inForce 4 = .ok (.ifCond .eq 11, 3) := by decide +kernel
theorem dX12_inForce_7 : decode cX12_inForce 7 = .ok (.aload_n 0, 1) := by decide +kernel
theorem dX12_inForce_8 : decode cX12_inForce 8 = .ok (.iload_n 1, 1) := by decide +kernel
theorem dX12_inForce_9 : decode cX12_inForce 9 = .ok (.invokevirtual 306, 3) := by decide +kernel
theorem dX12_inForce_12 : decode cX12_inForce 12 = .ok (.goto 5, 3) := by decide +kernel
theorem dX12_inForce_15 : decode cX12_inForce 15 = .ok (.bipush (-2), 2) := by decide +kernel
theorem dX12_inForce_17 : decode cX12_inForce 17 = .ok (.ireturn, 1) := by decide +kernel
theorem dX12_instrumentOf_0 : decode cX12_instrumentOf 0 = .ok (.iconst 0, 1) := by decide +kernel
theorem dX12_instrumentOf_1 : decode cX12_instrumentOf 1 = .ok (.istore_n 3, 1) := by decide +kernel
theorem dX12_instrumentOf_2 : decode cX12_instrumentOf 2 = .ok (.iload_n 2, 1) := by decide +kernel
theorem dX12_instrumentOf_3 : decode cX12_instrumentOf 3 = .ok (.istore 4, 2) := by decide +kernel
theorem dX12_instrumentOf_5 : decode cX12_instrumentOf 5 = .ok (.iload 4, 2) := by decide +kernel
theorem dX12_instrumentOf_7 : decode cX12_instrumentOf 7 = .ok (.aload_n 0, 1) := by decide +kernel
theorem dX12_instrumentOf_8 : decode cX12_instrumentOf 8 = .ok (.iload_n 1, 1) := by decide +kernel
theorem dX12_instrumentOf_9 : decode cX12_instrumentOf 9 = .ok (.iload_n 3, 1) := by decide +kernel
theorem dX12_instrumentOf_10 : decode cX12_instrumentOf 10 = .ok (.iconst (-1), 1) := by decide +kernel
theorem dX12_instrumentOf_11 : decode cX12_instrumentOf 11 = .ok (.invokevirtual 189, 3) := by decide +kernel
theorem dX12_instrumentOf_14 : decode cX12_instrumentOf 14 = .ok (.if_icmp .lt 21, 3) := by decide +kernel
theorem dX12_instrumentOf_17 : decode cX12_instrumentOf 17 = .ok (.iload 4, 2) := by decide +kernel
theorem dX12_instrumentOf_19 : decode cX12_instrumentOf 19 = .ok (.aload_n 0, 1) := by decide +kernel
theorem dX12_instrumentOf_20 : decode cX12_instrumentOf 20 = .ok (.iload_n 1, 1) := by decide +kernel
theorem dX12_instrumentOf_21 : decode cX12_instrumentOf 21 = .ok (.iload_n 3, 1) := by decide +kernel
theorem dX12_instrumentOf_22 : decode cX12_instrumentOf 22 = .ok (.iconst (-1), 1) := by decide +kernel
theorem dX12_instrumentOf_23 : decode cX12_instrumentOf 23 = .ok (.invokevirtual 189, 3) := by decide +kernel
theorem dX12_instrumentOf_26 : decode cX12_instrumentOf 26 = .ok (.isub, 1) := by decide +kernel
theorem dX12_instrumentOf_27 : decode cX12_instrumentOf 27 = .ok (.istore 4, 2) := by decide +kernel
theorem dX12_instrumentOf_29 : decode cX12_instrumentOf 29 = .ok (.iinc 3 1, 3) := by decide +kernel
theorem dX12_instrumentOf_32 : decode cX12_instrumentOf 32 = .ok (.goto (-27), 3) := by decide +kernel
theorem dX12_instrumentOf_35 : decode cX12_instrumentOf 35 = .ok (.iload_n 3, 1) := by decide +kernel
theorem dX12_instrumentOf_36 : decode cX12_instrumentOf 36 = .ok (.ireturn, 1) := by decide +kernel
theorem dX12_isProgramme_0 : decode cX12_isProgramme 0 = .ok (.iconst 0, 1) := by decide +kernel
theorem dX12_isProgramme_1 : decode cX12_isProgramme 1 = .ok (.istore 5, 2) := by decide +kernel
theorem dX12_isProgramme_3 : decode cX12_isProgramme 3 = .ok (.iconst 1, 1) := by decide +kernel
theorem dX12_isProgramme_4 : decode cX12_isProgramme 4 = .ok (.istore 6, 2) := by decide +kernel
theorem dX12_isProgramme_6 : decode cX12_isProgramme 6 = .ok (.iconst 0, 1) := by decide +kernel
theorem dX12_isProgramme_7 : decode cX12_isProgramme 7 = .ok (.istore 7, 2) := by decide +kernel
theorem dX12_isProgramme_9 : decode cX12_isProgramme 9 = .ok (.iload 7, 2) := by decide +kernel
theorem dX12_isProgramme_11 : decode cX12_isProgramme 11 = .ok (.aload_n 0, 1) := by decide +kernel
theorem dX12_isProgramme_12 : decode cX12_isProgramme 12 = .ok (.getfield 152, 3) := by decide +kernel
theorem dX12_isProgramme_15 : decode cX12_isProgramme 15 = .ok (.if_icmp .ge 99, 3) := by decide +kernel
theorem dX12_isProgramme_18 : decode cX12_isProgramme 18 = .ok (.iload_n 1, 1) := by decide +kernel
theorem dX12_isProgramme_19 : decode cX12_isProgramme 19 = .ok (.iload 7, 2) := by decide +kernel
theorem dX12_isProgramme_21 : decode cX12_isProgramme 21 = .ok (.ishr, 1) := by decide +kernel
theorem dX12_isProgramme_22 : decode cX12_isProgramme 22 = .ok (.iconst 1, 1) := by decide +kernel
theorem dX12_isProgramme_23 : decode cX12_isProgramme 23 = .ok (.iand, 1) := by decide +kernel
theorem dX12_isProgramme_24 : decode cX12_isProgramme 24 = .ok (.iconst 1, 1) := by decide +kernel
theorem dX12_isProgramme_25 : decode cX12_isProgramme 25 = .ok (.if_icmp .ne 83, 3) := by decide +kernel
theorem dX12_isProgramme_28 : decode cX12_isProgramme 28 = .ok (.iload 5, 2) := by decide +kernel
theorem dX12_isProgramme_30 : decode cX12_isProgramme 30 = .ok (.aload_n 0, 1) := by decide +kernel
theorem dX12_isProgramme_31 : decode cX12_isProgramme 31 = .ok (.getfield 7, 3) := by decide +kernel
theorem dX12_isProgramme_34 : decode cX12_isProgramme 34 = .ok (.iload 7, 2) := by decide +kernel
theorem dX12_isProgramme_36 : decode cX12_isProgramme 36 = .ok (.iaload, 1) := by decide +kernel
theorem dX12_isProgramme_37 : decode cX12_isProgramme 37 = .ok (.iadd, 1) := by decide +kernel
theorem dX12_isProgramme_38 : decode cX12_isProgramme 38 = .ok (.istore 5, 2) := by decide +kernel
theorem dX12_isProgramme_40 : decode cX12_isProgramme 40 = .ok (.iload 6, 2) := by decide +kernel
theorem dX12_isProgramme_42 : decode cX12_isProgramme 42 = .ok (.ifCond .eq 17, 3) := by decide +kernel
theorem dX12_isProgramme_45 : decode cX12_isProgramme 45 = .ok (.aload_n 0, 1) := by decide +kernel
theorem dX12_isProgramme_46 : decode cX12_isProgramme 46 = .ok (.iload 7, 2) := by decide +kernel
theorem dX12_isProgramme_48 : decode cX12_isProgramme 48 = .ok (.iload_n 2, 1) := by decide +kernel
theorem dX12_isProgramme_49 : decode cX12_isProgramme 49 = .ok (.invokevirtual 172, 3) := by decide +kernel
theorem dX12_isProgramme_52 : decode cX12_isProgramme 52 = .ok (.ifCond .eq 7, 3) := by decide +kernel
theorem dX12_isProgramme_55 : decode cX12_isProgramme 55 = .ok (.iconst 1, 1) := by decide +kernel
theorem dX12_isProgramme_56 : decode cX12_isProgramme 56 = .ok (.goto 4, 3) := by decide +kernel
theorem dX12_isProgramme_59 : decode cX12_isProgramme 59 = .ok (.iconst 0, 1) := by decide +kernel
theorem dX12_isProgramme_60 : decode cX12_isProgramme 60 = .ok (.istore 6, 2) := by decide +kernel
theorem dX12_isProgramme_62 : decode cX12_isProgramme 62 = .ok (.iconst 0, 1) := by decide +kernel
theorem dX12_isProgramme_63 : decode cX12_isProgramme 63 = .ok (.istore 8, 2) := by decide +kernel
theorem dX12_isProgramme_65 : decode cX12_isProgramme 65 = .ok (.iload 8, 2) := by decide +kernel
theorem dX12_isProgramme_67 : decode cX12_isProgramme 67 = .ok (.bipush 6, 2) := by decide +kernel
theorem dX12_isProgramme_69 : decode cX12_isProgramme 69 = .ok (.if_icmp .ge 39, 3) := by decide +kernel
theorem dX12_isProgramme_72 : decode cX12_isProgramme 72 = .ok (.iload 6, 2) := by decide +kernel
theorem dX12_isProgramme_74 : decode cX12_isProgramme 74 = .ok (.ifCond .eq 25, 3) := by decide +kernel
theorem dX12_isProgramme_77 : decode cX12_isProgramme 77 = .ok (.aload_n 0, 1) := by decide +kernel
theorem dX12_isProgramme_78 : decode cX12_isProgramme 78 = .ok (.iload 7, 2) := by decide +kernel
theorem dX12_isProgramme_80 : decode cX12_isProgramme 80 = .ok (.iload 8, 2) := by decide +kernel
theorem dX12_isProgramme_82 : decode cX12_isProgramme 82 = .ok (.invokevirtual 186, 3) := by decide +kernel
theorem dX12_isProgramme_85 : decode cX12_isProgramme 85 = .ok (.aload_n 0, 1) := by decide +kernel
theorem dX12_isProgramme_86 : decode cX12_isProgramme 86 = .ok (.getfield 138, 3) := by decide +kernel
theorem dX12_isProgramme_89 : decode cX12_isProgramme 89 = .ok (.iload 8, 2) := by decide +kernel
theorem dX12_isProgramme_91 : decode cX12_isProgramme 91 = .ok (.iaload, 1) := by decide +kernel
theorem dX12_isProgramme_92 : decode cX12_isProgramme 92 = .ok (.if_icmp .gt 7, 3) := by decide +kernel
theorem dX12_isProgramme_95 : decode cX12_isProgramme 95 = .ok (.iconst 1, 1) := by decide +kernel
theorem dX12_isProgramme_96 : decode cX12_isProgramme 96 = .ok (.goto 4, 3) := by decide +kernel
theorem dX12_isProgramme_99 : decode cX12_isProgramme 99 = .ok (.iconst 0, 1) := by decide +kernel
theorem dX12_isProgramme_100 : decode cX12_isProgramme 100 = .ok (.istore 6, 2) := by decide +kernel
theorem dX12_isProgramme_102 : decode cX12_isProgramme 102 = .ok (.iinc 8 1, 3) := by decide +kernel
theorem dX12_isProgramme_105 : decode cX12_isProgramme 105 = .ok (.goto (-40), 3) := by decide +kernel
theorem dX12_isProgramme_108 : decode cX12_isProgramme 108 = .ok (.iinc 7 1, 3) := by decide +kernel
theorem dX12_isProgramme_111 : decode cX12_isProgramme 111 = .ok (.goto (-102), 3) := by decide +kernel
theorem dX12_isProgramme_114 : decode cX12_isProgramme 114 = .ok (.iload 6, 2) := by decide +kernel
theorem dX12_isProgramme_116 : decode cX12_isProgramme 116 = .ok (.ifCond .eq 18, 3) := by decide +kernel
theorem dX12_isProgramme_119 : decode cX12_isProgramme 119 = .ok (.iload 5, 2) := by decide +kernel
theorem dX12_isProgramme_121 : decode cX12_isProgramme 121 = .ok (.iload_n 3, 1) := by decide +kernel
theorem dX12_isProgramme_122 : decode cX12_isProgramme 122 = .ok (.iload 4, 2) := by decide +kernel
theorem dX12_isProgramme_124 : decode cX12_isProgramme 124 = .ok (.invokestatic 155, 3) := by decide +kernel
theorem dX12_isProgramme_127 : decode cX12_isProgramme 127 = .ok (.ifCond .eq 7, 3) := by decide +kernel
theorem dX12_isProgramme_130 : decode cX12_isProgramme 130 = .ok (.iconst 1, 1) := by decide +kernel
theorem dX12_isProgramme_131 : decode cX12_isProgramme 131 = .ok (.goto 4, 3) := by decide +kernel
theorem dX12_isProgramme_134 : decode cX12_isProgramme 134 = .ok (.iconst 0, 1) := by decide +kernel
theorem dX12_isProgramme_135 : decode cX12_isProgramme 135 = .ok (.ireturn, 1) := by decide +kernel
theorem dX12_leave_0 : decode cX12_leave 0 = .ok (.aload_n 0, 1) := by decide +kernel
theorem dX12_leave_1 : decode cX12_leave 1 = .ok (.iload_n 1, 1) := by decide +kernel
theorem dX12_leave_2 : decode cX12_leave 2 = .ok (.invokevirtual 179, 3) := by decide +kernel
theorem dX12_leave_5 : decode cX12_leave 5 = .ok (.ifCond .eq 22, 3) := by decide +kernel
theorem dX12_leave_8 : decode cX12_leave 8 = .ok (.iload_n 2, 1) := by decide +kernel
theorem dX12_leave_9 : decode cX12_leave 9 = .ok (.invokestatic 169, 3) := by decide +kernel
theorem dX12_leave_12 : decode cX12_leave 12 = .ok (.ifCond .eq 15, 3) := by decide +kernel
theorem dX12_leave_15 : decode cX12_leave 15 = .ok (.iload_n 3, 1) := by decide +kernel
theorem dX12_leave_16 : decode cX12_leave 16 = .ok (.invokestatic 169, 3) := by decide +kernel
theorem dX12_leave_19 : decode cX12_leave 19 = .ok (.ifCond .eq 8, 3) := by decide +kernel
theorem dX12_leave_22 : decode cX12_leave 22 = .ok (.iload_n 2, 1) := by decide +kernel
theorem dX12_leave_23 : decode cX12_leave 23 = .ok (.iload_n 3, 1) := by decide +kernel
theorem dX12_leave_24 : decode cX12_leave 24 = .ok (.if_icmp .le 6, 3) := by decide +kernel
theorem dX12_leave_27 : decode cX12_leave 27 = .ok (.bipush (-2), 2) := by decide +kernel
theorem dX12_leave_29 : decode cX12_leave 29 = .ok (.ireturn, 1) := by decide +kernel
theorem dX12_leave_30 : decode cX12_leave 30 = .ok (.aload_n 0, 1) := by decide +kernel
theorem dX12_leave_31 : decode cX12_leave 31 = .ok (.getfield 37, 3) := by decide +kernel
theorem dX12_leave_34 : decode cX12_leave 34 = .ok (.iload_n 1, 1) := by decide +kernel
theorem dX12_leave_35 : decode cX12_leave 35 = .ok (.iaload, 1) := by decide +kernel
theorem dX12_leave_36 : decode cX12_leave 36 = .ok (.bipush 6, 2) := by decide +kernel
theorem dX12_leave_38 : decode cX12_leave 38 = .ok (.if_icmp .ne 6, 3) := by decide +kernel
theorem dX12_leave_41 : decode cX12_leave 41 = .ok (.bipush (-4), 2) := by decide +kernel
theorem dX12_leave_43 : decode cX12_leave 43 = .ok (.ireturn, 1) := by decide +kernel
theorem dX12_leave_44 : decode cX12_leave 44 = .ok (.aload_n 0, 1) := by decide +kernel
theorem dX12_leave_45 : decode cX12_leave 45 = .ok (.getfield 40, 3) := by decide +kernel
theorem dX12_leave_48 : decode cX12_leave 48 = .ok (.bipush 6, 2) := by decide +kernel
theorem dX12_leave_50 : decode cX12_leave 50 = .ok (.iload_n 1, 1) := by decide +kernel
theorem dX12_leave_51 : decode cX12_leave 51 = .ok (.imul, 1) := by decide +kernel
theorem dX12_leave_52 : decode cX12_leave 52 = .ok (.aload_n 0, 1) := by decide +kernel
theorem dX12_leave_53 : decode cX12_leave 53 = .ok (.getfield 37, 3) := by decide +kernel
theorem dX12_leave_56 : decode cX12_leave 56 = .ok (.iload_n 1, 1) := by decide +kernel
theorem dX12_leave_57 : decode cX12_leave 57 = .ok (.iaload, 1) := by decide +kernel
theorem dX12_leave_58 : decode cX12_leave 58 = .ok (.iadd, 1) := by decide +kernel
theorem dX12_leave_59 : decode cX12_leave 59 = .ok (.iload_n 2, 1) := by decide +kernel
theorem dX12_leave_60 : decode cX12_leave 60 = .ok (.iastore, 1) := by decide +kernel
theorem dX12_leave_61 : decode cX12_leave 61 = .ok (.aload_n 0, 1) := by decide +kernel
theorem dX12_leave_62 : decode cX12_leave 62 = .ok (.getfield 43, 3) := by decide +kernel
theorem dX12_leave_65 : decode cX12_leave 65 = .ok (.bipush 6, 2) := by decide +kernel
theorem dX12_leave_67 : decode cX12_leave 67 = .ok (.iload_n 1, 1) := by decide +kernel
theorem dX12_leave_68 : decode cX12_leave 68 = .ok (.imul, 1) := by decide +kernel
theorem dX12_leave_69 : decode cX12_leave 69 = .ok (.aload_n 0, 1) := by decide +kernel
theorem dX12_leave_70 : decode cX12_leave 70 = .ok (.getfield 37, 3) := by decide +kernel
theorem dX12_leave_73 : decode cX12_leave 73 = .ok (.iload_n 1, 1) := by decide +kernel
theorem dX12_leave_74 : decode cX12_leave 74 = .ok (.iaload, 1) := by decide +kernel
theorem dX12_leave_75 : decode cX12_leave 75 = .ok (.iadd, 1) := by decide +kernel
theorem dX12_leave_76 : decode cX12_leave 76 = .ok (.iload_n 3, 1) := by decide +kernel
theorem dX12_leave_77 : decode cX12_leave 77 = .ok (.iastore, 1) := by decide +kernel
theorem dX12_leave_78 : decode cX12_leave 78 = .ok (.aload_n 0, 1) := by decide +kernel
theorem dX12_leave_79 : decode cX12_leave 79 = .ok (.getfield 37, 3) := by decide +kernel
theorem dX12_leave_82 : decode cX12_leave 82 = .ok (.iload_n 1, 1) := by decide +kernel
theorem dX12_leave_83 : decode cX12_leave 83 = .ok (.dup2, 1) := by decide +kernel
theorem dX12_leave_84 : decode cX12_leave 84 = .ok (.iaload, 1) := by decide +kernel
theorem dX12_leave_85 : decode cX12_leave 85 = .ok (.iconst 1, 1) := by decide +kernel
theorem dX12_leave_86 : decode cX12_leave 86 = .ok (.iadd, 1) := by decide +kernel
theorem dX12_leave_87 : decode cX12_leave 87 = .ok (.iastore, 1) := by decide +kernel
theorem dX12_leave_88 : decode cX12_leave 88 = .ok (.aload_n 0, 1) := by decide +kernel
theorem dX12_leave_89 : decode cX12_leave 89 = .ok (.getfield 37, 3) := by decide +kernel
theorem dX12_leave_92 : decode cX12_leave 92 = .ok (.iload_n 1, 1) := by decide +kernel
theorem dX12_leave_93 : decode cX12_leave 93 = .ok (.iaload, 1) := by decide +kernel
theorem dX12_leave_94 : decode cX12_leave 94 = .ok (.ireturn, 1) := by decide +kernel
theorem dX12_next_0 : decode cX12_next 0 = .ok (.aload_n 0, 1) := by decide +kernel
theorem dX12_next_1 : decode cX12_next 1 = .ok (.aload_n 0, 1) := by decide +kernel
theorem dX12_next_2 : decode cX12_next 2 = .ok (.getfield 206, 3) := by decide +kernel
theorem dX12_next_5 : decode cX12_next 5 = .ok (.invokevirtual 209, 3) := by decide +kernel
theorem dX12_next_8 : decode cX12_next 8 = .ok (.bipush 32, 2) := by decide +kernel
theorem dX12_next_10 : decode cX12_next 10 = .ok (.if_icmp .eq 16, 3) := by decide +kernel
theorem dX12_next_13 : decode cX12_next 13 = .ok (.aload_n 0, 1) := by decide +kernel
theorem dX12_next_14 : decode cX12_next 14 = .ok (.aload_n 0, 1) := by decide +kernel
theorem dX12_next_15 : decode cX12_next 15 = .ok (.getfield 206, 3) := by decide +kernel
theorem dX12_next_18 : decode cX12_next 18 = .ok (.invokevirtual 209, 3) := by decide +kernel
theorem dX12_next_21 : decode cX12_next 21 = .ok (.bipush 10, 2) := by decide +kernel
theorem dX12_next_23 : decode cX12_next 23 = .ok (.if_icmp .ne 16, 3) := by decide +kernel
theorem dX12_next_26 : decode cX12_next 26 = .ok (.aload_n 0, 1) := by decide +kernel
theorem dX12_next_27 : decode cX12_next 27 = .ok (.dup, 1) := by decide +kernel
theorem dX12_next_28 : decode cX12_next 28 = .ok (.getfield 206, 3) := by decide +kernel
theorem dX12_next_31 : decode cX12_next 31 = .ok (.iconst 1, 1) := by decide +kernel
theorem dX12_next_32 : decode cX12_next 32 = .ok (.iadd, 1) := by decide +kernel
theorem dX12_next_33 : decode cX12_next 33 = .ok (.putfield 206, 3) := by decide +kernel
theorem dX12_next_36 : decode cX12_next 36 = .ok (.goto (-36), 3) := by decide +kernel
theorem dX12_next_39 : decode cX12_next 39 = .ok (.aload_n 0, 1) := by decide +kernel
theorem dX12_next_40 : decode cX12_next 40 = .ok (.aload_n 0, 1) := by decide +kernel
theorem dX12_next_41 : decode cX12_next 41 = .ok (.getfield 206, 3) := by decide +kernel
theorem dX12_next_44 : decode cX12_next 44 = .ok (.putfield 212, 3) := by decide +kernel
theorem dX12_next_47 : decode cX12_next 47 = .ok (.aload_n 0, 1) := by decide +kernel
theorem dX12_next_48 : decode cX12_next 48 = .ok (.aload_n 0, 1) := by decide +kernel
theorem dX12_next_49 : decode cX12_next 49 = .ok (.getfield 206, 3) := by decide +kernel
theorem dX12_next_52 : decode cX12_next 52 = .ok (.invokevirtual 209, 3) := by decide +kernel
theorem dX12_next_55 : decode cX12_next 55 = .ok (.istore_n 1, 1) := by decide +kernel
theorem dX12_next_56 : decode cX12_next 56 = .ok (.iload_n 1, 1) := by decide +kernel
theorem dX12_next_57 : decode cX12_next 57 = .ok (.iconst (-1), 1) := by decide +kernel
theorem dX12_next_58 : decode cX12_next 58 = .ok (.if_icmp .ne 11, 3) := by decide +kernel
theorem dX12_next_61 : decode cX12_next 61 = .ok (.aload_n 0, 1) := by decide +kernel
theorem dX12_next_62 : decode cX12_next 62 = .ok (.iconst 0, 1) := by decide +kernel
theorem dX12_next_63 : decode cX12_next 63 = .ok (.putfield 215, 3) := by decide +kernel
theorem dX12_next_66 : decode cX12_next 66 = .ok (.goto 108, 3) := by decide +kernel
theorem dX12_next_69 : decode cX12_next 69 = .ok (.iload_n 1, 1) := by decide +kernel
theorem dX12_next_70 : decode cX12_next 70 = .ok (.invokestatic 218, 3) := by decide +kernel
theorem dX12_next_73 : decode cX12_next 73 = .ok (.ifCond .eq 10, 3) := by decide +kernel
theorem dX12_next_76 : decode cX12_next 76 = .ok (.aload_n 0, 1) := by decide +kernel
theorem dX12_next_77 : decode cX12_next 77 = .ok (.invokevirtual 221, 3) := by decide +kernel
theorem dX12_next_80 : decode cX12_next 80 = .ok (.goto 94, 3) := by decide +kernel
theorem dX12_next_83 : decode cX12_next 83 = .ok (.iload_n 1, 1) := by decide +kernel
theorem dX12_next_84 : decode cX12_next 84 = .ok (.invokestatic 224, 3) := by decide +kernel
theorem dX12_next_87 : decode cX12_next 87 = .ok (.ifCond .eq 10, 3) := by decide +kernel
theorem dX12_next_90 : decode cX12_next 90 = .ok (.aload_n 0, 1) := by decide +kernel
theorem dX12_next_91 : decode cX12_next 91 = .ok (.invokevirtual 227, 3) := by decide +kernel
theorem dX12_next_94 : decode cX12_next 94 = .ok (.goto 80, 3) := by decide +kernel
theorem dX12_next_97 : decode cX12_next 97 = .ok (.iload_n 1, 1) := by decide +kernel
theorem dX12_next_98 : decode cX12_next 98 = .ok (.bipush 40, 2) := by decide +kernel
theorem dX12_next_100 : decode cX12_next 100 = .ok (.if_icmp .eq 45, 3) := by decide +kernel
theorem dX12_next_103 : decode cX12_next 103 = .ok (.iload_n 1, 1) := by decide +kernel
theorem dX12_next_104 : decode cX12_next 104 = .ok (.bipush 41, 2) := by decide +kernel
theorem dX12_next_106 : decode cX12_next 106 = .ok (.if_icmp .eq 39, 3) := by decide +kernel
theorem dX12_next_109 : decode cX12_next 109 = .ok (.iload_n 1, 1) := by decide +kernel
theorem dX12_next_110 : decode cX12_next 110 = .ok (.bipush 59, 2) := by decide +kernel
theorem dX12_next_112 : decode cX12_next 112 = .ok (.if_icmp .eq 33, 3) := by decide +kernel
theorem dX12_next_115 : decode cX12_next 115 = .ok (.iload_n 1, 1) := by decide +kernel
theorem dX12_next_116 : decode cX12_next 116 = .ok (.bipush 43, 2) := by decide +kernel
theorem dX12_next_118 : decode cX12_next 118 = .ok (.if_icmp .eq 27, 3) := by decide +kernel
theorem dX12_next_121 : decode cX12_next 121 = .ok (.iload_n 1, 1) := by decide +kernel
theorem dX12_next_122 : decode cX12_next 122 = .ok (.bipush 45, 2) := by decide +kernel
theorem dX12_next_124 : decode cX12_next 124 = .ok (.if_icmp .eq 21, 3) := by decide +kernel
theorem dX12_next_127 : decode cX12_next 127 = .ok (.iload_n 1, 1) := by decide +kernel
theorem dX12_next_128 : decode cX12_next 128 = .ok (.bipush 42, 2) := by decide +kernel
theorem dX12_next_130 : decode cX12_next 130 = .ok (.if_icmp .eq 15, 3) := by decide +kernel
theorem dX12_next_133 : decode cX12_next 133 = .ok (.iload_n 1, 1) := by decide +kernel
theorem dX12_next_134 : decode cX12_next 134 = .ok (.bipush 60, 2) := by decide +kernel
theorem dX12_next_136 : decode cX12_next 136 = .ok (.if_icmp .eq 9, 3) := by decide +kernel
theorem dX12_next_139 : decode cX12_next 139 = .ok (.iload_n 1, 1) := by decide +kernel
theorem dX12_next_140 : decode cX12_next 140 = .ok (.bipush 61, 2) := by decide +kernel
theorem dX12_next_142 : decode cX12_next 142 = .ok (.if_icmp .ne 7, 3) := by decide +kernel
theorem dX12_next_145 : decode cX12_next 145 = .ok (.iconst 1, 1) := by decide +kernel
theorem dX12_next_146 : decode cX12_next 146 = .ok (.goto 4, 3) := by decide +kernel
theorem dX12_next_149 : decode cX12_next 149 = .ok (.iconst 0, 1) := by decide +kernel
theorem dX12_next_150 : decode cX12_next 150 = .ok (.istore_n 2, 1) := by decide +kernel
theorem dX12_next_151 : decode cX12_next 151 = .ok (.aload_n 0, 1) := by decide +kernel
theorem dX12_next_152 : decode cX12_next 152 = .ok (.iload_n 2, 1) := by decide +kernel
theorem dX12_next_153 : decode cX12_next 153 = .ok (.ifCond .eq 7, 3) := by decide +kernel
theorem dX12_next_156 : decode cX12_next 156 = .ok (.iload_n 1, 1) := by decide +kernel
theorem dX12_next_157 : decode cX12_next 157 = .ok (.goto 4, 3) := by decide +kernel
theorem dX12_next_160 : decode cX12_next 160 = .ok (.iconst 2, 1) := by decide +kernel
theorem dX12_next_161 : decode cX12_next 161 = .ok (.putfield 215, 3) := by decide +kernel
theorem dX12_next_164 : decode cX12_next 164 = .ok (.aload_n 0, 1) := by decide +kernel
theorem dX12_next_165 : decode cX12_next 165 = .ok (.dup, 1) := by decide +kernel
theorem dX12_next_166 : decode cX12_next 166 = .ok (.getfield 206, 3) := by decide +kernel
theorem dX12_next_169 : decode cX12_next 169 = .ok (.iconst 1, 1) := by decide +kernel
theorem dX12_next_170 : decode cX12_next 170 = .ok (.iadd, 1) := by decide +kernel
theorem dX12_next_171 : decode cX12_next 171 = .ok (.putfield 206, 3) := by decide +kernel
theorem dX12_next_174 : decode cX12_next 174 = .ok (.return_, 1) := by decide +kernel
theorem dX12_played_0 : decode cX12_played 0 = .ok (.aload_n 0, 1) := by decide +kernel
theorem dX12_played_1 : decode cX12_played 1 = .ok (.iload_n 1, 1) := by decide +kernel
theorem dX12_played_2 : decode cX12_played 2 = .ok (.invokevirtual 165, 3) := by decide +kernel
theorem dX12_played_5 : decode cX12_played 5 = .ok (.ifCond .eq 10, 3) := by decide +kernel
theorem dX12_played_8 : decode cX12_played 8 = .ok (.iload_n 2, 1) := by decide +kernel
theorem dX12_played_9 : decode cX12_played 9 = .ok (.invokestatic 169, 3) := by decide +kernel
theorem dX12_played_12 : decode cX12_played 12 = .ok (.ifCond .ne 6, 3) := by decide +kernel
theorem dX12_played_15 : decode cX12_played 15 = .ok (.bipush (-2), 2) := by decide +kernel
theorem dX12_played_17 : decode cX12_played 17 = .ok (.ireturn, 1) := by decide +kernel
theorem dX12_played_18 : decode cX12_played 18 = .ok (.aload_n 0, 1) := by decide +kernel
theorem dX12_played_19 : decode cX12_played 19 = .ok (.iload_n 1, 1) := by decide +kernel
theorem dX12_played_20 : decode cX12_played 20 = .ok (.iload_n 2, 1) := by decide +kernel
theorem dX12_played_21 : decode cX12_played 21 = .ok (.invokevirtual 172, 3) := by decide +kernel
theorem dX12_played_24 : decode cX12_played 24 = .ok (.ifCond .eq 7, 3) := by decide +kernel
theorem dX12_played_27 : decode cX12_played 27 = .ok (.iconst 1, 1) := by decide +kernel
theorem dX12_played_28 : decode cX12_played 28 = .ok (.goto 4, 3) := by decide +kernel
theorem dX12_played_31 : decode cX12_played 31 = .ok (.iconst 0, 1) := by decide +kernel
theorem dX12_played_32 : decode cX12_played 32 = .ok (.ireturn, 1) := by decide +kernel
theorem dX12_player_0 : decode cX12_player 0 = .ok (.iload_n 1, 1) := by decide +kernel
theorem dX12_player_1 : decode cX12_player 1 = .ok (.invokestatic 176, 3) := by decide +kernel
theorem dX12_player_4 : decode cX12_player 4 = .ok (.ifCond .eq 23, 3) := by decide +kernel
theorem dX12_player_7 : decode cX12_player 7 = .ok (.iload_n 2, 1) := by decide +kernel
theorem dX12_player_8 : decode cX12_player 8 = .ok (.iconst 0, 1) := by decide +kernel
theorem dX12_player_9 : decode cX12_player 9 = .ok (.bipush 63, 2) := by decide +kernel
theorem dX12_player_11 : decode cX12_player 11 = .ok (.invokestatic 155, 3) := by decide +kernel
theorem dX12_player_14 : decode cX12_player 14 = .ok (.ifCond .eq 13, 3) := by decide +kernel
theorem dX12_player_17 : decode cX12_player 17 = .ok (.iload_n 3, 1) := by decide +kernel
theorem dX12_player_18 : decode cX12_player 18 = .ok (.iconst 1, 1) := by decide +kernel
theorem dX12_player_19 : decode cX12_player 19 = .ok (.bipush 9, 2) := by decide +kernel
theorem dX12_player_21 : decode cX12_player 21 = .ok (.invokestatic 155, 3) := by decide +kernel
theorem dX12_player_24 : decode cX12_player 24 = .ok (.ifCond .ne 6, 3) := by decide +kernel
theorem dX12_player_27 : decode cX12_player 27 = .ok (.bipush (-2), 2) := by decide +kernel
theorem dX12_player_29 : decode cX12_player 29 = .ok (.ireturn, 1) := by decide +kernel
theorem dX12_player_30 : decode cX12_player 30 = .ok (.aload_n 0, 1) := by decide +kernel
theorem dX12_player_31 : decode cX12_player 31 = .ok (.getfield 159, 3) := by decide +kernel
theorem dX12_player_34 : decode cX12_player 34 = .ok (.bipush 10, 2) := by decide +kernel
theorem dX12_player_36 : decode cX12_player 36 = .ok (.if_icmp .ne 6, 3) := by decide +kernel
theorem dX12_player_39 : decode cX12_player 39 = .ok (.bipush (-4), 2) := by decide +kernel
theorem dX12_player_41 : decode cX12_player 41 = .ok (.ireturn, 1) := by decide +kernel
theorem dX12_player_42 : decode cX12_player 42 = .ok (.aload_n 0, 1) := by decide +kernel
theorem dX12_player_43 : decode cX12_player 43 = .ok (.getfield 28, 3) := by decide +kernel
theorem dX12_player_46 : decode cX12_player 46 = .ok (.aload_n 0, 1) := by decide +kernel
theorem dX12_player_47 : decode cX12_player 47 = .ok (.getfield 159, 3) := by decide +kernel
theorem dX12_player_50 : decode cX12_player 50 = .ok (.iload_n 1, 1) := by decide +kernel
theorem dX12_player_51 : decode cX12_player 51 = .ok (.iastore, 1) := by decide +kernel
theorem dX12_player_52 : decode cX12_player 52 = .ok (.aload_n 0, 1) := by decide +kernel
theorem dX12_player_53 : decode cX12_player 53 = .ok (.getfield 31, 3) := by decide +kernel
theorem dX12_player_56 : decode cX12_player 56 = .ok (.aload_n 0, 1) := by decide +kernel
theorem dX12_player_57 : decode cX12_player 57 = .ok (.getfield 159, 3) := by decide +kernel
theorem dX12_player_60 : decode cX12_player 60 = .ok (.iload_n 2, 1) := by decide +kernel
theorem dX12_player_61 : decode cX12_player 61 = .ok (.iastore, 1) := by decide +kernel
theorem dX12_player_62 : decode cX12_player 62 = .ok (.aload_n 0, 1) := by decide +kernel
theorem dX12_player_63 : decode cX12_player 63 = .ok (.getfield 34, 3) := by decide +kernel
theorem dX12_player_66 : decode cX12_player 66 = .ok (.aload_n 0, 1) := by decide +kernel
theorem dX12_player_67 : decode cX12_player 67 = .ok (.getfield 159, 3) := by decide +kernel
theorem dX12_player_70 : decode cX12_player 70 = .ok (.iload_n 3, 1) := by decide +kernel
theorem dX12_player_71 : decode cX12_player 71 = .ok (.iastore, 1) := by decide +kernel
theorem dX12_player_72 : decode cX12_player 72 = .ok (.aload_n 0, 1) := by decide +kernel
theorem dX12_player_73 : decode cX12_player 73 = .ok (.dup, 1) := by decide +kernel
theorem dX12_player_74 : decode cX12_player 74 = .ok (.getfield 159, 3) := by decide +kernel
theorem dX12_player_77 : decode cX12_player 77 = .ok (.iconst 1, 1) := by decide +kernel
theorem dX12_player_78 : decode cX12_player 78 = .ok (.iadd, 1) := by decide +kernel
theorem dX12_player_79 : decode cX12_player 79 = .ok (.putfield 159, 3) := by decide +kernel
theorem dX12_player_82 : decode cX12_player 82 = .ok (.aload_n 0, 1) := by decide +kernel
theorem dX12_player_83 : decode cX12_player 83 = .ok (.getfield 159, 3) := by decide +kernel
theorem dX12_player_86 : decode cX12_player 86 = .ok (.iconst 1, 1) := by decide +kernel
theorem dX12_player_87 : decode cX12_player 87 = .ok (.isub, 1) := by decide +kernel
theorem dX12_player_88 : decode cX12_player 88 = .ok (.ireturn, 1) := by decide +kernel
theorem dX12_playerTold_0 : decode cX12_playerTold 0 = .ok (.aload_n 0, 1) := by decide +kernel
theorem dX12_playerTold_1 : decode cX12_playerTold 1 = .ok (.iload_n 1, 1) := by decide +kernel
theorem dX12_playerTold_2 : decode cX12_playerTold 2 = .ok (.invokevirtual 179, 3) := by decide +kernel
theorem dX12_playerTold_5 : decode cX12_playerTold 5 = .ok (.ifCond .eq 12, 3) := by decide +kernel
theorem dX12_playerTold_8 : decode cX12_playerTold 8 = .ok (.iload_n 2, 1) := by decide +kernel
theorem dX12_playerTold_9 : decode cX12_playerTold 9 = .ok (.iconst 0, 1) := by decide +kernel
theorem dX12_playerTold_10 : decode cX12_playerTold 10 = .ok (.iconst 4, 1) := by decide +kernel
theorem dX12_playerTold_11 : decode cX12_playerTold 11 = .ok (.invokestatic 155, 3) := by decide +kernel
theorem dX12_playerTold_14 : decode cX12_playerTold 14 = .ok (.ifCond .ne 6, 3) := by decide +kernel
theorem dX12_playerTold_17 : decode cX12_playerTold 17 = .ok (.bipush (-2), 2) := by decide +kernel
theorem dX12_playerTold_19 : decode cX12_playerTold 19 = .ok (.ireturn, 1) := by decide +kernel
theorem dX12_playerTold_20 : decode cX12_playerTold 20 = .ok (.iload_n 2, 1) := by decide +kernel
theorem dX12_playerTold_21 : decode cX12_playerTold 21 = .ok (.tableswitch 59 0 3 #[31, 38, 45, 52], 31) := by decide +kernel
theorem dX12_playerTold_52 : decode cX12_playerTold 52 = .ok (.aload_n 0, 1) := by decide +kernel
theorem dX12_playerTold_53 : decode cX12_playerTold 53 = .ok (.getfield 28, 3) := by decide +kernel
theorem dX12_playerTold_56 : decode cX12_playerTold 56 = .ok (.iload_n 1, 1) := by decide +kernel
theorem dX12_playerTold_57 : decode cX12_playerTold 57 = .ok (.iaload, 1) := by decide +kernel
theorem dX12_playerTold_58 : decode cX12_playerTold 58 = .ok (.ireturn, 1) := by decide +kernel
theorem dX12_playerTold_59 : decode cX12_playerTold 59 = .ok (.aload_n 0, 1) := by decide +kernel
theorem dX12_playerTold_60 : decode cX12_playerTold 60 = .ok (.getfield 31, 3) := by decide +kernel
theorem dX12_playerTold_63 : decode cX12_playerTold 63 = .ok (.iload_n 1, 1) := by decide +kernel
theorem dX12_playerTold_64 : decode cX12_playerTold 64 = .ok (.iaload, 1) := by decide +kernel
theorem dX12_playerTold_65 : decode cX12_playerTold 65 = .ok (.ireturn, 1) := by decide +kernel
theorem dX12_playerTold_66 : decode cX12_playerTold 66 = .ok (.aload_n 0, 1) := by decide +kernel
theorem dX12_playerTold_67 : decode cX12_playerTold 67 = .ok (.getfield 34, 3) := by decide +kernel
theorem dX12_playerTold_70 : decode cX12_playerTold 70 = .ok (.iload_n 1, 1) := by decide +kernel
theorem dX12_playerTold_71 : decode cX12_playerTold 71 = .ok (.iaload, 1) := by decide +kernel
theorem dX12_playerTold_72 : decode cX12_playerTold 72 = .ok (.ireturn, 1) := by decide +kernel
theorem dX12_playerTold_73 : decode cX12_playerTold 73 = .ok (.aload_n 0, 1) := by decide +kernel
theorem dX12_playerTold_74 : decode cX12_playerTold 74 = .ok (.getfield 37, 3) := by decide +kernel
theorem dX12_playerTold_77 : decode cX12_playerTold 77 = .ok (.iload_n 1, 1) := by decide +kernel
theorem dX12_playerTold_78 : decode cX12_playerTold 78 = .ok (.iaload, 1) := by decide +kernel
theorem dX12_playerTold_79 : decode cX12_playerTold 79 = .ok (.ireturn, 1) := by decide +kernel
theorem dX12_playerTold_80 : decode cX12_playerTold 80 = .ok (.iconst 0, 1) := by decide +kernel
theorem dX12_playerTold_81 : decode cX12_playerTold 81 = .ok (.istore_n 3, 1) := by decide +kernel
theorem dX12_playerTold_82 : decode cX12_playerTold 82 = .ok (.iconst 0, 1) := by decide +kernel
theorem dX12_playerTold_83 : decode cX12_playerTold 83 = .ok (.istore 4, 2) := by decide +kernel
theorem dX12_playerTold_85 : decode cX12_playerTold 85 = .ok (.iload 4, 2) := by decide +kernel
theorem dX12_playerTold_87 : decode cX12_playerTold 87 = .ok (.aload_n 0, 1) := by decide +kernel
theorem dX12_playerTold_88 : decode cX12_playerTold 88 = .ok (.getfield 162, 3) := by decide +kernel
theorem dX12_playerTold_91 : decode cX12_playerTold 91 = .ok (.if_icmp .ge 28, 3) := by decide +kernel
theorem dX12_playerTold_94 : decode cX12_playerTold 94 = .ok (.iload_n 3, 1) := by decide +kernel
theorem dX12_playerTold_95 : decode cX12_playerTold 95 = .ok (.aload_n 0, 1) := by decide +kernel
theorem dX12_playerTold_96 : decode cX12_playerTold 96 = .ok (.iload 4, 2) := by decide +kernel
theorem dX12_playerTold_98 : decode cX12_playerTold 98 = .ok (.iload_n 1, 1) := by decide +kernel
theorem dX12_playerTold_99 : decode cX12_playerTold 99 = .ok (.invokevirtual 182, 3) := by decide +kernel
theorem dX12_playerTold_102 : decode cX12_playerTold 102 = .ok (.iconst (-1), 1) := by decide +kernel
theorem dX12_playerTold_103 : decode cX12_playerTold 103 = .ok (.if_icmp .eq 7, 3) := by decide +kernel
theorem dX12_playerTold_106 : decode cX12_playerTold 106 = .ok (.iconst 1, 1) := by decide +kernel
theorem dX12_playerTold_107 : decode cX12_playerTold 107 = .ok (.goto 4, 3) := by decide +kernel
theorem dX12_playerTold_110 : decode cX12_playerTold 110 = .ok (.iconst 0, 1) := by decide +kernel
theorem dX12_playerTold_111 : decode cX12_playerTold 111 = .ok (.iadd, 1) := by decide +kernel
theorem dX12_playerTold_112 : decode cX12_playerTold 112 = .ok (.istore_n 3, 1) := by decide +kernel
theorem dX12_playerTold_113 : decode cX12_playerTold 113 = .ok (.iinc 4 1, 3) := by decide +kernel
theorem dX12_playerTold_116 : decode cX12_playerTold 116 = .ok (.goto (-31), 3) := by decide +kernel
theorem dX12_playerTold_119 : decode cX12_playerTold 119 = .ok (.iload_n 3, 1) := by decide +kernel
theorem dX12_playerTold_120 : decode cX12_playerTold 120 = .ok (.ireturn, 1) := by decide +kernel
theorem dX12_rest_0 : decode cX12_rest 0 = .ok (.bipush 99, 2) := by decide +kernel
theorem dX12_rest_2 : decode cX12_rest 2 = .ok (.istore_n 3, 1) := by decide +kernel
theorem dX12_rest_3 : decode cX12_rest 3 = .ok (.iconst 0, 1) := by decide +kernel
theorem dX12_rest_4 : decode cX12_rest 4 = .ok (.istore 4, 2) := by decide +kernel
theorem dX12_rest_6 : decode cX12_rest 6 = .ok (.iload 4, 2) := by decide +kernel
theorem dX12_rest_8 : decode cX12_rest 8 = .ok (.aload_n 0, 1) := by decide +kernel
theorem dX12_rest_9 : decode cX12_rest 9 = .ok (.getfield 162, 3) := by decide +kernel
theorem dX12_rest_12 : decode cX12_rest 12 = .ok (.if_icmp .ge 73, 3) := by decide +kernel
theorem dX12_rest_15 : decode cX12_rest 15 = .ok (.iload 4, 2) := by decide +kernel
theorem dX12_rest_17 : decode cX12_rest 17 = .ok (.iload_n 1, 1) := by decide +kernel
theorem dX12_rest_18 : decode cX12_rest 18 = .ok (.if_icmp .eq 61, 3) := by decide +kernel
theorem dX12_rest_21 : decode cX12_rest 21 = .ok (.aload_n 0, 1) := by decide +kernel
theorem dX12_rest_22 : decode cX12_rest 22 = .ok (.iload 4, 2) := by decide +kernel
theorem dX12_rest_24 : decode cX12_rest 24 = .ok (.invokevirtual 284, 3) := by decide +kernel
theorem dX12_rest_27 : decode cX12_rest 27 = .ok (.aload_n 0, 1) := by decide +kernel
theorem dX12_rest_28 : decode cX12_rest 28 = .ok (.iload_n 1, 1) := by decide +kernel
theorem dX12_rest_29 : decode cX12_rest 29 = .ok (.invokevirtual 281, 3) := by decide +kernel
theorem dX12_rest_32 : decode cX12_rest 32 = .ok (.if_icmp .gt 47, 3) := by decide +kernel
theorem dX12_rest_35 : decode cX12_rest 35 = .ok (.aload_n 0, 1) := by decide +kernel
theorem dX12_rest_36 : decode cX12_rest 36 = .ok (.iload 4, 2) := by decide +kernel
theorem dX12_rest_38 : decode cX12_rest 38 = .ok (.iload_n 2, 1) := by decide +kernel
theorem dX12_rest_39 : decode cX12_rest 39 = .ok (.invokevirtual 182, 3) := by decide +kernel
theorem dX12_rest_42 : decode cX12_rest 42 = .ok (.iconst (-1), 1) := by decide +kernel
theorem dX12_rest_43 : decode cX12_rest 43 = .ok (.if_icmp .eq 36, 3) := by decide +kernel
theorem dX12_rest_46 : decode cX12_rest 46 = .ok (.aload_n 0, 1) := by decide +kernel
theorem dX12_rest_47 : decode cX12_rest 47 = .ok (.iload_n 1, 1) := by decide +kernel
theorem dX12_rest_48 : decode cX12_rest 48 = .ok (.invokevirtual 281, 3) := by decide +kernel
theorem dX12_rest_51 : decode cX12_rest 51 = .ok (.aload_n 0, 1) := by decide +kernel
theorem dX12_rest_52 : decode cX12_rest 52 = .ok (.iload 4, 2) := by decide +kernel
theorem dX12_rest_54 : decode cX12_rest 54 = .ok (.invokevirtual 284, 3) := by decide +kernel
theorem dX12_rest_57 : decode cX12_rest 57 = .ok (.isub, 1) := by decide +kernel
theorem dX12_rest_58 : decode cX12_rest 58 = .ok (.iload_n 3, 1) := by decide +kernel
theorem dX12_rest_59 : decode cX12_rest 59 = .ok (.if_icmp .ge 18, 3) := by decide +kernel
theorem dX12_rest_62 : decode cX12_rest 62 = .ok (.aload_n 0, 1) := by decide +kernel
theorem dX12_rest_63 : decode cX12_rest 63 = .ok (.iload_n 1, 1) := by decide +kernel
theorem dX12_rest_64 : decode cX12_rest 64 = .ok (.invokevirtual 281, 3) := by decide +kernel
theorem dX12_rest_67 : decode cX12_rest 67 = .ok (.aload_n 0, 1) := by decide +kernel
theorem dX12_rest_68 : decode cX12_rest 68 = .ok (.iload 4, 2) := by decide +kernel
theorem dX12_rest_70 : decode cX12_rest 70 = .ok (.invokevirtual 284, 3) := by decide +kernel
theorem dX12_rest_73 : decode cX12_rest 73 = .ok (.isub, 1) := by decide +kernel
theorem dX12_rest_74 : decode cX12_rest 74 = .ok (.goto 4, 3) := by decide +kernel
theorem dX12_rest_77 : decode cX12_rest 77 = .ok (.iload_n 3, 1) := by decide +kernel
theorem dX12_rest_78 : decode cX12_rest 78 = .ok (.istore_n 3, 1) := by decide +kernel
theorem dX12_rest_79 : decode cX12_rest 79 = .ok (.iinc 4 1, 3) := by decide +kernel
theorem dX12_rest_82 : decode cX12_rest 82 = .ok (.goto (-76), 3) := by decide +kernel
theorem dX12_rest_85 : decode cX12_rest 85 = .ok (.iload_n 3, 1) := by decide +kernel
theorem dX12_rest_86 : decode cX12_rest 86 = .ok (.ireturn, 1) := by decide +kernel
theorem dX12_rise_0 : decode cX12_rise 0 = .ok (.aload_n 0, 1) := by decide +kernel
theorem dX12_rise_1 : decode cX12_rise 1 = .ok (.iload_n 1, 1) := by decide +kernel
theorem dX12_rise_2 : decode cX12_rise 2 = .ok (.invokevirtual 193, 3) := by decide +kernel
theorem dX12_rise_5 : decode cX12_rise 5 = .ok (.ifCond .ne 6, 3) := by decide +kernel
theorem dX12_rise_8 : decode cX12_rise 8 = .ok (.bipush (-2), 2) := by decide +kernel
theorem dX12_rise_10 : decode cX12_rise 10 = .ok (.ireturn, 1) := by decide +kernel
theorem dX12_rise_11 : decode cX12_rise 11 = .ok (.aload_n 0, 1) := by decide +kernel
theorem dX12_rise_12 : decode cX12_rise 12 = .ok (.getfield 67, 3) := by decide +kernel
theorem dX12_rise_15 : decode cX12_rise 15 = .ok (.iload_n 1, 1) := by decide +kernel
theorem dX12_rise_16 : decode cX12_rise 16 = .ok (.baload, 1) := by decide +kernel
theorem dX12_rise_17 : decode cX12_rise 17 = .ok (.ifCond .ne 6, 3) := by decide +kernel
theorem dX12_rise_20 : decode cX12_rise 20 = .ok (.bipush (-3), 2) := by decide +kernel
theorem dX12_rise_22 : decode cX12_rise 22 = .ok (.ireturn, 1) := by decide +kernel
theorem dX12_rise_23 : decode cX12_rise 23 = .ok (.aload_n 0, 1) := by decide +kernel
theorem dX12_rise_24 : decode cX12_rise 24 = .ok (.getfield 67, 3) := by decide +kernel
theorem dX12_rise_27 : decode cX12_rise 27 = .ok (.iload_n 1, 1) := by decide +kernel
theorem dX12_rise_28 : decode cX12_rise 28 = .ok (.iconst 0, 1) := by decide +kernel
theorem dX12_rise_29 : decode cX12_rise 29 = .ok (.bastore, 1) := by decide +kernel
theorem dX12_rise_30 : decode cX12_rise 30 = .ok (.iconst 1, 1) := by decide +kernel
theorem dX12_rise_31 : decode cX12_rise 31 = .ok (.ireturn, 1) := by decide +kernel
theorem dX12_score_0 : decode cX12_score 0 = .ok (.aload_n 0, 1) := by decide +kernel
theorem dX12_score_1 : decode cX12_score 1 = .ok (.iload_n 1, 1) := by decide +kernel
theorem dX12_score_2 : decode cX12_score 2 = .ok (.invokevirtual 165, 3) := by decide +kernel
theorem dX12_score_5 : decode cX12_score 5 = .ok (.ifCond .eq 38, 3) := by decide +kernel
theorem dX12_score_8 : decode cX12_score 8 = .ok (.iload_n 2, 1) := by decide +kernel
theorem dX12_score_9 : decode cX12_score 9 = .ok (.iconst 0, 1) := by decide +kernel
theorem dX12_score_10 : decode cX12_score 10 = .ok (.iconst 2, 1) := by decide +kernel
theorem dX12_score_11 : decode cX12_score 11 = .ok (.invokestatic 155, 3) := by decide +kernel
theorem dX12_score_14 : decode cX12_score 14 = .ok (.ifCond .eq 29, 3) := by decide +kernel
theorem dX12_score_17 : decode cX12_score 17 = .ok (.iload_n 2, 1) := by decide +kernel
theorem dX12_score_18 : decode cX12_score 18 = .ok (.iconst 1, 1) := by decide +kernel
theorem dX12_score_19 : decode cX12_score 19 = .ok (.if_icmp .ne 27, 3) := by decide +kernel
theorem dX12_score_22 : decode cX12_score 22 = .ok (.iload_n 3, 1) := by decide +kernel
theorem dX12_score_23 : decode cX12_score 23 = .ok (.invokestatic 169, 3) := by decide +kernel
theorem dX12_score_26 : decode cX12_score 26 = .ok (.ifCond .eq 17, 3) := by decide +kernel
theorem dX12_score_29 : decode cX12_score 29 = .ok (.iload 4, 2) := by decide +kernel
theorem dX12_score_31 : decode cX12_score 31 = .ok (.invokestatic 169, 3) := by decide +kernel
theorem dX12_score_34 : decode cX12_score 34 = .ok (.ifCond .eq 9, 3) := by decide +kernel
theorem dX12_score_37 : decode cX12_score 37 = .ok (.iload_n 3, 1) := by decide +kernel
theorem dX12_score_38 : decode cX12_score 38 = .ok (.iload 4, 2) := by decide +kernel
theorem dX12_score_40 : decode cX12_score 40 = .ok (.if_icmp .le 6, 3) := by decide +kernel
theorem dX12_score_43 : decode cX12_score 43 = .ok (.bipush (-2), 2) := by decide +kernel
theorem dX12_score_45 : decode cX12_score 45 = .ok (.ireturn, 1) := by decide +kernel
theorem dX12_score_46 : decode cX12_score 46 = .ok (.aload_n 0, 1) := by decide +kernel
theorem dX12_score_47 : decode cX12_score 47 = .ok (.getfield 19, 3) := by decide +kernel
theorem dX12_score_50 : decode cX12_score 50 = .ok (.iload_n 1, 1) := by decide +kernel
theorem dX12_score_51 : decode cX12_score 51 = .ok (.iload_n 2, 1) := by decide +kernel
theorem dX12_score_52 : decode cX12_score 52 = .ok (.iastore, 1) := by decide +kernel
theorem dX12_score_53 : decode cX12_score 53 = .ok (.aload_n 0, 1) := by decide +kernel
theorem dX12_score_54 : decode cX12_score 54 = .ok (.getfield 22, 3) := by decide +kernel
theorem dX12_score_57 : decode cX12_score 57 = .ok (.iload_n 1, 1) := by decide +kernel
theorem dX12_score_58 : decode cX12_score 58 = .ok (.iload_n 3, 1) := by decide +kernel
theorem dX12_score_59 : decode cX12_score 59 = .ok (.iastore, 1) := by decide +kernel
theorem dX12_score_60 : decode cX12_score 60 = .ok (.aload_n 0, 1) := by decide +kernel
theorem dX12_score_61 : decode cX12_score 61 = .ok (.getfield 25, 3) := by decide +kernel
theorem dX12_score_64 : decode cX12_score 64 = .ok (.iload_n 1, 1) := by decide +kernel
theorem dX12_score_65 : decode cX12_score 65 = .ok (.iload 4, 2) := by decide +kernel
theorem dX12_score_67 : decode cX12_score 67 = .ok (.iastore, 1) := by decide +kernel
theorem dX12_score_68 : decode cX12_score 68 = .ok (.iconst 1, 1) := by decide +kernel
theorem dX12_score_69 : decode cX12_score 69 = .ok (.ireturn, 1) := by decide +kernel
theorem dX12_service_0 : decode cX12_service 0 = .ok (.iload_n 1, 1) := by decide +kernel
theorem dX12_service_1 : decode cX12_service 1 = .ok (.iconst 0, 1) := by decide +kernel
theorem dX12_service_2 : decode cX12_service 2 = .ok (.iconst 5, 1) := by decide +kernel
theorem dX12_service_3 : decode cX12_service 3 = .ok (.invokestatic 155, 3) := by decide +kernel
theorem dX12_service_6 : decode cX12_service 6 = .ok (.ifCond .eq 31, 3) := by decide +kernel
theorem dX12_service_9 : decode cX12_service 9 = .ok (.iload_n 2, 1) := by decide +kernel
theorem dX12_service_10 : decode cX12_service 10 = .ok (.invokestatic 169, 3) := by decide +kernel
theorem dX12_service_13 : decode cX12_service 13 = .ok (.ifCond .eq 24, 3) := by decide +kernel
theorem dX12_service_16 : decode cX12_service 16 = .ok (.iload_n 3, 1) := by decide +kernel
theorem dX12_service_17 : decode cX12_service 17 = .ok (.iconst 0, 1) := by decide +kernel
theorem dX12_service_18 : decode cX12_service 18 = .ok (.bipush 23, 2) := by decide +kernel
theorem dX12_service_20 : decode cX12_service 20 = .ok (.invokestatic 155, 3) := by decide +kernel
theorem dX12_service_23 : decode cX12_service 23 = .ok (.ifCond .eq 14, 3) := by decide +kernel
theorem dX12_service_26 : decode cX12_service 26 = .ok (.iload 4, 2) := by decide +kernel
theorem dX12_service_28 : decode cX12_service 28 = .ok (.iconst 1, 1) := by decide +kernel
theorem dX12_service_29 : decode cX12_service 29 = .ok (.bipush 8, 2) := by decide +kernel
theorem dX12_service_31 : decode cX12_service 31 = .ok (.invokestatic 155, 3) := by decide +kernel
theorem dX12_service_34 : decode cX12_service 34 = .ok (.ifCond .ne 6, 3) := by decide +kernel
theorem dX12_service_37 : decode cX12_service 37 = .ok (.bipush (-2), 2) := by decide +kernel
theorem dX12_service_39 : decode cX12_service 39 = .ok (.ireturn, 1) := by decide +kernel
theorem dX12_service_40 : decode cX12_service 40 = .ok (.aload_n 0, 1) := by decide +kernel
theorem dX12_service_41 : decode cX12_service 41 = .ok (.getfield 162, 3) := by decide +kernel
theorem dX12_service_44 : decode cX12_service 44 = .ok (.bipush 40, 2) := by decide +kernel
theorem dX12_service_46 : decode cX12_service 46 = .ok (.if_icmp .ne 6, 3) := by decide +kernel
theorem dX12_service_49 : decode cX12_service 49 = .ok (.bipush (-4), 2) := by decide +kernel
theorem dX12_service_51 : decode cX12_service 51 = .ok (.ireturn, 1) := by decide +kernel
theorem dX12_service_52 : decode cX12_service 52 = .ok (.aload_n 0, 1) := by decide +kernel
theorem dX12_service_53 : decode cX12_service 53 = .ok (.getfield 46, 3) := by decide +kernel
theorem dX12_service_56 : decode cX12_service 56 = .ok (.aload_n 0, 1) := by decide +kernel
theorem dX12_service_57 : decode cX12_service 57 = .ok (.getfield 162, 3) := by decide +kernel
theorem dX12_service_60 : decode cX12_service 60 = .ok (.iload_n 1, 1) := by decide +kernel
theorem dX12_service_61 : decode cX12_service 61 = .ok (.iastore, 1) := by decide +kernel
theorem dX12_service_62 : decode cX12_service 62 = .ok (.aload_n 0, 1) := by decide +kernel
theorem dX12_service_63 : decode cX12_service 63 = .ok (.getfield 49, 3) := by decide +kernel
theorem dX12_service_66 : decode cX12_service 66 = .ok (.aload_n 0, 1) := by decide +kernel
theorem dX12_service_67 : decode cX12_service 67 = .ok (.getfield 162, 3) := by decide +kernel
theorem dX12_service_70 : decode cX12_service 70 = .ok (.iload_n 2, 1) := by decide +kernel
theorem dX12_service_71 : decode cX12_service 71 = .ok (.iastore, 1) := by decide +kernel
theorem dX12_service_72 : decode cX12_service 72 = .ok (.aload_n 0, 1) := by decide +kernel
theorem dX12_service_73 : decode cX12_service 73 = .ok (.getfield 52, 3) := by decide +kernel
theorem dX12_service_76 : decode cX12_service 76 = .ok (.aload_n 0, 1) := by decide +kernel
theorem dX12_service_77 : decode cX12_service 77 = .ok (.getfield 162, 3) := by decide +kernel
theorem dX12_service_80 : decode cX12_service 80 = .ok (.iload_n 3, 1) := by decide +kernel
theorem dX12_service_81 : decode cX12_service 81 = .ok (.iastore, 1) := by decide +kernel
theorem dX12_service_82 : decode cX12_service 82 = .ok (.aload_n 0, 1) := by decide +kernel
theorem dX12_service_83 : decode cX12_service 83 = .ok (.getfield 55, 3) := by decide +kernel
theorem dX12_service_86 : decode cX12_service 86 = .ok (.aload_n 0, 1) := by decide +kernel
theorem dX12_service_87 : decode cX12_service 87 = .ok (.getfield 162, 3) := by decide +kernel
theorem dX12_service_90 : decode cX12_service 90 = .ok (.iload 4, 2) := by decide +kernel
theorem dX12_service_92 : decode cX12_service 92 = .ok (.iastore, 1) := by decide +kernel
theorem dX12_service_93 : decode cX12_service 93 = .ok (.aload_n 0, 1) := by decide +kernel
theorem dX12_service_94 : decode cX12_service 94 = .ok (.dup, 1) := by decide +kernel
theorem dX12_service_95 : decode cX12_service 95 = .ok (.getfield 162, 3) := by decide +kernel
theorem dX12_service_98 : decode cX12_service 98 = .ok (.iconst 1, 1) := by decide +kernel
theorem dX12_service_99 : decode cX12_service 99 = .ok (.iadd, 1) := by decide +kernel
theorem dX12_service_100 : decode cX12_service 100 = .ok (.putfield 162, 3) := by decide +kernel
theorem dX12_service_103 : decode cX12_service 103 = .ok (.aload_n 0, 1) := by decide +kernel
theorem dX12_service_104 : decode cX12_service 104 = .ok (.getfield 162, 3) := by decide +kernel
theorem dX12_service_107 : decode cX12_service 107 = .ok (.iconst 1, 1) := by decide +kernel
theorem dX12_service_108 : decode cX12_service 108 = .ok (.isub, 1) := by decide +kernel
theorem dX12_service_109 : decode cX12_service 109 = .ok (.ireturn, 1) := by decide +kernel
theorem dX12_waitOf_0 : decode cX12_waitOf 0 = .ok (.iconst 0, 1) := by decide +kernel
theorem dX12_waitOf_1 : decode cX12_waitOf 1 = .ok (.istore_n 2, 1) := by decide +kernel
theorem dX12_waitOf_2 : decode cX12_waitOf 2 = .ok (.iconst 0, 1) := by decide +kernel
theorem dX12_waitOf_3 : decode cX12_waitOf 3 = .ok (.istore_n 3, 1) := by decide +kernel
theorem dX12_waitOf_4 : decode cX12_waitOf 4 = .ok (.iload_n 3, 1) := by decide +kernel
theorem dX12_waitOf_5 : decode cX12_waitOf 5 = .ok (.bipush 6, 2) := by decide +kernel
theorem dX12_waitOf_7 : decode cX12_waitOf 7 = .ok (.if_icmp .ge 134, 3) := by decide +kernel
theorem dX12_waitOf_10 : decode cX12_waitOf 10 = .ok (.iconst (-1), 1) := by decide +kernel
theorem dX12_waitOf_11 : decode cX12_waitOf 11 = .ok (.istore 4, 2) := by decide +kernel
theorem dX12_waitOf_13 : decode cX12_waitOf 13 = .ok (.iconst (-1), 1) := by decide +kernel
theorem dX12_waitOf_14 : decode cX12_waitOf 14 = .ok (.istore 5, 2) := by decide +kernel
theorem dX12_waitOf_16 : decode cX12_waitOf 16 = .ok (.iconst 0, 1) := by decide +kernel
theorem dX12_waitOf_17 : decode cX12_waitOf 17 = .ok (.istore 6, 2) := by decide +kernel
theorem dX12_waitOf_19 : decode cX12_waitOf 19 = .ok (.iload 6, 2) := by decide +kernel
theorem dX12_waitOf_21 : decode cX12_waitOf 21 = .ok (.aload_n 0, 1) := by decide +kernel
theorem dX12_waitOf_22 : decode cX12_waitOf 22 = .ok (.getfield 58, 3) := by decide +kernel
theorem dX12_waitOf_25 : decode cX12_waitOf 25 = .ok (.iload_n 1, 1) := by decide +kernel
theorem dX12_waitOf_26 : decode cX12_waitOf 26 = .ok (.iaload, 1) := by decide +kernel
theorem dX12_waitOf_27 : decode cX12_waitOf 27 = .ok (.if_icmp .ge 43, 3) := by decide +kernel
theorem dX12_waitOf_30 : decode cX12_waitOf 30 = .ok (.aload_n 0, 1) := by decide +kernel
theorem dX12_waitOf_31 : decode cX12_waitOf 31 = .ok (.aload_n 0, 1) := by decide +kernel
theorem dX12_waitOf_32 : decode cX12_waitOf 32 = .ok (.getfield 129, 3) := by decide +kernel
theorem dX12_waitOf_35 : decode cX12_waitOf 35 = .ok (.iload 6, 2) := by decide +kernel
theorem dX12_waitOf_37 : decode cX12_waitOf 37 = .ok (.iaload, 1) := by decide +kernel
theorem dX12_waitOf_38 : decode cX12_waitOf 38 = .ok (.iload_n 3, 1) := by decide +kernel
theorem dX12_waitOf_39 : decode cX12_waitOf 39 = .ok (.invokevirtual 186, 3) := by decide +kernel
theorem dX12_waitOf_42 : decode cX12_waitOf 42 = .ok (.ifCond .le 22, 3) := by decide +kernel
theorem dX12_waitOf_45 : decode cX12_waitOf 45 = .ok (.iload 4, 2) := by decide +kernel
theorem dX12_waitOf_47 : decode cX12_waitOf 47 = .ok (.iconst (-1), 1) := by decide +kernel
theorem dX12_waitOf_48 : decode cX12_waitOf 48 = .ok (.if_icmp .ne 8, 3) := by decide +kernel
theorem dX12_waitOf_51 : decode cX12_waitOf 51 = .ok (.iload 6, 2) := by decide +kernel
theorem dX12_waitOf_53 : decode cX12_waitOf 53 = .ok (.goto 5, 3) := by decide +kernel
theorem dX12_waitOf_56 : decode cX12_waitOf 56 = .ok (.iload 4, 2) := by decide +kernel
theorem dX12_waitOf_58 : decode cX12_waitOf 58 = .ok (.istore 4, 2) := by decide +kernel
theorem dX12_waitOf_60 : decode cX12_waitOf 60 = .ok (.iload 6, 2) := by decide +kernel
theorem dX12_waitOf_62 : decode cX12_waitOf 62 = .ok (.istore 5, 2) := by decide +kernel
theorem dX12_waitOf_64 : decode cX12_waitOf 64 = .ok (.iinc 6 1, 3) := by decide +kernel
theorem dX12_waitOf_67 : decode cX12_waitOf 67 = .ok (.goto (-48), 3) := by decide +kernel
theorem dX12_waitOf_70 : decode cX12_waitOf 70 = .ok (.iload 4, 2) := by decide +kernel
theorem dX12_waitOf_72 : decode cX12_waitOf 72 = .ok (.istore 6, 2) := by decide +kernel
theorem dX12_waitOf_74 : decode cX12_waitOf 74 = .ok (.iload 4, 2) := by decide +kernel
theorem dX12_waitOf_76 : decode cX12_waitOf 76 = .ok (.iconst (-1), 1) := by decide +kernel
theorem dX12_waitOf_77 : decode cX12_waitOf 77 = .ok (.if_icmp .eq 58, 3) := by decide +kernel
theorem dX12_waitOf_80 : decode cX12_waitOf 80 = .ok (.iload 6, 2) := by decide +kernel
theorem dX12_waitOf_82 : decode cX12_waitOf 82 = .ok (.iload 5, 2) := by decide +kernel
theorem dX12_waitOf_84 : decode cX12_waitOf 84 = .ok (.if_icmp .gt 51, 3) := by decide +kernel
theorem dX12_waitOf_87 : decode cX12_waitOf 87 = .ok (.iload_n 2, 1) := by decide +kernel
theorem dX12_waitOf_88 : decode cX12_waitOf 88 = .ok (.aload_n 0, 1) := by decide +kernel
theorem dX12_waitOf_89 : decode cX12_waitOf 89 = .ok (.aload_n 0, 1) := by decide +kernel
theorem dX12_waitOf_90 : decode cX12_waitOf 90 = .ok (.getfield 129, 3) := by decide +kernel
theorem dX12_waitOf_93 : decode cX12_waitOf 93 = .ok (.iload 6, 2) := by decide +kernel
theorem dX12_waitOf_95 : decode cX12_waitOf 95 = .ok (.iaload, 1) := by decide +kernel
theorem dX12_waitOf_96 : decode cX12_waitOf 96 = .ok (.iload_n 3, 1) := by decide +kernel
theorem dX12_waitOf_97 : decode cX12_waitOf 97 = .ok (.invokevirtual 186, 3) := by decide +kernel
theorem dX12_waitOf_100 : decode cX12_waitOf 100 = .ok (.ifCond .ne 26, 3) := by decide +kernel
theorem dX12_waitOf_103 : decode cX12_waitOf 103 = .ok (.aload_n 0, 1) := by decide +kernel
theorem dX12_waitOf_104 : decode cX12_waitOf 104 = .ok (.getfield 7, 3) := by decide +kernel
theorem dX12_waitOf_107 : decode cX12_waitOf 107 = .ok (.aload_n 0, 1) := by decide +kernel
theorem dX12_waitOf_108 : decode cX12_waitOf 108 = .ok (.getfield 129, 3) := by decide +kernel
theorem dX12_waitOf_111 : decode cX12_waitOf 111 = .ok (.iload 6, 2) := by decide +kernel
theorem dX12_waitOf_113 : decode cX12_waitOf 113 = .ok (.iaload, 1) := by decide +kernel
theorem dX12_waitOf_114 : decode cX12_waitOf 114 = .ok (.iaload, 1) := by decide +kernel
theorem dX12_waitOf_115 : decode cX12_waitOf 115 = .ok (.aload_n 0, 1) := by decide +kernel
theorem dX12_waitOf_116 : decode cX12_waitOf 116 = .ok (.iload_n 1, 1) := by decide +kernel
theorem dX12_waitOf_117 : decode cX12_waitOf 117 = .ok (.iload_n 3, 1) := by decide +kernel
theorem dX12_waitOf_118 : decode cX12_waitOf 118 = .ok (.iconst (-1), 1) := by decide +kernel
theorem dX12_waitOf_119 : decode cX12_waitOf 119 = .ok (.invokevirtual 189, 3) := by decide +kernel
theorem dX12_waitOf_122 : decode cX12_waitOf 122 = .ok (.imul, 1) := by decide +kernel
theorem dX12_waitOf_123 : decode cX12_waitOf 123 = .ok (.goto 4, 3) := by decide +kernel
theorem dX12_waitOf_126 : decode cX12_waitOf 126 = .ok (.iconst 0, 1) := by decide +kernel
theorem dX12_waitOf_127 : decode cX12_waitOf 127 = .ok (.iadd, 1) := by decide +kernel
theorem dX12_waitOf_128 : decode cX12_waitOf 128 = .ok (.istore_n 2, 1) := by decide +kernel
theorem dX12_waitOf_129 : decode cX12_waitOf 129 = .ok (.iinc 6 1, 3) := by decide +kernel
theorem dX12_waitOf_132 : decode cX12_waitOf 132 = .ok (.goto (-58), 3) := by decide +kernel
theorem dX12_waitOf_135 : decode cX12_waitOf 135 = .ok (.iinc 3 1, 3) := by decide +kernel
theorem dX12_waitOf_138 : decode cX12_waitOf 138 = .ok (.goto (-134), 3) := by decide +kernel
theorem dX12_waitOf_141 : decode cX12_waitOf 141 = .ok (.iload_n 2, 1) := by decide +kernel
theorem dX12_waitOf_142 : decode cX12_waitOf 142 = .ok (.ireturn, 1) := by decide +kernel
theorem dX12_workTold_0 : decode cX12_workTold 0 = .ok (.aload_n 0, 1) := by decide +kernel
theorem dX12_workTold_1 : decode cX12_workTold 1 = .ok (.iload_n 1, 1) := by decide +kernel
theorem dX12_workTold_2 : decode cX12_workTold 2 = .ok (.invokevirtual 165, 3) := by decide +kernel
theorem dX12_workTold_5 : decode cX12_workTold 5 = .ok (.ifCond .eq 12, 3) := by decide +kernel
theorem dX12_workTold_8 : decode cX12_workTold 8 = .ok (.iload_n 2, 1) := by decide +kernel
theorem dX12_workTold_9 : decode cX12_workTold 9 = .ok (.iconst 0, 1) := by decide +kernel
theorem dX12_workTold_10 : decode cX12_workTold 10 = .ok (.iconst 5, 1) := by decide +kernel
theorem dX12_workTold_11 : decode cX12_workTold 11 = .ok (.invokestatic 155, 3) := by decide +kernel
theorem dX12_workTold_14 : decode cX12_workTold 14 = .ok (.ifCond .ne 6, 3) := by decide +kernel
theorem dX12_workTold_17 : decode cX12_workTold 17 = .ok (.bipush (-2), 2) := by decide +kernel
theorem dX12_workTold_19 : decode cX12_workTold 19 = .ok (.ireturn, 1) := by decide +kernel
theorem dX12_workTold_20 : decode cX12_workTold 20 = .ok (.iload_n 2, 1) := by decide +kernel
theorem dX12_workTold_21 : decode cX12_workTold 21 = .ok (.tableswitch 84 0 4 #[35, 42, 49, 56, 63], 35) := by decide +kernel
theorem dX12_workTold_56 : decode cX12_workTold 56 = .ok (.aload_n 0, 1) := by decide +kernel
theorem dX12_workTold_57 : decode cX12_workTold 57 = .ok (.getfield 7, 3) := by decide +kernel
theorem dX12_workTold_60 : decode cX12_workTold 60 = .ok (.iload_n 1, 1) := by decide +kernel
theorem dX12_workTold_61 : decode cX12_workTold 61 = .ok (.iaload, 1) := by decide +kernel
theorem dX12_workTold_62 : decode cX12_workTold 62 = .ok (.ireturn, 1) := by decide +kernel
theorem dX12_workTold_63 : decode cX12_workTold 63 = .ok (.aload_n 0, 1) := by decide +kernel
theorem dX12_workTold_64 : decode cX12_workTold 64 = .ok (.getfield 13, 3) := by decide +kernel
theorem dX12_workTold_67 : decode cX12_workTold 67 = .ok (.iload_n 1, 1) := by decide +kernel
theorem dX12_workTold_68 : decode cX12_workTold 68 = .ok (.iaload, 1) := by decide +kernel
theorem dX12_workTold_69 : decode cX12_workTold 69 = .ok (.ireturn, 1) := by decide +kernel
theorem dX12_workTold_70 : decode cX12_workTold 70 = .ok (.aload_n 0, 1) := by decide +kernel
theorem dX12_workTold_71 : decode cX12_workTold 71 = .ok (.getfield 16, 3) := by decide +kernel
theorem dX12_workTold_74 : decode cX12_workTold 74 = .ok (.iload_n 1, 1) := by decide +kernel
theorem dX12_workTold_75 : decode cX12_workTold 75 = .ok (.iaload, 1) := by decide +kernel
theorem dX12_workTold_76 : decode cX12_workTold 76 = .ok (.ireturn, 1) := by decide +kernel
theorem dX12_workTold_77 : decode cX12_workTold 77 = .ok (.aload_n 0, 1) := by decide +kernel
theorem dX12_workTold_78 : decode cX12_workTold 78 = .ok (.getfield 19, 3) := by decide +kernel
theorem dX12_workTold_81 : decode cX12_workTold 81 = .ok (.iload_n 1, 1) := by decide +kernel
theorem dX12_workTold_82 : decode cX12_workTold 82 = .ok (.iaload, 1) := by decide +kernel
theorem dX12_workTold_83 : decode cX12_workTold 83 = .ok (.ireturn, 1) := by decide +kernel
theorem dX12_workTold_84 : decode cX12_workTold 84 = .ok (.aload_n 0, 1) := by decide +kernel
theorem dX12_workTold_85 : decode cX12_workTold 85 = .ok (.getfield 19, 3) := by decide +kernel
theorem dX12_workTold_88 : decode cX12_workTold 88 = .ok (.iload_n 1, 1) := by decide +kernel
theorem dX12_workTold_89 : decode cX12_workTold 89 = .ok (.iaload, 1) := by decide +kernel
theorem dX12_workTold_90 : decode cX12_workTold 90 = .ok (.iconst 1, 1) := by decide +kernel
theorem dX12_workTold_91 : decode cX12_workTold 91 = .ok (.if_icmp .ne 12, 3) := by decide +kernel
theorem dX12_workTold_94 : decode cX12_workTold 94 = .ok (.aload_n 0, 1) := by decide +kernel
theorem dX12_workTold_95 : decode cX12_workTold 95 = .ok (.getfield 22, 3) := by decide +kernel
theorem dX12_workTold_98 : decode cX12_workTold 98 = .ok (.iload_n 1, 1) := by decide +kernel
theorem dX12_workTold_99 : decode cX12_workTold 99 = .ok (.iaload, 1) := by decide +kernel
theorem dX12_workTold_100 : decode cX12_workTold 100 = .ok (.goto 4, 3) := by decide +kernel
theorem dX12_workTold_103 : decode cX12_workTold 103 = .ok (.iconst (-1), 1) := by decide +kernel
theorem dX12_workTold_104 : decode cX12_workTold 104 = .ok (.ireturn, 1) := by decide +kernel
theorem dX12_workTold_105 : decode cX12_workTold 105 = .ok (.aload_n 0, 1) := by decide +kernel
theorem dX12_workTold_106 : decode cX12_workTold 106 = .ok (.getfield 19, 3) := by decide +kernel
theorem dX12_workTold_109 : decode cX12_workTold 109 = .ok (.iload_n 1, 1) := by decide +kernel
theorem dX12_workTold_110 : decode cX12_workTold 110 = .ok (.iaload, 1) := by decide +kernel
theorem dX12_workTold_111 : decode cX12_workTold 111 = .ok (.iconst 1, 1) := by decide +kernel
theorem dX12_workTold_112 : decode cX12_workTold 112 = .ok (.if_icmp .ne 12, 3) := by decide +kernel
theorem dX12_workTold_115 : decode cX12_workTold 115 = .ok (.aload_n 0, 1) := by decide +kernel
theorem dX12_workTold_116 : decode cX12_workTold 116 = .ok (.getfield 25, 3) := by decide +kernel
theorem dX12_workTold_119 : decode cX12_workTold 119 = .ok (.iload_n 1, 1) := by decide +kernel
theorem dX12_workTold_120 : decode cX12_workTold 120 = .ok (.iaload, 1) := by decide +kernel
theorem dX12_workTold_121 : decode cX12_workTold 121 = .ok (.goto 4, 3) := by decide +kernel
theorem dX12_workTold_124 : decode cX12_workTold 124 = .ok (.iconst (-1), 1) := by decide +kernel
theorem dX12_workTold_125 : decode cX12_workTold 125 = .ok (.ireturn, 1) := by decide +kernel
theorem dX12_call_0 : decode cX12_call 0 = .ok (.aload_n 0, 1) := by decide +kernel
theorem dX12_call_1 : decode cX12_call 1 = .ok (.iload_n 1, 1) := by decide +kernel
theorem dX12_call_2 : decode cX12_call 2 = .ok (.invokevirtual 193, 3) := by decide +kernel
theorem dX12_call_5 : decode cX12_call 5 = .ok (.ifCond .eq 11, 3) := by decide +kernel
theorem dX12_call_8 : decode cX12_call 8 = .ok (.aload_n 0, 1) := by decide +kernel
theorem dX12_call_9 : decode cX12_call 9 = .ok (.iload_n 2, 1) := by decide +kernel
theorem dX12_call_10 : decode cX12_call 10 = .ok (.invokevirtual 165, 3) := by decide +kernel
theorem dX12_call_13 : decode cX12_call 13 = .ok (.ifCond .ne 6, 3) := by decide +kernel
theorem dX12_call_16 : decode cX12_call 16 = .ok (.bipush (-2), 2) := by decide +kernel
theorem dX12_call_18 : decode cX12_call 18 = .ok (.ireturn, 1) := by decide +kernel
theorem dX12_call_19 : decode cX12_call 19 = .ok (.iconst 0, 1) := by decide +kernel
theorem dX12_call_20 : decode cX12_call 20 = .ok (.istore_n 3, 1) := by decide +kernel
theorem dX12_call_21 : decode cX12_call 21 = .ok (.iconst 0, 1) := by decide +kernel
theorem dX12_call_22 : decode cX12_call 22 = .ok (.istore 4, 2) := by decide +kernel
theorem dX12_call_24 : decode cX12_call 24 = .ok (.iload 4, 2) := by decide +kernel
theorem dX12_call_26 : decode cX12_call 26 = .ok (.aload_n 0, 1) := by decide +kernel
theorem dX12_call_27 : decode cX12_call 27 = .ok (.getfield 58, 3) := by decide +kernel
theorem dX12_call_30 : decode cX12_call 30 = .ok (.iload_n 1, 1) := by decide +kernel
theorem dX12_call_31 : decode cX12_call 31 = .ok (.iaload, 1) := by decide +kernel
theorem dX12_call_32 : decode cX12_call 32 = .ok (.if_icmp .ge 34, 3) := by decide +kernel
theorem dX12_call_35 : decode cX12_call 35 = .ok (.iload_n 3, 1) := by decide +kernel
theorem dX12_call_36 : decode cX12_call 36 = .ok (.ifCond .ne 18, 3) := by decide +kernel
theorem dX12_call_39 : decode cX12_call 39 = .ok (.aload_n 0, 1) := by decide +kernel
theorem dX12_call_40 : decode cX12_call 40 = .ok (.getfield 61, 3) := by decide +kernel
theorem dX12_call_43 : decode cX12_call 43 = .ok (.iconst 5, 1) := by decide +kernel
theorem dX12_call_44 : decode cX12_call 44 = .ok (.iload_n 1, 1) := by decide +kernel
theorem dX12_call_45 : decode cX12_call 45 = .ok (.imul, 1) := by decide +kernel
theorem dX12_call_46 : decode cX12_call 46 = .ok (.iload 4, 2) := by decide +kernel
theorem dX12_call_48 : decode cX12_call 48 = .ok (.iadd, 1) := by decide +kernel
theorem dX12_call_49 : decode cX12_call 49 = .ok (.iaload, 1) := by decide +kernel
theorem dX12_call_50 : decode cX12_call 50 = .ok (.iload_n 2, 1) := by decide +kernel
theorem dX12_call_51 : decode cX12_call 51 = .ok (.if_icmp .ne 7, 3) := by decide +kernel
theorem dX12_call_54 : decode cX12_call 54 = .ok (.iconst 1, 1) := by decide +kernel
theorem dX12_call_55 : decode cX12_call 55 = .ok (.goto 4, 3) := by decide +kernel
theorem dX12_call_58 : decode cX12_call 58 = .ok (.iconst 0, 1) := by decide +kernel
theorem dX12_call_59 : decode cX12_call 59 = .ok (.istore_n 3, 1) := by decide +kernel
theorem dX12_call_60 : decode cX12_call 60 = .ok (.iinc 4 1, 3) := by decide +kernel
theorem dX12_call_63 : decode cX12_call 63 = .ok (.goto (-39), 3) := by decide +kernel
theorem dX12_call_66 : decode cX12_call 66 = .ok (.aload_n 0, 1) := by decide +kernel
theorem dX12_call_67 : decode cX12_call 67 = .ok (.getfield 67, 3) := by decide +kernel
theorem dX12_call_70 : decode cX12_call 70 = .ok (.iload_n 1, 1) := by decide +kernel
theorem dX12_call_71 : decode cX12_call 71 = .ok (.baload, 1) := by decide +kernel
theorem dX12_call_72 : decode cX12_call 72 = .ok (.ifCond .ne 18, 3) := by decide +kernel
theorem dX12_call_75 : decode cX12_call 75 = .ok (.iload_n 3, 1) := by decide +kernel
theorem dX12_call_76 : decode cX12_call 76 = .ok (.ifCond .ne 14, 3) := by decide +kernel
theorem dX12_call_79 : decode cX12_call 79 = .ok (.aload_n 0, 1) := by decide +kernel
theorem dX12_call_80 : decode cX12_call 80 = .ok (.iload_n 1, 1) := by decide +kernel
theorem dX12_call_81 : decode cX12_call 81 = .ok (.iload_n 2, 1) := by decide +kernel
theorem dX12_call_82 : decode cX12_call 82 = .ok (.invokevirtual 196, 3) := by decide +kernel
theorem dX12_call_85 : decode cX12_call 85 = .ok (.bipush 12, 2) := by decide +kernel
theorem dX12_call_87 : decode cX12_call 87 = .ok (.if_icmp .le 6, 3) := by decide +kernel
theorem dX12_call_90 : decode cX12_call 90 = .ok (.bipush (-3), 2) := by decide +kernel
theorem dX12_call_92 : decode cX12_call 92 = .ok (.ireturn, 1) := by decide +kernel
theorem dX12_call_93 : decode cX12_call 93 = .ok (.aload_n 0, 1) := by decide +kernel
theorem dX12_call_94 : decode cX12_call 94 = .ok (.getfield 58, 3) := by decide +kernel
theorem dX12_call_97 : decode cX12_call 97 = .ok (.iload_n 1, 1) := by decide +kernel
theorem dX12_call_98 : decode cX12_call 98 = .ok (.iaload, 1) := by decide +kernel
theorem dX12_call_99 : decode cX12_call 99 = .ok (.iconst 5, 1) := by decide +kernel
theorem dX12_call_100 : decode cX12_call 100 = .ok (.if_icmp .ne 6, 3) := by decide +kernel
theorem dX12_call_103 : decode cX12_call 103 = .ok (.bipush (-4), 2) := by decide +kernel
theorem dX12_call_105 : decode cX12_call 105 = .ok (.ireturn, 1) := by decide +kernel
theorem dX12_call_106 : decode cX12_call 106 = .ok (.aload_n 0, 1) := by decide +kernel
theorem dX12_call_107 : decode cX12_call 107 = .ok (.getfield 61, 3) := by decide +kernel
theorem dX12_call_110 : decode cX12_call 110 = .ok (.iconst 5, 1) := by decide +kernel
theorem dX12_call_111 : decode cX12_call 111 = .ok (.iload_n 1, 1) := by decide +kernel
theorem dX12_call_112 : decode cX12_call 112 = .ok (.imul, 1) := by decide +kernel
theorem dX12_call_113 : decode cX12_call 113 = .ok (.aload_n 0, 1) := by decide +kernel
theorem dX12_call_114 : decode cX12_call 114 = .ok (.getfield 58, 3) := by decide +kernel
theorem dX12_call_117 : decode cX12_call 117 = .ok (.iload_n 1, 1) := by decide +kernel
theorem dX12_call_118 : decode cX12_call 118 = .ok (.iaload, 1) := by decide +kernel
theorem dX12_call_119 : decode cX12_call 119 = .ok (.iadd, 1) := by decide +kernel
theorem dX12_call_120 : decode cX12_call 120 = .ok (.iload_n 2, 1) := by decide +kernel
theorem dX12_call_121 : decode cX12_call 121 = .ok (.iastore, 1) := by decide +kernel
theorem dX12_call_122 : decode cX12_call 122 = .ok (.aload_n 0, 1) := by decide +kernel
theorem dX12_call_123 : decode cX12_call 123 = .ok (.getfield 58, 3) := by decide +kernel
theorem dX12_call_126 : decode cX12_call 126 = .ok (.iload_n 1, 1) := by decide +kernel
theorem dX12_call_127 : decode cX12_call 127 = .ok (.dup2, 1) := by decide +kernel
theorem dX12_call_128 : decode cX12_call 128 = .ok (.iaload, 1) := by decide +kernel
theorem dX12_call_129 : decode cX12_call 129 = .ok (.iconst 1, 1) := by decide +kernel
theorem dX12_call_130 : decode cX12_call 130 = .ok (.iadd, 1) := by decide +kernel
theorem dX12_call_131 : decode cX12_call 131 = .ok (.iastore, 1) := by decide +kernel
theorem dX12_call_132 : decode cX12_call 132 = .ok (.aload_n 0, 1) := by decide +kernel
theorem dX12_call_133 : decode cX12_call 133 = .ok (.getfield 58, 3) := by decide +kernel
theorem dX12_call_136 : decode cX12_call 136 = .ok (.iload_n 1, 1) := by decide +kernel
theorem dX12_call_137 : decode cX12_call 137 = .ok (.iaload, 1) := by decide +kernel
theorem dX12_call_138 : decode cX12_call 138 = .ok (.ireturn, 1) := by decide +kernel
theorem dX12_gapsIn_0 : decode cX12_gapsIn 0 = .ok (.iconst 0, 1) := by decide +kernel
theorem dX12_gapsIn_1 : decode cX12_gapsIn 1 = .ok (.istore_n 2, 1) := by decide +kernel
theorem dX12_gapsIn_2 : decode cX12_gapsIn 2 = .ok (.iconst 0, 1) := by decide +kernel
theorem dX12_gapsIn_3 : decode cX12_gapsIn 3 = .ok (.istore_n 3, 1) := by decide +kernel
theorem dX12_gapsIn_4 : decode cX12_gapsIn 4 = .ok (.iload_n 3, 1) := by decide +kernel
theorem dX12_gapsIn_5 : decode cX12_gapsIn 5 = .ok (.aload_n 0, 1) := by decide +kernel
theorem dX12_gapsIn_6 : decode cX12_gapsIn 6 = .ok (.iload_n 1, 1) := by decide +kernel
theorem dX12_gapsIn_7 : decode cX12_gapsIn 7 = .ok (.iconst (-1), 1) := by decide +kernel
theorem dX12_gapsIn_8 : decode cX12_gapsIn 8 = .ok (.invokevirtual 196, 3) := by decide +kernel
theorem dX12_gapsIn_11 : decode cX12_gapsIn 11 = .ok (.if_icmp .ge 32, 3) := by decide +kernel
theorem dX12_gapsIn_14 : decode cX12_gapsIn 14 = .ok (.iload_n 2, 1) := by decide +kernel
theorem dX12_gapsIn_15 : decode cX12_gapsIn 15 = .ok (.aload_n 0, 1) := by decide +kernel
theorem dX12_gapsIn_16 : decode cX12_gapsIn 16 = .ok (.getfield 64, 3) := by decide +kernel
theorem dX12_gapsIn_19 : decode cX12_gapsIn 19 = .ok (.bipush 12, 2) := by decide +kernel
theorem dX12_gapsIn_21 : decode cX12_gapsIn 21 = .ok (.iload_n 1, 1) := by decide +kernel
theorem dX12_gapsIn_22 : decode cX12_gapsIn 22 = .ok (.imul, 1) := by decide +kernel
theorem dX12_gapsIn_23 : decode cX12_gapsIn 23 = .ok (.iload_n 3, 1) := by decide +kernel
theorem dX12_gapsIn_24 : decode cX12_gapsIn 24 = .ok (.iadd, 1) := by decide +kernel
theorem dX12_gapsIn_25 : decode cX12_gapsIn 25 = .ok (.iaload, 1) := by decide +kernel
theorem dX12_gapsIn_26 : decode cX12_gapsIn 26 = .ok (.iconst (-1), 1) := by decide +kernel
theorem dX12_gapsIn_27 : decode cX12_gapsIn 27 = .ok (.if_icmp .ne 7, 3) := by decide +kernel
theorem dX12_gapsIn_30 : decode cX12_gapsIn 30 = .ok (.iconst 1, 1) := by decide +kernel
theorem dX12_gapsIn_31 : decode cX12_gapsIn 31 = .ok (.goto 4, 3) := by decide +kernel
theorem dX12_gapsIn_34 : decode cX12_gapsIn 34 = .ok (.iconst 0, 1) := by decide +kernel
theorem dX12_gapsIn_35 : decode cX12_gapsIn 35 = .ok (.iadd, 1) := by decide +kernel
theorem dX12_gapsIn_36 : decode cX12_gapsIn 36 = .ok (.istore_n 2, 1) := by decide +kernel
theorem dX12_gapsIn_37 : decode cX12_gapsIn 37 = .ok (.iinc 3 1, 3) := by decide +kernel
theorem dX12_gapsIn_40 : decode cX12_gapsIn 40 = .ok (.goto (-36), 3) := by decide +kernel
theorem dX12_gapsIn_43 : decode cX12_gapsIn 43 = .ok (.iload_n 2, 1) := by decide +kernel
theorem dX12_gapsIn_44 : decode cX12_gapsIn 44 = .ok (.ireturn, 1) := by decide +kernel
theorem dX12_named_0 : decode cX12_named 0 = .ok (.iload_n 1, 1) := by decide +kernel
theorem dX12_named_1 : decode cX12_named 1 = .ok (.tableswitch 123 0 8 #[51, 58, 68, 75, 82, 85, 92, 109, 116], 51) := by decide +kernel
theorem dX12_named_52 : decode cX12_named 52 = .ok (.aload_n 0, 1) := by decide +kernel
theorem dX12_named_53 : decode cX12_named 53 = .ok (.getfield 46, 3) := by decide +kernel
theorem dX12_named_56 : decode cX12_named 56 = .ok (.iload_n 2, 1) := by decide +kernel
theorem dX12_named_57 : decode cX12_named 57 = .ok (.iaload, 1) := by decide +kernel
theorem dX12_named_58 : decode cX12_named 58 = .ok (.ireturn, 1) := by decide +kernel
theorem dX12_named_59 : decode cX12_named 59 = .ok (.aload_n 0, 1) := by decide +kernel
theorem dX12_named_60 : decode cX12_named 60 = .ok (.getfield 49, 3) := by decide +kernel
theorem dX12_named_63 : decode cX12_named 63 = .ok (.iload_n 2, 1) := by decide +kernel
theorem dX12_named_64 : decode cX12_named 64 = .ok (.iaload, 1) := by decide +kernel
theorem dX12_named_65 : decode cX12_named 65 = .ok (.bipush 7, 2) := by decide +kernel
theorem dX12_named_67 : decode cX12_named 67 = .ok (.irem, 1) := by decide +kernel
theorem dX12_named_68 : decode cX12_named 68 = .ok (.ireturn, 1) := by decide +kernel
theorem dX12_named_69 : decode cX12_named 69 = .ok (.aload_n 0, 1) := by decide +kernel
theorem dX12_named_70 : decode cX12_named 70 = .ok (.getfield 52, 3) := by decide +kernel
theorem dX12_named_73 : decode cX12_named 73 = .ok (.iload_n 2, 1) := by decide +kernel
theorem dX12_named_74 : decode cX12_named 74 = .ok (.iaload, 1) := by decide +kernel
theorem dX12_named_75 : decode cX12_named 75 = .ok (.ireturn, 1) := by decide +kernel
theorem dX12_named_76 : decode cX12_named 76 = .ok (.aload_n 0, 1) := by decide +kernel
theorem dX12_named_77 : decode cX12_named 77 = .ok (.getfield 55, 3) := by decide +kernel
theorem dX12_named_80 : decode cX12_named 80 = .ok (.iload_n 2, 1) := by decide +kernel
theorem dX12_named_81 : decode cX12_named 81 = .ok (.iaload, 1) := by decide +kernel
theorem dX12_named_82 : decode cX12_named 82 = .ok (.ireturn, 1) := by decide +kernel
theorem dX12_named_83 : decode cX12_named 83 = .ok (.iload 4, 2) := by decide +kernel
theorem dX12_named_85 : decode cX12_named 85 = .ok (.ireturn, 1) := by decide +kernel
theorem dX12_named_86 : decode cX12_named 86 = .ok (.aload_n 0, 1) := by decide +kernel
theorem dX12_named_87 : decode cX12_named 87 = .ok (.getfield 28, 3) := by decide +kernel
theorem dX12_named_90 : decode cX12_named 90 = .ok (.iload_n 3, 1) := by decide +kernel
theorem dX12_named_91 : decode cX12_named 91 = .ok (.iaload, 1) := by decide +kernel
theorem dX12_named_92 : decode cX12_named 92 = .ok (.ireturn, 1) := by decide +kernel
theorem dX12_named_93 : decode cX12_named 93 = .ok (.iload 4, 2) := by decide +kernel
theorem dX12_named_95 : decode cX12_named 95 = .ok (.aload_n 0, 1) := by decide +kernel
theorem dX12_named_96 : decode cX12_named 96 = .ok (.getfield 28, 3) := by decide +kernel
theorem dX12_named_99 : decode cX12_named 99 = .ok (.iload_n 3, 1) := by decide +kernel
theorem dX12_named_100 : decode cX12_named 100 = .ok (.iaload, 1) := by decide +kernel
theorem dX12_named_101 : decode cX12_named 101 = .ok (.if_icmp .eq 7, 3) := by decide +kernel
theorem dX12_named_104 : decode cX12_named 104 = .ok (.iconst 1, 1) := by decide +kernel
theorem dX12_named_105 : decode cX12_named 105 = .ok (.goto 4, 3) := by decide +kernel
theorem dX12_named_108 : decode cX12_named 108 = .ok (.iconst 0, 1) := by decide +kernel
theorem dX12_named_109 : decode cX12_named 109 = .ok (.ireturn, 1) := by decide +kernel
theorem dX12_named_110 : decode cX12_named 110 = .ok (.aload_n 0, 1) := by decide +kernel
theorem dX12_named_111 : decode cX12_named 111 = .ok (.getfield 34, 3) := by decide +kernel
theorem dX12_named_114 : decode cX12_named 114 = .ok (.iload_n 3, 1) := by decide +kernel
theorem dX12_named_115 : decode cX12_named 115 = .ok (.iaload, 1) := by decide +kernel
theorem dX12_named_116 : decode cX12_named 116 = .ok (.ireturn, 1) := by decide +kernel
theorem dX12_named_117 : decode cX12_named 117 = .ok (.aload_n 0, 1) := by decide +kernel
theorem dX12_named_118 : decode cX12_named 118 = .ok (.iload_n 2, 1) := by decide +kernel
theorem dX12_named_119 : decode cX12_named 119 = .ok (.iload_n 3, 1) := by decide +kernel
theorem dX12_named_120 : decode cX12_named 120 = .ok (.invokevirtual 287, 3) := by decide +kernel
theorem dX12_named_123 : decode cX12_named 123 = .ok (.ireturn, 1) := by decide +kernel
theorem dX12_named_124 : decode cX12_named 124 = .ok (.aload_n 0, 1) := by decide +kernel
theorem dX12_named_125 : decode cX12_named 125 = .ok (.iload_n 2, 1) := by decide +kernel
theorem dX12_named_126 : decode cX12_named 126 = .ok (.iload_n 3, 1) := by decide +kernel
theorem dX12_named_127 : decode cX12_named 127 = .ok (.invokevirtual 290, 3) := by decide +kernel
theorem dX12_named_130 : decode cX12_named 130 = .ok (.ireturn, 1) := by decide +kernel
theorem dX12_need__0 : decode cX12_need_ 0 = .ok (.aload_n 0, 1) := by decide +kernel
theorem dX12_need__1 : decode cX12_need_ 1 = .ok (.invokevirtual 236, 3) := by decide +kernel
theorem dX12_need__4 : decode cX12_need_ 4 = .ok (.ifCond .eq 4, 3) := by decide +kernel
theorem dX12_need__7 : decode cX12_need_ 7 = .ok (.return_, 1) := by decide +kernel
theorem dX12_need__8 : decode cX12_need_ 8 = .ok (.aload_n 0, 1) := by decide +kernel
theorem dX12_need__9 : decode cX12_need_ 9 = .ok (.getfield 215, 3) := by decide +kernel
theorem dX12_need__12 : decode cX12_need_ 12 = .ok (.iload_n 1, 1) := by decide +kernel
theorem dX12_need__13 : decode cX12_need_ 13 = .ok (.if_icmp .eq 10, 3) := by decide +kernel
theorem dX12_need__16 : decode cX12_need_ 16 = .ok (.aload_n 0, 1) := by decide +kernel
theorem dX12_need__17 : decode cX12_need_ 17 = .ok (.invokevirtual 240, 3) := by decide +kernel
theorem dX12_need__20 : decode cX12_need_ 20 = .ok (.goto 7, 3) := by decide +kernel
theorem dX12_need__23 : decode cX12_need_ 23 = .ok (.aload_n 0, 1) := by decide +kernel
theorem dX12_need__24 : decode cX12_need_ 24 = .ok (.invokevirtual 243, 3) := by decide +kernel
theorem dX12_need__27 : decode cX12_need_ 27 = .ok (.return_, 1) := by decide +kernel
theorem dX12_opens_0 : decode cX12_opens 0 = .ok (.aload_n 0, 1) := by decide +kernel
theorem dX12_opens_1 : decode cX12_opens 1 = .ok (.getfield 246, 3) := by decide +kernel
theorem dX12_opens_4 : decode cX12_opens 4 = .ok (.bipush 6, 2) := by decide +kernel
theorem dX12_opens_6 : decode cX12_opens 6 = .ok (.if_icmp .ne 7, 3) := by decide +kernel
theorem dX12_opens_9 : decode cX12_opens 9 = .ok (.aload_n 0, 1) := by decide +kernel
theorem dX12_opens_10 : decode cX12_opens 10 = .ok (.invokevirtual 240, 3) := by decide +kernel
theorem dX12_opens_13 : decode cX12_opens 13 = .ok (.aload_n 0, 1) := by decide +kernel
theorem dX12_opens_14 : decode cX12_opens 14 = .ok (.dup, 1) := by decide +kernel
theorem dX12_opens_15 : decode cX12_opens 15 = .ok (.getfield 246, 3) := by decide +kernel
theorem dX12_opens_18 : decode cX12_opens 18 = .ok (.iconst 1, 1) := by decide +kernel
theorem dX12_opens_19 : decode cX12_opens 19 = .ok (.iadd, 1) := by decide +kernel
theorem dX12_opens_20 : decode cX12_opens 20 = .ok (.putfield 246, 3) := by decide +kernel
theorem dX12_opens_23 : decode cX12_opens 23 = .ok (.aload_n 0, 1) := by decide +kernel
theorem dX12_opens_24 : decode cX12_opens 24 = .ok (.invokevirtual 236, 3) := by decide +kernel
theorem dX12_opens_27 : decode cX12_opens 27 = .ok (.ifCond .ne 7, 3) := by decide +kernel
theorem dX12_opens_30 : decode cX12_opens 30 = .ok (.aload_n 0, 1) := by decide +kernel
theorem dX12_opens_31 : decode cX12_opens 31 = .ok (.invokevirtual 243, 3) := by decide +kernel
theorem dX12_opens_34 : decode cX12_opens 34 = .ok (.return_, 1) := by decide +kernel
theorem w_X12_force (l : Launch) (p1 : Int32) (p2 : Int32) (M : o_M) (q : Int32 → o_M → Prop) (h : K_X12_in l [iV p1, iV 0, iV ((mI M 60 25) - 1)] M (fun r2 M1 => ((r2 = 0 → q (-2) M1) ∧ (¬ r2 = 0 → K_X12_isDay l [iV p2] M1 (fun r5 M4 => ((¬ r5 = 0 → (mR M4 60 32 = some 93 ∧ (vp_in p1 (mN M4 93) ∧ (mR (sI M4 93 p1.toNatClampNeg p2) 60 33 = some 94 ∧ (vp_in p1 (mN (sI M4 93 p1.toNatClampNeg p2) 94) ∧ q 1 (sI (sI (sI M4 93 p1.toNatClampNeg p2) 94 p1.toNatClampNeg (mI (sI M4 93 p1.toNatClampNeg p2) 60 34)) 60 34 ((mI (sI (sI M4 93 p1.toNatClampNeg p2) 94 p1.toNatClampNeg (mI (sI M4 93 p1.toNatClampNeg p2) 60 34)) 60 34) + 1))))))) ∧ (r5 = 0 → q (-2) M4))))))) : K_X12_force l [rV (some 60), iV p1, iV p2] M q := by
  refine o_ctr (ini := false) (by decide +kernel) rfl (fun z => by cases z) (Nat.le_of_ble_eq_true rfl) ?_
  show E_X12_force l q 0 [(0, rV (some 60)), (1, iV p1), (2, iV p2)] [] M 0 0
  refine e_iload_n dX12_force_0 rfl rfl ?_
  refine e_iconst (v := 0) dX12_force_1 (by decide) ?_
  refine e_aload_n dX12_force_2 rfl rfl ?_
  refine e_gI flX12_145 rfl rfl dX12_force_3 ?_
  refine e_iconst (v := 1) dX12_force_6 (by decide) ?_
  refine e_isub dX12_force_7 ?_
  refine e_callS (As := [iV p1, iV 0, iV ((mI M 60 25) - 1)]) (st := []) mt_X12_in is_X12_in lkX12_155 ⟨by decide, by decide⟩ (Nat.le_of_ble_eq_true rfl) ⟨by decide, by decide⟩ rfl rfl dX12_force_8 (Ctr.mono h (fun v M1 h => ?_))
  obtain ⟨r2, rfl, h⟩ := h
  show E_X12_force l q 11 [(0, rV (some 60)), (1, iV p1), (2, iV p2)] [iV r2] M1 0 0
  refine e_if_eq (tgt := 21) dX12_force_11 (by decide) (fun c3 => ?_) (fun c3 => ?_)
  · replace h := h.1 c3
    refine e_bipush (v := (-2)) dX12_force_21 (by decide) ?_
    exact e_iret rfl trivial dX12_force_23 ⟨_, rfl, h⟩
  · replace h := h.2 c3
    refine e_iload_n dX12_force_14 rfl rfl ?_
    refine e_callS (As := [iV p2]) (st := []) mt_X12_isDay is_X12_isDay lkX12_169 ⟨by decide, by decide⟩ (Nat.le_of_ble_eq_true rfl) ⟨by decide, by decide⟩ rfl rfl dX12_force_15 (Ctr.mono h (fun v M4 h => ?_))
    obtain ⟨r5, rfl, h⟩ := h
    show E_X12_force l q 18 [(0, rV (some 60)), (1, iV p1), (2, iV p2)] [iV r5] M4 0 0
    refine e_if_ne (tgt := 24) dX12_force_18 (by decide) (fun c6 => ?_) (fun c6 => ?_)
    · replace h := h.1 c6
      refine e_aload_n dX12_force_24 rfl rfl ?_
      obtain ⟨o7, h⟩ := h
      refine e_gA flX12_92 rfl rfl o7 dX12_force_25 ?_
      refine e_iload_n dX12_force_28 rfl rfl ?_
      refine e_iload_n dX12_force_29 rfl rfl ?_
      obtain ⟨o8, h⟩ := h
      refine e_iast rfl o8 dX12_force_30 ?_
      refine e_aload_n dX12_force_31 rfl rfl ?_
      obtain ⟨o9, h⟩ := h
      refine e_gA flX12_95 rfl rfl o9 dX12_force_32 ?_
      refine e_iload_n dX12_force_35 rfl rfl ?_
      refine e_aload_n dX12_force_36 rfl rfl ?_
      refine e_gI flX12_149 rfl rfl dX12_force_37 ?_
      obtain ⟨o10, h⟩ := h
      refine e_iast rfl o10 dX12_force_40 ?_
      refine e_aload_n dX12_force_41 rfl rfl ?_
      refine e_dup rfl dX12_force_42 ?_
      refine e_gI flX12_149 rfl rfl dX12_force_43 ?_
      refine e_iconst (v := 1) dX12_force_46 (by decide) ?_
      refine e_iadd dX12_force_47 ?_
      refine e_pI flX12_149 rfl (Or.inl rfl) rfl rfl rfl dX12_force_48 ?_
      refine e_iconst (v := 1) dX12_force_51 (by decide) ?_
      exact e_iret rfl trivial dX12_force_52 ⟨_, rfl, h⟩
    · replace h := h.2 c6
      refine e_bipush (v := (-2)) dX12_force_21 (by decide) ?_
      exact e_iret rfl trivial dX12_force_23 ⟨_, rfl, h⟩
theorem w_X12_forge (l : Launch) (p1 : Int32) (p2 : Int32) (p3 : Int32) (M : o_M) (q : Int32 → o_M → Prop) (h : K_X12_in l [iV p1, iV 0, iV 5] M (fun r2 M1 => ((r2 = 0 → K_X12_refuse l [rV (some 60), iV 1] M1 (fun r5 M4 => q r5 M4)) ∧ (¬ r2 = 0 → K_X12_in l [iV p2, iV 0, iV 8] M1 (fun r7 M6 => ((r7 = 0 → K_X12_refuse l [rV (some 60), iV 1] M6 (fun r10 M9 => q r10 M9)) ∧ (¬ r7 = 0 → K_X12_in l [iV p3, iV (-100), iV 100] M6 (fun r12 M11 => ((¬ r12 = 0 → (((p2 < 0 ∨ 7 < p2) → K_X12_refuse l [rV (some 60), iV 10] M11 (fun r16 M15 => q r16 M15)) ∧ (p2 = 0 → K_X12_asService l [rV (some 60), iV p1, iV (((p3 - p3 / 6 * 6) + 6) - ((p3 - p3 / 6 * 6) + 6) / 6 * 6), iV 11] M11 (fun r18 M17 => q r18 M17)) ∧ (p2 = 1 → K_X12_asRow l [rV (some 60), iV p1, iV 2, iV p3] M11 (fun r20 M19 => q r20 M19)) ∧ (p2 = 2 → K_X12_asRow l [rV (some 60), iV p1, iV 3, iV p3] M11 (fun r22 M21 => q r22 M21)) ∧ (p2 = 3 → K_X12_asRow l [rV (some 60), iV p1, iV 4, iV p3] M11 (fun r24 M23 => q r24 M23)) ∧ (p2 = 4 → ((0 ≤ p3 → K_X12_done l [rV (some 60), iV p3] M11 (fun r27 M26 => q r27 M26)) ∧ (¬ 0 ≤ p3 → K_X12_refuse l [rV (some 60), iV 13] M11 (fun r29 M28 => q r29 M28)))) ∧ (p2 = 5 → K_X12_copied l [rV (some 60), iV p1, iV p3] M11 (fun r31 M30 => q r31 M30)) ∧ (p2 = 6 → K_X12_asService l [rV (some 60), iV p1, iV 1, iV 14] M11 (fun r33 M32 => q r33 M32)) ∧ (p2 = 7 → ((¬ p3 = 0 → (¬ p3 = 0 ∧ K_X12_done l [rV (some 60), iV (1000 / p3)] M11 (fun r37 M36 => q r37 M36))) ∧ (p3 = 0 → K_X12_refuse l [rV (some 60), iV 15] M11 (fun r39 M38 => q r39 M38)))))) ∧ (r12 = 0 → K_X12_refuse l [rV (some 60), iV 1] M11 (fun r41 M40 => q r41 M40))))))))))) : K_X12_forge l [rV (some 60), iV p1, iV p2, iV p3] M q := by
  refine o_ctr (ini := false) (by decide +kernel) rfl (fun z => by cases z) (Nat.le_of_ble_eq_true rfl) ?_
  show E_X12_forge l q 0 [(0, rV (some 60)), (1, iV p1), (2, iV p2), (3, iV p3)] [] M 0 0
  refine e_iload_n dX12_forge_0 rfl rfl ?_
  refine e_iconst (v := 0) dX12_forge_1 (by decide) ?_
  refine e_iconst (v := 5) dX12_forge_2 (by decide) ?_
  refine e_callS (As := [iV p1, iV 0, iV 5]) (st := []) mt_X12_in is_X12_in lkX12_155 ⟨by decide, by decide⟩ (Nat.le_of_ble_eq_true rfl) ⟨by decide, by decide⟩ rfl rfl dX12_forge_3 (Ctr.mono h (fun v M1 h => ?_))
  obtain ⟨r2, rfl, h⟩ := h
  show E_X12_forge l q 6 [(0, rV (some 60)), (1, iV p1), (2, iV p2), (3, iV p3)] [iV r2] M1 0 0
  refine e_if_eq (tgt := 30) dX12_forge_6 (by decide) (fun c3 => ?_) (fun c3 => ?_)
  · replace h := h.1 c3
    refine e_aload_n dX12_forge_30 rfl rfl ?_
    refine e_iconst (v := 1) dX12_forge_31 (by decide) ?_
    refine e_callV (As := [iV 1]) (st := []) mt_X12_refuse in_X12_refuse lkX12_360 rfl rfl ⟨by decide, by decide⟩ (Nat.le_of_ble_eq_true rfl) ⟨by decide, by decide⟩ rfl rfl dX12_forge_32 (Ctr.mono h (fun v M4 h => ?_))
    obtain ⟨r5, rfl, h⟩ := h
    show E_X12_forge l q 35 [(0, rV (some 60)), (1, iV p1), (2, iV p2), (3, iV p3)] [iV r5] M4 0 0
    exact e_iret rfl trivial dX12_forge_35 ⟨_, rfl, h⟩
  · replace h := h.2 c3
    refine e_iload_n dX12_forge_9 rfl rfl ?_
    refine e_iconst (v := 0) dX12_forge_10 (by decide) ?_
    refine e_bipush (v := 8) dX12_forge_11 (by decide) ?_
    refine e_callS (As := [iV p2, iV 0, iV 8]) (st := []) mt_X12_in is_X12_in lkX12_155 ⟨by decide, by decide⟩ (Nat.le_of_ble_eq_true rfl) ⟨by decide, by decide⟩ rfl rfl dX12_forge_13 (Ctr.mono h (fun v M6 h => ?_))
    obtain ⟨r7, rfl, h⟩ := h
    show E_X12_forge l q 16 [(0, rV (some 60)), (1, iV p1), (2, iV p2), (3, iV p3)] [iV r7] M6 0 0
    refine e_if_eq (tgt := 30) dX12_forge_16 (by decide) (fun c8 => ?_) (fun c8 => ?_)
    · replace h := h.1 c8
      refine e_aload_n dX12_forge_30 rfl rfl ?_
      refine e_iconst (v := 1) dX12_forge_31 (by decide) ?_
      refine e_callV (As := [iV 1]) (st := []) mt_X12_refuse in_X12_refuse lkX12_360 rfl rfl ⟨by decide, by decide⟩ (Nat.le_of_ble_eq_true rfl) ⟨by decide, by decide⟩ rfl rfl dX12_forge_32 (Ctr.mono h (fun v M9 h => ?_))
      obtain ⟨r10, rfl, h⟩ := h
      show E_X12_forge l q 35 [(0, rV (some 60)), (1, iV p1), (2, iV p2), (3, iV p3)] [iV r10] M9 0 0
      exact e_iret rfl trivial dX12_forge_35 ⟨_, rfl, h⟩
    · replace h := h.2 c8
      refine e_iload_n dX12_forge_19 rfl rfl ?_
      refine e_bipush (v := (-100)) dX12_forge_20 (by decide) ?_
      refine e_bipush (v := 100) dX12_forge_22 (by decide) ?_
      refine e_callS (As := [iV p3, iV (-100), iV 100]) (st := []) mt_X12_in is_X12_in lkX12_155 ⟨by decide, by decide⟩ (Nat.le_of_ble_eq_true rfl) ⟨by decide, by decide⟩ rfl rfl dX12_forge_24 (Ctr.mono h (fun v M11 h => ?_))
      obtain ⟨r12, rfl, h⟩ := h
      show E_X12_forge l q 27 [(0, rV (some 60)), (1, iV p1), (2, iV p2), (3, iV p3)] [iV r12] M11 0 0
      refine e_if_ne (tgt := 36) dX12_forge_27 (by decide) (fun c13 => ?_) (fun c13 => ?_)
      · replace h := h.1 c13
        refine e_iload_n dX12_forge_36 rfl rfl ?_
        rcases o_tab p2 0 7 (a := 0) (b := 7) (by decide) (by decide) with c14 | c14
        · replace h := h.1 c14
          refine e_tabOut (tgt := 184) dX12_forge_37 (o_tabo (by decide) (by decide) c14) (by decide) ?_
          refine e_aload_n dX12_forge_184 rfl rfl ?_
          refine e_bipush (v := 10) dX12_forge_185 (by decide) ?_
          refine e_callV (As := [iV 10]) (st := []) mt_X12_refuse in_X12_refuse lkX12_360 rfl rfl ⟨by decide, by decide⟩ (Nat.le_of_ble_eq_true rfl) ⟨by decide, by decide⟩ rfl rfl dX12_forge_187 (Ctr.mono h (fun v M15 h => ?_))
          obtain ⟨r16, rfl, h⟩ := h
          show E_X12_forge l q 190 [(0, rV (some 60)), (1, iV p1), (2, iV p2), (3, iV p3)] [iV r16] M15 0 0
          exact e_iret rfl trivial dX12_forge_190 ⟨_, rfl, h⟩
        · have h0 := h.2
          have e1 : p2.toInt = 0 ∨ p2.toInt = 1 ∨ p2.toInt = 2 ∨ p2.toInt = 3 ∨ p2.toInt = 4 ∨ p2.toInt = 5 ∨ p2.toInt = 6 ∨ p2.toInt = 7 := by omega
          clear h; rcases e1 with e1 | e1 | e1 | e1 | e1 | e1 | e1 | e1
          · have h := h0.1 (Int32.toInt_inj.mp e1)
            refine e_tabIn (tgt := 84) (off := 47) dX12_forge_37 (by rw [e1]; decide) (by rw [e1]; decide) (by rw [e1]; rfl) (by decide) ?_
            refine e_aload_n dX12_forge_84 rfl rfl ?_
            refine e_iload_n dX12_forge_85 rfl rfl ?_
            refine e_iload_n dX12_forge_86 rfl rfl ?_
            refine e_bipush (v := 6) dX12_forge_87 (by decide) ?_
            refine e_irem dX12_forge_89 (by decide) ?_
            refine e_bipush (v := 6) dX12_forge_90 (by decide) ?_
            refine e_iadd dX12_forge_92 ?_
            refine e_bipush (v := 6) dX12_forge_93 (by decide) ?_
            refine e_irem dX12_forge_95 (by decide) ?_
            refine e_bipush (v := 11) dX12_forge_96 (by decide) ?_
            refine e_callV (As := [iV p1, iV (((p3 - p3 / 6 * 6) + 6) - ((p3 - p3 / 6 * 6) + 6) / 6 * 6), iV 11]) (st := []) mt_X12_asService in_X12_asService lkX12_369 rfl rfl ⟨by decide, by decide⟩ (Nat.le_of_ble_eq_true rfl) ⟨by decide, by decide⟩ rfl rfl dX12_forge_98 (Ctr.mono h (fun v M17 h => ?_))
            obtain ⟨r18, rfl, h⟩ := h
            show E_X12_forge l q 101 [(0, rV (some 60)), (1, iV p1), (2, iV p2), (3, iV p3)] [iV r18] M17 0 0
            exact e_iret rfl trivial dX12_forge_101 ⟨_, rfl, h⟩
          · have h := h0.2.1 (Int32.toInt_inj.mp e1)
            refine e_tabIn (tgt := 102) (off := 65) dX12_forge_37 (by rw [e1]; decide) (by rw [e1]; decide) (by rw [e1]; rfl) (by decide) ?_
            refine e_aload_n dX12_forge_102 rfl rfl ?_
            refine e_iload_n dX12_forge_103 rfl rfl ?_
            refine e_iconst (v := 2) dX12_forge_104 (by decide) ?_
            refine e_iload_n dX12_forge_105 rfl rfl ?_
            refine e_callV (As := [iV p1, iV 2, iV p3]) (st := []) mt_X12_asRow in_X12_asRow lkX12_372 rfl rfl ⟨by decide, by decide⟩ (Nat.le_of_ble_eq_true rfl) ⟨by decide, by decide⟩ rfl rfl dX12_forge_106 (Ctr.mono h (fun v M19 h => ?_))
            obtain ⟨r20, rfl, h⟩ := h
            show E_X12_forge l q 109 [(0, rV (some 60)), (1, iV p1), (2, iV p2), (3, iV p3)] [iV r20] M19 0 0
            exact e_iret rfl trivial dX12_forge_109 ⟨_, rfl, h⟩
          · have h := h0.2.2.1 (Int32.toInt_inj.mp e1)
            refine e_tabIn (tgt := 110) (off := 73) dX12_forge_37 (by rw [e1]; decide) (by rw [e1]; decide) (by rw [e1]; rfl) (by decide) ?_
            refine e_aload_n dX12_forge_110 rfl rfl ?_
            refine e_iload_n dX12_forge_111 rfl rfl ?_
            refine e_iconst (v := 3) dX12_forge_112 (by decide) ?_
            refine e_iload_n dX12_forge_113 rfl rfl ?_
            refine e_callV (As := [iV p1, iV 3, iV p3]) (st := []) mt_X12_asRow in_X12_asRow lkX12_372 rfl rfl ⟨by decide, by decide⟩ (Nat.le_of_ble_eq_true rfl) ⟨by decide, by decide⟩ rfl rfl dX12_forge_114 (Ctr.mono h (fun v M21 h => ?_))
            obtain ⟨r22, rfl, h⟩ := h
            show E_X12_forge l q 117 [(0, rV (some 60)), (1, iV p1), (2, iV p2), (3, iV p3)] [iV r22] M21 0 0
            exact e_iret rfl trivial dX12_forge_117 ⟨_, rfl, h⟩
          · have h := h0.2.2.2.1 (Int32.toInt_inj.mp e1)
            refine e_tabIn (tgt := 118) (off := 81) dX12_forge_37 (by rw [e1]; decide) (by rw [e1]; decide) (by rw [e1]; rfl) (by decide) ?_
            refine e_aload_n dX12_forge_118 rfl rfl ?_
            refine e_iload_n dX12_forge_119 rfl rfl ?_
            refine e_iconst (v := 4) dX12_forge_120 (by decide) ?_
            refine e_iload_n dX12_forge_121 rfl rfl ?_
            refine e_callV (As := [iV p1, iV 4, iV p3]) (st := []) mt_X12_asRow in_X12_asRow lkX12_372 rfl rfl ⟨by decide, by decide⟩ (Nat.le_of_ble_eq_true rfl) ⟨by decide, by decide⟩ rfl rfl dX12_forge_122 (Ctr.mono h (fun v M23 h => ?_))
            obtain ⟨r24, rfl, h⟩ := h
            show E_X12_forge l q 125 [(0, rV (some 60)), (1, iV p1), (2, iV p2), (3, iV p3)] [iV r24] M23 0 0
            exact e_iret rfl trivial dX12_forge_125 ⟨_, rfl, h⟩
          · have h := h0.2.2.2.2.1 (Int32.toInt_inj.mp e1)
            refine e_tabIn (tgt := 126) (off := 89) dX12_forge_37 (by rw [e1]; decide) (by rw [e1]; decide) (by rw [e1]; rfl) (by decide) ?_
            refine e_iload_n dX12_forge_126 rfl rfl ?_
            refine e_if_ge (tgt := 139) dX12_forge_127 (by decide) (fun c25 => ?_) (fun c25 => ?_)
            · replace h := h.1 c25
              refine e_aload_n dX12_forge_139 rfl rfl ?_
              refine e_iload_n dX12_forge_140 rfl rfl ?_
              refine e_callV (As := [iV p3]) (st := []) mt_X12_done in_X12_done lkX12_363 rfl rfl ⟨by decide, by decide⟩ (Nat.le_of_ble_eq_true rfl) ⟨by decide, by decide⟩ rfl rfl dX12_forge_141 (Ctr.mono h (fun v M26 h => ?_))
              obtain ⟨r27, rfl, h⟩ := h
              show E_X12_forge l q 144 [(0, rV (some 60)), (1, iV p1), (2, iV p2), (3, iV p3)] [iV r27] M26 0 0
              exact e_iret rfl trivial dX12_forge_144 ⟨_, rfl, h⟩
            · replace h := h.2 c25
              refine e_aload_n dX12_forge_130 rfl rfl ?_
              refine e_bipush (v := 13) dX12_forge_131 (by decide) ?_
              refine e_callV (As := [iV 13]) (st := []) mt_X12_refuse in_X12_refuse lkX12_360 rfl rfl ⟨by decide, by decide⟩ (Nat.le_of_ble_eq_true rfl) ⟨by decide, by decide⟩ rfl rfl dX12_forge_133 (Ctr.mono h (fun v M28 h => ?_))
              obtain ⟨r29, rfl, h⟩ := h
              show E_X12_forge l q 136 [(0, rV (some 60)), (1, iV p1), (2, iV p2), (3, iV p3)] [iV r29] M28 0 0
              refine e_goto (tgt := 144) dX12_forge_136 (by decide) ?_
              exact e_iret rfl trivial dX12_forge_144 ⟨_, rfl, h⟩
          · have h := h0.2.2.2.2.2.1 (Int32.toInt_inj.mp e1)
            refine e_tabIn (tgt := 145) (off := 108) dX12_forge_37 (by rw [e1]; decide) (by rw [e1]; decide) (by rw [e1]; rfl) (by decide) ?_
            refine e_aload_n dX12_forge_145 rfl rfl ?_
            refine e_iload_n dX12_forge_146 rfl rfl ?_
            refine e_iload_n dX12_forge_147 rfl rfl ?_
            refine e_callV (As := [iV p1, iV p3]) (st := []) mt_X12_copied in_X12_copied lkX12_375 rfl rfl ⟨by decide, by decide⟩ (Nat.le_of_ble_eq_true rfl) ⟨by decide, by decide⟩ rfl rfl dX12_forge_148 (Ctr.mono h (fun v M30 h => ?_))
            obtain ⟨r31, rfl, h⟩ := h
            show E_X12_forge l q 151 [(0, rV (some 60)), (1, iV p1), (2, iV p2), (3, iV p3)] [iV r31] M30 0 0
            exact e_iret rfl trivial dX12_forge_151 ⟨_, rfl, h⟩
          · have h := h0.2.2.2.2.2.2.1 (Int32.toInt_inj.mp e1)
            refine e_tabIn (tgt := 152) (off := 115) dX12_forge_37 (by rw [e1]; decide) (by rw [e1]; decide) (by rw [e1]; rfl) (by decide) ?_
            refine e_aload_n dX12_forge_152 rfl rfl ?_
            refine e_iload_n dX12_forge_153 rfl rfl ?_
            refine e_iconst (v := 1) dX12_forge_154 (by decide) ?_
            refine e_bipush (v := 14) dX12_forge_155 (by decide) ?_
            refine e_callV (As := [iV p1, iV 1, iV 14]) (st := []) mt_X12_asService in_X12_asService lkX12_369 rfl rfl ⟨by decide, by decide⟩ (Nat.le_of_ble_eq_true rfl) ⟨by decide, by decide⟩ rfl rfl dX12_forge_157 (Ctr.mono h (fun v M32 h => ?_))
            obtain ⟨r33, rfl, h⟩ := h
            show E_X12_forge l q 160 [(0, rV (some 60)), (1, iV p1), (2, iV p2), (3, iV p3)] [iV r33] M32 0 0
            exact e_iret rfl trivial dX12_forge_160 ⟨_, rfl, h⟩
          · have h := h0.2.2.2.2.2.2.2 (Int32.toInt_inj.mp e1)
            refine e_tabIn (tgt := 161) (off := 124) dX12_forge_37 (by rw [e1]; decide) (by rw [e1]; decide) (by rw [e1]; rfl) (by decide) ?_
            refine e_iload_n dX12_forge_161 rfl rfl ?_
            refine e_if_ne (tgt := 174) dX12_forge_162 (by decide) (fun c34 => ?_) (fun c34 => ?_)
            · replace h := h.1 c34
              refine e_aload_n dX12_forge_174 rfl rfl ?_
              refine e_sipush (v := 1000) dX12_forge_175 (by decide) ?_
              refine e_iload_n dX12_forge_178 rfl rfl ?_
              obtain ⟨o35, h⟩ := h
              refine e_idiv dX12_forge_179 o35 ?_
              refine e_callV (As := [iV (1000 / p3)]) (st := []) mt_X12_done in_X12_done lkX12_363 rfl rfl ⟨by decide, by decide⟩ (Nat.le_of_ble_eq_true rfl) ⟨by decide, by decide⟩ rfl rfl dX12_forge_180 (Ctr.mono h (fun v M36 h => ?_))
              obtain ⟨r37, rfl, h⟩ := h
              show E_X12_forge l q 183 [(0, rV (some 60)), (1, iV p1), (2, iV p2), (3, iV p3)] [iV r37] M36 0 0
              exact e_iret rfl trivial dX12_forge_183 ⟨_, rfl, h⟩
            · replace h := h.2 c34
              refine e_aload_n dX12_forge_165 rfl rfl ?_
              refine e_bipush (v := 15) dX12_forge_166 (by decide) ?_
              refine e_callV (As := [iV 15]) (st := []) mt_X12_refuse in_X12_refuse lkX12_360 rfl rfl ⟨by decide, by decide⟩ (Nat.le_of_ble_eq_true rfl) ⟨by decide, by decide⟩ rfl rfl dX12_forge_168 (Ctr.mono h (fun v M38 h => ?_))
              obtain ⟨r39, rfl, h⟩ := h
              show E_X12_forge l q 171 [(0, rV (some 60)), (1, iV p1), (2, iV p2), (3, iV p3)] [iV r39] M38 0 0
              refine e_goto (tgt := 183) dX12_forge_171 (by decide) ?_
              exact e_iret rfl trivial dX12_forge_183 ⟨_, rfl, h⟩
      · replace h := h.2 c13
        refine e_aload_n dX12_forge_30 rfl rfl ?_
        refine e_iconst (v := 1) dX12_forge_31 (by decide) ?_
        refine e_callV (As := [iV 1]) (st := []) mt_X12_refuse in_X12_refuse lkX12_360 rfl rfl ⟨by decide, by decide⟩ (Nat.le_of_ble_eq_true rfl) ⟨by decide, by decide⟩ rfl rfl dX12_forge_32 (Ctr.mono h (fun v M40 h => ?_))
        obtain ⟨r41, rfl, h⟩ := h
        show E_X12_forge l q 35 [(0, rV (some 60)), (1, iV p1), (2, iV p2), (3, iV p3)] [iV r41] M40 0 0
        exact e_iret rfl trivial dX12_forge_35 ⟨_, rfl, h⟩
theorem w_X12_inForce (l : Launch) (p1 : Int32) (M : o_M) (q : Int32 → o_M → Prop) (h : K_X12_isDay l [iV p1] M (fun r2 M1 => ((r2 = 0 → q (-2) M1) ∧ (¬ r2 = 0 → K_X12_textOn l [rV (some 60), iV p1] M1 (fun r5 M4 => q r5 M4))))) : K_X12_inForce l [rV (some 60), iV p1] M q := by
  refine o_ctr (ini := false) (by decide +kernel) rfl (fun z => by cases z) (Nat.le_of_ble_eq_true rfl) ?_
  show E_X12_inForce l q 0 [(0, rV (some 60)), (1, iV p1)] [] M 0 0
  refine e_iload_n dX12_inForce_0 rfl rfl ?_
  refine e_callS (As := [iV p1]) (st := []) mt_X12_isDay is_X12_isDay lkX12_169 ⟨by decide, by decide⟩ (Nat.le_of_ble_eq_true rfl) ⟨by decide, by decide⟩ rfl rfl dX12_inForce_1 (Ctr.mono h (fun v M1 h => ?_))
  obtain ⟨r2, rfl, h⟩ := h
  show E_X12_inForce l q 4 [(0, rV (some 60)), (1, iV p1)] [iV r2] M1 0 0
  refine e_if_eq (tgt := 15) dX12_inForce_4 (by decide) (fun c3 => ?_) (fun c3 => ?_)
  · replace h := h.1 c3
    refine e_bipush (v := (-2)) dX12_inForce_15 (by decide) ?_
    exact e_iret rfl trivial dX12_inForce_17 ⟨_, rfl, h⟩
  · replace h := h.2 c3
    refine e_aload_n dX12_inForce_7 rfl rfl ?_
    refine e_iload_n dX12_inForce_8 rfl rfl ?_
    refine e_callV (As := [iV p1]) (st := []) mt_X12_textOn in_X12_textOn lkX12_306 rfl rfl ⟨by decide, by decide⟩ (Nat.le_of_ble_eq_true rfl) ⟨by decide, by decide⟩ rfl rfl dX12_inForce_9 (Ctr.mono h (fun v M4 h => ?_))
    obtain ⟨r5, rfl, h⟩ := h
    show E_X12_inForce l q 12 [(0, rV (some 60)), (1, iV p1)] [iV r5] M4 0 0
    refine e_goto (tgt := 17) dX12_inForce_12 (by decide) ?_
    exact e_iret rfl trivial dX12_inForce_17 ⟨_, rfl, h⟩
abbrev H_X12_instrumentOf_5 (l : Launch) (q : Int32 → o_M → Prop) (v1 : Int32) (v3 : Int32) (v4 : Int32) (M : o_M) : Prop := E_X12_instrumentOf l q 5 [(0, rV (some 60)), (1, iV v1), (3, iV v3), (4, iV v4)] [] M 0 0
theorem w_X12_instrumentOf (l : Launch) (p1 : Int32) (p2 : Int32) (M : o_M) (q : Int32 → o_M → Prop) (h : H_X12_instrumentOf_5 l q p1 0 p2 M) : K_X12_instrumentOf l [rV (some 60), iV p1, iV p2] M q := by
  refine o_ctr (ini := false) (by decide +kernel) rfl (fun z => by cases z) (Nat.le_of_ble_eq_true rfl) ?_
  show E_X12_instrumentOf l q 0 [(0, rV (some 60)), (1, iV p1), (2, iV p2)] [] M 0 0
  refine e_iconst (v := 0) dX12_instrumentOf_0 (by decide) ?_
  refine e_istore_n (lv' := [(3, iV 0), (0, rV (some 60)), (1, iV p1), (2, iV p2)]) dX12_instrumentOf_1 rfl (by decide) rfl ?_
  refine e_iload_n dX12_instrumentOf_2 rfl rfl ?_
  refine e_istore (lv' := [(4, iV p2), (3, iV 0), (0, rV (some 60)), (1, iV p1), (2, iV p2)]) (by decide) rfl dX12_instrumentOf_3 ?_
  exact e_lv (List.forall_mem_cons.mpr ⟨rfl, List.forall_mem_cons.mpr ⟨rfl, List.forall_mem_cons.mpr ⟨rfl, List.forall_mem_cons.mpr ⟨rfl, fun _ h => absurd h List.not_mem_nil⟩⟩⟩⟩) h
theorem w_X12_instrumentOf_5 (l : Launch) (q : Int32 → o_M → Prop) (v1 : Int32) (v3 : Int32) (v4 : Int32) (M : o_M) (h : K_X12_need l [rV (some 60), iV v1, iV v3, iV (-1)] M (fun r2 M1 => ((v4 < r2 → q v3 M1) ∧ (¬ v4 < r2 → K_X12_need l [rV (some 60), iV v1, iV v3, iV (-1)] M1 (fun r5 M4 => H_X12_instrumentOf_5 l q v1 (v3 + 1) (v4 - r5) M4))))) : H_X12_instrumentOf_5 l q v1 v3 v4 M := by
  refine e_iload rfl dX12_instrumentOf_5 ?_
  refine e_aload_n dX12_instrumentOf_7 rfl rfl ?_
  refine e_iload_n dX12_instrumentOf_8 rfl rfl ?_
  refine e_iload_n dX12_instrumentOf_9 rfl rfl ?_
  refine e_iconst (v := (-1)) dX12_instrumentOf_10 (by decide) ?_
  refine e_callV (As := [iV v1, iV v3, iV (-1)]) (st := [iV v4]) mt_X12_need in_X12_need lkX12_189 rfl rfl ⟨by decide, by decide⟩ (Nat.le_of_ble_eq_true rfl) ⟨by decide, by decide⟩ rfl rfl dX12_instrumentOf_11 (Ctr.mono h (fun v M1 h => ?_))
  obtain ⟨r2, rfl, h⟩ := h
  show E_X12_instrumentOf l q 14 [(0, rV (some 60)), (1, iV v1), (3, iV v3), (4, iV v4)] [iV r2, iV v4] M1 0 0
  refine e_ic_lt (tgt := 35) dX12_instrumentOf_14 (by decide) (fun c3 => ?_) (fun c3 => ?_)
  · replace h := h.1 c3
    refine e_iload_n dX12_instrumentOf_35 rfl rfl ?_
    exact e_iret rfl trivial dX12_instrumentOf_36 ⟨_, rfl, h⟩
  · replace h := h.2 c3
    refine e_iload rfl dX12_instrumentOf_17 ?_
    refine e_aload_n dX12_instrumentOf_19 rfl rfl ?_
    refine e_iload_n dX12_instrumentOf_20 rfl rfl ?_
    refine e_iload_n dX12_instrumentOf_21 rfl rfl ?_
    refine e_iconst (v := (-1)) dX12_instrumentOf_22 (by decide) ?_
    refine e_callV (As := [iV v1, iV v3, iV (-1)]) (st := [iV v4]) mt_X12_need in_X12_need lkX12_189 rfl rfl ⟨by decide, by decide⟩ (Nat.le_of_ble_eq_true rfl) ⟨by decide, by decide⟩ rfl rfl dX12_instrumentOf_23 (Ctr.mono h (fun v M4 h => ?_))
    obtain ⟨r5, rfl, h⟩ := h
    show E_X12_instrumentOf l q 26 [(0, rV (some 60)), (1, iV v1), (3, iV v3), (4, iV v4)] [iV r5, iV v4] M4 0 0
    refine e_isub dX12_instrumentOf_26 ?_
    refine e_istore (lv' := [(4, iV (v4 - r5)), (0, rV (some 60)), (1, iV v1), (3, iV v3)]) (by decide) rfl dX12_instrumentOf_27 ?_
    refine e_iinc (v := 1) (lv' := [(3, iV (v3 + 1)), (4, iV (v4 - r5)), (0, rV (some 60)), (1, iV v1)]) rfl (by decide) (by decide) rfl dX12_instrumentOf_29 ?_
    refine e_goto (tgt := 5) dX12_instrumentOf_32 (by decide) ?_
    exact e_lv (List.forall_mem_cons.mpr ⟨rfl, List.forall_mem_cons.mpr ⟨rfl, List.forall_mem_cons.mpr ⟨rfl, List.forall_mem_cons.mpr ⟨rfl, fun _ h => absurd h List.not_mem_nil⟩⟩⟩⟩) h
abbrev H_X12_isProgramme_9 (l : Launch) (q : Int32 → o_M → Prop) (v1 : Int32) (v2 : Int32) (v3 : Int32) (v4 : Int32) (v5 : Int32) (v6 : Int32) (v7 : Int32) (M : o_M) : Prop := E_X12_isProgramme l q 9 [(0, rV (some 60)), (1, iV v1), (2, iV v2), (3, iV v3), (4, iV v4), (5, iV v5), (6, iV v6), (7, iV v7)] [] M 0 0
abbrev H_X12_isProgramme_65 (l : Launch) (q : Int32 → o_M → Prop) (v1 : Int32) (v2 : Int32) (v3 : Int32) (v4 : Int32) (v5 : Int32) (v6 : Int32) (v7 : Int32) (v8 : Int32) (M : o_M) : Prop := E_X12_isProgramme l q 65 [(0, rV (some 60)), (1, iV v1), (2, iV v2), (3, iV v3), (4, iV v4), (5, iV v5), (6, iV v6), (7, iV v7), (8, iV v8)] [] M 0 0
theorem w_X12_isProgramme (l : Launch) (p1 : Int32) (p2 : Int32) (p3 : Int32) (p4 : Int32) (M : o_M) (q : Int32 → o_M → Prop) (h : H_X12_isProgramme_9 l q p1 p2 p3 p4 0 1 0 M) : K_X12_isProgramme l [rV (some 60), iV p1, iV p2, iV p3, iV p4] M q := by
  refine o_ctr (ini := false) (by decide +kernel) rfl (fun z => by cases z) (Nat.le_of_ble_eq_true rfl) ?_
  show E_X12_isProgramme l q 0 [(0, rV (some 60)), (1, iV p1), (2, iV p2), (3, iV p3), (4, iV p4)] [] M 0 0
  refine e_iconst (v := 0) dX12_isProgramme_0 (by decide) ?_
  refine e_istore (lv' := [(5, iV 0), (0, rV (some 60)), (1, iV p1), (2, iV p2), (3, iV p3), (4, iV p4)]) (by decide) rfl dX12_isProgramme_1 ?_
  refine e_iconst (v := 1) dX12_isProgramme_3 (by decide) ?_
  refine e_istore (lv' := [(6, iV 1), (5, iV 0), (0, rV (some 60)), (1, iV p1), (2, iV p2), (3, iV p3), (4, iV p4)]) (by decide) rfl dX12_isProgramme_4 ?_
  refine e_iconst (v := 0) dX12_isProgramme_6 (by decide) ?_
  refine e_istore (lv' := [(7, iV 0), (6, iV 1), (5, iV 0), (0, rV (some 60)), (1, iV p1), (2, iV p2), (3, iV p3), (4, iV p4)]) (by decide) rfl dX12_isProgramme_7 ?_
  exact e_lv (List.forall_mem_cons.mpr ⟨rfl, List.forall_mem_cons.mpr ⟨rfl, List.forall_mem_cons.mpr ⟨rfl, List.forall_mem_cons.mpr ⟨rfl, List.forall_mem_cons.mpr ⟨rfl, List.forall_mem_cons.mpr ⟨rfl, List.forall_mem_cons.mpr ⟨rfl, List.forall_mem_cons.mpr ⟨rfl, fun _ h => absurd h List.not_mem_nil⟩⟩⟩⟩⟩⟩⟩⟩) h
theorem w_X12_isProgramme_9 (l : Launch) (q : Int32 → o_M → Prop) (v1 : Int32) (v2 : Int32) (v3 : Int32) (v4 : Int32) (v5 : Int32) (v6 : Int32) (v7 : Int32) (M : o_M) (h : (((mI M 60 0) ≤ v7 → ((v6 = 0 → q 0 M) ∧ (¬ v6 = 0 → K_X12_in l [iV v5, iV v3, iV v4] M (fun r4 M3 => ((r4 = 0 → q 0 M3) ∧ (¬ r4 = 0 → q 1 M3)))))) ∧ (¬ (mI M 60 0) ≤ v7 → ((¬ ((v1 >>> (v7 &&& 31)) &&& 1) = 1 → H_X12_isProgramme_9 l q v1 v2 v3 v4 v5 v6 (v7 + 1) M) ∧ (((v1 >>> (v7 &&& 31)) &&& 1) = 1 → (mR M 60 1 = some 62 ∧ (vp_in v7 (mN M 62) ∧ ((v6 = 0 → H_X12_isProgramme_65 l q v1 v2 v3 v4 (v5 + (mI M 62 v7.toNatClampNeg)) 0 v7 0 M) ∧ (¬ v6 = 0 → K_X12_isPlayed l [rV (some 60), iV v7, iV v2] M (fun r11 M10 => ((r11 = 0 → H_X12_isProgramme_65 l q v1 v2 v3 v4 (v5 + (mI M 62 v7.toNatClampNeg)) 0 v7 0 M10) ∧ (¬ r11 = 0 → H_X12_isProgramme_65 l q v1 v2 v3 v4 (v5 + (mI M 62 v7.toNatClampNeg)) 1 v7 0 M10)))))))))))) : H_X12_isProgramme_9 l q v1 v2 v3 v4 v5 v6 v7 M := by
  refine e_iload rfl dX12_isProgramme_9 ?_
  refine e_aload_n dX12_isProgramme_11 rfl rfl ?_
  refine e_gI flX12_152 rfl rfl dX12_isProgramme_12 ?_
  refine e_ic_ge (tgt := 114) dX12_isProgramme_15 (by decide) (fun c1 => ?_) (fun c1 => ?_)
  · replace h := h.1 c1
    refine e_iload rfl dX12_isProgramme_114 ?_
    refine e_if_eq (tgt := 134) dX12_isProgramme_116 (by decide) (fun c2 => ?_) (fun c2 => ?_)
    · replace h := h.1 c2
      refine e_iconst (v := 0) dX12_isProgramme_134 (by decide) ?_
      exact e_iret rfl rb_0 dX12_isProgramme_135 ⟨_, rfl, h⟩
    · replace h := h.2 c2
      refine e_iload rfl dX12_isProgramme_119 ?_
      refine e_iload_n dX12_isProgramme_121 rfl rfl ?_
      refine e_iload rfl dX12_isProgramme_122 ?_
      refine e_callS (As := [iV v5, iV v3, iV v4]) (st := []) mt_X12_in is_X12_in lkX12_155 ⟨by decide, by decide⟩ (Nat.le_of_ble_eq_true rfl) ⟨by decide, by decide⟩ rfl rfl dX12_isProgramme_124 (Ctr.mono h (fun v M3 h => ?_))
      obtain ⟨r4, rfl, h⟩ := h
      show E_X12_isProgramme l q 127 [(0, rV (some 60)), (1, iV v1), (2, iV v2), (3, iV v3), (4, iV v4), (5, iV v5), (6, iV v6), (7, iV v7)] [iV r4] M3 0 0
      refine e_if_eq (tgt := 134) dX12_isProgramme_127 (by decide) (fun c5 => ?_) (fun c5 => ?_)
      · replace h := h.1 c5
        refine e_iconst (v := 0) dX12_isProgramme_134 (by decide) ?_
        exact e_iret rfl rb_0 dX12_isProgramme_135 ⟨_, rfl, h⟩
      · replace h := h.2 c5
        refine e_iconst (v := 1) dX12_isProgramme_130 (by decide) ?_
        refine e_goto (tgt := 135) dX12_isProgramme_131 (by decide) ?_
        exact e_iret rfl rb_1 dX12_isProgramme_135 ⟨_, rfl, h⟩
  · replace h := h.2 c1
    refine e_iload_n dX12_isProgramme_18 rfl rfl ?_
    refine e_iload rfl dX12_isProgramme_19 ?_
    refine e_ishr dX12_isProgramme_21 ?_
    refine e_iconst (v := 1) dX12_isProgramme_22 (by decide) ?_
    refine e_iand dX12_isProgramme_23 ?_
    refine e_iconst (v := 1) dX12_isProgramme_24 (by decide) ?_
    refine e_ic_ne (tgt := 108) dX12_isProgramme_25 (by decide) (fun c6 => ?_) (fun c6 => ?_)
    · replace h := h.1 c6
      refine e_iinc (v := 1) (lv' := [(7, iV (v7 + 1)), (0, rV (some 60)), (1, iV v1), (2, iV v2), (3, iV v3), (4, iV v4), (5, iV v5), (6, iV v6)]) rfl (by decide) (by decide) rfl dX12_isProgramme_108 ?_
      refine e_goto (tgt := 9) dX12_isProgramme_111 (by decide) ?_
      exact e_lv (List.forall_mem_cons.mpr ⟨rfl, List.forall_mem_cons.mpr ⟨rfl, List.forall_mem_cons.mpr ⟨rfl, List.forall_mem_cons.mpr ⟨rfl, List.forall_mem_cons.mpr ⟨rfl, List.forall_mem_cons.mpr ⟨rfl, List.forall_mem_cons.mpr ⟨rfl, List.forall_mem_cons.mpr ⟨rfl, fun _ h => absurd h List.not_mem_nil⟩⟩⟩⟩⟩⟩⟩⟩) h
    · replace h := h.2 c6
      refine e_iload rfl dX12_isProgramme_28 ?_
      refine e_aload_n dX12_isProgramme_30 rfl rfl ?_
      obtain ⟨o7, h⟩ := h
      refine e_gA flX12_7 rfl rfl o7 dX12_isProgramme_31 ?_
      refine e_iload rfl dX12_isProgramme_34 ?_
      obtain ⟨o8, h⟩ := h
      refine e_iald rfl o8 dX12_isProgramme_36 ?_
      refine e_iadd dX12_isProgramme_37 ?_
      refine e_istore (lv' := [(5, iV (v5 + (mI M 62 v7.toNatClampNeg))), (0, rV (some 60)), (1, iV v1), (2, iV v2), (3, iV v3), (4, iV v4), (6, iV v6), (7, iV v7)]) (by decide) rfl dX12_isProgramme_38 ?_
      refine e_iload rfl dX12_isProgramme_40 ?_
      refine e_if_eq (tgt := 59) dX12_isProgramme_42 (by decide) (fun c9 => ?_) (fun c9 => ?_)
      · replace h := h.1 c9
        refine e_iconst (v := 0) dX12_isProgramme_59 (by decide) ?_
        refine e_istore (lv' := [(6, iV 0), (5, iV (v5 + (mI M 62 v7.toNatClampNeg))), (0, rV (some 60)), (1, iV v1), (2, iV v2), (3, iV v3), (4, iV v4), (7, iV v7)]) (by decide) rfl dX12_isProgramme_60 ?_
        refine e_iconst (v := 0) dX12_isProgramme_62 (by decide) ?_
        refine e_istore (lv' := [(8, iV 0), (6, iV 0), (5, iV (v5 + (mI M 62 v7.toNatClampNeg))), (0, rV (some 60)), (1, iV v1), (2, iV v2), (3, iV v3), (4, iV v4), (7, iV v7)]) (by decide) rfl dX12_isProgramme_63 ?_
        exact e_lv (List.forall_mem_cons.mpr ⟨rfl, List.forall_mem_cons.mpr ⟨rfl, List.forall_mem_cons.mpr ⟨rfl, List.forall_mem_cons.mpr ⟨rfl, List.forall_mem_cons.mpr ⟨rfl, List.forall_mem_cons.mpr ⟨rfl, List.forall_mem_cons.mpr ⟨rfl, List.forall_mem_cons.mpr ⟨rfl, List.forall_mem_cons.mpr ⟨rfl, fun _ h => absurd h List.not_mem_nil⟩⟩⟩⟩⟩⟩⟩⟩⟩) h
      · replace h := h.2 c9
        refine e_aload_n dX12_isProgramme_45 rfl rfl ?_
        refine e_iload rfl dX12_isProgramme_46 ?_
        refine e_iload_n dX12_isProgramme_48 rfl rfl ?_
        refine e_callV (As := [iV v7, iV v2]) (st := []) mt_X12_isPlayed in_X12_isPlayed lkX12_172 rfl rfl ⟨by decide, by decide⟩ (Nat.le_of_ble_eq_true rfl) ⟨by decide, by decide⟩ rfl rfl dX12_isProgramme_49 (Ctr.mono h (fun v M10 h => ?_))
        obtain ⟨r11, rfl, h⟩ := h
        show E_X12_isProgramme l q 52 [(5, iV (v5 + (mI M 62 v7.toNatClampNeg))), (0, rV (some 60)), (1, iV v1), (2, iV v2), (3, iV v3), (4, iV v4), (6, iV v6), (7, iV v7)] [iV r11] M10 0 0
        refine e_if_eq (tgt := 59) dX12_isProgramme_52 (by decide) (fun c12 => ?_) (fun c12 => ?_)
        · replace h := h.1 c12
          refine e_iconst (v := 0) dX12_isProgramme_59 (by decide) ?_
          refine e_istore (lv' := [(6, iV 0), (5, iV (v5 + (mI M 62 v7.toNatClampNeg))), (0, rV (some 60)), (1, iV v1), (2, iV v2), (3, iV v3), (4, iV v4), (7, iV v7)]) (by decide) rfl dX12_isProgramme_60 ?_
          refine e_iconst (v := 0) dX12_isProgramme_62 (by decide) ?_
          refine e_istore (lv' := [(8, iV 0), (6, iV 0), (5, iV (v5 + (mI M 62 v7.toNatClampNeg))), (0, rV (some 60)), (1, iV v1), (2, iV v2), (3, iV v3), (4, iV v4), (7, iV v7)]) (by decide) rfl dX12_isProgramme_63 ?_
          exact e_lv (List.forall_mem_cons.mpr ⟨rfl, List.forall_mem_cons.mpr ⟨rfl, List.forall_mem_cons.mpr ⟨rfl, List.forall_mem_cons.mpr ⟨rfl, List.forall_mem_cons.mpr ⟨rfl, List.forall_mem_cons.mpr ⟨rfl, List.forall_mem_cons.mpr ⟨rfl, List.forall_mem_cons.mpr ⟨rfl, List.forall_mem_cons.mpr ⟨rfl, fun _ h => absurd h List.not_mem_nil⟩⟩⟩⟩⟩⟩⟩⟩⟩) h
        · replace h := h.2 c12
          refine e_iconst (v := 1) dX12_isProgramme_55 (by decide) ?_
          refine e_goto (tgt := 60) dX12_isProgramme_56 (by decide) ?_
          refine e_istore (lv' := [(6, iV 1), (5, iV (v5 + (mI M 62 v7.toNatClampNeg))), (0, rV (some 60)), (1, iV v1), (2, iV v2), (3, iV v3), (4, iV v4), (7, iV v7)]) (by decide) rfl dX12_isProgramme_60 ?_
          refine e_iconst (v := 0) dX12_isProgramme_62 (by decide) ?_
          refine e_istore (lv' := [(8, iV 0), (6, iV 1), (5, iV (v5 + (mI M 62 v7.toNatClampNeg))), (0, rV (some 60)), (1, iV v1), (2, iV v2), (3, iV v3), (4, iV v4), (7, iV v7)]) (by decide) rfl dX12_isProgramme_63 ?_
          exact e_lv (List.forall_mem_cons.mpr ⟨rfl, List.forall_mem_cons.mpr ⟨rfl, List.forall_mem_cons.mpr ⟨rfl, List.forall_mem_cons.mpr ⟨rfl, List.forall_mem_cons.mpr ⟨rfl, List.forall_mem_cons.mpr ⟨rfl, List.forall_mem_cons.mpr ⟨rfl, List.forall_mem_cons.mpr ⟨rfl, List.forall_mem_cons.mpr ⟨rfl, fun _ h => absurd h List.not_mem_nil⟩⟩⟩⟩⟩⟩⟩⟩⟩) h
theorem w_X12_isProgramme_65 (l : Launch) (q : Int32 → o_M → Prop) (v1 : Int32) (v2 : Int32) (v3 : Int32) (v4 : Int32) (v5 : Int32) (v6 : Int32) (v7 : Int32) (v8 : Int32) (M : o_M) (h : ((6 ≤ v8 → H_X12_isProgramme_9 l q v1 v2 v3 v4 v5 v6 (v7 + 1) M) ∧ (¬ 6 ≤ v8 → ((v6 = 0 → H_X12_isProgramme_65 l q v1 v2 v3 v4 v5 0 v7 (v8 + 1) M) ∧ (¬ v6 = 0 → K_X12_needOf l [rV (some 60), iV v7, iV v8] M (fun r16 M15 => (mR M15 60 57 = some 118 ∧ (vp_in v8 (mN M15 118) ∧ (((mI M15 118 v8.toNatClampNeg) < r16 → H_X12_isProgramme_65 l q v1 v2 v3 v4 v5 0 v7 (v8 + 1) M15) ∧ (¬ (mI M15 118 v8.toNatClampNeg) < r16 → H_X12_isProgramme_65 l q v1 v2 v3 v4 v5 1 v7 (v8 + 1) M15)))))))))) : H_X12_isProgramme_65 l q v1 v2 v3 v4 v5 v6 v7 v8 M := by
  refine e_iload rfl dX12_isProgramme_65 ?_
  refine e_bipush (v := 6) dX12_isProgramme_67 (by decide) ?_
  refine e_ic_ge (tgt := 108) dX12_isProgramme_69 (by decide) (fun c13 => ?_) (fun c13 => ?_)
  · replace h := h.1 c13
    refine e_iinc (v := 1) (lv' := [(7, iV (v7 + 1)), (0, rV (some 60)), (1, iV v1), (2, iV v2), (3, iV v3), (4, iV v4), (5, iV v5), (6, iV v6), (8, iV v8)]) rfl (by decide) (by decide) rfl dX12_isProgramme_108 ?_
    refine e_goto (tgt := 9) dX12_isProgramme_111 (by decide) ?_
    exact e_lv (List.forall_mem_cons.mpr ⟨rfl, List.forall_mem_cons.mpr ⟨rfl, List.forall_mem_cons.mpr ⟨rfl, List.forall_mem_cons.mpr ⟨rfl, List.forall_mem_cons.mpr ⟨rfl, List.forall_mem_cons.mpr ⟨rfl, List.forall_mem_cons.mpr ⟨rfl, List.forall_mem_cons.mpr ⟨rfl, fun _ h => absurd h List.not_mem_nil⟩⟩⟩⟩⟩⟩⟩⟩) h
  · replace h := h.2 c13
    refine e_iload rfl dX12_isProgramme_72 ?_
    refine e_if_eq (tgt := 99) dX12_isProgramme_74 (by decide) (fun c14 => ?_) (fun c14 => ?_)
    · replace h := h.1 c14
      refine e_iconst (v := 0) dX12_isProgramme_99 (by decide) ?_
      refine e_istore (lv' := [(6, iV 0), (0, rV (some 60)), (1, iV v1), (2, iV v2), (3, iV v3), (4, iV v4), (5, iV v5), (7, iV v7), (8, iV v8)]) (by decide) rfl dX12_isProgramme_100 ?_
      refine e_iinc (v := 1) (lv' := [(8, iV (v8 + 1)), (6, iV 0), (0, rV (some 60)), (1, iV v1), (2, iV v2), (3, iV v3), (4, iV v4), (5, iV v5), (7, iV v7)]) rfl (by decide) (by decide) rfl dX12_isProgramme_102 ?_
      refine e_goto (tgt := 65) dX12_isProgramme_105 (by decide) ?_
      exact e_lv (List.forall_mem_cons.mpr ⟨rfl, List.forall_mem_cons.mpr ⟨rfl, List.forall_mem_cons.mpr ⟨rfl, List.forall_mem_cons.mpr ⟨rfl, List.forall_mem_cons.mpr ⟨rfl, List.forall_mem_cons.mpr ⟨rfl, List.forall_mem_cons.mpr ⟨rfl, List.forall_mem_cons.mpr ⟨rfl, List.forall_mem_cons.mpr ⟨rfl, fun _ h => absurd h List.not_mem_nil⟩⟩⟩⟩⟩⟩⟩⟩⟩) h
    · replace h := h.2 c14
      refine e_aload_n dX12_isProgramme_77 rfl rfl ?_
      refine e_iload rfl dX12_isProgramme_78 ?_
      refine e_iload rfl dX12_isProgramme_80 ?_
      refine e_callV (As := [iV v7, iV v8]) (st := []) mt_X12_needOf in_X12_needOf lkX12_186 rfl rfl ⟨by decide, by decide⟩ (Nat.le_of_ble_eq_true rfl) ⟨by decide, by decide⟩ rfl rfl dX12_isProgramme_82 (Ctr.mono h (fun v M15 h => ?_))
      obtain ⟨r16, rfl, h⟩ := h
      show E_X12_isProgramme l q 85 [(0, rV (some 60)), (1, iV v1), (2, iV v2), (3, iV v3), (4, iV v4), (5, iV v5), (6, iV v6), (7, iV v7), (8, iV v8)] [iV r16] M15 0 0
      refine e_aload_n dX12_isProgramme_85 rfl rfl ?_
      obtain ⟨o17, h⟩ := h
      refine e_gA flX12_138 rfl rfl o17 dX12_isProgramme_86 ?_
      refine e_iload rfl dX12_isProgramme_89 ?_
      obtain ⟨o18, h⟩ := h
      refine e_iald rfl o18 dX12_isProgramme_91 ?_
      refine e_ic_gt (tgt := 99) dX12_isProgramme_92 (by decide) (fun c19 => ?_) (fun c19 => ?_)
      · replace h := h.1 c19
        refine e_iconst (v := 0) dX12_isProgramme_99 (by decide) ?_
        refine e_istore (lv' := [(6, iV 0), (0, rV (some 60)), (1, iV v1), (2, iV v2), (3, iV v3), (4, iV v4), (5, iV v5), (7, iV v7), (8, iV v8)]) (by decide) rfl dX12_isProgramme_100 ?_
        refine e_iinc (v := 1) (lv' := [(8, iV (v8 + 1)), (6, iV 0), (0, rV (some 60)), (1, iV v1), (2, iV v2), (3, iV v3), (4, iV v4), (5, iV v5), (7, iV v7)]) rfl (by decide) (by decide) rfl dX12_isProgramme_102 ?_
        refine e_goto (tgt := 65) dX12_isProgramme_105 (by decide) ?_
        exact e_lv (List.forall_mem_cons.mpr ⟨rfl, List.forall_mem_cons.mpr ⟨rfl, List.forall_mem_cons.mpr ⟨rfl, List.forall_mem_cons.mpr ⟨rfl, List.forall_mem_cons.mpr ⟨rfl, List.forall_mem_cons.mpr ⟨rfl, List.forall_mem_cons.mpr ⟨rfl, List.forall_mem_cons.mpr ⟨rfl, List.forall_mem_cons.mpr ⟨rfl, fun _ h => absurd h List.not_mem_nil⟩⟩⟩⟩⟩⟩⟩⟩⟩) h
      · replace h := h.2 c19
        refine e_iconst (v := 1) dX12_isProgramme_95 (by decide) ?_
        refine e_goto (tgt := 100) dX12_isProgramme_96 (by decide) ?_
        refine e_istore (lv' := [(6, iV 1), (0, rV (some 60)), (1, iV v1), (2, iV v2), (3, iV v3), (4, iV v4), (5, iV v5), (7, iV v7), (8, iV v8)]) (by decide) rfl dX12_isProgramme_100 ?_
        refine e_iinc (v := 1) (lv' := [(8, iV (v8 + 1)), (6, iV 1), (0, rV (some 60)), (1, iV v1), (2, iV v2), (3, iV v3), (4, iV v4), (5, iV v5), (7, iV v7)]) rfl (by decide) (by decide) rfl dX12_isProgramme_102 ?_
        refine e_goto (tgt := 65) dX12_isProgramme_105 (by decide) ?_
        exact e_lv (List.forall_mem_cons.mpr ⟨rfl, List.forall_mem_cons.mpr ⟨rfl, List.forall_mem_cons.mpr ⟨rfl, List.forall_mem_cons.mpr ⟨rfl, List.forall_mem_cons.mpr ⟨rfl, List.forall_mem_cons.mpr ⟨rfl, List.forall_mem_cons.mpr ⟨rfl, List.forall_mem_cons.mpr ⟨rfl, List.forall_mem_cons.mpr ⟨rfl, fun _ h => absurd h List.not_mem_nil⟩⟩⟩⟩⟩⟩⟩⟩⟩) h
theorem w_X12_leave (l : Launch) (p1 : Int32) (p2 : Int32) (p3 : Int32) (M : o_M) (q : Int32 → o_M → Prop) (h : K_X12_isPlayer l [rV (some 60), iV p1] M (fun r2 M1 => ((r2 = 0 → q (-2) M1) ∧ (¬ r2 = 0 → K_X12_isDay l [iV p2] M1 (fun r5 M4 => ((r5 = 0 → q (-2) M4) ∧ (¬ r5 = 0 → K_X12_isDay l [iV p3] M4 (fun r8 M7 => ((r8 = 0 → q (-2) M7) ∧ (¬ r8 = 0 → ((p2 ≤ p3 → (mR M7 60 11 = some 72 ∧ (vp_in p1 (mN M7 72) ∧ ((¬ (mI M7 72 p1.toNatClampNeg) = 6 → (mR M7 60 12 = some 73 ∧ (mR M7 60 11 = some 72 ∧ (vp_in p1 (mN M7 72) ∧ (vp_in ((6 * p1) + (mI M7 72 p1.toNatClampNeg)) (mN M7 73) ∧ (mR (sI M7 73 (((6 * p1) + (mI M7 72 p1.toNatClampNeg)).toNatClampNeg) p2) 60 13 = some 74 ∧ (mR (sI M7 73 (((6 * p1) + (mI M7 72 p1.toNatClampNeg)).toNatClampNeg) p2) 60 11 = some 72 ∧ (vp_in p1 (mN (sI M7 73 (((6 * p1) + (mI M7 72 p1.toNatClampNeg)).toNatClampNeg) p2) 72) ∧ (vp_in ((6 * p1) + (mI (sI M7 73 (((6 * p1) + (mI M7 72 p1.toNatClampNeg)).toNatClampNeg) p2) 72 p1.toNatClampNeg)) (mN (sI M7 73 (((6 * p1) + (mI M7 72 p1.toNatClampNeg)).toNatClampNeg) p2) 74) ∧ (mR (sI (sI M7 73 (((6 * p1) + (mI M7 72 p1.toNatClampNeg)).toNatClampNeg) p2) 74 (((6 * p1) + (mI (sI M7 73 (((6 * p1) + (mI M7 72 p1.toNatClampNeg)).toNatClampNeg) p2) 72 p1.toNatClampNeg)).toNatClampNeg) p3) 60 11 = some 72 ∧ (vp_in p1 (mN (sI (sI M7 73 (((6 * p1) + (mI M7 72 p1.toNatClampNeg)).toNatClampNeg) p2) 74 (((6 * p1) + (mI (sI M7 73 (((6 * p1) + (mI M7 72 p1.toNatClampNeg)).toNatClampNeg) p2) 72 p1.toNatClampNeg)).toNatClampNeg) p3) 72) ∧ (vp_in p1 (mN (sI (sI M7 73 (((6 * p1) + (mI M7 72 p1.toNatClampNeg)).toNatClampNeg) p2) 74 (((6 * p1) + (mI (sI M7 73 (((6 * p1) + (mI M7 72 p1.toNatClampNeg)).toNatClampNeg) p2) 72 p1.toNatClampNeg)).toNatClampNeg) p3) 72) ∧ (∀ M25, M25 = sI (sI (sI M7 73 (((6 * p1) + (mI M7 72 p1.toNatClampNeg)).toNatClampNeg) p2) 74 (((6 * p1) + (mI (sI M7 73 (((6 * p1) + (mI M7 72 p1.toNatClampNeg)).toNatClampNeg) p2) 72 p1.toNatClampNeg)).toNatClampNeg) p3) 72 p1.toNatClampNeg ((mI (sI (sI M7 73 (((6 * p1) + (mI M7 72 p1.toNatClampNeg)).toNatClampNeg) p2) 74 (((6 * p1) + (mI (sI M7 73 (((6 * p1) + (mI M7 72 p1.toNatClampNeg)).toNatClampNeg) p2) 72 p1.toNatClampNeg)).toNatClampNeg) p3) 72 p1.toNatClampNeg) + 1) → (mR M25 60 11 = some 72 ∧ (vp_in p1 (mN M25 72) ∧ q (mI M25 72 p1.toNatClampNeg) M25))))))))))))))) ∧ ((mI M7 72 p1.toNatClampNeg) = 6 → q (-4) M7))))) ∧ (¬ p2 ≤ p3 → q (-2) M7)))))))))))) : K_X12_leave l [rV (some 60), iV p1, iV p2, iV p3] M q := by
  refine o_ctr (ini := false) (by decide +kernel) rfl (fun z => by cases z) (Nat.le_of_ble_eq_true rfl) ?_
  show E_X12_leave l q 0 [(0, rV (some 60)), (1, iV p1), (2, iV p2), (3, iV p3)] [] M 0 0
  refine e_aload_n dX12_leave_0 rfl rfl ?_
  refine e_iload_n dX12_leave_1 rfl rfl ?_
  refine e_callV (As := [iV p1]) (st := []) mt_X12_isPlayer in_X12_isPlayer lkX12_179 rfl rfl ⟨by decide, by decide⟩ (Nat.le_of_ble_eq_true rfl) ⟨by decide, by decide⟩ rfl rfl dX12_leave_2 (Ctr.mono h (fun v M1 h => ?_))
  obtain ⟨r2, rfl, h⟩ := h
  show E_X12_leave l q 5 [(0, rV (some 60)), (1, iV p1), (2, iV p2), (3, iV p3)] [iV r2] M1 0 0
  refine e_if_eq (tgt := 27) dX12_leave_5 (by decide) (fun c3 => ?_) (fun c3 => ?_)
  · replace h := h.1 c3
    refine e_bipush (v := (-2)) dX12_leave_27 (by decide) ?_
    exact e_iret rfl trivial dX12_leave_29 ⟨_, rfl, h⟩
  · replace h := h.2 c3
    refine e_iload_n dX12_leave_8 rfl rfl ?_
    refine e_callS (As := [iV p2]) (st := []) mt_X12_isDay is_X12_isDay lkX12_169 ⟨by decide, by decide⟩ (Nat.le_of_ble_eq_true rfl) ⟨by decide, by decide⟩ rfl rfl dX12_leave_9 (Ctr.mono h (fun v M4 h => ?_))
    obtain ⟨r5, rfl, h⟩ := h
    show E_X12_leave l q 12 [(0, rV (some 60)), (1, iV p1), (2, iV p2), (3, iV p3)] [iV r5] M4 0 0
    refine e_if_eq (tgt := 27) dX12_leave_12 (by decide) (fun c6 => ?_) (fun c6 => ?_)
    · replace h := h.1 c6
      refine e_bipush (v := (-2)) dX12_leave_27 (by decide) ?_
      exact e_iret rfl trivial dX12_leave_29 ⟨_, rfl, h⟩
    · replace h := h.2 c6
      refine e_iload_n dX12_leave_15 rfl rfl ?_
      refine e_callS (As := [iV p3]) (st := []) mt_X12_isDay is_X12_isDay lkX12_169 ⟨by decide, by decide⟩ (Nat.le_of_ble_eq_true rfl) ⟨by decide, by decide⟩ rfl rfl dX12_leave_16 (Ctr.mono h (fun v M7 h => ?_))
      obtain ⟨r8, rfl, h⟩ := h
      show E_X12_leave l q 19 [(0, rV (some 60)), (1, iV p1), (2, iV p2), (3, iV p3)] [iV r8] M7 0 0
      refine e_if_eq (tgt := 27) dX12_leave_19 (by decide) (fun c9 => ?_) (fun c9 => ?_)
      · replace h := h.1 c9
        refine e_bipush (v := (-2)) dX12_leave_27 (by decide) ?_
        exact e_iret rfl trivial dX12_leave_29 ⟨_, rfl, h⟩
      · replace h := h.2 c9
        refine e_iload_n dX12_leave_22 rfl rfl ?_
        refine e_iload_n dX12_leave_23 rfl rfl ?_
        refine e_ic_le (tgt := 30) dX12_leave_24 (by decide) (fun c10 => ?_) (fun c10 => ?_)
        · replace h := h.1 c10
          refine e_aload_n dX12_leave_30 rfl rfl ?_
          obtain ⟨o11, h⟩ := h
          refine e_gA flX12_37 rfl rfl o11 dX12_leave_31 ?_
          refine e_iload_n dX12_leave_34 rfl rfl ?_
          obtain ⟨o12, h⟩ := h
          refine e_iald rfl o12 dX12_leave_35 ?_
          refine e_bipush (v := 6) dX12_leave_36 (by decide) ?_
          refine e_ic_ne (tgt := 44) dX12_leave_38 (by decide) (fun c13 => ?_) (fun c13 => ?_)
          · replace h := h.1 c13
            refine e_aload_n dX12_leave_44 rfl rfl ?_
            obtain ⟨o14, h⟩ := h
            refine e_gA flX12_40 rfl rfl o14 dX12_leave_45 ?_
            refine e_bipush (v := 6) dX12_leave_48 (by decide) ?_
            refine e_iload_n dX12_leave_50 rfl rfl ?_
            refine e_imul dX12_leave_51 ?_
            refine e_aload_n dX12_leave_52 rfl rfl ?_
            obtain ⟨o15, h⟩ := h
            refine e_gA flX12_37 rfl rfl o15 dX12_leave_53 ?_
            refine e_iload_n dX12_leave_56 rfl rfl ?_
            obtain ⟨o16, h⟩ := h
            refine e_iald rfl o16 dX12_leave_57 ?_
            refine e_iadd dX12_leave_58 ?_
            refine e_iload_n dX12_leave_59 rfl rfl ?_
            obtain ⟨o17, h⟩ := h
            refine e_iast rfl o17 dX12_leave_60 ?_
            refine e_aload_n dX12_leave_61 rfl rfl ?_
            obtain ⟨o18, h⟩ := h
            refine e_gA flX12_43 rfl rfl o18 dX12_leave_62 ?_
            refine e_bipush (v := 6) dX12_leave_65 (by decide) ?_
            refine e_iload_n dX12_leave_67 rfl rfl ?_
            refine e_imul dX12_leave_68 ?_
            refine e_aload_n dX12_leave_69 rfl rfl ?_
            obtain ⟨o19, h⟩ := h
            refine e_gA flX12_37 rfl rfl o19 dX12_leave_70 ?_
            refine e_iload_n dX12_leave_73 rfl rfl ?_
            obtain ⟨o20, h⟩ := h
            refine e_iald rfl o20 dX12_leave_74 ?_
            refine e_iadd dX12_leave_75 ?_
            refine e_iload_n dX12_leave_76 rfl rfl ?_
            obtain ⟨o21, h⟩ := h
            refine e_iast rfl o21 dX12_leave_77 ?_
            refine e_aload_n dX12_leave_78 rfl rfl ?_
            obtain ⟨o22, h⟩ := h
            refine e_gA flX12_37 rfl rfl o22 dX12_leave_79 ?_
            refine e_iload_n dX12_leave_82 rfl rfl ?_
            refine e_dup2 rfl rfl dX12_leave_83 ?_
            obtain ⟨o23, h⟩ := h
            refine e_iald rfl o23 dX12_leave_84 ?_
            refine e_iconst (v := 1) dX12_leave_85 (by decide) ?_
            refine e_iadd dX12_leave_86 ?_
            obtain ⟨o24, h⟩ := h
            refine e_iast rfl o24 dX12_leave_87 ?_
            generalize hgM25 : sI (sI (sI M7 73 (((6 * p1) + (mI M7 72 p1.toNatClampNeg)).toNatClampNeg) p2) 74 (((6 * p1) + (mI (sI M7 73 (((6 * p1) + (mI M7 72 p1.toNatClampNeg)).toNatClampNeg) p2) 72 p1.toNatClampNeg)).toNatClampNeg) p3) 72 p1.toNatClampNeg ((mI (sI (sI M7 73 (((6 * p1) + (mI M7 72 p1.toNatClampNeg)).toNatClampNeg) p2) 74 (((6 * p1) + (mI (sI M7 73 (((6 * p1) + (mI M7 72 p1.toNatClampNeg)).toNatClampNeg) p2) 72 p1.toNatClampNeg)).toNatClampNeg) p3) 72 p1.toNatClampNeg) + 1) = M25
            replace h := h M25 hgM25.symm
            refine e_aload_n dX12_leave_88 rfl rfl ?_
            obtain ⟨o26, h⟩ := h
            refine e_gA flX12_37 rfl rfl o26 dX12_leave_89 ?_
            refine e_iload_n dX12_leave_92 rfl rfl ?_
            obtain ⟨o27, h⟩ := h
            refine e_iald rfl o27 dX12_leave_93 ?_
            exact e_iret rfl trivial dX12_leave_94 ⟨_, rfl, h⟩
          · replace h := h.2 c13
            refine e_bipush (v := (-4)) dX12_leave_41 (by decide) ?_
            exact e_iret rfl trivial dX12_leave_43 ⟨_, rfl, h⟩
        · replace h := h.2 c10
          refine e_bipush (v := (-2)) dX12_leave_27 (by decide) ?_
          exact e_iret rfl trivial dX12_leave_29 ⟨_, rfl, h⟩
abbrev H_X12_next_0 (l : Launch) (q : o_M → Prop) (M : o_M) : Prop := E_X12_next l q 0 [(0, rV (some 60))] [] M 0 0
theorem w_X12_next (l : Launch) (M : o_M) (q : o_M → Prop) (h : K_X12_byteAt l [rV (some 60), iV (mI M 60 43)] M (fun r2 M1 => ((r2 = 32 → H_X12_next_0 l q (sI M1 60 43 ((mI M1 60 43) + 1))) ∧ (¬ r2 = 32 → K_X12_byteAt l [rV (some 60), iV (mI M1 60 43)] M1 (fun r5 M4 => ((¬ r5 = 10 → K_X12_byteAt l [rV (some 60), iV (mI (sI M4 60 44 (mI M4 60 43)) 60 43)] (sI M4 60 44 (mI M4 60 43)) (fun r8 M7 => ((¬ r8 = (-1) → K_X12_isLetter l [iV r8] M7 (fun r11 M10 => ((r11 = 0 → K_X12_isDigit l [iV r8] M10 (fun r14 M13 => ((r14 = 0 → ((r8 = 40 → q (sI (sI M13 60 45 r8) 60 43 ((mI (sI M13 60 45 r8) 60 43) + 1))) ∧ (¬ r8 = 40 → ((r8 = 41 → q (sI (sI M13 60 45 r8) 60 43 ((mI (sI M13 60 45 r8) 60 43) + 1))) ∧ (¬ r8 = 41 → ((r8 = 59 → q (sI (sI M13 60 45 r8) 60 43 ((mI (sI M13 60 45 r8) 60 43) + 1))) ∧ (¬ r8 = 59 → ((r8 = 43 → q (sI (sI M13 60 45 r8) 60 43 ((mI (sI M13 60 45 r8) 60 43) + 1))) ∧ (¬ r8 = 43 → ((r8 = 45 → q (sI (sI M13 60 45 r8) 60 43 ((mI (sI M13 60 45 r8) 60 43) + 1))) ∧ (¬ r8 = 45 → ((r8 = 42 → q (sI (sI M13 60 45 r8) 60 43 ((mI (sI M13 60 45 r8) 60 43) + 1))) ∧ (¬ r8 = 42 → ((r8 = 60 → q (sI (sI M13 60 45 r8) 60 43 ((mI (sI M13 60 45 r8) 60 43) + 1))) ∧ (¬ r8 = 60 → ((¬ r8 = 61 → q (sI (sI M13 60 45 2) 60 43 ((mI (sI M13 60 45 2) 60 43) + 1))) ∧ (r8 = 61 → q (sI (sI M13 60 45 r8) 60 43 ((mI (sI M13 60 45 r8) 60 43) + 1))))))))))))))))))) ∧ (¬ r14 = 0 → K_X12_number l [rV (some 60)] M13 (fun M33 => q M33))))) ∧ (¬ r11 = 0 → K_X12_word l [rV (some 60)] M10 (fun M34 => q M34))))) ∧ (r8 = (-1) → q (sI M7 60 45 0))))) ∧ (r5 = 10 → H_X12_next_0 l q (sI M4 60 43 ((mI M4 60 43) + 1))))))))) : K_X12_next l [rV (some 60)] M q := by
  refine o_ctr (ini := false) (by decide +kernel) rfl (fun z => by cases z) (Nat.le_of_ble_eq_true rfl) ?_
  show E_X12_next l q 0 [(0, rV (some 60))] [] M 0 0
  refine e_aload_n dX12_next_0 rfl rfl ?_
  refine e_aload_n dX12_next_1 rfl rfl ?_
  refine e_gI flX12_206 rfl rfl dX12_next_2 ?_
  refine e_callV (As := [iV (mI M 60 43)]) (st := []) mt_X12_byteAt in_X12_byteAt lkX12_209 rfl rfl ⟨by decide, by decide⟩ (Nat.le_of_ble_eq_true rfl) ⟨by decide, by decide⟩ rfl rfl dX12_next_5 (Ctr.mono h (fun v M1 h => ?_))
  obtain ⟨r2, rfl, h⟩ := h
  show E_X12_next l q 8 [(0, rV (some 60))] [iV r2] M1 0 0
  refine e_bipush (v := 32) dX12_next_8 (by decide) ?_
  refine e_ic_eq (tgt := 26) dX12_next_10 (by decide) (fun c3 => ?_) (fun c3 => ?_)
  · replace h := h.1 c3
    refine e_aload_n dX12_next_26 rfl rfl ?_
    refine e_dup rfl dX12_next_27 ?_
    refine e_gI flX12_206 rfl rfl dX12_next_28 ?_
    refine e_iconst (v := 1) dX12_next_31 (by decide) ?_
    refine e_iadd dX12_next_32 ?_
    refine e_pI flX12_206 rfl (Or.inl rfl) rfl rfl rfl dX12_next_33 ?_
    refine e_goto (tgt := 0) dX12_next_36 (by decide) ?_
    exact e_lv (List.forall_mem_cons.mpr ⟨rfl, fun _ h => absurd h List.not_mem_nil⟩) h
  · replace h := h.2 c3
    refine e_aload_n dX12_next_13 rfl rfl ?_
    refine e_aload_n dX12_next_14 rfl rfl ?_
    refine e_gI flX12_206 rfl rfl dX12_next_15 ?_
    refine e_callV (As := [iV (mI M1 60 43)]) (st := []) mt_X12_byteAt in_X12_byteAt lkX12_209 rfl rfl ⟨by decide, by decide⟩ (Nat.le_of_ble_eq_true rfl) ⟨by decide, by decide⟩ rfl rfl dX12_next_18 (Ctr.mono h (fun v M4 h => ?_))
    obtain ⟨r5, rfl, h⟩ := h
    show E_X12_next l q 21 [(0, rV (some 60))] [iV r5] M4 0 0
    refine e_bipush (v := 10) dX12_next_21 (by decide) ?_
    refine e_ic_ne (tgt := 39) dX12_next_23 (by decide) (fun c6 => ?_) (fun c6 => ?_)
    · replace h := h.1 c6
      refine e_aload_n dX12_next_39 rfl rfl ?_
      refine e_aload_n dX12_next_40 rfl rfl ?_
      refine e_gI flX12_206 rfl rfl dX12_next_41 ?_
      refine e_pI flX12_212 rfl (Or.inl rfl) rfl rfl rfl dX12_next_44 ?_
      refine e_aload_n dX12_next_47 rfl rfl ?_
      refine e_aload_n dX12_next_48 rfl rfl ?_
      refine e_gI flX12_206 rfl rfl dX12_next_49 ?_
      refine e_callV (As := [iV (mI (sI M4 60 44 (mI M4 60 43)) 60 43)]) (st := []) mt_X12_byteAt in_X12_byteAt lkX12_209 rfl rfl ⟨by decide, by decide⟩ (Nat.le_of_ble_eq_true rfl) ⟨by decide, by decide⟩ rfl rfl dX12_next_52 (Ctr.mono h (fun v M7 h => ?_))
      obtain ⟨r8, rfl, h⟩ := h
      show E_X12_next l q 55 [(0, rV (some 60))] [iV r8] M7 0 0
      refine e_istore_n (lv' := [(1, iV r8), (0, rV (some 60))]) dX12_next_55 rfl (by decide) rfl ?_
      refine e_iload_n dX12_next_56 rfl rfl ?_
      refine e_iconst (v := (-1)) dX12_next_57 (by decide) ?_
      refine e_ic_ne (tgt := 69) dX12_next_58 (by decide) (fun c9 => ?_) (fun c9 => ?_)
      · replace h := h.1 c9
        refine e_iload_n dX12_next_69 rfl rfl ?_
        refine e_callS (As := [iV r8]) (st := []) mt_X12_isLetter is_X12_isLetter lkX12_218 ⟨by decide, by decide⟩ (Nat.le_of_ble_eq_true rfl) ⟨by decide, by decide⟩ rfl rfl dX12_next_70 (Ctr.mono h (fun v M10 h => ?_))
        obtain ⟨r11, rfl, h⟩ := h
        show E_X12_next l q 73 [(1, iV r8), (0, rV (some 60))] [iV r11] M10 0 0
        refine e_if_eq (tgt := 83) dX12_next_73 (by decide) (fun c12 => ?_) (fun c12 => ?_)
        · replace h := h.1 c12
          refine e_iload_n dX12_next_83 rfl rfl ?_
          refine e_callS (As := [iV r8]) (st := []) mt_X12_isDigit is_X12_isDigit lkX12_224 ⟨by decide, by decide⟩ (Nat.le_of_ble_eq_true rfl) ⟨by decide, by decide⟩ rfl rfl dX12_next_84 (Ctr.mono h (fun v M13 h => ?_))
          obtain ⟨r14, rfl, h⟩ := h
          show E_X12_next l q 87 [(1, iV r8), (0, rV (some 60))] [iV r14] M13 0 0
          refine e_if_eq (tgt := 97) dX12_next_87 (by decide) (fun c15 => ?_) (fun c15 => ?_)
          · replace h := h.1 c15
            refine e_iload_n dX12_next_97 rfl rfl ?_
            refine e_bipush (v := 40) dX12_next_98 (by decide) ?_
            refine e_ic_eq (tgt := 145) dX12_next_100 (by decide) (fun c16 => ?_) (fun c16 => ?_)
            · replace h := h.1 c16
              refine e_iconst (v := 1) dX12_next_145 (by decide) ?_
              refine e_goto (tgt := 150) dX12_next_146 (by decide) ?_
              refine e_istore_n (lv' := [(2, iV 1), (1, iV r8), (0, rV (some 60))]) dX12_next_150 rfl (by decide) rfl ?_
              refine e_aload_n dX12_next_151 rfl rfl ?_
              refine e_iload_n dX12_next_152 rfl rfl ?_
              refine e_if_eq (tgt := 160) dX12_next_153 (by decide) (fun c17 => absurd c17 (by decide)) (fun _ => ?_)
              refine e_iload_n dX12_next_156 rfl rfl ?_
              refine e_goto (tgt := 161) dX12_next_157 (by decide) ?_
              refine e_pI flX12_215 rfl (Or.inl rfl) rfl rfl rfl dX12_next_161 ?_
              refine e_aload_n dX12_next_164 rfl rfl ?_
              refine e_dup rfl dX12_next_165 ?_
              refine e_gI flX12_206 rfl rfl dX12_next_166 ?_
              refine e_iconst (v := 1) dX12_next_169 (by decide) ?_
              refine e_iadd dX12_next_170 ?_
              refine e_pI flX12_206 rfl (Or.inl rfl) rfl rfl rfl dX12_next_171 ?_
              exact e_ret rfl dX12_next_174 ⟨rfl, h⟩
            · replace h := h.2 c16
              refine e_iload_n dX12_next_103 rfl rfl ?_
              refine e_bipush (v := 41) dX12_next_104 (by decide) ?_
              refine e_ic_eq (tgt := 145) dX12_next_106 (by decide) (fun c18 => ?_) (fun c18 => ?_)
              · replace h := h.1 c18
                refine e_iconst (v := 1) dX12_next_145 (by decide) ?_
                refine e_goto (tgt := 150) dX12_next_146 (by decide) ?_
                refine e_istore_n (lv' := [(2, iV 1), (1, iV r8), (0, rV (some 60))]) dX12_next_150 rfl (by decide) rfl ?_
                refine e_aload_n dX12_next_151 rfl rfl ?_
                refine e_iload_n dX12_next_152 rfl rfl ?_
                refine e_if_eq (tgt := 160) dX12_next_153 (by decide) (fun c19 => absurd c19 (by decide)) (fun _ => ?_)
                refine e_iload_n dX12_next_156 rfl rfl ?_
                refine e_goto (tgt := 161) dX12_next_157 (by decide) ?_
                refine e_pI flX12_215 rfl (Or.inl rfl) rfl rfl rfl dX12_next_161 ?_
                refine e_aload_n dX12_next_164 rfl rfl ?_
                refine e_dup rfl dX12_next_165 ?_
                refine e_gI flX12_206 rfl rfl dX12_next_166 ?_
                refine e_iconst (v := 1) dX12_next_169 (by decide) ?_
                refine e_iadd dX12_next_170 ?_
                refine e_pI flX12_206 rfl (Or.inl rfl) rfl rfl rfl dX12_next_171 ?_
                exact e_ret rfl dX12_next_174 ⟨rfl, h⟩
              · replace h := h.2 c18
                refine e_iload_n dX12_next_109 rfl rfl ?_
                refine e_bipush (v := 59) dX12_next_110 (by decide) ?_
                refine e_ic_eq (tgt := 145) dX12_next_112 (by decide) (fun c20 => ?_) (fun c20 => ?_)
                · replace h := h.1 c20
                  refine e_iconst (v := 1) dX12_next_145 (by decide) ?_
                  refine e_goto (tgt := 150) dX12_next_146 (by decide) ?_
                  refine e_istore_n (lv' := [(2, iV 1), (1, iV r8), (0, rV (some 60))]) dX12_next_150 rfl (by decide) rfl ?_
                  refine e_aload_n dX12_next_151 rfl rfl ?_
                  refine e_iload_n dX12_next_152 rfl rfl ?_
                  refine e_if_eq (tgt := 160) dX12_next_153 (by decide) (fun c21 => absurd c21 (by decide)) (fun _ => ?_)
                  refine e_iload_n dX12_next_156 rfl rfl ?_
                  refine e_goto (tgt := 161) dX12_next_157 (by decide) ?_
                  refine e_pI flX12_215 rfl (Or.inl rfl) rfl rfl rfl dX12_next_161 ?_
                  refine e_aload_n dX12_next_164 rfl rfl ?_
                  refine e_dup rfl dX12_next_165 ?_
                  refine e_gI flX12_206 rfl rfl dX12_next_166 ?_
                  refine e_iconst (v := 1) dX12_next_169 (by decide) ?_
                  refine e_iadd dX12_next_170 ?_
                  refine e_pI flX12_206 rfl (Or.inl rfl) rfl rfl rfl dX12_next_171 ?_
                  exact e_ret rfl dX12_next_174 ⟨rfl, h⟩
                · replace h := h.2 c20
                  refine e_iload_n dX12_next_115 rfl rfl ?_
                  refine e_bipush (v := 43) dX12_next_116 (by decide) ?_
                  refine e_ic_eq (tgt := 145) dX12_next_118 (by decide) (fun c22 => ?_) (fun c22 => ?_)
                  · replace h := h.1 c22
                    refine e_iconst (v := 1) dX12_next_145 (by decide) ?_
                    refine e_goto (tgt := 150) dX12_next_146 (by decide) ?_
                    refine e_istore_n (lv' := [(2, iV 1), (1, iV r8), (0, rV (some 60))]) dX12_next_150 rfl (by decide) rfl ?_
                    refine e_aload_n dX12_next_151 rfl rfl ?_
                    refine e_iload_n dX12_next_152 rfl rfl ?_
                    refine e_if_eq (tgt := 160) dX12_next_153 (by decide) (fun c23 => absurd c23 (by decide)) (fun _ => ?_)
                    refine e_iload_n dX12_next_156 rfl rfl ?_
                    refine e_goto (tgt := 161) dX12_next_157 (by decide) ?_
                    refine e_pI flX12_215 rfl (Or.inl rfl) rfl rfl rfl dX12_next_161 ?_
                    refine e_aload_n dX12_next_164 rfl rfl ?_
                    refine e_dup rfl dX12_next_165 ?_
                    refine e_gI flX12_206 rfl rfl dX12_next_166 ?_
                    refine e_iconst (v := 1) dX12_next_169 (by decide) ?_
                    refine e_iadd dX12_next_170 ?_
                    refine e_pI flX12_206 rfl (Or.inl rfl) rfl rfl rfl dX12_next_171 ?_
                    exact e_ret rfl dX12_next_174 ⟨rfl, h⟩
                  · replace h := h.2 c22
                    refine e_iload_n dX12_next_121 rfl rfl ?_
                    refine e_bipush (v := 45) dX12_next_122 (by decide) ?_
                    refine e_ic_eq (tgt := 145) dX12_next_124 (by decide) (fun c24 => ?_) (fun c24 => ?_)
                    · replace h := h.1 c24
                      refine e_iconst (v := 1) dX12_next_145 (by decide) ?_
                      refine e_goto (tgt := 150) dX12_next_146 (by decide) ?_
                      refine e_istore_n (lv' := [(2, iV 1), (1, iV r8), (0, rV (some 60))]) dX12_next_150 rfl (by decide) rfl ?_
                      refine e_aload_n dX12_next_151 rfl rfl ?_
                      refine e_iload_n dX12_next_152 rfl rfl ?_
                      refine e_if_eq (tgt := 160) dX12_next_153 (by decide) (fun c25 => absurd c25 (by decide)) (fun _ => ?_)
                      refine e_iload_n dX12_next_156 rfl rfl ?_
                      refine e_goto (tgt := 161) dX12_next_157 (by decide) ?_
                      refine e_pI flX12_215 rfl (Or.inl rfl) rfl rfl rfl dX12_next_161 ?_
                      refine e_aload_n dX12_next_164 rfl rfl ?_
                      refine e_dup rfl dX12_next_165 ?_
                      refine e_gI flX12_206 rfl rfl dX12_next_166 ?_
                      refine e_iconst (v := 1) dX12_next_169 (by decide) ?_
                      refine e_iadd dX12_next_170 ?_
                      refine e_pI flX12_206 rfl (Or.inl rfl) rfl rfl rfl dX12_next_171 ?_
                      exact e_ret rfl dX12_next_174 ⟨rfl, h⟩
                    · replace h := h.2 c24
                      refine e_iload_n dX12_next_127 rfl rfl ?_
                      refine e_bipush (v := 42) dX12_next_128 (by decide) ?_
                      refine e_ic_eq (tgt := 145) dX12_next_130 (by decide) (fun c26 => ?_) (fun c26 => ?_)
                      · replace h := h.1 c26
                        refine e_iconst (v := 1) dX12_next_145 (by decide) ?_
                        refine e_goto (tgt := 150) dX12_next_146 (by decide) ?_
                        refine e_istore_n (lv' := [(2, iV 1), (1, iV r8), (0, rV (some 60))]) dX12_next_150 rfl (by decide) rfl ?_
                        refine e_aload_n dX12_next_151 rfl rfl ?_
                        refine e_iload_n dX12_next_152 rfl rfl ?_
                        refine e_if_eq (tgt := 160) dX12_next_153 (by decide) (fun c27 => absurd c27 (by decide)) (fun _ => ?_)
                        refine e_iload_n dX12_next_156 rfl rfl ?_
                        refine e_goto (tgt := 161) dX12_next_157 (by decide) ?_
                        refine e_pI flX12_215 rfl (Or.inl rfl) rfl rfl rfl dX12_next_161 ?_
                        refine e_aload_n dX12_next_164 rfl rfl ?_
                        refine e_dup rfl dX12_next_165 ?_
                        refine e_gI flX12_206 rfl rfl dX12_next_166 ?_
                        refine e_iconst (v := 1) dX12_next_169 (by decide) ?_
                        refine e_iadd dX12_next_170 ?_
                        refine e_pI flX12_206 rfl (Or.inl rfl) rfl rfl rfl dX12_next_171 ?_
                        exact e_ret rfl dX12_next_174 ⟨rfl, h⟩
                      · replace h := h.2 c26
                        refine e_iload_n dX12_next_133 rfl rfl ?_
                        refine e_bipush (v := 60) dX12_next_134 (by decide) ?_
                        refine e_ic_eq (tgt := 145) dX12_next_136 (by decide) (fun c28 => ?_) (fun c28 => ?_)
                        · replace h := h.1 c28
                          refine e_iconst (v := 1) dX12_next_145 (by decide) ?_
                          refine e_goto (tgt := 150) dX12_next_146 (by decide) ?_
                          refine e_istore_n (lv' := [(2, iV 1), (1, iV r8), (0, rV (some 60))]) dX12_next_150 rfl (by decide) rfl ?_
                          refine e_aload_n dX12_next_151 rfl rfl ?_
                          refine e_iload_n dX12_next_152 rfl rfl ?_
                          refine e_if_eq (tgt := 160) dX12_next_153 (by decide) (fun c29 => absurd c29 (by decide)) (fun _ => ?_)
                          refine e_iload_n dX12_next_156 rfl rfl ?_
                          refine e_goto (tgt := 161) dX12_next_157 (by decide) ?_
                          refine e_pI flX12_215 rfl (Or.inl rfl) rfl rfl rfl dX12_next_161 ?_
                          refine e_aload_n dX12_next_164 rfl rfl ?_
                          refine e_dup rfl dX12_next_165 ?_
                          refine e_gI flX12_206 rfl rfl dX12_next_166 ?_
                          refine e_iconst (v := 1) dX12_next_169 (by decide) ?_
                          refine e_iadd dX12_next_170 ?_
                          refine e_pI flX12_206 rfl (Or.inl rfl) rfl rfl rfl dX12_next_171 ?_
                          exact e_ret rfl dX12_next_174 ⟨rfl, h⟩
                        · replace h := h.2 c28
                          refine e_iload_n dX12_next_139 rfl rfl ?_
                          refine e_bipush (v := 61) dX12_next_140 (by decide) ?_
                          refine e_ic_ne (tgt := 149) dX12_next_142 (by decide) (fun c30 => ?_) (fun c30 => ?_)
                          · replace h := h.1 c30
                            refine e_iconst (v := 0) dX12_next_149 (by decide) ?_
                            refine e_istore_n (lv' := [(2, iV 0), (1, iV r8), (0, rV (some 60))]) dX12_next_150 rfl (by decide) rfl ?_
                            refine e_aload_n dX12_next_151 rfl rfl ?_
                            refine e_iload_n dX12_next_152 rfl rfl ?_
                            refine e_if_eq (tgt := 160) dX12_next_153 (by decide) (fun _ => ?_) (fun c31 => absurd c31 (by decide))
                            refine e_iconst (v := 2) dX12_next_160 (by decide) ?_
                            refine e_pI flX12_215 rfl (Or.inl rfl) rfl rfl rfl dX12_next_161 ?_
                            refine e_aload_n dX12_next_164 rfl rfl ?_
                            refine e_dup rfl dX12_next_165 ?_
                            refine e_gI flX12_206 rfl rfl dX12_next_166 ?_
                            refine e_iconst (v := 1) dX12_next_169 (by decide) ?_
                            refine e_iadd dX12_next_170 ?_
                            refine e_pI flX12_206 rfl (Or.inl rfl) rfl rfl rfl dX12_next_171 ?_
                            exact e_ret rfl dX12_next_174 ⟨rfl, h⟩
                          · replace h := h.2 c30
                            refine e_iconst (v := 1) dX12_next_145 (by decide) ?_
                            refine e_goto (tgt := 150) dX12_next_146 (by decide) ?_
                            refine e_istore_n (lv' := [(2, iV 1), (1, iV r8), (0, rV (some 60))]) dX12_next_150 rfl (by decide) rfl ?_
                            refine e_aload_n dX12_next_151 rfl rfl ?_
                            refine e_iload_n dX12_next_152 rfl rfl ?_
                            refine e_if_eq (tgt := 160) dX12_next_153 (by decide) (fun c32 => absurd c32 (by decide)) (fun _ => ?_)
                            refine e_iload_n dX12_next_156 rfl rfl ?_
                            refine e_goto (tgt := 161) dX12_next_157 (by decide) ?_
                            refine e_pI flX12_215 rfl (Or.inl rfl) rfl rfl rfl dX12_next_161 ?_
                            refine e_aload_n dX12_next_164 rfl rfl ?_
                            refine e_dup rfl dX12_next_165 ?_
                            refine e_gI flX12_206 rfl rfl dX12_next_166 ?_
                            refine e_iconst (v := 1) dX12_next_169 (by decide) ?_
                            refine e_iadd dX12_next_170 ?_
                            refine e_pI flX12_206 rfl (Or.inl rfl) rfl rfl rfl dX12_next_171 ?_
                            exact e_ret rfl dX12_next_174 ⟨rfl, h⟩
          · replace h := h.2 c15
            refine e_aload_n dX12_next_90 rfl rfl ?_
            refine e_callV (As := []) (st := []) mt_X12_number in_X12_number lkX12_227 rfl rfl ⟨by decide, by decide⟩ (Nat.le_of_ble_eq_true rfl) ⟨by decide, by decide⟩ rfl rfl dX12_next_91 (Ctr.mono h (fun v M33 h => ?_))
            obtain ⟨rfl, h⟩ := h
            show E_X12_next l q 94 [(1, iV r8), (0, rV (some 60))] [] M33 0 0
            refine e_goto (tgt := 174) dX12_next_94 (by decide) ?_
            exact e_ret rfl dX12_next_174 ⟨rfl, h⟩
        · replace h := h.2 c12
          refine e_aload_n dX12_next_76 rfl rfl ?_
          refine e_callV (As := []) (st := []) mt_X12_word in_X12_word lkX12_221 rfl rfl ⟨by decide, by decide⟩ (Nat.le_of_ble_eq_true rfl) ⟨by decide, by decide⟩ rfl rfl dX12_next_77 (Ctr.mono h (fun v M34 h => ?_))
          obtain ⟨rfl, h⟩ := h
          show E_X12_next l q 80 [(1, iV r8), (0, rV (some 60))] [] M34 0 0
          refine e_goto (tgt := 174) dX12_next_80 (by decide) ?_
          exact e_ret rfl dX12_next_174 ⟨rfl, h⟩
      · replace h := h.2 c9
        refine e_aload_n dX12_next_61 rfl rfl ?_
        refine e_iconst (v := 0) dX12_next_62 (by decide) ?_
        refine e_pI flX12_215 rfl (Or.inl rfl) rfl rfl rfl dX12_next_63 ?_
        refine e_goto (tgt := 174) dX12_next_66 (by decide) ?_
        exact e_ret rfl dX12_next_174 ⟨rfl, h⟩
    · replace h := h.2 c6
      refine e_aload_n dX12_next_26 rfl rfl ?_
      refine e_dup rfl dX12_next_27 ?_
      refine e_gI flX12_206 rfl rfl dX12_next_28 ?_
      refine e_iconst (v := 1) dX12_next_31 (by decide) ?_
      refine e_iadd dX12_next_32 ?_
      refine e_pI flX12_206 rfl (Or.inl rfl) rfl rfl rfl dX12_next_33 ?_
      refine e_goto (tgt := 0) dX12_next_36 (by decide) ?_
      exact e_lv (List.forall_mem_cons.mpr ⟨rfl, fun _ h => absurd h List.not_mem_nil⟩) h
theorem w_X12_next_0 (l : Launch) (q : o_M → Prop) (M : o_M) (h : K_X12_byteAt l [rV (some 60), iV (mI M 60 43)] M (fun r36 M35 => ((r36 = 32 → H_X12_next_0 l q (sI M35 60 43 ((mI M35 60 43) + 1))) ∧ (¬ r36 = 32 → K_X12_byteAt l [rV (some 60), iV (mI M35 60 43)] M35 (fun r39 M38 => ((¬ r39 = 10 → K_X12_byteAt l [rV (some 60), iV (mI (sI M38 60 44 (mI M38 60 43)) 60 43)] (sI M38 60 44 (mI M38 60 43)) (fun r42 M41 => ((¬ r42 = (-1) → K_X12_isLetter l [iV r42] M41 (fun r45 M44 => ((r45 = 0 → K_X12_isDigit l [iV r42] M44 (fun r48 M47 => ((r48 = 0 → ((r42 = 40 → q (sI (sI M47 60 45 r42) 60 43 ((mI (sI M47 60 45 r42) 60 43) + 1))) ∧ (¬ r42 = 40 → ((r42 = 41 → q (sI (sI M47 60 45 r42) 60 43 ((mI (sI M47 60 45 r42) 60 43) + 1))) ∧ (¬ r42 = 41 → ((r42 = 59 → q (sI (sI M47 60 45 r42) 60 43 ((mI (sI M47 60 45 r42) 60 43) + 1))) ∧ (¬ r42 = 59 → ((r42 = 43 → q (sI (sI M47 60 45 r42) 60 43 ((mI (sI M47 60 45 r42) 60 43) + 1))) ∧ (¬ r42 = 43 → ((r42 = 45 → q (sI (sI M47 60 45 r42) 60 43 ((mI (sI M47 60 45 r42) 60 43) + 1))) ∧ (¬ r42 = 45 → ((r42 = 42 → q (sI (sI M47 60 45 r42) 60 43 ((mI (sI M47 60 45 r42) 60 43) + 1))) ∧ (¬ r42 = 42 → ((r42 = 60 → q (sI (sI M47 60 45 r42) 60 43 ((mI (sI M47 60 45 r42) 60 43) + 1))) ∧ (¬ r42 = 60 → ((¬ r42 = 61 → q (sI (sI M47 60 45 2) 60 43 ((mI (sI M47 60 45 2) 60 43) + 1))) ∧ (r42 = 61 → q (sI (sI M47 60 45 r42) 60 43 ((mI (sI M47 60 45 r42) 60 43) + 1))))))))))))))))))) ∧ (¬ r48 = 0 → K_X12_number l [rV (some 60)] M47 (fun M67 => q M67))))) ∧ (¬ r45 = 0 → K_X12_word l [rV (some 60)] M44 (fun M68 => q M68))))) ∧ (r42 = (-1) → q (sI M41 60 45 0))))) ∧ (r39 = 10 → H_X12_next_0 l q (sI M38 60 43 ((mI M38 60 43) + 1))))))))) : H_X12_next_0 l q M := by
  refine e_aload_n dX12_next_0 rfl rfl ?_
  refine e_aload_n dX12_next_1 rfl rfl ?_
  refine e_gI flX12_206 rfl rfl dX12_next_2 ?_
  refine e_callV (As := [iV (mI M 60 43)]) (st := []) mt_X12_byteAt in_X12_byteAt lkX12_209 rfl rfl ⟨by decide, by decide⟩ (Nat.le_of_ble_eq_true rfl) ⟨by decide, by decide⟩ rfl rfl dX12_next_5 (Ctr.mono h (fun v M35 h => ?_))
  obtain ⟨r36, rfl, h⟩ := h
  show E_X12_next l q 8 [(0, rV (some 60))] [iV r36] M35 0 0
  refine e_bipush (v := 32) dX12_next_8 (by decide) ?_
  refine e_ic_eq (tgt := 26) dX12_next_10 (by decide) (fun c37 => ?_) (fun c37 => ?_)
  · replace h := h.1 c37
    refine e_aload_n dX12_next_26 rfl rfl ?_
    refine e_dup rfl dX12_next_27 ?_
    refine e_gI flX12_206 rfl rfl dX12_next_28 ?_
    refine e_iconst (v := 1) dX12_next_31 (by decide) ?_
    refine e_iadd dX12_next_32 ?_
    refine e_pI flX12_206 rfl (Or.inl rfl) rfl rfl rfl dX12_next_33 ?_
    refine e_goto (tgt := 0) dX12_next_36 (by decide) ?_
    exact e_lv (List.forall_mem_cons.mpr ⟨rfl, fun _ h => absurd h List.not_mem_nil⟩) h
  · replace h := h.2 c37
    refine e_aload_n dX12_next_13 rfl rfl ?_
    refine e_aload_n dX12_next_14 rfl rfl ?_
    refine e_gI flX12_206 rfl rfl dX12_next_15 ?_
    refine e_callV (As := [iV (mI M35 60 43)]) (st := []) mt_X12_byteAt in_X12_byteAt lkX12_209 rfl rfl ⟨by decide, by decide⟩ (Nat.le_of_ble_eq_true rfl) ⟨by decide, by decide⟩ rfl rfl dX12_next_18 (Ctr.mono h (fun v M38 h => ?_))
    obtain ⟨r39, rfl, h⟩ := h
    show E_X12_next l q 21 [(0, rV (some 60))] [iV r39] M38 0 0
    refine e_bipush (v := 10) dX12_next_21 (by decide) ?_
    refine e_ic_ne (tgt := 39) dX12_next_23 (by decide) (fun c40 => ?_) (fun c40 => ?_)
    · replace h := h.1 c40
      refine e_aload_n dX12_next_39 rfl rfl ?_
      refine e_aload_n dX12_next_40 rfl rfl ?_
      refine e_gI flX12_206 rfl rfl dX12_next_41 ?_
      refine e_pI flX12_212 rfl (Or.inl rfl) rfl rfl rfl dX12_next_44 ?_
      refine e_aload_n dX12_next_47 rfl rfl ?_
      refine e_aload_n dX12_next_48 rfl rfl ?_
      refine e_gI flX12_206 rfl rfl dX12_next_49 ?_
      refine e_callV (As := [iV (mI (sI M38 60 44 (mI M38 60 43)) 60 43)]) (st := []) mt_X12_byteAt in_X12_byteAt lkX12_209 rfl rfl ⟨by decide, by decide⟩ (Nat.le_of_ble_eq_true rfl) ⟨by decide, by decide⟩ rfl rfl dX12_next_52 (Ctr.mono h (fun v M41 h => ?_))
      obtain ⟨r42, rfl, h⟩ := h
      show E_X12_next l q 55 [(0, rV (some 60))] [iV r42] M41 0 0
      refine e_istore_n (lv' := [(1, iV r42), (0, rV (some 60))]) dX12_next_55 rfl (by decide) rfl ?_
      refine e_iload_n dX12_next_56 rfl rfl ?_
      refine e_iconst (v := (-1)) dX12_next_57 (by decide) ?_
      refine e_ic_ne (tgt := 69) dX12_next_58 (by decide) (fun c43 => ?_) (fun c43 => ?_)
      · replace h := h.1 c43
        refine e_iload_n dX12_next_69 rfl rfl ?_
        refine e_callS (As := [iV r42]) (st := []) mt_X12_isLetter is_X12_isLetter lkX12_218 ⟨by decide, by decide⟩ (Nat.le_of_ble_eq_true rfl) ⟨by decide, by decide⟩ rfl rfl dX12_next_70 (Ctr.mono h (fun v M44 h => ?_))
        obtain ⟨r45, rfl, h⟩ := h
        show E_X12_next l q 73 [(1, iV r42), (0, rV (some 60))] [iV r45] M44 0 0
        refine e_if_eq (tgt := 83) dX12_next_73 (by decide) (fun c46 => ?_) (fun c46 => ?_)
        · replace h := h.1 c46
          refine e_iload_n dX12_next_83 rfl rfl ?_
          refine e_callS (As := [iV r42]) (st := []) mt_X12_isDigit is_X12_isDigit lkX12_224 ⟨by decide, by decide⟩ (Nat.le_of_ble_eq_true rfl) ⟨by decide, by decide⟩ rfl rfl dX12_next_84 (Ctr.mono h (fun v M47 h => ?_))
          obtain ⟨r48, rfl, h⟩ := h
          show E_X12_next l q 87 [(1, iV r42), (0, rV (some 60))] [iV r48] M47 0 0
          refine e_if_eq (tgt := 97) dX12_next_87 (by decide) (fun c49 => ?_) (fun c49 => ?_)
          · replace h := h.1 c49
            refine e_iload_n dX12_next_97 rfl rfl ?_
            refine e_bipush (v := 40) dX12_next_98 (by decide) ?_
            refine e_ic_eq (tgt := 145) dX12_next_100 (by decide) (fun c50 => ?_) (fun c50 => ?_)
            · replace h := h.1 c50
              refine e_iconst (v := 1) dX12_next_145 (by decide) ?_
              refine e_goto (tgt := 150) dX12_next_146 (by decide) ?_
              refine e_istore_n (lv' := [(2, iV 1), (1, iV r42), (0, rV (some 60))]) dX12_next_150 rfl (by decide) rfl ?_
              refine e_aload_n dX12_next_151 rfl rfl ?_
              refine e_iload_n dX12_next_152 rfl rfl ?_
              refine e_if_eq (tgt := 160) dX12_next_153 (by decide) (fun c51 => absurd c51 (by decide)) (fun _ => ?_)
              refine e_iload_n dX12_next_156 rfl rfl ?_
              refine e_goto (tgt := 161) dX12_next_157 (by decide) ?_
              refine e_pI flX12_215 rfl (Or.inl rfl) rfl rfl rfl dX12_next_161 ?_
              refine e_aload_n dX12_next_164 rfl rfl ?_
              refine e_dup rfl dX12_next_165 ?_
              refine e_gI flX12_206 rfl rfl dX12_next_166 ?_
              refine e_iconst (v := 1) dX12_next_169 (by decide) ?_
              refine e_iadd dX12_next_170 ?_
              refine e_pI flX12_206 rfl (Or.inl rfl) rfl rfl rfl dX12_next_171 ?_
              exact e_ret rfl dX12_next_174 ⟨rfl, h⟩
            · replace h := h.2 c50
              refine e_iload_n dX12_next_103 rfl rfl ?_
              refine e_bipush (v := 41) dX12_next_104 (by decide) ?_
              refine e_ic_eq (tgt := 145) dX12_next_106 (by decide) (fun c52 => ?_) (fun c52 => ?_)
              · replace h := h.1 c52
                refine e_iconst (v := 1) dX12_next_145 (by decide) ?_
                refine e_goto (tgt := 150) dX12_next_146 (by decide) ?_
                refine e_istore_n (lv' := [(2, iV 1), (1, iV r42), (0, rV (some 60))]) dX12_next_150 rfl (by decide) rfl ?_
                refine e_aload_n dX12_next_151 rfl rfl ?_
                refine e_iload_n dX12_next_152 rfl rfl ?_
                refine e_if_eq (tgt := 160) dX12_next_153 (by decide) (fun c53 => absurd c53 (by decide)) (fun _ => ?_)
                refine e_iload_n dX12_next_156 rfl rfl ?_
                refine e_goto (tgt := 161) dX12_next_157 (by decide) ?_
                refine e_pI flX12_215 rfl (Or.inl rfl) rfl rfl rfl dX12_next_161 ?_
                refine e_aload_n dX12_next_164 rfl rfl ?_
                refine e_dup rfl dX12_next_165 ?_
                refine e_gI flX12_206 rfl rfl dX12_next_166 ?_
                refine e_iconst (v := 1) dX12_next_169 (by decide) ?_
                refine e_iadd dX12_next_170 ?_
                refine e_pI flX12_206 rfl (Or.inl rfl) rfl rfl rfl dX12_next_171 ?_
                exact e_ret rfl dX12_next_174 ⟨rfl, h⟩
              · replace h := h.2 c52
                refine e_iload_n dX12_next_109 rfl rfl ?_
                refine e_bipush (v := 59) dX12_next_110 (by decide) ?_
                refine e_ic_eq (tgt := 145) dX12_next_112 (by decide) (fun c54 => ?_) (fun c54 => ?_)
                · replace h := h.1 c54
                  refine e_iconst (v := 1) dX12_next_145 (by decide) ?_
                  refine e_goto (tgt := 150) dX12_next_146 (by decide) ?_
                  refine e_istore_n (lv' := [(2, iV 1), (1, iV r42), (0, rV (some 60))]) dX12_next_150 rfl (by decide) rfl ?_
                  refine e_aload_n dX12_next_151 rfl rfl ?_
                  refine e_iload_n dX12_next_152 rfl rfl ?_
                  refine e_if_eq (tgt := 160) dX12_next_153 (by decide) (fun c55 => absurd c55 (by decide)) (fun _ => ?_)
                  refine e_iload_n dX12_next_156 rfl rfl ?_
                  refine e_goto (tgt := 161) dX12_next_157 (by decide) ?_
                  refine e_pI flX12_215 rfl (Or.inl rfl) rfl rfl rfl dX12_next_161 ?_
                  refine e_aload_n dX12_next_164 rfl rfl ?_
                  refine e_dup rfl dX12_next_165 ?_
                  refine e_gI flX12_206 rfl rfl dX12_next_166 ?_
                  refine e_iconst (v := 1) dX12_next_169 (by decide) ?_
                  refine e_iadd dX12_next_170 ?_
                  refine e_pI flX12_206 rfl (Or.inl rfl) rfl rfl rfl dX12_next_171 ?_
                  exact e_ret rfl dX12_next_174 ⟨rfl, h⟩
                · replace h := h.2 c54
                  refine e_iload_n dX12_next_115 rfl rfl ?_
                  refine e_bipush (v := 43) dX12_next_116 (by decide) ?_
                  refine e_ic_eq (tgt := 145) dX12_next_118 (by decide) (fun c56 => ?_) (fun c56 => ?_)
                  · replace h := h.1 c56
                    refine e_iconst (v := 1) dX12_next_145 (by decide) ?_
                    refine e_goto (tgt := 150) dX12_next_146 (by decide) ?_
                    refine e_istore_n (lv' := [(2, iV 1), (1, iV r42), (0, rV (some 60))]) dX12_next_150 rfl (by decide) rfl ?_
                    refine e_aload_n dX12_next_151 rfl rfl ?_
                    refine e_iload_n dX12_next_152 rfl rfl ?_
                    refine e_if_eq (tgt := 160) dX12_next_153 (by decide) (fun c57 => absurd c57 (by decide)) (fun _ => ?_)
                    refine e_iload_n dX12_next_156 rfl rfl ?_
                    refine e_goto (tgt := 161) dX12_next_157 (by decide) ?_
                    refine e_pI flX12_215 rfl (Or.inl rfl) rfl rfl rfl dX12_next_161 ?_
                    refine e_aload_n dX12_next_164 rfl rfl ?_
                    refine e_dup rfl dX12_next_165 ?_
                    refine e_gI flX12_206 rfl rfl dX12_next_166 ?_
                    refine e_iconst (v := 1) dX12_next_169 (by decide) ?_
                    refine e_iadd dX12_next_170 ?_
                    refine e_pI flX12_206 rfl (Or.inl rfl) rfl rfl rfl dX12_next_171 ?_
                    exact e_ret rfl dX12_next_174 ⟨rfl, h⟩
                  · replace h := h.2 c56
                    refine e_iload_n dX12_next_121 rfl rfl ?_
                    refine e_bipush (v := 45) dX12_next_122 (by decide) ?_
                    refine e_ic_eq (tgt := 145) dX12_next_124 (by decide) (fun c58 => ?_) (fun c58 => ?_)
                    · replace h := h.1 c58
                      refine e_iconst (v := 1) dX12_next_145 (by decide) ?_
                      refine e_goto (tgt := 150) dX12_next_146 (by decide) ?_
                      refine e_istore_n (lv' := [(2, iV 1), (1, iV r42), (0, rV (some 60))]) dX12_next_150 rfl (by decide) rfl ?_
                      refine e_aload_n dX12_next_151 rfl rfl ?_
                      refine e_iload_n dX12_next_152 rfl rfl ?_
                      refine e_if_eq (tgt := 160) dX12_next_153 (by decide) (fun c59 => absurd c59 (by decide)) (fun _ => ?_)
                      refine e_iload_n dX12_next_156 rfl rfl ?_
                      refine e_goto (tgt := 161) dX12_next_157 (by decide) ?_
                      refine e_pI flX12_215 rfl (Or.inl rfl) rfl rfl rfl dX12_next_161 ?_
                      refine e_aload_n dX12_next_164 rfl rfl ?_
                      refine e_dup rfl dX12_next_165 ?_
                      refine e_gI flX12_206 rfl rfl dX12_next_166 ?_
                      refine e_iconst (v := 1) dX12_next_169 (by decide) ?_
                      refine e_iadd dX12_next_170 ?_
                      refine e_pI flX12_206 rfl (Or.inl rfl) rfl rfl rfl dX12_next_171 ?_
                      exact e_ret rfl dX12_next_174 ⟨rfl, h⟩
                    · replace h := h.2 c58
                      refine e_iload_n dX12_next_127 rfl rfl ?_
                      refine e_bipush (v := 42) dX12_next_128 (by decide) ?_
                      refine e_ic_eq (tgt := 145) dX12_next_130 (by decide) (fun c60 => ?_) (fun c60 => ?_)
                      · replace h := h.1 c60
                        refine e_iconst (v := 1) dX12_next_145 (by decide) ?_
                        refine e_goto (tgt := 150) dX12_next_146 (by decide) ?_
                        refine e_istore_n (lv' := [(2, iV 1), (1, iV r42), (0, rV (some 60))]) dX12_next_150 rfl (by decide) rfl ?_
                        refine e_aload_n dX12_next_151 rfl rfl ?_
                        refine e_iload_n dX12_next_152 rfl rfl ?_
                        refine e_if_eq (tgt := 160) dX12_next_153 (by decide) (fun c61 => absurd c61 (by decide)) (fun _ => ?_)
                        refine e_iload_n dX12_next_156 rfl rfl ?_
                        refine e_goto (tgt := 161) dX12_next_157 (by decide) ?_
                        refine e_pI flX12_215 rfl (Or.inl rfl) rfl rfl rfl dX12_next_161 ?_
                        refine e_aload_n dX12_next_164 rfl rfl ?_
                        refine e_dup rfl dX12_next_165 ?_
                        refine e_gI flX12_206 rfl rfl dX12_next_166 ?_
                        refine e_iconst (v := 1) dX12_next_169 (by decide) ?_
                        refine e_iadd dX12_next_170 ?_
                        refine e_pI flX12_206 rfl (Or.inl rfl) rfl rfl rfl dX12_next_171 ?_
                        exact e_ret rfl dX12_next_174 ⟨rfl, h⟩
                      · replace h := h.2 c60
                        refine e_iload_n dX12_next_133 rfl rfl ?_
                        refine e_bipush (v := 60) dX12_next_134 (by decide) ?_
                        refine e_ic_eq (tgt := 145) dX12_next_136 (by decide) (fun c62 => ?_) (fun c62 => ?_)
                        · replace h := h.1 c62
                          refine e_iconst (v := 1) dX12_next_145 (by decide) ?_
                          refine e_goto (tgt := 150) dX12_next_146 (by decide) ?_
                          refine e_istore_n (lv' := [(2, iV 1), (1, iV r42), (0, rV (some 60))]) dX12_next_150 rfl (by decide) rfl ?_
                          refine e_aload_n dX12_next_151 rfl rfl ?_
                          refine e_iload_n dX12_next_152 rfl rfl ?_
                          refine e_if_eq (tgt := 160) dX12_next_153 (by decide) (fun c63 => absurd c63 (by decide)) (fun _ => ?_)
                          refine e_iload_n dX12_next_156 rfl rfl ?_
                          refine e_goto (tgt := 161) dX12_next_157 (by decide) ?_
                          refine e_pI flX12_215 rfl (Or.inl rfl) rfl rfl rfl dX12_next_161 ?_
                          refine e_aload_n dX12_next_164 rfl rfl ?_
                          refine e_dup rfl dX12_next_165 ?_
                          refine e_gI flX12_206 rfl rfl dX12_next_166 ?_
                          refine e_iconst (v := 1) dX12_next_169 (by decide) ?_
                          refine e_iadd dX12_next_170 ?_
                          refine e_pI flX12_206 rfl (Or.inl rfl) rfl rfl rfl dX12_next_171 ?_
                          exact e_ret rfl dX12_next_174 ⟨rfl, h⟩
                        · replace h := h.2 c62
                          refine e_iload_n dX12_next_139 rfl rfl ?_
                          refine e_bipush (v := 61) dX12_next_140 (by decide) ?_
                          refine e_ic_ne (tgt := 149) dX12_next_142 (by decide) (fun c64 => ?_) (fun c64 => ?_)
                          · replace h := h.1 c64
                            refine e_iconst (v := 0) dX12_next_149 (by decide) ?_
                            refine e_istore_n (lv' := [(2, iV 0), (1, iV r42), (0, rV (some 60))]) dX12_next_150 rfl (by decide) rfl ?_
                            refine e_aload_n dX12_next_151 rfl rfl ?_
                            refine e_iload_n dX12_next_152 rfl rfl ?_
                            refine e_if_eq (tgt := 160) dX12_next_153 (by decide) (fun _ => ?_) (fun c65 => absurd c65 (by decide))
                            refine e_iconst (v := 2) dX12_next_160 (by decide) ?_
                            refine e_pI flX12_215 rfl (Or.inl rfl) rfl rfl rfl dX12_next_161 ?_
                            refine e_aload_n dX12_next_164 rfl rfl ?_
                            refine e_dup rfl dX12_next_165 ?_
                            refine e_gI flX12_206 rfl rfl dX12_next_166 ?_
                            refine e_iconst (v := 1) dX12_next_169 (by decide) ?_
                            refine e_iadd dX12_next_170 ?_
                            refine e_pI flX12_206 rfl (Or.inl rfl) rfl rfl rfl dX12_next_171 ?_
                            exact e_ret rfl dX12_next_174 ⟨rfl, h⟩
                          · replace h := h.2 c64
                            refine e_iconst (v := 1) dX12_next_145 (by decide) ?_
                            refine e_goto (tgt := 150) dX12_next_146 (by decide) ?_
                            refine e_istore_n (lv' := [(2, iV 1), (1, iV r42), (0, rV (some 60))]) dX12_next_150 rfl (by decide) rfl ?_
                            refine e_aload_n dX12_next_151 rfl rfl ?_
                            refine e_iload_n dX12_next_152 rfl rfl ?_
                            refine e_if_eq (tgt := 160) dX12_next_153 (by decide) (fun c66 => absurd c66 (by decide)) (fun _ => ?_)
                            refine e_iload_n dX12_next_156 rfl rfl ?_
                            refine e_goto (tgt := 161) dX12_next_157 (by decide) ?_
                            refine e_pI flX12_215 rfl (Or.inl rfl) rfl rfl rfl dX12_next_161 ?_
                            refine e_aload_n dX12_next_164 rfl rfl ?_
                            refine e_dup rfl dX12_next_165 ?_
                            refine e_gI flX12_206 rfl rfl dX12_next_166 ?_
                            refine e_iconst (v := 1) dX12_next_169 (by decide) ?_
                            refine e_iadd dX12_next_170 ?_
                            refine e_pI flX12_206 rfl (Or.inl rfl) rfl rfl rfl dX12_next_171 ?_
                            exact e_ret rfl dX12_next_174 ⟨rfl, h⟩
          · replace h := h.2 c49
            refine e_aload_n dX12_next_90 rfl rfl ?_
            refine e_callV (As := []) (st := []) mt_X12_number in_X12_number lkX12_227 rfl rfl ⟨by decide, by decide⟩ (Nat.le_of_ble_eq_true rfl) ⟨by decide, by decide⟩ rfl rfl dX12_next_91 (Ctr.mono h (fun v M67 h => ?_))
            obtain ⟨rfl, h⟩ := h
            show E_X12_next l q 94 [(1, iV r42), (0, rV (some 60))] [] M67 0 0
            refine e_goto (tgt := 174) dX12_next_94 (by decide) ?_
            exact e_ret rfl dX12_next_174 ⟨rfl, h⟩
        · replace h := h.2 c46
          refine e_aload_n dX12_next_76 rfl rfl ?_
          refine e_callV (As := []) (st := []) mt_X12_word in_X12_word lkX12_221 rfl rfl ⟨by decide, by decide⟩ (Nat.le_of_ble_eq_true rfl) ⟨by decide, by decide⟩ rfl rfl dX12_next_77 (Ctr.mono h (fun v M68 h => ?_))
          obtain ⟨rfl, h⟩ := h
          show E_X12_next l q 80 [(1, iV r42), (0, rV (some 60))] [] M68 0 0
          refine e_goto (tgt := 174) dX12_next_80 (by decide) ?_
          exact e_ret rfl dX12_next_174 ⟨rfl, h⟩
      · replace h := h.2 c43
        refine e_aload_n dX12_next_61 rfl rfl ?_
        refine e_iconst (v := 0) dX12_next_62 (by decide) ?_
        refine e_pI flX12_215 rfl (Or.inl rfl) rfl rfl rfl dX12_next_63 ?_
        refine e_goto (tgt := 174) dX12_next_66 (by decide) ?_
        exact e_ret rfl dX12_next_174 ⟨rfl, h⟩
    · replace h := h.2 c40
      refine e_aload_n dX12_next_26 rfl rfl ?_
      refine e_dup rfl dX12_next_27 ?_
      refine e_gI flX12_206 rfl rfl dX12_next_28 ?_
      refine e_iconst (v := 1) dX12_next_31 (by decide) ?_
      refine e_iadd dX12_next_32 ?_
      refine e_pI flX12_206 rfl (Or.inl rfl) rfl rfl rfl dX12_next_33 ?_
      refine e_goto (tgt := 0) dX12_next_36 (by decide) ?_
      exact e_lv (List.forall_mem_cons.mpr ⟨rfl, fun _ h => absurd h List.not_mem_nil⟩) h
theorem w_X12_played (l : Launch) (p1 : Int32) (p2 : Int32) (M : o_M) (q : Int32 → o_M → Prop) (h : K_X12_isWork l [rV (some 60), iV p1] M (fun r2 M1 => ((r2 = 0 → q (-2) M1) ∧ (¬ r2 = 0 → K_X12_isDay l [iV p2] M1 (fun r5 M4 => ((¬ r5 = 0 → K_X12_isPlayed l [rV (some 60), iV p1, iV p2] M4 (fun r8 M7 => ((r8 = 0 → q 0 M7) ∧ (¬ r8 = 0 → q 1 M7)))) ∧ (r5 = 0 → q (-2) M4))))))) : K_X12_played l [rV (some 60), iV p1, iV p2] M q := by
  refine o_ctr (ini := false) (by decide +kernel) rfl (fun z => by cases z) (Nat.le_of_ble_eq_true rfl) ?_
  show E_X12_played l q 0 [(0, rV (some 60)), (1, iV p1), (2, iV p2)] [] M 0 0
  refine e_aload_n dX12_played_0 rfl rfl ?_
  refine e_iload_n dX12_played_1 rfl rfl ?_
  refine e_callV (As := [iV p1]) (st := []) mt_X12_isWork in_X12_isWork lkX12_165 rfl rfl ⟨by decide, by decide⟩ (Nat.le_of_ble_eq_true rfl) ⟨by decide, by decide⟩ rfl rfl dX12_played_2 (Ctr.mono h (fun v M1 h => ?_))
  obtain ⟨r2, rfl, h⟩ := h
  show E_X12_played l q 5 [(0, rV (some 60)), (1, iV p1), (2, iV p2)] [iV r2] M1 0 0
  refine e_if_eq (tgt := 15) dX12_played_5 (by decide) (fun c3 => ?_) (fun c3 => ?_)
  · replace h := h.1 c3
    refine e_bipush (v := (-2)) dX12_played_15 (by decide) ?_
    exact e_iret rfl trivial dX12_played_17 ⟨_, rfl, h⟩
  · replace h := h.2 c3
    refine e_iload_n dX12_played_8 rfl rfl ?_
    refine e_callS (As := [iV p2]) (st := []) mt_X12_isDay is_X12_isDay lkX12_169 ⟨by decide, by decide⟩ (Nat.le_of_ble_eq_true rfl) ⟨by decide, by decide⟩ rfl rfl dX12_played_9 (Ctr.mono h (fun v M4 h => ?_))
    obtain ⟨r5, rfl, h⟩ := h
    show E_X12_played l q 12 [(0, rV (some 60)), (1, iV p1), (2, iV p2)] [iV r5] M4 0 0
    refine e_if_ne (tgt := 18) dX12_played_12 (by decide) (fun c6 => ?_) (fun c6 => ?_)
    · replace h := h.1 c6
      refine e_aload_n dX12_played_18 rfl rfl ?_
      refine e_iload_n dX12_played_19 rfl rfl ?_
      refine e_iload_n dX12_played_20 rfl rfl ?_
      refine e_callV (As := [iV p1, iV p2]) (st := []) mt_X12_isPlayed in_X12_isPlayed lkX12_172 rfl rfl ⟨by decide, by decide⟩ (Nat.le_of_ble_eq_true rfl) ⟨by decide, by decide⟩ rfl rfl dX12_played_21 (Ctr.mono h (fun v M7 h => ?_))
      obtain ⟨r8, rfl, h⟩ := h
      show E_X12_played l q 24 [(0, rV (some 60)), (1, iV p1), (2, iV p2)] [iV r8] M7 0 0
      refine e_if_eq (tgt := 31) dX12_played_24 (by decide) (fun c9 => ?_) (fun c9 => ?_)
      · replace h := h.1 c9
        refine e_iconst (v := 0) dX12_played_31 (by decide) ?_
        exact e_iret rfl trivial dX12_played_32 ⟨_, rfl, h⟩
      · replace h := h.2 c9
        refine e_iconst (v := 1) dX12_played_27 (by decide) ?_
        refine e_goto (tgt := 32) dX12_played_28 (by decide) ?_
        exact e_iret rfl trivial dX12_played_32 ⟨_, rfl, h⟩
    · replace h := h.2 c6
      refine e_bipush (v := (-2)) dX12_played_15 (by decide) ?_
      exact e_iret rfl trivial dX12_played_17 ⟨_, rfl, h⟩
theorem w_X12_player (l : Launch) (p1 : Int32) (p2 : Int32) (p3 : Int32) (M : o_M) (q : Int32 → o_M → Prop) (h : K_X12_isInstrument l [iV p1] M (fun r2 M1 => ((r2 = 0 → q (-2) M1) ∧ (¬ r2 = 0 → K_X12_in l [iV p2, iV 0, iV 63] M1 (fun r5 M4 => ((r5 = 0 → q (-2) M4) ∧ (¬ r5 = 0 → K_X12_in l [iV p3, iV 1, iV 9] M4 (fun r8 M7 => ((¬ r8 = 0 → ((¬ (mI M7 60 7) = 10 → (mR M7 60 8 = some 69 ∧ (vp_in (mI M7 60 7) (mN M7 69) ∧ (mR (sI M7 69 ((mI M7 60 7).toNatClampNeg) p1) 60 9 = some 70 ∧ (vp_in (mI (sI M7 69 ((mI M7 60 7).toNatClampNeg) p1) 60 7) (mN (sI M7 69 ((mI M7 60 7).toNatClampNeg) p1) 70) ∧ (mR (sI (sI M7 69 ((mI M7 60 7).toNatClampNeg) p1) 70 ((mI (sI M7 69 ((mI M7 60 7).toNatClampNeg) p1) 60 7).toNatClampNeg) p2) 60 10 = some 71 ∧ (vp_in (mI (sI (sI M7 69 ((mI M7 60 7).toNatClampNeg) p1) 70 ((mI (sI M7 69 ((mI M7 60 7).toNatClampNeg) p1) 60 7).toNatClampNeg) p2) 60 7) (mN (sI (sI M7 69 ((mI M7 60 7).toNatClampNeg) p1) 70 ((mI (sI M7 69 ((mI M7 60 7).toNatClampNeg) p1) 60 7).toNatClampNeg) p2) 71) ∧ (∀ M17, M17 = sI (sI (sI M7 69 ((mI M7 60 7).toNatClampNeg) p1) 70 ((mI (sI M7 69 ((mI M7 60 7).toNatClampNeg) p1) 60 7).toNatClampNeg) p2) 71 ((mI (sI (sI M7 69 ((mI M7 60 7).toNatClampNeg) p1) 70 ((mI (sI M7 69 ((mI M7 60 7).toNatClampNeg) p1) 60 7).toNatClampNeg) p2) 60 7).toNatClampNeg) p3 → q ((mI (sI M17 60 7 ((mI M17 60 7) + 1)) 60 7) - 1) (sI M17 60 7 ((mI M17 60 7) + 1)))))))))) ∧ ((mI M7 60 7) = 10 → q (-4) M7))) ∧ (r8 = 0 → q (-2) M7)))))))))) : K_X12_player l [rV (some 60), iV p1, iV p2, iV p3] M q := by
  refine o_ctr (ini := false) (by decide +kernel) rfl (fun z => by cases z) (Nat.le_of_ble_eq_true rfl) ?_
  show E_X12_player l q 0 [(0, rV (some 60)), (1, iV p1), (2, iV p2), (3, iV p3)] [] M 0 0
  refine e_iload_n dX12_player_0 rfl rfl ?_
  refine e_callS (As := [iV p1]) (st := []) mt_X12_isInstrument is_X12_isInstrument lkX12_176 ⟨by decide, by decide⟩ (Nat.le_of_ble_eq_true rfl) ⟨by decide, by decide⟩ rfl rfl dX12_player_1 (Ctr.mono h (fun v M1 h => ?_))
  obtain ⟨r2, rfl, h⟩ := h
  show E_X12_player l q 4 [(0, rV (some 60)), (1, iV p1), (2, iV p2), (3, iV p3)] [iV r2] M1 0 0
  refine e_if_eq (tgt := 27) dX12_player_4 (by decide) (fun c3 => ?_) (fun c3 => ?_)
  · replace h := h.1 c3
    refine e_bipush (v := (-2)) dX12_player_27 (by decide) ?_
    exact e_iret rfl trivial dX12_player_29 ⟨_, rfl, h⟩
  · replace h := h.2 c3
    refine e_iload_n dX12_player_7 rfl rfl ?_
    refine e_iconst (v := 0) dX12_player_8 (by decide) ?_
    refine e_bipush (v := 63) dX12_player_9 (by decide) ?_
    refine e_callS (As := [iV p2, iV 0, iV 63]) (st := []) mt_X12_in is_X12_in lkX12_155 ⟨by decide, by decide⟩ (Nat.le_of_ble_eq_true rfl) ⟨by decide, by decide⟩ rfl rfl dX12_player_11 (Ctr.mono h (fun v M4 h => ?_))
    obtain ⟨r5, rfl, h⟩ := h
    show E_X12_player l q 14 [(0, rV (some 60)), (1, iV p1), (2, iV p2), (3, iV p3)] [iV r5] M4 0 0
    refine e_if_eq (tgt := 27) dX12_player_14 (by decide) (fun c6 => ?_) (fun c6 => ?_)
    · replace h := h.1 c6
      refine e_bipush (v := (-2)) dX12_player_27 (by decide) ?_
      exact e_iret rfl trivial dX12_player_29 ⟨_, rfl, h⟩
    · replace h := h.2 c6
      refine e_iload_n dX12_player_17 rfl rfl ?_
      refine e_iconst (v := 1) dX12_player_18 (by decide) ?_
      refine e_bipush (v := 9) dX12_player_19 (by decide) ?_
      refine e_callS (As := [iV p3, iV 1, iV 9]) (st := []) mt_X12_in is_X12_in lkX12_155 ⟨by decide, by decide⟩ (Nat.le_of_ble_eq_true rfl) ⟨by decide, by decide⟩ rfl rfl dX12_player_21 (Ctr.mono h (fun v M7 h => ?_))
      obtain ⟨r8, rfl, h⟩ := h
      show E_X12_player l q 24 [(0, rV (some 60)), (1, iV p1), (2, iV p2), (3, iV p3)] [iV r8] M7 0 0
      refine e_if_ne (tgt := 30) dX12_player_24 (by decide) (fun c9 => ?_) (fun c9 => ?_)
      · replace h := h.1 c9
        refine e_aload_n dX12_player_30 rfl rfl ?_
        refine e_gI flX12_159 rfl rfl dX12_player_31 ?_
        refine e_bipush (v := 10) dX12_player_34 (by decide) ?_
        refine e_ic_ne (tgt := 42) dX12_player_36 (by decide) (fun c10 => ?_) (fun c10 => ?_)
        · replace h := h.1 c10
          refine e_aload_n dX12_player_42 rfl rfl ?_
          obtain ⟨o11, h⟩ := h
          refine e_gA flX12_28 rfl rfl o11 dX12_player_43 ?_
          refine e_aload_n dX12_player_46 rfl rfl ?_
          refine e_gI flX12_159 rfl rfl dX12_player_47 ?_
          refine e_iload_n dX12_player_50 rfl rfl ?_
          obtain ⟨o12, h⟩ := h
          refine e_iast rfl o12 dX12_player_51 ?_
          refine e_aload_n dX12_player_52 rfl rfl ?_
          obtain ⟨o13, h⟩ := h
          refine e_gA flX12_31 rfl rfl o13 dX12_player_53 ?_
          refine e_aload_n dX12_player_56 rfl rfl ?_
          refine e_gI flX12_159 rfl rfl dX12_player_57 ?_
          refine e_iload_n dX12_player_60 rfl rfl ?_
          obtain ⟨o14, h⟩ := h
          refine e_iast rfl o14 dX12_player_61 ?_
          refine e_aload_n dX12_player_62 rfl rfl ?_
          obtain ⟨o15, h⟩ := h
          refine e_gA flX12_34 rfl rfl o15 dX12_player_63 ?_
          refine e_aload_n dX12_player_66 rfl rfl ?_
          refine e_gI flX12_159 rfl rfl dX12_player_67 ?_
          refine e_iload_n dX12_player_70 rfl rfl ?_
          obtain ⟨o16, h⟩ := h
          refine e_iast rfl o16 dX12_player_71 ?_
          generalize hgM17 : sI (sI (sI M7 69 ((mI M7 60 7).toNatClampNeg) p1) 70 ((mI (sI M7 69 ((mI M7 60 7).toNatClampNeg) p1) 60 7).toNatClampNeg) p2) 71 ((mI (sI (sI M7 69 ((mI M7 60 7).toNatClampNeg) p1) 70 ((mI (sI M7 69 ((mI M7 60 7).toNatClampNeg) p1) 60 7).toNatClampNeg) p2) 60 7).toNatClampNeg) p3 = M17
          replace h := h M17 hgM17.symm
          refine e_aload_n dX12_player_72 rfl rfl ?_
          refine e_dup rfl dX12_player_73 ?_
          refine e_gI flX12_159 rfl rfl dX12_player_74 ?_
          refine e_iconst (v := 1) dX12_player_77 (by decide) ?_
          refine e_iadd dX12_player_78 ?_
          refine e_pI flX12_159 rfl (Or.inl rfl) rfl rfl rfl dX12_player_79 ?_
          refine e_aload_n dX12_player_82 rfl rfl ?_
          refine e_gI flX12_159 rfl rfl dX12_player_83 ?_
          refine e_iconst (v := 1) dX12_player_86 (by decide) ?_
          refine e_isub dX12_player_87 ?_
          exact e_iret rfl trivial dX12_player_88 ⟨_, rfl, h⟩
        · replace h := h.2 c10
          refine e_bipush (v := (-4)) dX12_player_39 (by decide) ?_
          exact e_iret rfl trivial dX12_player_41 ⟨_, rfl, h⟩
      · replace h := h.2 c9
        refine e_bipush (v := (-2)) dX12_player_27 (by decide) ?_
        exact e_iret rfl trivial dX12_player_29 ⟨_, rfl, h⟩
abbrev H_X12_playerTold_85 (l : Launch) (q : Int32 → o_M → Prop) (v1 : Int32) (v3 : Int32) (v4 : Int32) (M : o_M) : Prop := E_X12_playerTold l q 85 [(0, rV (some 60)), (1, iV v1), (3, iV v3), (4, iV v4)] [] M 0 0
theorem w_X12_playerTold (l : Launch) (p1 : Int32) (p2 : Int32) (M : o_M) (q : Int32 → o_M → Prop) (h : K_X12_isPlayer l [rV (some 60), iV p1] M (fun r2 M1 => ((r2 = 0 → q (-2) M1) ∧ (¬ r2 = 0 → K_X12_in l [iV p2, iV 0, iV 4] M1 (fun r5 M4 => ((¬ r5 = 0 → (((p2 < 0 ∨ 3 < p2) → H_X12_playerTold_85 l q p1 0 0 M4) ∧ (p2 = 0 → (mR M4 60 8 = some 69 ∧ (vp_in p1 (mN M4 69) ∧ q (mI M4 69 p1.toNatClampNeg) M4))) ∧ (p2 = 1 → (mR M4 60 9 = some 70 ∧ (vp_in p1 (mN M4 70) ∧ q (mI M4 70 p1.toNatClampNeg) M4))) ∧ (p2 = 2 → (mR M4 60 10 = some 71 ∧ (vp_in p1 (mN M4 71) ∧ q (mI M4 71 p1.toNatClampNeg) M4))) ∧ (p2 = 3 → (mR M4 60 11 = some 72 ∧ (vp_in p1 (mN M4 72) ∧ q (mI M4 72 p1.toNatClampNeg) M4))))) ∧ (r5 = 0 → q (-2) M4))))))) : K_X12_playerTold l [rV (some 60), iV p1, iV p2] M q := by
  refine o_ctr (ini := false) (by decide +kernel) rfl (fun z => by cases z) (Nat.le_of_ble_eq_true rfl) ?_
  show E_X12_playerTold l q 0 [(0, rV (some 60)), (1, iV p1), (2, iV p2)] [] M 0 0
  refine e_aload_n dX12_playerTold_0 rfl rfl ?_
  refine e_iload_n dX12_playerTold_1 rfl rfl ?_
  refine e_callV (As := [iV p1]) (st := []) mt_X12_isPlayer in_X12_isPlayer lkX12_179 rfl rfl ⟨by decide, by decide⟩ (Nat.le_of_ble_eq_true rfl) ⟨by decide, by decide⟩ rfl rfl dX12_playerTold_2 (Ctr.mono h (fun v M1 h => ?_))
  obtain ⟨r2, rfl, h⟩ := h
  show E_X12_playerTold l q 5 [(0, rV (some 60)), (1, iV p1), (2, iV p2)] [iV r2] M1 0 0
  refine e_if_eq (tgt := 17) dX12_playerTold_5 (by decide) (fun c3 => ?_) (fun c3 => ?_)
  · replace h := h.1 c3
    refine e_bipush (v := (-2)) dX12_playerTold_17 (by decide) ?_
    exact e_iret rfl trivial dX12_playerTold_19 ⟨_, rfl, h⟩
  · replace h := h.2 c3
    refine e_iload_n dX12_playerTold_8 rfl rfl ?_
    refine e_iconst (v := 0) dX12_playerTold_9 (by decide) ?_
    refine e_iconst (v := 4) dX12_playerTold_10 (by decide) ?_
    refine e_callS (As := [iV p2, iV 0, iV 4]) (st := []) mt_X12_in is_X12_in lkX12_155 ⟨by decide, by decide⟩ (Nat.le_of_ble_eq_true rfl) ⟨by decide, by decide⟩ rfl rfl dX12_playerTold_11 (Ctr.mono h (fun v M4 h => ?_))
    obtain ⟨r5, rfl, h⟩ := h
    show E_X12_playerTold l q 14 [(0, rV (some 60)), (1, iV p1), (2, iV p2)] [iV r5] M4 0 0
    refine e_if_ne (tgt := 20) dX12_playerTold_14 (by decide) (fun c6 => ?_) (fun c6 => ?_)
    · replace h := h.1 c6
      refine e_iload_n dX12_playerTold_20 rfl rfl ?_
      rcases o_tab p2 0 3 (a := 0) (b := 3) (by decide) (by decide) with c7 | c7
      · replace h := h.1 c7
        refine e_tabOut (tgt := 80) dX12_playerTold_21 (o_tabo (by decide) (by decide) c7) (by decide) ?_
        refine e_iconst (v := 0) dX12_playerTold_80 (by decide) ?_
        refine e_istore_n (lv' := [(3, iV 0), (0, rV (some 60)), (1, iV p1), (2, iV p2)]) dX12_playerTold_81 rfl (by decide) rfl ?_
        refine e_iconst (v := 0) dX12_playerTold_82 (by decide) ?_
        refine e_istore (lv' := [(4, iV 0), (3, iV 0), (0, rV (some 60)), (1, iV p1), (2, iV p2)]) (by decide) rfl dX12_playerTold_83 ?_
        exact e_lv (List.forall_mem_cons.mpr ⟨rfl, List.forall_mem_cons.mpr ⟨rfl, List.forall_mem_cons.mpr ⟨rfl, List.forall_mem_cons.mpr ⟨rfl, fun _ h => absurd h List.not_mem_nil⟩⟩⟩⟩) h
      · have h0 := h.2
        have e1 : p2.toInt = 0 ∨ p2.toInt = 1 ∨ p2.toInt = 2 ∨ p2.toInt = 3 := by omega
        clear h; rcases e1 with e1 | e1 | e1 | e1
        · have h := h0.1 (Int32.toInt_inj.mp e1)
          refine e_tabIn (tgt := 52) (off := 31) dX12_playerTold_21 (by rw [e1]; decide) (by rw [e1]; decide) (by rw [e1]; rfl) (by decide) ?_
          refine e_aload_n dX12_playerTold_52 rfl rfl ?_
          obtain ⟨o8, h⟩ := h
          refine e_gA flX12_28 rfl rfl o8 dX12_playerTold_53 ?_
          refine e_iload_n dX12_playerTold_56 rfl rfl ?_
          obtain ⟨o9, h⟩ := h
          refine e_iald rfl o9 dX12_playerTold_57 ?_
          exact e_iret rfl trivial dX12_playerTold_58 ⟨_, rfl, h⟩
        · have h := h0.2.1 (Int32.toInt_inj.mp e1)
          refine e_tabIn (tgt := 59) (off := 38) dX12_playerTold_21 (by rw [e1]; decide) (by rw [e1]; decide) (by rw [e1]; rfl) (by decide) ?_
          refine e_aload_n dX12_playerTold_59 rfl rfl ?_
          obtain ⟨o10, h⟩ := h
          refine e_gA flX12_31 rfl rfl o10 dX12_playerTold_60 ?_
          refine e_iload_n dX12_playerTold_63 rfl rfl ?_
          obtain ⟨o11, h⟩ := h
          refine e_iald rfl o11 dX12_playerTold_64 ?_
          exact e_iret rfl trivial dX12_playerTold_65 ⟨_, rfl, h⟩
        · have h := h0.2.2.1 (Int32.toInt_inj.mp e1)
          refine e_tabIn (tgt := 66) (off := 45) dX12_playerTold_21 (by rw [e1]; decide) (by rw [e1]; decide) (by rw [e1]; rfl) (by decide) ?_
          refine e_aload_n dX12_playerTold_66 rfl rfl ?_
          obtain ⟨o12, h⟩ := h
          refine e_gA flX12_34 rfl rfl o12 dX12_playerTold_67 ?_
          refine e_iload_n dX12_playerTold_70 rfl rfl ?_
          obtain ⟨o13, h⟩ := h
          refine e_iald rfl o13 dX12_playerTold_71 ?_
          exact e_iret rfl trivial dX12_playerTold_72 ⟨_, rfl, h⟩
        · have h := h0.2.2.2 (Int32.toInt_inj.mp e1)
          refine e_tabIn (tgt := 73) (off := 52) dX12_playerTold_21 (by rw [e1]; decide) (by rw [e1]; decide) (by rw [e1]; rfl) (by decide) ?_
          refine e_aload_n dX12_playerTold_73 rfl rfl ?_
          obtain ⟨o14, h⟩ := h
          refine e_gA flX12_37 rfl rfl o14 dX12_playerTold_74 ?_
          refine e_iload_n dX12_playerTold_77 rfl rfl ?_
          obtain ⟨o15, h⟩ := h
          refine e_iald rfl o15 dX12_playerTold_78 ?_
          exact e_iret rfl trivial dX12_playerTold_79 ⟨_, rfl, h⟩
    · replace h := h.2 c6
      refine e_bipush (v := (-2)) dX12_playerTold_17 (by decide) ?_
      exact e_iret rfl trivial dX12_playerTold_19 ⟨_, rfl, h⟩
theorem w_X12_playerTold_85 (l : Launch) (q : Int32 → o_M → Prop) (v1 : Int32) (v3 : Int32) (v4 : Int32) (M : o_M) (h : (((mI M 60 14) ≤ v4 → q v3 M) ∧ (¬ (mI M 60 14) ≤ v4 → K_X12_chairOf l [rV (some 60), iV v4, iV v1] M (fun r18 M17 => ((r18 = (-1) → H_X12_playerTold_85 l q v1 (v3 + 0) (v4 + 1) M17) ∧ (¬ r18 = (-1) → H_X12_playerTold_85 l q v1 (v3 + 1) (v4 + 1) M17)))))) : H_X12_playerTold_85 l q v1 v3 v4 M := by
  refine e_iload rfl dX12_playerTold_85 ?_
  refine e_aload_n dX12_playerTold_87 rfl rfl ?_
  refine e_gI flX12_162 rfl rfl dX12_playerTold_88 ?_
  refine e_ic_ge (tgt := 119) dX12_playerTold_91 (by decide) (fun c16 => ?_) (fun c16 => ?_)
  · replace h := h.1 c16
    refine e_iload_n dX12_playerTold_119 rfl rfl ?_
    exact e_iret rfl trivial dX12_playerTold_120 ⟨_, rfl, h⟩
  · replace h := h.2 c16
    refine e_iload_n dX12_playerTold_94 rfl rfl ?_
    refine e_aload_n dX12_playerTold_95 rfl rfl ?_
    refine e_iload rfl dX12_playerTold_96 ?_
    refine e_iload_n dX12_playerTold_98 rfl rfl ?_
    refine e_callV (As := [iV v4, iV v1]) (st := [iV v3]) mt_X12_chairOf in_X12_chairOf lkX12_182 rfl rfl ⟨by decide, by decide⟩ (Nat.le_of_ble_eq_true rfl) ⟨by decide, by decide⟩ rfl rfl dX12_playerTold_99 (Ctr.mono h (fun v M17 h => ?_))
    obtain ⟨r18, rfl, h⟩ := h
    show E_X12_playerTold l q 102 [(0, rV (some 60)), (1, iV v1), (3, iV v3), (4, iV v4)] [iV r18, iV v3] M17 0 0
    refine e_iconst (v := (-1)) dX12_playerTold_102 (by decide) ?_
    refine e_ic_eq (tgt := 110) dX12_playerTold_103 (by decide) (fun c19 => ?_) (fun c19 => ?_)
    · replace h := h.1 c19
      refine e_iconst (v := 0) dX12_playerTold_110 (by decide) ?_
      refine e_iadd dX12_playerTold_111 ?_
      refine e_istore_n (lv' := [(3, iV (v3 + 0)), (0, rV (some 60)), (1, iV v1), (4, iV v4)]) dX12_playerTold_112 rfl (by decide) rfl ?_
      refine e_iinc (v := 1) (lv' := [(4, iV (v4 + 1)), (3, iV (v3 + 0)), (0, rV (some 60)), (1, iV v1)]) rfl (by decide) (by decide) rfl dX12_playerTold_113 ?_
      refine e_goto (tgt := 85) dX12_playerTold_116 (by decide) ?_
      exact e_lv (List.forall_mem_cons.mpr ⟨rfl, List.forall_mem_cons.mpr ⟨rfl, List.forall_mem_cons.mpr ⟨rfl, List.forall_mem_cons.mpr ⟨rfl, fun _ h => absurd h List.not_mem_nil⟩⟩⟩⟩) h
    · replace h := h.2 c19
      refine e_iconst (v := 1) dX12_playerTold_106 (by decide) ?_
      refine e_goto (tgt := 111) dX12_playerTold_107 (by decide) ?_
      refine e_iadd dX12_playerTold_111 ?_
      refine e_istore_n (lv' := [(3, iV (v3 + 1)), (0, rV (some 60)), (1, iV v1), (4, iV v4)]) dX12_playerTold_112 rfl (by decide) rfl ?_
      refine e_iinc (v := 1) (lv' := [(4, iV (v4 + 1)), (3, iV (v3 + 1)), (0, rV (some 60)), (1, iV v1)]) rfl (by decide) (by decide) rfl dX12_playerTold_113 ?_
      refine e_goto (tgt := 85) dX12_playerTold_116 (by decide) ?_
      exact e_lv (List.forall_mem_cons.mpr ⟨rfl, List.forall_mem_cons.mpr ⟨rfl, List.forall_mem_cons.mpr ⟨rfl, List.forall_mem_cons.mpr ⟨rfl, fun _ h => absurd h List.not_mem_nil⟩⟩⟩⟩) h
abbrev H_X12_rest_6 (l : Launch) (q : Int32 → o_M → Prop) (v1 : Int32) (v2 : Int32) (v3 : Int32) (v4 : Int32) (M : o_M) : Prop := E_X12_rest l q 6 [(0, rV (some 60)), (1, iV v1), (2, iV v2), (3, iV v3), (4, iV v4)] [] M 0 0
theorem w_X12_rest (l : Launch) (p1 : Int32) (p2 : Int32) (M : o_M) (q : Int32 → o_M → Prop) (h : H_X12_rest_6 l q p1 p2 99 0 M) : K_X12_rest l [rV (some 60), iV p1, iV p2] M q := by
  refine o_ctr (ini := false) (by decide +kernel) rfl (fun z => by cases z) (Nat.le_of_ble_eq_true rfl) ?_
  show E_X12_rest l q 0 [(0, rV (some 60)), (1, iV p1), (2, iV p2)] [] M 0 0
  refine e_bipush (v := 99) dX12_rest_0 (by decide) ?_
  refine e_istore_n (lv' := [(3, iV 99), (0, rV (some 60)), (1, iV p1), (2, iV p2)]) dX12_rest_2 rfl (by decide) rfl ?_
  refine e_iconst (v := 0) dX12_rest_3 (by decide) ?_
  refine e_istore (lv' := [(4, iV 0), (3, iV 99), (0, rV (some 60)), (1, iV p1), (2, iV p2)]) (by decide) rfl dX12_rest_4 ?_
  exact e_lv (List.forall_mem_cons.mpr ⟨rfl, List.forall_mem_cons.mpr ⟨rfl, List.forall_mem_cons.mpr ⟨rfl, List.forall_mem_cons.mpr ⟨rfl, List.forall_mem_cons.mpr ⟨rfl, fun _ h => absurd h List.not_mem_nil⟩⟩⟩⟩⟩) h
theorem w_X12_rest_6 (l : Launch) (q : Int32 → o_M → Prop) (v1 : Int32) (v2 : Int32) (v3 : Int32) (v4 : Int32) (M : o_M) (h : (((mI M 60 14) ≤ v4 → q v3 M) ∧ (¬ (mI M 60 14) ≤ v4 → ((v4 = v1 → H_X12_rest_6 l q v1 v2 v3 (v4 + 1) M) ∧ (¬ v4 = v1 → K_X12_ends l [rV (some 60), iV v4] M (fun r4 M3 => K_X12_begins l [rV (some 60), iV v1] M3 (fun r6 M5 => ((r6 < r4 → H_X12_rest_6 l q v1 v2 v3 (v4 + 1) M5) ∧ (¬ r6 < r4 → K_X12_chairOf l [rV (some 60), iV v4, iV v2] M5 (fun r9 M8 => ((r9 = (-1) → H_X12_rest_6 l q v1 v2 v3 (v4 + 1) M8) ∧ (¬ r9 = (-1) → K_X12_begins l [rV (some 60), iV v1] M8 (fun r12 M11 => K_X12_ends l [rV (some 60), iV v4] M11 (fun r14 M13 => ((v3 ≤ (r12 - r14) → H_X12_rest_6 l q v1 v2 v3 (v4 + 1) M13) ∧ (¬ v3 ≤ (r12 - r14) → K_X12_begins l [rV (some 60), iV v1] M13 (fun r17 M16 => K_X12_ends l [rV (some 60), iV v4] M16 (fun r19 M18 => H_X12_rest_6 l q v1 v2 (r17 - r19) (v4 + 1) M18)))))))))))))))))) : H_X12_rest_6 l q v1 v2 v3 v4 M := by
  refine e_iload rfl dX12_rest_6 ?_
  refine e_aload_n dX12_rest_8 rfl rfl ?_
  refine e_gI flX12_162 rfl rfl dX12_rest_9 ?_
  refine e_ic_ge (tgt := 85) dX12_rest_12 (by decide) (fun c1 => ?_) (fun c1 => ?_)
  · replace h := h.1 c1
    refine e_iload_n dX12_rest_85 rfl rfl ?_
    exact e_iret rfl trivial dX12_rest_86 ⟨_, rfl, h⟩
  · replace h := h.2 c1
    refine e_iload rfl dX12_rest_15 ?_
    refine e_iload_n dX12_rest_17 rfl rfl ?_
    refine e_ic_eq (tgt := 79) dX12_rest_18 (by decide) (fun c2 => ?_) (fun c2 => ?_)
    · replace h := h.1 c2
      refine e_iinc (v := 1) (lv' := [(4, iV (v4 + 1)), (0, rV (some 60)), (1, iV v1), (2, iV v2), (3, iV v3)]) rfl (by decide) (by decide) rfl dX12_rest_79 ?_
      refine e_goto (tgt := 6) dX12_rest_82 (by decide) ?_
      exact e_lv (List.forall_mem_cons.mpr ⟨rfl, List.forall_mem_cons.mpr ⟨rfl, List.forall_mem_cons.mpr ⟨rfl, List.forall_mem_cons.mpr ⟨rfl, List.forall_mem_cons.mpr ⟨rfl, fun _ h => absurd h List.not_mem_nil⟩⟩⟩⟩⟩) h
    · replace h := h.2 c2
      refine e_aload_n dX12_rest_21 rfl rfl ?_
      refine e_iload rfl dX12_rest_22 ?_
      refine e_callV (As := [iV v4]) (st := []) mt_X12_ends in_X12_ends lkX12_284 rfl rfl ⟨by decide, by decide⟩ (Nat.le_of_ble_eq_true rfl) ⟨by decide, by decide⟩ rfl rfl dX12_rest_24 (Ctr.mono h (fun v M3 h => ?_))
      obtain ⟨r4, rfl, h⟩ := h
      show E_X12_rest l q 27 [(0, rV (some 60)), (1, iV v1), (2, iV v2), (3, iV v3), (4, iV v4)] [iV r4] M3 0 0
      refine e_aload_n dX12_rest_27 rfl rfl ?_
      refine e_iload_n dX12_rest_28 rfl rfl ?_
      refine e_callV (As := [iV v1]) (st := [iV r4]) mt_X12_begins in_X12_begins lkX12_281 rfl rfl ⟨by decide, by decide⟩ (Nat.le_of_ble_eq_true rfl) ⟨by decide, by decide⟩ rfl rfl dX12_rest_29 (Ctr.mono h (fun v M5 h => ?_))
      obtain ⟨r6, rfl, h⟩ := h
      show E_X12_rest l q 32 [(0, rV (some 60)), (1, iV v1), (2, iV v2), (3, iV v3), (4, iV v4)] [iV r6, iV r4] M5 0 0
      refine e_ic_gt (tgt := 79) dX12_rest_32 (by decide) (fun c7 => ?_) (fun c7 => ?_)
      · replace h := h.1 c7
        refine e_iinc (v := 1) (lv' := [(4, iV (v4 + 1)), (0, rV (some 60)), (1, iV v1), (2, iV v2), (3, iV v3)]) rfl (by decide) (by decide) rfl dX12_rest_79 ?_
        refine e_goto (tgt := 6) dX12_rest_82 (by decide) ?_
        exact e_lv (List.forall_mem_cons.mpr ⟨rfl, List.forall_mem_cons.mpr ⟨rfl, List.forall_mem_cons.mpr ⟨rfl, List.forall_mem_cons.mpr ⟨rfl, List.forall_mem_cons.mpr ⟨rfl, fun _ h => absurd h List.not_mem_nil⟩⟩⟩⟩⟩) h
      · replace h := h.2 c7
        refine e_aload_n dX12_rest_35 rfl rfl ?_
        refine e_iload rfl dX12_rest_36 ?_
        refine e_iload_n dX12_rest_38 rfl rfl ?_
        refine e_callV (As := [iV v4, iV v2]) (st := []) mt_X12_chairOf in_X12_chairOf lkX12_182 rfl rfl ⟨by decide, by decide⟩ (Nat.le_of_ble_eq_true rfl) ⟨by decide, by decide⟩ rfl rfl dX12_rest_39 (Ctr.mono h (fun v M8 h => ?_))
        obtain ⟨r9, rfl, h⟩ := h
        show E_X12_rest l q 42 [(0, rV (some 60)), (1, iV v1), (2, iV v2), (3, iV v3), (4, iV v4)] [iV r9] M8 0 0
        refine e_iconst (v := (-1)) dX12_rest_42 (by decide) ?_
        refine e_ic_eq (tgt := 79) dX12_rest_43 (by decide) (fun c10 => ?_) (fun c10 => ?_)
        · replace h := h.1 c10
          refine e_iinc (v := 1) (lv' := [(4, iV (v4 + 1)), (0, rV (some 60)), (1, iV v1), (2, iV v2), (3, iV v3)]) rfl (by decide) (by decide) rfl dX12_rest_79 ?_
          refine e_goto (tgt := 6) dX12_rest_82 (by decide) ?_
          exact e_lv (List.forall_mem_cons.mpr ⟨rfl, List.forall_mem_cons.mpr ⟨rfl, List.forall_mem_cons.mpr ⟨rfl, List.forall_mem_cons.mpr ⟨rfl, List.forall_mem_cons.mpr ⟨rfl, fun _ h => absurd h List.not_mem_nil⟩⟩⟩⟩⟩) h
        · replace h := h.2 c10
          refine e_aload_n dX12_rest_46 rfl rfl ?_
          refine e_iload_n dX12_rest_47 rfl rfl ?_
          refine e_callV (As := [iV v1]) (st := []) mt_X12_begins in_X12_begins lkX12_281 rfl rfl ⟨by decide, by decide⟩ (Nat.le_of_ble_eq_true rfl) ⟨by decide, by decide⟩ rfl rfl dX12_rest_48 (Ctr.mono h (fun v M11 h => ?_))
          obtain ⟨r12, rfl, h⟩ := h
          show E_X12_rest l q 51 [(0, rV (some 60)), (1, iV v1), (2, iV v2), (3, iV v3), (4, iV v4)] [iV r12] M11 0 0
          refine e_aload_n dX12_rest_51 rfl rfl ?_
          refine e_iload rfl dX12_rest_52 ?_
          refine e_callV (As := [iV v4]) (st := [iV r12]) mt_X12_ends in_X12_ends lkX12_284 rfl rfl ⟨by decide, by decide⟩ (Nat.le_of_ble_eq_true rfl) ⟨by decide, by decide⟩ rfl rfl dX12_rest_54 (Ctr.mono h (fun v M13 h => ?_))
          obtain ⟨r14, rfl, h⟩ := h
          show E_X12_rest l q 57 [(0, rV (some 60)), (1, iV v1), (2, iV v2), (3, iV v3), (4, iV v4)] [iV r14, iV r12] M13 0 0
          refine e_isub dX12_rest_57 ?_
          refine e_iload_n dX12_rest_58 rfl rfl ?_
          refine e_ic_ge (tgt := 77) dX12_rest_59 (by decide) (fun c15 => ?_) (fun c15 => ?_)
          · replace h := h.1 c15
            refine e_iload_n dX12_rest_77 rfl rfl ?_
            refine e_istore_n (lv' := [(3, iV v3), (0, rV (some 60)), (1, iV v1), (2, iV v2), (4, iV v4)]) dX12_rest_78 rfl (by decide) rfl ?_
            refine e_iinc (v := 1) (lv' := [(4, iV (v4 + 1)), (3, iV v3), (0, rV (some 60)), (1, iV v1), (2, iV v2)]) rfl (by decide) (by decide) rfl dX12_rest_79 ?_
            refine e_goto (tgt := 6) dX12_rest_82 (by decide) ?_
            exact e_lv (List.forall_mem_cons.mpr ⟨rfl, List.forall_mem_cons.mpr ⟨rfl, List.forall_mem_cons.mpr ⟨rfl, List.forall_mem_cons.mpr ⟨rfl, List.forall_mem_cons.mpr ⟨rfl, fun _ h => absurd h List.not_mem_nil⟩⟩⟩⟩⟩) h
          · replace h := h.2 c15
            refine e_aload_n dX12_rest_62 rfl rfl ?_
            refine e_iload_n dX12_rest_63 rfl rfl ?_
            refine e_callV (As := [iV v1]) (st := []) mt_X12_begins in_X12_begins lkX12_281 rfl rfl ⟨by decide, by decide⟩ (Nat.le_of_ble_eq_true rfl) ⟨by decide, by decide⟩ rfl rfl dX12_rest_64 (Ctr.mono h (fun v M16 h => ?_))
            obtain ⟨r17, rfl, h⟩ := h
            show E_X12_rest l q 67 [(0, rV (some 60)), (1, iV v1), (2, iV v2), (3, iV v3), (4, iV v4)] [iV r17] M16 0 0
            refine e_aload_n dX12_rest_67 rfl rfl ?_
            refine e_iload rfl dX12_rest_68 ?_
            refine e_callV (As := [iV v4]) (st := [iV r17]) mt_X12_ends in_X12_ends lkX12_284 rfl rfl ⟨by decide, by decide⟩ (Nat.le_of_ble_eq_true rfl) ⟨by decide, by decide⟩ rfl rfl dX12_rest_70 (Ctr.mono h (fun v M18 h => ?_))
            obtain ⟨r19, rfl, h⟩ := h
            show E_X12_rest l q 73 [(0, rV (some 60)), (1, iV v1), (2, iV v2), (3, iV v3), (4, iV v4)] [iV r19, iV r17] M18 0 0
            refine e_isub dX12_rest_73 ?_
            refine e_goto (tgt := 78) dX12_rest_74 (by decide) ?_
            refine e_istore_n (lv' := [(3, iV (r17 - r19)), (0, rV (some 60)), (1, iV v1), (2, iV v2), (4, iV v4)]) dX12_rest_78 rfl (by decide) rfl ?_
            refine e_iinc (v := 1) (lv' := [(4, iV (v4 + 1)), (3, iV (r17 - r19)), (0, rV (some 60)), (1, iV v1), (2, iV v2)]) rfl (by decide) (by decide) rfl dX12_rest_79 ?_
            refine e_goto (tgt := 6) dX12_rest_82 (by decide) ?_
            exact e_lv (List.forall_mem_cons.mpr ⟨rfl, List.forall_mem_cons.mpr ⟨rfl, List.forall_mem_cons.mpr ⟨rfl, List.forall_mem_cons.mpr ⟨rfl, List.forall_mem_cons.mpr ⟨rfl, fun _ h => absurd h List.not_mem_nil⟩⟩⟩⟩⟩) h
theorem w_X12_rise (l : Launch) (p1 : Int32) (M : o_M) (q : Int32 → o_M → Prop) (h : K_X12_isService l [rV (some 60), iV p1] M (fun r2 M1 => ((¬ r2 = 0 → (mR M1 60 22 = some 83 ∧ (vp_in p1 (mN M1 83) ∧ ((¬ (mI M1 83 p1.toNatClampNeg) = 0 → (mR M1 60 22 = some 83 ∧ (vp_in p1 (mN M1 83) ∧ q 1 (sI M1 83 p1.toNatClampNeg (vp_nar .boolean 0))))) ∧ ((mI M1 83 p1.toNatClampNeg) = 0 → q (-3) M1))))) ∧ (r2 = 0 → q (-2) M1)))) : K_X12_rise l [rV (some 60), iV p1] M q := by
  refine o_ctr (ini := false) (by decide +kernel) rfl (fun z => by cases z) (Nat.le_of_ble_eq_true rfl) ?_
  show E_X12_rise l q 0 [(0, rV (some 60)), (1, iV p1)] [] M 0 0
  refine e_aload_n dX12_rise_0 rfl rfl ?_
  refine e_iload_n dX12_rise_1 rfl rfl ?_
  refine e_callV (As := [iV p1]) (st := []) mt_X12_isService in_X12_isService lkX12_193 rfl rfl ⟨by decide, by decide⟩ (Nat.le_of_ble_eq_true rfl) ⟨by decide, by decide⟩ rfl rfl dX12_rise_2 (Ctr.mono h (fun v M1 h => ?_))
  obtain ⟨r2, rfl, h⟩ := h
  show E_X12_rise l q 5 [(0, rV (some 60)), (1, iV p1)] [iV r2] M1 0 0
  refine e_if_ne (tgt := 11) dX12_rise_5 (by decide) (fun c3 => ?_) (fun c3 => ?_)
  · replace h := h.1 c3
    refine e_aload_n dX12_rise_11 rfl rfl ?_
    obtain ⟨o4, h⟩ := h
    refine e_gA flX12_67 rfl rfl o4 dX12_rise_12 ?_
    refine e_iload_n dX12_rise_15 rfl rfl ?_
    obtain ⟨o5, h⟩ := h
    refine e_zald rfl o5 dX12_rise_16 ?_
    refine e_if_ne (tgt := 23) dX12_rise_17 (by decide) (fun c6 => ?_) (fun c6 => ?_)
    · replace h := h.1 c6
      refine e_aload_n dX12_rise_23 rfl rfl ?_
      obtain ⟨o7, h⟩ := h
      refine e_gA flX12_67 rfl rfl o7 dX12_rise_24 ?_
      refine e_iload_n dX12_rise_27 rfl rfl ?_
      refine e_iconst (v := 0) dX12_rise_28 (by decide) ?_
      obtain ⟨o8, h⟩ := h
      refine e_zast rfl o8 dX12_rise_29 ?_
      refine e_iconst (v := 1) dX12_rise_30 (by decide) ?_
      exact e_iret rfl trivial dX12_rise_31 ⟨_, rfl, h⟩
    · replace h := h.2 c6
      refine e_bipush (v := (-3)) dX12_rise_20 (by decide) ?_
      exact e_iret rfl trivial dX12_rise_22 ⟨_, rfl, h⟩
  · replace h := h.2 c3
    refine e_bipush (v := (-2)) dX12_rise_8 (by decide) ?_
    exact e_iret rfl trivial dX12_rise_10 ⟨_, rfl, h⟩
theorem w_X12_score (l : Launch) (p1 : Int32) (p2 : Int32) (p3 : Int32) (p4 : Int32) (M : o_M) (q : Int32 → o_M → Prop) (h : K_X12_isWork l [rV (some 60), iV p1] M (fun r2 M1 => ((r2 = 0 → q (-2) M1) ∧ (¬ r2 = 0 → K_X12_in l [iV p2, iV 0, iV 2] M1 (fun r5 M4 => ((r5 = 0 → q (-2) M4) ∧ (¬ r5 = 0 → ((¬ p2 = 1 → (mR M4 60 4 = some 65 ∧ (vp_in p1 (mN M4 65) ∧ (mR (sI M4 65 p1.toNatClampNeg p2) 60 5 = some 66 ∧ (vp_in p1 (mN (sI M4 65 p1.toNatClampNeg p2) 66) ∧ (mR (sI (sI M4 65 p1.toNatClampNeg p2) 66 p1.toNatClampNeg p3) 60 6 = some 67 ∧ (vp_in p1 (mN (sI (sI M4 65 p1.toNatClampNeg p2) 66 p1.toNatClampNeg p3) 67) ∧ q 1 (sI (sI (sI M4 65 p1.toNatClampNeg p2) 66 p1.toNatClampNeg p3) 67 p1.toNatClampNeg p4)))))))) ∧ (p2 = 1 → K_X12_isDay l [iV p3] M4 (fun r15 M14 => ((r15 = 0 → q (-2) M14) ∧ (¬ r15 = 0 → K_X12_isDay l [iV p4] M14 (fun r18 M17 => ((r18 = 0 → q (-2) M17) ∧ (¬ r18 = 0 → ((p3 ≤ p4 → (mR M17 60 4 = some 65 ∧ (vp_in p1 (mN M17 65) ∧ (mR (sI M17 65 p1.toNatClampNeg p2) 60 5 = some 66 ∧ (vp_in p1 (mN (sI M17 65 p1.toNatClampNeg p2) 66) ∧ (mR (sI (sI M17 65 p1.toNatClampNeg p2) 66 p1.toNatClampNeg p3) 60 6 = some 67 ∧ (vp_in p1 (mN (sI (sI M17 65 p1.toNatClampNeg p2) 66 p1.toNatClampNeg p3) 67) ∧ q 1 (sI (sI (sI M17 65 p1.toNatClampNeg p2) 66 p1.toNatClampNeg p3) 67 p1.toNatClampNeg p4)))))))) ∧ (¬ p3 ≤ p4 → q (-2) M17))))))))))))))))) : K_X12_score l [rV (some 60), iV p1, iV p2, iV p3, iV p4] M q := by
  refine o_ctr (ini := false) (by decide +kernel) rfl (fun z => by cases z) (Nat.le_of_ble_eq_true rfl) ?_
  show E_X12_score l q 0 [(0, rV (some 60)), (1, iV p1), (2, iV p2), (3, iV p3), (4, iV p4)] [] M 0 0
  refine e_aload_n dX12_score_0 rfl rfl ?_
  refine e_iload_n dX12_score_1 rfl rfl ?_
  refine e_callV (As := [iV p1]) (st := []) mt_X12_isWork in_X12_isWork lkX12_165 rfl rfl ⟨by decide, by decide⟩ (Nat.le_of_ble_eq_true rfl) ⟨by decide, by decide⟩ rfl rfl dX12_score_2 (Ctr.mono h (fun v M1 h => ?_))
  obtain ⟨r2, rfl, h⟩ := h
  show E_X12_score l q 5 [(0, rV (some 60)), (1, iV p1), (2, iV p2), (3, iV p3), (4, iV p4)] [iV r2] M1 0 0
  refine e_if_eq (tgt := 43) dX12_score_5 (by decide) (fun c3 => ?_) (fun c3 => ?_)
  · replace h := h.1 c3
    refine e_bipush (v := (-2)) dX12_score_43 (by decide) ?_
    exact e_iret rfl trivial dX12_score_45 ⟨_, rfl, h⟩
  · replace h := h.2 c3
    refine e_iload_n dX12_score_8 rfl rfl ?_
    refine e_iconst (v := 0) dX12_score_9 (by decide) ?_
    refine e_iconst (v := 2) dX12_score_10 (by decide) ?_
    refine e_callS (As := [iV p2, iV 0, iV 2]) (st := []) mt_X12_in is_X12_in lkX12_155 ⟨by decide, by decide⟩ (Nat.le_of_ble_eq_true rfl) ⟨by decide, by decide⟩ rfl rfl dX12_score_11 (Ctr.mono h (fun v M4 h => ?_))
    obtain ⟨r5, rfl, h⟩ := h
    show E_X12_score l q 14 [(0, rV (some 60)), (1, iV p1), (2, iV p2), (3, iV p3), (4, iV p4)] [iV r5] M4 0 0
    refine e_if_eq (tgt := 43) dX12_score_14 (by decide) (fun c6 => ?_) (fun c6 => ?_)
    · replace h := h.1 c6
      refine e_bipush (v := (-2)) dX12_score_43 (by decide) ?_
      exact e_iret rfl trivial dX12_score_45 ⟨_, rfl, h⟩
    · replace h := h.2 c6
      refine e_iload_n dX12_score_17 rfl rfl ?_
      refine e_iconst (v := 1) dX12_score_18 (by decide) ?_
      refine e_ic_ne (tgt := 46) dX12_score_19 (by decide) (fun c7 => ?_) (fun c7 => ?_)
      · replace h := h.1 c7
        refine e_aload_n dX12_score_46 rfl rfl ?_
        obtain ⟨o8, h⟩ := h
        refine e_gA flX12_19 rfl rfl o8 dX12_score_47 ?_
        refine e_iload_n dX12_score_50 rfl rfl ?_
        refine e_iload_n dX12_score_51 rfl rfl ?_
        obtain ⟨o9, h⟩ := h
        refine e_iast rfl o9 dX12_score_52 ?_
        refine e_aload_n dX12_score_53 rfl rfl ?_
        obtain ⟨o10, h⟩ := h
        refine e_gA flX12_22 rfl rfl o10 dX12_score_54 ?_
        refine e_iload_n dX12_score_57 rfl rfl ?_
        refine e_iload_n dX12_score_58 rfl rfl ?_
        obtain ⟨o11, h⟩ := h
        refine e_iast rfl o11 dX12_score_59 ?_
        refine e_aload_n dX12_score_60 rfl rfl ?_
        obtain ⟨o12, h⟩ := h
        refine e_gA flX12_25 rfl rfl o12 dX12_score_61 ?_
        refine e_iload_n dX12_score_64 rfl rfl ?_
        refine e_iload rfl dX12_score_65 ?_
        obtain ⟨o13, h⟩ := h
        refine e_iast rfl o13 dX12_score_67 ?_
        refine e_iconst (v := 1) dX12_score_68 (by decide) ?_
        exact e_iret rfl trivial dX12_score_69 ⟨_, rfl, h⟩
      · replace h := h.2 c7
        refine e_iload_n dX12_score_22 rfl rfl ?_
        refine e_callS (As := [iV p3]) (st := []) mt_X12_isDay is_X12_isDay lkX12_169 ⟨by decide, by decide⟩ (Nat.le_of_ble_eq_true rfl) ⟨by decide, by decide⟩ rfl rfl dX12_score_23 (Ctr.mono h (fun v M14 h => ?_))
        obtain ⟨r15, rfl, h⟩ := h
        show E_X12_score l q 26 [(0, rV (some 60)), (1, iV p1), (2, iV p2), (3, iV p3), (4, iV p4)] [iV r15] M14 0 0
        refine e_if_eq (tgt := 43) dX12_score_26 (by decide) (fun c16 => ?_) (fun c16 => ?_)
        · replace h := h.1 c16
          refine e_bipush (v := (-2)) dX12_score_43 (by decide) ?_
          exact e_iret rfl trivial dX12_score_45 ⟨_, rfl, h⟩
        · replace h := h.2 c16
          refine e_iload rfl dX12_score_29 ?_
          refine e_callS (As := [iV p4]) (st := []) mt_X12_isDay is_X12_isDay lkX12_169 ⟨by decide, by decide⟩ (Nat.le_of_ble_eq_true rfl) ⟨by decide, by decide⟩ rfl rfl dX12_score_31 (Ctr.mono h (fun v M17 h => ?_))
          obtain ⟨r18, rfl, h⟩ := h
          show E_X12_score l q 34 [(0, rV (some 60)), (1, iV p1), (2, iV p2), (3, iV p3), (4, iV p4)] [iV r18] M17 0 0
          refine e_if_eq (tgt := 43) dX12_score_34 (by decide) (fun c19 => ?_) (fun c19 => ?_)
          · replace h := h.1 c19
            refine e_bipush (v := (-2)) dX12_score_43 (by decide) ?_
            exact e_iret rfl trivial dX12_score_45 ⟨_, rfl, h⟩
          · replace h := h.2 c19
            refine e_iload_n dX12_score_37 rfl rfl ?_
            refine e_iload rfl dX12_score_38 ?_
            refine e_ic_le (tgt := 46) dX12_score_40 (by decide) (fun c20 => ?_) (fun c20 => ?_)
            · replace h := h.1 c20
              refine e_aload_n dX12_score_46 rfl rfl ?_
              obtain ⟨o21, h⟩ := h
              refine e_gA flX12_19 rfl rfl o21 dX12_score_47 ?_
              refine e_iload_n dX12_score_50 rfl rfl ?_
              refine e_iload_n dX12_score_51 rfl rfl ?_
              obtain ⟨o22, h⟩ := h
              refine e_iast rfl o22 dX12_score_52 ?_
              refine e_aload_n dX12_score_53 rfl rfl ?_
              obtain ⟨o23, h⟩ := h
              refine e_gA flX12_22 rfl rfl o23 dX12_score_54 ?_
              refine e_iload_n dX12_score_57 rfl rfl ?_
              refine e_iload_n dX12_score_58 rfl rfl ?_
              obtain ⟨o24, h⟩ := h
              refine e_iast rfl o24 dX12_score_59 ?_
              refine e_aload_n dX12_score_60 rfl rfl ?_
              obtain ⟨o25, h⟩ := h
              refine e_gA flX12_25 rfl rfl o25 dX12_score_61 ?_
              refine e_iload_n dX12_score_64 rfl rfl ?_
              refine e_iload rfl dX12_score_65 ?_
              obtain ⟨o26, h⟩ := h
              refine e_iast rfl o26 dX12_score_67 ?_
              refine e_iconst (v := 1) dX12_score_68 (by decide) ?_
              exact e_iret rfl trivial dX12_score_69 ⟨_, rfl, h⟩
            · replace h := h.2 c20
              refine e_bipush (v := (-2)) dX12_score_43 (by decide) ?_
              exact e_iret rfl trivial dX12_score_45 ⟨_, rfl, h⟩
theorem w_X12_service (l : Launch) (p1 : Int32) (p2 : Int32) (p3 : Int32) (p4 : Int32) (M : o_M) (q : Int32 → o_M → Prop) (h : K_X12_in l [iV p1, iV 0, iV 5] M (fun r2 M1 => ((r2 = 0 → q (-2) M1) ∧ (¬ r2 = 0 → K_X12_isDay l [iV p2] M1 (fun r5 M4 => ((r5 = 0 → q (-2) M4) ∧ (¬ r5 = 0 → K_X12_in l [iV p3, iV 0, iV 23] M4 (fun r8 M7 => ((r8 = 0 → q (-2) M7) ∧ (¬ r8 = 0 → K_X12_in l [iV p4, iV 1, iV 8] M7 (fun r11 M10 => ((¬ r11 = 0 → ((¬ (mI M10 60 14) = 40 → (mR M10 60 15 = some 76 ∧ (vp_in (mI M10 60 14) (mN M10 76) ∧ (mR (sI M10 76 ((mI M10 60 14).toNatClampNeg) p1) 60 16 = some 77 ∧ (vp_in (mI (sI M10 76 ((mI M10 60 14).toNatClampNeg) p1) 60 14) (mN (sI M10 76 ((mI M10 60 14).toNatClampNeg) p1) 77) ∧ (mR (sI (sI M10 76 ((mI M10 60 14).toNatClampNeg) p1) 77 ((mI (sI M10 76 ((mI M10 60 14).toNatClampNeg) p1) 60 14).toNatClampNeg) p2) 60 17 = some 78 ∧ (vp_in (mI (sI (sI M10 76 ((mI M10 60 14).toNatClampNeg) p1) 77 ((mI (sI M10 76 ((mI M10 60 14).toNatClampNeg) p1) 60 14).toNatClampNeg) p2) 60 14) (mN (sI (sI M10 76 ((mI M10 60 14).toNatClampNeg) p1) 77 ((mI (sI M10 76 ((mI M10 60 14).toNatClampNeg) p1) 60 14).toNatClampNeg) p2) 78) ∧ (∀ M20, M20 = sI (sI (sI M10 76 ((mI M10 60 14).toNatClampNeg) p1) 77 ((mI (sI M10 76 ((mI M10 60 14).toNatClampNeg) p1) 60 14).toNatClampNeg) p2) 78 ((mI (sI (sI M10 76 ((mI M10 60 14).toNatClampNeg) p1) 77 ((mI (sI M10 76 ((mI M10 60 14).toNatClampNeg) p1) 60 14).toNatClampNeg) p2) 60 14).toNatClampNeg) p3 → (mR M20 60 18 = some 79 ∧ (vp_in (mI M20 60 14) (mN M20 79) ∧ q ((mI (sI (sI M20 79 ((mI M20 60 14).toNatClampNeg) p4) 60 14 ((mI (sI M20 79 ((mI M20 60 14).toNatClampNeg) p4) 60 14) + 1)) 60 14) - 1) (sI (sI M20 79 ((mI M20 60 14).toNatClampNeg) p4) 60 14 ((mI (sI M20 79 ((mI M20 60 14).toNatClampNeg) p4) 60 14) + 1)))))))))))) ∧ ((mI M10 60 14) = 40 → q (-4) M10))) ∧ (r11 = 0 → q (-2) M10))))))))))))) : K_X12_service l [rV (some 60), iV p1, iV p2, iV p3, iV p4] M q := by
  refine o_ctr (ini := false) (by decide +kernel) rfl (fun z => by cases z) (Nat.le_of_ble_eq_true rfl) ?_
  show E_X12_service l q 0 [(0, rV (some 60)), (1, iV p1), (2, iV p2), (3, iV p3), (4, iV p4)] [] M 0 0
  refine e_iload_n dX12_service_0 rfl rfl ?_
  refine e_iconst (v := 0) dX12_service_1 (by decide) ?_
  refine e_iconst (v := 5) dX12_service_2 (by decide) ?_
  refine e_callS (As := [iV p1, iV 0, iV 5]) (st := []) mt_X12_in is_X12_in lkX12_155 ⟨by decide, by decide⟩ (Nat.le_of_ble_eq_true rfl) ⟨by decide, by decide⟩ rfl rfl dX12_service_3 (Ctr.mono h (fun v M1 h => ?_))
  obtain ⟨r2, rfl, h⟩ := h
  show E_X12_service l q 6 [(0, rV (some 60)), (1, iV p1), (2, iV p2), (3, iV p3), (4, iV p4)] [iV r2] M1 0 0
  refine e_if_eq (tgt := 37) dX12_service_6 (by decide) (fun c3 => ?_) (fun c3 => ?_)
  · replace h := h.1 c3
    refine e_bipush (v := (-2)) dX12_service_37 (by decide) ?_
    exact e_iret rfl trivial dX12_service_39 ⟨_, rfl, h⟩
  · replace h := h.2 c3
    refine e_iload_n dX12_service_9 rfl rfl ?_
    refine e_callS (As := [iV p2]) (st := []) mt_X12_isDay is_X12_isDay lkX12_169 ⟨by decide, by decide⟩ (Nat.le_of_ble_eq_true rfl) ⟨by decide, by decide⟩ rfl rfl dX12_service_10 (Ctr.mono h (fun v M4 h => ?_))
    obtain ⟨r5, rfl, h⟩ := h
    show E_X12_service l q 13 [(0, rV (some 60)), (1, iV p1), (2, iV p2), (3, iV p3), (4, iV p4)] [iV r5] M4 0 0
    refine e_if_eq (tgt := 37) dX12_service_13 (by decide) (fun c6 => ?_) (fun c6 => ?_)
    · replace h := h.1 c6
      refine e_bipush (v := (-2)) dX12_service_37 (by decide) ?_
      exact e_iret rfl trivial dX12_service_39 ⟨_, rfl, h⟩
    · replace h := h.2 c6
      refine e_iload_n dX12_service_16 rfl rfl ?_
      refine e_iconst (v := 0) dX12_service_17 (by decide) ?_
      refine e_bipush (v := 23) dX12_service_18 (by decide) ?_
      refine e_callS (As := [iV p3, iV 0, iV 23]) (st := []) mt_X12_in is_X12_in lkX12_155 ⟨by decide, by decide⟩ (Nat.le_of_ble_eq_true rfl) ⟨by decide, by decide⟩ rfl rfl dX12_service_20 (Ctr.mono h (fun v M7 h => ?_))
      obtain ⟨r8, rfl, h⟩ := h
      show E_X12_service l q 23 [(0, rV (some 60)), (1, iV p1), (2, iV p2), (3, iV p3), (4, iV p4)] [iV r8] M7 0 0
      refine e_if_eq (tgt := 37) dX12_service_23 (by decide) (fun c9 => ?_) (fun c9 => ?_)
      · replace h := h.1 c9
        refine e_bipush (v := (-2)) dX12_service_37 (by decide) ?_
        exact e_iret rfl trivial dX12_service_39 ⟨_, rfl, h⟩
      · replace h := h.2 c9
        refine e_iload rfl dX12_service_26 ?_
        refine e_iconst (v := 1) dX12_service_28 (by decide) ?_
        refine e_bipush (v := 8) dX12_service_29 (by decide) ?_
        refine e_callS (As := [iV p4, iV 1, iV 8]) (st := []) mt_X12_in is_X12_in lkX12_155 ⟨by decide, by decide⟩ (Nat.le_of_ble_eq_true rfl) ⟨by decide, by decide⟩ rfl rfl dX12_service_31 (Ctr.mono h (fun v M10 h => ?_))
        obtain ⟨r11, rfl, h⟩ := h
        show E_X12_service l q 34 [(0, rV (some 60)), (1, iV p1), (2, iV p2), (3, iV p3), (4, iV p4)] [iV r11] M10 0 0
        refine e_if_ne (tgt := 40) dX12_service_34 (by decide) (fun c12 => ?_) (fun c12 => ?_)
        · replace h := h.1 c12
          refine e_aload_n dX12_service_40 rfl rfl ?_
          refine e_gI flX12_162 rfl rfl dX12_service_41 ?_
          refine e_bipush (v := 40) dX12_service_44 (by decide) ?_
          refine e_ic_ne (tgt := 52) dX12_service_46 (by decide) (fun c13 => ?_) (fun c13 => ?_)
          · replace h := h.1 c13
            refine e_aload_n dX12_service_52 rfl rfl ?_
            obtain ⟨o14, h⟩ := h
            refine e_gA flX12_46 rfl rfl o14 dX12_service_53 ?_
            refine e_aload_n dX12_service_56 rfl rfl ?_
            refine e_gI flX12_162 rfl rfl dX12_service_57 ?_
            refine e_iload_n dX12_service_60 rfl rfl ?_
            obtain ⟨o15, h⟩ := h
            refine e_iast rfl o15 dX12_service_61 ?_
            refine e_aload_n dX12_service_62 rfl rfl ?_
            obtain ⟨o16, h⟩ := h
            refine e_gA flX12_49 rfl rfl o16 dX12_service_63 ?_
            refine e_aload_n dX12_service_66 rfl rfl ?_
            refine e_gI flX12_162 rfl rfl dX12_service_67 ?_
            refine e_iload_n dX12_service_70 rfl rfl ?_
            obtain ⟨o17, h⟩ := h
            refine e_iast rfl o17 dX12_service_71 ?_
            refine e_aload_n dX12_service_72 rfl rfl ?_
            obtain ⟨o18, h⟩ := h
            refine e_gA flX12_52 rfl rfl o18 dX12_service_73 ?_
            refine e_aload_n dX12_service_76 rfl rfl ?_
            refine e_gI flX12_162 rfl rfl dX12_service_77 ?_
            refine e_iload_n dX12_service_80 rfl rfl ?_
            obtain ⟨o19, h⟩ := h
            refine e_iast rfl o19 dX12_service_81 ?_
            generalize hgM20 : sI (sI (sI M10 76 ((mI M10 60 14).toNatClampNeg) p1) 77 ((mI (sI M10 76 ((mI M10 60 14).toNatClampNeg) p1) 60 14).toNatClampNeg) p2) 78 ((mI (sI (sI M10 76 ((mI M10 60 14).toNatClampNeg) p1) 77 ((mI (sI M10 76 ((mI M10 60 14).toNatClampNeg) p1) 60 14).toNatClampNeg) p2) 60 14).toNatClampNeg) p3 = M20
            replace h := h M20 hgM20.symm
            refine e_aload_n dX12_service_82 rfl rfl ?_
            obtain ⟨o21, h⟩ := h
            refine e_gA flX12_55 rfl rfl o21 dX12_service_83 ?_
            refine e_aload_n dX12_service_86 rfl rfl ?_
            refine e_gI flX12_162 rfl rfl dX12_service_87 ?_
            refine e_iload rfl dX12_service_90 ?_
            obtain ⟨o22, h⟩ := h
            refine e_iast rfl o22 dX12_service_92 ?_
            refine e_aload_n dX12_service_93 rfl rfl ?_
            refine e_dup rfl dX12_service_94 ?_
            refine e_gI flX12_162 rfl rfl dX12_service_95 ?_
            refine e_iconst (v := 1) dX12_service_98 (by decide) ?_
            refine e_iadd dX12_service_99 ?_
            refine e_pI flX12_162 rfl (Or.inl rfl) rfl rfl rfl dX12_service_100 ?_
            refine e_aload_n dX12_service_103 rfl rfl ?_
            refine e_gI flX12_162 rfl rfl dX12_service_104 ?_
            refine e_iconst (v := 1) dX12_service_107 (by decide) ?_
            refine e_isub dX12_service_108 ?_
            exact e_iret rfl trivial dX12_service_109 ⟨_, rfl, h⟩
          · replace h := h.2 c13
            refine e_bipush (v := (-4)) dX12_service_49 (by decide) ?_
            exact e_iret rfl trivial dX12_service_51 ⟨_, rfl, h⟩
        · replace h := h.2 c12
          refine e_bipush (v := (-2)) dX12_service_37 (by decide) ?_
          exact e_iret rfl trivial dX12_service_39 ⟨_, rfl, h⟩
abbrev H_X12_waitOf_4 (l : Launch) (q : Int32 → o_M → Prop) (v1 : Int32) (v2 : Int32) (v3 : Int32) (M : o_M) : Prop := E_X12_waitOf l q 4 [(0, rV (some 60)), (1, iV v1), (2, iV v2), (3, iV v3)] [] M 0 0
abbrev H_X12_waitOf_19 (l : Launch) (q : Int32 → o_M → Prop) (v1 : Int32) (v2 : Int32) (v3 : Int32) (v4 : Int32) (v5 : Int32) (v6 : Int32) (M : o_M) : Prop := E_X12_waitOf l q 19 [(0, rV (some 60)), (1, iV v1), (2, iV v2), (3, iV v3), (4, iV v4), (5, iV v5), (6, iV v6)] [] M 0 0
abbrev H_X12_waitOf_74 (l : Launch) (q : Int32 → o_M → Prop) (v1 : Int32) (v2 : Int32) (v3 : Int32) (v4 : Int32) (v5 : Int32) (v6 : Int32) (M : o_M) : Prop := E_X12_waitOf l q 74 [(0, rV (some 60)), (1, iV v1), (2, iV v2), (3, iV v3), (4, iV v4), (5, iV v5), (6, iV v6)] [] M 0 0
theorem w_X12_waitOf (l : Launch) (p1 : Int32) (M : o_M) (q : Int32 → o_M → Prop) (h : H_X12_waitOf_4 l q p1 0 0 M) : K_X12_waitOf l [rV (some 60), iV p1] M q := by
  refine o_ctr (ini := false) (by decide +kernel) rfl (fun z => by cases z) (Nat.le_of_ble_eq_true rfl) ?_
  show E_X12_waitOf l q 0 [(0, rV (some 60)), (1, iV p1)] [] M 0 0
  refine e_iconst (v := 0) dX12_waitOf_0 (by decide) ?_
  refine e_istore_n (lv' := [(2, iV 0), (0, rV (some 60)), (1, iV p1)]) dX12_waitOf_1 rfl (by decide) rfl ?_
  refine e_iconst (v := 0) dX12_waitOf_2 (by decide) ?_
  refine e_istore_n (lv' := [(3, iV 0), (2, iV 0), (0, rV (some 60)), (1, iV p1)]) dX12_waitOf_3 rfl (by decide) rfl ?_
  exact e_lv (List.forall_mem_cons.mpr ⟨rfl, List.forall_mem_cons.mpr ⟨rfl, List.forall_mem_cons.mpr ⟨rfl, List.forall_mem_cons.mpr ⟨rfl, fun _ h => absurd h List.not_mem_nil⟩⟩⟩⟩) h
theorem w_X12_waitOf_4 (l : Launch) (q : Int32 → o_M → Prop) (v1 : Int32) (v2 : Int32) (v3 : Int32) (M : o_M) (h : ((6 ≤ v3 → q v2 M) ∧ (¬ 6 ≤ v3 → H_X12_waitOf_19 l q v1 v2 v3 (-1) (-1) 0 M))) : H_X12_waitOf_4 l q v1 v2 v3 M := by
  refine e_iload_n dX12_waitOf_4 rfl rfl ?_
  refine e_bipush (v := 6) dX12_waitOf_5 (by decide) ?_
  refine e_ic_ge (tgt := 141) dX12_waitOf_7 (by decide) (fun c1 => ?_) (fun c1 => ?_)
  · replace h := h.1 c1
    refine e_iload_n dX12_waitOf_141 rfl rfl ?_
    exact e_iret rfl trivial dX12_waitOf_142 ⟨_, rfl, h⟩
  · replace h := h.2 c1
    refine e_iconst (v := (-1)) dX12_waitOf_10 (by decide) ?_
    refine e_istore (lv' := [(4, iV (-1)), (0, rV (some 60)), (1, iV v1), (2, iV v2), (3, iV v3)]) (by decide) rfl dX12_waitOf_11 ?_
    refine e_iconst (v := (-1)) dX12_waitOf_13 (by decide) ?_
    refine e_istore (lv' := [(5, iV (-1)), (4, iV (-1)), (0, rV (some 60)), (1, iV v1), (2, iV v2), (3, iV v3)]) (by decide) rfl dX12_waitOf_14 ?_
    refine e_iconst (v := 0) dX12_waitOf_16 (by decide) ?_
    refine e_istore (lv' := [(6, iV 0), (5, iV (-1)), (4, iV (-1)), (0, rV (some 60)), (1, iV v1), (2, iV v2), (3, iV v3)]) (by decide) rfl dX12_waitOf_17 ?_
    exact e_lv (List.forall_mem_cons.mpr ⟨rfl, List.forall_mem_cons.mpr ⟨rfl, List.forall_mem_cons.mpr ⟨rfl, List.forall_mem_cons.mpr ⟨rfl, List.forall_mem_cons.mpr ⟨rfl, List.forall_mem_cons.mpr ⟨rfl, List.forall_mem_cons.mpr ⟨rfl, fun _ h => absurd h List.not_mem_nil⟩⟩⟩⟩⟩⟩⟩) h
theorem w_X12_waitOf_19 (l : Launch) (q : Int32 → o_M → Prop) (v1 : Int32) (v2 : Int32) (v3 : Int32) (v4 : Int32) (v5 : Int32) (v6 : Int32) (M : o_M) (h : (mR M 60 19 = some 80 ∧ (vp_in v1 (mN M 80) ∧ (((mI M 80 v1.toNatClampNeg) ≤ v6 → H_X12_waitOf_74 l q v1 v2 v3 v4 v5 v4 M) ∧ (¬ (mI M 80 v1.toNatClampNeg) ≤ v6 → (mR M 60 54 = some 115 ∧ (vp_in v6 (mN M 115) ∧ K_X12_needOf l [rV (some 60), iV (mI M 115 v6.toNatClampNeg), iV v3] M (fun r8 M7 => ((r8 ≤ 0 → H_X12_waitOf_19 l q v1 v2 v3 v4 v5 (v6 + 1) M7) ∧ (¬ r8 ≤ 0 → ((¬ v4 = (-1) → H_X12_waitOf_19 l q v1 v2 v3 v4 v6 (v6 + 1) M7) ∧ (v4 = (-1) → H_X12_waitOf_19 l q v1 v2 v3 v6 v6 (v6 + 1) M7)))))))))))) : H_X12_waitOf_19 l q v1 v2 v3 v4 v5 v6 M := by
  refine e_iload rfl dX12_waitOf_19 ?_
  refine e_aload_n dX12_waitOf_21 rfl rfl ?_
  obtain ⟨o2, h⟩ := h
  refine e_gA flX12_58 rfl rfl o2 dX12_waitOf_22 ?_
  refine e_iload_n dX12_waitOf_25 rfl rfl ?_
  obtain ⟨o3, h⟩ := h
  refine e_iald rfl o3 dX12_waitOf_26 ?_
  refine e_ic_ge (tgt := 70) dX12_waitOf_27 (by decide) (fun c4 => ?_) (fun c4 => ?_)
  · replace h := h.1 c4
    refine e_iload rfl dX12_waitOf_70 ?_
    refine e_istore (lv' := [(6, iV v4), (0, rV (some 60)), (1, iV v1), (2, iV v2), (3, iV v3), (4, iV v4), (5, iV v5)]) (by decide) rfl dX12_waitOf_72 ?_
    exact e_lv (List.forall_mem_cons.mpr ⟨rfl, List.forall_mem_cons.mpr ⟨rfl, List.forall_mem_cons.mpr ⟨rfl, List.forall_mem_cons.mpr ⟨rfl, List.forall_mem_cons.mpr ⟨rfl, List.forall_mem_cons.mpr ⟨rfl, List.forall_mem_cons.mpr ⟨rfl, fun _ h => absurd h List.not_mem_nil⟩⟩⟩⟩⟩⟩⟩) h
  · replace h := h.2 c4
    refine e_aload_n dX12_waitOf_30 rfl rfl ?_
    refine e_aload_n dX12_waitOf_31 rfl rfl ?_
    obtain ⟨o5, h⟩ := h
    refine e_gA flX12_129 rfl rfl o5 dX12_waitOf_32 ?_
    refine e_iload rfl dX12_waitOf_35 ?_
    obtain ⟨o6, h⟩ := h
    refine e_iald rfl o6 dX12_waitOf_37 ?_
    refine e_iload_n dX12_waitOf_38 rfl rfl ?_
    refine e_callV (As := [iV (mI M 115 v6.toNatClampNeg), iV v3]) (st := []) mt_X12_needOf in_X12_needOf lkX12_186 rfl rfl ⟨by decide, by decide⟩ (Nat.le_of_ble_eq_true rfl) ⟨by decide, by decide⟩ rfl rfl dX12_waitOf_39 (Ctr.mono h (fun v M7 h => ?_))
    obtain ⟨r8, rfl, h⟩ := h
    show E_X12_waitOf l q 42 [(0, rV (some 60)), (1, iV v1), (2, iV v2), (3, iV v3), (4, iV v4), (5, iV v5), (6, iV v6)] [iV r8] M7 0 0
    refine e_if_le (tgt := 64) dX12_waitOf_42 (by decide) (fun c9 => ?_) (fun c9 => ?_)
    · replace h := h.1 c9
      refine e_iinc (v := 1) (lv' := [(6, iV (v6 + 1)), (0, rV (some 60)), (1, iV v1), (2, iV v2), (3, iV v3), (4, iV v4), (5, iV v5)]) rfl (by decide) (by decide) rfl dX12_waitOf_64 ?_
      refine e_goto (tgt := 19) dX12_waitOf_67 (by decide) ?_
      exact e_lv (List.forall_mem_cons.mpr ⟨rfl, List.forall_mem_cons.mpr ⟨rfl, List.forall_mem_cons.mpr ⟨rfl, List.forall_mem_cons.mpr ⟨rfl, List.forall_mem_cons.mpr ⟨rfl, List.forall_mem_cons.mpr ⟨rfl, List.forall_mem_cons.mpr ⟨rfl, fun _ h => absurd h List.not_mem_nil⟩⟩⟩⟩⟩⟩⟩) h
    · replace h := h.2 c9
      refine e_iload rfl dX12_waitOf_45 ?_
      refine e_iconst (v := (-1)) dX12_waitOf_47 (by decide) ?_
      refine e_ic_ne (tgt := 56) dX12_waitOf_48 (by decide) (fun c10 => ?_) (fun c10 => ?_)
      · replace h := h.1 c10
        refine e_iload rfl dX12_waitOf_56 ?_
        refine e_istore (lv' := [(4, iV v4), (0, rV (some 60)), (1, iV v1), (2, iV v2), (3, iV v3), (5, iV v5), (6, iV v6)]) (by decide) rfl dX12_waitOf_58 ?_
        refine e_iload rfl dX12_waitOf_60 ?_
        refine e_istore (lv' := [(5, iV v6), (4, iV v4), (0, rV (some 60)), (1, iV v1), (2, iV v2), (3, iV v3), (6, iV v6)]) (by decide) rfl dX12_waitOf_62 ?_
        refine e_iinc (v := 1) (lv' := [(6, iV (v6 + 1)), (5, iV v6), (4, iV v4), (0, rV (some 60)), (1, iV v1), (2, iV v2), (3, iV v3)]) rfl (by decide) (by decide) rfl dX12_waitOf_64 ?_
        refine e_goto (tgt := 19) dX12_waitOf_67 (by decide) ?_
        exact e_lv (List.forall_mem_cons.mpr ⟨rfl, List.forall_mem_cons.mpr ⟨rfl, List.forall_mem_cons.mpr ⟨rfl, List.forall_mem_cons.mpr ⟨rfl, List.forall_mem_cons.mpr ⟨rfl, List.forall_mem_cons.mpr ⟨rfl, List.forall_mem_cons.mpr ⟨rfl, fun _ h => absurd h List.not_mem_nil⟩⟩⟩⟩⟩⟩⟩) h
      · replace h := h.2 c10
        refine e_iload rfl dX12_waitOf_51 ?_
        refine e_goto (tgt := 58) dX12_waitOf_53 (by decide) ?_
        refine e_istore (lv' := [(4, iV v6), (0, rV (some 60)), (1, iV v1), (2, iV v2), (3, iV v3), (5, iV v5), (6, iV v6)]) (by decide) rfl dX12_waitOf_58 ?_
        refine e_iload rfl dX12_waitOf_60 ?_
        refine e_istore (lv' := [(5, iV v6), (4, iV v6), (0, rV (some 60)), (1, iV v1), (2, iV v2), (3, iV v3), (6, iV v6)]) (by decide) rfl dX12_waitOf_62 ?_
        refine e_iinc (v := 1) (lv' := [(6, iV (v6 + 1)), (5, iV v6), (4, iV v6), (0, rV (some 60)), (1, iV v1), (2, iV v2), (3, iV v3)]) rfl (by decide) (by decide) rfl dX12_waitOf_64 ?_
        refine e_goto (tgt := 19) dX12_waitOf_67 (by decide) ?_
        exact e_lv (List.forall_mem_cons.mpr ⟨rfl, List.forall_mem_cons.mpr ⟨rfl, List.forall_mem_cons.mpr ⟨rfl, List.forall_mem_cons.mpr ⟨rfl, List.forall_mem_cons.mpr ⟨rfl, List.forall_mem_cons.mpr ⟨rfl, List.forall_mem_cons.mpr ⟨rfl, fun _ h => absurd h List.not_mem_nil⟩⟩⟩⟩⟩⟩⟩) h
theorem w_X12_waitOf_74 (l : Launch) (q : Int32 → o_M → Prop) (v1 : Int32) (v2 : Int32) (v3 : Int32) (v4 : Int32) (v5 : Int32) (v6 : Int32) (M : o_M) (h : ((v4 = (-1) → H_X12_waitOf_4 l q v1 v2 (v3 + 1) M) ∧ (¬ v4 = (-1) → ((v5 < v6 → H_X12_waitOf_4 l q v1 v2 (v3 + 1) M) ∧ (¬ v5 < v6 → (mR M 60 54 = some 115 ∧ (vp_in v6 (mN M 115) ∧ K_X12_needOf l [rV (some 60), iV (mI M 115 v6.toNatClampNeg), iV v3] M (fun r16 M15 => ((¬ r16 = 0 → H_X12_waitOf_74 l q v1 (v2 + 0) v3 v4 v5 (v6 + 1) M15) ∧ (r16 = 0 → (mR M15 60 1 = some 62 ∧ (mR M15 60 54 = some 115 ∧ (vp_in v6 (mN M15 115) ∧ (vp_in (mI M15 115 v6.toNatClampNeg) (mN M15 62) ∧ K_X12_need l [rV (some 60), iV v1, iV v3, iV (-1)] M15 (fun r23 M22 => H_X12_waitOf_74 l q v1 (v2 + ((mI M15 62 (mI M15 115 v6.toNatClampNeg).toNatClampNeg) * r23)) v3 v4 v5 (v6 + 1) M22))))))))))))))) : H_X12_waitOf_74 l q v1 v2 v3 v4 v5 v6 M := by
  refine e_iload rfl dX12_waitOf_74 ?_
  refine e_iconst (v := (-1)) dX12_waitOf_76 (by decide) ?_
  refine e_ic_eq (tgt := 135) dX12_waitOf_77 (by decide) (fun c11 => ?_) (fun c11 => ?_)
  · replace h := h.1 c11
    refine e_iinc (v := 1) (lv' := [(3, iV (v3 + 1)), (0, rV (some 60)), (1, iV v1), (2, iV v2), (4, iV v4), (5, iV v5), (6, iV v6)]) rfl (by decide) (by decide) rfl dX12_waitOf_135 ?_
    refine e_goto (tgt := 4) dX12_waitOf_138 (by decide) ?_
    exact e_lv (List.forall_mem_cons.mpr ⟨rfl, List.forall_mem_cons.mpr ⟨rfl, List.forall_mem_cons.mpr ⟨rfl, List.forall_mem_cons.mpr ⟨rfl, fun _ h => absurd h List.not_mem_nil⟩⟩⟩⟩) h
  · replace h := h.2 c11
    refine e_iload rfl dX12_waitOf_80 ?_
    refine e_iload rfl dX12_waitOf_82 ?_
    refine e_ic_gt (tgt := 135) dX12_waitOf_84 (by decide) (fun c12 => ?_) (fun c12 => ?_)
    · replace h := h.1 c12
      refine e_iinc (v := 1) (lv' := [(3, iV (v3 + 1)), (0, rV (some 60)), (1, iV v1), (2, iV v2), (4, iV v4), (5, iV v5), (6, iV v6)]) rfl (by decide) (by decide) rfl dX12_waitOf_135 ?_
      refine e_goto (tgt := 4) dX12_waitOf_138 (by decide) ?_
      exact e_lv (List.forall_mem_cons.mpr ⟨rfl, List.forall_mem_cons.mpr ⟨rfl, List.forall_mem_cons.mpr ⟨rfl, List.forall_mem_cons.mpr ⟨rfl, fun _ h => absurd h List.not_mem_nil⟩⟩⟩⟩) h
    · replace h := h.2 c12
      refine e_iload_n dX12_waitOf_87 rfl rfl ?_
      refine e_aload_n dX12_waitOf_88 rfl rfl ?_
      refine e_aload_n dX12_waitOf_89 rfl rfl ?_
      obtain ⟨o13, h⟩ := h
      refine e_gA flX12_129 rfl rfl o13 dX12_waitOf_90 ?_
      refine e_iload rfl dX12_waitOf_93 ?_
      obtain ⟨o14, h⟩ := h
      refine e_iald rfl o14 dX12_waitOf_95 ?_
      refine e_iload_n dX12_waitOf_96 rfl rfl ?_
      refine e_callV (As := [iV (mI M 115 v6.toNatClampNeg), iV v3]) (st := [iV v2]) mt_X12_needOf in_X12_needOf lkX12_186 rfl rfl ⟨by decide, by decide⟩ (Nat.le_of_ble_eq_true rfl) ⟨by decide, by decide⟩ rfl rfl dX12_waitOf_97 (Ctr.mono h (fun v M15 h => ?_))
      obtain ⟨r16, rfl, h⟩ := h
      show E_X12_waitOf l q 100 [(0, rV (some 60)), (1, iV v1), (2, iV v2), (3, iV v3), (4, iV v4), (5, iV v5), (6, iV v6)] [iV r16, iV v2] M15 0 0
      refine e_if_ne (tgt := 126) dX12_waitOf_100 (by decide) (fun c17 => ?_) (fun c17 => ?_)
      · replace h := h.1 c17
        refine e_iconst (v := 0) dX12_waitOf_126 (by decide) ?_
        refine e_iadd dX12_waitOf_127 ?_
        refine e_istore_n (lv' := [(2, iV (v2 + 0)), (0, rV (some 60)), (1, iV v1), (3, iV v3), (4, iV v4), (5, iV v5), (6, iV v6)]) dX12_waitOf_128 rfl (by decide) rfl ?_
        refine e_iinc (v := 1) (lv' := [(6, iV (v6 + 1)), (2, iV (v2 + 0)), (0, rV (some 60)), (1, iV v1), (3, iV v3), (4, iV v4), (5, iV v5)]) rfl (by decide) (by decide) rfl dX12_waitOf_129 ?_
        refine e_goto (tgt := 74) dX12_waitOf_132 (by decide) ?_
        exact e_lv (List.forall_mem_cons.mpr ⟨rfl, List.forall_mem_cons.mpr ⟨rfl, List.forall_mem_cons.mpr ⟨rfl, List.forall_mem_cons.mpr ⟨rfl, List.forall_mem_cons.mpr ⟨rfl, List.forall_mem_cons.mpr ⟨rfl, List.forall_mem_cons.mpr ⟨rfl, fun _ h => absurd h List.not_mem_nil⟩⟩⟩⟩⟩⟩⟩) h
      · replace h := h.2 c17
        refine e_aload_n dX12_waitOf_103 rfl rfl ?_
        obtain ⟨o18, h⟩ := h
        refine e_gA flX12_7 rfl rfl o18 dX12_waitOf_104 ?_
        refine e_aload_n dX12_waitOf_107 rfl rfl ?_
        obtain ⟨o19, h⟩ := h
        refine e_gA flX12_129 rfl rfl o19 dX12_waitOf_108 ?_
        refine e_iload rfl dX12_waitOf_111 ?_
        obtain ⟨o20, h⟩ := h
        refine e_iald rfl o20 dX12_waitOf_113 ?_
        obtain ⟨o21, h⟩ := h
        refine e_iald rfl o21 dX12_waitOf_114 ?_
        refine e_aload_n dX12_waitOf_115 rfl rfl ?_
        refine e_iload_n dX12_waitOf_116 rfl rfl ?_
        refine e_iload_n dX12_waitOf_117 rfl rfl ?_
        refine e_iconst (v := (-1)) dX12_waitOf_118 (by decide) ?_
        refine e_callV (As := [iV v1, iV v3, iV (-1)]) (st := [iV (mI M15 62 (mI M15 115 v6.toNatClampNeg).toNatClampNeg), iV v2]) mt_X12_need in_X12_need lkX12_189 rfl rfl ⟨by decide, by decide⟩ (Nat.le_of_ble_eq_true rfl) ⟨by decide, by decide⟩ rfl rfl dX12_waitOf_119 (Ctr.mono h (fun v M22 h => ?_))
        obtain ⟨r23, rfl, h⟩ := h
        show E_X12_waitOf l q 122 [(0, rV (some 60)), (1, iV v1), (2, iV v2), (3, iV v3), (4, iV v4), (5, iV v5), (6, iV v6)] [iV r23, iV (mI M15 62 (mI M15 115 v6.toNatClampNeg).toNatClampNeg), iV v2] M22 0 0
        refine e_imul dX12_waitOf_122 ?_
        refine e_goto (tgt := 127) dX12_waitOf_123 (by decide) ?_
        refine e_iadd dX12_waitOf_127 ?_
        refine e_istore_n (lv' := [(2, iV (v2 + ((mI M15 62 (mI M15 115 v6.toNatClampNeg).toNatClampNeg) * r23))), (0, rV (some 60)), (1, iV v1), (3, iV v3), (4, iV v4), (5, iV v5), (6, iV v6)]) dX12_waitOf_128 rfl (by decide) rfl ?_
        refine e_iinc (v := 1) (lv' := [(6, iV (v6 + 1)), (2, iV (v2 + ((mI M15 62 (mI M15 115 v6.toNatClampNeg).toNatClampNeg) * r23))), (0, rV (some 60)), (1, iV v1), (3, iV v3), (4, iV v4), (5, iV v5)]) rfl (by decide) (by decide) rfl dX12_waitOf_129 ?_
        refine e_goto (tgt := 74) dX12_waitOf_132 (by decide) ?_
        exact e_lv (List.forall_mem_cons.mpr ⟨rfl, List.forall_mem_cons.mpr ⟨rfl, List.forall_mem_cons.mpr ⟨rfl, List.forall_mem_cons.mpr ⟨rfl, List.forall_mem_cons.mpr ⟨rfl, List.forall_mem_cons.mpr ⟨rfl, List.forall_mem_cons.mpr ⟨rfl, fun _ h => absurd h List.not_mem_nil⟩⟩⟩⟩⟩⟩⟩) h
theorem w_X12_workTold (l : Launch) (p1 : Int32) (p2 : Int32) (M : o_M) (q : Int32 → o_M → Prop) (h : K_X12_isWork l [rV (some 60), iV p1] M (fun r2 M1 => ((r2 = 0 → q (-2) M1) ∧ (¬ r2 = 0 → K_X12_in l [iV p2, iV 0, iV 5] M1 (fun r5 M4 => ((¬ r5 = 0 → (((p2 < 0 ∨ 4 < p2) → (mR M4 60 4 = some 65 ∧ (vp_in p1 (mN M4 65) ∧ ((¬ (mI M4 65 p1.toNatClampNeg) = 1 → q (-1) M4) ∧ ((mI M4 65 p1.toNatClampNeg) = 1 → (mR M4 60 6 = some 67 ∧ (vp_in p1 (mN M4 67) ∧ q (mI M4 67 p1.toNatClampNeg) M4))))))) ∧ (p2 = 0 → (mR M4 60 1 = some 62 ∧ (vp_in p1 (mN M4 62) ∧ q (mI M4 62 p1.toNatClampNeg) M4))) ∧ (p2 = 1 → (mR M4 60 2 = some 63 ∧ (vp_in p1 (mN M4 63) ∧ q (mI M4 63 p1.toNatClampNeg) M4))) ∧ (p2 = 2 → (mR M4 60 3 = some 64 ∧ (vp_in p1 (mN M4 64) ∧ q (mI M4 64 p1.toNatClampNeg) M4))) ∧ (p2 = 3 → (mR M4 60 4 = some 65 ∧ (vp_in p1 (mN M4 65) ∧ q (mI M4 65 p1.toNatClampNeg) M4))) ∧ (p2 = 4 → (mR M4 60 4 = some 65 ∧ (vp_in p1 (mN M4 65) ∧ ((¬ (mI M4 65 p1.toNatClampNeg) = 1 → q (-1) M4) ∧ ((mI M4 65 p1.toNatClampNeg) = 1 → (mR M4 60 5 = some 66 ∧ (vp_in p1 (mN M4 66) ∧ q (mI M4 66 p1.toNatClampNeg) M4))))))))) ∧ (r5 = 0 → q (-2) M4))))))) : K_X12_workTold l [rV (some 60), iV p1, iV p2] M q := by
  refine o_ctr (ini := false) (by decide +kernel) rfl (fun z => by cases z) (Nat.le_of_ble_eq_true rfl) ?_
  show E_X12_workTold l q 0 [(0, rV (some 60)), (1, iV p1), (2, iV p2)] [] M 0 0
  refine e_aload_n dX12_workTold_0 rfl rfl ?_
  refine e_iload_n dX12_workTold_1 rfl rfl ?_
  refine e_callV (As := [iV p1]) (st := []) mt_X12_isWork in_X12_isWork lkX12_165 rfl rfl ⟨by decide, by decide⟩ (Nat.le_of_ble_eq_true rfl) ⟨by decide, by decide⟩ rfl rfl dX12_workTold_2 (Ctr.mono h (fun v M1 h => ?_))
  obtain ⟨r2, rfl, h⟩ := h
  show E_X12_workTold l q 5 [(0, rV (some 60)), (1, iV p1), (2, iV p2)] [iV r2] M1 0 0
  refine e_if_eq (tgt := 17) dX12_workTold_5 (by decide) (fun c3 => ?_) (fun c3 => ?_)
  · replace h := h.1 c3
    refine e_bipush (v := (-2)) dX12_workTold_17 (by decide) ?_
    exact e_iret rfl trivial dX12_workTold_19 ⟨_, rfl, h⟩
  · replace h := h.2 c3
    refine e_iload_n dX12_workTold_8 rfl rfl ?_
    refine e_iconst (v := 0) dX12_workTold_9 (by decide) ?_
    refine e_iconst (v := 5) dX12_workTold_10 (by decide) ?_
    refine e_callS (As := [iV p2, iV 0, iV 5]) (st := []) mt_X12_in is_X12_in lkX12_155 ⟨by decide, by decide⟩ (Nat.le_of_ble_eq_true rfl) ⟨by decide, by decide⟩ rfl rfl dX12_workTold_11 (Ctr.mono h (fun v M4 h => ?_))
    obtain ⟨r5, rfl, h⟩ := h
    show E_X12_workTold l q 14 [(0, rV (some 60)), (1, iV p1), (2, iV p2)] [iV r5] M4 0 0
    refine e_if_ne (tgt := 20) dX12_workTold_14 (by decide) (fun c6 => ?_) (fun c6 => ?_)
    · replace h := h.1 c6
      refine e_iload_n dX12_workTold_20 rfl rfl ?_
      rcases o_tab p2 0 4 (a := 0) (b := 4) (by decide) (by decide) with c7 | c7
      · replace h := h.1 c7
        refine e_tabOut (tgt := 105) dX12_workTold_21 (o_tabo (by decide) (by decide) c7) (by decide) ?_
        refine e_aload_n dX12_workTold_105 rfl rfl ?_
        obtain ⟨o8, h⟩ := h
        refine e_gA flX12_19 rfl rfl o8 dX12_workTold_106 ?_
        refine e_iload_n dX12_workTold_109 rfl rfl ?_
        obtain ⟨o9, h⟩ := h
        refine e_iald rfl o9 dX12_workTold_110 ?_
        refine e_iconst (v := 1) dX12_workTold_111 (by decide) ?_
        refine e_ic_ne (tgt := 124) dX12_workTold_112 (by decide) (fun c10 => ?_) (fun c10 => ?_)
        · replace h := h.1 c10
          refine e_iconst (v := (-1)) dX12_workTold_124 (by decide) ?_
          exact e_iret rfl trivial dX12_workTold_125 ⟨_, rfl, h⟩
        · replace h := h.2 c10
          refine e_aload_n dX12_workTold_115 rfl rfl ?_
          obtain ⟨o11, h⟩ := h
          refine e_gA flX12_25 rfl rfl o11 dX12_workTold_116 ?_
          refine e_iload_n dX12_workTold_119 rfl rfl ?_
          obtain ⟨o12, h⟩ := h
          refine e_iald rfl o12 dX12_workTold_120 ?_
          refine e_goto (tgt := 125) dX12_workTold_121 (by decide) ?_
          exact e_iret rfl trivial dX12_workTold_125 ⟨_, rfl, h⟩
      · have h0 := h.2
        have e1 : p2.toInt = 0 ∨ p2.toInt = 1 ∨ p2.toInt = 2 ∨ p2.toInt = 3 ∨ p2.toInt = 4 := by omega
        clear h; rcases e1 with e1 | e1 | e1 | e1 | e1
        · have h := h0.1 (Int32.toInt_inj.mp e1)
          refine e_tabIn (tgt := 56) (off := 35) dX12_workTold_21 (by rw [e1]; decide) (by rw [e1]; decide) (by rw [e1]; rfl) (by decide) ?_
          refine e_aload_n dX12_workTold_56 rfl rfl ?_
          obtain ⟨o13, h⟩ := h
          refine e_gA flX12_7 rfl rfl o13 dX12_workTold_57 ?_
          refine e_iload_n dX12_workTold_60 rfl rfl ?_
          obtain ⟨o14, h⟩ := h
          refine e_iald rfl o14 dX12_workTold_61 ?_
          exact e_iret rfl trivial dX12_workTold_62 ⟨_, rfl, h⟩
        · have h := h0.2.1 (Int32.toInt_inj.mp e1)
          refine e_tabIn (tgt := 63) (off := 42) dX12_workTold_21 (by rw [e1]; decide) (by rw [e1]; decide) (by rw [e1]; rfl) (by decide) ?_
          refine e_aload_n dX12_workTold_63 rfl rfl ?_
          obtain ⟨o15, h⟩ := h
          refine e_gA flX12_13 rfl rfl o15 dX12_workTold_64 ?_
          refine e_iload_n dX12_workTold_67 rfl rfl ?_
          obtain ⟨o16, h⟩ := h
          refine e_iald rfl o16 dX12_workTold_68 ?_
          exact e_iret rfl trivial dX12_workTold_69 ⟨_, rfl, h⟩
        · have h := h0.2.2.1 (Int32.toInt_inj.mp e1)
          refine e_tabIn (tgt := 70) (off := 49) dX12_workTold_21 (by rw [e1]; decide) (by rw [e1]; decide) (by rw [e1]; rfl) (by decide) ?_
          refine e_aload_n dX12_workTold_70 rfl rfl ?_
          obtain ⟨o17, h⟩ := h
          refine e_gA flX12_16 rfl rfl o17 dX12_workTold_71 ?_
          refine e_iload_n dX12_workTold_74 rfl rfl ?_
          obtain ⟨o18, h⟩ := h
          refine e_iald rfl o18 dX12_workTold_75 ?_
          exact e_iret rfl trivial dX12_workTold_76 ⟨_, rfl, h⟩
        · have h := h0.2.2.2.1 (Int32.toInt_inj.mp e1)
          refine e_tabIn (tgt := 77) (off := 56) dX12_workTold_21 (by rw [e1]; decide) (by rw [e1]; decide) (by rw [e1]; rfl) (by decide) ?_
          refine e_aload_n dX12_workTold_77 rfl rfl ?_
          obtain ⟨o19, h⟩ := h
          refine e_gA flX12_19 rfl rfl o19 dX12_workTold_78 ?_
          refine e_iload_n dX12_workTold_81 rfl rfl ?_
          obtain ⟨o20, h⟩ := h
          refine e_iald rfl o20 dX12_workTold_82 ?_
          exact e_iret rfl trivial dX12_workTold_83 ⟨_, rfl, h⟩
        · have h := h0.2.2.2.2 (Int32.toInt_inj.mp e1)
          refine e_tabIn (tgt := 84) (off := 63) dX12_workTold_21 (by rw [e1]; decide) (by rw [e1]; decide) (by rw [e1]; rfl) (by decide) ?_
          refine e_aload_n dX12_workTold_84 rfl rfl ?_
          obtain ⟨o21, h⟩ := h
          refine e_gA flX12_19 rfl rfl o21 dX12_workTold_85 ?_
          refine e_iload_n dX12_workTold_88 rfl rfl ?_
          obtain ⟨o22, h⟩ := h
          refine e_iald rfl o22 dX12_workTold_89 ?_
          refine e_iconst (v := 1) dX12_workTold_90 (by decide) ?_
          refine e_ic_ne (tgt := 103) dX12_workTold_91 (by decide) (fun c23 => ?_) (fun c23 => ?_)
          · replace h := h.1 c23
            refine e_iconst (v := (-1)) dX12_workTold_103 (by decide) ?_
            exact e_iret rfl trivial dX12_workTold_104 ⟨_, rfl, h⟩
          · replace h := h.2 c23
            refine e_aload_n dX12_workTold_94 rfl rfl ?_
            obtain ⟨o24, h⟩ := h
            refine e_gA flX12_22 rfl rfl o24 dX12_workTold_95 ?_
            refine e_iload_n dX12_workTold_98 rfl rfl ?_
            obtain ⟨o25, h⟩ := h
            refine e_iald rfl o25 dX12_workTold_99 ?_
            refine e_goto (tgt := 104) dX12_workTold_100 (by decide) ?_
            exact e_iret rfl trivial dX12_workTold_104 ⟨_, rfl, h⟩
    · replace h := h.2 c6
      refine e_bipush (v := (-2)) dX12_workTold_17 (by decide) ?_
      exact e_iret rfl trivial dX12_workTold_19 ⟨_, rfl, h⟩
abbrev H_X12_call_24 (l : Launch) (q : Int32 → o_M → Prop) (v1 : Int32) (v2 : Int32) (v3 : Int32) (v4 : Int32) (M : o_M) : Prop := E_X12_call l q 24 [(0, rV (some 60)), (1, iV v1), (2, iV v2), (3, iV v3), (4, iV v4)] [] M 0 0
theorem w_X12_call (l : Launch) (p1 : Int32) (p2 : Int32) (M : o_M) (q : Int32 → o_M → Prop) (h : K_X12_isService l [rV (some 60), iV p1] M (fun r2 M1 => ((r2 = 0 → q (-2) M1) ∧ (¬ r2 = 0 → K_X12_isWork l [rV (some 60), iV p2] M1 (fun r5 M4 => ((¬ r5 = 0 → H_X12_call_24 l q p1 p2 0 0 M4) ∧ (r5 = 0 → q (-2) M4))))))) : K_X12_call l [rV (some 60), iV p1, iV p2] M q := by
  refine o_ctr (ini := false) (by decide +kernel) rfl (fun z => by cases z) (Nat.le_of_ble_eq_true rfl) ?_
  show E_X12_call l q 0 [(0, rV (some 60)), (1, iV p1), (2, iV p2)] [] M 0 0
  refine e_aload_n dX12_call_0 rfl rfl ?_
  refine e_iload_n dX12_call_1 rfl rfl ?_
  refine e_callV (As := [iV p1]) (st := []) mt_X12_isService in_X12_isService lkX12_193 rfl rfl ⟨by decide, by decide⟩ (Nat.le_of_ble_eq_true rfl) ⟨by decide, by decide⟩ rfl rfl dX12_call_2 (Ctr.mono h (fun v M1 h => ?_))
  obtain ⟨r2, rfl, h⟩ := h
  show E_X12_call l q 5 [(0, rV (some 60)), (1, iV p1), (2, iV p2)] [iV r2] M1 0 0
  refine e_if_eq (tgt := 16) dX12_call_5 (by decide) (fun c3 => ?_) (fun c3 => ?_)
  · replace h := h.1 c3
    refine e_bipush (v := (-2)) dX12_call_16 (by decide) ?_
    exact e_iret rfl trivial dX12_call_18 ⟨_, rfl, h⟩
  · replace h := h.2 c3
    refine e_aload_n dX12_call_8 rfl rfl ?_
    refine e_iload_n dX12_call_9 rfl rfl ?_
    refine e_callV (As := [iV p2]) (st := []) mt_X12_isWork in_X12_isWork lkX12_165 rfl rfl ⟨by decide, by decide⟩ (Nat.le_of_ble_eq_true rfl) ⟨by decide, by decide⟩ rfl rfl dX12_call_10 (Ctr.mono h (fun v M4 h => ?_))
    obtain ⟨r5, rfl, h⟩ := h
    show E_X12_call l q 13 [(0, rV (some 60)), (1, iV p1), (2, iV p2)] [iV r5] M4 0 0
    refine e_if_ne (tgt := 19) dX12_call_13 (by decide) (fun c6 => ?_) (fun c6 => ?_)
    · replace h := h.1 c6
      refine e_iconst (v := 0) dX12_call_19 (by decide) ?_
      refine e_istore_n (lv' := [(3, iV 0), (0, rV (some 60)), (1, iV p1), (2, iV p2)]) dX12_call_20 rfl (by decide) rfl ?_
      refine e_iconst (v := 0) dX12_call_21 (by decide) ?_
      refine e_istore (lv' := [(4, iV 0), (3, iV 0), (0, rV (some 60)), (1, iV p1), (2, iV p2)]) (by decide) rfl dX12_call_22 ?_
      exact e_lv (List.forall_mem_cons.mpr ⟨rfl, List.forall_mem_cons.mpr ⟨rfl, List.forall_mem_cons.mpr ⟨rfl, List.forall_mem_cons.mpr ⟨rfl, List.forall_mem_cons.mpr ⟨rfl, fun _ h => absurd h List.not_mem_nil⟩⟩⟩⟩⟩) h
    · replace h := h.2 c6
      refine e_bipush (v := (-2)) dX12_call_16 (by decide) ?_
      exact e_iret rfl trivial dX12_call_18 ⟨_, rfl, h⟩
theorem w_X12_call_24 (l : Launch) (q : Int32 → o_M → Prop) (v1 : Int32) (v2 : Int32) (v3 : Int32) (v4 : Int32) (M : o_M) (h : (mR M 60 19 = some 80 ∧ (vp_in v1 (mN M 80) ∧ (((mI M 80 v1.toNatClampNeg) ≤ v4 → (mR M 60 22 = some 83 ∧ (vp_in v1 (mN M 83) ∧ ((¬ (mI M 83 v1.toNatClampNeg) = 0 → q (-3) M) ∧ ((mI M 83 v1.toNatClampNeg) = 0 → ((¬ v3 = 0 → q (-3) M) ∧ (v3 = 0 → K_X12_chairs l [rV (some 60), iV v1, iV v2] M (fun r15 M14 => ((r15 ≤ 12 → (mR M14 60 19 = some 80 ∧ (vp_in v1 (mN M14 80) ∧ ((¬ (mI M14 80 v1.toNatClampNeg) = 5 → (mR M14 60 20 = some 81 ∧ (mR M14 60 19 = some 80 ∧ (vp_in v1 (mN M14 80) ∧ (vp_in ((5 * v1) + (mI M14 80 v1.toNatClampNeg)) (mN M14 81) ∧ (mR (sI M14 81 (((5 * v1) + (mI M14 80 v1.toNatClampNeg)).toNatClampNeg) v2) 60 19 = some 80 ∧ (vp_in v1 (mN (sI M14 81 (((5 * v1) + (mI M14 80 v1.toNatClampNeg)).toNatClampNeg) v2) 80) ∧ (vp_in v1 (mN (sI M14 81 (((5 * v1) + (mI M14 80 v1.toNatClampNeg)).toNatClampNeg) v2) 80) ∧ (mR (sI (sI M14 81 (((5 * v1) + (mI M14 80 v1.toNatClampNeg)).toNatClampNeg) v2) 80 v1.toNatClampNeg ((mI (sI M14 81 (((5 * v1) + (mI M14 80 v1.toNatClampNeg)).toNatClampNeg) v2) 80 v1.toNatClampNeg) + 1)) 60 19 = some 80 ∧ (vp_in v1 (mN (sI (sI M14 81 (((5 * v1) + (mI M14 80 v1.toNatClampNeg)).toNatClampNeg) v2) 80 v1.toNatClampNeg ((mI (sI M14 81 (((5 * v1) + (mI M14 80 v1.toNatClampNeg)).toNatClampNeg) v2) 80 v1.toNatClampNeg) + 1)) 80) ∧ q (mI (sI (sI M14 81 (((5 * v1) + (mI M14 80 v1.toNatClampNeg)).toNatClampNeg) v2) 80 v1.toNatClampNeg ((mI (sI M14 81 (((5 * v1) + (mI M14 80 v1.toNatClampNeg)).toNatClampNeg) v2) 80 v1.toNatClampNeg) + 1)) 80 v1.toNatClampNeg) (sI (sI M14 81 (((5 * v1) + (mI M14 80 v1.toNatClampNeg)).toNatClampNeg) v2) 80 v1.toNatClampNeg ((mI (sI M14 81 (((5 * v1) + (mI M14 80 v1.toNatClampNeg)).toNatClampNeg) v2) 80 v1.toNatClampNeg) + 1)))))))))))) ∧ ((mI M14 80 v1.toNatClampNeg) = 5 → q (-4) M14))))) ∧ (¬ r15 ≤ 12 → q (-3) M14)))))))))) ∧ (¬ (mI M 80 v1.toNatClampNeg) ≤ v4 → ((¬ v3 = 0 → H_X12_call_24 l q v1 v2 1 (v4 + 1) M) ∧ (v3 = 0 → (mR M 60 20 = some 81 ∧ (vp_in ((5 * v1) + v4) (mN M 81) ∧ ((¬ (mI M 81 ((5 * v1) + v4).toNatClampNeg) = v2 → H_X12_call_24 l q v1 v2 0 (v4 + 1) M) ∧ ((mI M 81 ((5 * v1) + v4).toNatClampNeg) = v2 → H_X12_call_24 l q v1 v2 1 (v4 + 1) M))))))))))) : H_X12_call_24 l q v1 v2 v3 v4 M := by
  refine e_iload rfl dX12_call_24 ?_
  refine e_aload_n dX12_call_26 rfl rfl ?_
  obtain ⟨o7, h⟩ := h
  refine e_gA flX12_58 rfl rfl o7 dX12_call_27 ?_
  refine e_iload_n dX12_call_30 rfl rfl ?_
  obtain ⟨o8, h⟩ := h
  refine e_iald rfl o8 dX12_call_31 ?_
  refine e_ic_ge (tgt := 66) dX12_call_32 (by decide) (fun c9 => ?_) (fun c9 => ?_)
  · replace h := h.1 c9
    refine e_aload_n dX12_call_66 rfl rfl ?_
    obtain ⟨o10, h⟩ := h
    refine e_gA flX12_67 rfl rfl o10 dX12_call_67 ?_
    refine e_iload_n dX12_call_70 rfl rfl ?_
    obtain ⟨o11, h⟩ := h
    refine e_zald rfl o11 dX12_call_71 ?_
    refine e_if_ne (tgt := 90) dX12_call_72 (by decide) (fun c12 => ?_) (fun c12 => ?_)
    · replace h := h.1 c12
      refine e_bipush (v := (-3)) dX12_call_90 (by decide) ?_
      exact e_iret rfl trivial dX12_call_92 ⟨_, rfl, h⟩
    · replace h := h.2 c12
      refine e_iload_n dX12_call_75 rfl rfl ?_
      refine e_if_ne (tgt := 90) dX12_call_76 (by decide) (fun c13 => ?_) (fun c13 => ?_)
      · replace h := h.1 c13
        refine e_bipush (v := (-3)) dX12_call_90 (by decide) ?_
        exact e_iret rfl trivial dX12_call_92 ⟨_, rfl, h⟩
      · replace h := h.2 c13
        refine e_aload_n dX12_call_79 rfl rfl ?_
        refine e_iload_n dX12_call_80 rfl rfl ?_
        refine e_iload_n dX12_call_81 rfl rfl ?_
        refine e_callV (As := [iV v1, iV v2]) (st := []) mt_X12_chairs in_X12_chairs lkX12_196 rfl rfl ⟨by decide, by decide⟩ (Nat.le_of_ble_eq_true rfl) ⟨by decide, by decide⟩ rfl rfl dX12_call_82 (Ctr.mono h (fun v M14 h => ?_))
        obtain ⟨r15, rfl, h⟩ := h
        show E_X12_call l q 85 [(0, rV (some 60)), (1, iV v1), (2, iV v2), (3, iV v3), (4, iV v4)] [iV r15] M14 0 0
        refine e_bipush (v := 12) dX12_call_85 (by decide) ?_
        refine e_ic_le (tgt := 93) dX12_call_87 (by decide) (fun c16 => ?_) (fun c16 => ?_)
        · replace h := h.1 c16
          refine e_aload_n dX12_call_93 rfl rfl ?_
          obtain ⟨o17, h⟩ := h
          refine e_gA flX12_58 rfl rfl o17 dX12_call_94 ?_
          refine e_iload_n dX12_call_97 rfl rfl ?_
          obtain ⟨o18, h⟩ := h
          refine e_iald rfl o18 dX12_call_98 ?_
          refine e_iconst (v := 5) dX12_call_99 (by decide) ?_
          refine e_ic_ne (tgt := 106) dX12_call_100 (by decide) (fun c19 => ?_) (fun c19 => ?_)
          · replace h := h.1 c19
            refine e_aload_n dX12_call_106 rfl rfl ?_
            obtain ⟨o20, h⟩ := h
            refine e_gA flX12_61 rfl rfl o20 dX12_call_107 ?_
            refine e_iconst (v := 5) dX12_call_110 (by decide) ?_
            refine e_iload_n dX12_call_111 rfl rfl ?_
            refine e_imul dX12_call_112 ?_
            refine e_aload_n dX12_call_113 rfl rfl ?_
            obtain ⟨o21, h⟩ := h
            refine e_gA flX12_58 rfl rfl o21 dX12_call_114 ?_
            refine e_iload_n dX12_call_117 rfl rfl ?_
            obtain ⟨o22, h⟩ := h
            refine e_iald rfl o22 dX12_call_118 ?_
            refine e_iadd dX12_call_119 ?_
            refine e_iload_n dX12_call_120 rfl rfl ?_
            obtain ⟨o23, h⟩ := h
            refine e_iast rfl o23 dX12_call_121 ?_
            refine e_aload_n dX12_call_122 rfl rfl ?_
            obtain ⟨o24, h⟩ := h
            refine e_gA flX12_58 rfl rfl o24 dX12_call_123 ?_
            refine e_iload_n dX12_call_126 rfl rfl ?_
            refine e_dup2 rfl rfl dX12_call_127 ?_
            obtain ⟨o25, h⟩ := h
            refine e_iald rfl o25 dX12_call_128 ?_
            refine e_iconst (v := 1) dX12_call_129 (by decide) ?_
            refine e_iadd dX12_call_130 ?_
            obtain ⟨o26, h⟩ := h
            refine e_iast rfl o26 dX12_call_131 ?_
            refine e_aload_n dX12_call_132 rfl rfl ?_
            obtain ⟨o27, h⟩ := h
            refine e_gA flX12_58 rfl rfl o27 dX12_call_133 ?_
            refine e_iload_n dX12_call_136 rfl rfl ?_
            obtain ⟨o28, h⟩ := h
            refine e_iald rfl o28 dX12_call_137 ?_
            exact e_iret rfl trivial dX12_call_138 ⟨_, rfl, h⟩
          · replace h := h.2 c19
            refine e_bipush (v := (-4)) dX12_call_103 (by decide) ?_
            exact e_iret rfl trivial dX12_call_105 ⟨_, rfl, h⟩
        · replace h := h.2 c16
          refine e_bipush (v := (-3)) dX12_call_90 (by decide) ?_
          exact e_iret rfl trivial dX12_call_92 ⟨_, rfl, h⟩
  · replace h := h.2 c9
    refine e_iload_n dX12_call_35 rfl rfl ?_
    refine e_if_ne (tgt := 54) dX12_call_36 (by decide) (fun c29 => ?_) (fun c29 => ?_)
    · replace h := h.1 c29
      refine e_iconst (v := 1) dX12_call_54 (by decide) ?_
      refine e_goto (tgt := 59) dX12_call_55 (by decide) ?_
      refine e_istore_n (lv' := [(3, iV 1), (0, rV (some 60)), (1, iV v1), (2, iV v2), (4, iV v4)]) dX12_call_59 rfl (by decide) rfl ?_
      refine e_iinc (v := 1) (lv' := [(4, iV (v4 + 1)), (3, iV 1), (0, rV (some 60)), (1, iV v1), (2, iV v2)]) rfl (by decide) (by decide) rfl dX12_call_60 ?_
      refine e_goto (tgt := 24) dX12_call_63 (by decide) ?_
      exact e_lv (List.forall_mem_cons.mpr ⟨rfl, List.forall_mem_cons.mpr ⟨rfl, List.forall_mem_cons.mpr ⟨rfl, List.forall_mem_cons.mpr ⟨rfl, List.forall_mem_cons.mpr ⟨rfl, fun _ h => absurd h List.not_mem_nil⟩⟩⟩⟩⟩) h
    · replace h := h.2 c29
      refine e_aload_n dX12_call_39 rfl rfl ?_
      obtain ⟨o30, h⟩ := h
      refine e_gA flX12_61 rfl rfl o30 dX12_call_40 ?_
      refine e_iconst (v := 5) dX12_call_43 (by decide) ?_
      refine e_iload_n dX12_call_44 rfl rfl ?_
      refine e_imul dX12_call_45 ?_
      refine e_iload rfl dX12_call_46 ?_
      refine e_iadd dX12_call_48 ?_
      obtain ⟨o31, h⟩ := h
      refine e_iald rfl o31 dX12_call_49 ?_
      refine e_iload_n dX12_call_50 rfl rfl ?_
      refine e_ic_ne (tgt := 58) dX12_call_51 (by decide) (fun c32 => ?_) (fun c32 => ?_)
      · replace h := h.1 c32
        refine e_iconst (v := 0) dX12_call_58 (by decide) ?_
        refine e_istore_n (lv' := [(3, iV 0), (0, rV (some 60)), (1, iV v1), (2, iV v2), (4, iV v4)]) dX12_call_59 rfl (by decide) rfl ?_
        refine e_iinc (v := 1) (lv' := [(4, iV (v4 + 1)), (3, iV 0), (0, rV (some 60)), (1, iV v1), (2, iV v2)]) rfl (by decide) (by decide) rfl dX12_call_60 ?_
        refine e_goto (tgt := 24) dX12_call_63 (by decide) ?_
        exact e_lv (List.forall_mem_cons.mpr ⟨rfl, List.forall_mem_cons.mpr ⟨rfl, List.forall_mem_cons.mpr ⟨rfl, List.forall_mem_cons.mpr ⟨rfl, List.forall_mem_cons.mpr ⟨rfl, fun _ h => absurd h List.not_mem_nil⟩⟩⟩⟩⟩) h
      · replace h := h.2 c32
        refine e_iconst (v := 1) dX12_call_54 (by decide) ?_
        refine e_goto (tgt := 59) dX12_call_55 (by decide) ?_
        refine e_istore_n (lv' := [(3, iV 1), (0, rV (some 60)), (1, iV v1), (2, iV v2), (4, iV v4)]) dX12_call_59 rfl (by decide) rfl ?_
        refine e_iinc (v := 1) (lv' := [(4, iV (v4 + 1)), (3, iV 1), (0, rV (some 60)), (1, iV v1), (2, iV v2)]) rfl (by decide) (by decide) rfl dX12_call_60 ?_
        refine e_goto (tgt := 24) dX12_call_63 (by decide) ?_
        exact e_lv (List.forall_mem_cons.mpr ⟨rfl, List.forall_mem_cons.mpr ⟨rfl, List.forall_mem_cons.mpr ⟨rfl, List.forall_mem_cons.mpr ⟨rfl, List.forall_mem_cons.mpr ⟨rfl, fun _ h => absurd h List.not_mem_nil⟩⟩⟩⟩⟩) h
abbrev H_X12_gapsIn_4 (l : Launch) (q : Int32 → o_M → Prop) (v1 : Int32) (v2 : Int32) (v3 : Int32) (M : o_M) : Prop := E_X12_gapsIn l q 4 [(0, rV (some 60)), (1, iV v1), (2, iV v2), (3, iV v3)] [] M 0 0
theorem w_X12_gapsIn (l : Launch) (p1 : Int32) (M : o_M) (q : Int32 → o_M → Prop) (h : H_X12_gapsIn_4 l q p1 0 0 M) : K_X12_gapsIn l [rV (some 60), iV p1] M q := by
  refine o_ctr (ini := false) (by decide +kernel) rfl (fun z => by cases z) (Nat.le_of_ble_eq_true rfl) ?_
  show E_X12_gapsIn l q 0 [(0, rV (some 60)), (1, iV p1)] [] M 0 0
  refine e_iconst (v := 0) dX12_gapsIn_0 (by decide) ?_
  refine e_istore_n (lv' := [(2, iV 0), (0, rV (some 60)), (1, iV p1)]) dX12_gapsIn_1 rfl (by decide) rfl ?_
  refine e_iconst (v := 0) dX12_gapsIn_2 (by decide) ?_
  refine e_istore_n (lv' := [(3, iV 0), (2, iV 0), (0, rV (some 60)), (1, iV p1)]) dX12_gapsIn_3 rfl (by decide) rfl ?_
  exact e_lv (List.forall_mem_cons.mpr ⟨rfl, List.forall_mem_cons.mpr ⟨rfl, List.forall_mem_cons.mpr ⟨rfl, List.forall_mem_cons.mpr ⟨rfl, fun _ h => absurd h List.not_mem_nil⟩⟩⟩⟩) h
theorem w_X12_gapsIn_4 (l : Launch) (q : Int32 → o_M → Prop) (v1 : Int32) (v2 : Int32) (v3 : Int32) (M : o_M) (h : K_X12_chairs l [rV (some 60), iV v1, iV (-1)] M (fun r2 M1 => ((r2 ≤ v3 → q v2 M1) ∧ (¬ r2 ≤ v3 → (mR M1 60 21 = some 82 ∧ (vp_in ((12 * v1) + v3) (mN M1 82) ∧ ((¬ (mI M1 82 ((12 * v1) + v3).toNatClampNeg) = (-1) → H_X12_gapsIn_4 l q v1 (v2 + 0) (v3 + 1) M1) ∧ ((mI M1 82 ((12 * v1) + v3).toNatClampNeg) = (-1) → H_X12_gapsIn_4 l q v1 (v2 + 1) (v3 + 1) M1)))))))) : H_X12_gapsIn_4 l q v1 v2 v3 M := by
  refine e_iload_n dX12_gapsIn_4 rfl rfl ?_
  refine e_aload_n dX12_gapsIn_5 rfl rfl ?_
  refine e_iload_n dX12_gapsIn_6 rfl rfl ?_
  refine e_iconst (v := (-1)) dX12_gapsIn_7 (by decide) ?_
  refine e_callV (As := [iV v1, iV (-1)]) (st := [iV v3]) mt_X12_chairs in_X12_chairs lkX12_196 rfl rfl ⟨by decide, by decide⟩ (Nat.le_of_ble_eq_true rfl) ⟨by decide, by decide⟩ rfl rfl dX12_gapsIn_8 (Ctr.mono h (fun v M1 h => ?_))
  obtain ⟨r2, rfl, h⟩ := h
  show E_X12_gapsIn l q 11 [(0, rV (some 60)), (1, iV v1), (2, iV v2), (3, iV v3)] [iV r2, iV v3] M1 0 0
  refine e_ic_ge (tgt := 43) dX12_gapsIn_11 (by decide) (fun c3 => ?_) (fun c3 => ?_)
  · replace h := h.1 c3
    refine e_iload_n dX12_gapsIn_43 rfl rfl ?_
    exact e_iret rfl trivial dX12_gapsIn_44 ⟨_, rfl, h⟩
  · replace h := h.2 c3
    refine e_iload_n dX12_gapsIn_14 rfl rfl ?_
    refine e_aload_n dX12_gapsIn_15 rfl rfl ?_
    obtain ⟨o4, h⟩ := h
    refine e_gA flX12_64 rfl rfl o4 dX12_gapsIn_16 ?_
    refine e_bipush (v := 12) dX12_gapsIn_19 (by decide) ?_
    refine e_iload_n dX12_gapsIn_21 rfl rfl ?_
    refine e_imul dX12_gapsIn_22 ?_
    refine e_iload_n dX12_gapsIn_23 rfl rfl ?_
    refine e_iadd dX12_gapsIn_24 ?_
    obtain ⟨o5, h⟩ := h
    refine e_iald rfl o5 dX12_gapsIn_25 ?_
    refine e_iconst (v := (-1)) dX12_gapsIn_26 (by decide) ?_
    refine e_ic_ne (tgt := 34) dX12_gapsIn_27 (by decide) (fun c6 => ?_) (fun c6 => ?_)
    · replace h := h.1 c6
      refine e_iconst (v := 0) dX12_gapsIn_34 (by decide) ?_
      refine e_iadd dX12_gapsIn_35 ?_
      refine e_istore_n (lv' := [(2, iV (v2 + 0)), (0, rV (some 60)), (1, iV v1), (3, iV v3)]) dX12_gapsIn_36 rfl (by decide) rfl ?_
      refine e_iinc (v := 1) (lv' := [(3, iV (v3 + 1)), (2, iV (v2 + 0)), (0, rV (some 60)), (1, iV v1)]) rfl (by decide) (by decide) rfl dX12_gapsIn_37 ?_
      refine e_goto (tgt := 4) dX12_gapsIn_40 (by decide) ?_
      exact e_lv (List.forall_mem_cons.mpr ⟨rfl, List.forall_mem_cons.mpr ⟨rfl, List.forall_mem_cons.mpr ⟨rfl, List.forall_mem_cons.mpr ⟨rfl, fun _ h => absurd h List.not_mem_nil⟩⟩⟩⟩) h
    · replace h := h.2 c6
      refine e_iconst (v := 1) dX12_gapsIn_30 (by decide) ?_
      refine e_goto (tgt := 35) dX12_gapsIn_31 (by decide) ?_
      refine e_iadd dX12_gapsIn_35 ?_
      refine e_istore_n (lv' := [(2, iV (v2 + 1)), (0, rV (some 60)), (1, iV v1), (3, iV v3)]) dX12_gapsIn_36 rfl (by decide) rfl ?_
      refine e_iinc (v := 1) (lv' := [(3, iV (v3 + 1)), (2, iV (v2 + 1)), (0, rV (some 60)), (1, iV v1)]) rfl (by decide) (by decide) rfl dX12_gapsIn_37 ?_
      refine e_goto (tgt := 4) dX12_gapsIn_40 (by decide) ?_
      exact e_lv (List.forall_mem_cons.mpr ⟨rfl, List.forall_mem_cons.mpr ⟨rfl, List.forall_mem_cons.mpr ⟨rfl, List.forall_mem_cons.mpr ⟨rfl, fun _ h => absurd h List.not_mem_nil⟩⟩⟩⟩) h
theorem w_X12_named (l : Launch) (p1 : Int32) (p2 : Int32) (p3 : Int32) (p4 : Int32) (M : o_M) (q : Int32 → o_M → Prop) (h : (((p1 < 0 ∨ 8 < p1) → K_X12_rest l [rV (some 60), iV p2, iV p3] M (fun r3 M2 => q r3 M2)) ∧ (p1 = 0 → (mR M 60 15 = some 76 ∧ (vp_in p2 (mN M 76) ∧ q (mI M 76 p2.toNatClampNeg) M))) ∧ (p1 = 1 → (mR M 60 16 = some 77 ∧ (vp_in p2 (mN M 77) ∧ q ((mI M 77 p2.toNatClampNeg) - (mI M 77 p2.toNatClampNeg) / 7 * 7) M))) ∧ (p1 = 2 → (mR M 60 17 = some 78 ∧ (vp_in p2 (mN M 78) ∧ q (mI M 78 p2.toNatClampNeg) M))) ∧ (p1 = 3 → (mR M 60 18 = some 79 ∧ (vp_in p2 (mN M 79) ∧ q (mI M 79 p2.toNatClampNeg) M))) ∧ (p1 = 4 → q p4 M) ∧ (p1 = 5 → (mR M 60 8 = some 69 ∧ (vp_in p3 (mN M 69) ∧ q (mI M 69 p3.toNatClampNeg) M))) ∧ (p1 = 6 → (mR M 60 8 = some 69 ∧ (vp_in p3 (mN M 69) ∧ ((p4 = (mI M 69 p3.toNatClampNeg) → q 0 M) ∧ (¬ p4 = (mI M 69 p3.toNatClampNeg) → q 1 M))))) ∧ (p1 = 7 → (mR M 60 10 = some 71 ∧ (vp_in p3 (mN M 71) ∧ q (mI M 71 p3.toNatClampNeg) M))) ∧ (p1 = 8 → K_X12_week l [rV (some 60), iV p2, iV p3] M (fun r20 M19 => q r20 M19)))) : K_X12_named l [rV (some 60), iV p1, iV p2, iV p3, iV p4] M q := by
  refine o_ctr (ini := false) (by decide +kernel) rfl (fun z => by cases z) (Nat.le_of_ble_eq_true rfl) ?_
  show E_X12_named l q 0 [(0, rV (some 60)), (1, iV p1), (2, iV p2), (3, iV p3), (4, iV p4)] [] M 0 0
  refine e_iload_n dX12_named_0 rfl rfl ?_
  rcases o_tab p1 0 8 (a := 0) (b := 8) (by decide) (by decide) with c1 | c1
  · replace h := h.1 c1
    refine e_tabOut (tgt := 124) dX12_named_1 (o_tabo (by decide) (by decide) c1) (by decide) ?_
    refine e_aload_n dX12_named_124 rfl rfl ?_
    refine e_iload_n dX12_named_125 rfl rfl ?_
    refine e_iload_n dX12_named_126 rfl rfl ?_
    refine e_callV (As := [iV p2, iV p3]) (st := []) mt_X12_rest in_X12_rest lkX12_290 rfl rfl ⟨by decide, by decide⟩ (Nat.le_of_ble_eq_true rfl) ⟨by decide, by decide⟩ rfl rfl dX12_named_127 (Ctr.mono h (fun v M2 h => ?_))
    obtain ⟨r3, rfl, h⟩ := h
    show E_X12_named l q 130 [(0, rV (some 60)), (1, iV p1), (2, iV p2), (3, iV p3), (4, iV p4)] [iV r3] M2 0 0
    exact e_iret rfl trivial dX12_named_130 ⟨_, rfl, h⟩
  · have h0 := h.2
    have e1 : p1.toInt = 0 ∨ p1.toInt = 1 ∨ p1.toInt = 2 ∨ p1.toInt = 3 ∨ p1.toInt = 4 ∨ p1.toInt = 5 ∨ p1.toInt = 6 ∨ p1.toInt = 7 ∨ p1.toInt = 8 := by omega
    clear h; rcases e1 with e1 | e1 | e1 | e1 | e1 | e1 | e1 | e1 | e1
    · have h := h0.1 (Int32.toInt_inj.mp e1)
      refine e_tabIn (tgt := 52) (off := 51) dX12_named_1 (by rw [e1]; decide) (by rw [e1]; decide) (by rw [e1]; rfl) (by decide) ?_
      refine e_aload_n dX12_named_52 rfl rfl ?_
      obtain ⟨o4, h⟩ := h
      refine e_gA flX12_46 rfl rfl o4 dX12_named_53 ?_
      refine e_iload_n dX12_named_56 rfl rfl ?_
      obtain ⟨o5, h⟩ := h
      refine e_iald rfl o5 dX12_named_57 ?_
      exact e_iret rfl trivial dX12_named_58 ⟨_, rfl, h⟩
    · have h := h0.2.1 (Int32.toInt_inj.mp e1)
      refine e_tabIn (tgt := 59) (off := 58) dX12_named_1 (by rw [e1]; decide) (by rw [e1]; decide) (by rw [e1]; rfl) (by decide) ?_
      refine e_aload_n dX12_named_59 rfl rfl ?_
      obtain ⟨o6, h⟩ := h
      refine e_gA flX12_49 rfl rfl o6 dX12_named_60 ?_
      refine e_iload_n dX12_named_63 rfl rfl ?_
      obtain ⟨o7, h⟩ := h
      refine e_iald rfl o7 dX12_named_64 ?_
      refine e_bipush (v := 7) dX12_named_65 (by decide) ?_
      refine e_irem dX12_named_67 (by decide) ?_
      exact e_iret rfl trivial dX12_named_68 ⟨_, rfl, h⟩
    · have h := h0.2.2.1 (Int32.toInt_inj.mp e1)
      refine e_tabIn (tgt := 69) (off := 68) dX12_named_1 (by rw [e1]; decide) (by rw [e1]; decide) (by rw [e1]; rfl) (by decide) ?_
      refine e_aload_n dX12_named_69 rfl rfl ?_
      obtain ⟨o8, h⟩ := h
      refine e_gA flX12_52 rfl rfl o8 dX12_named_70 ?_
      refine e_iload_n dX12_named_73 rfl rfl ?_
      obtain ⟨o9, h⟩ := h
      refine e_iald rfl o9 dX12_named_74 ?_
      exact e_iret rfl trivial dX12_named_75 ⟨_, rfl, h⟩
    · have h := h0.2.2.2.1 (Int32.toInt_inj.mp e1)
      refine e_tabIn (tgt := 76) (off := 75) dX12_named_1 (by rw [e1]; decide) (by rw [e1]; decide) (by rw [e1]; rfl) (by decide) ?_
      refine e_aload_n dX12_named_76 rfl rfl ?_
      obtain ⟨o10, h⟩ := h
      refine e_gA flX12_55 rfl rfl o10 dX12_named_77 ?_
      refine e_iload_n dX12_named_80 rfl rfl ?_
      obtain ⟨o11, h⟩ := h
      refine e_iald rfl o11 dX12_named_81 ?_
      exact e_iret rfl trivial dX12_named_82 ⟨_, rfl, h⟩
    · have h := h0.2.2.2.2.1 (Int32.toInt_inj.mp e1)
      refine e_tabIn (tgt := 83) (off := 82) dX12_named_1 (by rw [e1]; decide) (by rw [e1]; decide) (by rw [e1]; rfl) (by decide) ?_
      refine e_iload rfl dX12_named_83 ?_
      exact e_iret rfl trivial dX12_named_85 ⟨_, rfl, h⟩
    · have h := h0.2.2.2.2.2.1 (Int32.toInt_inj.mp e1)
      refine e_tabIn (tgt := 86) (off := 85) dX12_named_1 (by rw [e1]; decide) (by rw [e1]; decide) (by rw [e1]; rfl) (by decide) ?_
      refine e_aload_n dX12_named_86 rfl rfl ?_
      obtain ⟨o12, h⟩ := h
      refine e_gA flX12_28 rfl rfl o12 dX12_named_87 ?_
      refine e_iload_n dX12_named_90 rfl rfl ?_
      obtain ⟨o13, h⟩ := h
      refine e_iald rfl o13 dX12_named_91 ?_
      exact e_iret rfl trivial dX12_named_92 ⟨_, rfl, h⟩
    · have h := h0.2.2.2.2.2.2.1 (Int32.toInt_inj.mp e1)
      refine e_tabIn (tgt := 93) (off := 92) dX12_named_1 (by rw [e1]; decide) (by rw [e1]; decide) (by rw [e1]; rfl) (by decide) ?_
      refine e_iload rfl dX12_named_93 ?_
      refine e_aload_n dX12_named_95 rfl rfl ?_
      obtain ⟨o14, h⟩ := h
      refine e_gA flX12_28 rfl rfl o14 dX12_named_96 ?_
      refine e_iload_n dX12_named_99 rfl rfl ?_
      obtain ⟨o15, h⟩ := h
      refine e_iald rfl o15 dX12_named_100 ?_
      refine e_ic_eq (tgt := 108) dX12_named_101 (by decide) (fun c16 => ?_) (fun c16 => ?_)
      · replace h := h.1 c16
        refine e_iconst (v := 0) dX12_named_108 (by decide) ?_
        exact e_iret rfl trivial dX12_named_109 ⟨_, rfl, h⟩
      · replace h := h.2 c16
        refine e_iconst (v := 1) dX12_named_104 (by decide) ?_
        refine e_goto (tgt := 109) dX12_named_105 (by decide) ?_
        exact e_iret rfl trivial dX12_named_109 ⟨_, rfl, h⟩
    · have h := h0.2.2.2.2.2.2.2.1 (Int32.toInt_inj.mp e1)
      refine e_tabIn (tgt := 110) (off := 109) dX12_named_1 (by rw [e1]; decide) (by rw [e1]; decide) (by rw [e1]; rfl) (by decide) ?_
      refine e_aload_n dX12_named_110 rfl rfl ?_
      obtain ⟨o17, h⟩ := h
      refine e_gA flX12_34 rfl rfl o17 dX12_named_111 ?_
      refine e_iload_n dX12_named_114 rfl rfl ?_
      obtain ⟨o18, h⟩ := h
      refine e_iald rfl o18 dX12_named_115 ?_
      exact e_iret rfl trivial dX12_named_116 ⟨_, rfl, h⟩
    · have h := h0.2.2.2.2.2.2.2.2 (Int32.toInt_inj.mp e1)
      refine e_tabIn (tgt := 117) (off := 116) dX12_named_1 (by rw [e1]; decide) (by rw [e1]; decide) (by rw [e1]; rfl) (by decide) ?_
      refine e_aload_n dX12_named_117 rfl rfl ?_
      refine e_iload_n dX12_named_118 rfl rfl ?_
      refine e_iload_n dX12_named_119 rfl rfl ?_
      refine e_callV (As := [iV p2, iV p3]) (st := []) mt_X12_week in_X12_week lkX12_287 rfl rfl ⟨by decide, by decide⟩ (Nat.le_of_ble_eq_true rfl) ⟨by decide, by decide⟩ rfl rfl dX12_named_120 (Ctr.mono h (fun v M19 h => ?_))
      obtain ⟨r20, rfl, h⟩ := h
      show E_X12_named l q 123 [(0, rV (some 60)), (1, iV p1), (2, iV p2), (3, iV p3), (4, iV p4)] [iV r20] M19 0 0
      exact e_iret rfl trivial dX12_named_123 ⟨_, rfl, h⟩
theorem w_X12_need_ (l : Launch) (p1 : Int32) (M : o_M) (q : o_M → Prop) (h : K_X12_isWrong l [rV (some 60)] M (fun r2 M1 => ((r2 = 0 → (((mI M1 60 45) = p1 → K_X12_next l [rV (some 60)] M1 (fun M5 => q M5)) ∧ (¬ (mI M1 60 45) = p1 → K_X12_cannot l [rV (some 60)] M1 (fun M6 => q M6)))) ∧ (¬ r2 = 0 → q M1)))) : K_X12_need_ l [rV (some 60), iV p1] M q := by
  refine o_ctr (ini := false) (by decide +kernel) rfl (fun z => by cases z) (Nat.le_of_ble_eq_true rfl) ?_
  show E_X12_need_ l q 0 [(0, rV (some 60)), (1, iV p1)] [] M 0 0
  refine e_aload_n dX12_need__0 rfl rfl ?_
  refine e_callV (As := []) (st := []) mt_X12_isWrong in_X12_isWrong lkX12_236 rfl rfl ⟨by decide, by decide⟩ (Nat.le_of_ble_eq_true rfl) ⟨by decide, by decide⟩ rfl rfl dX12_need__1 (Ctr.mono h (fun v M1 h => ?_))
  obtain ⟨r2, rfl, h⟩ := h
  show E_X12_need_ l q 4 [(0, rV (some 60)), (1, iV p1)] [iV r2] M1 0 0
  refine e_if_eq (tgt := 8) dX12_need__4 (by decide) (fun c3 => ?_) (fun c3 => ?_)
  · replace h := h.1 c3
    refine e_aload_n dX12_need__8 rfl rfl ?_
    refine e_gI flX12_215 rfl rfl dX12_need__9 ?_
    refine e_iload_n dX12_need__12 rfl rfl ?_
    refine e_ic_eq (tgt := 23) dX12_need__13 (by decide) (fun c4 => ?_) (fun c4 => ?_)
    · replace h := h.1 c4
      refine e_aload_n dX12_need__23 rfl rfl ?_
      refine e_callV (As := []) (st := []) mt_X12_next in_X12_next lkX12_243 rfl rfl ⟨by decide, by decide⟩ (Nat.le_of_ble_eq_true rfl) ⟨by decide, by decide⟩ rfl rfl dX12_need__24 (Ctr.mono h (fun v M5 h => ?_))
      obtain ⟨rfl, h⟩ := h
      show E_X12_need_ l q 27 [(0, rV (some 60)), (1, iV p1)] [] M5 0 0
      exact e_ret rfl dX12_need__27 ⟨rfl, h⟩
    · replace h := h.2 c4
      refine e_aload_n dX12_need__16 rfl rfl ?_
      refine e_callV (As := []) (st := []) mt_X12_cannot in_X12_cannot lkX12_240 rfl rfl ⟨by decide, by decide⟩ (Nat.le_of_ble_eq_true rfl) ⟨by decide, by decide⟩ rfl rfl dX12_need__17 (Ctr.mono h (fun v M6 h => ?_))
      obtain ⟨rfl, h⟩ := h
      show E_X12_need_ l q 20 [(0, rV (some 60)), (1, iV p1)] [] M6 0 0
      refine e_goto (tgt := 27) dX12_need__20 (by decide) ?_
      exact e_ret rfl dX12_need__27 ⟨rfl, h⟩
  · replace h := h.2 c3
    exact e_ret rfl dX12_need__7 ⟨rfl, h⟩
theorem w_X12_opens (l : Launch) (M : o_M) (q : o_M → Prop) (h : ((¬ (mI M 60 48) = 6 → K_X12_isWrong l [rV (some 60)] (sI M 60 48 ((mI M 60 48) + 1)) (fun r3 M2 => ((¬ r3 = 0 → q M2) ∧ (r3 = 0 → K_X12_next l [rV (some 60)] M2 (fun M5 => q M5))))) ∧ ((mI M 60 48) = 6 → K_X12_cannot l [rV (some 60)] M (fun M6 => K_X12_isWrong l [rV (some 60)] (sI M6 60 48 ((mI M6 60 48) + 1)) (fun r8 M7 => ((¬ r8 = 0 → q M7) ∧ (r8 = 0 → K_X12_next l [rV (some 60)] M7 (fun M10 => q M10)))))))) : K_X12_opens l [rV (some 60)] M q := by
  refine o_ctr (ini := false) (by decide +kernel) rfl (fun z => by cases z) (Nat.le_of_ble_eq_true rfl) ?_
  show E_X12_opens l q 0 [(0, rV (some 60))] [] M 0 0
  refine e_aload_n dX12_opens_0 rfl rfl ?_
  refine e_gI flX12_246 rfl rfl dX12_opens_1 ?_
  refine e_bipush (v := 6) dX12_opens_4 (by decide) ?_
  refine e_ic_ne (tgt := 13) dX12_opens_6 (by decide) (fun c1 => ?_) (fun c1 => ?_)
  · replace h := h.1 c1
    refine e_aload_n dX12_opens_13 rfl rfl ?_
    refine e_dup rfl dX12_opens_14 ?_
    refine e_gI flX12_246 rfl rfl dX12_opens_15 ?_
    refine e_iconst (v := 1) dX12_opens_18 (by decide) ?_
    refine e_iadd dX12_opens_19 ?_
    refine e_pI flX12_246 rfl (Or.inl rfl) rfl rfl rfl dX12_opens_20 ?_
    refine e_aload_n dX12_opens_23 rfl rfl ?_
    refine e_callV (As := []) (st := []) mt_X12_isWrong in_X12_isWrong lkX12_236 rfl rfl ⟨by decide, by decide⟩ (Nat.le_of_ble_eq_true rfl) ⟨by decide, by decide⟩ rfl rfl dX12_opens_24 (Ctr.mono h (fun v M2 h => ?_))
    obtain ⟨r3, rfl, h⟩ := h
    show E_X12_opens l q 27 [(0, rV (some 60))] [iV r3] M2 0 0
    refine e_if_ne (tgt := 34) dX12_opens_27 (by decide) (fun c4 => ?_) (fun c4 => ?_)
    · replace h := h.1 c4
      exact e_ret rfl dX12_opens_34 ⟨rfl, h⟩
    · replace h := h.2 c4
      refine e_aload_n dX12_opens_30 rfl rfl ?_
      refine e_callV (As := []) (st := []) mt_X12_next in_X12_next lkX12_243 rfl rfl ⟨by decide, by decide⟩ (Nat.le_of_ble_eq_true rfl) ⟨by decide, by decide⟩ rfl rfl dX12_opens_31 (Ctr.mono h (fun v M5 h => ?_))
      obtain ⟨rfl, h⟩ := h
      show E_X12_opens l q 34 [(0, rV (some 60))] [] M5 0 0
      exact e_ret rfl dX12_opens_34 ⟨rfl, h⟩
  · replace h := h.2 c1
    refine e_aload_n dX12_opens_9 rfl rfl ?_
    refine e_callV (As := []) (st := []) mt_X12_cannot in_X12_cannot lkX12_240 rfl rfl ⟨by decide, by decide⟩ (Nat.le_of_ble_eq_true rfl) ⟨by decide, by decide⟩ rfl rfl dX12_opens_10 (Ctr.mono h (fun v M6 h => ?_))
    obtain ⟨rfl, h⟩ := h
    show E_X12_opens l q 13 [(0, rV (some 60))] [] M6 0 0
    refine e_aload_n dX12_opens_13 rfl rfl ?_
    refine e_dup rfl dX12_opens_14 ?_
    refine e_gI flX12_246 rfl rfl dX12_opens_15 ?_
    refine e_iconst (v := 1) dX12_opens_18 (by decide) ?_
    refine e_iadd dX12_opens_19 ?_
    refine e_pI flX12_246 rfl (Or.inl rfl) rfl rfl rfl dX12_opens_20 ?_
    refine e_aload_n dX12_opens_23 rfl rfl ?_
    refine e_callV (As := []) (st := []) mt_X12_isWrong in_X12_isWrong lkX12_236 rfl rfl ⟨by decide, by decide⟩ (Nat.le_of_ble_eq_true rfl) ⟨by decide, by decide⟩ rfl rfl dX12_opens_24 (Ctr.mono h (fun v M7 h => ?_))
    obtain ⟨r8, rfl, h⟩ := h
    show E_X12_opens l q 27 [(0, rV (some 60))] [iV r8] M7 0 0
    refine e_if_ne (tgt := 34) dX12_opens_27 (by decide) (fun c9 => ?_) (fun c9 => ?_)
    · replace h := h.1 c9
      exact e_ret rfl dX12_opens_34 ⟨rfl, h⟩
    · replace h := h.2 c9
      refine e_aload_n dX12_opens_30 rfl rfl ?_
      refine e_callV (As := []) (st := []) mt_X12_next in_X12_next lkX12_243 rfl rfl ⟨by decide, by decide⟩ (Nat.le_of_ble_eq_true rfl) ⟨by decide, by decide⟩ rfl rfl dX12_opens_31 (Ctr.mono h (fun v M10 h => ?_))
      obtain ⟨rfl, h⟩ := h
      show E_X12_opens l q 34 [(0, rV (some 60))] [] M10 0 0
      exact e_ret rfl dX12_opens_34 ⟨rfl, h⟩
