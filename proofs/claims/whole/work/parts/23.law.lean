/-! the script, the constructor, the law -/
section OLW
variable {l : Launch} {R : Room} {own : String} {cc : ByteArray} {nL : Nat} {ret : Option FieldType} {ini : Bool} {mc ms : Nat} {Q : Option o_V → o_M → Prop} {pc : Nat} {lv : List (Nat × o_V)} {st : List o_V} {M : o_M} {k n : Nat} {L : Nat} {xs : Nat → Int32}
theorem e_sca {i : Int32} (hin : vp_in i L) (hdg : decode cc pc = .ok (.iaload, 1)) (kk : Ev l (some (L, xs)) R own cc nL ret ini mc ms Q (pc + 1) lv (iV (xs i.toNatClampNeg) :: st) M k n) : Ev l (some (L, xs)) R own cc nL ret ini mc ms Q pc lv (iV i :: rV (some 8) :: st) M k n := by
  intro base p e s m args below meth c D Z ad0 L0 hcx hrt ad ca H locs ls hwd hS hcn hls hlv hst hag hsub
  have hk := kk base p e s m args below meth c D Z ad0 L0 hcx hrt ad ca H locs ls hwd hS hcn hls hlv (q_s1 (o_lv_i _ _) (q_s0 (q_s0 hst))) hag hsub
  have hb : ad 8 < base := hcn.2.2
  exact va_sld hcx.1 hcx.2.1 hcn.2.1 (Nat.lt_of_lt_of_le hb hcx.2.2.2.2.2.2.2.2.2) (Nat.not_le.mpr hb) hS hin hdg hk
theorem e_scl (hdg : decode cc pc = .ok (.arraylength, 1)) (kk : Ev l (some (L, xs)) R own cc nL ret ini mc ms Q (pc + 1) lv (iV (Int32.ofNat L) :: st) M k n) : Ev l (some (L, xs)) R own cc nL ret ini mc ms Q pc lv (rV (some 8) :: st) M k n := by
  intro base p e s m args below meth c D Z ad0 L0 hcx hrt ad ca H locs ls hwd hS hcn hls hlv hst hag hsub
  have hk := kk base p e s m args below meth c D Z ad0 L0 hcx hrt ad ca H locs ls hwd hS hcn hls hlv (q_s1 (o_lv_i _ _) (q_s0 hst)) hag hsub
  have hb : ad 8 < base := hcn.2.2
  exact va_slen hcx.1 hcx.2.1 hcn.2.1 (Nat.lt_of_lt_of_le hb hcx.2.2.2.2.2.2.2.2.2) (Nat.not_le.mpr hb) hS hdg hk
end OLW
theorem dX11_init_0 : decode cX11_init 0 = .ok (.aload_n 0, 1) := by decide +kernel
theorem dX11_init_1 : decode cX11_init 1 = .ok (.invokespecial 1, 3) := by decide +kernel
theorem dX11_init_4 : decode cX11_init 4 = .ok (.aload_n 0, 1) := by decide +kernel
theorem dX11_init_5 : decode cX11_init 5 = .ok (.bipush 12, 2) := by decide +kernel
theorem dX11_init_7 : decode cX11_init 7 = .ok (.anewarray 9, 3) := by decide +kernel
theorem dX11_init_10 : decode cX11_init 10 = .ok (.putfield 11, 3) := by decide +kernel
theorem dX11_init_13 : decode cX11_init 13 = .ok (.aload_n 0, 1) := by decide +kernel
theorem dX11_init_14 : decode cX11_init 14 = .ok (.bipush 10, 2) := by decide +kernel
theorem dX11_init_16 : decode cX11_init 16 = .ok (.anewarray 15, 3) := by decide +kernel
theorem dX11_init_19 : decode cX11_init 19 = .ok (.putfield 17, 3) := by decide +kernel
theorem dX11_init_22 : decode cX11_init 22 = .ok (.aload_n 0, 1) := by decide +kernel
theorem dX11_init_23 : decode cX11_init 23 = .ok (.bipush 40, 2) := by decide +kernel
theorem dX11_init_25 : decode cX11_init 25 = .ok (.anewarray 21, 3) := by decide +kernel
theorem dX11_init_28 : decode cX11_init 28 = .ok (.putfield 23, 3) := by decide +kernel
theorem dX11_init_31 : decode cX11_init 31 = .ok (.aload_n 0, 1) := by decide +kernel
theorem dX11_init_32 : decode cX11_init 32 = .ok (.bipush 10, 2) := by decide +kernel
theorem dX11_init_34 : decode cX11_init 34 = .ok (.anewarray 27, 3) := by decide +kernel
theorem dX11_init_37 : decode cX11_init 37 = .ok (.putfield 29, 3) := by decide +kernel
theorem dX11_init_40 : decode cX11_init 40 = .ok (.aload_n 0, 1) := by decide +kernel
theorem dX11_init_41 : decode cX11_init 41 = .ok (.bipush 6, 2) := by decide +kernel
theorem dX11_init_43 : decode cX11_init 43 = .ok (.anewarray 33, 3) := by decide +kernel
theorem dX11_init_46 : decode cX11_init 46 = .ok (.putfield 35, 3) := by decide +kernel
theorem dX11_init_49 : decode cX11_init 49 = .ok (.aload_n 0, 1) := by decide +kernel
theorem dX11_init_50 : decode cX11_init 50 = .ok (.sipush 300, 3) := by decide +kernel
theorem dX11_init_53 : decode cX11_init 53 = .ok (.newarray .byte, 2) := by decide +kernel
theorem dX11_init_55 : decode cX11_init 55 = .ok (.putfield 39, 3) := by decide +kernel
theorem dX11_init_58 : decode cX11_init 58 = .ok (.aload_n 0, 1) := by decide +kernel
theorem dX11_init_59 : decode cX11_init 59 = .ok (.new 43, 3) := by decide +kernel
theorem dX11_init_62 : decode cX11_init 62 = .ok (.dup, 1) := by decide +kernel
theorem dX11_init_63 : decode cX11_init 63 = .ok (.invokespecial 45, 3) := by decide +kernel
theorem dX11_init_66 : decode cX11_init 66 = .ok (.putfield 46, 3) := by decide +kernel
theorem dX11_init_69 : decode cX11_init 69 = .ok (.aload_n 0, 1) := by decide +kernel
theorem dX11_init_70 : decode cX11_init 70 = .ok (.new 50, 3) := by decide +kernel
theorem dX11_init_73 : decode cX11_init 73 = .ok (.dup, 1) := by decide +kernel
theorem dX11_init_74 : decode cX11_init 74 = .ok (.invokespecial 52, 3) := by decide +kernel
theorem dX11_init_77 : decode cX11_init 77 = .ok (.putfield 53, 3) := by decide +kernel
theorem dX11_init_80 : decode cX11_init 80 = .ok (.aload_n 0, 1) := by decide +kernel
theorem dX11_init_81 : decode cX11_init 81 = .ok (.new 57, 3) := by decide +kernel
theorem dX11_init_84 : decode cX11_init 84 = .ok (.dup, 1) := by decide +kernel
theorem dX11_init_85 : decode cX11_init 85 = .ok (.invokespecial 59, 3) := by decide +kernel
theorem dX11_init_88 : decode cX11_init 88 = .ok (.putfield 60, 3) := by decide +kernel
theorem dX11_init_91 : decode cX11_init 91 = .ok (.aload_n 0, 1) := by decide +kernel
theorem dX11_init_92 : decode cX11_init 92 = .ok (.new 64, 3) := by decide +kernel
theorem dX11_init_95 : decode cX11_init 95 = .ok (.dup, 1) := by decide +kernel
theorem dX11_init_96 : decode cX11_init 96 = .ok (.invokespecial 66, 3) := by decide +kernel
theorem dX11_init_99 : decode cX11_init 99 = .ok (.putfield 67, 3) := by decide +kernel
theorem dX11_init_102 : decode cX11_init 102 = .ok (.aload_n 0, 1) := by decide +kernel
theorem dX11_init_103 : decode cX11_init 103 = .ok (.new 71, 3) := by decide +kernel
theorem dX11_init_106 : decode cX11_init 106 = .ok (.dup, 1) := by decide +kernel
theorem dX11_init_107 : decode cX11_init 107 = .ok (.invokespecial 73, 3) := by decide +kernel
theorem dX11_init_110 : decode cX11_init 110 = .ok (.putfield 74, 3) := by decide +kernel
theorem dX11_init_113 : decode cX11_init 113 = .ok (.aload_n 0, 1) := by decide +kernel
theorem dX11_init_114 : decode cX11_init 114 = .ok (.iconst 0, 1) := by decide +kernel
theorem dX11_init_115 : decode cX11_init 115 = .ok (.putfield 78, 3) := by decide +kernel
theorem dX11_init_118 : decode cX11_init 118 = .ok (.aload_n 0, 1) := by decide +kernel
theorem dX11_init_119 : decode cX11_init 119 = .ok (.iconst 0, 1) := by decide +kernel
theorem dX11_init_120 : decode cX11_init 120 = .ok (.putfield 82, 3) := by decide +kernel
theorem dX11_init_123 : decode cX11_init 123 = .ok (.aload_n 0, 1) := by decide +kernel
theorem dX11_init_124 : decode cX11_init 124 = .ok (.iconst 0, 1) := by decide +kernel
theorem dX11_init_125 : decode cX11_init 125 = .ok (.putfield 85, 3) := by decide +kernel
theorem dX11_init_128 : decode cX11_init 128 = .ok (.aload_n 0, 1) := by decide +kernel
theorem dX11_init_129 : decode cX11_init 129 = .ok (.iconst 0, 1) := by decide +kernel
theorem dX11_init_130 : decode cX11_init 130 = .ok (.putfield 88, 3) := by decide +kernel
theorem dX11_init_133 : decode cX11_init 133 = .ok (.aload_n 0, 1) := by decide +kernel
theorem dX11_init_134 : decode cX11_init 134 = .ok (.iconst 0, 1) := by decide +kernel
theorem dX11_init_135 : decode cX11_init 135 = .ok (.putfield 91, 3) := by decide +kernel
theorem dX11_init_138 : decode cX11_init 138 = .ok (.aload_n 0, 1) := by decide +kernel
theorem dX11_init_139 : decode cX11_init 139 = .ok (.iconst 0, 1) := by decide +kernel
theorem dX11_init_140 : decode cX11_init 140 = .ok (.putfield 94, 3) := by decide +kernel
theorem dX11_init_143 : decode cX11_init 143 = .ok (.aload_n 0, 1) := by decide +kernel
theorem dX11_init_144 : decode cX11_init 144 = .ok (.iconst 0, 1) := by decide +kernel
theorem dX11_init_145 : decode cX11_init 145 = .ok (.putfield 97, 3) := by decide +kernel
theorem dX11_init_148 : decode cX11_init 148 = .ok (.iconst 0, 1) := by decide +kernel
theorem dX11_init_149 : decode cX11_init 149 = .ok (.istore_n 1, 1) := by decide +kernel
theorem dX11_init_150 : decode cX11_init 150 = .ok (.iload_n 1, 1) := by decide +kernel
theorem dX11_init_151 : decode cX11_init 151 = .ok (.bipush 6, 2) := by decide +kernel
theorem dX11_init_153 : decode cX11_init 153 = .ok (.if_icmp .ge 22, 3) := by decide +kernel
theorem dX11_init_156 : decode cX11_init 156 = .ok (.aload_n 0, 1) := by decide +kernel
theorem dX11_init_157 : decode cX11_init 157 = .ok (.getfield 35, 3) := by decide +kernel
theorem dX11_init_160 : decode cX11_init 160 = .ok (.iload_n 1, 1) := by decide +kernel
theorem dX11_init_161 : decode cX11_init 161 = .ok (.new 33, 3) := by decide +kernel
theorem dX11_init_164 : decode cX11_init 164 = .ok (.dup, 1) := by decide +kernel
theorem dX11_init_165 : decode cX11_init 165 = .ok (.invokespecial 100, 3) := by decide +kernel
theorem dX11_init_168 : decode cX11_init 168 = .ok (.aastore, 1) := by decide +kernel
theorem dX11_init_169 : decode cX11_init 169 = .ok (.iinc 1 1, 3) := by decide +kernel
theorem dX11_init_172 : decode cX11_init 172 = .ok (.goto (-22), 3) := by decide +kernel
theorem dX11_init_175 : decode cX11_init 175 = .ok (.iconst 0, 1) := by decide +kernel
theorem dX11_init_176 : decode cX11_init 176 = .ok (.istore_n 1, 1) := by decide +kernel
theorem dX11_init_177 : decode cX11_init 177 = .ok (.iload_n 1, 1) := by decide +kernel
theorem dX11_init_178 : decode cX11_init 178 = .ok (.ldc 101, 2) := by decide +kernel
theorem dX11_init_180 : decode cX11_init 180 = .ok (.invokevirtual 103, 3) := by decide +kernel
theorem dX11_init_183 : decode cX11_init 183 = .ok (.if_icmp .ge 22, 3) := by decide +kernel
theorem dX11_init_186 : decode cX11_init 186 = .ok (.aload_n 0, 1) := by decide +kernel
theorem dX11_init_187 : decode cX11_init 187 = .ok (.getfield 39, 3) := by decide +kernel
theorem dX11_init_190 : decode cX11_init 190 = .ok (.iload_n 1, 1) := by decide +kernel
theorem dX11_init_191 : decode cX11_init 191 = .ok (.ldc 101, 2) := by decide +kernel
theorem dX11_init_193 : decode cX11_init 193 = .ok (.iload_n 1, 1) := by decide +kernel
theorem dX11_init_194 : decode cX11_init 194 = .ok (.invokevirtual 109, 3) := by decide +kernel
theorem dX11_init_197 : decode cX11_init 197 = .ok (.i2b, 1) := by decide +kernel
theorem dX11_init_198 : decode cX11_init 198 = .ok (.bastore, 1) := by decide +kernel
theorem dX11_init_199 : decode cX11_init 199 = .ok (.iinc 1 1, 3) := by decide +kernel
theorem dX11_init_202 : decode cX11_init 202 = .ok (.goto (-25), 3) := by decide +kernel
theorem dX11_init_205 : decode cX11_init 205 = .ok (.aload_n 0, 1) := by decide +kernel
theorem dX11_init_206 : decode cX11_init 206 = .ok (.ldc 101, 2) := by decide +kernel
theorem dX11_init_208 : decode cX11_init 208 = .ok (.invokevirtual 103, 3) := by decide +kernel
theorem dX11_init_211 : decode cX11_init 211 = .ok (.putfield 91, 3) := by decide +kernel
theorem dX11_init_214 : decode cX11_init 214 = .ok (.aload_n 0, 1) := by decide +kernel
theorem dX11_init_215 : decode cX11_init 215 = .ok (.getfield 46, 3) := by decide +kernel
theorem dX11_init_218 : decode cX11_init 218 = .ok (.aload_n 0, 1) := by decide +kernel
theorem dX11_init_219 : decode cX11_init 219 = .ok (.getfield 39, 3) := by decide +kernel
theorem dX11_init_222 : decode cX11_init 222 = .ok (.aload_n 0, 1) := by decide +kernel
theorem dX11_init_223 : decode cX11_init 223 = .ok (.getfield 91, 3) := by decide +kernel
theorem dX11_init_226 : decode cX11_init 226 = .ok (.invokevirtual 113, 3) := by decide +kernel
theorem dX11_init_229 : decode cX11_init 229 = .ok (.pop, 1) := by decide +kernel
theorem dX11_init_230 : decode cX11_init 230 = .ok (.aload_n 0, 1) := by decide +kernel
theorem dX11_init_231 : decode cX11_init 231 = .ok (.invokevirtual 117, 3) := by decide +kernel
theorem dX11_init_234 : decode cX11_init 234 = .ok (.aload_n 0, 1) := by decide +kernel
theorem dX11_init_235 : decode cX11_init 235 = .ok (.iconst 0, 1) := by decide +kernel
theorem dX11_init_236 : decode cX11_init 236 = .ok (.putfield 91, 3) := by decide +kernel
theorem dX11_init_239 : decode cX11_init 239 = .ok (.aload_n 0, 1) := by decide +kernel
theorem dX11_init_240 : decode cX11_init 240 = .ok (.iconst 0, 1) := by decide +kernel
theorem dX11_init_241 : decode cX11_init 241 = .ok (.iconst 0, 1) := by decide +kernel
theorem dX11_init_242 : decode cX11_init 242 = .ok (.invokevirtual 120, 3) := by decide +kernel
theorem dX11_init_245 : decode cX11_init 245 = .ok (.return_, 1) := by decide +kernel
theorem dL_law_0 : decode cL_law 0 = .ok (.new 7, 3) := by decide +kernel
theorem dL_law_3 : decode cL_law 3 = .ok (.dup, 1) := by decide +kernel
theorem dL_law_4 : decode cL_law 4 = .ok (.invokespecial 9, 3) := by decide +kernel
theorem dL_law_7 : decode cL_law 7 = .ok (.astore_n 1, 1) := by decide +kernel
theorem dL_law_8 : decode cL_law 8 = .ok (.new 10, 3) := by decide +kernel
theorem dL_law_11 : decode cL_law 11 = .ok (.dup, 1) := by decide +kernel
theorem dL_law_12 : decode cL_law 12 = .ok (.invokespecial 12, 3) := by decide +kernel
theorem dL_law_15 : decode cL_law 15 = .ok (.astore_n 2, 1) := by decide +kernel
theorem dL_law_16 : decode cL_law 16 = .ok (.iconst 0, 1) := by decide +kernel
theorem dL_law_17 : decode cL_law 17 = .ok (.istore_n 3, 1) := by decide +kernel
theorem dL_law_18 : decode cL_law 18 = .ok (.iload_n 3, 1) := by decide +kernel
theorem dL_law_19 : decode cL_law 19 = .ok (.aload_n 0, 1) := by decide +kernel
theorem dL_law_20 : decode cL_law 20 = .ok (.arraylength, 1) := by decide +kernel
theorem dL_law_21 : decode cL_law 21 = .ok (.iconst 5, 1) := by decide +kernel
theorem dL_law_22 : decode cL_law 22 = .ok (.isub, 1) := by decide +kernel
theorem dL_law_23 : decode cL_law 23 = .ok (.if_icmp .gt 1202, 3) := by decide +kernel
theorem dL_law_26 : decode cL_law 26 = .ok (.aload_n 0, 1) := by decide +kernel
theorem dL_law_27 : decode cL_law 27 = .ok (.iload_n 3, 1) := by decide +kernel
theorem dL_law_28 : decode cL_law 28 = .ok (.iaload, 1) := by decide +kernel
theorem dL_law_29 : decode cL_law 29 = .ok (.bipush 31, 2) := by decide +kernel
theorem dL_law_31 : decode cL_law 31 = .ok (.iand, 1) := by decide +kernel
theorem dL_law_32 : decode cL_law 32 = .ok (.tableswitch 1187 0 28 #[132, 175, 228, 271, 314, 367, 400, 433, 466, 499, 532, 595, 608, 641, 664, 707, 761, 784, 843, 866, 889, 943, 966, 999, 1042, 1065, 1088, 1131, 1174], 132) := by decide +kernel
theorem dL_law_164 : decode cL_law 164 = .ok (.aload_n 1, 1) := by decide +kernel
theorem dL_law_165 : decode cL_law 165 = .ok (.aload_n 0, 1) := by decide +kernel
theorem dL_law_166 : decode cL_law 166 = .ok (.iload_n 3, 1) := by decide +kernel
theorem dL_law_167 : decode cL_law 167 = .ok (.iconst 1, 1) := by decide +kernel
theorem dL_law_168 : decode cL_law 168 = .ok (.iadd, 1) := by decide +kernel
theorem dL_law_169 : decode cL_law 169 = .ok (.iaload, 1) := by decide +kernel
theorem dL_law_170 : decode cL_law 170 = .ok (.aload_n 0, 1) := by decide +kernel
theorem dL_law_171 : decode cL_law 171 = .ok (.iload_n 3, 1) := by decide +kernel
theorem dL_law_172 : decode cL_law 172 = .ok (.iconst 2, 1) := by decide +kernel
theorem dL_law_173 : decode cL_law 173 = .ok (.iadd, 1) := by decide +kernel
theorem dL_law_174 : decode cL_law 174 = .ok (.iaload, 1) := by decide +kernel
theorem dL_law_175 : decode cL_law 175 = .ok (.aload_n 0, 1) := by decide +kernel
theorem dL_law_176 : decode cL_law 176 = .ok (.iload_n 3, 1) := by decide +kernel
theorem dL_law_177 : decode cL_law 177 = .ok (.iconst 3, 1) := by decide +kernel
theorem dL_law_178 : decode cL_law 178 = .ok (.iadd, 1) := by decide +kernel
theorem dL_law_179 : decode cL_law 179 = .ok (.iaload, 1) := by decide +kernel
theorem dL_law_180 : decode cL_law 180 = .ok (.invokevirtual 13, 3) := by decide +kernel
theorem dL_law_183 : decode cL_law 183 = .ok (.aload_n 2, 1) := by decide +kernel
theorem dL_law_184 : decode cL_law 184 = .ok (.aload_n 0, 1) := by decide +kernel
theorem dL_law_185 : decode cL_law 185 = .ok (.iload_n 3, 1) := by decide +kernel
theorem dL_law_186 : decode cL_law 186 = .ok (.iconst 1, 1) := by decide +kernel
theorem dL_law_187 : decode cL_law 187 = .ok (.iadd, 1) := by decide +kernel
theorem dL_law_188 : decode cL_law 188 = .ok (.iaload, 1) := by decide +kernel
theorem dL_law_189 : decode cL_law 189 = .ok (.aload_n 0, 1) := by decide +kernel
theorem dL_law_190 : decode cL_law 190 = .ok (.iload_n 3, 1) := by decide +kernel
theorem dL_law_191 : decode cL_law 191 = .ok (.iconst 2, 1) := by decide +kernel
theorem dL_law_192 : decode cL_law 192 = .ok (.iadd, 1) := by decide +kernel
theorem dL_law_193 : decode cL_law 193 = .ok (.iaload, 1) := by decide +kernel
theorem dL_law_194 : decode cL_law 194 = .ok (.aload_n 0, 1) := by decide +kernel
theorem dL_law_195 : decode cL_law 195 = .ok (.iload_n 3, 1) := by decide +kernel
theorem dL_law_196 : decode cL_law 196 = .ok (.iconst 3, 1) := by decide +kernel
theorem dL_law_197 : decode cL_law 197 = .ok (.iadd, 1) := by decide +kernel
theorem dL_law_198 : decode cL_law 198 = .ok (.iaload, 1) := by decide +kernel
theorem dL_law_199 : decode cL_law 199 = .ok (.invokevirtual 17, 3) := by decide +kernel
theorem dL_law_202 : decode cL_law 202 = .ok (.if_icmp .eq 1017, 3) := by decide +kernel
theorem dL_law_205 : decode cL_law 205 = .ok (.iconst 0, 1) := by decide +kernel
theorem dL_law_206 : decode cL_law 206 = .ok (.ireturn, 1) := by decide +kernel
theorem dL_law_207 : decode cL_law 207 = .ok (.aload_n 1, 1) := by decide +kernel
theorem dL_law_208 : decode cL_law 208 = .ok (.aload_n 0, 1) := by decide +kernel
theorem dL_law_209 : decode cL_law 209 = .ok (.iload_n 3, 1) := by decide +kernel
theorem dL_law_210 : decode cL_law 210 = .ok (.iconst 1, 1) := by decide +kernel
theorem dL_law_211 : decode cL_law 211 = .ok (.iadd, 1) := by decide +kernel
theorem dL_law_212 : decode cL_law 212 = .ok (.iaload, 1) := by decide +kernel
theorem dL_law_213 : decode cL_law 213 = .ok (.aload_n 0, 1) := by decide +kernel
theorem dL_law_214 : decode cL_law 214 = .ok (.iload_n 3, 1) := by decide +kernel
theorem dL_law_215 : decode cL_law 215 = .ok (.iconst 2, 1) := by decide +kernel
theorem dL_law_216 : decode cL_law 216 = .ok (.iadd, 1) := by decide +kernel
theorem dL_law_217 : decode cL_law 217 = .ok (.iaload, 1) := by decide +kernel
theorem dL_law_218 : decode cL_law 218 = .ok (.aload_n 0, 1) := by decide +kernel
theorem dL_law_219 : decode cL_law 219 = .ok (.iload_n 3, 1) := by decide +kernel
theorem dL_law_220 : decode cL_law 220 = .ok (.iconst 3, 1) := by decide +kernel
theorem dL_law_221 : decode cL_law 221 = .ok (.iadd, 1) := by decide +kernel
theorem dL_law_222 : decode cL_law 222 = .ok (.iaload, 1) := by decide +kernel
theorem dL_law_223 : decode cL_law 223 = .ok (.aload_n 0, 1) := by decide +kernel
theorem dL_law_224 : decode cL_law 224 = .ok (.iload_n 3, 1) := by decide +kernel
theorem dL_law_225 : decode cL_law 225 = .ok (.iconst 4, 1) := by decide +kernel
theorem dL_law_226 : decode cL_law 226 = .ok (.iadd, 1) := by decide +kernel
theorem dL_law_227 : decode cL_law 227 = .ok (.iaload, 1) := by decide +kernel
theorem dL_law_228 : decode cL_law 228 = .ok (.invokevirtual 18, 3) := by decide +kernel
theorem dL_law_231 : decode cL_law 231 = .ok (.aload_n 2, 1) := by decide +kernel
theorem dL_law_232 : decode cL_law 232 = .ok (.aload_n 0, 1) := by decide +kernel
theorem dL_law_233 : decode cL_law 233 = .ok (.iload_n 3, 1) := by decide +kernel
theorem dL_law_234 : decode cL_law 234 = .ok (.iconst 1, 1) := by decide +kernel
theorem dL_law_235 : decode cL_law 235 = .ok (.iadd, 1) := by decide +kernel
theorem dL_law_236 : decode cL_law 236 = .ok (.iaload, 1) := by decide +kernel
theorem dL_law_237 : decode cL_law 237 = .ok (.aload_n 0, 1) := by decide +kernel
theorem dL_law_238 : decode cL_law 238 = .ok (.iload_n 3, 1) := by decide +kernel
theorem dL_law_239 : decode cL_law 239 = .ok (.iconst 2, 1) := by decide +kernel
theorem dL_law_240 : decode cL_law 240 = .ok (.iadd, 1) := by decide +kernel
theorem dL_law_241 : decode cL_law 241 = .ok (.iaload, 1) := by decide +kernel
theorem dL_law_242 : decode cL_law 242 = .ok (.aload_n 0, 1) := by decide +kernel
theorem dL_law_243 : decode cL_law 243 = .ok (.iload_n 3, 1) := by decide +kernel
theorem dL_law_244 : decode cL_law 244 = .ok (.iconst 3, 1) := by decide +kernel
theorem dL_law_245 : decode cL_law 245 = .ok (.iadd, 1) := by decide +kernel
theorem dL_law_246 : decode cL_law 246 = .ok (.iaload, 1) := by decide +kernel
theorem dL_law_247 : decode cL_law 247 = .ok (.aload_n 0, 1) := by decide +kernel
theorem dL_law_248 : decode cL_law 248 = .ok (.iload_n 3, 1) := by decide +kernel
theorem dL_law_249 : decode cL_law 249 = .ok (.iconst 4, 1) := by decide +kernel
theorem dL_law_250 : decode cL_law 250 = .ok (.iadd, 1) := by decide +kernel
theorem dL_law_251 : decode cL_law 251 = .ok (.iaload, 1) := by decide +kernel
theorem dL_law_252 : decode cL_law 252 = .ok (.invokevirtual 22, 3) := by decide +kernel
theorem dL_law_255 : decode cL_law 255 = .ok (.if_icmp .eq 964, 3) := by decide +kernel
theorem dL_law_258 : decode cL_law 258 = .ok (.iconst 0, 1) := by decide +kernel
theorem dL_law_259 : decode cL_law 259 = .ok (.ireturn, 1) := by decide +kernel
theorem dL_law_260 : decode cL_law 260 = .ok (.aload_n 1, 1) := by decide +kernel
theorem dL_law_261 : decode cL_law 261 = .ok (.aload_n 0, 1) := by decide +kernel
theorem dL_law_262 : decode cL_law 262 = .ok (.iload_n 3, 1) := by decide +kernel
theorem dL_law_263 : decode cL_law 263 = .ok (.iconst 1, 1) := by decide +kernel
theorem dL_law_264 : decode cL_law 264 = .ok (.iadd, 1) := by decide +kernel
theorem dL_law_265 : decode cL_law 265 = .ok (.iaload, 1) := by decide +kernel
theorem dL_law_266 : decode cL_law 266 = .ok (.aload_n 0, 1) := by decide +kernel
theorem dL_law_267 : decode cL_law 267 = .ok (.iload_n 3, 1) := by decide +kernel
theorem dL_law_268 : decode cL_law 268 = .ok (.iconst 2, 1) := by decide +kernel
theorem dL_law_269 : decode cL_law 269 = .ok (.iadd, 1) := by decide +kernel
theorem dL_law_270 : decode cL_law 270 = .ok (.iaload, 1) := by decide +kernel
theorem dL_law_271 : decode cL_law 271 = .ok (.aload_n 0, 1) := by decide +kernel
theorem dL_law_272 : decode cL_law 272 = .ok (.iload_n 3, 1) := by decide +kernel
theorem dL_law_273 : decode cL_law 273 = .ok (.iconst 3, 1) := by decide +kernel
theorem dL_law_274 : decode cL_law 274 = .ok (.iadd, 1) := by decide +kernel
theorem dL_law_275 : decode cL_law 275 = .ok (.iaload, 1) := by decide +kernel
theorem dL_law_276 : decode cL_law 276 = .ok (.invokevirtual 23, 3) := by decide +kernel
theorem dL_law_279 : decode cL_law 279 = .ok (.aload_n 2, 1) := by decide +kernel
theorem dL_law_280 : decode cL_law 280 = .ok (.aload_n 0, 1) := by decide +kernel
theorem dL_law_281 : decode cL_law 281 = .ok (.iload_n 3, 1) := by decide +kernel
theorem dL_law_282 : decode cL_law 282 = .ok (.iconst 1, 1) := by decide +kernel
theorem dL_law_283 : decode cL_law 283 = .ok (.iadd, 1) := by decide +kernel
theorem dL_law_284 : decode cL_law 284 = .ok (.iaload, 1) := by decide +kernel
theorem dL_law_285 : decode cL_law 285 = .ok (.aload_n 0, 1) := by decide +kernel
theorem dL_law_286 : decode cL_law 286 = .ok (.iload_n 3, 1) := by decide +kernel
theorem dL_law_287 : decode cL_law 287 = .ok (.iconst 2, 1) := by decide +kernel
theorem dL_law_288 : decode cL_law 288 = .ok (.iadd, 1) := by decide +kernel
theorem dL_law_289 : decode cL_law 289 = .ok (.iaload, 1) := by decide +kernel
theorem dL_law_290 : decode cL_law 290 = .ok (.aload_n 0, 1) := by decide +kernel
theorem dL_law_291 : decode cL_law 291 = .ok (.iload_n 3, 1) := by decide +kernel
theorem dL_law_292 : decode cL_law 292 = .ok (.iconst 3, 1) := by decide +kernel
theorem dL_law_293 : decode cL_law 293 = .ok (.iadd, 1) := by decide +kernel
theorem dL_law_294 : decode cL_law 294 = .ok (.iaload, 1) := by decide +kernel
theorem dL_law_295 : decode cL_law 295 = .ok (.invokevirtual 26, 3) := by decide +kernel
theorem dL_law_298 : decode cL_law 298 = .ok (.if_icmp .eq 921, 3) := by decide +kernel
theorem dL_law_301 : decode cL_law 301 = .ok (.iconst 0, 1) := by decide +kernel
theorem dL_law_302 : decode cL_law 302 = .ok (.ireturn, 1) := by decide +kernel
theorem dL_law_303 : decode cL_law 303 = .ok (.aload_n 1, 1) := by decide +kernel
theorem dL_law_304 : decode cL_law 304 = .ok (.aload_n 0, 1) := by decide +kernel
theorem dL_law_305 : decode cL_law 305 = .ok (.iload_n 3, 1) := by decide +kernel
theorem dL_law_306 : decode cL_law 306 = .ok (.iconst 1, 1) := by decide +kernel
theorem dL_law_307 : decode cL_law 307 = .ok (.iadd, 1) := by decide +kernel
theorem dL_law_308 : decode cL_law 308 = .ok (.iaload, 1) := by decide +kernel
theorem dL_law_309 : decode cL_law 309 = .ok (.aload_n 0, 1) := by decide +kernel
theorem dL_law_310 : decode cL_law 310 = .ok (.iload_n 3, 1) := by decide +kernel
theorem dL_law_311 : decode cL_law 311 = .ok (.iconst 2, 1) := by decide +kernel
theorem dL_law_312 : decode cL_law 312 = .ok (.iadd, 1) := by decide +kernel
theorem dL_law_313 : decode cL_law 313 = .ok (.iaload, 1) := by decide +kernel
theorem dL_law_314 : decode cL_law 314 = .ok (.aload_n 0, 1) := by decide +kernel
theorem dL_law_315 : decode cL_law 315 = .ok (.iload_n 3, 1) := by decide +kernel
theorem dL_law_316 : decode cL_law 316 = .ok (.iconst 3, 1) := by decide +kernel
theorem dL_law_317 : decode cL_law 317 = .ok (.iadd, 1) := by decide +kernel
theorem dL_law_318 : decode cL_law 318 = .ok (.iaload, 1) := by decide +kernel
theorem dL_law_319 : decode cL_law 319 = .ok (.invokevirtual 27, 3) := by decide +kernel
theorem dL_law_322 : decode cL_law 322 = .ok (.aload_n 2, 1) := by decide +kernel
theorem dL_law_323 : decode cL_law 323 = .ok (.aload_n 0, 1) := by decide +kernel
theorem dL_law_324 : decode cL_law 324 = .ok (.iload_n 3, 1) := by decide +kernel
theorem dL_law_325 : decode cL_law 325 = .ok (.iconst 1, 1) := by decide +kernel
theorem dL_law_326 : decode cL_law 326 = .ok (.iadd, 1) := by decide +kernel
theorem dL_law_327 : decode cL_law 327 = .ok (.iaload, 1) := by decide +kernel
theorem dL_law_328 : decode cL_law 328 = .ok (.aload_n 0, 1) := by decide +kernel
theorem dL_law_329 : decode cL_law 329 = .ok (.iload_n 3, 1) := by decide +kernel
theorem dL_law_330 : decode cL_law 330 = .ok (.iconst 2, 1) := by decide +kernel
theorem dL_law_331 : decode cL_law 331 = .ok (.iadd, 1) := by decide +kernel
theorem dL_law_332 : decode cL_law 332 = .ok (.iaload, 1) := by decide +kernel
theorem dL_law_333 : decode cL_law 333 = .ok (.aload_n 0, 1) := by decide +kernel
theorem dL_law_334 : decode cL_law 334 = .ok (.iload_n 3, 1) := by decide +kernel
theorem dL_law_335 : decode cL_law 335 = .ok (.iconst 3, 1) := by decide +kernel
theorem dL_law_336 : decode cL_law 336 = .ok (.iadd, 1) := by decide +kernel
theorem dL_law_337 : decode cL_law 337 = .ok (.iaload, 1) := by decide +kernel
theorem dL_law_338 : decode cL_law 338 = .ok (.invokevirtual 30, 3) := by decide +kernel
theorem dL_law_341 : decode cL_law 341 = .ok (.if_icmp .eq 878, 3) := by decide +kernel
theorem dL_law_344 : decode cL_law 344 = .ok (.iconst 0, 1) := by decide +kernel
theorem dL_law_345 : decode cL_law 345 = .ok (.ireturn, 1) := by decide +kernel
theorem dL_law_346 : decode cL_law 346 = .ok (.aload_n 1, 1) := by decide +kernel
theorem dL_law_347 : decode cL_law 347 = .ok (.aload_n 0, 1) := by decide +kernel
theorem dL_law_348 : decode cL_law 348 = .ok (.iload_n 3, 1) := by decide +kernel
theorem dL_law_349 : decode cL_law 349 = .ok (.iconst 1, 1) := by decide +kernel
theorem dL_law_350 : decode cL_law 350 = .ok (.iadd, 1) := by decide +kernel
theorem dL_law_351 : decode cL_law 351 = .ok (.iaload, 1) := by decide +kernel
theorem dL_law_352 : decode cL_law 352 = .ok (.aload_n 0, 1) := by decide +kernel
theorem dL_law_353 : decode cL_law 353 = .ok (.iload_n 3, 1) := by decide +kernel
theorem dL_law_354 : decode cL_law 354 = .ok (.iconst 2, 1) := by decide +kernel
theorem dL_law_355 : decode cL_law 355 = .ok (.iadd, 1) := by decide +kernel
theorem dL_law_356 : decode cL_law 356 = .ok (.iaload, 1) := by decide +kernel
theorem dL_law_357 : decode cL_law 357 = .ok (.aload_n 0, 1) := by decide +kernel
theorem dL_law_358 : decode cL_law 358 = .ok (.iload_n 3, 1) := by decide +kernel
theorem dL_law_359 : decode cL_law 359 = .ok (.iconst 3, 1) := by decide +kernel
theorem dL_law_360 : decode cL_law 360 = .ok (.iadd, 1) := by decide +kernel
theorem dL_law_361 : decode cL_law 361 = .ok (.iaload, 1) := by decide +kernel
theorem dL_law_362 : decode cL_law 362 = .ok (.aload_n 0, 1) := by decide +kernel
theorem dL_law_363 : decode cL_law 363 = .ok (.iload_n 3, 1) := by decide +kernel
theorem dL_law_364 : decode cL_law 364 = .ok (.iconst 4, 1) := by decide +kernel
theorem dL_law_365 : decode cL_law 365 = .ok (.iadd, 1) := by decide +kernel
theorem dL_law_366 : decode cL_law 366 = .ok (.iaload, 1) := by decide +kernel
theorem dL_law_367 : decode cL_law 367 = .ok (.invokevirtual 31, 3) := by decide +kernel
theorem dL_law_370 : decode cL_law 370 = .ok (.aload_n 2, 1) := by decide +kernel
theorem dL_law_371 : decode cL_law 371 = .ok (.aload_n 0, 1) := by decide +kernel
theorem dL_law_372 : decode cL_law 372 = .ok (.iload_n 3, 1) := by decide +kernel
theorem dL_law_373 : decode cL_law 373 = .ok (.iconst 1, 1) := by decide +kernel
theorem dL_law_374 : decode cL_law 374 = .ok (.iadd, 1) := by decide +kernel
theorem dL_law_375 : decode cL_law 375 = .ok (.iaload, 1) := by decide +kernel
theorem dL_law_376 : decode cL_law 376 = .ok (.aload_n 0, 1) := by decide +kernel
theorem dL_law_377 : decode cL_law 377 = .ok (.iload_n 3, 1) := by decide +kernel
theorem dL_law_378 : decode cL_law 378 = .ok (.iconst 2, 1) := by decide +kernel
theorem dL_law_379 : decode cL_law 379 = .ok (.iadd, 1) := by decide +kernel
theorem dL_law_380 : decode cL_law 380 = .ok (.iaload, 1) := by decide +kernel
theorem dL_law_381 : decode cL_law 381 = .ok (.aload_n 0, 1) := by decide +kernel
theorem dL_law_382 : decode cL_law 382 = .ok (.iload_n 3, 1) := by decide +kernel
theorem dL_law_383 : decode cL_law 383 = .ok (.iconst 3, 1) := by decide +kernel
theorem dL_law_384 : decode cL_law 384 = .ok (.iadd, 1) := by decide +kernel
theorem dL_law_385 : decode cL_law 385 = .ok (.iaload, 1) := by decide +kernel
theorem dL_law_386 : decode cL_law 386 = .ok (.aload_n 0, 1) := by decide +kernel
theorem dL_law_387 : decode cL_law 387 = .ok (.iload_n 3, 1) := by decide +kernel
theorem dL_law_388 : decode cL_law 388 = .ok (.iconst 4, 1) := by decide +kernel
theorem dL_law_389 : decode cL_law 389 = .ok (.iadd, 1) := by decide +kernel
theorem dL_law_390 : decode cL_law 390 = .ok (.iaload, 1) := by decide +kernel
theorem dL_law_391 : decode cL_law 391 = .ok (.invokevirtual 34, 3) := by decide +kernel
theorem dL_law_394 : decode cL_law 394 = .ok (.if_icmp .eq 825, 3) := by decide +kernel
theorem dL_law_397 : decode cL_law 397 = .ok (.iconst 0, 1) := by decide +kernel
theorem dL_law_398 : decode cL_law 398 = .ok (.ireturn, 1) := by decide +kernel
theorem dL_law_399 : decode cL_law 399 = .ok (.aload_n 1, 1) := by decide +kernel
theorem dL_law_400 : decode cL_law 400 = .ok (.aload_n 0, 1) := by decide +kernel
theorem dL_law_401 : decode cL_law 401 = .ok (.iload_n 3, 1) := by decide +kernel
theorem dL_law_402 : decode cL_law 402 = .ok (.iconst 1, 1) := by decide +kernel
theorem dL_law_403 : decode cL_law 403 = .ok (.iadd, 1) := by decide +kernel
theorem dL_law_404 : decode cL_law 404 = .ok (.iaload, 1) := by decide +kernel
theorem dL_law_405 : decode cL_law 405 = .ok (.aload_n 0, 1) := by decide +kernel
theorem dL_law_406 : decode cL_law 406 = .ok (.iload_n 3, 1) := by decide +kernel
theorem dL_law_407 : decode cL_law 407 = .ok (.iconst 2, 1) := by decide +kernel
theorem dL_law_408 : decode cL_law 408 = .ok (.iadd, 1) := by decide +kernel
theorem dL_law_409 : decode cL_law 409 = .ok (.iaload, 1) := by decide +kernel
theorem dL_law_410 : decode cL_law 410 = .ok (.invokevirtual 35, 3) := by decide +kernel
theorem dL_law_413 : decode cL_law 413 = .ok (.aload_n 2, 1) := by decide +kernel
theorem dL_law_414 : decode cL_law 414 = .ok (.aload_n 0, 1) := by decide +kernel
theorem dL_law_415 : decode cL_law 415 = .ok (.iload_n 3, 1) := by decide +kernel
theorem dL_law_416 : decode cL_law 416 = .ok (.iconst 1, 1) := by decide +kernel
theorem dL_law_417 : decode cL_law 417 = .ok (.iadd, 1) := by decide +kernel
theorem dL_law_418 : decode cL_law 418 = .ok (.iaload, 1) := by decide +kernel
theorem dL_law_419 : decode cL_law 419 = .ok (.aload_n 0, 1) := by decide +kernel
theorem dL_law_420 : decode cL_law 420 = .ok (.iload_n 3, 1) := by decide +kernel
theorem dL_law_421 : decode cL_law 421 = .ok (.iconst 2, 1) := by decide +kernel
theorem dL_law_422 : decode cL_law 422 = .ok (.iadd, 1) := by decide +kernel
theorem dL_law_423 : decode cL_law 423 = .ok (.iaload, 1) := by decide +kernel
theorem dL_law_424 : decode cL_law 424 = .ok (.invokevirtual 39, 3) := by decide +kernel
theorem dL_law_427 : decode cL_law 427 = .ok (.if_icmp .eq 792, 3) := by decide +kernel
theorem dL_law_430 : decode cL_law 430 = .ok (.iconst 0, 1) := by decide +kernel
theorem dL_law_431 : decode cL_law 431 = .ok (.ireturn, 1) := by decide +kernel
theorem dL_law_432 : decode cL_law 432 = .ok (.aload_n 1, 1) := by decide +kernel
theorem dL_law_433 : decode cL_law 433 = .ok (.aload_n 0, 1) := by decide +kernel
theorem dL_law_434 : decode cL_law 434 = .ok (.iload_n 3, 1) := by decide +kernel
theorem dL_law_435 : decode cL_law 435 = .ok (.iconst 1, 1) := by decide +kernel
theorem dL_law_436 : decode cL_law 436 = .ok (.iadd, 1) := by decide +kernel
theorem dL_law_437 : decode cL_law 437 = .ok (.iaload, 1) := by decide +kernel
theorem dL_law_438 : decode cL_law 438 = .ok (.aload_n 0, 1) := by decide +kernel
theorem dL_law_439 : decode cL_law 439 = .ok (.iload_n 3, 1) := by decide +kernel
theorem dL_law_440 : decode cL_law 440 = .ok (.iconst 2, 1) := by decide +kernel
theorem dL_law_441 : decode cL_law 441 = .ok (.iadd, 1) := by decide +kernel
theorem dL_law_442 : decode cL_law 442 = .ok (.iaload, 1) := by decide +kernel
theorem dL_law_443 : decode cL_law 443 = .ok (.invokevirtual 40, 3) := by decide +kernel
theorem dL_law_446 : decode cL_law 446 = .ok (.aload_n 2, 1) := by decide +kernel
theorem dL_law_447 : decode cL_law 447 = .ok (.aload_n 0, 1) := by decide +kernel
theorem dL_law_448 : decode cL_law 448 = .ok (.iload_n 3, 1) := by decide +kernel
theorem dL_law_449 : decode cL_law 449 = .ok (.iconst 1, 1) := by decide +kernel
theorem dL_law_450 : decode cL_law 450 = .ok (.iadd, 1) := by decide +kernel
theorem dL_law_451 : decode cL_law 451 = .ok (.iaload, 1) := by decide +kernel
theorem dL_law_452 : decode cL_law 452 = .ok (.aload_n 0, 1) := by decide +kernel
theorem dL_law_453 : decode cL_law 453 = .ok (.iload_n 3, 1) := by decide +kernel
theorem dL_law_454 : decode cL_law 454 = .ok (.iconst 2, 1) := by decide +kernel
theorem dL_law_455 : decode cL_law 455 = .ok (.iadd, 1) := by decide +kernel
theorem dL_law_456 : decode cL_law 456 = .ok (.iaload, 1) := by decide +kernel
theorem dL_law_457 : decode cL_law 457 = .ok (.invokevirtual 43, 3) := by decide +kernel
theorem dL_law_460 : decode cL_law 460 = .ok (.if_icmp .eq 759, 3) := by decide +kernel
theorem dL_law_463 : decode cL_law 463 = .ok (.iconst 0, 1) := by decide +kernel
theorem dL_law_464 : decode cL_law 464 = .ok (.ireturn, 1) := by decide +kernel
theorem dL_law_465 : decode cL_law 465 = .ok (.aload_n 1, 1) := by decide +kernel
theorem dL_law_466 : decode cL_law 466 = .ok (.aload_n 0, 1) := by decide +kernel
theorem dL_law_467 : decode cL_law 467 = .ok (.iload_n 3, 1) := by decide +kernel
theorem dL_law_468 : decode cL_law 468 = .ok (.iconst 1, 1) := by decide +kernel
theorem dL_law_469 : decode cL_law 469 = .ok (.iadd, 1) := by decide +kernel
theorem dL_law_470 : decode cL_law 470 = .ok (.iaload, 1) := by decide +kernel
theorem dL_law_471 : decode cL_law 471 = .ok (.aload_n 0, 1) := by decide +kernel
theorem dL_law_472 : decode cL_law 472 = .ok (.iload_n 3, 1) := by decide +kernel
theorem dL_law_473 : decode cL_law 473 = .ok (.iconst 2, 1) := by decide +kernel
theorem dL_law_474 : decode cL_law 474 = .ok (.iadd, 1) := by decide +kernel
theorem dL_law_475 : decode cL_law 475 = .ok (.iaload, 1) := by decide +kernel
theorem dL_law_476 : decode cL_law 476 = .ok (.invokevirtual 44, 3) := by decide +kernel
theorem dL_law_479 : decode cL_law 479 = .ok (.aload_n 2, 1) := by decide +kernel
theorem dL_law_480 : decode cL_law 480 = .ok (.aload_n 0, 1) := by decide +kernel
theorem dL_law_481 : decode cL_law 481 = .ok (.iload_n 3, 1) := by decide +kernel
theorem dL_law_482 : decode cL_law 482 = .ok (.iconst 1, 1) := by decide +kernel
theorem dL_law_483 : decode cL_law 483 = .ok (.iadd, 1) := by decide +kernel
theorem dL_law_484 : decode cL_law 484 = .ok (.iaload, 1) := by decide +kernel
theorem dL_law_485 : decode cL_law 485 = .ok (.aload_n 0, 1) := by decide +kernel
theorem dL_law_486 : decode cL_law 486 = .ok (.iload_n 3, 1) := by decide +kernel
theorem dL_law_487 : decode cL_law 487 = .ok (.iconst 2, 1) := by decide +kernel
theorem dL_law_488 : decode cL_law 488 = .ok (.iadd, 1) := by decide +kernel
theorem dL_law_489 : decode cL_law 489 = .ok (.iaload, 1) := by decide +kernel
theorem dL_law_490 : decode cL_law 490 = .ok (.invokevirtual 47, 3) := by decide +kernel
theorem dL_law_493 : decode cL_law 493 = .ok (.if_icmp .eq 726, 3) := by decide +kernel
theorem dL_law_496 : decode cL_law 496 = .ok (.iconst 0, 1) := by decide +kernel
theorem dL_law_497 : decode cL_law 497 = .ok (.ireturn, 1) := by decide +kernel
theorem dL_law_498 : decode cL_law 498 = .ok (.aload_n 1, 1) := by decide +kernel
theorem dL_law_499 : decode cL_law 499 = .ok (.aload_n 0, 1) := by decide +kernel
theorem dL_law_500 : decode cL_law 500 = .ok (.iload_n 3, 1) := by decide +kernel
theorem dL_law_501 : decode cL_law 501 = .ok (.iconst 1, 1) := by decide +kernel
theorem dL_law_502 : decode cL_law 502 = .ok (.iadd, 1) := by decide +kernel
theorem dL_law_503 : decode cL_law 503 = .ok (.iaload, 1) := by decide +kernel
theorem dL_law_504 : decode cL_law 504 = .ok (.aload_n 0, 1) := by decide +kernel
theorem dL_law_505 : decode cL_law 505 = .ok (.iload_n 3, 1) := by decide +kernel
theorem dL_law_506 : decode cL_law 506 = .ok (.iconst 2, 1) := by decide +kernel
theorem dL_law_507 : decode cL_law 507 = .ok (.iadd, 1) := by decide +kernel
theorem dL_law_508 : decode cL_law 508 = .ok (.iaload, 1) := by decide +kernel
theorem dL_law_509 : decode cL_law 509 = .ok (.invokevirtual 48, 3) := by decide +kernel
theorem dL_law_512 : decode cL_law 512 = .ok (.aload_n 2, 1) := by decide +kernel
theorem dL_law_513 : decode cL_law 513 = .ok (.aload_n 0, 1) := by decide +kernel
theorem dL_law_514 : decode cL_law 514 = .ok (.iload_n 3, 1) := by decide +kernel
theorem dL_law_515 : decode cL_law 515 = .ok (.iconst 1, 1) := by decide +kernel
theorem dL_law_516 : decode cL_law 516 = .ok (.iadd, 1) := by decide +kernel
theorem dL_law_517 : decode cL_law 517 = .ok (.iaload, 1) := by decide +kernel
theorem dL_law_518 : decode cL_law 518 = .ok (.aload_n 0, 1) := by decide +kernel
theorem dL_law_519 : decode cL_law 519 = .ok (.iload_n 3, 1) := by decide +kernel
theorem dL_law_520 : decode cL_law 520 = .ok (.iconst 2, 1) := by decide +kernel
theorem dL_law_521 : decode cL_law 521 = .ok (.iadd, 1) := by decide +kernel
theorem dL_law_522 : decode cL_law 522 = .ok (.iaload, 1) := by decide +kernel
theorem dL_law_523 : decode cL_law 523 = .ok (.invokevirtual 51, 3) := by decide +kernel
theorem dL_law_526 : decode cL_law 526 = .ok (.if_icmp .eq 693, 3) := by decide +kernel
theorem dL_law_529 : decode cL_law 529 = .ok (.iconst 0, 1) := by decide +kernel
theorem dL_law_530 : decode cL_law 530 = .ok (.ireturn, 1) := by decide +kernel
theorem dL_law_531 : decode cL_law 531 = .ok (.aload_n 1, 1) := by decide +kernel
theorem dL_law_532 : decode cL_law 532 = .ok (.aload_n 0, 1) := by decide +kernel
theorem dL_law_533 : decode cL_law 533 = .ok (.iload_n 3, 1) := by decide +kernel
theorem dL_law_534 : decode cL_law 534 = .ok (.iconst 1, 1) := by decide +kernel
theorem dL_law_535 : decode cL_law 535 = .ok (.iadd, 1) := by decide +kernel
theorem dL_law_536 : decode cL_law 536 = .ok (.iaload, 1) := by decide +kernel
theorem dL_law_537 : decode cL_law 537 = .ok (.aload_n 0, 1) := by decide +kernel
theorem dL_law_538 : decode cL_law 538 = .ok (.iload_n 3, 1) := by decide +kernel
theorem dL_law_539 : decode cL_law 539 = .ok (.iconst 2, 1) := by decide +kernel
theorem dL_law_540 : decode cL_law 540 = .ok (.iadd, 1) := by decide +kernel
theorem dL_law_541 : decode cL_law 541 = .ok (.iaload, 1) := by decide +kernel
theorem dL_law_542 : decode cL_law 542 = .ok (.invokevirtual 52, 3) := by decide +kernel
theorem dL_law_545 : decode cL_law 545 = .ok (.aload_n 2, 1) := by decide +kernel
theorem dL_law_546 : decode cL_law 546 = .ok (.aload_n 0, 1) := by decide +kernel
theorem dL_law_547 : decode cL_law 547 = .ok (.iload_n 3, 1) := by decide +kernel
theorem dL_law_548 : decode cL_law 548 = .ok (.iconst 1, 1) := by decide +kernel
theorem dL_law_549 : decode cL_law 549 = .ok (.iadd, 1) := by decide +kernel
theorem dL_law_550 : decode cL_law 550 = .ok (.iaload, 1) := by decide +kernel
theorem dL_law_551 : decode cL_law 551 = .ok (.aload_n 0, 1) := by decide +kernel
theorem dL_law_552 : decode cL_law 552 = .ok (.iload_n 3, 1) := by decide +kernel
theorem dL_law_553 : decode cL_law 553 = .ok (.iconst 2, 1) := by decide +kernel
theorem dL_law_554 : decode cL_law 554 = .ok (.iadd, 1) := by decide +kernel
theorem dL_law_555 : decode cL_law 555 = .ok (.iaload, 1) := by decide +kernel
theorem dL_law_556 : decode cL_law 556 = .ok (.invokevirtual 55, 3) := by decide +kernel
theorem dL_law_559 : decode cL_law 559 = .ok (.if_icmp .eq 660, 3) := by decide +kernel
theorem dL_law_562 : decode cL_law 562 = .ok (.iconst 0, 1) := by decide +kernel
theorem dL_law_563 : decode cL_law 563 = .ok (.ireturn, 1) := by decide +kernel
theorem dL_law_564 : decode cL_law 564 = .ok (.aload_n 1, 1) := by decide +kernel
theorem dL_law_565 : decode cL_law 565 = .ok (.aload_n 0, 1) := by decide +kernel
theorem dL_law_566 : decode cL_law 566 = .ok (.iload_n 3, 1) := by decide +kernel
theorem dL_law_567 : decode cL_law 567 = .ok (.iconst 1, 1) := by decide +kernel
theorem dL_law_568 : decode cL_law 568 = .ok (.iadd, 1) := by decide +kernel
theorem dL_law_569 : decode cL_law 569 = .ok (.iaload, 1) := by decide +kernel
theorem dL_law_570 : decode cL_law 570 = .ok (.aload_n 0, 1) := by decide +kernel
theorem dL_law_571 : decode cL_law 571 = .ok (.iload_n 3, 1) := by decide +kernel
theorem dL_law_572 : decode cL_law 572 = .ok (.iconst 2, 1) := by decide +kernel
theorem dL_law_573 : decode cL_law 573 = .ok (.iadd, 1) := by decide +kernel
theorem dL_law_574 : decode cL_law 574 = .ok (.iaload, 1) := by decide +kernel
theorem dL_law_575 : decode cL_law 575 = .ok (.i2l, 1) := by decide +kernel
theorem dL_law_576 : decode cL_law 576 = .ok (.bipush 32, 2) := by decide +kernel
theorem dL_law_578 : decode cL_law 578 = .ok (.lshl, 1) := by decide +kernel
theorem dL_law_579 : decode cL_law 579 = .ok (.aload_n 0, 1) := by decide +kernel
theorem dL_law_580 : decode cL_law 580 = .ok (.iload_n 3, 1) := by decide +kernel
theorem dL_law_581 : decode cL_law 581 = .ok (.iconst 3, 1) := by decide +kernel
theorem dL_law_582 : decode cL_law 582 = .ok (.iadd, 1) := by decide +kernel
theorem dL_law_583 : decode cL_law 583 = .ok (.iaload, 1) := by decide +kernel
theorem dL_law_584 : decode cL_law 584 = .ok (.i2l, 1) := by decide +kernel
theorem dL_law_585 : decode cL_law 585 = .ok (.ldc2_w 56, 3) := by decide +kernel
theorem dL_law_588 : decode cL_law 588 = .ok (.land, 1) := by decide +kernel
theorem dL_law_589 : decode cL_law 589 = .ok (.lor, 1) := by decide +kernel
theorem dL_law_590 : decode cL_law 590 = .ok (.invokevirtual 58, 3) := by decide +kernel
theorem dL_law_593 : decode cL_law 593 = .ok (.aload_n 2, 1) := by decide +kernel
theorem dL_law_594 : decode cL_law 594 = .ok (.aload_n 0, 1) := by decide +kernel
theorem dL_law_595 : decode cL_law 595 = .ok (.iload_n 3, 1) := by decide +kernel
theorem dL_law_596 : decode cL_law 596 = .ok (.iconst 1, 1) := by decide +kernel
theorem dL_law_597 : decode cL_law 597 = .ok (.iadd, 1) := by decide +kernel
theorem dL_law_598 : decode cL_law 598 = .ok (.iaload, 1) := by decide +kernel
theorem dL_law_599 : decode cL_law 599 = .ok (.aload_n 0, 1) := by decide +kernel
theorem dL_law_600 : decode cL_law 600 = .ok (.iload_n 3, 1) := by decide +kernel
theorem dL_law_601 : decode cL_law 601 = .ok (.iconst 2, 1) := by decide +kernel
theorem dL_law_602 : decode cL_law 602 = .ok (.iadd, 1) := by decide +kernel
theorem dL_law_603 : decode cL_law 603 = .ok (.iaload, 1) := by decide +kernel
theorem dL_law_604 : decode cL_law 604 = .ok (.i2l, 1) := by decide +kernel
theorem dL_law_605 : decode cL_law 605 = .ok (.bipush 32, 2) := by decide +kernel
theorem dL_law_607 : decode cL_law 607 = .ok (.lshl, 1) := by decide +kernel
theorem dL_law_608 : decode cL_law 608 = .ok (.aload_n 0, 1) := by decide +kernel
theorem dL_law_609 : decode cL_law 609 = .ok (.iload_n 3, 1) := by decide +kernel
theorem dL_law_610 : decode cL_law 610 = .ok (.iconst 3, 1) := by decide +kernel
theorem dL_law_611 : decode cL_law 611 = .ok (.iadd, 1) := by decide +kernel
theorem dL_law_612 : decode cL_law 612 = .ok (.iaload, 1) := by decide +kernel
theorem dL_law_613 : decode cL_law 613 = .ok (.i2l, 1) := by decide +kernel
theorem dL_law_614 : decode cL_law 614 = .ok (.ldc2_w 56, 3) := by decide +kernel
theorem dL_law_617 : decode cL_law 617 = .ok (.land, 1) := by decide +kernel
theorem dL_law_618 : decode cL_law 618 = .ok (.lor, 1) := by decide +kernel
theorem dL_law_619 : decode cL_law 619 = .ok (.invokevirtual 62, 3) := by decide +kernel
theorem dL_law_622 : decode cL_law 622 = .ok (.if_icmp .eq 597, 3) := by decide +kernel
theorem dL_law_625 : decode cL_law 625 = .ok (.iconst 0, 1) := by decide +kernel
theorem dL_law_626 : decode cL_law 626 = .ok (.ireturn, 1) := by decide +kernel
theorem dL_law_627 : decode cL_law 627 = .ok (.aload_n 1, 1) := by decide +kernel
theorem dL_law_628 : decode cL_law 628 = .ok (.invokevirtual 63, 3) := by decide +kernel
theorem dL_law_631 : decode cL_law 631 = .ok (.aload_n 2, 1) := by decide +kernel
theorem dL_law_632 : decode cL_law 632 = .ok (.invokevirtual 67, 3) := by decide +kernel
theorem dL_law_635 : decode cL_law 635 = .ok (.if_icmp .eq 584, 3) := by decide +kernel
theorem dL_law_638 : decode cL_law 638 = .ok (.iconst 0, 1) := by decide +kernel
theorem dL_law_639 : decode cL_law 639 = .ok (.ireturn, 1) := by decide +kernel
theorem dL_law_640 : decode cL_law 640 = .ok (.aload_n 1, 1) := by decide +kernel
theorem dL_law_641 : decode cL_law 641 = .ok (.aload_n 0, 1) := by decide +kernel
theorem dL_law_642 : decode cL_law 642 = .ok (.iload_n 3, 1) := by decide +kernel
theorem dL_law_643 : decode cL_law 643 = .ok (.iconst 1, 1) := by decide +kernel
theorem dL_law_644 : decode cL_law 644 = .ok (.iadd, 1) := by decide +kernel
theorem dL_law_645 : decode cL_law 645 = .ok (.iaload, 1) := by decide +kernel
theorem dL_law_646 : decode cL_law 646 = .ok (.aload_n 0, 1) := by decide +kernel
theorem dL_law_647 : decode cL_law 647 = .ok (.iload_n 3, 1) := by decide +kernel
theorem dL_law_648 : decode cL_law 648 = .ok (.iconst 2, 1) := by decide +kernel
theorem dL_law_649 : decode cL_law 649 = .ok (.iadd, 1) := by decide +kernel
theorem dL_law_650 : decode cL_law 650 = .ok (.iaload, 1) := by decide +kernel
theorem dL_law_651 : decode cL_law 651 = .ok (.invokevirtual 68, 3) := by decide +kernel
theorem dL_law_654 : decode cL_law 654 = .ok (.aload_n 2, 1) := by decide +kernel
theorem dL_law_655 : decode cL_law 655 = .ok (.aload_n 0, 1) := by decide +kernel
theorem dL_law_656 : decode cL_law 656 = .ok (.iload_n 3, 1) := by decide +kernel
theorem dL_law_657 : decode cL_law 657 = .ok (.iconst 1, 1) := by decide +kernel
theorem dL_law_658 : decode cL_law 658 = .ok (.iadd, 1) := by decide +kernel
theorem dL_law_659 : decode cL_law 659 = .ok (.iaload, 1) := by decide +kernel
theorem dL_law_660 : decode cL_law 660 = .ok (.aload_n 0, 1) := by decide +kernel
theorem dL_law_661 : decode cL_law 661 = .ok (.iload_n 3, 1) := by decide +kernel
theorem dL_law_662 : decode cL_law 662 = .ok (.iconst 2, 1) := by decide +kernel
theorem dL_law_663 : decode cL_law 663 = .ok (.iadd, 1) := by decide +kernel
theorem dL_law_664 : decode cL_law 664 = .ok (.iaload, 1) := by decide +kernel
theorem dL_law_665 : decode cL_law 665 = .ok (.invokevirtual 71, 3) := by decide +kernel
theorem dL_law_668 : decode cL_law 668 = .ok (.if_icmp .eq 551, 3) := by decide +kernel
theorem dL_law_671 : decode cL_law 671 = .ok (.iconst 0, 1) := by decide +kernel
theorem dL_law_672 : decode cL_law 672 = .ok (.ireturn, 1) := by decide +kernel
theorem dL_law_673 : decode cL_law 673 = .ok (.aload_n 1, 1) := by decide +kernel
theorem dL_law_674 : decode cL_law 674 = .ok (.aload_n 0, 1) := by decide +kernel
theorem dL_law_675 : decode cL_law 675 = .ok (.iload_n 3, 1) := by decide +kernel
theorem dL_law_676 : decode cL_law 676 = .ok (.iconst 1, 1) := by decide +kernel
theorem dL_law_677 : decode cL_law 677 = .ok (.iadd, 1) := by decide +kernel
theorem dL_law_678 : decode cL_law 678 = .ok (.iaload, 1) := by decide +kernel
theorem dL_law_679 : decode cL_law 679 = .ok (.invokevirtual 72, 3) := by decide +kernel
theorem dL_law_682 : decode cL_law 682 = .ok (.aload_n 2, 1) := by decide +kernel
theorem dL_law_683 : decode cL_law 683 = .ok (.aload_n 0, 1) := by decide +kernel
theorem dL_law_684 : decode cL_law 684 = .ok (.iload_n 3, 1) := by decide +kernel
theorem dL_law_685 : decode cL_law 685 = .ok (.iconst 1, 1) := by decide +kernel
theorem dL_law_686 : decode cL_law 686 = .ok (.iadd, 1) := by decide +kernel
theorem dL_law_687 : decode cL_law 687 = .ok (.iaload, 1) := by decide +kernel
theorem dL_law_688 : decode cL_law 688 = .ok (.invokevirtual 76, 3) := by decide +kernel
theorem dL_law_691 : decode cL_law 691 = .ok (.if_icmp .eq 528, 3) := by decide +kernel
theorem dL_law_694 : decode cL_law 694 = .ok (.iconst 0, 1) := by decide +kernel
theorem dL_law_695 : decode cL_law 695 = .ok (.ireturn, 1) := by decide +kernel
theorem dL_law_696 : decode cL_law 696 = .ok (.aload_n 1, 1) := by decide +kernel
theorem dL_law_697 : decode cL_law 697 = .ok (.aload_n 0, 1) := by decide +kernel
theorem dL_law_698 : decode cL_law 698 = .ok (.iload_n 3, 1) := by decide +kernel
theorem dL_law_699 : decode cL_law 699 = .ok (.iconst 1, 1) := by decide +kernel
theorem dL_law_700 : decode cL_law 700 = .ok (.iadd, 1) := by decide +kernel
theorem dL_law_701 : decode cL_law 701 = .ok (.iaload, 1) := by decide +kernel
theorem dL_law_702 : decode cL_law 702 = .ok (.aload_n 0, 1) := by decide +kernel
theorem dL_law_703 : decode cL_law 703 = .ok (.iload_n 3, 1) := by decide +kernel
theorem dL_law_704 : decode cL_law 704 = .ok (.iconst 2, 1) := by decide +kernel
theorem dL_law_705 : decode cL_law 705 = .ok (.iadd, 1) := by decide +kernel
theorem dL_law_706 : decode cL_law 706 = .ok (.iaload, 1) := by decide +kernel
theorem dL_law_707 : decode cL_law 707 = .ok (.aload_n 0, 1) := by decide +kernel
theorem dL_law_708 : decode cL_law 708 = .ok (.iload_n 3, 1) := by decide +kernel
theorem dL_law_709 : decode cL_law 709 = .ok (.iconst 3, 1) := by decide +kernel
theorem dL_law_710 : decode cL_law 710 = .ok (.iadd, 1) := by decide +kernel
theorem dL_law_711 : decode cL_law 711 = .ok (.iaload, 1) := by decide +kernel
theorem dL_law_712 : decode cL_law 712 = .ok (.invokevirtual 77, 3) := by decide +kernel
theorem dL_law_715 : decode cL_law 715 = .ok (.aload_n 2, 1) := by decide +kernel
theorem dL_law_716 : decode cL_law 716 = .ok (.aload_n 0, 1) := by decide +kernel
theorem dL_law_717 : decode cL_law 717 = .ok (.iload_n 3, 1) := by decide +kernel
theorem dL_law_718 : decode cL_law 718 = .ok (.iconst 1, 1) := by decide +kernel
theorem dL_law_719 : decode cL_law 719 = .ok (.iadd, 1) := by decide +kernel
theorem dL_law_720 : decode cL_law 720 = .ok (.iaload, 1) := by decide +kernel
theorem dL_law_721 : decode cL_law 721 = .ok (.aload_n 0, 1) := by decide +kernel
theorem dL_law_722 : decode cL_law 722 = .ok (.iload_n 3, 1) := by decide +kernel
theorem dL_law_723 : decode cL_law 723 = .ok (.iconst 2, 1) := by decide +kernel
theorem dL_law_724 : decode cL_law 724 = .ok (.iadd, 1) := by decide +kernel
theorem dL_law_725 : decode cL_law 725 = .ok (.iaload, 1) := by decide +kernel
theorem dL_law_726 : decode cL_law 726 = .ok (.aload_n 0, 1) := by decide +kernel
theorem dL_law_727 : decode cL_law 727 = .ok (.iload_n 3, 1) := by decide +kernel
theorem dL_law_728 : decode cL_law 728 = .ok (.iconst 3, 1) := by decide +kernel
theorem dL_law_729 : decode cL_law 729 = .ok (.iadd, 1) := by decide +kernel
theorem dL_law_730 : decode cL_law 730 = .ok (.iaload, 1) := by decide +kernel
theorem dL_law_731 : decode cL_law 731 = .ok (.invokevirtual 80, 3) := by decide +kernel
theorem dL_law_734 : decode cL_law 734 = .ok (.if_icmp .eq 485, 3) := by decide +kernel
theorem dL_law_737 : decode cL_law 737 = .ok (.iconst 0, 1) := by decide +kernel
theorem dL_law_738 : decode cL_law 738 = .ok (.ireturn, 1) := by decide +kernel
theorem dL_law_739 : decode cL_law 739 = .ok (.aload_n 1, 1) := by decide +kernel
theorem dL_law_740 : decode cL_law 740 = .ok (.aload_n 0, 1) := by decide +kernel
theorem dL_law_741 : decode cL_law 741 = .ok (.iload_n 3, 1) := by decide +kernel
theorem dL_law_742 : decode cL_law 742 = .ok (.iconst 1, 1) := by decide +kernel
theorem dL_law_743 : decode cL_law 743 = .ok (.iadd, 1) := by decide +kernel
theorem dL_law_744 : decode cL_law 744 = .ok (.iaload, 1) := by decide +kernel
theorem dL_law_745 : decode cL_law 745 = .ok (.aload_n 0, 1) := by decide +kernel
theorem dL_law_746 : decode cL_law 746 = .ok (.iload_n 3, 1) := by decide +kernel
theorem dL_law_747 : decode cL_law 747 = .ok (.iconst 2, 1) := by decide +kernel
theorem dL_law_748 : decode cL_law 748 = .ok (.iadd, 1) := by decide +kernel
theorem dL_law_749 : decode cL_law 749 = .ok (.iaload, 1) := by decide +kernel
theorem dL_law_750 : decode cL_law 750 = .ok (.aload_n 0, 1) := by decide +kernel
theorem dL_law_751 : decode cL_law 751 = .ok (.iload_n 3, 1) := by decide +kernel
theorem dL_law_752 : decode cL_law 752 = .ok (.iconst 3, 1) := by decide +kernel
theorem dL_law_753 : decode cL_law 753 = .ok (.iadd, 1) := by decide +kernel
theorem dL_law_754 : decode cL_law 754 = .ok (.iaload, 1) := by decide +kernel
theorem dL_law_755 : decode cL_law 755 = .ok (.aload_n 0, 1) := by decide +kernel
theorem dL_law_756 : decode cL_law 756 = .ok (.iload_n 3, 1) := by decide +kernel
theorem dL_law_757 : decode cL_law 757 = .ok (.iconst 4, 1) := by decide +kernel
theorem dL_law_758 : decode cL_law 758 = .ok (.iadd, 1) := by decide +kernel
theorem dL_law_759 : decode cL_law 759 = .ok (.iaload, 1) := by decide +kernel
theorem dL_law_760 : decode cL_law 760 = .ok (.invokevirtual 81, 3) := by decide +kernel
theorem dL_law_763 : decode cL_law 763 = .ok (.aload_n 2, 1) := by decide +kernel
theorem dL_law_764 : decode cL_law 764 = .ok (.aload_n 0, 1) := by decide +kernel
theorem dL_law_765 : decode cL_law 765 = .ok (.iload_n 3, 1) := by decide +kernel
theorem dL_law_766 : decode cL_law 766 = .ok (.iconst 1, 1) := by decide +kernel
theorem dL_law_767 : decode cL_law 767 = .ok (.iadd, 1) := by decide +kernel
theorem dL_law_768 : decode cL_law 768 = .ok (.iaload, 1) := by decide +kernel
theorem dL_law_769 : decode cL_law 769 = .ok (.aload_n 0, 1) := by decide +kernel
theorem dL_law_770 : decode cL_law 770 = .ok (.iload_n 3, 1) := by decide +kernel
theorem dL_law_771 : decode cL_law 771 = .ok (.iconst 2, 1) := by decide +kernel
theorem dL_law_772 : decode cL_law 772 = .ok (.iadd, 1) := by decide +kernel
theorem dL_law_773 : decode cL_law 773 = .ok (.iaload, 1) := by decide +kernel
theorem dL_law_774 : decode cL_law 774 = .ok (.aload_n 0, 1) := by decide +kernel
theorem dL_law_775 : decode cL_law 775 = .ok (.iload_n 3, 1) := by decide +kernel
theorem dL_law_776 : decode cL_law 776 = .ok (.iconst 3, 1) := by decide +kernel
theorem dL_law_777 : decode cL_law 777 = .ok (.iadd, 1) := by decide +kernel
theorem dL_law_778 : decode cL_law 778 = .ok (.iaload, 1) := by decide +kernel
theorem dL_law_779 : decode cL_law 779 = .ok (.aload_n 0, 1) := by decide +kernel
theorem dL_law_780 : decode cL_law 780 = .ok (.iload_n 3, 1) := by decide +kernel
theorem dL_law_781 : decode cL_law 781 = .ok (.iconst 4, 1) := by decide +kernel
theorem dL_law_782 : decode cL_law 782 = .ok (.iadd, 1) := by decide +kernel
theorem dL_law_783 : decode cL_law 783 = .ok (.iaload, 1) := by decide +kernel
theorem dL_law_784 : decode cL_law 784 = .ok (.invokevirtual 85, 3) := by decide +kernel
theorem dL_law_787 : decode cL_law 787 = .ok (.lcmp, 1) := by decide +kernel
theorem dL_law_788 : decode cL_law 788 = .ok (.ifCond .eq 431, 3) := by decide +kernel
theorem dL_law_791 : decode cL_law 791 = .ok (.iconst 0, 1) := by decide +kernel
theorem dL_law_792 : decode cL_law 792 = .ok (.ireturn, 1) := by decide +kernel
theorem dL_law_793 : decode cL_law 793 = .ok (.aload_n 1, 1) := by decide +kernel
theorem dL_law_794 : decode cL_law 794 = .ok (.aload_n 0, 1) := by decide +kernel
theorem dL_law_795 : decode cL_law 795 = .ok (.iload_n 3, 1) := by decide +kernel
theorem dL_law_796 : decode cL_law 796 = .ok (.iconst 1, 1) := by decide +kernel
theorem dL_law_797 : decode cL_law 797 = .ok (.iadd, 1) := by decide +kernel
theorem dL_law_798 : decode cL_law 798 = .ok (.iaload, 1) := by decide +kernel
theorem dL_law_799 : decode cL_law 799 = .ok (.invokevirtual 86, 3) := by decide +kernel
theorem dL_law_802 : decode cL_law 802 = .ok (.aload_n 2, 1) := by decide +kernel
theorem dL_law_803 : decode cL_law 803 = .ok (.aload_n 0, 1) := by decide +kernel
theorem dL_law_804 : decode cL_law 804 = .ok (.iload_n 3, 1) := by decide +kernel
theorem dL_law_805 : decode cL_law 805 = .ok (.iconst 1, 1) := by decide +kernel
theorem dL_law_806 : decode cL_law 806 = .ok (.iadd, 1) := by decide +kernel
theorem dL_law_807 : decode cL_law 807 = .ok (.iaload, 1) := by decide +kernel
theorem dL_law_808 : decode cL_law 808 = .ok (.invokevirtual 89, 3) := by decide +kernel
theorem dL_law_811 : decode cL_law 811 = .ok (.if_icmp .eq 408, 3) := by decide +kernel
theorem dL_law_814 : decode cL_law 814 = .ok (.iconst 0, 1) := by decide +kernel
theorem dL_law_815 : decode cL_law 815 = .ok (.ireturn, 1) := by decide +kernel
theorem dL_law_816 : decode cL_law 816 = .ok (.aload_n 1, 1) := by decide +kernel
theorem dL_law_817 : decode cL_law 817 = .ok (.aload_n 0, 1) := by decide +kernel
theorem dL_law_818 : decode cL_law 818 = .ok (.iload_n 3, 1) := by decide +kernel
theorem dL_law_819 : decode cL_law 819 = .ok (.iconst 1, 1) := by decide +kernel
theorem dL_law_820 : decode cL_law 820 = .ok (.iadd, 1) := by decide +kernel
theorem dL_law_821 : decode cL_law 821 = .ok (.iaload, 1) := by decide +kernel
theorem dL_law_822 : decode cL_law 822 = .ok (.aload_n 0, 1) := by decide +kernel
theorem dL_law_823 : decode cL_law 823 = .ok (.iload_n 3, 1) := by decide +kernel
theorem dL_law_824 : decode cL_law 824 = .ok (.iconst 2, 1) := by decide +kernel
theorem dL_law_825 : decode cL_law 825 = .ok (.iadd, 1) := by decide +kernel
theorem dL_law_826 : decode cL_law 826 = .ok (.iaload, 1) := by decide +kernel
theorem dL_law_827 : decode cL_law 827 = .ok (.aload_n 0, 1) := by decide +kernel
theorem dL_law_828 : decode cL_law 828 = .ok (.iload_n 3, 1) := by decide +kernel
theorem dL_law_829 : decode cL_law 829 = .ok (.iconst 3, 1) := by decide +kernel
theorem dL_law_830 : decode cL_law 830 = .ok (.iadd, 1) := by decide +kernel
theorem dL_law_831 : decode cL_law 831 = .ok (.iaload, 1) := by decide +kernel
theorem dL_law_832 : decode cL_law 832 = .ok (.ifCond .eq 7, 3) := by decide +kernel
theorem dL_law_835 : decode cL_law 835 = .ok (.iconst 1, 1) := by decide +kernel
theorem dL_law_836 : decode cL_law 836 = .ok (.goto 4, 3) := by decide +kernel
theorem dL_law_839 : decode cL_law 839 = .ok (.iconst 0, 1) := by decide +kernel
theorem dL_law_840 : decode cL_law 840 = .ok (.invokevirtual 90, 3) := by decide +kernel
theorem dL_law_843 : decode cL_law 843 = .ok (.aload_n 2, 1) := by decide +kernel
theorem dL_law_844 : decode cL_law 844 = .ok (.aload_n 0, 1) := by decide +kernel
theorem dL_law_845 : decode cL_law 845 = .ok (.iload_n 3, 1) := by decide +kernel
theorem dL_law_846 : decode cL_law 846 = .ok (.iconst 1, 1) := by decide +kernel
theorem dL_law_847 : decode cL_law 847 = .ok (.iadd, 1) := by decide +kernel
theorem dL_law_848 : decode cL_law 848 = .ok (.iaload, 1) := by decide +kernel
theorem dL_law_849 : decode cL_law 849 = .ok (.aload_n 0, 1) := by decide +kernel
theorem dL_law_850 : decode cL_law 850 = .ok (.iload_n 3, 1) := by decide +kernel
theorem dL_law_851 : decode cL_law 851 = .ok (.iconst 2, 1) := by decide +kernel
theorem dL_law_852 : decode cL_law 852 = .ok (.iadd, 1) := by decide +kernel
theorem dL_law_853 : decode cL_law 853 = .ok (.iaload, 1) := by decide +kernel
theorem dL_law_854 : decode cL_law 854 = .ok (.aload_n 0, 1) := by decide +kernel
theorem dL_law_855 : decode cL_law 855 = .ok (.iload_n 3, 1) := by decide +kernel
theorem dL_law_856 : decode cL_law 856 = .ok (.iconst 3, 1) := by decide +kernel
theorem dL_law_857 : decode cL_law 857 = .ok (.iadd, 1) := by decide +kernel
theorem dL_law_858 : decode cL_law 858 = .ok (.iaload, 1) := by decide +kernel
theorem dL_law_859 : decode cL_law 859 = .ok (.ifCond .eq 7, 3) := by decide +kernel
theorem dL_law_862 : decode cL_law 862 = .ok (.iconst 1, 1) := by decide +kernel
theorem dL_law_863 : decode cL_law 863 = .ok (.goto 4, 3) := by decide +kernel
theorem dL_law_866 : decode cL_law 866 = .ok (.iconst 0, 1) := by decide +kernel
theorem dL_law_867 : decode cL_law 867 = .ok (.invokevirtual 94, 3) := by decide +kernel
theorem dL_law_870 : decode cL_law 870 = .ok (.if_icmp .eq 349, 3) := by decide +kernel
theorem dL_law_873 : decode cL_law 873 = .ok (.iconst 0, 1) := by decide +kernel
theorem dL_law_874 : decode cL_law 874 = .ok (.ireturn, 1) := by decide +kernel
theorem dL_law_875 : decode cL_law 875 = .ok (.aload_n 1, 1) := by decide +kernel
theorem dL_law_876 : decode cL_law 876 = .ok (.aload_n 0, 1) := by decide +kernel
theorem dL_law_877 : decode cL_law 877 = .ok (.iload_n 3, 1) := by decide +kernel
theorem dL_law_878 : decode cL_law 878 = .ok (.iconst 1, 1) := by decide +kernel
theorem dL_law_879 : decode cL_law 879 = .ok (.iadd, 1) := by decide +kernel
theorem dL_law_880 : decode cL_law 880 = .ok (.iaload, 1) := by decide +kernel
theorem dL_law_881 : decode cL_law 881 = .ok (.invokevirtual 95, 3) := by decide +kernel
theorem dL_law_884 : decode cL_law 884 = .ok (.aload_n 2, 1) := by decide +kernel
theorem dL_law_885 : decode cL_law 885 = .ok (.aload_n 0, 1) := by decide +kernel
theorem dL_law_886 : decode cL_law 886 = .ok (.iload_n 3, 1) := by decide +kernel
theorem dL_law_887 : decode cL_law 887 = .ok (.iconst 1, 1) := by decide +kernel
theorem dL_law_888 : decode cL_law 888 = .ok (.iadd, 1) := by decide +kernel
theorem dL_law_889 : decode cL_law 889 = .ok (.iaload, 1) := by decide +kernel
theorem dL_law_890 : decode cL_law 890 = .ok (.invokevirtual 98, 3) := by decide +kernel
theorem dL_law_893 : decode cL_law 893 = .ok (.if_icmp .eq 326, 3) := by decide +kernel
theorem dL_law_896 : decode cL_law 896 = .ok (.iconst 0, 1) := by decide +kernel
theorem dL_law_897 : decode cL_law 897 = .ok (.ireturn, 1) := by decide +kernel
theorem dL_law_898 : decode cL_law 898 = .ok (.aload_n 1, 1) := by decide +kernel
theorem dL_law_899 : decode cL_law 899 = .ok (.aload_n 0, 1) := by decide +kernel
theorem dL_law_900 : decode cL_law 900 = .ok (.iload_n 3, 1) := by decide +kernel
theorem dL_law_901 : decode cL_law 901 = .ok (.iconst 1, 1) := by decide +kernel
theorem dL_law_902 : decode cL_law 902 = .ok (.iadd, 1) := by decide +kernel
theorem dL_law_903 : decode cL_law 903 = .ok (.iaload, 1) := by decide +kernel
theorem dL_law_904 : decode cL_law 904 = .ok (.invokevirtual 99, 3) := by decide +kernel
theorem dL_law_907 : decode cL_law 907 = .ok (.aload_n 2, 1) := by decide +kernel
theorem dL_law_908 : decode cL_law 908 = .ok (.aload_n 0, 1) := by decide +kernel
theorem dL_law_909 : decode cL_law 909 = .ok (.iload_n 3, 1) := by decide +kernel
theorem dL_law_910 : decode cL_law 910 = .ok (.iconst 1, 1) := by decide +kernel
theorem dL_law_911 : decode cL_law 911 = .ok (.iadd, 1) := by decide +kernel
theorem dL_law_912 : decode cL_law 912 = .ok (.iaload, 1) := by decide +kernel
theorem dL_law_913 : decode cL_law 913 = .ok (.invokevirtual 102, 3) := by decide +kernel
theorem dL_law_916 : decode cL_law 916 = .ok (.if_icmp .eq 303, 3) := by decide +kernel
theorem dL_law_919 : decode cL_law 919 = .ok (.iconst 0, 1) := by decide +kernel
theorem dL_law_920 : decode cL_law 920 = .ok (.ireturn, 1) := by decide +kernel
theorem dL_law_921 : decode cL_law 921 = .ok (.aload_n 1, 1) := by decide +kernel
theorem dL_law_922 : decode cL_law 922 = .ok (.aload_n 0, 1) := by decide +kernel
theorem dL_law_923 : decode cL_law 923 = .ok (.iload_n 3, 1) := by decide +kernel
theorem dL_law_924 : decode cL_law 924 = .ok (.iconst 1, 1) := by decide +kernel
theorem dL_law_925 : decode cL_law 925 = .ok (.iadd, 1) := by decide +kernel
theorem dL_law_926 : decode cL_law 926 = .ok (.iaload, 1) := by decide +kernel
theorem dL_law_927 : decode cL_law 927 = .ok (.aload_n 0, 1) := by decide +kernel
theorem dL_law_928 : decode cL_law 928 = .ok (.iload_n 3, 1) := by decide +kernel
theorem dL_law_929 : decode cL_law 929 = .ok (.iconst 2, 1) := by decide +kernel
theorem dL_law_930 : decode cL_law 930 = .ok (.iadd, 1) := by decide +kernel
theorem dL_law_931 : decode cL_law 931 = .ok (.iaload, 1) := by decide +kernel
theorem dL_law_932 : decode cL_law 932 = .ok (.aload_n 0, 1) := by decide +kernel
theorem dL_law_933 : decode cL_law 933 = .ok (.iload_n 3, 1) := by decide +kernel
theorem dL_law_934 : decode cL_law 934 = .ok (.iconst 3, 1) := by decide +kernel
theorem dL_law_935 : decode cL_law 935 = .ok (.iadd, 1) := by decide +kernel
theorem dL_law_936 : decode cL_law 936 = .ok (.iaload, 1) := by decide +kernel
theorem dL_law_937 : decode cL_law 937 = .ok (.aload_n 0, 1) := by decide +kernel
theorem dL_law_938 : decode cL_law 938 = .ok (.iload_n 3, 1) := by decide +kernel
theorem dL_law_939 : decode cL_law 939 = .ok (.iconst 4, 1) := by decide +kernel
theorem dL_law_940 : decode cL_law 940 = .ok (.iadd, 1) := by decide +kernel
theorem dL_law_941 : decode cL_law 941 = .ok (.iaload, 1) := by decide +kernel
theorem dL_law_942 : decode cL_law 942 = .ok (.invokevirtual 103, 3) := by decide +kernel
theorem dL_law_945 : decode cL_law 945 = .ok (.aload_n 2, 1) := by decide +kernel
theorem dL_law_946 : decode cL_law 946 = .ok (.aload_n 0, 1) := by decide +kernel
theorem dL_law_947 : decode cL_law 947 = .ok (.iload_n 3, 1) := by decide +kernel
theorem dL_law_948 : decode cL_law 948 = .ok (.iconst 1, 1) := by decide +kernel
theorem dL_law_949 : decode cL_law 949 = .ok (.iadd, 1) := by decide +kernel
theorem dL_law_950 : decode cL_law 950 = .ok (.iaload, 1) := by decide +kernel
theorem dL_law_951 : decode cL_law 951 = .ok (.aload_n 0, 1) := by decide +kernel
theorem dL_law_952 : decode cL_law 952 = .ok (.iload_n 3, 1) := by decide +kernel
theorem dL_law_953 : decode cL_law 953 = .ok (.iconst 2, 1) := by decide +kernel
theorem dL_law_954 : decode cL_law 954 = .ok (.iadd, 1) := by decide +kernel
theorem dL_law_955 : decode cL_law 955 = .ok (.iaload, 1) := by decide +kernel
theorem dL_law_956 : decode cL_law 956 = .ok (.aload_n 0, 1) := by decide +kernel
theorem dL_law_957 : decode cL_law 957 = .ok (.iload_n 3, 1) := by decide +kernel
theorem dL_law_958 : decode cL_law 958 = .ok (.iconst 3, 1) := by decide +kernel
theorem dL_law_959 : decode cL_law 959 = .ok (.iadd, 1) := by decide +kernel
theorem dL_law_960 : decode cL_law 960 = .ok (.iaload, 1) := by decide +kernel
theorem dL_law_961 : decode cL_law 961 = .ok (.aload_n 0, 1) := by decide +kernel
theorem dL_law_962 : decode cL_law 962 = .ok (.iload_n 3, 1) := by decide +kernel
theorem dL_law_963 : decode cL_law 963 = .ok (.iconst 4, 1) := by decide +kernel
theorem dL_law_964 : decode cL_law 964 = .ok (.iadd, 1) := by decide +kernel
theorem dL_law_965 : decode cL_law 965 = .ok (.iaload, 1) := by decide +kernel
theorem dL_law_966 : decode cL_law 966 = .ok (.invokevirtual 106, 3) := by decide +kernel
theorem dL_law_969 : decode cL_law 969 = .ok (.lcmp, 1) := by decide +kernel
theorem dL_law_970 : decode cL_law 970 = .ok (.ifCond .eq 249, 3) := by decide +kernel
theorem dL_law_973 : decode cL_law 973 = .ok (.iconst 0, 1) := by decide +kernel
theorem dL_law_974 : decode cL_law 974 = .ok (.ireturn, 1) := by decide +kernel
theorem dL_law_975 : decode cL_law 975 = .ok (.aload_n 1, 1) := by decide +kernel
theorem dL_law_976 : decode cL_law 976 = .ok (.aload_n 0, 1) := by decide +kernel
theorem dL_law_977 : decode cL_law 977 = .ok (.iload_n 3, 1) := by decide +kernel
theorem dL_law_978 : decode cL_law 978 = .ok (.iconst 1, 1) := by decide +kernel
theorem dL_law_979 : decode cL_law 979 = .ok (.iadd, 1) := by decide +kernel
theorem dL_law_980 : decode cL_law 980 = .ok (.iaload, 1) := by decide +kernel
theorem dL_law_981 : decode cL_law 981 = .ok (.invokevirtual 107, 3) := by decide +kernel
theorem dL_law_984 : decode cL_law 984 = .ok (.aload_n 2, 1) := by decide +kernel
theorem dL_law_985 : decode cL_law 985 = .ok (.aload_n 0, 1) := by decide +kernel
theorem dL_law_986 : decode cL_law 986 = .ok (.iload_n 3, 1) := by decide +kernel
theorem dL_law_987 : decode cL_law 987 = .ok (.iconst 1, 1) := by decide +kernel
theorem dL_law_988 : decode cL_law 988 = .ok (.iadd, 1) := by decide +kernel
theorem dL_law_989 : decode cL_law 989 = .ok (.iaload, 1) := by decide +kernel
theorem dL_law_990 : decode cL_law 990 = .ok (.invokevirtual 110, 3) := by decide +kernel
theorem dL_law_993 : decode cL_law 993 = .ok (.if_icmp .eq 226, 3) := by decide +kernel
theorem dL_law_996 : decode cL_law 996 = .ok (.iconst 0, 1) := by decide +kernel
theorem dL_law_997 : decode cL_law 997 = .ok (.ireturn, 1) := by decide +kernel
theorem dL_law_998 : decode cL_law 998 = .ok (.aload_n 1, 1) := by decide +kernel
theorem dL_law_999 : decode cL_law 999 = .ok (.aload_n 0, 1) := by decide +kernel
theorem dL_law_1000 : decode cL_law 1000 = .ok (.iload_n 3, 1) := by decide +kernel
theorem dL_law_1001 : decode cL_law 1001 = .ok (.iconst 1, 1) := by decide +kernel
theorem dL_law_1002 : decode cL_law 1002 = .ok (.iadd, 1) := by decide +kernel
theorem dL_law_1003 : decode cL_law 1003 = .ok (.iaload, 1) := by decide +kernel
theorem dL_law_1004 : decode cL_law 1004 = .ok (.aload_n 0, 1) := by decide +kernel
theorem dL_law_1005 : decode cL_law 1005 = .ok (.iload_n 3, 1) := by decide +kernel
theorem dL_law_1006 : decode cL_law 1006 = .ok (.iconst 2, 1) := by decide +kernel
theorem dL_law_1007 : decode cL_law 1007 = .ok (.iadd, 1) := by decide +kernel
theorem dL_law_1008 : decode cL_law 1008 = .ok (.iaload, 1) := by decide +kernel
theorem dL_law_1009 : decode cL_law 1009 = .ok (.invokevirtual 111, 3) := by decide +kernel
theorem dL_law_1012 : decode cL_law 1012 = .ok (.aload_n 2, 1) := by decide +kernel
theorem dL_law_1013 : decode cL_law 1013 = .ok (.aload_n 0, 1) := by decide +kernel
theorem dL_law_1014 : decode cL_law 1014 = .ok (.iload_n 3, 1) := by decide +kernel
theorem dL_law_1015 : decode cL_law 1015 = .ok (.iconst 1, 1) := by decide +kernel
theorem dL_law_1016 : decode cL_law 1016 = .ok (.iadd, 1) := by decide +kernel
theorem dL_law_1017 : decode cL_law 1017 = .ok (.iaload, 1) := by decide +kernel
theorem dL_law_1018 : decode cL_law 1018 = .ok (.aload_n 0, 1) := by decide +kernel
theorem dL_law_1019 : decode cL_law 1019 = .ok (.iload_n 3, 1) := by decide +kernel
theorem dL_law_1020 : decode cL_law 1020 = .ok (.iconst 2, 1) := by decide +kernel
theorem dL_law_1021 : decode cL_law 1021 = .ok (.iadd, 1) := by decide +kernel
theorem dL_law_1022 : decode cL_law 1022 = .ok (.iaload, 1) := by decide +kernel
theorem dL_law_1023 : decode cL_law 1023 = .ok (.invokevirtual 114, 3) := by decide +kernel
theorem dL_law_1026 : decode cL_law 1026 = .ok (.if_icmp .eq 193, 3) := by decide +kernel
theorem dL_law_1029 : decode cL_law 1029 = .ok (.iconst 0, 1) := by decide +kernel
theorem dL_law_1030 : decode cL_law 1030 = .ok (.ireturn, 1) := by decide +kernel
theorem dL_law_1031 : decode cL_law 1031 = .ok (.aload_n 1, 1) := by decide +kernel
theorem dL_law_1032 : decode cL_law 1032 = .ok (.aload_n 0, 1) := by decide +kernel
theorem dL_law_1033 : decode cL_law 1033 = .ok (.iload_n 3, 1) := by decide +kernel
theorem dL_law_1034 : decode cL_law 1034 = .ok (.iconst 1, 1) := by decide +kernel
theorem dL_law_1035 : decode cL_law 1035 = .ok (.iadd, 1) := by decide +kernel
theorem dL_law_1036 : decode cL_law 1036 = .ok (.iaload, 1) := by decide +kernel
theorem dL_law_1037 : decode cL_law 1037 = .ok (.aload_n 0, 1) := by decide +kernel
theorem dL_law_1038 : decode cL_law 1038 = .ok (.iload_n 3, 1) := by decide +kernel
theorem dL_law_1039 : decode cL_law 1039 = .ok (.iconst 2, 1) := by decide +kernel
theorem dL_law_1040 : decode cL_law 1040 = .ok (.iadd, 1) := by decide +kernel
theorem dL_law_1041 : decode cL_law 1041 = .ok (.iaload, 1) := by decide +kernel
theorem dL_law_1042 : decode cL_law 1042 = .ok (.aload_n 0, 1) := by decide +kernel
theorem dL_law_1043 : decode cL_law 1043 = .ok (.iload_n 3, 1) := by decide +kernel
theorem dL_law_1044 : decode cL_law 1044 = .ok (.iconst 3, 1) := by decide +kernel
theorem dL_law_1045 : decode cL_law 1045 = .ok (.iadd, 1) := by decide +kernel
theorem dL_law_1046 : decode cL_law 1046 = .ok (.iaload, 1) := by decide +kernel
theorem dL_law_1047 : decode cL_law 1047 = .ok (.invokevirtual 115, 3) := by decide +kernel
theorem dL_law_1050 : decode cL_law 1050 = .ok (.aload_n 2, 1) := by decide +kernel
theorem dL_law_1051 : decode cL_law 1051 = .ok (.aload_n 0, 1) := by decide +kernel
theorem dL_law_1052 : decode cL_law 1052 = .ok (.iload_n 3, 1) := by decide +kernel
theorem dL_law_1053 : decode cL_law 1053 = .ok (.iconst 1, 1) := by decide +kernel
theorem dL_law_1054 : decode cL_law 1054 = .ok (.iadd, 1) := by decide +kernel
theorem dL_law_1055 : decode cL_law 1055 = .ok (.iaload, 1) := by decide +kernel
theorem dL_law_1056 : decode cL_law 1056 = .ok (.aload_n 0, 1) := by decide +kernel
theorem dL_law_1057 : decode cL_law 1057 = .ok (.iload_n 3, 1) := by decide +kernel
theorem dL_law_1058 : decode cL_law 1058 = .ok (.iconst 2, 1) := by decide +kernel
theorem dL_law_1059 : decode cL_law 1059 = .ok (.iadd, 1) := by decide +kernel
theorem dL_law_1060 : decode cL_law 1060 = .ok (.iaload, 1) := by decide +kernel
theorem dL_law_1061 : decode cL_law 1061 = .ok (.aload_n 0, 1) := by decide +kernel
theorem dL_law_1062 : decode cL_law 1062 = .ok (.iload_n 3, 1) := by decide +kernel
theorem dL_law_1063 : decode cL_law 1063 = .ok (.iconst 3, 1) := by decide +kernel
theorem dL_law_1064 : decode cL_law 1064 = .ok (.iadd, 1) := by decide +kernel
theorem dL_law_1065 : decode cL_law 1065 = .ok (.iaload, 1) := by decide +kernel
theorem dL_law_1066 : decode cL_law 1066 = .ok (.invokevirtual 118, 3) := by decide +kernel
theorem dL_law_1069 : decode cL_law 1069 = .ok (.if_icmp .eq 150, 3) := by decide +kernel
theorem dL_law_1072 : decode cL_law 1072 = .ok (.iconst 0, 1) := by decide +kernel
theorem dL_law_1073 : decode cL_law 1073 = .ok (.ireturn, 1) := by decide +kernel
theorem dL_law_1074 : decode cL_law 1074 = .ok (.aload_n 1, 1) := by decide +kernel
theorem dL_law_1075 : decode cL_law 1075 = .ok (.aload_n 0, 1) := by decide +kernel
theorem dL_law_1076 : decode cL_law 1076 = .ok (.iload_n 3, 1) := by decide +kernel
theorem dL_law_1077 : decode cL_law 1077 = .ok (.iconst 1, 1) := by decide +kernel
theorem dL_law_1078 : decode cL_law 1078 = .ok (.iadd, 1) := by decide +kernel
theorem dL_law_1079 : decode cL_law 1079 = .ok (.iaload, 1) := by decide +kernel
theorem dL_law_1080 : decode cL_law 1080 = .ok (.invokevirtual 119, 3) := by decide +kernel
theorem dL_law_1083 : decode cL_law 1083 = .ok (.aload_n 2, 1) := by decide +kernel
theorem dL_law_1084 : decode cL_law 1084 = .ok (.aload_n 0, 1) := by decide +kernel
theorem dL_law_1085 : decode cL_law 1085 = .ok (.iload_n 3, 1) := by decide +kernel
theorem dL_law_1086 : decode cL_law 1086 = .ok (.iconst 1, 1) := by decide +kernel
theorem dL_law_1087 : decode cL_law 1087 = .ok (.iadd, 1) := by decide +kernel
theorem dL_law_1088 : decode cL_law 1088 = .ok (.iaload, 1) := by decide +kernel
theorem dL_law_1089 : decode cL_law 1089 = .ok (.invokevirtual 122, 3) := by decide +kernel
theorem dL_law_1092 : decode cL_law 1092 = .ok (.if_icmp .eq 127, 3) := by decide +kernel
theorem dL_law_1095 : decode cL_law 1095 = .ok (.iconst 0, 1) := by decide +kernel
theorem dL_law_1096 : decode cL_law 1096 = .ok (.ireturn, 1) := by decide +kernel
theorem dL_law_1097 : decode cL_law 1097 = .ok (.aload_n 1, 1) := by decide +kernel
theorem dL_law_1098 : decode cL_law 1098 = .ok (.aload_n 0, 1) := by decide +kernel
theorem dL_law_1099 : decode cL_law 1099 = .ok (.iload_n 3, 1) := by decide +kernel
theorem dL_law_1100 : decode cL_law 1100 = .ok (.iconst 1, 1) := by decide +kernel
theorem dL_law_1101 : decode cL_law 1101 = .ok (.iadd, 1) := by decide +kernel
theorem dL_law_1102 : decode cL_law 1102 = .ok (.iaload, 1) := by decide +kernel
theorem dL_law_1103 : decode cL_law 1103 = .ok (.invokevirtual 123, 3) := by decide +kernel
theorem dL_law_1106 : decode cL_law 1106 = .ok (.aload_n 2, 1) := by decide +kernel
theorem dL_law_1107 : decode cL_law 1107 = .ok (.aload_n 0, 1) := by decide +kernel
theorem dL_law_1108 : decode cL_law 1108 = .ok (.iload_n 3, 1) := by decide +kernel
theorem dL_law_1109 : decode cL_law 1109 = .ok (.iconst 1, 1) := by decide +kernel
theorem dL_law_1110 : decode cL_law 1110 = .ok (.iadd, 1) := by decide +kernel
theorem dL_law_1111 : decode cL_law 1111 = .ok (.iaload, 1) := by decide +kernel
theorem dL_law_1112 : decode cL_law 1112 = .ok (.invokevirtual 126, 3) := by decide +kernel
theorem dL_law_1115 : decode cL_law 1115 = .ok (.if_icmp .eq 104, 3) := by decide +kernel
theorem dL_law_1118 : decode cL_law 1118 = .ok (.iconst 0, 1) := by decide +kernel
theorem dL_law_1119 : decode cL_law 1119 = .ok (.ireturn, 1) := by decide +kernel
theorem dL_law_1120 : decode cL_law 1120 = .ok (.aload_n 1, 1) := by decide +kernel
theorem dL_law_1121 : decode cL_law 1121 = .ok (.aload_n 0, 1) := by decide +kernel
theorem dL_law_1122 : decode cL_law 1122 = .ok (.iload_n 3, 1) := by decide +kernel
theorem dL_law_1123 : decode cL_law 1123 = .ok (.iconst 1, 1) := by decide +kernel
theorem dL_law_1124 : decode cL_law 1124 = .ok (.iadd, 1) := by decide +kernel
theorem dL_law_1125 : decode cL_law 1125 = .ok (.iaload, 1) := by decide +kernel
theorem dL_law_1126 : decode cL_law 1126 = .ok (.aload_n 0, 1) := by decide +kernel
theorem dL_law_1127 : decode cL_law 1127 = .ok (.iload_n 3, 1) := by decide +kernel
theorem dL_law_1128 : decode cL_law 1128 = .ok (.iconst 2, 1) := by decide +kernel
theorem dL_law_1129 : decode cL_law 1129 = .ok (.iadd, 1) := by decide +kernel
theorem dL_law_1130 : decode cL_law 1130 = .ok (.iaload, 1) := by decide +kernel
theorem dL_law_1131 : decode cL_law 1131 = .ok (.aload_n 0, 1) := by decide +kernel
theorem dL_law_1132 : decode cL_law 1132 = .ok (.iload_n 3, 1) := by decide +kernel
theorem dL_law_1133 : decode cL_law 1133 = .ok (.iconst 3, 1) := by decide +kernel
theorem dL_law_1134 : decode cL_law 1134 = .ok (.iadd, 1) := by decide +kernel
theorem dL_law_1135 : decode cL_law 1135 = .ok (.iaload, 1) := by decide +kernel
theorem dL_law_1136 : decode cL_law 1136 = .ok (.invokevirtual 127, 3) := by decide +kernel
theorem dL_law_1139 : decode cL_law 1139 = .ok (.aload_n 2, 1) := by decide +kernel
theorem dL_law_1140 : decode cL_law 1140 = .ok (.aload_n 0, 1) := by decide +kernel
theorem dL_law_1141 : decode cL_law 1141 = .ok (.iload_n 3, 1) := by decide +kernel
theorem dL_law_1142 : decode cL_law 1142 = .ok (.iconst 1, 1) := by decide +kernel
theorem dL_law_1143 : decode cL_law 1143 = .ok (.iadd, 1) := by decide +kernel
theorem dL_law_1144 : decode cL_law 1144 = .ok (.iaload, 1) := by decide +kernel
theorem dL_law_1145 : decode cL_law 1145 = .ok (.aload_n 0, 1) := by decide +kernel
theorem dL_law_1146 : decode cL_law 1146 = .ok (.iload_n 3, 1) := by decide +kernel
theorem dL_law_1147 : decode cL_law 1147 = .ok (.iconst 2, 1) := by decide +kernel
theorem dL_law_1148 : decode cL_law 1148 = .ok (.iadd, 1) := by decide +kernel
theorem dL_law_1149 : decode cL_law 1149 = .ok (.iaload, 1) := by decide +kernel
theorem dL_law_1150 : decode cL_law 1150 = .ok (.aload_n 0, 1) := by decide +kernel
theorem dL_law_1151 : decode cL_law 1151 = .ok (.iload_n 3, 1) := by decide +kernel
theorem dL_law_1152 : decode cL_law 1152 = .ok (.iconst 3, 1) := by decide +kernel
theorem dL_law_1153 : decode cL_law 1153 = .ok (.iadd, 1) := by decide +kernel
theorem dL_law_1154 : decode cL_law 1154 = .ok (.iaload, 1) := by decide +kernel
theorem dL_law_1155 : decode cL_law 1155 = .ok (.invokevirtual 130, 3) := by decide +kernel
theorem dL_law_1158 : decode cL_law 1158 = .ok (.if_icmp .eq 61, 3) := by decide +kernel
theorem dL_law_1161 : decode cL_law 1161 = .ok (.iconst 0, 1) := by decide +kernel
theorem dL_law_1162 : decode cL_law 1162 = .ok (.ireturn, 1) := by decide +kernel
theorem dL_law_1163 : decode cL_law 1163 = .ok (.aload_n 1, 1) := by decide +kernel
theorem dL_law_1164 : decode cL_law 1164 = .ok (.aload_n 0, 1) := by decide +kernel
theorem dL_law_1165 : decode cL_law 1165 = .ok (.iload_n 3, 1) := by decide +kernel
theorem dL_law_1166 : decode cL_law 1166 = .ok (.iconst 1, 1) := by decide +kernel
theorem dL_law_1167 : decode cL_law 1167 = .ok (.iadd, 1) := by decide +kernel
theorem dL_law_1168 : decode cL_law 1168 = .ok (.iaload, 1) := by decide +kernel
theorem dL_law_1169 : decode cL_law 1169 = .ok (.aload_n 0, 1) := by decide +kernel
theorem dL_law_1170 : decode cL_law 1170 = .ok (.iload_n 3, 1) := by decide +kernel
theorem dL_law_1171 : decode cL_law 1171 = .ok (.iconst 2, 1) := by decide +kernel
theorem dL_law_1172 : decode cL_law 1172 = .ok (.iadd, 1) := by decide +kernel
theorem dL_law_1173 : decode cL_law 1173 = .ok (.iaload, 1) := by decide +kernel
theorem dL_law_1174 : decode cL_law 1174 = .ok (.aload_n 0, 1) := by decide +kernel
theorem dL_law_1175 : decode cL_law 1175 = .ok (.iload_n 3, 1) := by decide +kernel
theorem dL_law_1176 : decode cL_law 1176 = .ok (.iconst 3, 1) := by decide +kernel
theorem dL_law_1177 : decode cL_law 1177 = .ok (.iadd, 1) := by decide +kernel
theorem dL_law_1178 : decode cL_law 1178 = .ok (.iaload, 1) := by decide +kernel
theorem dL_law_1179 : decode cL_law 1179 = .ok (.invokevirtual 131, 3) := by decide +kernel
theorem dL_law_1182 : decode cL_law 1182 = .ok (.aload_n 2, 1) := by decide +kernel
theorem dL_law_1183 : decode cL_law 1183 = .ok (.aload_n 0, 1) := by decide +kernel
theorem dL_law_1184 : decode cL_law 1184 = .ok (.iload_n 3, 1) := by decide +kernel
theorem dL_law_1185 : decode cL_law 1185 = .ok (.iconst 1, 1) := by decide +kernel
theorem dL_law_1186 : decode cL_law 1186 = .ok (.iadd, 1) := by decide +kernel
theorem dL_law_1187 : decode cL_law 1187 = .ok (.iaload, 1) := by decide +kernel
theorem dL_law_1188 : decode cL_law 1188 = .ok (.aload_n 0, 1) := by decide +kernel
theorem dL_law_1189 : decode cL_law 1189 = .ok (.iload_n 3, 1) := by decide +kernel
theorem dL_law_1190 : decode cL_law 1190 = .ok (.iconst 2, 1) := by decide +kernel
theorem dL_law_1191 : decode cL_law 1191 = .ok (.iadd, 1) := by decide +kernel
theorem dL_law_1192 : decode cL_law 1192 = .ok (.iaload, 1) := by decide +kernel
theorem dL_law_1193 : decode cL_law 1193 = .ok (.aload_n 0, 1) := by decide +kernel
theorem dL_law_1194 : decode cL_law 1194 = .ok (.iload_n 3, 1) := by decide +kernel
theorem dL_law_1195 : decode cL_law 1195 = .ok (.iconst 3, 1) := by decide +kernel
theorem dL_law_1196 : decode cL_law 1196 = .ok (.iadd, 1) := by decide +kernel
theorem dL_law_1197 : decode cL_law 1197 = .ok (.iaload, 1) := by decide +kernel
theorem dL_law_1198 : decode cL_law 1198 = .ok (.invokevirtual 134, 3) := by decide +kernel
theorem dL_law_1201 : decode cL_law 1201 = .ok (.if_icmp .eq 18, 3) := by decide +kernel
theorem dL_law_1204 : decode cL_law 1204 = .ok (.iconst 0, 1) := by decide +kernel
theorem dL_law_1205 : decode cL_law 1205 = .ok (.ireturn, 1) := by decide +kernel
theorem dL_law_1206 : decode cL_law 1206 = .ok (.aload_n 1, 1) := by decide +kernel
theorem dL_law_1207 : decode cL_law 1207 = .ok (.invokevirtual 135, 3) := by decide +kernel
theorem dL_law_1210 : decode cL_law 1210 = .ok (.aload_n 2, 1) := by decide +kernel
theorem dL_law_1211 : decode cL_law 1211 = .ok (.invokevirtual 138, 3) := by decide +kernel
theorem dL_law_1214 : decode cL_law 1214 = .ok (.if_icmp .eq 5, 3) := by decide +kernel
theorem dL_law_1217 : decode cL_law 1217 = .ok (.iconst 0, 1) := by decide +kernel
theorem dL_law_1218 : decode cL_law 1218 = .ok (.ireturn, 1) := by decide +kernel
theorem dL_law_1219 : decode cL_law 1219 = .ok (.iinc 3 5, 3) := by decide +kernel
theorem dL_law_1222 : decode cL_law 1222 = .ok (.goto (-1204), 3) := by decide +kernel
theorem dL_law_1225 : decode cL_law 1225 = .ok (.iconst 1, 1) := by decide +kernel
theorem dL_law_1226 : decode cL_law 1226 = .ok (.ireturn, 1) := by decide +kernel
abbrev H_X11_init_150 (l : Launch) (q : o_M → Prop) (v1 : Int32) (kk : Nat) (nn : Nat) (M : o_M) : Prop := E_X11_init l q 150 [(0, rV (some 16)), (1, iV v1)] [] M kk nn
abbrev H_X11_init_177 (l : Launch) (q : o_M → Prop) (v1 : Int32) (kk : Nat) (nn : Nat) (M : o_M) : Prop := E_X11_init l q 177 [(0, rV (some 16)), (1, iV v1)] [] M kk nn
theorem w_X11_init (l : Launch) (M : o_M) (q : o_M → Prop) (h : (17 ∉ mL M ∧ (18 ∉ mL (sR (nW M 17 12) 16 0 (some 17)) ∧ (19 ∉ mL (sR (nW (sR (nW M 17 12) 16 0 (some 17)) 18 10) 16 1 (some 18)) ∧ (20 ∉ mL (sR (nW (sR (nW (sR (nW M 17 12) 16 0 (some 17)) 18 10) 16 1 (some 18)) 19 40) 16 2 (some 19)) ∧ (21 ∉ mL (sR (nW (sR (nW (sR (nW (sR (nW M 17 12) 16 0 (some 17)) 18 10) 16 1 (some 18)) 19 40) 16 2 (some 19)) 20 10) 16 3 (some 20)) ∧ (22 ∉ mL (sR (nW (sR (nW (sR (nW (sR (nW (sR (nW M 17 12) 16 0 (some 17)) 18 10) 16 1 (some 18)) 19 40) 16 2 (some 19)) 20 10) 16 3 (some 20)) 21 6) 16 4 (some 21)) ∧ (23 ∉ mL (sR (nW (sR (nW (sR (nW (sR (nW (sR (nW (sR (nW M 17 12) 16 0 (some 17)) 18 10) 16 1 (some 18)) 19 40) 16 2 (some 19)) 20 10) 16 3 (some 20)) 21 6) 16 4 (some 21)) 22 300) 16 5 (some 22)) ∧ K_X3_init l [rV (some 23)] (nW (sR (nW (sR (nW (sR (nW (sR (nW (sR (nW (sR (nW M 17 12) 16 0 (some 17)) 18 10) 16 1 (some 18)) 19 40) 16 2 (some 19)) 20 10) 16 3 (some 20)) 21 6) 16 4 (some 21)) 22 300) 16 5 (some 22)) 23 0) (fun M11 => (26 ∉ mL (sR M11 16 6 (some 23)) ∧ K_X4_init l [rV (some 26)] (nW (sR M11 16 6 (some 23)) 26 0) (fun M16 => (29 ∉ mL (sR M16 16 7 (some 26)) ∧ K_X5_init l [rV (some 29)] (nW (sR M16 16 7 (some 26)) 29 0) (fun M21 => (35 ∉ mL (sR M21 16 8 (some 29)) ∧ K_X1_init l [rV (some 35)] (nW (sR M21 16 8 (some 29)) 35 0) (fun M26 => (38 ∉ mL (sR M26 16 9 (some 35)) ∧ K_X0_init l [rV (some 38)] (nW (sR M26 16 9 (some 35)) 38 0) (fun M31 => H_X11_init_150 l q 0 24 1944 (sI (sI (sI (sI (sI (sI (sI (sR M31 16 10 (some 38)) 16 11 0) 16 12 0) 16 13 0) 16 14 0) 16 15 0) 16 16 0) 16 17 0)))))))))))))))))) : K_X11_init l [rV (some 16)] M q := by
  refine o_ctr (ini := true) (by decide +kernel) rfl (fun z => rfl) (Nat.le_of_ble_eq_true rfl) ?_
  show E_X11_init l q 0 [(0, rV (some 16))] [] M 0 0
  refine e_aload_n dX11_init_0 rfl rfl ?_
  refine e_objI loX11_1 oi_1 oi_2 (by decide) (Nat.le_of_ble_eq_true rfl) (by decide) dX11_init_1 ?_
  refine e_aload_n dX11_init_4 rfl rfl ?_
  refine e_bipush (v := 12) dX11_init_5 (by decide) ?_
  obtain ⟨o1, h⟩ := h
  refine e_anew (N := 12) o1 rfl clX11_9 (by decide) (by decide) (by decide) (by decide) (by decide) (by decide) dX11_init_7 ?_
  refine e_pR flX11_11 rfl (Or.inr ⟨rfl, rfl, rfl, fnX11_11⟩) rfl dX11_init_10 ?_
  refine e_aload_n dX11_init_13 rfl rfl ?_
  refine e_bipush (v := 10) dX11_init_14 (by decide) ?_
  obtain ⟨o2, h⟩ := h
  refine e_anew (N := 10) o2 rfl clX11_15 (by decide) (by decide) (by decide) (by decide) (by decide) (by decide) dX11_init_16 ?_
  refine e_pR flX11_17 rfl (Or.inr ⟨rfl, rfl, rfl, fnX11_17⟩) rfl dX11_init_19 ?_
  refine e_aload_n dX11_init_22 rfl rfl ?_
  refine e_bipush (v := 40) dX11_init_23 (by decide) ?_
  obtain ⟨o3, h⟩ := h
  refine e_anew (N := 40) o3 rfl clX11_21 (by decide) (by decide) (by decide) (by decide) (by decide) (by decide) dX11_init_25 ?_
  refine e_pR flX11_23 rfl (Or.inr ⟨rfl, rfl, rfl, fnX11_23⟩) rfl dX11_init_28 ?_
  refine e_aload_n dX11_init_31 rfl rfl ?_
  refine e_bipush (v := 10) dX11_init_32 (by decide) ?_
  obtain ⟨o4, h⟩ := h
  refine e_anew (N := 10) o4 rfl clX11_27 (by decide) (by decide) (by decide) (by decide) (by decide) (by decide) dX11_init_34 ?_
  refine e_pR flX11_29 rfl (Or.inr ⟨rfl, rfl, rfl, fnX11_29⟩) rfl dX11_init_37 ?_
  refine e_aload_n dX11_init_40 rfl rfl ?_
  refine e_bipush (v := 6) dX11_init_41 (by decide) ?_
  obtain ⟨o5, h⟩ := h
  refine e_anew (N := 6) o5 rfl clX11_33 (by decide) (by decide) (by decide) (by decide) (by decide) (by decide) dX11_init_43 ?_
  refine e_pR flX11_35 rfl (Or.inr ⟨rfl, rfl, rfl, fnX11_35⟩) rfl dX11_init_46 ?_
  refine e_aload_n dX11_init_49 rfl rfl ?_
  refine e_sipush (v := 300) dX11_init_50 (by decide) ?_
  obtain ⟨o6, h⟩ := h
  refine e_newa (N := 300) o6 rfl rfl rfl (by decide) ac_byte (by decide) (by decide) (by decide) (by decide) (by decide) dX11_init_53 ?_
  refine e_pR flX11_39 rfl (Or.inr ⟨rfl, rfl, rfl, fnX11_39⟩) rfl dX11_init_55 ?_
  refine e_aload_n dX11_init_58 rfl rfl ?_
  obtain ⟨o10, h⟩ := h
  refine e_new o10 rfl rfl rfl iT3 tyX3_ok (by decide) clX11_43 itX3 izX3 (by decide) (by decide) dX11_init_59 ?_
  refine e_dup rfl dX11_init_62 ?_
  refine e_callI (As := []) (st := [rV (some 23), rV (some 16)]) mt_X3_init rfl ii_X3_init lkX11_45 ⟨by decide, by decide⟩ (Nat.le_of_ble_eq_true rfl) ⟨by decide, by decide⟩ rfl rfl dX11_init_63 (Ctr.mono h (fun v M11 h => ?_))
  obtain ⟨rfl, h⟩ := h
  show E_X11_init l q 66 [(0, rV (some 16))] [rV (some 23), rV (some 16)] M11 9 700
  refine e_pR flX11_46 rfl (Or.inr ⟨rfl, rfl, rfl, fnX11_46⟩) rfl dX11_init_66 ?_
  refine e_aload_n dX11_init_69 rfl rfl ?_
  obtain ⟨o15, h⟩ := h
  refine e_new o15 rfl rfl rfl iT4 tyX4_ok (by decide) clX11_50 itX4 izX4 (by decide) (by decide) dX11_init_70 ?_
  refine e_dup rfl dX11_init_73 ?_
  refine e_callI (As := []) (st := [rV (some 26), rV (some 16)]) mt_X4_init rfl ii_X4_init lkX11_52 ⟨by decide, by decide⟩ (Nat.le_of_ble_eq_true rfl) ⟨by decide, by decide⟩ rfl rfl dX11_init_74 (Ctr.mono h (fun v M16 h => ?_))
  obtain ⟨rfl, h⟩ := h
  show E_X11_init l q 77 [(0, rV (some 16))] [rV (some 26), rV (some 16)] M16 12 777
  refine e_pR flX11_53 rfl (Or.inr ⟨rfl, rfl, rfl, fnX11_53⟩) rfl dX11_init_77 ?_
  refine e_aload_n dX11_init_80 rfl rfl ?_
  obtain ⟨o20, h⟩ := h
  refine e_new o20 rfl rfl rfl iT5 tyX5_ok (by decide) clX11_57 itX5 izX5 (by decide) (by decide) dX11_init_81 ?_
  refine e_dup rfl dX11_init_84 ?_
  refine e_callI (As := []) (st := [rV (some 29), rV (some 16)]) mt_X5_init rfl ii_X5_init lkX11_59 ⟨by decide, by decide⟩ (Nat.le_of_ble_eq_true rfl) ⟨by decide, by decide⟩ rfl rfl dX11_init_85 (Ctr.mono h (fun v M21 h => ?_))
  obtain ⟨rfl, h⟩ := h
  show E_X11_init l q 88 [(0, rV (some 16))] [rV (some 29), rV (some 16)] M21 18 840
  refine e_pR flX11_60 rfl (Or.inr ⟨rfl, rfl, rfl, fnX11_60⟩) rfl dX11_init_88 ?_
  refine e_aload_n dX11_init_91 rfl rfl ?_
  obtain ⟨o25, h⟩ := h
  refine e_new o25 rfl rfl rfl iT1 tyX1_ok (by decide) clX11_64 itX1 izX1 (by decide) (by decide) dX11_init_92 ?_
  refine e_dup rfl dX11_init_95 ?_
  refine e_callI (As := []) (st := [rV (some 35), rV (some 16)]) mt_X1_init rfl ii_X1_init lkX11_66 ⟨by decide, by decide⟩ (Nat.le_of_ble_eq_true rfl) ⟨by decide, by decide⟩ rfl rfl dX11_init_96 (Ctr.mono h (fun v M26 h => ?_))
  obtain ⟨rfl, h⟩ := h
  show E_X11_init l q 99 [(0, rV (some 16))] [rV (some 35), rV (some 16)] M26 21 854
  refine e_pR flX11_67 rfl (Or.inr ⟨rfl, rfl, rfl, fnX11_67⟩) rfl dX11_init_99 ?_
  refine e_aload_n dX11_init_102 rfl rfl ?_
  obtain ⟨o30, h⟩ := h
  refine e_new o30 rfl rfl rfl iT0 tyX0_ok (by decide) clX11_71 itX0 izX0 (by decide) (by decide) dX11_init_103 ?_
  refine e_dup rfl dX11_init_106 ?_
  refine e_callI (As := []) (st := [rV (some 38), rV (some 16)]) mt_X0_init rfl ii_X0_init lkX11_73 ⟨by decide, by decide⟩ (Nat.le_of_ble_eq_true rfl) ⟨by decide, by decide⟩ rfl rfl dX11_init_107 (Ctr.mono h (fun v M31 h => ?_))
  obtain ⟨rfl, h⟩ := h
  show E_X11_init l q 110 [(0, rV (some 16))] [rV (some 38), rV (some 16)] M31 24 1944
  refine e_pR flX11_74 rfl (Or.inr ⟨rfl, rfl, rfl, fnX11_74⟩) rfl dX11_init_110 ?_
  refine e_aload_n dX11_init_113 rfl rfl ?_
  refine e_iconst (v := 0) dX11_init_114 (by decide) ?_
  refine e_pI flX11_78 rfl (Or.inl rfl) rfl rfl rfl dX11_init_115 ?_
  refine e_aload_n dX11_init_118 rfl rfl ?_
  refine e_iconst (v := 0) dX11_init_119 (by decide) ?_
  refine e_pI flX11_82 rfl (Or.inl rfl) rfl rfl rfl dX11_init_120 ?_
  refine e_aload_n dX11_init_123 rfl rfl ?_
  refine e_iconst (v := 0) dX11_init_124 (by decide) ?_
  refine e_pI flX11_85 rfl (Or.inl rfl) rfl rfl rfl dX11_init_125 ?_
  refine e_aload_n dX11_init_128 rfl rfl ?_
  refine e_iconst (v := 0) dX11_init_129 (by decide) ?_
  refine e_pI flX11_88 rfl (Or.inl rfl) rfl rfl rfl dX11_init_130 ?_
  refine e_aload_n dX11_init_133 rfl rfl ?_
  refine e_iconst (v := 0) dX11_init_134 (by decide) ?_
  refine e_pI flX11_91 rfl (Or.inl rfl) rfl rfl rfl dX11_init_135 ?_
  refine e_aload_n dX11_init_138 rfl rfl ?_
  refine e_iconst (v := 0) dX11_init_139 (by decide) ?_
  refine e_pI flX11_94 rfl (Or.inl rfl) rfl rfl rfl dX11_init_140 ?_
  refine e_aload_n dX11_init_143 rfl rfl ?_
  refine e_iconst (v := 0) dX11_init_144 (by decide) ?_
  refine e_pI flX11_97 rfl (Or.inl rfl) rfl rfl rfl dX11_init_145 ?_
  refine e_iconst (v := 0) dX11_init_148 (by decide) ?_
  refine e_istore_n (lv' := [(1, iV 0), (0, rV (some 16))]) dX11_init_149 rfl (by decide) rfl ?_
  exact e_lv (List.forall_mem_cons.mpr ⟨rfl, List.forall_mem_cons.mpr ⟨rfl, fun _ h => absurd h List.not_mem_nil⟩⟩) h
theorem w_X11_init_150 (l : Launch) (q : o_M → Prop) (v1 : Int32) (kk : Nat) (nn : Nat) (M : o_M) (h : ((6 ≤ v1 → H_X11_init_177 l q 0 kk nn M) ∧ (¬ 6 ≤ v1 → (mR M 16 4 = some 21 ∧ (∃ b34, b34 ∉ mL M ∧ o_ty b34 = .inl 9 ∧ (kk + 1 ≤ 40 ∧ (nn + 6 ≤ 5000 ∧ (kk + 1 + 1 ≤ 40 ∧ (nn + 6 + 10 ≤ 5000 ∧ K_X9_init l [rV (some b34)] (nW M b34 0) (fun M39 => (vp_in v1 (mN M39 21) ∧ H_X11_init_150 l q (v1 + 1) (kk + 1 + 1) (nn + 6 + 10) (sR M39 21 v1.toNatClampNeg (some b34))))))))))))) : H_X11_init_150 l q v1 kk nn M := by
  refine e_iload_n dX11_init_150 rfl rfl ?_
  refine e_bipush (v := 6) dX11_init_151 (by decide) ?_
  refine e_ic_ge (tgt := 175) dX11_init_153 (by decide) (fun c32 => ?_) (fun c32 => ?_)
  · replace h := h.1 c32
    refine e_iconst (v := 0) dX11_init_175 (by decide) ?_
    refine e_istore_n (lv' := [(1, iV 0), (0, rV (some 16))]) dX11_init_176 rfl (by decide) rfl ?_
    exact e_lv (List.forall_mem_cons.mpr ⟨rfl, List.forall_mem_cons.mpr ⟨rfl, fun _ h => absurd h List.not_mem_nil⟩⟩) h
  · replace h := h.2 c32
    refine e_aload_n dX11_init_156 rfl rfl ?_
    obtain ⟨o33, h⟩ := h
    refine e_gA flX11_35 rfl rfl o33 dX11_init_157 ?_
    refine e_iload_n dX11_init_160 rfl rfl ?_
    obtain ⟨b34, o35, o36, h⟩ := h
    obtain ⟨o37, h⟩ := h
    obtain ⟨o38, h⟩ := h
    refine e_new o35 o36 rfl rfl iT9 tyX9_ok (by decide) clX11_33 itX9 izX9 o37 o38 dX11_init_161 ?_
    refine e_dup rfl dX11_init_164 ?_
    obtain ⟨o40, h⟩ := h
    obtain ⟨o41, h⟩ := h
    refine e_callI (As := []) (st := [rV (some b34), iV v1, rV (some 21)]) mt_X9_init rfl ii_X9_init lkX11_100 ⟨by decide, by decide⟩ (Nat.le_of_ble_eq_true rfl) ⟨o40, o41⟩ rfl rfl dX11_init_165 (Ctr.mono h (fun v M39 h => ?_))
    obtain ⟨rfl, h⟩ := h
    show E_X11_init l q 168 [(0, rV (some 16)), (1, iV v1)] [rV (some b34), iV v1, rV (some 21)] M39 (kk + 1 + 1) (nn + 6 + 10)
    obtain ⟨o42, h⟩ := h
    refine e_aast (r := (RX9, TX9, 6)) rfl o36 rfl o42 dX11_init_168 ?_
    refine e_iinc (v := 1) (lv' := [(1, iV (v1 + 1)), (0, rV (some 16))]) rfl (by decide) (by decide) rfl dX11_init_169 ?_
    refine e_goto (tgt := 150) dX11_init_172 (by decide) ?_
    exact e_lv (List.forall_mem_cons.mpr ⟨rfl, List.forall_mem_cons.mpr ⟨rfl, fun _ h => absurd h List.not_mem_nil⟩⟩) h
theorem w_X11_init_177 (l : Launch) (q : o_M → Prop) (v1 : Int32) (kk : Nat) (nn : Nat) (M : o_M) (h : (kk ≤ 40 ∧ (nn ≤ 5000 ∧ K_J0_length_8abf5 l [rV (some 1)] M (fun r46 M43 => ((r46 ≤ v1 → (kk ≤ 40 ∧ (nn ≤ 5000 ∧ K_J0_length_8abf5 l [rV (some 1)] M43 (fun r51 M48 => (mR (sI M48 16 15 r51) 16 6 = some 23 ∧ (mR (sI M48 16 15 r51) 16 5 = some 22 ∧ (kk ≤ 40 ∧ (nn ≤ 5000 ∧ K_X3_readTape l [rV (some 23), rV (some 22), iV (mI (sI M48 16 15 r51) 16 15)] (sI M48 16 15 r51) (fun r57 M54 => (kk + 4 ≤ 40 ∧ (nn + 906 ≤ 5000 ∧ K_X11_keepReadText l [rV (some 16)] M54 (fun M58 => (kk + 4 ≤ 40 ∧ (nn + 906 ≤ 5000 ∧ K_X11_tellForce l [rV (some 16), iV 0, iV 0] (sI M58 16 15 0) (fun M61 => (kk + 4 ≤ 40 ∧ (nn + 906 ≤ 5000 ∧ q M61))))))))))))))))) ∧ (¬ r46 ≤ v1 → (mR M43 16 5 = some 22 ∧ (kk ≤ 40 ∧ (nn ≤ 5000 ∧ K_J0_charAt_5068e l [rV (some 1), iV v1] M43 (fun r70 M67 => (vp_in v1 (mN M67 22) ∧ H_X11_init_177 l q (v1 + 1) kk nn (sI M67 22 v1.toNatClampNeg (vp_nar .byte r70.toInt8.toInt32))))))))))))) : H_X11_init_177 l q v1 kk nn M := by
  refine e_iload_n dX11_init_177 rfl rfl ?_
  refine e_ldcS (i := 0) (by decide) dX11_init_178 ?_
  obtain ⟨o44, h⟩ := h
  obtain ⟨o45, h⟩ := h
  refine e_callT (i := 0) (As := []) (st := [iV v1]) (by decide) rfl mt_J0_length_8abf5 in_J0_length_8abf5 lmX11_103 ⟨by decide, by decide⟩ (Nat.le_of_ble_eq_true rfl) ⟨o44, o45⟩ rfl rfl dX11_init_180 (Ctr.mono h (fun v M43 h => ?_))
  obtain ⟨r46, rfl, h⟩ := h
  show E_X11_init l q 183 [(0, rV (some 16)), (1, iV v1)] [iV r46, iV v1] M43 kk nn
  refine e_ic_ge (tgt := 205) dX11_init_183 (by decide) (fun c47 => ?_) (fun c47 => ?_)
  · replace h := h.1 c47
    refine e_aload_n dX11_init_205 rfl rfl ?_
    refine e_ldcS (i := 0) (by decide) dX11_init_206 ?_
    obtain ⟨o49, h⟩ := h
    obtain ⟨o50, h⟩ := h
    refine e_callT (i := 0) (As := []) (st := [rV (some 16)]) (by decide) rfl mt_J0_length_8abf5 in_J0_length_8abf5 lmX11_103 ⟨by decide, by decide⟩ (Nat.le_of_ble_eq_true rfl) ⟨o49, o50⟩ rfl rfl dX11_init_208 (Ctr.mono h (fun v M48 h => ?_))
    obtain ⟨r51, rfl, h⟩ := h
    show E_X11_init l q 211 [(0, rV (some 16)), (1, iV v1)] [iV r51, rV (some 16)] M48 kk nn
    refine e_pI flX11_91 rfl (Or.inl rfl) rfl rfl rfl dX11_init_211 ?_
    refine e_aload_n dX11_init_214 rfl rfl ?_
    obtain ⟨o52, h⟩ := h
    refine e_gA flX11_46 rfl rfl o52 dX11_init_215 ?_
    refine e_aload_n dX11_init_218 rfl rfl ?_
    obtain ⟨o53, h⟩ := h
    refine e_gA flX11_39 rfl rfl o53 dX11_init_219 ?_
    refine e_aload_n dX11_init_222 rfl rfl ?_
    refine e_gI flX11_91 rfl rfl dX11_init_223 ?_
    obtain ⟨o55, h⟩ := h
    obtain ⟨o56, h⟩ := h
    refine e_callV (As := [rV (some 22), iV (mI (sI M48 16 15 r51) 16 15)]) (st := []) mt_X3_readTape in_X3_readTape lkX11_113 rfl rfl ⟨by decide, by decide⟩ (Nat.le_of_ble_eq_true rfl) ⟨o55, o56⟩ rfl rfl dX11_init_226 (Ctr.mono h (fun v M54 h => ?_))
    obtain ⟨r57, rfl, h⟩ := h
    show E_X11_init l q 229 [(0, rV (some 16)), (1, iV v1)] [iV r57] M54 kk nn
    refine e_pop rfl dX11_init_229 ?_
    refine e_aload_n dX11_init_230 rfl rfl ?_
    obtain ⟨o59, h⟩ := h
    obtain ⟨o60, h⟩ := h
    refine e_callV (As := []) (st := []) mt_X11_keepReadText in_X11_keepReadText lkX11_117 rfl rfl ⟨by decide, by decide⟩ (Nat.le_of_ble_eq_true rfl) ⟨o59, o60⟩ rfl rfl dX11_init_231 (Ctr.mono h (fun v M58 h => ?_))
    obtain ⟨rfl, h⟩ := h
    show E_X11_init l q 234 [(0, rV (some 16)), (1, iV v1)] [] M58 (kk + 4) (nn + 906)
    refine e_aload_n dX11_init_234 rfl rfl ?_
    refine e_iconst (v := 0) dX11_init_235 (by decide) ?_
    refine e_pI flX11_91 rfl (Or.inl rfl) rfl rfl rfl dX11_init_236 ?_
    refine e_aload_n dX11_init_239 rfl rfl ?_
    refine e_iconst (v := 0) dX11_init_240 (by decide) ?_
    refine e_iconst (v := 0) dX11_init_241 (by decide) ?_
    obtain ⟨o62, h⟩ := h
    obtain ⟨o63, h⟩ := h
    refine e_callV (As := [iV 0, iV 0]) (st := []) mt_X11_tellForce in_X11_tellForce lkX11_120 rfl rfl ⟨by decide, by decide⟩ (Nat.le_of_ble_eq_true rfl) ⟨o62, o63⟩ rfl rfl dX11_init_242 (Ctr.mono h (fun v M61 h => ?_))
    obtain ⟨rfl, h⟩ := h
    show E_X11_init l q 245 [(0, rV (some 16)), (1, iV v1)] [] M61 (kk + 4) (nn + 906)
    obtain ⟨o64, h⟩ := h
    obtain ⟨o65, h⟩ := h
    refine e_widen (k' := 40) (n' := 5000) o64 o65 ?_
    exact e_ret rfl dX11_init_245 ⟨rfl, h⟩
  · replace h := h.2 c47
    refine e_aload_n dX11_init_186 rfl rfl ?_
    obtain ⟨o66, h⟩ := h
    refine e_gA flX11_39 rfl rfl o66 dX11_init_187 ?_
    refine e_iload_n dX11_init_190 rfl rfl ?_
    refine e_ldcS (i := 0) (by decide) dX11_init_191 ?_
    refine e_iload_n dX11_init_193 rfl rfl ?_
    obtain ⟨o68, h⟩ := h
    obtain ⟨o69, h⟩ := h
    refine e_callT (i := 0) (As := [iV v1]) (st := [iV v1, rV (some 22)]) (by decide) rfl mt_J0_charAt_5068e in_J0_charAt_5068e lmX11_109 ⟨by decide, by decide⟩ (Nat.le_of_ble_eq_true rfl) ⟨o68, o69⟩ rfl rfl dX11_init_194 (Ctr.mono h (fun v M67 h => ?_))
    obtain ⟨r70, rfl, h⟩ := h
    show E_X11_init l q 197 [(0, rV (some 16)), (1, iV v1)] [iV r70, iV v1, rV (some 22)] M67 kk nn
    refine e_i2b dX11_init_197 ?_
    obtain ⟨o71, h⟩ := h
    refine e_bast rfl o71 dX11_init_198 ?_
    refine e_iinc (v := 1) (lv' := [(1, iV (v1 + 1)), (0, rV (some 16))]) rfl (by decide) (by decide) rfl dX11_init_199 ?_
    refine e_goto (tgt := 177) dX11_init_202 (by decide) ?_
    exact e_lv (List.forall_mem_cons.mpr ⟨rfl, List.forall_mem_cons.mpr ⟨rfl, fun _ h => absurd h List.not_mem_nil⟩⟩) h
abbrev E_L_law (l : Launch) (sc : Option (Nat × (Nat → Int32))) (q : Int32 → o_M → Prop) (pc : Nat) (lv : List (Nat × o_V)) (st : List o_V) (M : o_M) (k n : Nat) : Prop := Ev l sc room_1 RL code 4 (some .boolean) false 600000 7302250 (QI q) pc lv st M k n
abbrev H_L_law_18 (l : Launch) (sc : Option (Nat × (Nat → Int32))) (q : Int32 → o_M → Prop) (v3 : Int32) (kk : Nat) (nn : Nat) (M : o_M) : Prop := E_L_law l sc q 18 [(0, rV (some 8)), (1, rV (some 16)), (2, rV (some 60)), (3, iV v3)] [] M kk nn
abbrev H_L_law_164 (l : Launch) (sc : Option (Nat × (Nat → Int32))) (q : Int32 → o_M → Prop) (v3 : Int32) (kk : Nat) (nn : Nat) (M : o_M) : Prop := E_L_law l sc q 164 [(0, rV (some 8)), (1, rV (some 16)), (2, rV (some 60)), (3, iV v3)] [] M kk nn
abbrev H_L_law_207 (l : Launch) (sc : Option (Nat × (Nat → Int32))) (q : Int32 → o_M → Prop) (v3 : Int32) (kk : Nat) (nn : Nat) (M : o_M) : Prop := E_L_law l sc q 207 [(0, rV (some 8)), (1, rV (some 16)), (2, rV (some 60)), (3, iV v3)] [] M kk nn
abbrev H_L_law_260 (l : Launch) (sc : Option (Nat × (Nat → Int32))) (q : Int32 → o_M → Prop) (v3 : Int32) (kk : Nat) (nn : Nat) (M : o_M) : Prop := E_L_law l sc q 260 [(0, rV (some 8)), (1, rV (some 16)), (2, rV (some 60)), (3, iV v3)] [] M kk nn
abbrev H_L_law_303 (l : Launch) (sc : Option (Nat × (Nat → Int32))) (q : Int32 → o_M → Prop) (v3 : Int32) (kk : Nat) (nn : Nat) (M : o_M) : Prop := E_L_law l sc q 303 [(0, rV (some 8)), (1, rV (some 16)), (2, rV (some 60)), (3, iV v3)] [] M kk nn
abbrev H_L_law_346 (l : Launch) (sc : Option (Nat × (Nat → Int32))) (q : Int32 → o_M → Prop) (v3 : Int32) (kk : Nat) (nn : Nat) (M : o_M) : Prop := E_L_law l sc q 346 [(0, rV (some 8)), (1, rV (some 16)), (2, rV (some 60)), (3, iV v3)] [] M kk nn
abbrev H_L_law_399 (l : Launch) (sc : Option (Nat × (Nat → Int32))) (q : Int32 → o_M → Prop) (v3 : Int32) (kk : Nat) (nn : Nat) (M : o_M) : Prop := E_L_law l sc q 399 [(0, rV (some 8)), (1, rV (some 16)), (2, rV (some 60)), (3, iV v3)] [] M kk nn
abbrev H_L_law_432 (l : Launch) (sc : Option (Nat × (Nat → Int32))) (q : Int32 → o_M → Prop) (v3 : Int32) (kk : Nat) (nn : Nat) (M : o_M) : Prop := E_L_law l sc q 432 [(0, rV (some 8)), (1, rV (some 16)), (2, rV (some 60)), (3, iV v3)] [] M kk nn
abbrev H_L_law_465 (l : Launch) (sc : Option (Nat × (Nat → Int32))) (q : Int32 → o_M → Prop) (v3 : Int32) (kk : Nat) (nn : Nat) (M : o_M) : Prop := E_L_law l sc q 465 [(0, rV (some 8)), (1, rV (some 16)), (2, rV (some 60)), (3, iV v3)] [] M kk nn
abbrev H_L_law_498 (l : Launch) (sc : Option (Nat × (Nat → Int32))) (q : Int32 → o_M → Prop) (v3 : Int32) (kk : Nat) (nn : Nat) (M : o_M) : Prop := E_L_law l sc q 498 [(0, rV (some 8)), (1, rV (some 16)), (2, rV (some 60)), (3, iV v3)] [] M kk nn
abbrev H_L_law_531 (l : Launch) (sc : Option (Nat × (Nat → Int32))) (q : Int32 → o_M → Prop) (v3 : Int32) (kk : Nat) (nn : Nat) (M : o_M) : Prop := E_L_law l sc q 531 [(0, rV (some 8)), (1, rV (some 16)), (2, rV (some 60)), (3, iV v3)] [] M kk nn
abbrev H_L_law_564 (l : Launch) (sc : Option (Nat × (Nat → Int32))) (q : Int32 → o_M → Prop) (v3 : Int32) (kk : Nat) (nn : Nat) (M : o_M) : Prop := E_L_law l sc q 564 [(0, rV (some 8)), (1, rV (some 16)), (2, rV (some 60)), (3, iV v3)] [] M kk nn
abbrev H_L_law_627 (l : Launch) (sc : Option (Nat × (Nat → Int32))) (q : Int32 → o_M → Prop) (v3 : Int32) (kk : Nat) (nn : Nat) (M : o_M) : Prop := E_L_law l sc q 627 [(0, rV (some 8)), (1, rV (some 16)), (2, rV (some 60)), (3, iV v3)] [] M kk nn
abbrev H_L_law_640 (l : Launch) (sc : Option (Nat × (Nat → Int32))) (q : Int32 → o_M → Prop) (v3 : Int32) (kk : Nat) (nn : Nat) (M : o_M) : Prop := E_L_law l sc q 640 [(0, rV (some 8)), (1, rV (some 16)), (2, rV (some 60)), (3, iV v3)] [] M kk nn
abbrev H_L_law_673 (l : Launch) (sc : Option (Nat × (Nat → Int32))) (q : Int32 → o_M → Prop) (v3 : Int32) (kk : Nat) (nn : Nat) (M : o_M) : Prop := E_L_law l sc q 673 [(0, rV (some 8)), (1, rV (some 16)), (2, rV (some 60)), (3, iV v3)] [] M kk nn
abbrev H_L_law_696 (l : Launch) (sc : Option (Nat × (Nat → Int32))) (q : Int32 → o_M → Prop) (v3 : Int32) (kk : Nat) (nn : Nat) (M : o_M) : Prop := E_L_law l sc q 696 [(0, rV (some 8)), (1, rV (some 16)), (2, rV (some 60)), (3, iV v3)] [] M kk nn
abbrev H_L_law_739 (l : Launch) (sc : Option (Nat × (Nat → Int32))) (q : Int32 → o_M → Prop) (v3 : Int32) (kk : Nat) (nn : Nat) (M : o_M) : Prop := E_L_law l sc q 739 [(0, rV (some 8)), (1, rV (some 16)), (2, rV (some 60)), (3, iV v3)] [] M kk nn
abbrev H_L_law_793 (l : Launch) (sc : Option (Nat × (Nat → Int32))) (q : Int32 → o_M → Prop) (v3 : Int32) (kk : Nat) (nn : Nat) (M : o_M) : Prop := E_L_law l sc q 793 [(0, rV (some 8)), (1, rV (some 16)), (2, rV (some 60)), (3, iV v3)] [] M kk nn
abbrev H_L_law_816 (l : Launch) (sc : Option (Nat × (Nat → Int32))) (q : Int32 → o_M → Prop) (v3 : Int32) (kk : Nat) (nn : Nat) (M : o_M) : Prop := E_L_law l sc q 816 [(0, rV (some 8)), (1, rV (some 16)), (2, rV (some 60)), (3, iV v3)] [] M kk nn
abbrev H_L_law_875 (l : Launch) (sc : Option (Nat × (Nat → Int32))) (q : Int32 → o_M → Prop) (v3 : Int32) (kk : Nat) (nn : Nat) (M : o_M) : Prop := E_L_law l sc q 875 [(0, rV (some 8)), (1, rV (some 16)), (2, rV (some 60)), (3, iV v3)] [] M kk nn
abbrev H_L_law_898 (l : Launch) (sc : Option (Nat × (Nat → Int32))) (q : Int32 → o_M → Prop) (v3 : Int32) (kk : Nat) (nn : Nat) (M : o_M) : Prop := E_L_law l sc q 898 [(0, rV (some 8)), (1, rV (some 16)), (2, rV (some 60)), (3, iV v3)] [] M kk nn
abbrev H_L_law_921 (l : Launch) (sc : Option (Nat × (Nat → Int32))) (q : Int32 → o_M → Prop) (v3 : Int32) (kk : Nat) (nn : Nat) (M : o_M) : Prop := E_L_law l sc q 921 [(0, rV (some 8)), (1, rV (some 16)), (2, rV (some 60)), (3, iV v3)] [] M kk nn
abbrev H_L_law_975 (l : Launch) (sc : Option (Nat × (Nat → Int32))) (q : Int32 → o_M → Prop) (v3 : Int32) (kk : Nat) (nn : Nat) (M : o_M) : Prop := E_L_law l sc q 975 [(0, rV (some 8)), (1, rV (some 16)), (2, rV (some 60)), (3, iV v3)] [] M kk nn
abbrev H_L_law_998 (l : Launch) (sc : Option (Nat × (Nat → Int32))) (q : Int32 → o_M → Prop) (v3 : Int32) (kk : Nat) (nn : Nat) (M : o_M) : Prop := E_L_law l sc q 998 [(0, rV (some 8)), (1, rV (some 16)), (2, rV (some 60)), (3, iV v3)] [] M kk nn
abbrev H_L_law_1031 (l : Launch) (sc : Option (Nat × (Nat → Int32))) (q : Int32 → o_M → Prop) (v3 : Int32) (kk : Nat) (nn : Nat) (M : o_M) : Prop := E_L_law l sc q 1031 [(0, rV (some 8)), (1, rV (some 16)), (2, rV (some 60)), (3, iV v3)] [] M kk nn
abbrev H_L_law_1074 (l : Launch) (sc : Option (Nat × (Nat → Int32))) (q : Int32 → o_M → Prop) (v3 : Int32) (kk : Nat) (nn : Nat) (M : o_M) : Prop := E_L_law l sc q 1074 [(0, rV (some 8)), (1, rV (some 16)), (2, rV (some 60)), (3, iV v3)] [] M kk nn
abbrev H_L_law_1097 (l : Launch) (sc : Option (Nat × (Nat → Int32))) (q : Int32 → o_M → Prop) (v3 : Int32) (kk : Nat) (nn : Nat) (M : o_M) : Prop := E_L_law l sc q 1097 [(0, rV (some 8)), (1, rV (some 16)), (2, rV (some 60)), (3, iV v3)] [] M kk nn
abbrev H_L_law_1120 (l : Launch) (sc : Option (Nat × (Nat → Int32))) (q : Int32 → o_M → Prop) (v3 : Int32) (kk : Nat) (nn : Nat) (M : o_M) : Prop := E_L_law l sc q 1120 [(0, rV (some 8)), (1, rV (some 16)), (2, rV (some 60)), (3, iV v3)] [] M kk nn
abbrev H_L_law_1163 (l : Launch) (sc : Option (Nat × (Nat → Int32))) (q : Int32 → o_M → Prop) (v3 : Int32) (kk : Nat) (nn : Nat) (M : o_M) : Prop := E_L_law l sc q 1163 [(0, rV (some 8)), (1, rV (some 16)), (2, rV (some 60)), (3, iV v3)] [] M kk nn
abbrev H_L_law_1206 (l : Launch) (sc : Option (Nat × (Nat → Int32))) (q : Int32 → o_M → Prop) (v3 : Int32) (kk : Nat) (nn : Nat) (M : o_M) : Prop := E_L_law l sc q 1206 [(0, rV (some 8)), (1, rV (some 16)), (2, rV (some 60)), (3, iV v3)] [] M kk nn
abbrev H_L_law_1219 (l : Launch) (sc : Option (Nat × (Nat → Int32))) (q : Int32 → o_M → Prop) (v3 : Int32) (kk : Nat) (nn : Nat) (M : o_M) : Prop := E_L_law l sc q 1219 [(0, rV (some 8)), (1, rV (some 16)), (2, rV (some 60)), (3, iV v3)] [] M kk nn
theorem w_L_law (l : Launch) (L : Nat) (xs : Nat → Int32) (M : o_M) (q : Int32 → o_M → Prop) (h : (16 ∉ mL M ∧ K_X11_init l [rV (some 16)] (nW M 16 0) (fun M5 => (60 ∉ mL M5 ∧ K_X12_init l [rV (some 60)] (nW M5 60 0) (fun M10 => H_L_law_18 l (some (L, xs)) q 0 85 32305 M10))))) : E_L_law l (some (L, xs)) q 0 [(0, rV (some 8))] [] M 0 0 := by
  obtain ⟨o4, h⟩ := h
  refine e_new o4 rfl rfl rfl iT11 tyX11_ok (by decide) clL_7 itX11 izX11 (by decide) (by decide) dL_law_0 ?_
  refine e_dup rfl dL_law_3 ?_
  refine e_callI (As := []) (st := [rV (some 16)]) mt_X11_init rfl ii_X11_init lkL_9 ⟨by decide, by decide⟩ (Nat.le_of_ble_eq_true rfl) ⟨by decide, by decide⟩ rfl rfl dL_law_4 (Ctr.mono h (fun v M5 h => ?_))
  obtain ⟨rfl, h⟩ := h
  show E_L_law l (some (L, xs)) q 7 [(0, rV (some 8))] [rV (some 16)] M5 41 5018
  refine e_astore_n (lv' := [(1, rV (some 16)), (0, rV (some 8))]) dL_law_7 rfl (by decide) rfl ?_
  obtain ⟨o9, h⟩ := h
  refine e_new o9 rfl rfl rfl iT12 tyX12_ok (by decide) clL_10 itX12 izX12 (by decide) (by decide) dL_law_8 ?_
  refine e_dup rfl dL_law_11 ?_
  refine e_callI (As := []) (st := [rV (some 60)]) mt_X12_init rfl ii_X12_init lkL_12 ⟨by decide, by decide⟩ (Nat.le_of_ble_eq_true rfl) ⟨by decide, by decide⟩ rfl rfl dL_law_12 (Ctr.mono h (fun v M10 h => ?_))
  obtain ⟨rfl, h⟩ := h
  show E_L_law l (some (L, xs)) q 15 [(1, rV (some 16)), (0, rV (some 8))] [rV (some 60)] M10 85 32305
  refine e_astore_n (lv' := [(2, rV (some 60)), (1, rV (some 16)), (0, rV (some 8))]) dL_law_15 rfl (by decide) rfl ?_
  refine e_iconst (v := 0) dL_law_16 (by decide) ?_
  refine e_istore_n (lv' := [(3, iV 0), (2, rV (some 60)), (1, rV (some 16)), (0, rV (some 8))]) dL_law_17 rfl (by decide) rfl ?_
  exact e_lv (List.forall_mem_cons.mpr ⟨rfl, List.forall_mem_cons.mpr ⟨rfl, List.forall_mem_cons.mpr ⟨rfl, List.forall_mem_cons.mpr ⟨rfl, fun _ h => absurd h List.not_mem_nil⟩⟩⟩⟩) h
theorem w_L_law_18 (l : Launch) (L : Nat) (xs : Nat → Int32) (q : Int32 → o_M → Prop) (v3 : Int32) (kk : Nat) (nn : Nat) (M : o_M) (h : ((((Int32.ofNat L) - 5) < v3 → (kk ≤ 600000 ∧ (nn ≤ 7302250 ∧ q 1 M))) ∧ (¬ ((Int32.ofNat L) - 5) < v3 → (vp_in v3 L ∧ (((((xs v3.toNatClampNeg) &&& 31) < 0 ∨ 28 < ((xs v3.toNatClampNeg) &&& 31)) → H_L_law_1219 l (some (L, xs)) q v3 kk nn M) ∧ (((xs v3.toNatClampNeg) &&& 31) = 0 → H_L_law_164 l (some (L, xs)) q v3 kk nn M) ∧ (((xs v3.toNatClampNeg) &&& 31) = 1 → H_L_law_207 l (some (L, xs)) q v3 kk nn M) ∧ (((xs v3.toNatClampNeg) &&& 31) = 2 → H_L_law_260 l (some (L, xs)) q v3 kk nn M) ∧ (((xs v3.toNatClampNeg) &&& 31) = 3 → H_L_law_303 l (some (L, xs)) q v3 kk nn M) ∧ (((xs v3.toNatClampNeg) &&& 31) = 4 → H_L_law_346 l (some (L, xs)) q v3 kk nn M) ∧ (((xs v3.toNatClampNeg) &&& 31) = 5 → H_L_law_399 l (some (L, xs)) q v3 kk nn M) ∧ (((xs v3.toNatClampNeg) &&& 31) = 6 → H_L_law_432 l (some (L, xs)) q v3 kk nn M) ∧ (((xs v3.toNatClampNeg) &&& 31) = 7 → H_L_law_465 l (some (L, xs)) q v3 kk nn M) ∧ (((xs v3.toNatClampNeg) &&& 31) = 8 → H_L_law_498 l (some (L, xs)) q v3 kk nn M) ∧ (((xs v3.toNatClampNeg) &&& 31) = 9 → H_L_law_531 l (some (L, xs)) q v3 kk nn M) ∧ (((xs v3.toNatClampNeg) &&& 31) = 10 → H_L_law_564 l (some (L, xs)) q v3 kk nn M) ∧ (((xs v3.toNatClampNeg) &&& 31) = 11 → H_L_law_627 l (some (L, xs)) q v3 kk nn M) ∧ (((xs v3.toNatClampNeg) &&& 31) = 12 → H_L_law_640 l (some (L, xs)) q v3 kk nn M) ∧ (((xs v3.toNatClampNeg) &&& 31) = 13 → H_L_law_673 l (some (L, xs)) q v3 kk nn M) ∧ (((xs v3.toNatClampNeg) &&& 31) = 14 → H_L_law_696 l (some (L, xs)) q v3 kk nn M) ∧ (((xs v3.toNatClampNeg) &&& 31) = 15 → H_L_law_739 l (some (L, xs)) q v3 kk nn M) ∧ (((xs v3.toNatClampNeg) &&& 31) = 16 → H_L_law_793 l (some (L, xs)) q v3 kk nn M) ∧ (((xs v3.toNatClampNeg) &&& 31) = 17 → H_L_law_816 l (some (L, xs)) q v3 kk nn M) ∧ (((xs v3.toNatClampNeg) &&& 31) = 18 → H_L_law_875 l (some (L, xs)) q v3 kk nn M) ∧ (((xs v3.toNatClampNeg) &&& 31) = 19 → H_L_law_898 l (some (L, xs)) q v3 kk nn M) ∧ (((xs v3.toNatClampNeg) &&& 31) = 20 → H_L_law_921 l (some (L, xs)) q v3 kk nn M) ∧ (((xs v3.toNatClampNeg) &&& 31) = 21 → H_L_law_975 l (some (L, xs)) q v3 kk nn M) ∧ (((xs v3.toNatClampNeg) &&& 31) = 22 → H_L_law_998 l (some (L, xs)) q v3 kk nn M) ∧ (((xs v3.toNatClampNeg) &&& 31) = 23 → H_L_law_1031 l (some (L, xs)) q v3 kk nn M) ∧ (((xs v3.toNatClampNeg) &&& 31) = 24 → H_L_law_1074 l (some (L, xs)) q v3 kk nn M) ∧ (((xs v3.toNatClampNeg) &&& 31) = 25 → H_L_law_1097 l (some (L, xs)) q v3 kk nn M) ∧ (((xs v3.toNatClampNeg) &&& 31) = 26 → H_L_law_1120 l (some (L, xs)) q v3 kk nn M) ∧ (((xs v3.toNatClampNeg) &&& 31) = 27 → H_L_law_1163 l (some (L, xs)) q v3 kk nn M) ∧ (((xs v3.toNatClampNeg) &&& 31) = 28 → H_L_law_1206 l (some (L, xs)) q v3 kk nn M)))))) : H_L_law_18 l (some (L, xs)) q v3 kk nn M := by
  refine e_iload_n dL_law_18 rfl rfl ?_
  refine e_aload_n dL_law_19 rfl rfl ?_
  refine e_scl dL_law_20 ?_
  refine e_iconst (v := 5) dL_law_21 (by decide) ?_
  refine e_isub dL_law_22 ?_
  refine e_ic_gt (tgt := 1225) dL_law_23 (by decide) (fun c11 => ?_) (fun c11 => ?_)
  · replace h := h.1 c11
    refine e_iconst (v := 1) dL_law_1225 (by decide) ?_
    obtain ⟨o12, h⟩ := h
    obtain ⟨o13, h⟩ := h
    refine e_widen (k' := 600000) (n' := 7302250) o12 o13 ?_
    exact e_iret rfl rb_1 dL_law_1226 ⟨_, rfl, h⟩
  · replace h := h.2 c11
    refine e_aload_n dL_law_26 rfl rfl ?_
    refine e_iload_n dL_law_27 rfl rfl ?_
    obtain ⟨o14, h⟩ := h
    refine e_sca o14 dL_law_28 ?_
    refine e_bipush (v := 31) dL_law_29 (by decide) ?_
    refine e_iand dL_law_31 ?_
    rcases o_tab ((xs v3.toNatClampNeg) &&& 31) 0 28 (a := 0) (b := 28) (by decide) (by decide) with c15 | c15
    · replace h := h.1 c15
      refine e_tabOut (tgt := 1219) dL_law_32 (o_tabo (by decide) (by decide) c15) (by decide) ?_
      exact e_lv (List.forall_mem_cons.mpr ⟨rfl, List.forall_mem_cons.mpr ⟨rfl, List.forall_mem_cons.mpr ⟨rfl, List.forall_mem_cons.mpr ⟨rfl, fun _ h => absurd h List.not_mem_nil⟩⟩⟩⟩) h
    · have h0 := h.2
      have e1 : ((xs v3.toNatClampNeg) &&& 31).toInt = 0 ∨ ((xs v3.toNatClampNeg) &&& 31).toInt = 1 ∨ ((xs v3.toNatClampNeg) &&& 31).toInt = 2 ∨ ((xs v3.toNatClampNeg) &&& 31).toInt = 3 ∨ ((xs v3.toNatClampNeg) &&& 31).toInt = 4 ∨ ((xs v3.toNatClampNeg) &&& 31).toInt = 5 ∨ ((xs v3.toNatClampNeg) &&& 31).toInt = 6 ∨ ((xs v3.toNatClampNeg) &&& 31).toInt = 7 ∨ ((xs v3.toNatClampNeg) &&& 31).toInt = 8 ∨ ((xs v3.toNatClampNeg) &&& 31).toInt = 9 ∨ ((xs v3.toNatClampNeg) &&& 31).toInt = 10 ∨ ((xs v3.toNatClampNeg) &&& 31).toInt = 11 ∨ ((xs v3.toNatClampNeg) &&& 31).toInt = 12 ∨ ((xs v3.toNatClampNeg) &&& 31).toInt = 13 ∨ ((xs v3.toNatClampNeg) &&& 31).toInt = 14 ∨ ((xs v3.toNatClampNeg) &&& 31).toInt = 15 ∨ ((xs v3.toNatClampNeg) &&& 31).toInt = 16 ∨ ((xs v3.toNatClampNeg) &&& 31).toInt = 17 ∨ ((xs v3.toNatClampNeg) &&& 31).toInt = 18 ∨ ((xs v3.toNatClampNeg) &&& 31).toInt = 19 ∨ ((xs v3.toNatClampNeg) &&& 31).toInt = 20 ∨ ((xs v3.toNatClampNeg) &&& 31).toInt = 21 ∨ ((xs v3.toNatClampNeg) &&& 31).toInt = 22 ∨ ((xs v3.toNatClampNeg) &&& 31).toInt = 23 ∨ ((xs v3.toNatClampNeg) &&& 31).toInt = 24 ∨ ((xs v3.toNatClampNeg) &&& 31).toInt = 25 ∨ ((xs v3.toNatClampNeg) &&& 31).toInt = 26 ∨ ((xs v3.toNatClampNeg) &&& 31).toInt = 27 ∨ ((xs v3.toNatClampNeg) &&& 31).toInt = 28 := by omega
      clear h; rcases e1 with e1 | e1 | e1 | e1 | e1 | e1 | e1 | e1 | e1 | e1 | e1 | e1 | e1 | e1 | e1 | e1 | e1 | e1 | e1 | e1 | e1 | e1 | e1 | e1 | e1 | e1 | e1 | e1 | e1
      · have h := h0.1 (Int32.toInt_inj.mp e1)
        refine e_tabIn (tgt := 164) (off := 132) dL_law_32 (by rw [e1]; decide) (by rw [e1]; decide) (by rw [e1]; rfl) (by decide) ?_
        exact e_lv (List.forall_mem_cons.mpr ⟨rfl, List.forall_mem_cons.mpr ⟨rfl, List.forall_mem_cons.mpr ⟨rfl, List.forall_mem_cons.mpr ⟨rfl, fun _ h => absurd h List.not_mem_nil⟩⟩⟩⟩) h
      · have h := h0.2.1 (Int32.toInt_inj.mp e1)
        refine e_tabIn (tgt := 207) (off := 175) dL_law_32 (by rw [e1]; decide) (by rw [e1]; decide) (by rw [e1]; rfl) (by decide) ?_
        exact e_lv (List.forall_mem_cons.mpr ⟨rfl, List.forall_mem_cons.mpr ⟨rfl, List.forall_mem_cons.mpr ⟨rfl, List.forall_mem_cons.mpr ⟨rfl, fun _ h => absurd h List.not_mem_nil⟩⟩⟩⟩) h
      · have h := h0.2.2.1 (Int32.toInt_inj.mp e1)
        refine e_tabIn (tgt := 260) (off := 228) dL_law_32 (by rw [e1]; decide) (by rw [e1]; decide) (by rw [e1]; rfl) (by decide) ?_
        exact e_lv (List.forall_mem_cons.mpr ⟨rfl, List.forall_mem_cons.mpr ⟨rfl, List.forall_mem_cons.mpr ⟨rfl, List.forall_mem_cons.mpr ⟨rfl, fun _ h => absurd h List.not_mem_nil⟩⟩⟩⟩) h
      · have h := h0.2.2.2.1 (Int32.toInt_inj.mp e1)
        refine e_tabIn (tgt := 303) (off := 271) dL_law_32 (by rw [e1]; decide) (by rw [e1]; decide) (by rw [e1]; rfl) (by decide) ?_
        exact e_lv (List.forall_mem_cons.mpr ⟨rfl, List.forall_mem_cons.mpr ⟨rfl, List.forall_mem_cons.mpr ⟨rfl, List.forall_mem_cons.mpr ⟨rfl, fun _ h => absurd h List.not_mem_nil⟩⟩⟩⟩) h
      · have h := h0.2.2.2.2.1 (Int32.toInt_inj.mp e1)
        refine e_tabIn (tgt := 346) (off := 314) dL_law_32 (by rw [e1]; decide) (by rw [e1]; decide) (by rw [e1]; rfl) (by decide) ?_
        exact e_lv (List.forall_mem_cons.mpr ⟨rfl, List.forall_mem_cons.mpr ⟨rfl, List.forall_mem_cons.mpr ⟨rfl, List.forall_mem_cons.mpr ⟨rfl, fun _ h => absurd h List.not_mem_nil⟩⟩⟩⟩) h
      · have h := h0.2.2.2.2.2.1 (Int32.toInt_inj.mp e1)
        refine e_tabIn (tgt := 399) (off := 367) dL_law_32 (by rw [e1]; decide) (by rw [e1]; decide) (by rw [e1]; rfl) (by decide) ?_
        exact e_lv (List.forall_mem_cons.mpr ⟨rfl, List.forall_mem_cons.mpr ⟨rfl, List.forall_mem_cons.mpr ⟨rfl, List.forall_mem_cons.mpr ⟨rfl, fun _ h => absurd h List.not_mem_nil⟩⟩⟩⟩) h
      · have h := h0.2.2.2.2.2.2.1 (Int32.toInt_inj.mp e1)
        refine e_tabIn (tgt := 432) (off := 400) dL_law_32 (by rw [e1]; decide) (by rw [e1]; decide) (by rw [e1]; rfl) (by decide) ?_
        exact e_lv (List.forall_mem_cons.mpr ⟨rfl, List.forall_mem_cons.mpr ⟨rfl, List.forall_mem_cons.mpr ⟨rfl, List.forall_mem_cons.mpr ⟨rfl, fun _ h => absurd h List.not_mem_nil⟩⟩⟩⟩) h
      · have h := h0.2.2.2.2.2.2.2.1 (Int32.toInt_inj.mp e1)
        refine e_tabIn (tgt := 465) (off := 433) dL_law_32 (by rw [e1]; decide) (by rw [e1]; decide) (by rw [e1]; rfl) (by decide) ?_
        exact e_lv (List.forall_mem_cons.mpr ⟨rfl, List.forall_mem_cons.mpr ⟨rfl, List.forall_mem_cons.mpr ⟨rfl, List.forall_mem_cons.mpr ⟨rfl, fun _ h => absurd h List.not_mem_nil⟩⟩⟩⟩) h
      · have h := h0.2.2.2.2.2.2.2.2.1 (Int32.toInt_inj.mp e1)
        refine e_tabIn (tgt := 498) (off := 466) dL_law_32 (by rw [e1]; decide) (by rw [e1]; decide) (by rw [e1]; rfl) (by decide) ?_
        exact e_lv (List.forall_mem_cons.mpr ⟨rfl, List.forall_mem_cons.mpr ⟨rfl, List.forall_mem_cons.mpr ⟨rfl, List.forall_mem_cons.mpr ⟨rfl, fun _ h => absurd h List.not_mem_nil⟩⟩⟩⟩) h
      · have h := h0.2.2.2.2.2.2.2.2.2.1 (Int32.toInt_inj.mp e1)
        refine e_tabIn (tgt := 531) (off := 499) dL_law_32 (by rw [e1]; decide) (by rw [e1]; decide) (by rw [e1]; rfl) (by decide) ?_
        exact e_lv (List.forall_mem_cons.mpr ⟨rfl, List.forall_mem_cons.mpr ⟨rfl, List.forall_mem_cons.mpr ⟨rfl, List.forall_mem_cons.mpr ⟨rfl, fun _ h => absurd h List.not_mem_nil⟩⟩⟩⟩) h
      · have h := h0.2.2.2.2.2.2.2.2.2.2.1 (Int32.toInt_inj.mp e1)
        refine e_tabIn (tgt := 564) (off := 532) dL_law_32 (by rw [e1]; decide) (by rw [e1]; decide) (by rw [e1]; rfl) (by decide) ?_
        exact e_lv (List.forall_mem_cons.mpr ⟨rfl, List.forall_mem_cons.mpr ⟨rfl, List.forall_mem_cons.mpr ⟨rfl, List.forall_mem_cons.mpr ⟨rfl, fun _ h => absurd h List.not_mem_nil⟩⟩⟩⟩) h
      · have h := h0.2.2.2.2.2.2.2.2.2.2.2.1 (Int32.toInt_inj.mp e1)
        refine e_tabIn (tgt := 627) (off := 595) dL_law_32 (by rw [e1]; decide) (by rw [e1]; decide) (by rw [e1]; rfl) (by decide) ?_
        exact e_lv (List.forall_mem_cons.mpr ⟨rfl, List.forall_mem_cons.mpr ⟨rfl, List.forall_mem_cons.mpr ⟨rfl, List.forall_mem_cons.mpr ⟨rfl, fun _ h => absurd h List.not_mem_nil⟩⟩⟩⟩) h
      · have h := h0.2.2.2.2.2.2.2.2.2.2.2.2.1 (Int32.toInt_inj.mp e1)
        refine e_tabIn (tgt := 640) (off := 608) dL_law_32 (by rw [e1]; decide) (by rw [e1]; decide) (by rw [e1]; rfl) (by decide) ?_
        exact e_lv (List.forall_mem_cons.mpr ⟨rfl, List.forall_mem_cons.mpr ⟨rfl, List.forall_mem_cons.mpr ⟨rfl, List.forall_mem_cons.mpr ⟨rfl, fun _ h => absurd h List.not_mem_nil⟩⟩⟩⟩) h
      · have h := h0.2.2.2.2.2.2.2.2.2.2.2.2.2.1 (Int32.toInt_inj.mp e1)
        refine e_tabIn (tgt := 673) (off := 641) dL_law_32 (by rw [e1]; decide) (by rw [e1]; decide) (by rw [e1]; rfl) (by decide) ?_
        exact e_lv (List.forall_mem_cons.mpr ⟨rfl, List.forall_mem_cons.mpr ⟨rfl, List.forall_mem_cons.mpr ⟨rfl, List.forall_mem_cons.mpr ⟨rfl, fun _ h => absurd h List.not_mem_nil⟩⟩⟩⟩) h
      · have h := h0.2.2.2.2.2.2.2.2.2.2.2.2.2.2.1 (Int32.toInt_inj.mp e1)
        refine e_tabIn (tgt := 696) (off := 664) dL_law_32 (by rw [e1]; decide) (by rw [e1]; decide) (by rw [e1]; rfl) (by decide) ?_
        exact e_lv (List.forall_mem_cons.mpr ⟨rfl, List.forall_mem_cons.mpr ⟨rfl, List.forall_mem_cons.mpr ⟨rfl, List.forall_mem_cons.mpr ⟨rfl, fun _ h => absurd h List.not_mem_nil⟩⟩⟩⟩) h
      · have h := h0.2.2.2.2.2.2.2.2.2.2.2.2.2.2.2.1 (Int32.toInt_inj.mp e1)
        refine e_tabIn (tgt := 739) (off := 707) dL_law_32 (by rw [e1]; decide) (by rw [e1]; decide) (by rw [e1]; rfl) (by decide) ?_
        exact e_lv (List.forall_mem_cons.mpr ⟨rfl, List.forall_mem_cons.mpr ⟨rfl, List.forall_mem_cons.mpr ⟨rfl, List.forall_mem_cons.mpr ⟨rfl, fun _ h => absurd h List.not_mem_nil⟩⟩⟩⟩) h
      · have h := h0.2.2.2.2.2.2.2.2.2.2.2.2.2.2.2.2.1 (Int32.toInt_inj.mp e1)
        refine e_tabIn (tgt := 793) (off := 761) dL_law_32 (by rw [e1]; decide) (by rw [e1]; decide) (by rw [e1]; rfl) (by decide) ?_
        exact e_lv (List.forall_mem_cons.mpr ⟨rfl, List.forall_mem_cons.mpr ⟨rfl, List.forall_mem_cons.mpr ⟨rfl, List.forall_mem_cons.mpr ⟨rfl, fun _ h => absurd h List.not_mem_nil⟩⟩⟩⟩) h
      · have h := h0.2.2.2.2.2.2.2.2.2.2.2.2.2.2.2.2.2.1 (Int32.toInt_inj.mp e1)
        refine e_tabIn (tgt := 816) (off := 784) dL_law_32 (by rw [e1]; decide) (by rw [e1]; decide) (by rw [e1]; rfl) (by decide) ?_
        exact e_lv (List.forall_mem_cons.mpr ⟨rfl, List.forall_mem_cons.mpr ⟨rfl, List.forall_mem_cons.mpr ⟨rfl, List.forall_mem_cons.mpr ⟨rfl, fun _ h => absurd h List.not_mem_nil⟩⟩⟩⟩) h
      · have h := h0.2.2.2.2.2.2.2.2.2.2.2.2.2.2.2.2.2.2.1 (Int32.toInt_inj.mp e1)
        refine e_tabIn (tgt := 875) (off := 843) dL_law_32 (by rw [e1]; decide) (by rw [e1]; decide) (by rw [e1]; rfl) (by decide) ?_
        exact e_lv (List.forall_mem_cons.mpr ⟨rfl, List.forall_mem_cons.mpr ⟨rfl, List.forall_mem_cons.mpr ⟨rfl, List.forall_mem_cons.mpr ⟨rfl, fun _ h => absurd h List.not_mem_nil⟩⟩⟩⟩) h
      · have h := h0.2.2.2.2.2.2.2.2.2.2.2.2.2.2.2.2.2.2.2.1 (Int32.toInt_inj.mp e1)
        refine e_tabIn (tgt := 898) (off := 866) dL_law_32 (by rw [e1]; decide) (by rw [e1]; decide) (by rw [e1]; rfl) (by decide) ?_
        exact e_lv (List.forall_mem_cons.mpr ⟨rfl, List.forall_mem_cons.mpr ⟨rfl, List.forall_mem_cons.mpr ⟨rfl, List.forall_mem_cons.mpr ⟨rfl, fun _ h => absurd h List.not_mem_nil⟩⟩⟩⟩) h
      · have h := h0.2.2.2.2.2.2.2.2.2.2.2.2.2.2.2.2.2.2.2.2.1 (Int32.toInt_inj.mp e1)
        refine e_tabIn (tgt := 921) (off := 889) dL_law_32 (by rw [e1]; decide) (by rw [e1]; decide) (by rw [e1]; rfl) (by decide) ?_
        exact e_lv (List.forall_mem_cons.mpr ⟨rfl, List.forall_mem_cons.mpr ⟨rfl, List.forall_mem_cons.mpr ⟨rfl, List.forall_mem_cons.mpr ⟨rfl, fun _ h => absurd h List.not_mem_nil⟩⟩⟩⟩) h
      · have h := h0.2.2.2.2.2.2.2.2.2.2.2.2.2.2.2.2.2.2.2.2.2.1 (Int32.toInt_inj.mp e1)
        refine e_tabIn (tgt := 975) (off := 943) dL_law_32 (by rw [e1]; decide) (by rw [e1]; decide) (by rw [e1]; rfl) (by decide) ?_
        exact e_lv (List.forall_mem_cons.mpr ⟨rfl, List.forall_mem_cons.mpr ⟨rfl, List.forall_mem_cons.mpr ⟨rfl, List.forall_mem_cons.mpr ⟨rfl, fun _ h => absurd h List.not_mem_nil⟩⟩⟩⟩) h
      · have h := h0.2.2.2.2.2.2.2.2.2.2.2.2.2.2.2.2.2.2.2.2.2.2.1 (Int32.toInt_inj.mp e1)
        refine e_tabIn (tgt := 998) (off := 966) dL_law_32 (by rw [e1]; decide) (by rw [e1]; decide) (by rw [e1]; rfl) (by decide) ?_
        exact e_lv (List.forall_mem_cons.mpr ⟨rfl, List.forall_mem_cons.mpr ⟨rfl, List.forall_mem_cons.mpr ⟨rfl, List.forall_mem_cons.mpr ⟨rfl, fun _ h => absurd h List.not_mem_nil⟩⟩⟩⟩) h
      · have h := h0.2.2.2.2.2.2.2.2.2.2.2.2.2.2.2.2.2.2.2.2.2.2.2.1 (Int32.toInt_inj.mp e1)
        refine e_tabIn (tgt := 1031) (off := 999) dL_law_32 (by rw [e1]; decide) (by rw [e1]; decide) (by rw [e1]; rfl) (by decide) ?_
        exact e_lv (List.forall_mem_cons.mpr ⟨rfl, List.forall_mem_cons.mpr ⟨rfl, List.forall_mem_cons.mpr ⟨rfl, List.forall_mem_cons.mpr ⟨rfl, fun _ h => absurd h List.not_mem_nil⟩⟩⟩⟩) h
      · have h := h0.2.2.2.2.2.2.2.2.2.2.2.2.2.2.2.2.2.2.2.2.2.2.2.2.1 (Int32.toInt_inj.mp e1)
        refine e_tabIn (tgt := 1074) (off := 1042) dL_law_32 (by rw [e1]; decide) (by rw [e1]; decide) (by rw [e1]; rfl) (by decide) ?_
        exact e_lv (List.forall_mem_cons.mpr ⟨rfl, List.forall_mem_cons.mpr ⟨rfl, List.forall_mem_cons.mpr ⟨rfl, List.forall_mem_cons.mpr ⟨rfl, fun _ h => absurd h List.not_mem_nil⟩⟩⟩⟩) h
      · have h := h0.2.2.2.2.2.2.2.2.2.2.2.2.2.2.2.2.2.2.2.2.2.2.2.2.2.1 (Int32.toInt_inj.mp e1)
        refine e_tabIn (tgt := 1097) (off := 1065) dL_law_32 (by rw [e1]; decide) (by rw [e1]; decide) (by rw [e1]; rfl) (by decide) ?_
        exact e_lv (List.forall_mem_cons.mpr ⟨rfl, List.forall_mem_cons.mpr ⟨rfl, List.forall_mem_cons.mpr ⟨rfl, List.forall_mem_cons.mpr ⟨rfl, fun _ h => absurd h List.not_mem_nil⟩⟩⟩⟩) h
      · have h := h0.2.2.2.2.2.2.2.2.2.2.2.2.2.2.2.2.2.2.2.2.2.2.2.2.2.2.1 (Int32.toInt_inj.mp e1)
        refine e_tabIn (tgt := 1120) (off := 1088) dL_law_32 (by rw [e1]; decide) (by rw [e1]; decide) (by rw [e1]; rfl) (by decide) ?_
        exact e_lv (List.forall_mem_cons.mpr ⟨rfl, List.forall_mem_cons.mpr ⟨rfl, List.forall_mem_cons.mpr ⟨rfl, List.forall_mem_cons.mpr ⟨rfl, fun _ h => absurd h List.not_mem_nil⟩⟩⟩⟩) h
      · have h := h0.2.2.2.2.2.2.2.2.2.2.2.2.2.2.2.2.2.2.2.2.2.2.2.2.2.2.2.1 (Int32.toInt_inj.mp e1)
        refine e_tabIn (tgt := 1163) (off := 1131) dL_law_32 (by rw [e1]; decide) (by rw [e1]; decide) (by rw [e1]; rfl) (by decide) ?_
        exact e_lv (List.forall_mem_cons.mpr ⟨rfl, List.forall_mem_cons.mpr ⟨rfl, List.forall_mem_cons.mpr ⟨rfl, List.forall_mem_cons.mpr ⟨rfl, fun _ h => absurd h List.not_mem_nil⟩⟩⟩⟩) h
      · have h := h0.2.2.2.2.2.2.2.2.2.2.2.2.2.2.2.2.2.2.2.2.2.2.2.2.2.2.2.2 (Int32.toInt_inj.mp e1)
        refine e_tabIn (tgt := 1206) (off := 1174) dL_law_32 (by rw [e1]; decide) (by rw [e1]; decide) (by rw [e1]; rfl) (by decide) ?_
        exact e_lv (List.forall_mem_cons.mpr ⟨rfl, List.forall_mem_cons.mpr ⟨rfl, List.forall_mem_cons.mpr ⟨rfl, List.forall_mem_cons.mpr ⟨rfl, fun _ h => absurd h List.not_mem_nil⟩⟩⟩⟩) h
theorem w_L_law_1219 (l : Launch) (L : Nat) (xs : Nat → Int32) (q : Int32 → o_M → Prop) (v3 : Int32) (kk : Nat) (nn : Nat) (M : o_M) (h : H_L_law_18 l (some (L, xs)) q (v3 + 5) kk nn M) : H_L_law_1219 l (some (L, xs)) q v3 kk nn M := by
  refine e_iinc (v := 5) (lv' := [(3, iV (v3 + 5)), (0, rV (some 8)), (1, rV (some 16)), (2, rV (some 60))]) rfl (by decide) (by decide) rfl dL_law_1219 ?_
  refine e_goto (tgt := 18) dL_law_1222 (by decide) ?_
  exact e_lv (List.forall_mem_cons.mpr ⟨rfl, List.forall_mem_cons.mpr ⟨rfl, List.forall_mem_cons.mpr ⟨rfl, List.forall_mem_cons.mpr ⟨rfl, fun _ h => absurd h List.not_mem_nil⟩⟩⟩⟩) h
theorem w_L_law_164 (l : Launch) (L : Nat) (xs : Nat → Int32) (q : Int32 → o_M → Prop) (v3 : Int32) (kk : Nat) (nn : Nat) (M : o_M) (h : (vp_in (v3 + 1) L ∧ (vp_in (v3 + 2) L ∧ (vp_in (v3 + 3) L ∧ (kk + 1 ≤ 600000 ∧ (nn + 6 ≤ 7302250 ∧ K_X11_work l [rV (some 16), iV (xs (v3 + 1).toNatClampNeg), iV (xs (v3 + 2).toNatClampNeg), iV (xs (v3 + 3).toNatClampNeg)] M (fun r22 M19 => (vp_in (v3 + 1) L ∧ (vp_in (v3 + 2) L ∧ (vp_in (v3 + 3) L ∧ (kk + 1 ≤ 600000 ∧ (nn + 6 ≤ 7302250 ∧ K_X12_work l [rV (some 60), iV (xs (v3 + 1).toNatClampNeg), iV (xs (v3 + 2).toNatClampNeg), iV (xs (v3 + 3).toNatClampNeg)] M19 (fun r29 M26 => ((r22 = r29 → H_L_law_1219 l (some (L, xs)) q v3 (kk + 1) (nn + 6) M26) ∧ (¬ r22 = r29 → (kk + 1 ≤ 600000 ∧ (nn + 6 ≤ 7302250 ∧ q 0 M26))))))))))))))))) : H_L_law_164 l (some (L, xs)) q v3 kk nn M := by
  refine e_aload_n dL_law_164 rfl rfl ?_
  refine e_aload_n dL_law_165 rfl rfl ?_
  refine e_iload_n dL_law_166 rfl rfl ?_
  refine e_iconst (v := 1) dL_law_167 (by decide) ?_
  refine e_iadd dL_law_168 ?_
  obtain ⟨o16, h⟩ := h
  refine e_sca o16 dL_law_169 ?_
  refine e_aload_n dL_law_170 rfl rfl ?_
  refine e_iload_n dL_law_171 rfl rfl ?_
  refine e_iconst (v := 2) dL_law_172 (by decide) ?_
  refine e_iadd dL_law_173 ?_
  obtain ⟨o17, h⟩ := h
  refine e_sca o17 dL_law_174 ?_
  refine e_aload_n dL_law_175 rfl rfl ?_
  refine e_iload_n dL_law_176 rfl rfl ?_
  refine e_iconst (v := 3) dL_law_177 (by decide) ?_
  refine e_iadd dL_law_178 ?_
  obtain ⟨o18, h⟩ := h
  refine e_sca o18 dL_law_179 ?_
  obtain ⟨o20, h⟩ := h
  obtain ⟨o21, h⟩ := h
  refine e_callV (As := [iV (xs (v3 + 1).toNatClampNeg), iV (xs (v3 + 2).toNatClampNeg), iV (xs (v3 + 3).toNatClampNeg)]) (st := []) mt_X11_work in_X11_work lkL_13 rfl rfl ⟨by decide, by decide⟩ (Nat.le_of_ble_eq_true rfl) ⟨o20, o21⟩ rfl rfl dL_law_180 (Ctr.mono h (fun v M19 h => ?_))
  obtain ⟨r22, rfl, h⟩ := h
  show E_L_law l (some (L, xs)) q 183 [(0, rV (some 8)), (1, rV (some 16)), (2, rV (some 60)), (3, iV v3)] [iV r22] M19 (kk + 1) (nn + 6)
  refine e_aload_n dL_law_183 rfl rfl ?_
  refine e_aload_n dL_law_184 rfl rfl ?_
  refine e_iload_n dL_law_185 rfl rfl ?_
  refine e_iconst (v := 1) dL_law_186 (by decide) ?_
  refine e_iadd dL_law_187 ?_
  obtain ⟨o23, h⟩ := h
  refine e_sca o23 dL_law_188 ?_
  refine e_aload_n dL_law_189 rfl rfl ?_
  refine e_iload_n dL_law_190 rfl rfl ?_
  refine e_iconst (v := 2) dL_law_191 (by decide) ?_
  refine e_iadd dL_law_192 ?_
  obtain ⟨o24, h⟩ := h
  refine e_sca o24 dL_law_193 ?_
  refine e_aload_n dL_law_194 rfl rfl ?_
  refine e_iload_n dL_law_195 rfl rfl ?_
  refine e_iconst (v := 3) dL_law_196 (by decide) ?_
  refine e_iadd dL_law_197 ?_
  obtain ⟨o25, h⟩ := h
  refine e_sca o25 dL_law_198 ?_
  obtain ⟨o27, h⟩ := h
  obtain ⟨o28, h⟩ := h
  refine e_callV (As := [iV (xs (v3 + 1).toNatClampNeg), iV (xs (v3 + 2).toNatClampNeg), iV (xs (v3 + 3).toNatClampNeg)]) (st := [iV r22]) mt_X12_work in_X12_work lkL_17 rfl rfl ⟨by decide, by decide⟩ (Nat.le_of_ble_eq_true rfl) ⟨o27, o28⟩ rfl rfl dL_law_199 (Ctr.mono h (fun v M26 h => ?_))
  obtain ⟨r29, rfl, h⟩ := h
  show E_L_law l (some (L, xs)) q 202 [(0, rV (some 8)), (1, rV (some 16)), (2, rV (some 60)), (3, iV v3)] [iV r29, iV r22] M26 (kk + 1) (nn + 6)
  refine e_ic_eq (tgt := 1219) dL_law_202 (by decide) (fun c30 => ?_) (fun c30 => ?_)
  · replace h := h.1 c30
    exact e_lv (List.forall_mem_cons.mpr ⟨rfl, List.forall_mem_cons.mpr ⟨rfl, List.forall_mem_cons.mpr ⟨rfl, List.forall_mem_cons.mpr ⟨rfl, fun _ h => absurd h List.not_mem_nil⟩⟩⟩⟩) h
  · replace h := h.2 c30
    refine e_iconst (v := 0) dL_law_205 (by decide) ?_
    obtain ⟨o31, h⟩ := h
    obtain ⟨o32, h⟩ := h
    refine e_widen (k' := 600000) (n' := 7302250) o31 o32 ?_
    exact e_iret rfl rb_0 dL_law_206 ⟨_, rfl, h⟩
theorem w_L_law_207 (l : Launch) (L : Nat) (xs : Nat → Int32) (q : Int32 → o_M → Prop) (v3 : Int32) (kk : Nat) (nn : Nat) (M : o_M) (h : (vp_in (v3 + 1) L ∧ (vp_in (v3 + 2) L ∧ (vp_in (v3 + 3) L ∧ (vp_in (v3 + 4) L ∧ (kk ≤ 600000 ∧ (nn ≤ 7302250 ∧ K_X11_score l [rV (some 16), iV (xs (v3 + 1).toNatClampNeg), iV (xs (v3 + 2).toNatClampNeg), iV (xs (v3 + 3).toNatClampNeg), iV (xs (v3 + 4).toNatClampNeg)] M (fun r40 M37 => (vp_in (v3 + 1) L ∧ (vp_in (v3 + 2) L ∧ (vp_in (v3 + 3) L ∧ (vp_in (v3 + 4) L ∧ (kk ≤ 600000 ∧ (nn ≤ 7302250 ∧ K_X12_score l [rV (some 60), iV (xs (v3 + 1).toNatClampNeg), iV (xs (v3 + 2).toNatClampNeg), iV (xs (v3 + 3).toNatClampNeg), iV (xs (v3 + 4).toNatClampNeg)] M37 (fun r48 M45 => ((r40 = r48 → H_L_law_1219 l (some (L, xs)) q v3 kk nn M45) ∧ (¬ r40 = r48 → (kk ≤ 600000 ∧ (nn ≤ 7302250 ∧ q 0 M45))))))))))))))))))) : H_L_law_207 l (some (L, xs)) q v3 kk nn M := by
  refine e_aload_n dL_law_207 rfl rfl ?_
  refine e_aload_n dL_law_208 rfl rfl ?_
  refine e_iload_n dL_law_209 rfl rfl ?_
  refine e_iconst (v := 1) dL_law_210 (by decide) ?_
  refine e_iadd dL_law_211 ?_
  obtain ⟨o33, h⟩ := h
  refine e_sca o33 dL_law_212 ?_
  refine e_aload_n dL_law_213 rfl rfl ?_
  refine e_iload_n dL_law_214 rfl rfl ?_
  refine e_iconst (v := 2) dL_law_215 (by decide) ?_
  refine e_iadd dL_law_216 ?_
  obtain ⟨o34, h⟩ := h
  refine e_sca o34 dL_law_217 ?_
  refine e_aload_n dL_law_218 rfl rfl ?_
  refine e_iload_n dL_law_219 rfl rfl ?_
  refine e_iconst (v := 3) dL_law_220 (by decide) ?_
  refine e_iadd dL_law_221 ?_
  obtain ⟨o35, h⟩ := h
  refine e_sca o35 dL_law_222 ?_
  refine e_aload_n dL_law_223 rfl rfl ?_
  refine e_iload_n dL_law_224 rfl rfl ?_
  refine e_iconst (v := 4) dL_law_225 (by decide) ?_
  refine e_iadd dL_law_226 ?_
  obtain ⟨o36, h⟩ := h
  refine e_sca o36 dL_law_227 ?_
  obtain ⟨o38, h⟩ := h
  obtain ⟨o39, h⟩ := h
  refine e_callV (As := [iV (xs (v3 + 1).toNatClampNeg), iV (xs (v3 + 2).toNatClampNeg), iV (xs (v3 + 3).toNatClampNeg), iV (xs (v3 + 4).toNatClampNeg)]) (st := []) mt_X11_score in_X11_score lkL_18 rfl rfl ⟨by decide, by decide⟩ (Nat.le_of_ble_eq_true rfl) ⟨o38, o39⟩ rfl rfl dL_law_228 (Ctr.mono h (fun v M37 h => ?_))
  obtain ⟨r40, rfl, h⟩ := h
  show E_L_law l (some (L, xs)) q 231 [(0, rV (some 8)), (1, rV (some 16)), (2, rV (some 60)), (3, iV v3)] [iV r40] M37 kk nn
  refine e_aload_n dL_law_231 rfl rfl ?_
  refine e_aload_n dL_law_232 rfl rfl ?_
  refine e_iload_n dL_law_233 rfl rfl ?_
  refine e_iconst (v := 1) dL_law_234 (by decide) ?_
  refine e_iadd dL_law_235 ?_
  obtain ⟨o41, h⟩ := h
  refine e_sca o41 dL_law_236 ?_
  refine e_aload_n dL_law_237 rfl rfl ?_
  refine e_iload_n dL_law_238 rfl rfl ?_
  refine e_iconst (v := 2) dL_law_239 (by decide) ?_
  refine e_iadd dL_law_240 ?_
  obtain ⟨o42, h⟩ := h
  refine e_sca o42 dL_law_241 ?_
  refine e_aload_n dL_law_242 rfl rfl ?_
  refine e_iload_n dL_law_243 rfl rfl ?_
  refine e_iconst (v := 3) dL_law_244 (by decide) ?_
  refine e_iadd dL_law_245 ?_
  obtain ⟨o43, h⟩ := h
  refine e_sca o43 dL_law_246 ?_
  refine e_aload_n dL_law_247 rfl rfl ?_
  refine e_iload_n dL_law_248 rfl rfl ?_
  refine e_iconst (v := 4) dL_law_249 (by decide) ?_
  refine e_iadd dL_law_250 ?_
  obtain ⟨o44, h⟩ := h
  refine e_sca o44 dL_law_251 ?_
  obtain ⟨o46, h⟩ := h
  obtain ⟨o47, h⟩ := h
  refine e_callV (As := [iV (xs (v3 + 1).toNatClampNeg), iV (xs (v3 + 2).toNatClampNeg), iV (xs (v3 + 3).toNatClampNeg), iV (xs (v3 + 4).toNatClampNeg)]) (st := [iV r40]) mt_X12_score in_X12_score lkL_22 rfl rfl ⟨by decide, by decide⟩ (Nat.le_of_ble_eq_true rfl) ⟨o46, o47⟩ rfl rfl dL_law_252 (Ctr.mono h (fun v M45 h => ?_))
  obtain ⟨r48, rfl, h⟩ := h
  show E_L_law l (some (L, xs)) q 255 [(0, rV (some 8)), (1, rV (some 16)), (2, rV (some 60)), (3, iV v3)] [iV r48, iV r40] M45 kk nn
  refine e_ic_eq (tgt := 1219) dL_law_255 (by decide) (fun c49 => ?_) (fun c49 => ?_)
  · replace h := h.1 c49
    exact e_lv (List.forall_mem_cons.mpr ⟨rfl, List.forall_mem_cons.mpr ⟨rfl, List.forall_mem_cons.mpr ⟨rfl, List.forall_mem_cons.mpr ⟨rfl, fun _ h => absurd h List.not_mem_nil⟩⟩⟩⟩) h
  · replace h := h.2 c49
    refine e_iconst (v := 0) dL_law_258 (by decide) ?_
    obtain ⟨o50, h⟩ := h
    obtain ⟨o51, h⟩ := h
    refine e_widen (k' := 600000) (n' := 7302250) o50 o51 ?_
    exact e_iret rfl rb_0 dL_law_259 ⟨_, rfl, h⟩
theorem w_L_law_260 (l : Launch) (L : Nat) (xs : Nat → Int32) (q : Int32 → o_M → Prop) (v3 : Int32) (kk : Nat) (nn : Nat) (M : o_M) (h : (vp_in (v3 + 1) L ∧ (vp_in (v3 + 2) L ∧ (vp_in (v3 + 3) L ∧ (kk + 3 ≤ 600000 ∧ (nn + 18 ≤ 7302250 ∧ K_X11_player l [rV (some 16), iV (xs (v3 + 1).toNatClampNeg), iV (xs (v3 + 2).toNatClampNeg), iV (xs (v3 + 3).toNatClampNeg)] M (fun r58 M55 => (vp_in (v3 + 1) L ∧ (vp_in (v3 + 2) L ∧ (vp_in (v3 + 3) L ∧ (kk + 3 ≤ 600000 ∧ (nn + 18 ≤ 7302250 ∧ K_X12_player l [rV (some 60), iV (xs (v3 + 1).toNatClampNeg), iV (xs (v3 + 2).toNatClampNeg), iV (xs (v3 + 3).toNatClampNeg)] M55 (fun r65 M62 => ((r58 = r65 → H_L_law_1219 l (some (L, xs)) q v3 (kk + 3) (nn + 18) M62) ∧ (¬ r58 = r65 → (kk + 3 ≤ 600000 ∧ (nn + 18 ≤ 7302250 ∧ q 0 M62))))))))))))))))) : H_L_law_260 l (some (L, xs)) q v3 kk nn M := by
  refine e_aload_n dL_law_260 rfl rfl ?_
  refine e_aload_n dL_law_261 rfl rfl ?_
  refine e_iload_n dL_law_262 rfl rfl ?_
  refine e_iconst (v := 1) dL_law_263 (by decide) ?_
  refine e_iadd dL_law_264 ?_
  obtain ⟨o52, h⟩ := h
  refine e_sca o52 dL_law_265 ?_
  refine e_aload_n dL_law_266 rfl rfl ?_
  refine e_iload_n dL_law_267 rfl rfl ?_
  refine e_iconst (v := 2) dL_law_268 (by decide) ?_
  refine e_iadd dL_law_269 ?_
  obtain ⟨o53, h⟩ := h
  refine e_sca o53 dL_law_270 ?_
  refine e_aload_n dL_law_271 rfl rfl ?_
  refine e_iload_n dL_law_272 rfl rfl ?_
  refine e_iconst (v := 3) dL_law_273 (by decide) ?_
  refine e_iadd dL_law_274 ?_
  obtain ⟨o54, h⟩ := h
  refine e_sca o54 dL_law_275 ?_
  obtain ⟨o56, h⟩ := h
  obtain ⟨o57, h⟩ := h
  refine e_callV (As := [iV (xs (v3 + 1).toNatClampNeg), iV (xs (v3 + 2).toNatClampNeg), iV (xs (v3 + 3).toNatClampNeg)]) (st := []) mt_X11_player in_X11_player lkL_23 rfl rfl ⟨by decide, by decide⟩ (Nat.le_of_ble_eq_true rfl) ⟨o56, o57⟩ rfl rfl dL_law_276 (Ctr.mono h (fun v M55 h => ?_))
  obtain ⟨r58, rfl, h⟩ := h
  show E_L_law l (some (L, xs)) q 279 [(0, rV (some 8)), (1, rV (some 16)), (2, rV (some 60)), (3, iV v3)] [iV r58] M55 (kk + 3) (nn + 18)
  refine e_aload_n dL_law_279 rfl rfl ?_
  refine e_aload_n dL_law_280 rfl rfl ?_
  refine e_iload_n dL_law_281 rfl rfl ?_
  refine e_iconst (v := 1) dL_law_282 (by decide) ?_
  refine e_iadd dL_law_283 ?_
  obtain ⟨o59, h⟩ := h
  refine e_sca o59 dL_law_284 ?_
  refine e_aload_n dL_law_285 rfl rfl ?_
  refine e_iload_n dL_law_286 rfl rfl ?_
  refine e_iconst (v := 2) dL_law_287 (by decide) ?_
  refine e_iadd dL_law_288 ?_
  obtain ⟨o60, h⟩ := h
  refine e_sca o60 dL_law_289 ?_
  refine e_aload_n dL_law_290 rfl rfl ?_
  refine e_iload_n dL_law_291 rfl rfl ?_
  refine e_iconst (v := 3) dL_law_292 (by decide) ?_
  refine e_iadd dL_law_293 ?_
  obtain ⟨o61, h⟩ := h
  refine e_sca o61 dL_law_294 ?_
  obtain ⟨o63, h⟩ := h
  obtain ⟨o64, h⟩ := h
  refine e_callV (As := [iV (xs (v3 + 1).toNatClampNeg), iV (xs (v3 + 2).toNatClampNeg), iV (xs (v3 + 3).toNatClampNeg)]) (st := [iV r58]) mt_X12_player in_X12_player lkL_26 rfl rfl ⟨by decide, by decide⟩ (Nat.le_of_ble_eq_true rfl) ⟨o63, o64⟩ rfl rfl dL_law_295 (Ctr.mono h (fun v M62 h => ?_))
  obtain ⟨r65, rfl, h⟩ := h
  show E_L_law l (some (L, xs)) q 298 [(0, rV (some 8)), (1, rV (some 16)), (2, rV (some 60)), (3, iV v3)] [iV r65, iV r58] M62 (kk + 3) (nn + 18)
  refine e_ic_eq (tgt := 1219) dL_law_298 (by decide) (fun c66 => ?_) (fun c66 => ?_)
  · replace h := h.1 c66
    exact e_lv (List.forall_mem_cons.mpr ⟨rfl, List.forall_mem_cons.mpr ⟨rfl, List.forall_mem_cons.mpr ⟨rfl, List.forall_mem_cons.mpr ⟨rfl, fun _ h => absurd h List.not_mem_nil⟩⟩⟩⟩) h
  · replace h := h.2 c66
    refine e_iconst (v := 0) dL_law_301 (by decide) ?_
    obtain ⟨o67, h⟩ := h
    obtain ⟨o68, h⟩ := h
    refine e_widen (k' := 600000) (n' := 7302250) o67 o68 ?_
    exact e_iret rfl rb_0 dL_law_302 ⟨_, rfl, h⟩
theorem w_L_law_303 (l : Launch) (L : Nat) (xs : Nat → Int32) (q : Int32 → o_M → Prop) (v3 : Int32) (kk : Nat) (nn : Nat) (M : o_M) (h : (vp_in (v3 + 1) L ∧ (vp_in (v3 + 2) L ∧ (vp_in (v3 + 3) L ∧ (kk ≤ 600000 ∧ (nn ≤ 7302250 ∧ K_X11_leave l [rV (some 16), iV (xs (v3 + 1).toNatClampNeg), iV (xs (v3 + 2).toNatClampNeg), iV (xs (v3 + 3).toNatClampNeg)] M (fun r75 M72 => (vp_in (v3 + 1) L ∧ (vp_in (v3 + 2) L ∧ (vp_in (v3 + 3) L ∧ (kk ≤ 600000 ∧ (nn ≤ 7302250 ∧ K_X12_leave l [rV (some 60), iV (xs (v3 + 1).toNatClampNeg), iV (xs (v3 + 2).toNatClampNeg), iV (xs (v3 + 3).toNatClampNeg)] M72 (fun r82 M79 => ((r75 = r82 → H_L_law_1219 l (some (L, xs)) q v3 kk nn M79) ∧ (¬ r75 = r82 → (kk ≤ 600000 ∧ (nn ≤ 7302250 ∧ q 0 M79))))))))))))))))) : H_L_law_303 l (some (L, xs)) q v3 kk nn M := by
  refine e_aload_n dL_law_303 rfl rfl ?_
  refine e_aload_n dL_law_304 rfl rfl ?_
  refine e_iload_n dL_law_305 rfl rfl ?_
  refine e_iconst (v := 1) dL_law_306 (by decide) ?_
  refine e_iadd dL_law_307 ?_
  obtain ⟨o69, h⟩ := h
  refine e_sca o69 dL_law_308 ?_
  refine e_aload_n dL_law_309 rfl rfl ?_
  refine e_iload_n dL_law_310 rfl rfl ?_
  refine e_iconst (v := 2) dL_law_311 (by decide) ?_
  refine e_iadd dL_law_312 ?_
  obtain ⟨o70, h⟩ := h
  refine e_sca o70 dL_law_313 ?_
  refine e_aload_n dL_law_314 rfl rfl ?_
  refine e_iload_n dL_law_315 rfl rfl ?_
  refine e_iconst (v := 3) dL_law_316 (by decide) ?_
  refine e_iadd dL_law_317 ?_
  obtain ⟨o71, h⟩ := h
  refine e_sca o71 dL_law_318 ?_
  obtain ⟨o73, h⟩ := h
  obtain ⟨o74, h⟩ := h
  refine e_callV (As := [iV (xs (v3 + 1).toNatClampNeg), iV (xs (v3 + 2).toNatClampNeg), iV (xs (v3 + 3).toNatClampNeg)]) (st := []) mt_X11_leave in_X11_leave lkL_27 rfl rfl ⟨by decide, by decide⟩ (Nat.le_of_ble_eq_true rfl) ⟨o73, o74⟩ rfl rfl dL_law_319 (Ctr.mono h (fun v M72 h => ?_))
  obtain ⟨r75, rfl, h⟩ := h
  show E_L_law l (some (L, xs)) q 322 [(0, rV (some 8)), (1, rV (some 16)), (2, rV (some 60)), (3, iV v3)] [iV r75] M72 kk nn
  refine e_aload_n dL_law_322 rfl rfl ?_
  refine e_aload_n dL_law_323 rfl rfl ?_
  refine e_iload_n dL_law_324 rfl rfl ?_
  refine e_iconst (v := 1) dL_law_325 (by decide) ?_
  refine e_iadd dL_law_326 ?_
  obtain ⟨o76, h⟩ := h
  refine e_sca o76 dL_law_327 ?_
  refine e_aload_n dL_law_328 rfl rfl ?_
  refine e_iload_n dL_law_329 rfl rfl ?_
  refine e_iconst (v := 2) dL_law_330 (by decide) ?_
  refine e_iadd dL_law_331 ?_
  obtain ⟨o77, h⟩ := h
  refine e_sca o77 dL_law_332 ?_
  refine e_aload_n dL_law_333 rfl rfl ?_
  refine e_iload_n dL_law_334 rfl rfl ?_
  refine e_iconst (v := 3) dL_law_335 (by decide) ?_
  refine e_iadd dL_law_336 ?_
  obtain ⟨o78, h⟩ := h
  refine e_sca o78 dL_law_337 ?_
  obtain ⟨o80, h⟩ := h
  obtain ⟨o81, h⟩ := h
  refine e_callV (As := [iV (xs (v3 + 1).toNatClampNeg), iV (xs (v3 + 2).toNatClampNeg), iV (xs (v3 + 3).toNatClampNeg)]) (st := [iV r75]) mt_X12_leave in_X12_leave lkL_30 rfl rfl ⟨by decide, by decide⟩ (Nat.le_of_ble_eq_true rfl) ⟨o80, o81⟩ rfl rfl dL_law_338 (Ctr.mono h (fun v M79 h => ?_))
  obtain ⟨r82, rfl, h⟩ := h
  show E_L_law l (some (L, xs)) q 341 [(0, rV (some 8)), (1, rV (some 16)), (2, rV (some 60)), (3, iV v3)] [iV r82, iV r75] M79 kk nn
  refine e_ic_eq (tgt := 1219) dL_law_341 (by decide) (fun c83 => ?_) (fun c83 => ?_)
  · replace h := h.1 c83
    exact e_lv (List.forall_mem_cons.mpr ⟨rfl, List.forall_mem_cons.mpr ⟨rfl, List.forall_mem_cons.mpr ⟨rfl, List.forall_mem_cons.mpr ⟨rfl, fun _ h => absurd h List.not_mem_nil⟩⟩⟩⟩) h
  · replace h := h.2 c83
    refine e_iconst (v := 0) dL_law_344 (by decide) ?_
    obtain ⟨o84, h⟩ := h
    obtain ⟨o85, h⟩ := h
    refine e_widen (k' := 600000) (n' := 7302250) o84 o85 ?_
    exact e_iret rfl rb_0 dL_law_345 ⟨_, rfl, h⟩
theorem w_L_law_346 (l : Launch) (L : Nat) (xs : Nat → Int32) (q : Int32 → o_M → Prop) (v3 : Int32) (kk : Nat) (nn : Nat) (M : o_M) (h : (vp_in (v3 + 1) L ∧ (vp_in (v3 + 2) L ∧ (vp_in (v3 + 3) L ∧ (vp_in (v3 + 4) L ∧ (kk + 4 ≤ 600000 ∧ (nn + 35 ≤ 7302250 ∧ K_X11_service l [rV (some 16), iV (xs (v3 + 1).toNatClampNeg), iV (xs (v3 + 2).toNatClampNeg), iV (xs (v3 + 3).toNatClampNeg), iV (xs (v3 + 4).toNatClampNeg)] M (fun r93 M90 => (vp_in (v3 + 1) L ∧ (vp_in (v3 + 2) L ∧ (vp_in (v3 + 3) L ∧ (vp_in (v3 + 4) L ∧ (kk + 4 ≤ 600000 ∧ (nn + 35 ≤ 7302250 ∧ K_X12_service l [rV (some 60), iV (xs (v3 + 1).toNatClampNeg), iV (xs (v3 + 2).toNatClampNeg), iV (xs (v3 + 3).toNatClampNeg), iV (xs (v3 + 4).toNatClampNeg)] M90 (fun r101 M98 => ((r93 = r101 → H_L_law_1219 l (some (L, xs)) q v3 (kk + 4) (nn + 35) M98) ∧ (¬ r93 = r101 → (kk + 4 ≤ 600000 ∧ (nn + 35 ≤ 7302250 ∧ q 0 M98))))))))))))))))))) : H_L_law_346 l (some (L, xs)) q v3 kk nn M := by
  refine e_aload_n dL_law_346 rfl rfl ?_
  refine e_aload_n dL_law_347 rfl rfl ?_
  refine e_iload_n dL_law_348 rfl rfl ?_
  refine e_iconst (v := 1) dL_law_349 (by decide) ?_
  refine e_iadd dL_law_350 ?_
  obtain ⟨o86, h⟩ := h
  refine e_sca o86 dL_law_351 ?_
  refine e_aload_n dL_law_352 rfl rfl ?_
  refine e_iload_n dL_law_353 rfl rfl ?_
  refine e_iconst (v := 2) dL_law_354 (by decide) ?_
  refine e_iadd dL_law_355 ?_
  obtain ⟨o87, h⟩ := h
  refine e_sca o87 dL_law_356 ?_
  refine e_aload_n dL_law_357 rfl rfl ?_
  refine e_iload_n dL_law_358 rfl rfl ?_
  refine e_iconst (v := 3) dL_law_359 (by decide) ?_
  refine e_iadd dL_law_360 ?_
  obtain ⟨o88, h⟩ := h
  refine e_sca o88 dL_law_361 ?_
  refine e_aload_n dL_law_362 rfl rfl ?_
  refine e_iload_n dL_law_363 rfl rfl ?_
  refine e_iconst (v := 4) dL_law_364 (by decide) ?_
  refine e_iadd dL_law_365 ?_
  obtain ⟨o89, h⟩ := h
  refine e_sca o89 dL_law_366 ?_
  obtain ⟨o91, h⟩ := h
  obtain ⟨o92, h⟩ := h
  refine e_callV (As := [iV (xs (v3 + 1).toNatClampNeg), iV (xs (v3 + 2).toNatClampNeg), iV (xs (v3 + 3).toNatClampNeg), iV (xs (v3 + 4).toNatClampNeg)]) (st := []) mt_X11_service in_X11_service lkL_31 rfl rfl ⟨by decide, by decide⟩ (Nat.le_of_ble_eq_true rfl) ⟨o91, o92⟩ rfl rfl dL_law_367 (Ctr.mono h (fun v M90 h => ?_))
  obtain ⟨r93, rfl, h⟩ := h
  show E_L_law l (some (L, xs)) q 370 [(0, rV (some 8)), (1, rV (some 16)), (2, rV (some 60)), (3, iV v3)] [iV r93] M90 (kk + 4) (nn + 35)
  refine e_aload_n dL_law_370 rfl rfl ?_
  refine e_aload_n dL_law_371 rfl rfl ?_
  refine e_iload_n dL_law_372 rfl rfl ?_
  refine e_iconst (v := 1) dL_law_373 (by decide) ?_
  refine e_iadd dL_law_374 ?_
  obtain ⟨o94, h⟩ := h
  refine e_sca o94 dL_law_375 ?_
  refine e_aload_n dL_law_376 rfl rfl ?_
  refine e_iload_n dL_law_377 rfl rfl ?_
  refine e_iconst (v := 2) dL_law_378 (by decide) ?_
  refine e_iadd dL_law_379 ?_
  obtain ⟨o95, h⟩ := h
  refine e_sca o95 dL_law_380 ?_
  refine e_aload_n dL_law_381 rfl rfl ?_
  refine e_iload_n dL_law_382 rfl rfl ?_
  refine e_iconst (v := 3) dL_law_383 (by decide) ?_
  refine e_iadd dL_law_384 ?_
  obtain ⟨o96, h⟩ := h
  refine e_sca o96 dL_law_385 ?_
  refine e_aload_n dL_law_386 rfl rfl ?_
  refine e_iload_n dL_law_387 rfl rfl ?_
  refine e_iconst (v := 4) dL_law_388 (by decide) ?_
  refine e_iadd dL_law_389 ?_
  obtain ⟨o97, h⟩ := h
  refine e_sca o97 dL_law_390 ?_
  obtain ⟨o99, h⟩ := h
  obtain ⟨o100, h⟩ := h
  refine e_callV (As := [iV (xs (v3 + 1).toNatClampNeg), iV (xs (v3 + 2).toNatClampNeg), iV (xs (v3 + 3).toNatClampNeg), iV (xs (v3 + 4).toNatClampNeg)]) (st := [iV r93]) mt_X12_service in_X12_service lkL_34 rfl rfl ⟨by decide, by decide⟩ (Nat.le_of_ble_eq_true rfl) ⟨o99, o100⟩ rfl rfl dL_law_391 (Ctr.mono h (fun v M98 h => ?_))
  obtain ⟨r101, rfl, h⟩ := h
  show E_L_law l (some (L, xs)) q 394 [(0, rV (some 8)), (1, rV (some 16)), (2, rV (some 60)), (3, iV v3)] [iV r101, iV r93] M98 (kk + 4) (nn + 35)
  refine e_ic_eq (tgt := 1219) dL_law_394 (by decide) (fun c102 => ?_) (fun c102 => ?_)
  · replace h := h.1 c102
    exact e_lv (List.forall_mem_cons.mpr ⟨rfl, List.forall_mem_cons.mpr ⟨rfl, List.forall_mem_cons.mpr ⟨rfl, List.forall_mem_cons.mpr ⟨rfl, fun _ h => absurd h List.not_mem_nil⟩⟩⟩⟩) h
  · replace h := h.2 c102
    refine e_iconst (v := 0) dL_law_397 (by decide) ?_
    obtain ⟨o103, h⟩ := h
    obtain ⟨o104, h⟩ := h
    refine e_widen (k' := 600000) (n' := 7302250) o103 o104 ?_
    exact e_iret rfl rb_0 dL_law_398 ⟨_, rfl, h⟩
theorem w_L_law_399 (l : Launch) (L : Nat) (xs : Nat → Int32) (q : Int32 → o_M → Prop) (v3 : Int32) (kk : Nat) (nn : Nat) (M : o_M) (h : (vp_in (v3 + 1) L ∧ (vp_in (v3 + 2) L ∧ (kk ≤ 600000 ∧ (nn ≤ 7302250 ∧ K_X11_call l [rV (some 16), iV (xs (v3 + 1).toNatClampNeg), iV (xs (v3 + 2).toNatClampNeg)] M (fun r110 M107 => (vp_in (v3 + 1) L ∧ (vp_in (v3 + 2) L ∧ (kk ≤ 600000 ∧ (nn ≤ 7302250 ∧ K_X12_call l [rV (some 60), iV (xs (v3 + 1).toNatClampNeg), iV (xs (v3 + 2).toNatClampNeg)] M107 (fun r116 M113 => ((r110 = r116 → H_L_law_1219 l (some (L, xs)) q v3 kk nn M113) ∧ (¬ r110 = r116 → (kk ≤ 600000 ∧ (nn ≤ 7302250 ∧ q 0 M113))))))))))))))) : H_L_law_399 l (some (L, xs)) q v3 kk nn M := by
  refine e_aload_n dL_law_399 rfl rfl ?_
  refine e_aload_n dL_law_400 rfl rfl ?_
  refine e_iload_n dL_law_401 rfl rfl ?_
  refine e_iconst (v := 1) dL_law_402 (by decide) ?_
  refine e_iadd dL_law_403 ?_
  obtain ⟨o105, h⟩ := h
  refine e_sca o105 dL_law_404 ?_
  refine e_aload_n dL_law_405 rfl rfl ?_
  refine e_iload_n dL_law_406 rfl rfl ?_
  refine e_iconst (v := 2) dL_law_407 (by decide) ?_
  refine e_iadd dL_law_408 ?_
  obtain ⟨o106, h⟩ := h
  refine e_sca o106 dL_law_409 ?_
  obtain ⟨o108, h⟩ := h
  obtain ⟨o109, h⟩ := h
  refine e_callV (As := [iV (xs (v3 + 1).toNatClampNeg), iV (xs (v3 + 2).toNatClampNeg)]) (st := []) mt_X11_call in_X11_call lkL_35 rfl rfl ⟨by decide, by decide⟩ (Nat.le_of_ble_eq_true rfl) ⟨o108, o109⟩ rfl rfl dL_law_410 (Ctr.mono h (fun v M107 h => ?_))
  obtain ⟨r110, rfl, h⟩ := h
  show E_L_law l (some (L, xs)) q 413 [(0, rV (some 8)), (1, rV (some 16)), (2, rV (some 60)), (3, iV v3)] [iV r110] M107 kk nn
  refine e_aload_n dL_law_413 rfl rfl ?_
  refine e_aload_n dL_law_414 rfl rfl ?_
  refine e_iload_n dL_law_415 rfl rfl ?_
  refine e_iconst (v := 1) dL_law_416 (by decide) ?_
  refine e_iadd dL_law_417 ?_
  obtain ⟨o111, h⟩ := h
  refine e_sca o111 dL_law_418 ?_
  refine e_aload_n dL_law_419 rfl rfl ?_
  refine e_iload_n dL_law_420 rfl rfl ?_
  refine e_iconst (v := 2) dL_law_421 (by decide) ?_
  refine e_iadd dL_law_422 ?_
  obtain ⟨o112, h⟩ := h
  refine e_sca o112 dL_law_423 ?_
  obtain ⟨o114, h⟩ := h
  obtain ⟨o115, h⟩ := h
  refine e_callV (As := [iV (xs (v3 + 1).toNatClampNeg), iV (xs (v3 + 2).toNatClampNeg)]) (st := [iV r110]) mt_X12_call in_X12_call lkL_39 rfl rfl ⟨by decide, by decide⟩ (Nat.le_of_ble_eq_true rfl) ⟨o114, o115⟩ rfl rfl dL_law_424 (Ctr.mono h (fun v M113 h => ?_))
  obtain ⟨r116, rfl, h⟩ := h
  show E_L_law l (some (L, xs)) q 427 [(0, rV (some 8)), (1, rV (some 16)), (2, rV (some 60)), (3, iV v3)] [iV r116, iV r110] M113 kk nn
  refine e_ic_eq (tgt := 1219) dL_law_427 (by decide) (fun c117 => ?_) (fun c117 => ?_)
  · replace h := h.1 c117
    exact e_lv (List.forall_mem_cons.mpr ⟨rfl, List.forall_mem_cons.mpr ⟨rfl, List.forall_mem_cons.mpr ⟨rfl, List.forall_mem_cons.mpr ⟨rfl, fun _ h => absurd h List.not_mem_nil⟩⟩⟩⟩) h
  · replace h := h.2 c117
    refine e_iconst (v := 0) dL_law_430 (by decide) ?_
    obtain ⟨o118, h⟩ := h
    obtain ⟨o119, h⟩ := h
    refine e_widen (k' := 600000) (n' := 7302250) o118 o119 ?_
    exact e_iret rfl rb_0 dL_law_431 ⟨_, rfl, h⟩
theorem w_L_law_432 (l : Launch) (L : Nat) (xs : Nat → Int32) (q : Int32 → o_M → Prop) (v3 : Int32) (kk : Nat) (nn : Nat) (M : o_M) (h : (vp_in (v3 + 1) L ∧ (vp_in (v3 + 2) L ∧ (kk ≤ 600000 ∧ (nn ≤ 7302250 ∧ K_X11_workTold l [rV (some 16), iV (xs (v3 + 1).toNatClampNeg), iV (xs (v3 + 2).toNatClampNeg)] M (fun r125 M122 => (vp_in (v3 + 1) L ∧ (vp_in (v3 + 2) L ∧ (kk ≤ 600000 ∧ (nn ≤ 7302250 ∧ K_X12_workTold l [rV (some 60), iV (xs (v3 + 1).toNatClampNeg), iV (xs (v3 + 2).toNatClampNeg)] M122 (fun r131 M128 => ((r125 = r131 → H_L_law_1219 l (some (L, xs)) q v3 kk nn M128) ∧ (¬ r125 = r131 → (kk ≤ 600000 ∧ (nn ≤ 7302250 ∧ q 0 M128))))))))))))))) : H_L_law_432 l (some (L, xs)) q v3 kk nn M := by
  refine e_aload_n dL_law_432 rfl rfl ?_
  refine e_aload_n dL_law_433 rfl rfl ?_
  refine e_iload_n dL_law_434 rfl rfl ?_
  refine e_iconst (v := 1) dL_law_435 (by decide) ?_
  refine e_iadd dL_law_436 ?_
  obtain ⟨o120, h⟩ := h
  refine e_sca o120 dL_law_437 ?_
  refine e_aload_n dL_law_438 rfl rfl ?_
  refine e_iload_n dL_law_439 rfl rfl ?_
  refine e_iconst (v := 2) dL_law_440 (by decide) ?_
  refine e_iadd dL_law_441 ?_
  obtain ⟨o121, h⟩ := h
  refine e_sca o121 dL_law_442 ?_
  obtain ⟨o123, h⟩ := h
  obtain ⟨o124, h⟩ := h
  refine e_callV (As := [iV (xs (v3 + 1).toNatClampNeg), iV (xs (v3 + 2).toNatClampNeg)]) (st := []) mt_X11_workTold in_X11_workTold lkL_40 rfl rfl ⟨by decide, by decide⟩ (Nat.le_of_ble_eq_true rfl) ⟨o123, o124⟩ rfl rfl dL_law_443 (Ctr.mono h (fun v M122 h => ?_))
  obtain ⟨r125, rfl, h⟩ := h
  show E_L_law l (some (L, xs)) q 446 [(0, rV (some 8)), (1, rV (some 16)), (2, rV (some 60)), (3, iV v3)] [iV r125] M122 kk nn
  refine e_aload_n dL_law_446 rfl rfl ?_
  refine e_aload_n dL_law_447 rfl rfl ?_
  refine e_iload_n dL_law_448 rfl rfl ?_
  refine e_iconst (v := 1) dL_law_449 (by decide) ?_
  refine e_iadd dL_law_450 ?_
  obtain ⟨o126, h⟩ := h
  refine e_sca o126 dL_law_451 ?_
  refine e_aload_n dL_law_452 rfl rfl ?_
  refine e_iload_n dL_law_453 rfl rfl ?_
  refine e_iconst (v := 2) dL_law_454 (by decide) ?_
  refine e_iadd dL_law_455 ?_
  obtain ⟨o127, h⟩ := h
  refine e_sca o127 dL_law_456 ?_
  obtain ⟨o129, h⟩ := h
  obtain ⟨o130, h⟩ := h
  refine e_callV (As := [iV (xs (v3 + 1).toNatClampNeg), iV (xs (v3 + 2).toNatClampNeg)]) (st := [iV r125]) mt_X12_workTold in_X12_workTold lkL_43 rfl rfl ⟨by decide, by decide⟩ (Nat.le_of_ble_eq_true rfl) ⟨o129, o130⟩ rfl rfl dL_law_457 (Ctr.mono h (fun v M128 h => ?_))
  obtain ⟨r131, rfl, h⟩ := h
  show E_L_law l (some (L, xs)) q 460 [(0, rV (some 8)), (1, rV (some 16)), (2, rV (some 60)), (3, iV v3)] [iV r131, iV r125] M128 kk nn
  refine e_ic_eq (tgt := 1219) dL_law_460 (by decide) (fun c132 => ?_) (fun c132 => ?_)
  · replace h := h.1 c132
    exact e_lv (List.forall_mem_cons.mpr ⟨rfl, List.forall_mem_cons.mpr ⟨rfl, List.forall_mem_cons.mpr ⟨rfl, List.forall_mem_cons.mpr ⟨rfl, fun _ h => absurd h List.not_mem_nil⟩⟩⟩⟩) h
  · replace h := h.2 c132
    refine e_iconst (v := 0) dL_law_463 (by decide) ?_
    obtain ⟨o133, h⟩ := h
    obtain ⟨o134, h⟩ := h
    refine e_widen (k' := 600000) (n' := 7302250) o133 o134 ?_
    exact e_iret rfl rb_0 dL_law_464 ⟨_, rfl, h⟩
theorem w_L_law_465 (l : Launch) (L : Nat) (xs : Nat → Int32) (q : Int32 → o_M → Prop) (v3 : Int32) (kk : Nat) (nn : Nat) (M : o_M) (h : (vp_in (v3 + 1) L ∧ (vp_in (v3 + 2) L ∧ (kk ≤ 600000 ∧ (nn ≤ 7302250 ∧ K_X11_played l [rV (some 16), iV (xs (v3 + 1).toNatClampNeg), iV (xs (v3 + 2).toNatClampNeg)] M (fun r140 M137 => (vp_in (v3 + 1) L ∧ (vp_in (v3 + 2) L ∧ (kk ≤ 600000 ∧ (nn ≤ 7302250 ∧ K_X12_played l [rV (some 60), iV (xs (v3 + 1).toNatClampNeg), iV (xs (v3 + 2).toNatClampNeg)] M137 (fun r146 M143 => ((r140 = r146 → H_L_law_1219 l (some (L, xs)) q v3 kk nn M143) ∧ (¬ r140 = r146 → (kk ≤ 600000 ∧ (nn ≤ 7302250 ∧ q 0 M143))))))))))))))) : H_L_law_465 l (some (L, xs)) q v3 kk nn M := by
  refine e_aload_n dL_law_465 rfl rfl ?_
  refine e_aload_n dL_law_466 rfl rfl ?_
  refine e_iload_n dL_law_467 rfl rfl ?_
  refine e_iconst (v := 1) dL_law_468 (by decide) ?_
  refine e_iadd dL_law_469 ?_
  obtain ⟨o135, h⟩ := h
  refine e_sca o135 dL_law_470 ?_
  refine e_aload_n dL_law_471 rfl rfl ?_
  refine e_iload_n dL_law_472 rfl rfl ?_
  refine e_iconst (v := 2) dL_law_473 (by decide) ?_
  refine e_iadd dL_law_474 ?_
  obtain ⟨o136, h⟩ := h
  refine e_sca o136 dL_law_475 ?_
  obtain ⟨o138, h⟩ := h
  obtain ⟨o139, h⟩ := h
  refine e_callV (As := [iV (xs (v3 + 1).toNatClampNeg), iV (xs (v3 + 2).toNatClampNeg)]) (st := []) mt_X11_played in_X11_played lkL_44 rfl rfl ⟨by decide, by decide⟩ (Nat.le_of_ble_eq_true rfl) ⟨o138, o139⟩ rfl rfl dL_law_476 (Ctr.mono h (fun v M137 h => ?_))
  obtain ⟨r140, rfl, h⟩ := h
  show E_L_law l (some (L, xs)) q 479 [(0, rV (some 8)), (1, rV (some 16)), (2, rV (some 60)), (3, iV v3)] [iV r140] M137 kk nn
  refine e_aload_n dL_law_479 rfl rfl ?_
  refine e_aload_n dL_law_480 rfl rfl ?_
  refine e_iload_n dL_law_481 rfl rfl ?_
  refine e_iconst (v := 1) dL_law_482 (by decide) ?_
  refine e_iadd dL_law_483 ?_
  obtain ⟨o141, h⟩ := h
  refine e_sca o141 dL_law_484 ?_
  refine e_aload_n dL_law_485 rfl rfl ?_
  refine e_iload_n dL_law_486 rfl rfl ?_
  refine e_iconst (v := 2) dL_law_487 (by decide) ?_
  refine e_iadd dL_law_488 ?_
  obtain ⟨o142, h⟩ := h
  refine e_sca o142 dL_law_489 ?_
  obtain ⟨o144, h⟩ := h
  obtain ⟨o145, h⟩ := h
  refine e_callV (As := [iV (xs (v3 + 1).toNatClampNeg), iV (xs (v3 + 2).toNatClampNeg)]) (st := [iV r140]) mt_X12_played in_X12_played lkL_47 rfl rfl ⟨by decide, by decide⟩ (Nat.le_of_ble_eq_true rfl) ⟨o144, o145⟩ rfl rfl dL_law_490 (Ctr.mono h (fun v M143 h => ?_))
  obtain ⟨r146, rfl, h⟩ := h
  show E_L_law l (some (L, xs)) q 493 [(0, rV (some 8)), (1, rV (some 16)), (2, rV (some 60)), (3, iV v3)] [iV r146, iV r140] M143 kk nn
  refine e_ic_eq (tgt := 1219) dL_law_493 (by decide) (fun c147 => ?_) (fun c147 => ?_)
  · replace h := h.1 c147
    exact e_lv (List.forall_mem_cons.mpr ⟨rfl, List.forall_mem_cons.mpr ⟨rfl, List.forall_mem_cons.mpr ⟨rfl, List.forall_mem_cons.mpr ⟨rfl, fun _ h => absurd h List.not_mem_nil⟩⟩⟩⟩) h
  · replace h := h.2 c147
    refine e_iconst (v := 0) dL_law_496 (by decide) ?_
    obtain ⟨o148, h⟩ := h
    obtain ⟨o149, h⟩ := h
    refine e_widen (k' := 600000) (n' := 7302250) o148 o149 ?_
    exact e_iret rfl rb_0 dL_law_497 ⟨_, rfl, h⟩
theorem w_L_law_498 (l : Launch) (L : Nat) (xs : Nat → Int32) (q : Int32 → o_M → Prop) (v3 : Int32) (kk : Nat) (nn : Nat) (M : o_M) (h : (vp_in (v3 + 1) L ∧ (vp_in (v3 + 2) L ∧ (kk ≤ 600000 ∧ (nn ≤ 7302250 ∧ K_X11_playerTold l [rV (some 16), iV (xs (v3 + 1).toNatClampNeg), iV (xs (v3 + 2).toNatClampNeg)] M (fun r155 M152 => (vp_in (v3 + 1) L ∧ (vp_in (v3 + 2) L ∧ (kk ≤ 600000 ∧ (nn ≤ 7302250 ∧ K_X12_playerTold l [rV (some 60), iV (xs (v3 + 1).toNatClampNeg), iV (xs (v3 + 2).toNatClampNeg)] M152 (fun r161 M158 => ((r155 = r161 → H_L_law_1219 l (some (L, xs)) q v3 kk nn M158) ∧ (¬ r155 = r161 → (kk ≤ 600000 ∧ (nn ≤ 7302250 ∧ q 0 M158))))))))))))))) : H_L_law_498 l (some (L, xs)) q v3 kk nn M := by
  refine e_aload_n dL_law_498 rfl rfl ?_
  refine e_aload_n dL_law_499 rfl rfl ?_
  refine e_iload_n dL_law_500 rfl rfl ?_
  refine e_iconst (v := 1) dL_law_501 (by decide) ?_
  refine e_iadd dL_law_502 ?_
  obtain ⟨o150, h⟩ := h
  refine e_sca o150 dL_law_503 ?_
  refine e_aload_n dL_law_504 rfl rfl ?_
  refine e_iload_n dL_law_505 rfl rfl ?_
  refine e_iconst (v := 2) dL_law_506 (by decide) ?_
  refine e_iadd dL_law_507 ?_
  obtain ⟨o151, h⟩ := h
  refine e_sca o151 dL_law_508 ?_
  obtain ⟨o153, h⟩ := h
  obtain ⟨o154, h⟩ := h
  refine e_callV (As := [iV (xs (v3 + 1).toNatClampNeg), iV (xs (v3 + 2).toNatClampNeg)]) (st := []) mt_X11_playerTold in_X11_playerTold lkL_48 rfl rfl ⟨by decide, by decide⟩ (Nat.le_of_ble_eq_true rfl) ⟨o153, o154⟩ rfl rfl dL_law_509 (Ctr.mono h (fun v M152 h => ?_))
  obtain ⟨r155, rfl, h⟩ := h
  show E_L_law l (some (L, xs)) q 512 [(0, rV (some 8)), (1, rV (some 16)), (2, rV (some 60)), (3, iV v3)] [iV r155] M152 kk nn
  refine e_aload_n dL_law_512 rfl rfl ?_
  refine e_aload_n dL_law_513 rfl rfl ?_
  refine e_iload_n dL_law_514 rfl rfl ?_
  refine e_iconst (v := 1) dL_law_515 (by decide) ?_
  refine e_iadd dL_law_516 ?_
  obtain ⟨o156, h⟩ := h
  refine e_sca o156 dL_law_517 ?_
  refine e_aload_n dL_law_518 rfl rfl ?_
  refine e_iload_n dL_law_519 rfl rfl ?_
  refine e_iconst (v := 2) dL_law_520 (by decide) ?_
  refine e_iadd dL_law_521 ?_
  obtain ⟨o157, h⟩ := h
  refine e_sca o157 dL_law_522 ?_
  obtain ⟨o159, h⟩ := h
  obtain ⟨o160, h⟩ := h
  refine e_callV (As := [iV (xs (v3 + 1).toNatClampNeg), iV (xs (v3 + 2).toNatClampNeg)]) (st := [iV r155]) mt_X12_playerTold in_X12_playerTold lkL_51 rfl rfl ⟨by decide, by decide⟩ (Nat.le_of_ble_eq_true rfl) ⟨o159, o160⟩ rfl rfl dL_law_523 (Ctr.mono h (fun v M158 h => ?_))
  obtain ⟨r161, rfl, h⟩ := h
  show E_L_law l (some (L, xs)) q 526 [(0, rV (some 8)), (1, rV (some 16)), (2, rV (some 60)), (3, iV v3)] [iV r161, iV r155] M158 kk nn
  refine e_ic_eq (tgt := 1219) dL_law_526 (by decide) (fun c162 => ?_) (fun c162 => ?_)
  · replace h := h.1 c162
    exact e_lv (List.forall_mem_cons.mpr ⟨rfl, List.forall_mem_cons.mpr ⟨rfl, List.forall_mem_cons.mpr ⟨rfl, List.forall_mem_cons.mpr ⟨rfl, fun _ h => absurd h List.not_mem_nil⟩⟩⟩⟩) h
  · replace h := h.2 c162
    refine e_iconst (v := 0) dL_law_529 (by decide) ?_
    obtain ⟨o163, h⟩ := h
    obtain ⟨o164, h⟩ := h
    refine e_widen (k' := 600000) (n' := 7302250) o163 o164 ?_
    exact e_iret rfl rb_0 dL_law_530 ⟨_, rfl, h⟩
theorem w_L_law_531 (l : Launch) (L : Nat) (xs : Nat → Int32) (q : Int32 → o_M → Prop) (v3 : Int32) (kk : Nat) (nn : Nat) (M : o_M) (h : (vp_in (v3 + 1) L ∧ (vp_in (v3 + 2) L ∧ (kk ≤ 600000 ∧ (nn ≤ 7302250 ∧ K_X11_serviceTold l [rV (some 16), iV (xs (v3 + 1).toNatClampNeg), iV (xs (v3 + 2).toNatClampNeg)] M (fun r170 M167 => (vp_in (v3 + 1) L ∧ (vp_in (v3 + 2) L ∧ (kk ≤ 600000 ∧ (nn ≤ 7302250 ∧ K_X12_serviceTold l [rV (some 60), iV (xs (v3 + 1).toNatClampNeg), iV (xs (v3 + 2).toNatClampNeg)] M167 (fun r176 M173 => ((r170 = r176 → H_L_law_1219 l (some (L, xs)) q v3 kk nn M173) ∧ (¬ r170 = r176 → (kk ≤ 600000 ∧ (nn ≤ 7302250 ∧ q 0 M173))))))))))))))) : H_L_law_531 l (some (L, xs)) q v3 kk nn M := by
  refine e_aload_n dL_law_531 rfl rfl ?_
  refine e_aload_n dL_law_532 rfl rfl ?_
  refine e_iload_n dL_law_533 rfl rfl ?_
  refine e_iconst (v := 1) dL_law_534 (by decide) ?_
  refine e_iadd dL_law_535 ?_
  obtain ⟨o165, h⟩ := h
  refine e_sca o165 dL_law_536 ?_
  refine e_aload_n dL_law_537 rfl rfl ?_
  refine e_iload_n dL_law_538 rfl rfl ?_
  refine e_iconst (v := 2) dL_law_539 (by decide) ?_
  refine e_iadd dL_law_540 ?_
  obtain ⟨o166, h⟩ := h
  refine e_sca o166 dL_law_541 ?_
  obtain ⟨o168, h⟩ := h
  obtain ⟨o169, h⟩ := h
  refine e_callV (As := [iV (xs (v3 + 1).toNatClampNeg), iV (xs (v3 + 2).toNatClampNeg)]) (st := []) mt_X11_serviceTold in_X11_serviceTold lkL_52 rfl rfl ⟨by decide, by decide⟩ (Nat.le_of_ble_eq_true rfl) ⟨o168, o169⟩ rfl rfl dL_law_542 (Ctr.mono h (fun v M167 h => ?_))
  obtain ⟨r170, rfl, h⟩ := h
  show E_L_law l (some (L, xs)) q 545 [(0, rV (some 8)), (1, rV (some 16)), (2, rV (some 60)), (3, iV v3)] [iV r170] M167 kk nn
  refine e_aload_n dL_law_545 rfl rfl ?_
  refine e_aload_n dL_law_546 rfl rfl ?_
  refine e_iload_n dL_law_547 rfl rfl ?_
  refine e_iconst (v := 1) dL_law_548 (by decide) ?_
  refine e_iadd dL_law_549 ?_
  obtain ⟨o171, h⟩ := h
  refine e_sca o171 dL_law_550 ?_
  refine e_aload_n dL_law_551 rfl rfl ?_
  refine e_iload_n dL_law_552 rfl rfl ?_
  refine e_iconst (v := 2) dL_law_553 (by decide) ?_
  refine e_iadd dL_law_554 ?_
  obtain ⟨o172, h⟩ := h
  refine e_sca o172 dL_law_555 ?_
  obtain ⟨o174, h⟩ := h
  obtain ⟨o175, h⟩ := h
  refine e_callV (As := [iV (xs (v3 + 1).toNatClampNeg), iV (xs (v3 + 2).toNatClampNeg)]) (st := [iV r170]) mt_X12_serviceTold in_X12_serviceTold lkL_55 rfl rfl ⟨by decide, by decide⟩ (Nat.le_of_ble_eq_true rfl) ⟨o174, o175⟩ rfl rfl dL_law_556 (Ctr.mono h (fun v M173 h => ?_))
  obtain ⟨r176, rfl, h⟩ := h
  show E_L_law l (some (L, xs)) q 559 [(0, rV (some 8)), (1, rV (some 16)), (2, rV (some 60)), (3, iV v3)] [iV r176, iV r170] M173 kk nn
  refine e_ic_eq (tgt := 1219) dL_law_559 (by decide) (fun c177 => ?_) (fun c177 => ?_)
  · replace h := h.1 c177
    exact e_lv (List.forall_mem_cons.mpr ⟨rfl, List.forall_mem_cons.mpr ⟨rfl, List.forall_mem_cons.mpr ⟨rfl, List.forall_mem_cons.mpr ⟨rfl, fun _ h => absurd h List.not_mem_nil⟩⟩⟩⟩) h
  · replace h := h.2 c177
    refine e_iconst (v := 0) dL_law_562 (by decide) ?_
    obtain ⟨o178, h⟩ := h
    obtain ⟨o179, h⟩ := h
    refine e_widen (k' := 600000) (n' := 7302250) o178 o179 ?_
    exact e_iret rfl rb_0 dL_law_563 ⟨_, rfl, h⟩
theorem w_L_law_564 (l : Launch) (L : Nat) (xs : Nat → Int32) (q : Int32 → o_M → Prop) (v3 : Int32) (kk : Nat) (nn : Nat) (M : o_M) (h : (vp_in (v3 + 1) L ∧ (vp_in (v3 + 2) L ∧ (vp_in (v3 + 3) L ∧ (kk ≤ 600000 ∧ (nn ≤ 7302250 ∧ K_X11_feed l [rV (some 16), iV (xs (v3 + 1).toNatClampNeg), jV ((((xs (v3 + 2).toNatClampNeg).toInt64) <<< ((32 : Int32).toInt64 &&& 63)) ||| (((xs (v3 + 3).toNatClampNeg).toInt64) &&& 4294967295))] M (fun r186 M183 => (vp_in (v3 + 1) L ∧ (vp_in (v3 + 2) L ∧ (vp_in (v3 + 3) L ∧ (kk ≤ 600000 ∧ (nn ≤ 7302250 ∧ K_X12_feed l [rV (some 60), iV (xs (v3 + 1).toNatClampNeg), jV ((((xs (v3 + 2).toNatClampNeg).toInt64) <<< ((32 : Int32).toInt64 &&& 63)) ||| (((xs (v3 + 3).toNatClampNeg).toInt64) &&& 4294967295))] M183 (fun r193 M190 => ((r186 = r193 → H_L_law_1219 l (some (L, xs)) q v3 kk nn M190) ∧ (¬ r186 = r193 → (kk ≤ 600000 ∧ (nn ≤ 7302250 ∧ q 0 M190))))))))))))))))) : H_L_law_564 l (some (L, xs)) q v3 kk nn M := by
  refine e_aload_n dL_law_564 rfl rfl ?_
  refine e_aload_n dL_law_565 rfl rfl ?_
  refine e_iload_n dL_law_566 rfl rfl ?_
  refine e_iconst (v := 1) dL_law_567 (by decide) ?_
  refine e_iadd dL_law_568 ?_
  obtain ⟨o180, h⟩ := h
  refine e_sca o180 dL_law_569 ?_
  refine e_aload_n dL_law_570 rfl rfl ?_
  refine e_iload_n dL_law_571 rfl rfl ?_
  refine e_iconst (v := 2) dL_law_572 (by decide) ?_
  refine e_iadd dL_law_573 ?_
  obtain ⟨o181, h⟩ := h
  refine e_sca o181 dL_law_574 ?_
  refine e_i2l dL_law_575 ?_
  refine e_bipush (v := 32) dL_law_576 (by decide) ?_
  refine e_lshl dL_law_578 ?_
  refine e_aload_n dL_law_579 rfl rfl ?_
  refine e_iload_n dL_law_580 rfl rfl ?_
  refine e_iconst (v := 3) dL_law_581 (by decide) ?_
  refine e_iadd dL_law_582 ?_
  obtain ⟨o182, h⟩ := h
  refine e_sca o182 dL_law_583 ?_
  refine e_i2l dL_law_584 ?_
  refine e_ldc2 kcL_56 dL_law_585 ?_
  refine e_land dL_law_588 ?_
  refine e_lor dL_law_589 ?_
  obtain ⟨o184, h⟩ := h
  obtain ⟨o185, h⟩ := h
  refine e_callV (As := [iV (xs (v3 + 1).toNatClampNeg), jV ((((xs (v3 + 2).toNatClampNeg).toInt64) <<< ((32 : Int32).toInt64 &&& 63)) ||| (((xs (v3 + 3).toNatClampNeg).toInt64) &&& 4294967295))]) (st := []) mt_X11_feed in_X11_feed lkL_58 rfl rfl ⟨by decide, by decide⟩ (Nat.le_of_ble_eq_true rfl) ⟨o184, o185⟩ rfl rfl dL_law_590 (Ctr.mono h (fun v M183 h => ?_))
  obtain ⟨r186, rfl, h⟩ := h
  show E_L_law l (some (L, xs)) q 593 [(0, rV (some 8)), (1, rV (some 16)), (2, rV (some 60)), (3, iV v3)] [iV r186] M183 kk nn
  refine e_aload_n dL_law_593 rfl rfl ?_
  refine e_aload_n dL_law_594 rfl rfl ?_
  refine e_iload_n dL_law_595 rfl rfl ?_
  refine e_iconst (v := 1) dL_law_596 (by decide) ?_
  refine e_iadd dL_law_597 ?_
  obtain ⟨o187, h⟩ := h
  refine e_sca o187 dL_law_598 ?_
  refine e_aload_n dL_law_599 rfl rfl ?_
  refine e_iload_n dL_law_600 rfl rfl ?_
  refine e_iconst (v := 2) dL_law_601 (by decide) ?_
  refine e_iadd dL_law_602 ?_
  obtain ⟨o188, h⟩ := h
  refine e_sca o188 dL_law_603 ?_
  refine e_i2l dL_law_604 ?_
  refine e_bipush (v := 32) dL_law_605 (by decide) ?_
  refine e_lshl dL_law_607 ?_
  refine e_aload_n dL_law_608 rfl rfl ?_
  refine e_iload_n dL_law_609 rfl rfl ?_
  refine e_iconst (v := 3) dL_law_610 (by decide) ?_
  refine e_iadd dL_law_611 ?_
  obtain ⟨o189, h⟩ := h
  refine e_sca o189 dL_law_612 ?_
  refine e_i2l dL_law_613 ?_
  refine e_ldc2 kcL_56 dL_law_614 ?_
  refine e_land dL_law_617 ?_
  refine e_lor dL_law_618 ?_
  obtain ⟨o191, h⟩ := h
  obtain ⟨o192, h⟩ := h
  refine e_callV (As := [iV (xs (v3 + 1).toNatClampNeg), jV ((((xs (v3 + 2).toNatClampNeg).toInt64) <<< ((32 : Int32).toInt64 &&& 63)) ||| (((xs (v3 + 3).toNatClampNeg).toInt64) &&& 4294967295))]) (st := [iV r186]) mt_X12_feed in_X12_feed lkL_62 rfl rfl ⟨by decide, by decide⟩ (Nat.le_of_ble_eq_true rfl) ⟨o191, o192⟩ rfl rfl dL_law_619 (Ctr.mono h (fun v M190 h => ?_))
  obtain ⟨r193, rfl, h⟩ := h
  show E_L_law l (some (L, xs)) q 622 [(0, rV (some 8)), (1, rV (some 16)), (2, rV (some 60)), (3, iV v3)] [iV r193, iV r186] M190 kk nn
  refine e_ic_eq (tgt := 1219) dL_law_622 (by decide) (fun c194 => ?_) (fun c194 => ?_)
  · replace h := h.1 c194
    exact e_lv (List.forall_mem_cons.mpr ⟨rfl, List.forall_mem_cons.mpr ⟨rfl, List.forall_mem_cons.mpr ⟨rfl, List.forall_mem_cons.mpr ⟨rfl, fun _ h => absurd h List.not_mem_nil⟩⟩⟩⟩) h
  · replace h := h.2 c194
    refine e_iconst (v := 0) dL_law_625 (by decide) ?_
    obtain ⟨o195, h⟩ := h
    obtain ⟨o196, h⟩ := h
    refine e_widen (k' := 600000) (n' := 7302250) o195 o196 ?_
    exact e_iret rfl rb_0 dL_law_626 ⟨_, rfl, h⟩
theorem w_L_law_627 (l : Launch) (L : Nat) (xs : Nat → Int32) (q : Int32 → o_M → Prop) (v3 : Int32) (kk : Nat) (nn : Nat) (M : o_M) (h : (kk + 4 ≤ 600000 ∧ (nn + 906 ≤ 7302250 ∧ K_X11_text l [rV (some 16)] M (fun r200 M197 => (kk + 4 ≤ 600000 ∧ (nn + 906 ≤ 7302250 ∧ K_X12_text l [rV (some 60)] M197 (fun r204 M201 => ((r200 = r204 → H_L_law_1219 l (some (L, xs)) q v3 (kk + 4) (nn + 906) M201) ∧ (¬ r200 = r204 → (kk + 4 ≤ 600000 ∧ (nn + 906 ≤ 7302250 ∧ q 0 M201))))))))))) : H_L_law_627 l (some (L, xs)) q v3 kk nn M := by
  refine e_aload_n dL_law_627 rfl rfl ?_
  obtain ⟨o198, h⟩ := h
  obtain ⟨o199, h⟩ := h
  refine e_callV (As := []) (st := []) mt_X11_text in_X11_text lkL_63 rfl rfl ⟨by decide, by decide⟩ (Nat.le_of_ble_eq_true rfl) ⟨o198, o199⟩ rfl rfl dL_law_628 (Ctr.mono h (fun v M197 h => ?_))
  obtain ⟨r200, rfl, h⟩ := h
  show E_L_law l (some (L, xs)) q 631 [(0, rV (some 8)), (1, rV (some 16)), (2, rV (some 60)), (3, iV v3)] [iV r200] M197 (kk + 4) (nn + 906)
  refine e_aload_n dL_law_631 rfl rfl ?_
  obtain ⟨o202, h⟩ := h
  obtain ⟨o203, h⟩ := h
  refine e_callV (As := []) (st := [iV r200]) mt_X12_text in_X12_text lkL_67 rfl rfl ⟨by decide, by decide⟩ (Nat.le_of_ble_eq_true rfl) ⟨o202, o203⟩ rfl rfl dL_law_632 (Ctr.mono h (fun v M201 h => ?_))
  obtain ⟨r204, rfl, h⟩ := h
  show E_L_law l (some (L, xs)) q 635 [(0, rV (some 8)), (1, rV (some 16)), (2, rV (some 60)), (3, iV v3)] [iV r204, iV r200] M201 (kk + 4) (nn + 906)
  refine e_ic_eq (tgt := 1219) dL_law_635 (by decide) (fun c205 => ?_) (fun c205 => ?_)
  · replace h := h.1 c205
    exact e_lv (List.forall_mem_cons.mpr ⟨rfl, List.forall_mem_cons.mpr ⟨rfl, List.forall_mem_cons.mpr ⟨rfl, List.forall_mem_cons.mpr ⟨rfl, fun _ h => absurd h List.not_mem_nil⟩⟩⟩⟩) h
  · replace h := h.2 c205
    refine e_iconst (v := 0) dL_law_638 (by decide) ?_
    obtain ⟨o206, h⟩ := h
    obtain ⟨o207, h⟩ := h
    refine e_widen (k' := 600000) (n' := 7302250) o206 o207 ?_
    exact e_iret rfl rb_0 dL_law_639 ⟨_, rfl, h⟩
theorem w_L_law_640 (l : Launch) (L : Nat) (xs : Nat → Int32) (q : Int32 → o_M → Prop) (v3 : Int32) (kk : Nat) (nn : Nat) (M : o_M) (h : (vp_in (v3 + 1) L ∧ (vp_in (v3 + 2) L ∧ (kk ≤ 600000 ∧ (nn ≤ 7302250 ∧ K_X11_force l [rV (some 16), iV (xs (v3 + 1).toNatClampNeg), iV (xs (v3 + 2).toNatClampNeg)] M (fun r213 M210 => (vp_in (v3 + 1) L ∧ (vp_in (v3 + 2) L ∧ (kk ≤ 600000 ∧ (nn ≤ 7302250 ∧ K_X12_force l [rV (some 60), iV (xs (v3 + 1).toNatClampNeg), iV (xs (v3 + 2).toNatClampNeg)] M210 (fun r219 M216 => ((r213 = r219 → H_L_law_1219 l (some (L, xs)) q v3 kk nn M216) ∧ (¬ r213 = r219 → (kk ≤ 600000 ∧ (nn ≤ 7302250 ∧ q 0 M216))))))))))))))) : H_L_law_640 l (some (L, xs)) q v3 kk nn M := by
  refine e_aload_n dL_law_640 rfl rfl ?_
  refine e_aload_n dL_law_641 rfl rfl ?_
  refine e_iload_n dL_law_642 rfl rfl ?_
  refine e_iconst (v := 1) dL_law_643 (by decide) ?_
  refine e_iadd dL_law_644 ?_
  obtain ⟨o208, h⟩ := h
  refine e_sca o208 dL_law_645 ?_
  refine e_aload_n dL_law_646 rfl rfl ?_
  refine e_iload_n dL_law_647 rfl rfl ?_
  refine e_iconst (v := 2) dL_law_648 (by decide) ?_
  refine e_iadd dL_law_649 ?_
  obtain ⟨o209, h⟩ := h
  refine e_sca o209 dL_law_650 ?_
  obtain ⟨o211, h⟩ := h
  obtain ⟨o212, h⟩ := h
  refine e_callV (As := [iV (xs (v3 + 1).toNatClampNeg), iV (xs (v3 + 2).toNatClampNeg)]) (st := []) mt_X11_force in_X11_force lkL_68 rfl rfl ⟨by decide, by decide⟩ (Nat.le_of_ble_eq_true rfl) ⟨o211, o212⟩ rfl rfl dL_law_651 (Ctr.mono h (fun v M210 h => ?_))
  obtain ⟨r213, rfl, h⟩ := h
  show E_L_law l (some (L, xs)) q 654 [(0, rV (some 8)), (1, rV (some 16)), (2, rV (some 60)), (3, iV v3)] [iV r213] M210 kk nn
  refine e_aload_n dL_law_654 rfl rfl ?_
  refine e_aload_n dL_law_655 rfl rfl ?_
  refine e_iload_n dL_law_656 rfl rfl ?_
  refine e_iconst (v := 1) dL_law_657 (by decide) ?_
  refine e_iadd dL_law_658 ?_
  obtain ⟨o214, h⟩ := h
  refine e_sca o214 dL_law_659 ?_
  refine e_aload_n dL_law_660 rfl rfl ?_
  refine e_iload_n dL_law_661 rfl rfl ?_
  refine e_iconst (v := 2) dL_law_662 (by decide) ?_
  refine e_iadd dL_law_663 ?_
  obtain ⟨o215, h⟩ := h
  refine e_sca o215 dL_law_664 ?_
  obtain ⟨o217, h⟩ := h
  obtain ⟨o218, h⟩ := h
  refine e_callV (As := [iV (xs (v3 + 1).toNatClampNeg), iV (xs (v3 + 2).toNatClampNeg)]) (st := [iV r213]) mt_X12_force in_X12_force lkL_71 rfl rfl ⟨by decide, by decide⟩ (Nat.le_of_ble_eq_true rfl) ⟨o217, o218⟩ rfl rfl dL_law_665 (Ctr.mono h (fun v M216 h => ?_))
  obtain ⟨r219, rfl, h⟩ := h
  show E_L_law l (some (L, xs)) q 668 [(0, rV (some 8)), (1, rV (some 16)), (2, rV (some 60)), (3, iV v3)] [iV r219, iV r213] M216 kk nn
  refine e_ic_eq (tgt := 1219) dL_law_668 (by decide) (fun c220 => ?_) (fun c220 => ?_)
  · replace h := h.1 c220
    exact e_lv (List.forall_mem_cons.mpr ⟨rfl, List.forall_mem_cons.mpr ⟨rfl, List.forall_mem_cons.mpr ⟨rfl, List.forall_mem_cons.mpr ⟨rfl, fun _ h => absurd h List.not_mem_nil⟩⟩⟩⟩) h
  · replace h := h.2 c220
    refine e_iconst (v := 0) dL_law_671 (by decide) ?_
    obtain ⟨o221, h⟩ := h
    obtain ⟨o222, h⟩ := h
    refine e_widen (k' := 600000) (n' := 7302250) o221 o222 ?_
    exact e_iret rfl rb_0 dL_law_672 ⟨_, rfl, h⟩
theorem w_L_law_673 (l : Launch) (L : Nat) (xs : Nat → Int32) (q : Int32 → o_M → Prop) (v3 : Int32) (kk : Nat) (nn : Nat) (M : o_M) (h : (vp_in (v3 + 1) L ∧ (kk ≤ 600000 ∧ (nn ≤ 7302250 ∧ K_X11_inForce l [rV (some 16), iV (xs (v3 + 1).toNatClampNeg)] M (fun r227 M224 => (vp_in (v3 + 1) L ∧ (kk ≤ 600000 ∧ (nn ≤ 7302250 ∧ K_X12_inForce l [rV (some 60), iV (xs (v3 + 1).toNatClampNeg)] M224 (fun r232 M229 => ((r227 = r232 → H_L_law_1219 l (some (L, xs)) q v3 kk nn M229) ∧ (¬ r227 = r232 → (kk ≤ 600000 ∧ (nn ≤ 7302250 ∧ q 0 M229))))))))))))) : H_L_law_673 l (some (L, xs)) q v3 kk nn M := by
  refine e_aload_n dL_law_673 rfl rfl ?_
  refine e_aload_n dL_law_674 rfl rfl ?_
  refine e_iload_n dL_law_675 rfl rfl ?_
  refine e_iconst (v := 1) dL_law_676 (by decide) ?_
  refine e_iadd dL_law_677 ?_
  obtain ⟨o223, h⟩ := h
  refine e_sca o223 dL_law_678 ?_
  obtain ⟨o225, h⟩ := h
  obtain ⟨o226, h⟩ := h
  refine e_callV (As := [iV (xs (v3 + 1).toNatClampNeg)]) (st := []) mt_X11_inForce in_X11_inForce lkL_72 rfl rfl ⟨by decide, by decide⟩ (Nat.le_of_ble_eq_true rfl) ⟨o225, o226⟩ rfl rfl dL_law_679 (Ctr.mono h (fun v M224 h => ?_))
  obtain ⟨r227, rfl, h⟩ := h
  show E_L_law l (some (L, xs)) q 682 [(0, rV (some 8)), (1, rV (some 16)), (2, rV (some 60)), (3, iV v3)] [iV r227] M224 kk nn
  refine e_aload_n dL_law_682 rfl rfl ?_
  refine e_aload_n dL_law_683 rfl rfl ?_
  refine e_iload_n dL_law_684 rfl rfl ?_
  refine e_iconst (v := 1) dL_law_685 (by decide) ?_
  refine e_iadd dL_law_686 ?_
  obtain ⟨o228, h⟩ := h
  refine e_sca o228 dL_law_687 ?_
  obtain ⟨o230, h⟩ := h
  obtain ⟨o231, h⟩ := h
  refine e_callV (As := [iV (xs (v3 + 1).toNatClampNeg)]) (st := [iV r227]) mt_X12_inForce in_X12_inForce lkL_76 rfl rfl ⟨by decide, by decide⟩ (Nat.le_of_ble_eq_true rfl) ⟨o230, o231⟩ rfl rfl dL_law_688 (Ctr.mono h (fun v M229 h => ?_))
  obtain ⟨r232, rfl, h⟩ := h
  show E_L_law l (some (L, xs)) q 691 [(0, rV (some 8)), (1, rV (some 16)), (2, rV (some 60)), (3, iV v3)] [iV r232, iV r227] M229 kk nn
  refine e_ic_eq (tgt := 1219) dL_law_691 (by decide) (fun c233 => ?_) (fun c233 => ?_)
  · replace h := h.1 c233
    exact e_lv (List.forall_mem_cons.mpr ⟨rfl, List.forall_mem_cons.mpr ⟨rfl, List.forall_mem_cons.mpr ⟨rfl, List.forall_mem_cons.mpr ⟨rfl, fun _ h => absurd h List.not_mem_nil⟩⟩⟩⟩) h
  · replace h := h.2 c233
    refine e_iconst (v := 0) dL_law_694 (by decide) ?_
    obtain ⟨o234, h⟩ := h
    obtain ⟨o235, h⟩ := h
    refine e_widen (k' := 600000) (n' := 7302250) o234 o235 ?_
    exact e_iret rfl rb_0 dL_law_695 ⟨_, rfl, h⟩
theorem w_L_law_696 (l : Launch) (L : Nat) (xs : Nat → Int32) (q : Int32 → o_M → Prop) (v3 : Int32) (kk : Nat) (nn : Nat) (M : o_M) (h : (vp_in (v3 + 1) L ∧ (vp_in (v3 + 2) L ∧ (vp_in (v3 + 3) L ∧ (kk ≤ 600000 ∧ (nn ≤ 7302250 ∧ K_X11_may l [rV (some 16), iV (xs (v3 + 1).toNatClampNeg), iV (xs (v3 + 2).toNatClampNeg), iV (xs (v3 + 3).toNatClampNeg)] M (fun r242 M239 => (vp_in (v3 + 1) L ∧ (vp_in (v3 + 2) L ∧ (vp_in (v3 + 3) L ∧ (kk ≤ 600000 ∧ (nn ≤ 7302250 ∧ K_X12_may l [rV (some 60), iV (xs (v3 + 1).toNatClampNeg), iV (xs (v3 + 2).toNatClampNeg), iV (xs (v3 + 3).toNatClampNeg)] M239 (fun r249 M246 => ((r242 = r249 → H_L_law_1219 l (some (L, xs)) q v3 kk nn M246) ∧ (¬ r242 = r249 → (kk ≤ 600000 ∧ (nn ≤ 7302250 ∧ q 0 M246))))))))))))))))) : H_L_law_696 l (some (L, xs)) q v3 kk nn M := by
  refine e_aload_n dL_law_696 rfl rfl ?_
  refine e_aload_n dL_law_697 rfl rfl ?_
  refine e_iload_n dL_law_698 rfl rfl ?_
  refine e_iconst (v := 1) dL_law_699 (by decide) ?_
  refine e_iadd dL_law_700 ?_
  obtain ⟨o236, h⟩ := h
  refine e_sca o236 dL_law_701 ?_
  refine e_aload_n dL_law_702 rfl rfl ?_
  refine e_iload_n dL_law_703 rfl rfl ?_
  refine e_iconst (v := 2) dL_law_704 (by decide) ?_
  refine e_iadd dL_law_705 ?_
  obtain ⟨o237, h⟩ := h
  refine e_sca o237 dL_law_706 ?_
  refine e_aload_n dL_law_707 rfl rfl ?_
  refine e_iload_n dL_law_708 rfl rfl ?_
  refine e_iconst (v := 3) dL_law_709 (by decide) ?_
  refine e_iadd dL_law_710 ?_
  obtain ⟨o238, h⟩ := h
  refine e_sca o238 dL_law_711 ?_
  obtain ⟨o240, h⟩ := h
  obtain ⟨o241, h⟩ := h
  refine e_callV (As := [iV (xs (v3 + 1).toNatClampNeg), iV (xs (v3 + 2).toNatClampNeg), iV (xs (v3 + 3).toNatClampNeg)]) (st := []) mt_X11_may in_X11_may lkL_77 rfl rfl ⟨by decide, by decide⟩ (Nat.le_of_ble_eq_true rfl) ⟨o240, o241⟩ rfl rfl dL_law_712 (Ctr.mono h (fun v M239 h => ?_))
  obtain ⟨r242, rfl, h⟩ := h
  show E_L_law l (some (L, xs)) q 715 [(0, rV (some 8)), (1, rV (some 16)), (2, rV (some 60)), (3, iV v3)] [iV r242] M239 kk nn
  refine e_aload_n dL_law_715 rfl rfl ?_
  refine e_aload_n dL_law_716 rfl rfl ?_
  refine e_iload_n dL_law_717 rfl rfl ?_
  refine e_iconst (v := 1) dL_law_718 (by decide) ?_
  refine e_iadd dL_law_719 ?_
  obtain ⟨o243, h⟩ := h
  refine e_sca o243 dL_law_720 ?_
  refine e_aload_n dL_law_721 rfl rfl ?_
  refine e_iload_n dL_law_722 rfl rfl ?_
  refine e_iconst (v := 2) dL_law_723 (by decide) ?_
  refine e_iadd dL_law_724 ?_
  obtain ⟨o244, h⟩ := h
  refine e_sca o244 dL_law_725 ?_
  refine e_aload_n dL_law_726 rfl rfl ?_
  refine e_iload_n dL_law_727 rfl rfl ?_
  refine e_iconst (v := 3) dL_law_728 (by decide) ?_
  refine e_iadd dL_law_729 ?_
  obtain ⟨o245, h⟩ := h
  refine e_sca o245 dL_law_730 ?_
  obtain ⟨o247, h⟩ := h
  obtain ⟨o248, h⟩ := h
  refine e_callV (As := [iV (xs (v3 + 1).toNatClampNeg), iV (xs (v3 + 2).toNatClampNeg), iV (xs (v3 + 3).toNatClampNeg)]) (st := [iV r242]) mt_X12_may in_X12_may lkL_80 rfl rfl ⟨by decide, by decide⟩ (Nat.le_of_ble_eq_true rfl) ⟨o247, o248⟩ rfl rfl dL_law_731 (Ctr.mono h (fun v M246 h => ?_))
  obtain ⟨r249, rfl, h⟩ := h
  show E_L_law l (some (L, xs)) q 734 [(0, rV (some 8)), (1, rV (some 16)), (2, rV (some 60)), (3, iV v3)] [iV r249, iV r242] M246 kk nn
  refine e_ic_eq (tgt := 1219) dL_law_734 (by decide) (fun c250 => ?_) (fun c250 => ?_)
  · replace h := h.1 c250
    exact e_lv (List.forall_mem_cons.mpr ⟨rfl, List.forall_mem_cons.mpr ⟨rfl, List.forall_mem_cons.mpr ⟨rfl, List.forall_mem_cons.mpr ⟨rfl, fun _ h => absurd h List.not_mem_nil⟩⟩⟩⟩) h
  · replace h := h.2 c250
    refine e_iconst (v := 0) dL_law_737 (by decide) ?_
    obtain ⟨o251, h⟩ := h
    obtain ⟨o252, h⟩ := h
    refine e_widen (k' := 600000) (n' := 7302250) o251 o252 ?_
    exact e_iret rfl rb_0 dL_law_738 ⟨_, rfl, h⟩
theorem w_L_law_739 (l : Launch) (L : Nat) (xs : Nat → Int32) (q : Int32 → o_M → Prop) (v3 : Int32) (kk : Nat) (nn : Nat) (M : o_M) (h : (vp_in (v3 + 1) L ∧ (vp_in (v3 + 2) L ∧ (vp_in (v3 + 3) L ∧ (vp_in (v3 + 4) L ∧ (kk ≤ 600000 ∧ (nn ≤ 7302250 ∧ K_X11_worth l [rV (some 16), iV (xs (v3 + 1).toNatClampNeg), iV (xs (v3 + 2).toNatClampNeg), iV (xs (v3 + 3).toNatClampNeg), iV (xs (v3 + 4).toNatClampNeg)] M (fun r260 M257 => (vp_in (v3 + 1) L ∧ (vp_in (v3 + 2) L ∧ (vp_in (v3 + 3) L ∧ (vp_in (v3 + 4) L ∧ (kk ≤ 600000 ∧ (nn ≤ 7302250 ∧ K_X12_worth l [rV (some 60), iV (xs (v3 + 1).toNatClampNeg), iV (xs (v3 + 2).toNatClampNeg), iV (xs (v3 + 3).toNatClampNeg), iV (xs (v3 + 4).toNatClampNeg)] M257 (fun r268 M265 => (((lg_cmp r260 r268) = 0 → H_L_law_1219 l (some (L, xs)) q v3 kk nn M265) ∧ (¬ (lg_cmp r260 r268) = 0 → (kk ≤ 600000 ∧ (nn ≤ 7302250 ∧ q 0 M265))))))))))))))))))) : H_L_law_739 l (some (L, xs)) q v3 kk nn M := by
  refine e_aload_n dL_law_739 rfl rfl ?_
  refine e_aload_n dL_law_740 rfl rfl ?_
  refine e_iload_n dL_law_741 rfl rfl ?_
  refine e_iconst (v := 1) dL_law_742 (by decide) ?_
  refine e_iadd dL_law_743 ?_
  obtain ⟨o253, h⟩ := h
  refine e_sca o253 dL_law_744 ?_
  refine e_aload_n dL_law_745 rfl rfl ?_
  refine e_iload_n dL_law_746 rfl rfl ?_
  refine e_iconst (v := 2) dL_law_747 (by decide) ?_
  refine e_iadd dL_law_748 ?_
  obtain ⟨o254, h⟩ := h
  refine e_sca o254 dL_law_749 ?_
  refine e_aload_n dL_law_750 rfl rfl ?_
  refine e_iload_n dL_law_751 rfl rfl ?_
  refine e_iconst (v := 3) dL_law_752 (by decide) ?_
  refine e_iadd dL_law_753 ?_
  obtain ⟨o255, h⟩ := h
  refine e_sca o255 dL_law_754 ?_
  refine e_aload_n dL_law_755 rfl rfl ?_
  refine e_iload_n dL_law_756 rfl rfl ?_
  refine e_iconst (v := 4) dL_law_757 (by decide) ?_
  refine e_iadd dL_law_758 ?_
  obtain ⟨o256, h⟩ := h
  refine e_sca o256 dL_law_759 ?_
  obtain ⟨o258, h⟩ := h
  obtain ⟨o259, h⟩ := h
  refine e_callV (As := [iV (xs (v3 + 1).toNatClampNeg), iV (xs (v3 + 2).toNatClampNeg), iV (xs (v3 + 3).toNatClampNeg), iV (xs (v3 + 4).toNatClampNeg)]) (st := []) mt_X11_worth in_X11_worth lkL_81 rfl rfl ⟨by decide, by decide⟩ (Nat.le_of_ble_eq_true rfl) ⟨o258, o259⟩ rfl rfl dL_law_760 (Ctr.mono h (fun v M257 h => ?_))
  obtain ⟨r260, rfl, h⟩ := h
  show E_L_law l (some (L, xs)) q 763 [(0, rV (some 8)), (1, rV (some 16)), (2, rV (some 60)), (3, iV v3)] [jV r260] M257 kk nn
  refine e_aload_n dL_law_763 rfl rfl ?_
  refine e_aload_n dL_law_764 rfl rfl ?_
  refine e_iload_n dL_law_765 rfl rfl ?_
  refine e_iconst (v := 1) dL_law_766 (by decide) ?_
  refine e_iadd dL_law_767 ?_
  obtain ⟨o261, h⟩ := h
  refine e_sca o261 dL_law_768 ?_
  refine e_aload_n dL_law_769 rfl rfl ?_
  refine e_iload_n dL_law_770 rfl rfl ?_
  refine e_iconst (v := 2) dL_law_771 (by decide) ?_
  refine e_iadd dL_law_772 ?_
  obtain ⟨o262, h⟩ := h
  refine e_sca o262 dL_law_773 ?_
  refine e_aload_n dL_law_774 rfl rfl ?_
  refine e_iload_n dL_law_775 rfl rfl ?_
  refine e_iconst (v := 3) dL_law_776 (by decide) ?_
  refine e_iadd dL_law_777 ?_
  obtain ⟨o263, h⟩ := h
  refine e_sca o263 dL_law_778 ?_
  refine e_aload_n dL_law_779 rfl rfl ?_
  refine e_iload_n dL_law_780 rfl rfl ?_
  refine e_iconst (v := 4) dL_law_781 (by decide) ?_
  refine e_iadd dL_law_782 ?_
  obtain ⟨o264, h⟩ := h
  refine e_sca o264 dL_law_783 ?_
  obtain ⟨o266, h⟩ := h
  obtain ⟨o267, h⟩ := h
  refine e_callV (As := [iV (xs (v3 + 1).toNatClampNeg), iV (xs (v3 + 2).toNatClampNeg), iV (xs (v3 + 3).toNatClampNeg), iV (xs (v3 + 4).toNatClampNeg)]) (st := [jV r260]) mt_X12_worth in_X12_worth lkL_85 rfl rfl ⟨by decide, by decide⟩ (Nat.le_of_ble_eq_true rfl) ⟨o266, o267⟩ rfl rfl dL_law_784 (Ctr.mono h (fun v M265 h => ?_))
  obtain ⟨r268, rfl, h⟩ := h
  show E_L_law l (some (L, xs)) q 787 [(0, rV (some 8)), (1, rV (some 16)), (2, rV (some 60)), (3, iV v3)] [jV r268, jV r260] M265 kk nn
  refine e_lcmp dL_law_787 ?_
  refine e_if_eq (tgt := 1219) dL_law_788 (by decide) (fun c269 => ?_) (fun c269 => ?_)
  · replace h := h.1 c269
    exact e_lv (List.forall_mem_cons.mpr ⟨rfl, List.forall_mem_cons.mpr ⟨rfl, List.forall_mem_cons.mpr ⟨rfl, List.forall_mem_cons.mpr ⟨rfl, fun _ h => absurd h List.not_mem_nil⟩⟩⟩⟩) h
  · replace h := h.2 c269
    refine e_iconst (v := 0) dL_law_791 (by decide) ?_
    obtain ⟨o270, h⟩ := h
    obtain ⟨o271, h⟩ := h
    refine e_widen (k' := 600000) (n' := 7302250) o270 o271 ?_
    exact e_iret rfl rb_0 dL_law_792 ⟨_, rfl, h⟩
theorem w_L_law_793 (l : Launch) (L : Nat) (xs : Nat → Int32) (q : Int32 → o_M → Prop) (v3 : Int32) (kk : Nat) (nn : Nat) (M : o_M) (h : (vp_in (v3 + 1) L ∧ (kk ≤ 600000 ∧ (nn ≤ 7302250 ∧ K_X11_gaps l [rV (some 16), iV (xs (v3 + 1).toNatClampNeg)] M (fun r276 M273 => (vp_in (v3 + 1) L ∧ (kk ≤ 600000 ∧ (nn ≤ 7302250 ∧ K_X12_gaps l [rV (some 60), iV (xs (v3 + 1).toNatClampNeg)] M273 (fun r281 M278 => ((r276 = r281 → H_L_law_1219 l (some (L, xs)) q v3 kk nn M278) ∧ (¬ r276 = r281 → (kk ≤ 600000 ∧ (nn ≤ 7302250 ∧ q 0 M278))))))))))))) : H_L_law_793 l (some (L, xs)) q v3 kk nn M := by
  refine e_aload_n dL_law_793 rfl rfl ?_
  refine e_aload_n dL_law_794 rfl rfl ?_
  refine e_iload_n dL_law_795 rfl rfl ?_
  refine e_iconst (v := 1) dL_law_796 (by decide) ?_
  refine e_iadd dL_law_797 ?_
  obtain ⟨o272, h⟩ := h
  refine e_sca o272 dL_law_798 ?_
  obtain ⟨o274, h⟩ := h
  obtain ⟨o275, h⟩ := h
  refine e_callV (As := [iV (xs (v3 + 1).toNatClampNeg)]) (st := []) mt_X11_gaps in_X11_gaps lkL_86 rfl rfl ⟨by decide, by decide⟩ (Nat.le_of_ble_eq_true rfl) ⟨o274, o275⟩ rfl rfl dL_law_799 (Ctr.mono h (fun v M273 h => ?_))
  obtain ⟨r276, rfl, h⟩ := h
  show E_L_law l (some (L, xs)) q 802 [(0, rV (some 8)), (1, rV (some 16)), (2, rV (some 60)), (3, iV v3)] [iV r276] M273 kk nn
  refine e_aload_n dL_law_802 rfl rfl ?_
  refine e_aload_n dL_law_803 rfl rfl ?_
  refine e_iload_n dL_law_804 rfl rfl ?_
  refine e_iconst (v := 1) dL_law_805 (by decide) ?_
  refine e_iadd dL_law_806 ?_
  obtain ⟨o277, h⟩ := h
  refine e_sca o277 dL_law_807 ?_
  obtain ⟨o279, h⟩ := h
  obtain ⟨o280, h⟩ := h
  refine e_callV (As := [iV (xs (v3 + 1).toNatClampNeg)]) (st := [iV r276]) mt_X12_gaps in_X12_gaps lkL_89 rfl rfl ⟨by decide, by decide⟩ (Nat.le_of_ble_eq_true rfl) ⟨o279, o280⟩ rfl rfl dL_law_808 (Ctr.mono h (fun v M278 h => ?_))
  obtain ⟨r281, rfl, h⟩ := h
  show E_L_law l (some (L, xs)) q 811 [(0, rV (some 8)), (1, rV (some 16)), (2, rV (some 60)), (3, iV v3)] [iV r281, iV r276] M278 kk nn
  refine e_ic_eq (tgt := 1219) dL_law_811 (by decide) (fun c282 => ?_) (fun c282 => ?_)
  · replace h := h.1 c282
    exact e_lv (List.forall_mem_cons.mpr ⟨rfl, List.forall_mem_cons.mpr ⟨rfl, List.forall_mem_cons.mpr ⟨rfl, List.forall_mem_cons.mpr ⟨rfl, fun _ h => absurd h List.not_mem_nil⟩⟩⟩⟩) h
  · replace h := h.2 c282
    refine e_iconst (v := 0) dL_law_814 (by decide) ?_
    obtain ⟨o283, h⟩ := h
    obtain ⟨o284, h⟩ := h
    refine e_widen (k' := 600000) (n' := 7302250) o283 o284 ?_
    exact e_iret rfl rb_0 dL_law_815 ⟨_, rfl, h⟩
theorem w_L_law_816 (l : Launch) (L : Nat) (xs : Nat → Int32) (q : Int32 → o_M → Prop) (v3 : Int32) (kk : Nat) (nn : Nat) (M : o_M) (h : (vp_in (v3 + 1) L ∧ (vp_in (v3 + 2) L ∧ (vp_in (v3 + 3) L ∧ (((xs (v3 + 3).toNatClampNeg) = 0 → (kk ≤ 600000 ∧ (nn ≤ 7302250 ∧ K_X11_chair l [rV (some 16), iV (xs (v3 + 1).toNatClampNeg), iV (xs (v3 + 2).toNatClampNeg), iV 0] M (fun r292 M289 => (vp_in (v3 + 1) L ∧ (vp_in (v3 + 2) L ∧ (vp_in (v3 + 3) L ∧ (((xs (v3 + 3).toNatClampNeg) = 0 → (kk ≤ 600000 ∧ (nn ≤ 7302250 ∧ K_X12_chair l [rV (some 60), iV (xs (v3 + 1).toNatClampNeg), iV (xs (v3 + 2).toNatClampNeg), iV 0] M289 (fun r300 M297 => ((r292 = r300 → H_L_law_1219 l (some (L, xs)) q v3 kk nn M297) ∧ (¬ r292 = r300 → (kk ≤ 600000 ∧ (nn ≤ 7302250 ∧ q 0 M297)))))))) ∧ (¬ (xs (v3 + 3).toNatClampNeg) = 0 → (kk ≤ 600000 ∧ (nn ≤ 7302250 ∧ K_X12_chair l [rV (some 60), iV (xs (v3 + 1).toNatClampNeg), iV (xs (v3 + 2).toNatClampNeg), iV 1] M289 (fun r307 M304 => ((r292 = r307 → H_L_law_1219 l (some (L, xs)) q v3 kk nn M304) ∧ (¬ r292 = r307 → (kk ≤ 600000 ∧ (nn ≤ 7302250 ∧ q 0 M304)))))))))))))))) ∧ (¬ (xs (v3 + 3).toNatClampNeg) = 0 → (kk ≤ 600000 ∧ (nn ≤ 7302250 ∧ K_X11_chair l [rV (some 16), iV (xs (v3 + 1).toNatClampNeg), iV (xs (v3 + 2).toNatClampNeg), iV 1] M (fun r314 M311 => (vp_in (v3 + 1) L ∧ (vp_in (v3 + 2) L ∧ (vp_in (v3 + 3) L ∧ (((xs (v3 + 3).toNatClampNeg) = 0 → (kk ≤ 600000 ∧ (nn ≤ 7302250 ∧ K_X12_chair l [rV (some 60), iV (xs (v3 + 1).toNatClampNeg), iV (xs (v3 + 2).toNatClampNeg), iV 0] M311 (fun r322 M319 => ((r314 = r322 → H_L_law_1219 l (some (L, xs)) q v3 kk nn M319) ∧ (¬ r314 = r322 → (kk ≤ 600000 ∧ (nn ≤ 7302250 ∧ q 0 M319)))))))) ∧ (¬ (xs (v3 + 3).toNatClampNeg) = 0 → (kk ≤ 600000 ∧ (nn ≤ 7302250 ∧ K_X12_chair l [rV (some 60), iV (xs (v3 + 1).toNatClampNeg), iV (xs (v3 + 2).toNatClampNeg), iV 1] M311 (fun r329 M326 => ((r314 = r329 → H_L_law_1219 l (some (L, xs)) q v3 kk nn M326) ∧ (¬ r314 = r329 → (kk ≤ 600000 ∧ (nn ≤ 7302250 ∧ q 0 M326))))))))))))))))))))) : H_L_law_816 l (some (L, xs)) q v3 kk nn M := by
  refine e_aload_n dL_law_816 rfl rfl ?_
  refine e_aload_n dL_law_817 rfl rfl ?_
  refine e_iload_n dL_law_818 rfl rfl ?_
  refine e_iconst (v := 1) dL_law_819 (by decide) ?_
  refine e_iadd dL_law_820 ?_
  obtain ⟨o285, h⟩ := h
  refine e_sca o285 dL_law_821 ?_
  refine e_aload_n dL_law_822 rfl rfl ?_
  refine e_iload_n dL_law_823 rfl rfl ?_
  refine e_iconst (v := 2) dL_law_824 (by decide) ?_
  refine e_iadd dL_law_825 ?_
  obtain ⟨o286, h⟩ := h
  refine e_sca o286 dL_law_826 ?_
  refine e_aload_n dL_law_827 rfl rfl ?_
  refine e_iload_n dL_law_828 rfl rfl ?_
  refine e_iconst (v := 3) dL_law_829 (by decide) ?_
  refine e_iadd dL_law_830 ?_
  obtain ⟨o287, h⟩ := h
  refine e_sca o287 dL_law_831 ?_
  refine e_if_eq (tgt := 839) dL_law_832 (by decide) (fun c288 => ?_) (fun c288 => ?_)
  · replace h := h.1 c288
    refine e_iconst (v := 0) dL_law_839 (by decide) ?_
    obtain ⟨o290, h⟩ := h
    obtain ⟨o291, h⟩ := h
    refine e_callV (As := [iV (xs (v3 + 1).toNatClampNeg), iV (xs (v3 + 2).toNatClampNeg), iV 0]) (st := []) mt_X11_chair in_X11_chair lkL_90 rfl rfl ⟨by decide, by decide⟩ (Nat.le_of_ble_eq_true rfl) ⟨o290, o291⟩ rfl rfl dL_law_840 (Ctr.mono h (fun v M289 h => ?_))
    obtain ⟨r292, rfl, h⟩ := h
    show E_L_law l (some (L, xs)) q 843 [(0, rV (some 8)), (1, rV (some 16)), (2, rV (some 60)), (3, iV v3)] [iV r292] M289 kk nn
    refine e_aload_n dL_law_843 rfl rfl ?_
    refine e_aload_n dL_law_844 rfl rfl ?_
    refine e_iload_n dL_law_845 rfl rfl ?_
    refine e_iconst (v := 1) dL_law_846 (by decide) ?_
    refine e_iadd dL_law_847 ?_
    obtain ⟨o293, h⟩ := h
    refine e_sca o293 dL_law_848 ?_
    refine e_aload_n dL_law_849 rfl rfl ?_
    refine e_iload_n dL_law_850 rfl rfl ?_
    refine e_iconst (v := 2) dL_law_851 (by decide) ?_
    refine e_iadd dL_law_852 ?_
    obtain ⟨o294, h⟩ := h
    refine e_sca o294 dL_law_853 ?_
    refine e_aload_n dL_law_854 rfl rfl ?_
    refine e_iload_n dL_law_855 rfl rfl ?_
    refine e_iconst (v := 3) dL_law_856 (by decide) ?_
    refine e_iadd dL_law_857 ?_
    obtain ⟨o295, h⟩ := h
    refine e_sca o295 dL_law_858 ?_
    refine e_if_eq (tgt := 866) dL_law_859 (by decide) (fun c296 => ?_) (fun c296 => ?_)
    · replace h := h.1 c296
      refine e_iconst (v := 0) dL_law_866 (by decide) ?_
      obtain ⟨o298, h⟩ := h
      obtain ⟨o299, h⟩ := h
      refine e_callV (As := [iV (xs (v3 + 1).toNatClampNeg), iV (xs (v3 + 2).toNatClampNeg), iV 0]) (st := [iV r292]) mt_X12_chair in_X12_chair lkL_94 rfl rfl ⟨by decide, by decide⟩ (Nat.le_of_ble_eq_true rfl) ⟨o298, o299⟩ rfl rfl dL_law_867 (Ctr.mono h (fun v M297 h => ?_))
      obtain ⟨r300, rfl, h⟩ := h
      show E_L_law l (some (L, xs)) q 870 [(0, rV (some 8)), (1, rV (some 16)), (2, rV (some 60)), (3, iV v3)] [iV r300, iV r292] M297 kk nn
      refine e_ic_eq (tgt := 1219) dL_law_870 (by decide) (fun c301 => ?_) (fun c301 => ?_)
      · replace h := h.1 c301
        exact e_lv (List.forall_mem_cons.mpr ⟨rfl, List.forall_mem_cons.mpr ⟨rfl, List.forall_mem_cons.mpr ⟨rfl, List.forall_mem_cons.mpr ⟨rfl, fun _ h => absurd h List.not_mem_nil⟩⟩⟩⟩) h
      · replace h := h.2 c301
        refine e_iconst (v := 0) dL_law_873 (by decide) ?_
        obtain ⟨o302, h⟩ := h
        obtain ⟨o303, h⟩ := h
        refine e_widen (k' := 600000) (n' := 7302250) o302 o303 ?_
        exact e_iret rfl rb_0 dL_law_874 ⟨_, rfl, h⟩
    · replace h := h.2 c296
      refine e_iconst (v := 1) dL_law_862 (by decide) ?_
      refine e_goto (tgt := 867) dL_law_863 (by decide) ?_
      obtain ⟨o305, h⟩ := h
      obtain ⟨o306, h⟩ := h
      refine e_callV (As := [iV (xs (v3 + 1).toNatClampNeg), iV (xs (v3 + 2).toNatClampNeg), iV 1]) (st := [iV r292]) mt_X12_chair in_X12_chair lkL_94 rfl rfl ⟨by decide, by decide⟩ (Nat.le_of_ble_eq_true rfl) ⟨o305, o306⟩ rfl rfl dL_law_867 (Ctr.mono h (fun v M304 h => ?_))
      obtain ⟨r307, rfl, h⟩ := h
      show E_L_law l (some (L, xs)) q 870 [(0, rV (some 8)), (1, rV (some 16)), (2, rV (some 60)), (3, iV v3)] [iV r307, iV r292] M304 kk nn
      refine e_ic_eq (tgt := 1219) dL_law_870 (by decide) (fun c308 => ?_) (fun c308 => ?_)
      · replace h := h.1 c308
        exact e_lv (List.forall_mem_cons.mpr ⟨rfl, List.forall_mem_cons.mpr ⟨rfl, List.forall_mem_cons.mpr ⟨rfl, List.forall_mem_cons.mpr ⟨rfl, fun _ h => absurd h List.not_mem_nil⟩⟩⟩⟩) h
      · replace h := h.2 c308
        refine e_iconst (v := 0) dL_law_873 (by decide) ?_
        obtain ⟨o309, h⟩ := h
        obtain ⟨o310, h⟩ := h
        refine e_widen (k' := 600000) (n' := 7302250) o309 o310 ?_
        exact e_iret rfl rb_0 dL_law_874 ⟨_, rfl, h⟩
  · replace h := h.2 c288
    refine e_iconst (v := 1) dL_law_835 (by decide) ?_
    refine e_goto (tgt := 840) dL_law_836 (by decide) ?_
    obtain ⟨o312, h⟩ := h
    obtain ⟨o313, h⟩ := h
    refine e_callV (As := [iV (xs (v3 + 1).toNatClampNeg), iV (xs (v3 + 2).toNatClampNeg), iV 1]) (st := []) mt_X11_chair in_X11_chair lkL_90 rfl rfl ⟨by decide, by decide⟩ (Nat.le_of_ble_eq_true rfl) ⟨o312, o313⟩ rfl rfl dL_law_840 (Ctr.mono h (fun v M311 h => ?_))
    obtain ⟨r314, rfl, h⟩ := h
    show E_L_law l (some (L, xs)) q 843 [(0, rV (some 8)), (1, rV (some 16)), (2, rV (some 60)), (3, iV v3)] [iV r314] M311 kk nn
    refine e_aload_n dL_law_843 rfl rfl ?_
    refine e_aload_n dL_law_844 rfl rfl ?_
    refine e_iload_n dL_law_845 rfl rfl ?_
    refine e_iconst (v := 1) dL_law_846 (by decide) ?_
    refine e_iadd dL_law_847 ?_
    obtain ⟨o315, h⟩ := h
    refine e_sca o315 dL_law_848 ?_
    refine e_aload_n dL_law_849 rfl rfl ?_
    refine e_iload_n dL_law_850 rfl rfl ?_
    refine e_iconst (v := 2) dL_law_851 (by decide) ?_
    refine e_iadd dL_law_852 ?_
    obtain ⟨o316, h⟩ := h
    refine e_sca o316 dL_law_853 ?_
    refine e_aload_n dL_law_854 rfl rfl ?_
    refine e_iload_n dL_law_855 rfl rfl ?_
    refine e_iconst (v := 3) dL_law_856 (by decide) ?_
    refine e_iadd dL_law_857 ?_
    obtain ⟨o317, h⟩ := h
    refine e_sca o317 dL_law_858 ?_
    refine e_if_eq (tgt := 866) dL_law_859 (by decide) (fun c318 => ?_) (fun c318 => ?_)
    · replace h := h.1 c318
      refine e_iconst (v := 0) dL_law_866 (by decide) ?_
      obtain ⟨o320, h⟩ := h
      obtain ⟨o321, h⟩ := h
      refine e_callV (As := [iV (xs (v3 + 1).toNatClampNeg), iV (xs (v3 + 2).toNatClampNeg), iV 0]) (st := [iV r314]) mt_X12_chair in_X12_chair lkL_94 rfl rfl ⟨by decide, by decide⟩ (Nat.le_of_ble_eq_true rfl) ⟨o320, o321⟩ rfl rfl dL_law_867 (Ctr.mono h (fun v M319 h => ?_))
      obtain ⟨r322, rfl, h⟩ := h
      show E_L_law l (some (L, xs)) q 870 [(0, rV (some 8)), (1, rV (some 16)), (2, rV (some 60)), (3, iV v3)] [iV r322, iV r314] M319 kk nn
      refine e_ic_eq (tgt := 1219) dL_law_870 (by decide) (fun c323 => ?_) (fun c323 => ?_)
      · replace h := h.1 c323
        exact e_lv (List.forall_mem_cons.mpr ⟨rfl, List.forall_mem_cons.mpr ⟨rfl, List.forall_mem_cons.mpr ⟨rfl, List.forall_mem_cons.mpr ⟨rfl, fun _ h => absurd h List.not_mem_nil⟩⟩⟩⟩) h
      · replace h := h.2 c323
        refine e_iconst (v := 0) dL_law_873 (by decide) ?_
        obtain ⟨o324, h⟩ := h
        obtain ⟨o325, h⟩ := h
        refine e_widen (k' := 600000) (n' := 7302250) o324 o325 ?_
        exact e_iret rfl rb_0 dL_law_874 ⟨_, rfl, h⟩
    · replace h := h.2 c318
      refine e_iconst (v := 1) dL_law_862 (by decide) ?_
      refine e_goto (tgt := 867) dL_law_863 (by decide) ?_
      obtain ⟨o327, h⟩ := h
      obtain ⟨o328, h⟩ := h
      refine e_callV (As := [iV (xs (v3 + 1).toNatClampNeg), iV (xs (v3 + 2).toNatClampNeg), iV 1]) (st := [iV r314]) mt_X12_chair in_X12_chair lkL_94 rfl rfl ⟨by decide, by decide⟩ (Nat.le_of_ble_eq_true rfl) ⟨o327, o328⟩ rfl rfl dL_law_867 (Ctr.mono h (fun v M326 h => ?_))
      obtain ⟨r329, rfl, h⟩ := h
      show E_L_law l (some (L, xs)) q 870 [(0, rV (some 8)), (1, rV (some 16)), (2, rV (some 60)), (3, iV v3)] [iV r329, iV r314] M326 kk nn
      refine e_ic_eq (tgt := 1219) dL_law_870 (by decide) (fun c330 => ?_) (fun c330 => ?_)
      · replace h := h.1 c330
        exact e_lv (List.forall_mem_cons.mpr ⟨rfl, List.forall_mem_cons.mpr ⟨rfl, List.forall_mem_cons.mpr ⟨rfl, List.forall_mem_cons.mpr ⟨rfl, fun _ h => absurd h List.not_mem_nil⟩⟩⟩⟩) h
      · replace h := h.2 c330
        refine e_iconst (v := 0) dL_law_873 (by decide) ?_
        obtain ⟨o331, h⟩ := h
        obtain ⟨o332, h⟩ := h
        refine e_widen (k' := 600000) (n' := 7302250) o331 o332 ?_
        exact e_iret rfl rb_0 dL_law_874 ⟨_, rfl, h⟩
theorem w_L_law_875 (l : Launch) (L : Nat) (xs : Nat → Int32) (q : Int32 → o_M → Prop) (v3 : Int32) (kk : Nat) (nn : Nat) (M : o_M) (h : (vp_in (v3 + 1) L ∧ (kk ≤ 600000 ∧ (nn ≤ 7302250 ∧ K_X11_seat l [rV (some 16), iV (xs (v3 + 1).toNatClampNeg)] M (fun r337 M334 => (vp_in (v3 + 1) L ∧ (kk ≤ 600000 ∧ (nn ≤ 7302250 ∧ K_X12_seat l [rV (some 60), iV (xs (v3 + 1).toNatClampNeg)] M334 (fun r342 M339 => ((r337 = r342 → H_L_law_1219 l (some (L, xs)) q v3 kk nn M339) ∧ (¬ r337 = r342 → (kk ≤ 600000 ∧ (nn ≤ 7302250 ∧ q 0 M339))))))))))))) : H_L_law_875 l (some (L, xs)) q v3 kk nn M := by
  refine e_aload_n dL_law_875 rfl rfl ?_
  refine e_aload_n dL_law_876 rfl rfl ?_
  refine e_iload_n dL_law_877 rfl rfl ?_
  refine e_iconst (v := 1) dL_law_878 (by decide) ?_
  refine e_iadd dL_law_879 ?_
  obtain ⟨o333, h⟩ := h
  refine e_sca o333 dL_law_880 ?_
  obtain ⟨o335, h⟩ := h
  obtain ⟨o336, h⟩ := h
  refine e_callV (As := [iV (xs (v3 + 1).toNatClampNeg)]) (st := []) mt_X11_seat in_X11_seat lkL_95 rfl rfl ⟨by decide, by decide⟩ (Nat.le_of_ble_eq_true rfl) ⟨o335, o336⟩ rfl rfl dL_law_881 (Ctr.mono h (fun v M334 h => ?_))
  obtain ⟨r337, rfl, h⟩ := h
  show E_L_law l (some (L, xs)) q 884 [(0, rV (some 8)), (1, rV (some 16)), (2, rV (some 60)), (3, iV v3)] [iV r337] M334 kk nn
  refine e_aload_n dL_law_884 rfl rfl ?_
  refine e_aload_n dL_law_885 rfl rfl ?_
  refine e_iload_n dL_law_886 rfl rfl ?_
  refine e_iconst (v := 1) dL_law_887 (by decide) ?_
  refine e_iadd dL_law_888 ?_
  obtain ⟨o338, h⟩ := h
  refine e_sca o338 dL_law_889 ?_
  obtain ⟨o340, h⟩ := h
  obtain ⟨o341, h⟩ := h
  refine e_callV (As := [iV (xs (v3 + 1).toNatClampNeg)]) (st := [iV r337]) mt_X12_seat in_X12_seat lkL_98 rfl rfl ⟨by decide, by decide⟩ (Nat.le_of_ble_eq_true rfl) ⟨o340, o341⟩ rfl rfl dL_law_890 (Ctr.mono h (fun v M339 h => ?_))
  obtain ⟨r342, rfl, h⟩ := h
  show E_L_law l (some (L, xs)) q 893 [(0, rV (some 8)), (1, rV (some 16)), (2, rV (some 60)), (3, iV v3)] [iV r342, iV r337] M339 kk nn
  refine e_ic_eq (tgt := 1219) dL_law_893 (by decide) (fun c343 => ?_) (fun c343 => ?_)
  · replace h := h.1 c343
    exact e_lv (List.forall_mem_cons.mpr ⟨rfl, List.forall_mem_cons.mpr ⟨rfl, List.forall_mem_cons.mpr ⟨rfl, List.forall_mem_cons.mpr ⟨rfl, fun _ h => absurd h List.not_mem_nil⟩⟩⟩⟩) h
  · replace h := h.2 c343
    refine e_iconst (v := 0) dL_law_896 (by decide) ?_
    obtain ⟨o344, h⟩ := h
    obtain ⟨o345, h⟩ := h
    refine e_widen (k' := 600000) (n' := 7302250) o344 o345 ?_
    exact e_iret rfl rb_0 dL_law_897 ⟨_, rfl, h⟩
theorem w_L_law_898 (l : Launch) (L : Nat) (xs : Nat → Int32) (q : Int32 → o_M → Prop) (v3 : Int32) (kk : Nat) (nn : Nat) (M : o_M) (h : (vp_in (v3 + 1) L ∧ (kk ≤ 600000 ∧ (nn ≤ 7302250 ∧ K_X11_rise l [rV (some 16), iV (xs (v3 + 1).toNatClampNeg)] M (fun r350 M347 => (vp_in (v3 + 1) L ∧ (kk ≤ 600000 ∧ (nn ≤ 7302250 ∧ K_X12_rise l [rV (some 60), iV (xs (v3 + 1).toNatClampNeg)] M347 (fun r355 M352 => ((r350 = r355 → H_L_law_1219 l (some (L, xs)) q v3 kk nn M352) ∧ (¬ r350 = r355 → (kk ≤ 600000 ∧ (nn ≤ 7302250 ∧ q 0 M352))))))))))))) : H_L_law_898 l (some (L, xs)) q v3 kk nn M := by
  refine e_aload_n dL_law_898 rfl rfl ?_
  refine e_aload_n dL_law_899 rfl rfl ?_
  refine e_iload_n dL_law_900 rfl rfl ?_
  refine e_iconst (v := 1) dL_law_901 (by decide) ?_
  refine e_iadd dL_law_902 ?_
  obtain ⟨o346, h⟩ := h
  refine e_sca o346 dL_law_903 ?_
  obtain ⟨o348, h⟩ := h
  obtain ⟨o349, h⟩ := h
  refine e_callV (As := [iV (xs (v3 + 1).toNatClampNeg)]) (st := []) mt_X11_rise in_X11_rise lkL_99 rfl rfl ⟨by decide, by decide⟩ (Nat.le_of_ble_eq_true rfl) ⟨o348, o349⟩ rfl rfl dL_law_904 (Ctr.mono h (fun v M347 h => ?_))
  obtain ⟨r350, rfl, h⟩ := h
  show E_L_law l (some (L, xs)) q 907 [(0, rV (some 8)), (1, rV (some 16)), (2, rV (some 60)), (3, iV v3)] [iV r350] M347 kk nn
  refine e_aload_n dL_law_907 rfl rfl ?_
  refine e_aload_n dL_law_908 rfl rfl ?_
  refine e_iload_n dL_law_909 rfl rfl ?_
  refine e_iconst (v := 1) dL_law_910 (by decide) ?_
  refine e_iadd dL_law_911 ?_
  obtain ⟨o351, h⟩ := h
  refine e_sca o351 dL_law_912 ?_
  obtain ⟨o353, h⟩ := h
  obtain ⟨o354, h⟩ := h
  refine e_callV (As := [iV (xs (v3 + 1).toNatClampNeg)]) (st := [iV r350]) mt_X12_rise in_X12_rise lkL_102 rfl rfl ⟨by decide, by decide⟩ (Nat.le_of_ble_eq_true rfl) ⟨o353, o354⟩ rfl rfl dL_law_913 (Ctr.mono h (fun v M352 h => ?_))
  obtain ⟨r355, rfl, h⟩ := h
  show E_L_law l (some (L, xs)) q 916 [(0, rV (some 8)), (1, rV (some 16)), (2, rV (some 60)), (3, iV v3)] [iV r355, iV r350] M352 kk nn
  refine e_ic_eq (tgt := 1219) dL_law_916 (by decide) (fun c356 => ?_) (fun c356 => ?_)
  · replace h := h.1 c356
    exact e_lv (List.forall_mem_cons.mpr ⟨rfl, List.forall_mem_cons.mpr ⟨rfl, List.forall_mem_cons.mpr ⟨rfl, List.forall_mem_cons.mpr ⟨rfl, fun _ h => absurd h List.not_mem_nil⟩⟩⟩⟩) h
  · replace h := h.2 c356
    refine e_iconst (v := 0) dL_law_919 (by decide) ?_
    obtain ⟨o357, h⟩ := h
    obtain ⟨o358, h⟩ := h
    refine e_widen (k' := 600000) (n' := 7302250) o357 o358 ?_
    exact e_iret rfl rb_0 dL_law_920 ⟨_, rfl, h⟩
theorem w_L_law_921 (l : Launch) (L : Nat) (xs : Nat → Int32) (q : Int32 → o_M → Prop) (v3 : Int32) (kk : Nat) (nn : Nat) (M : o_M) (h : (vp_in (v3 + 1) L ∧ (vp_in (v3 + 2) L ∧ (vp_in (v3 + 3) L ∧ (vp_in (v3 + 4) L ∧ (kk ≤ 600000 ∧ (nn ≤ 7302250 ∧ K_X11_due l [rV (some 16), iV (xs (v3 + 1).toNatClampNeg), iV (xs (v3 + 2).toNatClampNeg), iV (xs (v3 + 3).toNatClampNeg), iV (xs (v3 + 4).toNatClampNeg)] M (fun r366 M363 => (vp_in (v3 + 1) L ∧ (vp_in (v3 + 2) L ∧ (vp_in (v3 + 3) L ∧ (vp_in (v3 + 4) L ∧ (kk ≤ 600000 ∧ (nn ≤ 7302250 ∧ K_X12_due l [rV (some 60), iV (xs (v3 + 1).toNatClampNeg), iV (xs (v3 + 2).toNatClampNeg), iV (xs (v3 + 3).toNatClampNeg), iV (xs (v3 + 4).toNatClampNeg)] M363 (fun r374 M371 => (((lg_cmp r366 r374) = 0 → H_L_law_1219 l (some (L, xs)) q v3 kk nn M371) ∧ (¬ (lg_cmp r366 r374) = 0 → (kk ≤ 600000 ∧ (nn ≤ 7302250 ∧ q 0 M371))))))))))))))))))) : H_L_law_921 l (some (L, xs)) q v3 kk nn M := by
  refine e_aload_n dL_law_921 rfl rfl ?_
  refine e_aload_n dL_law_922 rfl rfl ?_
  refine e_iload_n dL_law_923 rfl rfl ?_
  refine e_iconst (v := 1) dL_law_924 (by decide) ?_
  refine e_iadd dL_law_925 ?_
  obtain ⟨o359, h⟩ := h
  refine e_sca o359 dL_law_926 ?_
  refine e_aload_n dL_law_927 rfl rfl ?_
  refine e_iload_n dL_law_928 rfl rfl ?_
  refine e_iconst (v := 2) dL_law_929 (by decide) ?_
  refine e_iadd dL_law_930 ?_
  obtain ⟨o360, h⟩ := h
  refine e_sca o360 dL_law_931 ?_
  refine e_aload_n dL_law_932 rfl rfl ?_
  refine e_iload_n dL_law_933 rfl rfl ?_
  refine e_iconst (v := 3) dL_law_934 (by decide) ?_
  refine e_iadd dL_law_935 ?_
  obtain ⟨o361, h⟩ := h
  refine e_sca o361 dL_law_936 ?_
  refine e_aload_n dL_law_937 rfl rfl ?_
  refine e_iload_n dL_law_938 rfl rfl ?_
  refine e_iconst (v := 4) dL_law_939 (by decide) ?_
  refine e_iadd dL_law_940 ?_
  obtain ⟨o362, h⟩ := h
  refine e_sca o362 dL_law_941 ?_
  obtain ⟨o364, h⟩ := h
  obtain ⟨o365, h⟩ := h
  refine e_callV (As := [iV (xs (v3 + 1).toNatClampNeg), iV (xs (v3 + 2).toNatClampNeg), iV (xs (v3 + 3).toNatClampNeg), iV (xs (v3 + 4).toNatClampNeg)]) (st := []) mt_X11_due in_X11_due lkL_103 rfl rfl ⟨by decide, by decide⟩ (Nat.le_of_ble_eq_true rfl) ⟨o364, o365⟩ rfl rfl dL_law_942 (Ctr.mono h (fun v M363 h => ?_))
  obtain ⟨r366, rfl, h⟩ := h
  show E_L_law l (some (L, xs)) q 945 [(0, rV (some 8)), (1, rV (some 16)), (2, rV (some 60)), (3, iV v3)] [jV r366] M363 kk nn
  refine e_aload_n dL_law_945 rfl rfl ?_
  refine e_aload_n dL_law_946 rfl rfl ?_
  refine e_iload_n dL_law_947 rfl rfl ?_
  refine e_iconst (v := 1) dL_law_948 (by decide) ?_
  refine e_iadd dL_law_949 ?_
  obtain ⟨o367, h⟩ := h
  refine e_sca o367 dL_law_950 ?_
  refine e_aload_n dL_law_951 rfl rfl ?_
  refine e_iload_n dL_law_952 rfl rfl ?_
  refine e_iconst (v := 2) dL_law_953 (by decide) ?_
  refine e_iadd dL_law_954 ?_
  obtain ⟨o368, h⟩ := h
  refine e_sca o368 dL_law_955 ?_
  refine e_aload_n dL_law_956 rfl rfl ?_
  refine e_iload_n dL_law_957 rfl rfl ?_
  refine e_iconst (v := 3) dL_law_958 (by decide) ?_
  refine e_iadd dL_law_959 ?_
  obtain ⟨o369, h⟩ := h
  refine e_sca o369 dL_law_960 ?_
  refine e_aload_n dL_law_961 rfl rfl ?_
  refine e_iload_n dL_law_962 rfl rfl ?_
  refine e_iconst (v := 4) dL_law_963 (by decide) ?_
  refine e_iadd dL_law_964 ?_
  obtain ⟨o370, h⟩ := h
  refine e_sca o370 dL_law_965 ?_
  obtain ⟨o372, h⟩ := h
  obtain ⟨o373, h⟩ := h
  refine e_callV (As := [iV (xs (v3 + 1).toNatClampNeg), iV (xs (v3 + 2).toNatClampNeg), iV (xs (v3 + 3).toNatClampNeg), iV (xs (v3 + 4).toNatClampNeg)]) (st := [jV r366]) mt_X12_due in_X12_due lkL_106 rfl rfl ⟨by decide, by decide⟩ (Nat.le_of_ble_eq_true rfl) ⟨o372, o373⟩ rfl rfl dL_law_966 (Ctr.mono h (fun v M371 h => ?_))
  obtain ⟨r374, rfl, h⟩ := h
  show E_L_law l (some (L, xs)) q 969 [(0, rV (some 8)), (1, rV (some 16)), (2, rV (some 60)), (3, iV v3)] [jV r374, jV r366] M371 kk nn
  refine e_lcmp dL_law_969 ?_
  refine e_if_eq (tgt := 1219) dL_law_970 (by decide) (fun c375 => ?_) (fun c375 => ?_)
  · replace h := h.1 c375
    exact e_lv (List.forall_mem_cons.mpr ⟨rfl, List.forall_mem_cons.mpr ⟨rfl, List.forall_mem_cons.mpr ⟨rfl, List.forall_mem_cons.mpr ⟨rfl, fun _ h => absurd h List.not_mem_nil⟩⟩⟩⟩) h
  · replace h := h.2 c375
    refine e_iconst (v := 0) dL_law_973 (by decide) ?_
    obtain ⟨o376, h⟩ := h
    obtain ⟨o377, h⟩ := h
    refine e_widen (k' := 600000) (n' := 7302250) o376 o377 ?_
    exact e_iret rfl rb_0 dL_law_974 ⟨_, rfl, h⟩
theorem w_L_law_975 (l : Launch) (L : Nat) (xs : Nat → Int32) (q : Int32 → o_M → Prop) (v3 : Int32) (kk : Nat) (nn : Nat) (M : o_M) (h : (vp_in (v3 + 1) L ∧ (kk ≤ 600000 ∧ (nn ≤ 7302250 ∧ K_X11_waits l [rV (some 16), iV (xs (v3 + 1).toNatClampNeg)] M (fun r382 M379 => (vp_in (v3 + 1) L ∧ (kk ≤ 600000 ∧ (nn ≤ 7302250 ∧ K_X12_waits l [rV (some 60), iV (xs (v3 + 1).toNatClampNeg)] M379 (fun r387 M384 => ((r382 = r387 → H_L_law_1219 l (some (L, xs)) q v3 kk nn M384) ∧ (¬ r382 = r387 → (kk ≤ 600000 ∧ (nn ≤ 7302250 ∧ q 0 M384))))))))))))) : H_L_law_975 l (some (L, xs)) q v3 kk nn M := by
  refine e_aload_n dL_law_975 rfl rfl ?_
  refine e_aload_n dL_law_976 rfl rfl ?_
  refine e_iload_n dL_law_977 rfl rfl ?_
  refine e_iconst (v := 1) dL_law_978 (by decide) ?_
  refine e_iadd dL_law_979 ?_
  obtain ⟨o378, h⟩ := h
  refine e_sca o378 dL_law_980 ?_
  obtain ⟨o380, h⟩ := h
  obtain ⟨o381, h⟩ := h
  refine e_callV (As := [iV (xs (v3 + 1).toNatClampNeg)]) (st := []) mt_X11_waits in_X11_waits lkL_107 rfl rfl ⟨by decide, by decide⟩ (Nat.le_of_ble_eq_true rfl) ⟨o380, o381⟩ rfl rfl dL_law_981 (Ctr.mono h (fun v M379 h => ?_))
  obtain ⟨r382, rfl, h⟩ := h
  show E_L_law l (some (L, xs)) q 984 [(0, rV (some 8)), (1, rV (some 16)), (2, rV (some 60)), (3, iV v3)] [iV r382] M379 kk nn
  refine e_aload_n dL_law_984 rfl rfl ?_
  refine e_aload_n dL_law_985 rfl rfl ?_
  refine e_iload_n dL_law_986 rfl rfl ?_
  refine e_iconst (v := 1) dL_law_987 (by decide) ?_
  refine e_iadd dL_law_988 ?_
  obtain ⟨o383, h⟩ := h
  refine e_sca o383 dL_law_989 ?_
  obtain ⟨o385, h⟩ := h
  obtain ⟨o386, h⟩ := h
  refine e_callV (As := [iV (xs (v3 + 1).toNatClampNeg)]) (st := [iV r382]) mt_X12_waits in_X12_waits lkL_110 rfl rfl ⟨by decide, by decide⟩ (Nat.le_of_ble_eq_true rfl) ⟨o385, o386⟩ rfl rfl dL_law_990 (Ctr.mono h (fun v M384 h => ?_))
  obtain ⟨r387, rfl, h⟩ := h
  show E_L_law l (some (L, xs)) q 993 [(0, rV (some 8)), (1, rV (some 16)), (2, rV (some 60)), (3, iV v3)] [iV r387, iV r382] M384 kk nn
  refine e_ic_eq (tgt := 1219) dL_law_993 (by decide) (fun c388 => ?_) (fun c388 => ?_)
  · replace h := h.1 c388
    exact e_lv (List.forall_mem_cons.mpr ⟨rfl, List.forall_mem_cons.mpr ⟨rfl, List.forall_mem_cons.mpr ⟨rfl, List.forall_mem_cons.mpr ⟨rfl, fun _ h => absurd h List.not_mem_nil⟩⟩⟩⟩) h
  · replace h := h.2 c388
    refine e_iconst (v := 0) dL_law_996 (by decide) ?_
    obtain ⟨o389, h⟩ := h
    obtain ⟨o390, h⟩ := h
    refine e_widen (k' := 600000) (n' := 7302250) o389 o390 ?_
    exact e_iret rfl rb_0 dL_law_997 ⟨_, rfl, h⟩
theorem w_L_law_998 (l : Launch) (L : Nat) (xs : Nat → Int32) (q : Int32 → o_M → Prop) (v3 : Int32) (kk : Nat) (nn : Nat) (M : o_M) (h : (vp_in (v3 + 1) L ∧ (vp_in (v3 + 2) L ∧ (kk ≤ 600000 ∧ (nn ≤ 7302250 ∧ K_X11_order l [rV (some 16), iV (xs (v3 + 1).toNatClampNeg), iV (xs (v3 + 2).toNatClampNeg)] M (fun r396 M393 => (vp_in (v3 + 1) L ∧ (vp_in (v3 + 2) L ∧ (kk ≤ 600000 ∧ (nn ≤ 7302250 ∧ K_X12_order l [rV (some 60), iV (xs (v3 + 1).toNatClampNeg), iV (xs (v3 + 2).toNatClampNeg)] M393 (fun r402 M399 => ((r396 = r402 → H_L_law_1219 l (some (L, xs)) q v3 kk nn M399) ∧ (¬ r396 = r402 → (kk ≤ 600000 ∧ (nn ≤ 7302250 ∧ q 0 M399))))))))))))))) : H_L_law_998 l (some (L, xs)) q v3 kk nn M := by
  refine e_aload_n dL_law_998 rfl rfl ?_
  refine e_aload_n dL_law_999 rfl rfl ?_
  refine e_iload_n dL_law_1000 rfl rfl ?_
  refine e_iconst (v := 1) dL_law_1001 (by decide) ?_
  refine e_iadd dL_law_1002 ?_
  obtain ⟨o391, h⟩ := h
  refine e_sca o391 dL_law_1003 ?_
  refine e_aload_n dL_law_1004 rfl rfl ?_
  refine e_iload_n dL_law_1005 rfl rfl ?_
  refine e_iconst (v := 2) dL_law_1006 (by decide) ?_
  refine e_iadd dL_law_1007 ?_
  obtain ⟨o392, h⟩ := h
  refine e_sca o392 dL_law_1008 ?_
  obtain ⟨o394, h⟩ := h
  obtain ⟨o395, h⟩ := h
  refine e_callV (As := [iV (xs (v3 + 1).toNatClampNeg), iV (xs (v3 + 2).toNatClampNeg)]) (st := []) mt_X11_order in_X11_order lkL_111 rfl rfl ⟨by decide, by decide⟩ (Nat.le_of_ble_eq_true rfl) ⟨o394, o395⟩ rfl rfl dL_law_1009 (Ctr.mono h (fun v M393 h => ?_))
  obtain ⟨r396, rfl, h⟩ := h
  show E_L_law l (some (L, xs)) q 1012 [(0, rV (some 8)), (1, rV (some 16)), (2, rV (some 60)), (3, iV v3)] [iV r396] M393 kk nn
  refine e_aload_n dL_law_1012 rfl rfl ?_
  refine e_aload_n dL_law_1013 rfl rfl ?_
  refine e_iload_n dL_law_1014 rfl rfl ?_
  refine e_iconst (v := 1) dL_law_1015 (by decide) ?_
  refine e_iadd dL_law_1016 ?_
  obtain ⟨o397, h⟩ := h
  refine e_sca o397 dL_law_1017 ?_
  refine e_aload_n dL_law_1018 rfl rfl ?_
  refine e_iload_n dL_law_1019 rfl rfl ?_
  refine e_iconst (v := 2) dL_law_1020 (by decide) ?_
  refine e_iadd dL_law_1021 ?_
  obtain ⟨o398, h⟩ := h
  refine e_sca o398 dL_law_1022 ?_
  obtain ⟨o400, h⟩ := h
  obtain ⟨o401, h⟩ := h
  refine e_callV (As := [iV (xs (v3 + 1).toNatClampNeg), iV (xs (v3 + 2).toNatClampNeg)]) (st := [iV r396]) mt_X12_order in_X12_order lkL_114 rfl rfl ⟨by decide, by decide⟩ (Nat.le_of_ble_eq_true rfl) ⟨o400, o401⟩ rfl rfl dL_law_1023 (Ctr.mono h (fun v M399 h => ?_))
  obtain ⟨r402, rfl, h⟩ := h
  show E_L_law l (some (L, xs)) q 1026 [(0, rV (some 8)), (1, rV (some 16)), (2, rV (some 60)), (3, iV v3)] [iV r402, iV r396] M399 kk nn
  refine e_ic_eq (tgt := 1219) dL_law_1026 (by decide) (fun c403 => ?_) (fun c403 => ?_)
  · replace h := h.1 c403
    exact e_lv (List.forall_mem_cons.mpr ⟨rfl, List.forall_mem_cons.mpr ⟨rfl, List.forall_mem_cons.mpr ⟨rfl, List.forall_mem_cons.mpr ⟨rfl, fun _ h => absurd h List.not_mem_nil⟩⟩⟩⟩) h
  · replace h := h.2 c403
    refine e_iconst (v := 0) dL_law_1029 (by decide) ?_
    obtain ⟨o404, h⟩ := h
    obtain ⟨o405, h⟩ := h
    refine e_widen (k' := 600000) (n' := 7302250) o404 o405 ?_
    exact e_iret rfl rb_0 dL_law_1030 ⟨_, rfl, h⟩
theorem w_L_law_1031 (l : Launch) (L : Nat) (xs : Nat → Int32) (q : Int32 → o_M → Prop) (v3 : Int32) (kk : Nat) (nn : Nat) (M : o_M) (h : (vp_in (v3 + 1) L ∧ (vp_in (v3 + 2) L ∧ (vp_in (v3 + 3) L ∧ (kk ≤ 600000 ∧ (nn ≤ 7302250 ∧ K_X11_programme l [rV (some 16), iV (xs (v3 + 1).toNatClampNeg), iV (xs (v3 + 2).toNatClampNeg), iV (xs (v3 + 3).toNatClampNeg)] M (fun r412 M409 => (vp_in (v3 + 1) L ∧ (vp_in (v3 + 2) L ∧ (vp_in (v3 + 3) L ∧ (kk ≤ 600000 ∧ (nn ≤ 7302250 ∧ K_X12_programme l [rV (some 60), iV (xs (v3 + 1).toNatClampNeg), iV (xs (v3 + 2).toNatClampNeg), iV (xs (v3 + 3).toNatClampNeg)] M409 (fun r419 M416 => ((r412 = r419 → H_L_law_1219 l (some (L, xs)) q v3 kk nn M416) ∧ (¬ r412 = r419 → (kk ≤ 600000 ∧ (nn ≤ 7302250 ∧ q 0 M416))))))))))))))))) : H_L_law_1031 l (some (L, xs)) q v3 kk nn M := by
  refine e_aload_n dL_law_1031 rfl rfl ?_
  refine e_aload_n dL_law_1032 rfl rfl ?_
  refine e_iload_n dL_law_1033 rfl rfl ?_
  refine e_iconst (v := 1) dL_law_1034 (by decide) ?_
  refine e_iadd dL_law_1035 ?_
  obtain ⟨o406, h⟩ := h
  refine e_sca o406 dL_law_1036 ?_
  refine e_aload_n dL_law_1037 rfl rfl ?_
  refine e_iload_n dL_law_1038 rfl rfl ?_
  refine e_iconst (v := 2) dL_law_1039 (by decide) ?_
  refine e_iadd dL_law_1040 ?_
  obtain ⟨o407, h⟩ := h
  refine e_sca o407 dL_law_1041 ?_
  refine e_aload_n dL_law_1042 rfl rfl ?_
  refine e_iload_n dL_law_1043 rfl rfl ?_
  refine e_iconst (v := 3) dL_law_1044 (by decide) ?_
  refine e_iadd dL_law_1045 ?_
  obtain ⟨o408, h⟩ := h
  refine e_sca o408 dL_law_1046 ?_
  obtain ⟨o410, h⟩ := h
  obtain ⟨o411, h⟩ := h
  refine e_callV (As := [iV (xs (v3 + 1).toNatClampNeg), iV (xs (v3 + 2).toNatClampNeg), iV (xs (v3 + 3).toNatClampNeg)]) (st := []) mt_X11_programme in_X11_programme lkL_115 rfl rfl ⟨by decide, by decide⟩ (Nat.le_of_ble_eq_true rfl) ⟨o410, o411⟩ rfl rfl dL_law_1047 (Ctr.mono h (fun v M409 h => ?_))
  obtain ⟨r412, rfl, h⟩ := h
  show E_L_law l (some (L, xs)) q 1050 [(0, rV (some 8)), (1, rV (some 16)), (2, rV (some 60)), (3, iV v3)] [iV r412] M409 kk nn
  refine e_aload_n dL_law_1050 rfl rfl ?_
  refine e_aload_n dL_law_1051 rfl rfl ?_
  refine e_iload_n dL_law_1052 rfl rfl ?_
  refine e_iconst (v := 1) dL_law_1053 (by decide) ?_
  refine e_iadd dL_law_1054 ?_
  obtain ⟨o413, h⟩ := h
  refine e_sca o413 dL_law_1055 ?_
  refine e_aload_n dL_law_1056 rfl rfl ?_
  refine e_iload_n dL_law_1057 rfl rfl ?_
  refine e_iconst (v := 2) dL_law_1058 (by decide) ?_
  refine e_iadd dL_law_1059 ?_
  obtain ⟨o414, h⟩ := h
  refine e_sca o414 dL_law_1060 ?_
  refine e_aload_n dL_law_1061 rfl rfl ?_
  refine e_iload_n dL_law_1062 rfl rfl ?_
  refine e_iconst (v := 3) dL_law_1063 (by decide) ?_
  refine e_iadd dL_law_1064 ?_
  obtain ⟨o415, h⟩ := h
  refine e_sca o415 dL_law_1065 ?_
  obtain ⟨o417, h⟩ := h
  obtain ⟨o418, h⟩ := h
  refine e_callV (As := [iV (xs (v3 + 1).toNatClampNeg), iV (xs (v3 + 2).toNatClampNeg), iV (xs (v3 + 3).toNatClampNeg)]) (st := [iV r412]) mt_X12_programme in_X12_programme lkL_118 rfl rfl ⟨by decide, by decide⟩ (Nat.le_of_ble_eq_true rfl) ⟨o417, o418⟩ rfl rfl dL_law_1066 (Ctr.mono h (fun v M416 h => ?_))
  obtain ⟨r419, rfl, h⟩ := h
  show E_L_law l (some (L, xs)) q 1069 [(0, rV (some 8)), (1, rV (some 16)), (2, rV (some 60)), (3, iV v3)] [iV r419, iV r412] M416 kk nn
  refine e_ic_eq (tgt := 1219) dL_law_1069 (by decide) (fun c420 => ?_) (fun c420 => ?_)
  · replace h := h.1 c420
    exact e_lv (List.forall_mem_cons.mpr ⟨rfl, List.forall_mem_cons.mpr ⟨rfl, List.forall_mem_cons.mpr ⟨rfl, List.forall_mem_cons.mpr ⟨rfl, fun _ h => absurd h List.not_mem_nil⟩⟩⟩⟩) h
  · replace h := h.2 c420
    refine e_iconst (v := 0) dL_law_1072 (by decide) ?_
    obtain ⟨o421, h⟩ := h
    obtain ⟨o422, h⟩ := h
    refine e_widen (k' := 600000) (n' := 7302250) o421 o422 ?_
    exact e_iret rfl rb_0 dL_law_1073 ⟨_, rfl, h⟩
theorem w_L_law_1074 (l : Launch) (L : Nat) (xs : Nat → Int32) (q : Int32 → o_M → Prop) (v3 : Int32) (kk : Nat) (nn : Nat) (M : o_M) (h : (vp_in (v3 + 1) L ∧ (kk ≤ 600000 ∧ (nn ≤ 7302250 ∧ K_X11_price l [rV (some 16), iV (xs (v3 + 1).toNatClampNeg)] M (fun r427 M424 => (vp_in (v3 + 1) L ∧ (kk ≤ 600000 ∧ (nn ≤ 7302250 ∧ K_X12_price l [rV (some 60), iV (xs (v3 + 1).toNatClampNeg)] M424 (fun r432 M429 => ((r427 = r432 → H_L_law_1219 l (some (L, xs)) q v3 kk nn M429) ∧ (¬ r427 = r432 → (kk ≤ 600000 ∧ (nn ≤ 7302250 ∧ q 0 M429))))))))))))) : H_L_law_1074 l (some (L, xs)) q v3 kk nn M := by
  refine e_aload_n dL_law_1074 rfl rfl ?_
  refine e_aload_n dL_law_1075 rfl rfl ?_
  refine e_iload_n dL_law_1076 rfl rfl ?_
  refine e_iconst (v := 1) dL_law_1077 (by decide) ?_
  refine e_iadd dL_law_1078 ?_
  obtain ⟨o423, h⟩ := h
  refine e_sca o423 dL_law_1079 ?_
  obtain ⟨o425, h⟩ := h
  obtain ⟨o426, h⟩ := h
  refine e_callV (As := [iV (xs (v3 + 1).toNatClampNeg)]) (st := []) mt_X11_price in_X11_price lkL_119 rfl rfl ⟨by decide, by decide⟩ (Nat.le_of_ble_eq_true rfl) ⟨o425, o426⟩ rfl rfl dL_law_1080 (Ctr.mono h (fun v M424 h => ?_))
  obtain ⟨r427, rfl, h⟩ := h
  show E_L_law l (some (L, xs)) q 1083 [(0, rV (some 8)), (1, rV (some 16)), (2, rV (some 60)), (3, iV v3)] [iV r427] M424 kk nn
  refine e_aload_n dL_law_1083 rfl rfl ?_
  refine e_aload_n dL_law_1084 rfl rfl ?_
  refine e_iload_n dL_law_1085 rfl rfl ?_
  refine e_iconst (v := 1) dL_law_1086 (by decide) ?_
  refine e_iadd dL_law_1087 ?_
  obtain ⟨o428, h⟩ := h
  refine e_sca o428 dL_law_1088 ?_
  obtain ⟨o430, h⟩ := h
  obtain ⟨o431, h⟩ := h
  refine e_callV (As := [iV (xs (v3 + 1).toNatClampNeg)]) (st := [iV r427]) mt_X12_price in_X12_price lkL_122 rfl rfl ⟨by decide, by decide⟩ (Nat.le_of_ble_eq_true rfl) ⟨o430, o431⟩ rfl rfl dL_law_1089 (Ctr.mono h (fun v M429 h => ?_))
  obtain ⟨r432, rfl, h⟩ := h
  show E_L_law l (some (L, xs)) q 1092 [(0, rV (some 8)), (1, rV (some 16)), (2, rV (some 60)), (3, iV v3)] [iV r432, iV r427] M429 kk nn
  refine e_ic_eq (tgt := 1219) dL_law_1092 (by decide) (fun c433 => ?_) (fun c433 => ?_)
  · replace h := h.1 c433
    exact e_lv (List.forall_mem_cons.mpr ⟨rfl, List.forall_mem_cons.mpr ⟨rfl, List.forall_mem_cons.mpr ⟨rfl, List.forall_mem_cons.mpr ⟨rfl, fun _ h => absurd h List.not_mem_nil⟩⟩⟩⟩) h
  · replace h := h.2 c433
    refine e_iconst (v := 0) dL_law_1095 (by decide) ?_
    obtain ⟨o434, h⟩ := h
    obtain ⟨o435, h⟩ := h
    refine e_widen (k' := 600000) (n' := 7302250) o434 o435 ?_
    exact e_iret rfl rb_0 dL_law_1096 ⟨_, rfl, h⟩
theorem w_L_law_1097 (l : Launch) (L : Nat) (xs : Nat → Int32) (q : Int32 → o_M → Prop) (v3 : Int32) (kk : Nat) (nn : Nat) (M : o_M) (h : (vp_in (v3 + 1) L ∧ (kk ≤ 600000 ∧ (nn ≤ 7302250 ∧ K_X11_count l [rV (some 16), iV (xs (v3 + 1).toNatClampNeg)] M (fun r440 M437 => (vp_in (v3 + 1) L ∧ (kk ≤ 600000 ∧ (nn ≤ 7302250 ∧ K_X12_count l [rV (some 60), iV (xs (v3 + 1).toNatClampNeg)] M437 (fun r445 M442 => ((r440 = r445 → H_L_law_1219 l (some (L, xs)) q v3 kk nn M442) ∧ (¬ r440 = r445 → (kk ≤ 600000 ∧ (nn ≤ 7302250 ∧ q 0 M442))))))))))))) : H_L_law_1097 l (some (L, xs)) q v3 kk nn M := by
  refine e_aload_n dL_law_1097 rfl rfl ?_
  refine e_aload_n dL_law_1098 rfl rfl ?_
  refine e_iload_n dL_law_1099 rfl rfl ?_
  refine e_iconst (v := 1) dL_law_1100 (by decide) ?_
  refine e_iadd dL_law_1101 ?_
  obtain ⟨o436, h⟩ := h
  refine e_sca o436 dL_law_1102 ?_
  obtain ⟨o438, h⟩ := h
  obtain ⟨o439, h⟩ := h
  refine e_callV (As := [iV (xs (v3 + 1).toNatClampNeg)]) (st := []) mt_X11_count in_X11_count lkL_123 rfl rfl ⟨by decide, by decide⟩ (Nat.le_of_ble_eq_true rfl) ⟨o438, o439⟩ rfl rfl dL_law_1103 (Ctr.mono h (fun v M437 h => ?_))
  obtain ⟨r440, rfl, h⟩ := h
  show E_L_law l (some (L, xs)) q 1106 [(0, rV (some 8)), (1, rV (some 16)), (2, rV (some 60)), (3, iV v3)] [iV r440] M437 kk nn
  refine e_aload_n dL_law_1106 rfl rfl ?_
  refine e_aload_n dL_law_1107 rfl rfl ?_
  refine e_iload_n dL_law_1108 rfl rfl ?_
  refine e_iconst (v := 1) dL_law_1109 (by decide) ?_
  refine e_iadd dL_law_1110 ?_
  obtain ⟨o441, h⟩ := h
  refine e_sca o441 dL_law_1111 ?_
  obtain ⟨o443, h⟩ := h
  obtain ⟨o444, h⟩ := h
  refine e_callV (As := [iV (xs (v3 + 1).toNatClampNeg)]) (st := [iV r440]) mt_X12_count in_X12_count lkL_126 rfl rfl ⟨by decide, by decide⟩ (Nat.le_of_ble_eq_true rfl) ⟨o443, o444⟩ rfl rfl dL_law_1112 (Ctr.mono h (fun v M442 h => ?_))
  obtain ⟨r445, rfl, h⟩ := h
  show E_L_law l (some (L, xs)) q 1115 [(0, rV (some 8)), (1, rV (some 16)), (2, rV (some 60)), (3, iV v3)] [iV r445, iV r440] M442 kk nn
  refine e_ic_eq (tgt := 1219) dL_law_1115 (by decide) (fun c446 => ?_) (fun c446 => ?_)
  · replace h := h.1 c446
    exact e_lv (List.forall_mem_cons.mpr ⟨rfl, List.forall_mem_cons.mpr ⟨rfl, List.forall_mem_cons.mpr ⟨rfl, List.forall_mem_cons.mpr ⟨rfl, fun _ h => absurd h List.not_mem_nil⟩⟩⟩⟩) h
  · replace h := h.2 c446
    refine e_iconst (v := 0) dL_law_1118 (by decide) ?_
    obtain ⟨o447, h⟩ := h
    obtain ⟨o448, h⟩ := h
    refine e_widen (k' := 600000) (n' := 7302250) o447 o448 ?_
    exact e_iret rfl rb_0 dL_law_1119 ⟨_, rfl, h⟩
theorem w_L_law_1120 (l : Launch) (L : Nat) (xs : Nat → Int32) (q : Int32 → o_M → Prop) (v3 : Int32) (kk : Nat) (nn : Nat) (M : o_M) (h : (vp_in (v3 + 1) L ∧ (vp_in (v3 + 2) L ∧ (vp_in (v3 + 3) L ∧ (kk ≤ 600000 ∧ (nn ≤ 7302250 ∧ K_X11_put l [rV (some 16), iV (xs (v3 + 1).toNatClampNeg), iV (xs (v3 + 2).toNatClampNeg), iV (xs (v3 + 3).toNatClampNeg)] M (fun r455 M452 => (vp_in (v3 + 1) L ∧ (vp_in (v3 + 2) L ∧ (vp_in (v3 + 3) L ∧ (kk ≤ 600000 ∧ (nn ≤ 7302250 ∧ K_X12_put l [rV (some 60), iV (xs (v3 + 1).toNatClampNeg), iV (xs (v3 + 2).toNatClampNeg), iV (xs (v3 + 3).toNatClampNeg)] M452 (fun r462 M459 => ((r455 = r462 → H_L_law_1219 l (some (L, xs)) q v3 kk nn M459) ∧ (¬ r455 = r462 → (kk ≤ 600000 ∧ (nn ≤ 7302250 ∧ q 0 M459))))))))))))))))) : H_L_law_1120 l (some (L, xs)) q v3 kk nn M := by
  refine e_aload_n dL_law_1120 rfl rfl ?_
  refine e_aload_n dL_law_1121 rfl rfl ?_
  refine e_iload_n dL_law_1122 rfl rfl ?_
  refine e_iconst (v := 1) dL_law_1123 (by decide) ?_
  refine e_iadd dL_law_1124 ?_
  obtain ⟨o449, h⟩ := h
  refine e_sca o449 dL_law_1125 ?_
  refine e_aload_n dL_law_1126 rfl rfl ?_
  refine e_iload_n dL_law_1127 rfl rfl ?_
  refine e_iconst (v := 2) dL_law_1128 (by decide) ?_
  refine e_iadd dL_law_1129 ?_
  obtain ⟨o450, h⟩ := h
  refine e_sca o450 dL_law_1130 ?_
  refine e_aload_n dL_law_1131 rfl rfl ?_
  refine e_iload_n dL_law_1132 rfl rfl ?_
  refine e_iconst (v := 3) dL_law_1133 (by decide) ?_
  refine e_iadd dL_law_1134 ?_
  obtain ⟨o451, h⟩ := h
  refine e_sca o451 dL_law_1135 ?_
  obtain ⟨o453, h⟩ := h
  obtain ⟨o454, h⟩ := h
  refine e_callV (As := [iV (xs (v3 + 1).toNatClampNeg), iV (xs (v3 + 2).toNatClampNeg), iV (xs (v3 + 3).toNatClampNeg)]) (st := []) mt_X11_put in_X11_put lkL_127 rfl rfl ⟨by decide, by decide⟩ (Nat.le_of_ble_eq_true rfl) ⟨o453, o454⟩ rfl rfl dL_law_1136 (Ctr.mono h (fun v M452 h => ?_))
  obtain ⟨r455, rfl, h⟩ := h
  show E_L_law l (some (L, xs)) q 1139 [(0, rV (some 8)), (1, rV (some 16)), (2, rV (some 60)), (3, iV v3)] [iV r455] M452 kk nn
  refine e_aload_n dL_law_1139 rfl rfl ?_
  refine e_aload_n dL_law_1140 rfl rfl ?_
  refine e_iload_n dL_law_1141 rfl rfl ?_
  refine e_iconst (v := 1) dL_law_1142 (by decide) ?_
  refine e_iadd dL_law_1143 ?_
  obtain ⟨o456, h⟩ := h
  refine e_sca o456 dL_law_1144 ?_
  refine e_aload_n dL_law_1145 rfl rfl ?_
  refine e_iload_n dL_law_1146 rfl rfl ?_
  refine e_iconst (v := 2) dL_law_1147 (by decide) ?_
  refine e_iadd dL_law_1148 ?_
  obtain ⟨o457, h⟩ := h
  refine e_sca o457 dL_law_1149 ?_
  refine e_aload_n dL_law_1150 rfl rfl ?_
  refine e_iload_n dL_law_1151 rfl rfl ?_
  refine e_iconst (v := 3) dL_law_1152 (by decide) ?_
  refine e_iadd dL_law_1153 ?_
  obtain ⟨o458, h⟩ := h
  refine e_sca o458 dL_law_1154 ?_
  obtain ⟨o460, h⟩ := h
  obtain ⟨o461, h⟩ := h
  refine e_callV (As := [iV (xs (v3 + 1).toNatClampNeg), iV (xs (v3 + 2).toNatClampNeg), iV (xs (v3 + 3).toNatClampNeg)]) (st := [iV r455]) mt_X12_put in_X12_put lkL_130 rfl rfl ⟨by decide, by decide⟩ (Nat.le_of_ble_eq_true rfl) ⟨o460, o461⟩ rfl rfl dL_law_1155 (Ctr.mono h (fun v M459 h => ?_))
  obtain ⟨r462, rfl, h⟩ := h
  show E_L_law l (some (L, xs)) q 1158 [(0, rV (some 8)), (1, rV (some 16)), (2, rV (some 60)), (3, iV v3)] [iV r462, iV r455] M459 kk nn
  refine e_ic_eq (tgt := 1219) dL_law_1158 (by decide) (fun c463 => ?_) (fun c463 => ?_)
  · replace h := h.1 c463
    exact e_lv (List.forall_mem_cons.mpr ⟨rfl, List.forall_mem_cons.mpr ⟨rfl, List.forall_mem_cons.mpr ⟨rfl, List.forall_mem_cons.mpr ⟨rfl, fun _ h => absurd h List.not_mem_nil⟩⟩⟩⟩) h
  · replace h := h.2 c463
    refine e_iconst (v := 0) dL_law_1161 (by decide) ?_
    obtain ⟨o464, h⟩ := h
    obtain ⟨o465, h⟩ := h
    refine e_widen (k' := 600000) (n' := 7302250) o464 o465 ?_
    exact e_iret rfl rb_0 dL_law_1162 ⟨_, rfl, h⟩
theorem w_L_law_1163 (l : Launch) (L : Nat) (xs : Nat → Int32) (q : Int32 → o_M → Prop) (v3 : Int32) (kk : Nat) (nn : Nat) (M : o_M) (h : (vp_in (v3 + 1) L ∧ (vp_in (v3 + 2) L ∧ (vp_in (v3 + 3) L ∧ (kk ≤ 600000 ∧ (nn ≤ 7302250 ∧ K_X11_forge l [rV (some 16), iV (xs (v3 + 1).toNatClampNeg), iV (xs (v3 + 2).toNatClampNeg), iV (xs (v3 + 3).toNatClampNeg)] M (fun r472 M469 => (vp_in (v3 + 1) L ∧ (vp_in (v3 + 2) L ∧ (vp_in (v3 + 3) L ∧ (kk ≤ 600000 ∧ (nn ≤ 7302250 ∧ K_X12_forge l [rV (some 60), iV (xs (v3 + 1).toNatClampNeg), iV (xs (v3 + 2).toNatClampNeg), iV (xs (v3 + 3).toNatClampNeg)] M469 (fun r479 M476 => ((r472 = r479 → H_L_law_1219 l (some (L, xs)) q v3 kk nn M476) ∧ (¬ r472 = r479 → (kk ≤ 600000 ∧ (nn ≤ 7302250 ∧ q 0 M476))))))))))))))))) : H_L_law_1163 l (some (L, xs)) q v3 kk nn M := by
  refine e_aload_n dL_law_1163 rfl rfl ?_
  refine e_aload_n dL_law_1164 rfl rfl ?_
  refine e_iload_n dL_law_1165 rfl rfl ?_
  refine e_iconst (v := 1) dL_law_1166 (by decide) ?_
  refine e_iadd dL_law_1167 ?_
  obtain ⟨o466, h⟩ := h
  refine e_sca o466 dL_law_1168 ?_
  refine e_aload_n dL_law_1169 rfl rfl ?_
  refine e_iload_n dL_law_1170 rfl rfl ?_
  refine e_iconst (v := 2) dL_law_1171 (by decide) ?_
  refine e_iadd dL_law_1172 ?_
  obtain ⟨o467, h⟩ := h
  refine e_sca o467 dL_law_1173 ?_
  refine e_aload_n dL_law_1174 rfl rfl ?_
  refine e_iload_n dL_law_1175 rfl rfl ?_
  refine e_iconst (v := 3) dL_law_1176 (by decide) ?_
  refine e_iadd dL_law_1177 ?_
  obtain ⟨o468, h⟩ := h
  refine e_sca o468 dL_law_1178 ?_
  obtain ⟨o470, h⟩ := h
  obtain ⟨o471, h⟩ := h
  refine e_callV (As := [iV (xs (v3 + 1).toNatClampNeg), iV (xs (v3 + 2).toNatClampNeg), iV (xs (v3 + 3).toNatClampNeg)]) (st := []) mt_X11_forge in_X11_forge lkL_131 rfl rfl ⟨by decide, by decide⟩ (Nat.le_of_ble_eq_true rfl) ⟨o470, o471⟩ rfl rfl dL_law_1179 (Ctr.mono h (fun v M469 h => ?_))
  obtain ⟨r472, rfl, h⟩ := h
  show E_L_law l (some (L, xs)) q 1182 [(0, rV (some 8)), (1, rV (some 16)), (2, rV (some 60)), (3, iV v3)] [iV r472] M469 kk nn
  refine e_aload_n dL_law_1182 rfl rfl ?_
  refine e_aload_n dL_law_1183 rfl rfl ?_
  refine e_iload_n dL_law_1184 rfl rfl ?_
  refine e_iconst (v := 1) dL_law_1185 (by decide) ?_
  refine e_iadd dL_law_1186 ?_
  obtain ⟨o473, h⟩ := h
  refine e_sca o473 dL_law_1187 ?_
  refine e_aload_n dL_law_1188 rfl rfl ?_
  refine e_iload_n dL_law_1189 rfl rfl ?_
  refine e_iconst (v := 2) dL_law_1190 (by decide) ?_
  refine e_iadd dL_law_1191 ?_
  obtain ⟨o474, h⟩ := h
  refine e_sca o474 dL_law_1192 ?_
  refine e_aload_n dL_law_1193 rfl rfl ?_
  refine e_iload_n dL_law_1194 rfl rfl ?_
  refine e_iconst (v := 3) dL_law_1195 (by decide) ?_
  refine e_iadd dL_law_1196 ?_
  obtain ⟨o475, h⟩ := h
  refine e_sca o475 dL_law_1197 ?_
  obtain ⟨o477, h⟩ := h
  obtain ⟨o478, h⟩ := h
  refine e_callV (As := [iV (xs (v3 + 1).toNatClampNeg), iV (xs (v3 + 2).toNatClampNeg), iV (xs (v3 + 3).toNatClampNeg)]) (st := [iV r472]) mt_X12_forge in_X12_forge lkL_134 rfl rfl ⟨by decide, by decide⟩ (Nat.le_of_ble_eq_true rfl) ⟨o477, o478⟩ rfl rfl dL_law_1198 (Ctr.mono h (fun v M476 h => ?_))
  obtain ⟨r479, rfl, h⟩ := h
  show E_L_law l (some (L, xs)) q 1201 [(0, rV (some 8)), (1, rV (some 16)), (2, rV (some 60)), (3, iV v3)] [iV r479, iV r472] M476 kk nn
  refine e_ic_eq (tgt := 1219) dL_law_1201 (by decide) (fun c480 => ?_) (fun c480 => ?_)
  · replace h := h.1 c480
    exact e_lv (List.forall_mem_cons.mpr ⟨rfl, List.forall_mem_cons.mpr ⟨rfl, List.forall_mem_cons.mpr ⟨rfl, List.forall_mem_cons.mpr ⟨rfl, fun _ h => absurd h List.not_mem_nil⟩⟩⟩⟩) h
  · replace h := h.2 c480
    refine e_iconst (v := 0) dL_law_1204 (by decide) ?_
    obtain ⟨o481, h⟩ := h
    obtain ⟨o482, h⟩ := h
    refine e_widen (k' := 600000) (n' := 7302250) o481 o482 ?_
    exact e_iret rfl rb_0 dL_law_1205 ⟨_, rfl, h⟩
theorem w_L_law_1206 (l : Launch) (L : Nat) (xs : Nat → Int32) (q : Int32 → o_M → Prop) (v3 : Int32) (kk : Nat) (nn : Nat) (M : o_M) (h : (kk ≤ 600000 ∧ (nn ≤ 7302250 ∧ K_X11_status l [rV (some 16)] M (fun r486 M483 => (kk ≤ 600000 ∧ (nn ≤ 7302250 ∧ K_X12_status l [rV (some 60)] M483 (fun r490 M487 => ((r486 = r490 → H_L_law_1219 l (some (L, xs)) q v3 kk nn M487) ∧ (¬ r486 = r490 → (kk ≤ 600000 ∧ (nn ≤ 7302250 ∧ q 0 M487))))))))))) : H_L_law_1206 l (some (L, xs)) q v3 kk nn M := by
  refine e_aload_n dL_law_1206 rfl rfl ?_
  obtain ⟨o484, h⟩ := h
  obtain ⟨o485, h⟩ := h
  refine e_callV (As := []) (st := []) mt_X11_status in_X11_status lkL_135 rfl rfl ⟨by decide, by decide⟩ (Nat.le_of_ble_eq_true rfl) ⟨o484, o485⟩ rfl rfl dL_law_1207 (Ctr.mono h (fun v M483 h => ?_))
  obtain ⟨r486, rfl, h⟩ := h
  show E_L_law l (some (L, xs)) q 1210 [(0, rV (some 8)), (1, rV (some 16)), (2, rV (some 60)), (3, iV v3)] [iV r486] M483 kk nn
  refine e_aload_n dL_law_1210 rfl rfl ?_
  obtain ⟨o488, h⟩ := h
  obtain ⟨o489, h⟩ := h
  refine e_callV (As := []) (st := [iV r486]) mt_X12_status in_X12_status lkL_138 rfl rfl ⟨by decide, by decide⟩ (Nat.le_of_ble_eq_true rfl) ⟨o488, o489⟩ rfl rfl dL_law_1211 (Ctr.mono h (fun v M487 h => ?_))
  obtain ⟨r490, rfl, h⟩ := h
  show E_L_law l (some (L, xs)) q 1214 [(0, rV (some 8)), (1, rV (some 16)), (2, rV (some 60)), (3, iV v3)] [iV r490, iV r486] M487 kk nn
  refine e_ic_eq (tgt := 1219) dL_law_1214 (by decide) (fun c491 => ?_) (fun c491 => ?_)
  · replace h := h.1 c491
    exact e_lv (List.forall_mem_cons.mpr ⟨rfl, List.forall_mem_cons.mpr ⟨rfl, List.forall_mem_cons.mpr ⟨rfl, List.forall_mem_cons.mpr ⟨rfl, fun _ h => absurd h List.not_mem_nil⟩⟩⟩⟩) h
  · replace h := h.2 c491
    refine e_iconst (v := 0) dL_law_1217 (by decide) ?_
    obtain ⟨o492, h⟩ := h
    obtain ⟨o493, h⟩ := h
    refine e_widen (k' := 600000) (n' := 7302250) o492 o493 ?_
    exact e_iret rfl rb_0 dL_law_1218 ⟨_, rfl, h⟩
