
/-! OWN LAYER, 8: typed ends, switches, the row KIND_ABOVE -/
abbrev QI (q : Int32 → o_M → Prop) : Option o_V → o_M → Prop := fun v M => ∃ x, v = some (iV x) ∧ q x M
abbrev QJ (q : Int64 → o_M → Prop) : Option o_V → o_M → Prop := fun v M => ∃ x, v = some (jV x) ∧ q x M
abbrev QR (q : Option Nat → o_M → Prop) : Option o_V → o_M → Prop := fun v M => ∃ x, v = some (rV x) ∧ q x M
abbrev QU (q : o_M → Prop) : Option o_V → o_M → Prop := fun v M => v = none ∧ q M
theorem o_roomd {d nL d' mc ms : Nat} (h : d' + 1 ≤ d) (hn : nL ≤ 21) : o_roomy (o_rm d mc ms) d' nL := ⟨h, by show 8 + (nL + 11) + 40 * d' ≤ 40 * d; omega⟩
theorem o_tab (x lo hi : Int32) {a b : Int} (ha : lo.toInt = a) (hb : hi.toInt = b) : (x < lo ∨ hi < x) ∨ (a ≤ x.toInt ∧ x.toInt ≤ b) := by
  by_cases h1 : x < lo
  · exact Or.inl (Or.inl h1)
  · by_cases h2 : hi < x
    · exact Or.inl (Or.inr h2)
    · rw [Int32.lt_iff_toInt_lt] at h1 h2
      exact Or.inr ⟨by omega, by omega⟩
theorem o_tabo {x lo hi : Int32} {a b : Int} (ha : lo.toInt = a) (hb : hi.toInt = b) (h : x < lo ∨ hi < x) : x.toInt < a ∨ b < x.toInt := by
  rw [Int32.lt_iff_toInt_lt, Int32.lt_iff_toInt_lt] at h
  omega
def o_kI (j : Nat) : Int32 := match j with
  | 0 => -1
  | 1 => 0
  | 2 => 0
  | 3 => 2
  | 4 => 0
  | _ => 1
theorem rb_0 : narrow .boolean (.int 0) = .int 0 := by decide
theorem rb_1 : narrow .boolean (.int 1) = .int 1 := by decide
section OK6
variable {l : Launch} {R : Room} {own : String} {cc : ByteArray} {nL : Nat} {ret : Option FieldType} {ini : Bool} {mc ms : Nat} {Q : Option o_V → o_M → Prop} {pc : Nat} {lv : List (Nat × o_V)} {st : List o_V} {M : o_M} {k n : Nat}
theorem e_kindN {index : Nat} {host : String} (w : Cond.fieldLinkNest own index "OrchestraYear" "KIND_ABOVE" "[I" host ∈ o_N) (hdg : decode cc pc = .ok (.getstatic index, 3)) (kk : Ev l R own cc nL ret ini mc ms Q (pc + 3) lv (rV (some 0) :: st) M k n) : Ev l R own cc nL ret ini mc ms Q pc lv st M k n := by
  intro base p e s m args below meth c D Z ad0 L0 hcx hrt ad ca H locs ls hwd hS hcn hls hlv hst hag hsub
  have hk := kk base p e s m args below meth c D Z ad0 L0 hcx hrt ad ca H locs ls hwd hS hcn hls hlv (q_s1 (o_lv_r (fun a h => Or.inl (by cases h; decide))) hst) hag hsub
  obtain ⟨hx, hb, hml, hr, hown, hini, hts, hnn, hK, hbase⟩ := hcx
  exact va_getsN (ref := "OrchestraYear") (host := host) hx hb hcn.1.1 hS hown (va_Nw.use rfl (hnn.1 _ w)) (fun _ h => h) hdg hk
theorem e_kald {i : Int32} (hin : vp_in i 6) (hdg : decode cc pc = .ok (.iaload, 1)) (kk : Ev l R own cc nL ret ini mc ms Q (pc + 1) lv (iV (o_kI i.toNatClampNeg) :: st) M k n) : Ev l R own cc nL ret ini mc ms Q pc lv (iV i :: rV (some 0) :: st) M k n := by
  intro base p e s m args below meth c D Z ad0 L0 hcx hrt ad ca H locs ls hwd hS hcn hls hlv hst hag hsub
  have hk := kk base p e s m args below meth c D Z ad0 L0 hcx hrt ad ca H locs ls hwd hS hcn hls hlv (q_s1 (o_lv_i _ _) (q_s0 (q_s0 hst))) hag hsub
  exact va_ti (v := .int (o_kI i.toNatClampNeg)) hcx.1 hcx.2.1 hcn.1.2 hS hin rfl hdg hk
theorem e_klen (hdg : decode cc pc = .ok (.arraylength, 1)) (kk : Ev l R own cc nL ret ini mc ms Q (pc + 1) lv (iV 6 :: st) M k n) : Ev l R own cc nL ret ini mc ms Q pc lv (rV (some 0) :: st) M k n := by
  intro base p e s m args below meth c D Z ad0 L0 hcx hrt ad ca H locs ls hwd hS hcn hls hlv hst hag hsub
  have hk := kk base p e s m args below meth c D Z ad0 L0 hcx hrt ad ca H locs ls hwd hS hcn hls hlv (q_s1 (o_lv_i _ _) (q_s0 hst)) hag hsub
  exact va_tlen (v := 6) hcx.1 hcx.2.1 hcn.1.2 hS (by decide) hdg hk
end OK6
