
/-! OWN LAYER, 8: typed ends, switches, the row KIND_ABOVE -/
abbrev QI (q : Int32 → o_M → Prop) : Option o_V → o_M → Prop := fun v M => ∃ x, v = some (iV x) ∧ q x M
abbrev QJ (q : Int64 → o_M → Prop) : Option o_V → o_M → Prop := fun v M => ∃ x, v = some (jV x) ∧ q x M
abbrev QR (q : Option Nat → o_M → Prop) : Option o_V → o_M → Prop := fun v M => ∃ x, v = some (rV x) ∧ q x M
abbrev QU (q : o_M → Prop) : Option o_V → o_M → Prop := fun v M => v = none ∧ q M
theorem o_roomd {d nL d' mc ms : Nat} (h : d' + 1 ≤ d) (hn : nL ≤ 21) : o_roomy (o_rm d mc ms) d' nL := ⟨h, by show 8 + (nL + 11) + 40 * d' ≤ 40 * d; omega⟩
theorem o_tab (x lo hi : Int32) {a b : Int} (ha : lo.toInt = a) (hb : hi.toInt = b) : (x < lo ∨ hi < x) ∨ (a ≤ x.toInt ∧ x.toInt ≤ b) := by
  by_cases h1 : x < lo
  · exact Or.inl (Or.inl h1)
  · by_cases h2 : hi < x
    · exact Or.inl (Or.inr h2)
    · rw [Int32.lt_iff_toInt_lt] at h1 h2
      exact Or.inr ⟨by omega, by omega⟩
theorem o_tabo {x lo hi : Int32} {a b : Int} (ha : lo.toInt = a) (hb : hi.toInt = b) (h : x < lo ∨ hi < x) : x.toInt < a ∨ b < x.toInt := by
  rw [Int32.lt_iff_toInt_lt, Int32.lt_iff_toInt_lt] at h
  omega
def o_kI (j : Nat) : Int32 := match j with
  | 0 => -1
  | 1 => 0
  | 2 => 0
  | 3 => 2
  | 4 => 0
  | _ => 1
theorem rb_0 : narrow .boolean (.int 0) = .int 0 := by decide
theorem rb_1 : narrow .boolean (.int 1) = .int 1 := by decide
section OK6
variable {l : Launch} {sc : Option (Nat × (Nat → Int32))} {R : Room} {own : String} {cc : ByteArray} {nL : Nat} {ret : Option FieldType} {ini : Bool} {mc ms : Nat} {Q : Option o_V → o_M → Prop} {pc : Nat} {lv : List (Nat × o_V)} {st : List o_V} {M : o_M} {k n : Nat}
theorem e_kindN {index : Nat} {host : String} (w : Cond.fieldLinkNest own index "OrchestraYear" "KIND_ABOVE" "[I" host ∈ o_N) (hdg : decode cc pc = .ok (.getstatic index, 3)) (kk : Ev l sc R own cc nL ret ini mc ms Q (pc + 3) lv (rV (some 0) :: st) M k n) : Ev l sc R own cc nL ret ini mc ms Q pc lv st M k n := by
  intro base p e s m args below meth c D Z ad0 L0 hcx hrt ad ca H locs ls hwd hS hcn hls hlv hst hag hsub
  have hk := kk base p e s m args below meth c D Z ad0 L0 hcx hrt ad ca H locs ls hwd hS hcn hls hlv (q_s1 (o_lv_r (fun a h => Or.inl (by cases h; decide))) hst) hag hsub
  obtain ⟨hx, hb, hml, hr, hown, hini, hts, hnn, hK, hbase⟩ := hcx
  exact va_getsN (ref := "OrchestraYear") (host := host) hx hb hcn.1.1.1 hS hown (va_Nw.use rfl (hnn.1 _ w)) (fun _ h => h) hdg hk
theorem e_kald {i : Int32} (hin : vp_in i 6) (hdg : decode cc pc = .ok (.iaload, 1)) (kk : Ev l sc R own cc nL ret ini mc ms Q (pc + 1) lv (iV (o_kI i.toNatClampNeg) :: st) M k n) : Ev l sc R own cc nL ret ini mc ms Q pc lv (iV i :: rV (some 0) :: st) M k n := by
  intro base p e s m args below meth c D Z ad0 L0 hcx hrt ad ca H locs ls hwd hS hcn hls hlv hst hag hsub
  have hk := kk base p e s m args below meth c D Z ad0 L0 hcx hrt ad ca H locs ls hwd hS hcn hls hlv (q_s1 (o_lv_i _ _) (q_s0 (q_s0 hst))) hag hsub
  exact va_ti (v := .int (o_kI i.toNatClampNeg)) hcx.1 hcx.2.1 hcn.1.1.2 hS hin rfl hdg hk
theorem e_klen (hdg : decode cc pc = .ok (.arraylength, 1)) (kk : Ev l sc R own cc nL ret ini mc ms Q (pc + 1) lv (iV 6 :: st) M k n) : Ev l sc R own cc nL ret ini mc ms Q pc lv (rV (some 0) :: st) M k n := by
  intro base p e s m args below meth c D Z ad0 L0 hcx hrt ad ca H locs ls hwd hS hcn hls hlv hst hag hsub
  have hk := kk base p e s m args below meth c D Z ad0 L0 hcx hrt ad ca H locs ls hwd hS hcn hls hlv (q_s1 (o_lv_i _ _) (q_s0 hst)) hag hsub
  exact va_tlen (v := 6) hcx.1 hcx.2.1 hcn.1.1.2 hS (by decide) hdg hk
def o_cpok (sp dp n : Int32) (n0 n1 : Nat) : Prop := ¬ sp < 0 ∧ ¬ dp < 0 ∧ ¬ n < 0 ∧ sp.toNatClampNeg + n.toNatClampNeg ≤ n0 ∧ dp.toNatClampNeg + n.toNatClampNeg ≤ n1
theorem o_arr2 {base : Nat} {D : va_G} {s : State} {ad : Nat → Nat} {ca : Nat → ClassId} {H : Heap} {id : Nat} {t : FieldType} (hK : va_K D o_cl [] s) (hwd : o_wd base D s ad ca M H) {id1 : Nat} (hid : id ∈ mL M) (ht : o_ty id = .inr t) (hid1 : id1 ∈ mL M) (ht1 : o_ty id1 = .inr t) : va_K D o_cl [(ca id, t), (ca id1, t)] s := by
  refine ⟨hK.1, fun i x hx => ?_⟩
  match i, hx with
  | 0, hx => cases hx; exact (hwd.2.2.2 id hid).2 t ht
  | 1, hx => cases hx; exact (hwd.2.2.2 id1 hid1).2 t ht1
  | i + 2, hx => simp at hx
theorem e_copyI {id id1 index : Nat} {sp dp i : Int32} (w1 : Cond.methodLink own index arraycopyName ∈ o_T) (ht : o_ty id = .inr .int) (ht1 : o_ty id1 = .inr .int) (hok : o_cpok sp dp i (mN M id) (mN M id1)) (hf : 1 ≤ R.frames) (hrest : o_rest st ≤ 8) (hlo : 40 ≤ R.locals) (hdg : decode cc pc = .ok (.invokestatic index, 3))
    (kk : Ev l sc R own cc nL ret ini mc ms Q (pc + 3) lv st (sA M id1 (va_cpy (mI M id) (mI M id1) sp.toNatClampNeg dp.toNatClampNeg i.toNatClampNeg)) k n) : Ev l sc R own cc nL ret ini mc ms Q pc lv (iV i :: iV dp :: rV (some id1) :: iV sp :: rV (some id) :: st) M k n := by
  intro base p e s m args below meth c D Z ad0 L0 hcx hrt ad ca H locs ls hwd hS hcn hls hlv hst hag hsub
  have hid1 : id1 ∈ mL M := o_li_in (o_lv_of (q_sh (q_s0 (q_s0 hst)))) (o_16a ht1 (by decide))
  have hid : id ∈ mL M := o_li_in (o_lv_of (q_sh (q_s0 (q_s0 (q_s0 (q_s0 hst)))))) (o_16a ht (by decide))
  obtain ⟨q0, -, hq0, -⟩ := o_arr hcx.2.2.2.2.2.2.2.2.1 hwd hid ht
  obtain ⟨q1, hq1', hq1, -⟩ := o_arr hcx.2.2.2.2.2.2.2.2.1 hwd hid1 ht1
  have hK2 := o_arr2 hcx.2.2.2.2.2.2.2.2.1 hwd hid ht hid1 ht1
  rw [o_ar_i rfl] at hq0 hq1
  have hcx0 := hcx
  obtain ⟨hx, hb, hml, hr, hown, hini, hts, hnn, hK, hbase⟩ := hcx
  obtain ⟨h1, h2, h3, h4, h5⟩ := hok
  refine va_copyi hx hb (by rw [hml]; exact hls.1.symm) hown (hts _ w1) (hts _ wc_2) (hts _ wc_3) (hts _ wc_4) hK2 hwd.1 hwd.2.1 hS q0 q1 0 1 hq0 hq1 rfl rfl rfl h1 h2 h3 h4 h5 (fun _ _ => rfl) hf ?_ hdg (fun H1 locs1 hP1 hD1 hS1 => ?_)
  · have := o_rest_le (ad := ad) (m := m) (pc := pc) (ls := ls) (st0 := []) hrest
    have e1 : nativeFrameWords "java/lang/System" "arraycopy" 5 + 11 ≤ 32 := by decide
    omega
  · have hE : (.inl (ca id1, mN M id1, .inl (va_cpy (mI M id) (mI M id1) sp.toNatClampNeg dp.toNatClampNeg i.toNatClampNeg)) : va_E) = o_en ad ca (sA M id1 (va_cpy (mI M id) (mI M id1) sp.toNatClampNeg dp.toNatClampNeg i.toNatClampNeg)) id1 := by
      rw [o_en_arr ht1, o_ar_i rfl]
      have : mI (sA M id1 (va_cpy (mI M id) (mI M id1) sp.toNatClampNeg dp.toNatClampNeg i.toNatClampNeg)) id1 = va_cpy (mI M id) (mI M id1) sp.toNatClampNeg dp.toNatClampNeg i.toNatClampNeg := funext fun j => by rw [mI_sA, if_pos rfl]
      rw [this]; rfl
    have hwd' := o_wd_set (M' := sA M id1 (va_cpy (mI M id) (mI M id1) sp.toNatClampNeg dp.toNatClampNeg i.toNatClampNeg)) hwd hq1' rfl hE (fun a ha j => by rw [mI_sA, if_neg ha]) (fun _ _ _ => rfl) (fun _ _ _ => rfl) (fun _ _ => rfl) (fun j a h => hwd.2.2.1 id1 hid1 j a h) hP1 hD1
    exact kk base p e s m args below meth c D Z ad0 L0 hcx0 hrt ad ca H1 locs1 ls hwd' hS1 hcn hls hlv (q_s0 (q_s0 (q_s0 (q_s0 (q_s0 hst))))) hag hsub
end OK6
