/-! OWN LAYER, 6: rules of the heap -/
def o_FL (own : String) (index ci kf : Nat) : Prop := ∃ (C : String) (T : u_T) (N : Nat), o_cl[ci]? = some (C, T, N) ∧ o_nf ci = N ∧ kf < N ∧ (∀ w ∈ u_ws C T N, w ∈ o_T) ∧ (∀ k, k < N → parseFieldDescriptor (T k).2.2.1 = some (o_fy ci k)) ∧ (∀ a, a < N → ∀ b, b < N → a ≠ b → (T a).2.1 ≠ (T b).2.1) ∧
  (Cond.fieldLink own index (T kf).1 (T kf).2.1 (T kf).2.2.1 ∈ o_T ∨ ∃ host, Cond.fieldLinkNest own index (T kf).1 (T kf).2.1 (T kf).2.2.1 host ∈ o_N)
def o_fin (ci kf : Nat) : Bool := match o_cl[ci]? with
  | some q => (q.2.1 kf).2.2.2
  | none => false
def o_FN (own : String) (index ci kf : Nat) : Prop := match o_cl[ci]? with
  | some q => Cond.fieldLink own index (q.2.1 kf).1 (q.2.1 kf).2.1 (q.2.1 kf).2.2.1 ∈ o_T
  | none => False
def o_dcl (ci kf : Nat) : String := match o_cl[ci]? with
  | some q => (q.2.1 kf).1
  | none => ""
theorem o_en_obj {ad : Nat → Nat} {ca : Nat → ClassId} {M : o_M} {id ci : Nat} (ht : o_ty id = .inl ci) : o_en ad ca M id = .inr (ci, o_fs ad M id ci) := by unfold o_en; rw [ht]
theorem o_en_arr {ad : Nat → Nat} {ca : Nat → ClassId} {M : o_M} {id : Nat} {t : FieldType} (ht : o_ty id = .inr t) : o_en ad ca M id = .inl (ca id, o_ar ad M id t) := by unfold o_en; rw [ht]
theorem o_16o {id ci : Nat} (ht : o_ty id = .inl ci) : 16 ≤ id := o_ty16 (by rw [ht]; exact fun h => by cases h)
theorem o_16a {id : Nat} {t : FieldType} (ht : o_ty id = .inr t) (h : t ≠ .float) : 16 ≤ id := o_ty16 (by rw [ht]; exact fun z => h (by cases z; rfl))
/-- the world behind a write to one cell -/
theorem o_wd_set {base : Nat} {D : va_G} {U : State} {ad : Nat → Nat} {ca : Nat → ClassId} {M M' : o_M} {H H1 : Heap} {id q : Nat} {E : va_E} (hwd : o_wd base D U ad ca M H) (hq : (mL M)[q]? = some id) (hL : mL M' = mL M) (hE : E = o_en ad ca M' id)
    (h1 : ∀ a, a ≠ id → ∀ j, mI M' a j = mI M a j) (h2 : ∀ a, a ≠ id → ∀ j, mJ M' a j = mJ M a j) (h3 : ∀ a, a ≠ id → ∀ j, mR M' a j = mR M a j) (h4 : ∀ a, a ≠ id → mN M' a = mN M a) (hwf : ∀ j a, mR M' id j = some a → o_li (mL M) a)
    (hP : va_P D o_cl ((o_w ad ca M).set q (ad id, E)) H1) (hD : va_D (o_A base) ((o_w ad ca M).set q (ad id, E))) : o_wd base D U ad ca M' H1 := by
  obtain ⟨g1, g2, g3, g4⟩ := hwd
  have hs : (o_w ad ca M).set q (ad id, E) = o_w ad ca M' := by
    rw [hE]
    exact o_w_set g2 hL hq (fun a ha hne => o_en_same ha g3 (fun _ _ => rfl) rfl (h1 a hne) (h2 a hne) (h3 a hne) (h4 a hne))
  rw [hs] at hP hD
  refine ⟨hP, hD, fun a ha j b hb => ?_, fun a ha => g4 a (by rw [← hL]; exact ha)⟩
  rw [hL] at ha ⊢
  by_cases e : a = id
  · subst e; exact hwf j b hb
  · exact g3 a ha j b (by rw [← h3 a e]; exact hb)
theorem o_fv_same {M M' : o_M} {id j : Nat} {t : FieldType} (h1 : mI M' id j = mI M id j) (h2 : mJ M' id j = mJ M id j) (h3 : mR M' id j = mR M id j) : o_fv M' id j t = o_fv M id j t := by unfold o_fv; rw [h1, h2, h3]
section OH
variable {l : Launch} {sc : Option (Nat × (Nat → Int32))} {R : Room} {own : String} {cc : ByteArray} {nL : Nat} {ret : Option FieldType} {ini : Bool} {mc ms : Nat} {Q : Option o_V → o_M → Prop} {pc : Nat} {lv : List (Nat × o_V)} {st : List o_V} {M : o_M} {k n : Nat}
theorem e_get {id ci kf index : Nat} (hF : o_FL own index ci kf) (ht : o_ty id = .inl ci) (hdg : decode cc pc = .ok (.getfield index, 3)) (kk : Ev l sc R own cc nL ret ini mc ms Q (pc + 3) lv (o_fv M id kf (o_fy ci kf) :: st) M k n) : Ev l sc R own cc nL ret ini mc ms Q pc lv (rV (some id) :: st) M k n := by
  intro base p e s m args below meth c D Z ad0 L0 hcx hrt ad ca H locs ls hwd hS hcn hls hlv hst hag hsub
  obtain ⟨C, T, N, f1, f2, f3, f4, f5, f6, f7⟩ := hF
  have hid : id ∈ mL M := o_li_in (o_lv_of (q_sh hst)) (o_16o ht)
  obtain ⟨q, -, hq⟩ := o_w_at (ad := ad) (ca := ca) hid
  rw [o_en_obj ht] at hq
  have hk := kk base p e s m args below meth c D Z ad0 L0 hcx hrt ad ca H locs ls hwd hS hcn hls hlv (q_s1 (o_fv_lv hwd.2.2.1 hid) (q_s0 hst)) hag hsub
  obtain ⟨hx, hb, hml, hr, hown, hini, hts, hnn, hK, hbase⟩ := hcx
  rcases f7 with f7 | ⟨host, f7⟩
  · exact va_get (ref := (T kf).1) hx hb hts f4 hown hK hwd.1 q hq f1 kf f3 (hts _ f7) (fun _ h => h) (o_fs_get (by rw [f2]; exact f3)) hdg hk
  · exact va_getN (ref := (T kf).1) (host := host) hx hb hts f4 hown hK hwd.1 q hq f1 kf f3 (va_Nw.use rfl (hnn.1 _ f7)) (fun _ h => h) (o_fs_get (by rw [f2]; exact f3)) hdg hk
theorem e_gI {id ci kf index : Nat} (hF : o_FL own index ci kf) (ht : o_ty id = .inl ci) (hk : o_fk (o_fy ci kf) = 0) (hdg : decode cc pc = .ok (.getfield index, 3)) (kk : Ev l sc R own cc nL ret ini mc ms Q (pc + 3) lv (iV (mI M id kf) :: st) M k n) : Ev l sc R own cc nL ret ini mc ms Q pc lv (rV (some id) :: st) M k n :=
  e_get hF ht hdg (by unfold o_fv; rw [hk]; exact kk)
theorem e_gJ {id ci kf index : Nat} (hF : o_FL own index ci kf) (ht : o_ty id = .inl ci) (hk : o_fk (o_fy ci kf) = 1) (hdg : decode cc pc = .ok (.getfield index, 3)) (kk : Ev l sc R own cc nL ret ini mc ms Q (pc + 3) lv (jV (mJ M id kf) :: st) M k n) : Ev l sc R own cc nL ret ini mc ms Q pc lv (rV (some id) :: st) M k n :=
  e_get hF ht hdg (by unfold o_fv; rw [hk]; exact kk)
theorem e_gR {id ci kf index : Nat} (hF : o_FL own index ci kf) (ht : o_ty id = .inl ci) (hk : o_fk (o_fy ci kf) = 2) (hdg : decode cc pc = .ok (.getfield index, 3)) (kk : Ev l sc R own cc nL ret ini mc ms Q (pc + 3) lv (rV (mR M id kf) :: st) M k n) : Ev l sc R own cc nL ret ini mc ms Q pc lv (rV (some id) :: st) M k n :=
  e_get hF ht hdg (by unfold o_fv; rw [hk]; exact kk)
theorem e_gA {id ci kf index a : Nat} (hF : o_FL own index ci kf) (ht : o_ty id = .inl ci) (hk : o_fk (o_fy ci kf) = 2) (hv : mR M id kf = some a) (hdg : decode cc pc = .ok (.getfield index, 3)) (kk : Ev l sc R own cc nL ret ini mc ms Q (pc + 3) lv (rV (some a) :: st) M k n) : Ev l sc R own cc nL ret ini mc ms Q pc lv (rV (some id) :: st) M k n :=
  e_gR hF ht hk hdg (by rw [hv]; exact kk)
theorem e_put {id ci kf index : Nat} {v : o_V} {M' : o_M} (hF : o_FL own index ci kf) (ht : o_ty id = .inl ci) (hfin : o_fin ci kf = false ∨ (o_fin ci kf = true ∧ ini = true ∧ o_dcl ci kf = own ∧ o_FN own index ci kf)) (hv1 : ∀ ad, narrow (o_fy ci kf) (o_cv ad v) = o_cv ad v) (hv2 : ∀ ad, fits (o_fy ci kf) (o_cv ad v) = true)
    (hL : mL M' = mL M) (hM : o_fv M' id kf (o_fy ci kf) = v) (hj : ∀ j, j ≠ kf → mI M' id j = mI M id j ∧ mJ M' id j = mJ M id j ∧ mR M' id j = mR M id j)
    (h1 : ∀ a, a ≠ id → ∀ j, mI M' a j = mI M a j) (h2 : ∀ a, a ≠ id → ∀ j, mJ M' a j = mJ M a j) (h3 : ∀ a, a ≠ id → ∀ j, mR M' a j = mR M a j) (h4 : ∀ a, a ≠ id → mN M' a = mN M a) (hw : ∀ a, mR M' id kf = some a → mR M id kf = some a ∨ v = rV (some a))
    (hdg : decode cc pc = .ok (.putfield index, 3)) (kk : Ev l sc R own cc nL ret ini mc ms Q (pc + 3) lv st M' k n) : Ev l sc R own cc nL ret ini mc ms Q pc lv (v :: rV (some id) :: st) M k n := by
  intro base p e s m args below meth c D Z ad0 L0 hcx hrt ad ca H locs ls hwd hS hcn hls hlv hst hag hsub
  obtain ⟨C, T, N, f1, f2, f3, f4, f5, f6, f7⟩ := hF
  have hid : id ∈ mL M := o_li_in (o_lv_of (q_sh (q_s0 hst))) (o_16o ht)
  obtain ⟨q, hq0, hq⟩ := o_w_at (ad := ad) (ca := ca) hid
  rw [o_en_obj ht] at hq
  have hgo : ∀ (H1 : Heap) (locs1 : List Loc), va_P D o_cl ((o_w ad ca M).set q (ad id, .inr (ci, (o_fs ad M id ci).set kf (o_cv ad v)))) H1 → va_D (o_A base) ((o_w ad ca M).set q (ad id, .inr (ci, (o_fs ad M id ci).set kf (o_cv ad v)))) → va_S (o_A base) s.heap H1 locs1 → W p l e R s m args below meth c H1 locs1 k n Z (F0 m (pc + 3) ls (st.map (o_cv ad))) := by
    intro H1 locs1 hP1 hD1 hS1
    have hE : (.inr (ci, (o_fs ad M id ci).set kf (o_cv ad v)) : va_E) = o_en ad ca M' id := by
      rw [o_en_obj ht, o_fs_set (M' := M') (by rw [f2]; exact f3) (by rw [hM]) (fun j _ hjk => o_fv_same (hj j hjk).1 (hj j hjk).2.1 (hj j hjk).2.2)]
    have hwd' : o_wd base D s ad ca M' H1 := o_wd_set hwd hq0 hL hE h1 h2 h3 h4 (fun j a ha => by
      by_cases hjk : j = kf
      · subst hjk
        rcases hw a ha with h | h
        · exact hwd.2.2.1 id hid j a h
        · exact q_sh hst a h
      · exact hwd.2.2.1 id hid j a (by rw [← (hj j hjk).2.2]; exact ha)) hP1 hD1
    exact kk base p e s m args below meth c D Z ad0 L0 hcx hrt ad ca H1 locs1 ls hwd' hS1 hcn hls (by rw [hL]; exact hlv) (by rw [hL]; exact q_s0 (q_s0 hst)) hag (by rw [hL]; exact hsub)
  obtain ⟨hx, hb, hml, hr, hown, hini, hts, hnn, hK, hbase⟩ := hcx
  have hl : kf < (o_fs ad M id ci).length := by rw [o_fs_len, f2]; exact f3
  have e1 : o_fin ci kf = (T kf).2.2.2 := by unfold o_fin; rw [f1]
  have e2 : o_dcl ci kf = (T kf).1 := by unfold o_dcl; rw [f1]
  rcases hfin with hf | ⟨hf, hi, hd, hfn⟩
  · rcases f7 with f7 | ⟨host, f7⟩
    · exact va_put (ref := (T kf).1) hx hb hts f4 (o_fy ci) f5 f6 hown hK hwd.1 hwd.2.1 hS q hq f1 kf f3 (hts _ f7) (fun _ h => h) (by rw [← e1]; exact hf) (f5 kf f3) (hv1 ad) (hv2 ad) hl hdg hgo
    · exact va_putN (ref := (T kf).1) (host := host) hx hb hts f4 (o_fy ci) f5 f6 hown hK hwd.1 hwd.2.1 hS q hq f1 kf f3 (va_Nw.use rfl (hnn.1 _ f7)) (fun _ h => h) (by rw [← e1]; exact hf) (f5 kf f3) (hv1 ad) (hv2 ad) hl hdg hgo
  · unfold o_FN at hfn
    rw [f1] at hfn
    exact va_putF (ref := (T kf).1) hx hb hts f4 (o_fy ci) f5 f6 hown hK hwd.1 hwd.2.1 hS q hq f1 kf f3 (hts _ hfn) (fun _ h => h) (by rw [← e1]; exact hf) (hini hi) (by rw [← e2]; exact hd) (f5 kf f3) (hv1 ad) (hv2 ad) hl hdg hgo
abbrev o_pf (own : String) (ini : Bool) (index ci kf : Nat) : Prop := o_fin ci kf = false ∨ (o_fin ci kf = true ∧ ini = true ∧ o_dcl ci kf = own ∧ o_FN own index ci kf)
theorem e_pI {id ci kf index : Nat} {x : Int32} (hF : o_FL own index ci kf) (ht : o_ty id = .inl ci) (hfin : o_pf own ini index ci kf) (hk : o_fk (o_fy ci kf) = 0) (hv1 : narrow (o_fy ci kf) (.int x) = .int x) (hv2 : fits (o_fy ci kf) (.int x) = true) (hdg : decode cc pc = .ok (.putfield index, 3)) (kk : Ev l sc R own cc nL ret ini mc ms Q (pc + 3) lv st (sI M id kf x) k n) : Ev l sc R own cc nL ret ini mc ms Q pc lv (iV x :: rV (some id) :: st) M k n := by
  refine e_put (M' := sI M id kf x) hF ht hfin (fun _ => hv1) (fun _ => hv2) rfl ?_ ?_ ?_ (fun _ _ _ => rfl) (fun _ _ _ => rfl) (fun _ _ => rfl) (fun a h => Or.inl h) hdg kk
  · unfold o_fv; rw [hk]; simp [mI_sI]
  · intro j hj; refine ⟨?_, rfl, rfl⟩; rw [mI_sI, if_neg (fun h => hj h.2)]
  · intro a ha j; rw [mI_sI, if_neg (fun h => ha h.1)]
theorem e_pJ {id ci kf index : Nat} {x : Int64} (hF : o_FL own index ci kf) (ht : o_ty id = .inl ci) (hfin : o_pf own ini index ci kf) (hk : o_fk (o_fy ci kf) = 1) (hv1 : narrow (o_fy ci kf) (.long x) = .long x) (hv2 : fits (o_fy ci kf) (.long x) = true) (hdg : decode cc pc = .ok (.putfield index, 3)) (kk : Ev l sc R own cc nL ret ini mc ms Q (pc + 3) lv st (sJ M id kf x) k n) : Ev l sc R own cc nL ret ini mc ms Q pc lv (jV x :: rV (some id) :: st) M k n := by
  refine e_put (M' := sJ M id kf x) hF ht hfin (fun _ => hv1) (fun _ => hv2) rfl ?_ ?_ (fun _ _ _ => rfl) ?_ (fun _ _ _ => rfl) (fun _ _ => rfl) (fun a h => Or.inl h) hdg kk
  · unfold o_fv; rw [hk]; simp [mJ_sJ]
  · intro j hj; refine ⟨rfl, ?_, rfl⟩; rw [mJ_sJ, if_neg (fun h => hj h.2)]
  · intro a ha j; rw [mJ_sJ, if_neg (fun h => ha h.1)]
theorem o_nref {t : FieldType} (h : o_fk t = 2) (r : Option Nat) : narrow t (va_rf r) = va_rf r ∧ fits t (va_rf r) = true := by
  cases t <;> simp [o_fk] at h <;> cases r <;> exact ⟨rfl, rfl⟩
theorem e_pR {id ci kf index : Nat} {x : Option Nat} (hF : o_FL own index ci kf) (ht : o_ty id = .inl ci) (hfin : o_pf own ini index ci kf) (hk : o_fk (o_fy ci kf) = 2) (hdg : decode cc pc = .ok (.putfield index, 3)) (kk : Ev l sc R own cc nL ret ini mc ms Q (pc + 3) lv st (sR M id kf x) k n) : Ev l sc R own cc nL ret ini mc ms Q pc lv (rV x :: rV (some id) :: st) M k n := by
  refine e_put (M' := sR M id kf x) hF ht hfin (fun ad => (o_nref hk _).1) (fun ad => (o_nref hk _).2) rfl ?_ ?_ (fun _ _ _ => rfl) (fun _ _ _ => rfl) ?_ (fun _ _ => rfl) ?_ hdg kk
  · unfold o_fv; rw [hk]; simp [mR_sR]
  · intro j hj; refine ⟨rfl, rfl, ?_⟩; rw [mR_sR, if_neg (fun h => hj h.2)]
  · intro a ha j; rw [mR_sR, if_neg (fun h => ha h.1)]
  · intro a h; rw [mR_sR, if_pos ⟨rfl, rfl⟩] at h; right; rw [h]
/-! arrays -/
theorem o_arr {base : Nat} {D : va_G} {s : State} {ad : Nat → Nat} {ca : Nat → ClassId} {H : Heap} {id : Nat} {t : FieldType} (hK : va_K D o_cl [] s) (hwd : o_wd base D s ad ca M H) (hid : id ∈ mL M) (ht : o_ty id = .inr t) : ∃ q : Nat, (mL M)[q]? = some id ∧ (o_w ad ca M)[q]? = some (ad id, .inl (ca id, o_ar ad M id t)) ∧ va_K D o_cl [(ca id, t)] s := by
  obtain ⟨q, hq0, hq⟩ := o_w_at (ad := ad) (ca := ca) hid
  rw [o_en_arr ht] at hq
  refine ⟨q, hq0, hq, hK.1, fun i x hx => ?_⟩
  cases i with
  | zero => cases hx; exact (hwd.2.2.2 id hid).2 t ht
  | succ i => simp at hx
theorem o_ar_i {ad : Nat → Nat} {id : Nat} {t : FieldType} (h : o_fk t = 0) : o_ar ad M id t = (mN M id, .inl (mI M id)) := by unfold o_ar; rw [h]; rfl
theorem o_ar_j {ad : Nat → Nat} {id : Nat} {t : FieldType} (h : o_fk t = 1) : o_ar ad M id t = (mN M id, .inr (.inl (mJ M id))) := by unfold o_ar; rw [h]; rfl
theorem o_ar_r {ad : Nat → Nat} {id : Nat} {t : FieldType} (h : o_fk t = 2) : o_ar ad M id t = (mN M id, .inr (.inr (.inr (.inr (fun j => (mR M id j).map ad))))) := by unfold o_ar; rw [h]; rfl
theorem e_iald {id : Nat} {i : Int32} (ht : o_ty id = .inr .int) (hin : vp_in i (mN M id)) (hdg : decode cc pc = .ok (.iaload, 1)) (kk : Ev l sc R own cc nL ret ini mc ms Q (pc + 1) lv (iV (mI M id i.toNatClampNeg) :: st) M k n) : Ev l sc R own cc nL ret ini mc ms Q pc lv (iV i :: rV (some id) :: st) M k n := by
  intro base p e s m args below meth c D Z ad0 L0 hcx hrt ad ca H locs ls hwd hS hcn hls hlv hst hag hsub
  have hid : id ∈ mL M := o_li_in (o_lv_of (q_sh (q_s0 hst))) (o_16a ht (by decide))
  obtain ⟨q, -, hq, hK⟩ := o_arr hcx.2.2.2.2.2.2.2.2.1 hwd hid ht
  rw [o_ar_i rfl] at hq
  exact va_iald hcx.1 hcx.2.1 hK hwd.1 q 0 hq rfl hin hdg (kk base p e s m args below meth c D Z ad0 L0 hcx hrt ad ca H locs ls hwd hS hcn hls hlv (q_s1 (o_lv_i _ _) (q_s0 (q_s0 hst))) hag hsub)
theorem e_bald {id : Nat} {i : Int32} (ht : o_ty id = .inr .byte) (hin : vp_in i (mN M id)) (hdg : decode cc pc = .ok (.baload, 1)) (kk : Ev l sc R own cc nL ret ini mc ms Q (pc + 1) lv (iV (mI M id i.toNatClampNeg) :: st) M k n) : Ev l sc R own cc nL ret ini mc ms Q pc lv (iV i :: rV (some id) :: st) M k n := by
  intro base p e s m args below meth c D Z ad0 L0 hcx hrt ad ca H locs ls hwd hS hcn hls hlv hst hag hsub
  have hid : id ∈ mL M := o_li_in (o_lv_of (q_sh (q_s0 hst))) (o_16a ht (by decide))
  obtain ⟨q, -, hq, hK⟩ := o_arr hcx.2.2.2.2.2.2.2.2.1 hwd hid ht
  rw [o_ar_i rfl] at hq
  exact va_bald hcx.1 hcx.2.1 hK hwd.1 q 0 hq rfl hin hdg (kk base p e s m args below meth c D Z ad0 L0 hcx hrt ad ca H locs ls hwd hS hcn hls hlv (q_s1 (o_lv_i _ _) (q_s0 (q_s0 hst))) hag hsub)
theorem e_zald {id : Nat} {i : Int32} (ht : o_ty id = .inr .boolean) (hin : vp_in i (mN M id)) (hdg : decode cc pc = .ok (.baload, 1)) (kk : Ev l sc R own cc nL ret ini mc ms Q (pc + 1) lv (iV (mI M id i.toNatClampNeg) :: st) M k n) : Ev l sc R own cc nL ret ini mc ms Q pc lv (iV i :: rV (some id) :: st) M k n := by
  intro base p e s m args below meth c D Z ad0 L0 hcx hrt ad ca H locs ls hwd hS hcn hls hlv hst hag hsub
  have hid : id ∈ mL M := o_li_in (o_lv_of (q_sh (q_s0 hst))) (o_16a ht (by decide))
  obtain ⟨q, -, hq, hK⟩ := o_arr hcx.2.2.2.2.2.2.2.2.1 hwd hid ht
  rw [o_ar_i rfl] at hq
  exact va_zald hcx.1 hcx.2.1 hK hwd.1 q 0 hq rfl hin hdg (kk base p e s m args below meth c D Z ad0 L0 hcx hrt ad ca H locs ls hwd hS hcn hls hlv (q_s1 (o_lv_i _ _) (q_s0 (q_s0 hst))) hag hsub)
theorem e_lald {id : Nat} {i : Int32} (ht : o_ty id = .inr .long) (hin : vp_in i (mN M id)) (hdg : decode cc pc = .ok (.laload, 1)) (kk : Ev l sc R own cc nL ret ini mc ms Q (pc + 1) lv (jV (mJ M id i.toNatClampNeg) :: st) M k n) : Ev l sc R own cc nL ret ini mc ms Q pc lv (iV i :: rV (some id) :: st) M k n := by
  intro base p e s m args below meth c D Z ad0 L0 hcx hrt ad ca H locs ls hwd hS hcn hls hlv hst hag hsub
  have hid : id ∈ mL M := o_li_in (o_lv_of (q_sh (q_s0 hst))) (o_16a ht (by decide))
  obtain ⟨q, -, hq, hK⟩ := o_arr hcx.2.2.2.2.2.2.2.2.1 hwd hid ht
  rw [o_ar_j rfl] at hq
  exact va_lald hcx.1 hcx.2.1 hK hwd.1 q 0 hq rfl hin hdg (kk base p e s m args below meth c D Z ad0 L0 hcx hrt ad ca H locs ls hwd hS hcn hls hlv (q_s1 (o_lv_j _ _) (q_s0 (q_s0 hst))) hag hsub)
theorem e_aald {id : Nat} {i : Int32} {C : String} (ht : o_ty id = .inr (.object C)) (hin : vp_in i (mN M id)) (hdg : decode cc pc = .ok (.aaload, 1)) (kk : Ev l sc R own cc nL ret ini mc ms Q (pc + 1) lv (rV (mR M id i.toNatClampNeg) :: st) M k n) : Ev l sc R own cc nL ret ini mc ms Q pc lv (iV i :: rV (some id) :: st) M k n := by
  intro base p e s m args below meth c D Z ad0 L0 hcx hrt ad ca H locs ls hwd hS hcn hls hlv hst hag hsub
  have hid : id ∈ mL M := o_li_in (o_lv_of (q_sh (q_s0 hst))) (o_16a ht (fun h => by cases h))
  obtain ⟨q, -, hq, hK⟩ := o_arr hcx.2.2.2.2.2.2.2.2.1 hwd hid ht
  rw [o_ar_r rfl] at hq
  exact va_aldq hcx.1 hcx.2.1 hK hwd.1 q 0 hq rfl hin hdg (kk base p e s m args below meth c D Z ad0 L0 hcx hrt ad ca H locs ls hwd hS hcn hls hlv (q_s1 (o_lv_r (hwd.2.2.1 id hid _)) (q_s0 (q_s0 hst))) hag hsub)
theorem e_aaldS {id a : Nat} {i : Int32} {C : String} (ht : o_ty id = .inr (.object C)) (hin : vp_in i (mN M id)) (hv : mR M id i.toNatClampNeg = some a) (hdg : decode cc pc = .ok (.aaload, 1)) (kk : Ev l sc R own cc nL ret ini mc ms Q (pc + 1) lv (rV (some a) :: st) M k n) : Ev l sc R own cc nL ret ini mc ms Q pc lv (iV i :: rV (some id) :: st) M k n := e_aald ht hin hdg (by rw [hv]; exact kk)
theorem e_alen {id : Nat} {t : FieldType} {v : Int32} (ht : o_ty id = .inr t) (hf : t ≠ .float) (hv : Int32.ofNat (mN M id) = v) (hdg : decode cc pc = .ok (.arraylength, 1)) (kk : Ev l sc R own cc nL ret ini mc ms Q (pc + 1) lv (iV v :: st) M k n) : Ev l sc R own cc nL ret ini mc ms Q pc lv (rV (some id) :: st) M k n := by
  intro base p e s m args below meth c D Z ad0 L0 hcx hrt ad ca H locs ls hwd hS hcn hls hlv hst hag hsub
  have hid : id ∈ mL M := o_li_in (o_lv_of (q_sh hst)) (o_16a ht hf)
  obtain ⟨q, -, hq, hK⟩ := o_arr hcx.2.2.2.2.2.2.2.2.1 hwd hid ht
  exact va_alen hcx.1 hcx.2.1 hK hwd.1 q 0 hq rfl (show Int32.ofNat (o_ar ad M id t).1 = v from hv) hdg (kk base p e s m args below meth c D Z ad0 L0 hcx hrt ad ca H locs ls hwd hS hcn hls hlv (q_s1 (o_lv_i _ _) (q_s0 hst)) hag hsub)
theorem e_iast {id : Nat} {i : Int32} {x : Int32} (ht : o_ty id = .inr .int) (hin : vp_in i (mN M id)) (hdg : decode cc pc = .ok (.iastore, 1)) (kk : Ev l sc R own cc nL ret ini mc ms Q (pc + 1) lv st (sI M id i.toNatClampNeg x) k n) : Ev l sc R own cc nL ret ini mc ms Q pc lv (iV x :: iV i :: rV (some id) :: st) M k n := by
  intro base p e s m args below meth c D Z ad0 L0 hcx hrt ad ca H locs ls hwd hS hcn hls hlv hst hag hsub
  have hid : id ∈ mL M := o_li_in (o_lv_of (q_sh (q_s0 (q_s0 hst)))) (o_16a ht (by decide))
  obtain ⟨q, hq0, hq, hK⟩ := o_arr hcx.2.2.2.2.2.2.2.2.1 hwd hid ht
  rw [o_ar_i rfl] at hq
  refine va_iast hcx.1 hcx.2.1 hK hwd.1 hwd.2.1 hS q 0 hq rfl hin hdg (fun H1 locs1 hP1 hD1 hS1 => ?_)
  have hE : (.inl (ca id, mN M id, .inl (upd (mI M id) i.toNatClampNeg x)) : va_E) = o_en ad ca (sI M id i.toNatClampNeg x) id := by
    rw [o_en_arr ht, o_ar_i rfl]
    have : upd (mI M id) i.toNatClampNeg x = mI (sI M id i.toNatClampNeg x) id := funext fun j => by rw [mI_sI]; by_cases h : j = i.toNatClampNeg <;> simp [upd, h]
    rw [this]; rfl
  have hwd' : o_wd base D s ad ca (sI M id i.toNatClampNeg x) H1 := o_wd_set hwd hq0 rfl hE (fun a ha j => by rw [mI_sI, if_neg (fun h => ha h.1)]) (fun _ _ _ => rfl) (fun _ _ _ => rfl) (fun _ _ => rfl) (fun j a h => hwd.2.2.1 id hid j a h) hP1 hD1
  exact kk base p e s m args below meth c D Z ad0 L0 hcx hrt ad ca H1 locs1 ls hwd' hS1 hcn hls hlv (q_s0 (q_s0 (q_s0 hst))) hag hsub
theorem e_bast {id : Nat} {i : Int32} {x : Int32} (ht : o_ty id = .inr .byte) (hin : vp_in i (mN M id)) (hdg : decode cc pc = .ok (.bastore, 1)) (kk : Ev l sc R own cc nL ret ini mc ms Q (pc + 1) lv st (sI M id i.toNatClampNeg (vp_nar .byte x)) k n) : Ev l sc R own cc nL ret ini mc ms Q pc lv (iV x :: iV i :: rV (some id) :: st) M k n := by
  intro base p e s m args below meth c D Z ad0 L0 hcx hrt ad ca H locs ls hwd hS hcn hls hlv hst hag hsub
  have hid : id ∈ mL M := o_li_in (o_lv_of (q_sh (q_s0 (q_s0 hst)))) (o_16a ht (by decide))
  obtain ⟨q, hq0, hq, hK⟩ := o_arr hcx.2.2.2.2.2.2.2.2.1 hwd hid ht
  rw [o_ar_i rfl] at hq
  refine va_bast hcx.1 hcx.2.1 hK hwd.1 hwd.2.1 hS q 0 hq rfl hin hdg (fun H1 locs1 hP1 hD1 hS1 => ?_)
  have hE : (.inl (ca id, mN M id, .inl (upd (mI M id) i.toNatClampNeg (vp_nar .byte x))) : va_E) = o_en ad ca (sI M id i.toNatClampNeg (vp_nar .byte x)) id := by
    rw [o_en_arr ht, o_ar_i rfl]
    have : upd (mI M id) i.toNatClampNeg (vp_nar .byte x) = mI (sI M id i.toNatClampNeg (vp_nar .byte x)) id := funext fun j => by rw [mI_sI]; by_cases h : j = i.toNatClampNeg <;> simp [upd, h]
    rw [this]; rfl
  have hwd' : o_wd base D s ad ca (sI M id i.toNatClampNeg (vp_nar .byte x)) H1 := o_wd_set hwd hq0 rfl hE (fun a ha j => by rw [mI_sI, if_neg (fun h => ha h.1)]) (fun _ _ _ => rfl) (fun _ _ _ => rfl) (fun _ _ => rfl) (fun j a h => hwd.2.2.1 id hid j a h) hP1 hD1
  exact kk base p e s m args below meth c D Z ad0 L0 hcx hrt ad ca H1 locs1 ls hwd' hS1 hcn hls hlv (q_s0 (q_s0 (q_s0 hst))) hag hsub
theorem e_zast {id : Nat} {i : Int32} {x : Int32} (ht : o_ty id = .inr .boolean) (hin : vp_in i (mN M id)) (hdg : decode cc pc = .ok (.bastore, 1)) (kk : Ev l sc R own cc nL ret ini mc ms Q (pc + 1) lv st (sI M id i.toNatClampNeg (vp_nar .boolean x)) k n) : Ev l sc R own cc nL ret ini mc ms Q pc lv (iV x :: iV i :: rV (some id) :: st) M k n := by
  intro base p e s m args below meth c D Z ad0 L0 hcx hrt ad ca H locs ls hwd hS hcn hls hlv hst hag hsub
  have hid : id ∈ mL M := o_li_in (o_lv_of (q_sh (q_s0 (q_s0 hst)))) (o_16a ht (by decide))
  obtain ⟨q, hq0, hq, hK⟩ := o_arr hcx.2.2.2.2.2.2.2.2.1 hwd hid ht
  rw [o_ar_i rfl] at hq
  refine va_zast hcx.1 hcx.2.1 hK hwd.1 hwd.2.1 hS q 0 hq rfl hin hdg (fun H1 locs1 hP1 hD1 hS1 => ?_)
  have hE : (.inl (ca id, mN M id, .inl (upd (mI M id) i.toNatClampNeg (vp_nar .boolean x))) : va_E) = o_en ad ca (sI M id i.toNatClampNeg (vp_nar .boolean x)) id := by
    rw [o_en_arr ht, o_ar_i rfl]
    have : upd (mI M id) i.toNatClampNeg (vp_nar .boolean x) = mI (sI M id i.toNatClampNeg (vp_nar .boolean x)) id := funext fun j => by rw [mI_sI]; by_cases h : j = i.toNatClampNeg <;> simp [upd, h]
    rw [this]; rfl
  have hwd' : o_wd base D s ad ca (sI M id i.toNatClampNeg (vp_nar .boolean x)) H1 := o_wd_set hwd hq0 rfl hE (fun a ha j => by rw [mI_sI, if_neg (fun h => ha h.1)]) (fun _ _ _ => rfl) (fun _ _ _ => rfl) (fun _ _ => rfl) (fun j a h => hwd.2.2.1 id hid j a h) hP1 hD1
  exact kk base p e s m args below meth c D Z ad0 L0 hcx hrt ad ca H1 locs1 ls hwd' hS1 hcn hls hlv (q_s0 (q_s0 (q_s0 hst))) hag hsub
theorem e_last {id : Nat} {i : Int32} {x : Int64} (ht : o_ty id = .inr .long) (hin : vp_in i (mN M id)) (hdg : decode cc pc = .ok (.lastore, 1)) (kk : Ev l sc R own cc nL ret ini mc ms Q (pc + 1) lv st (sJ M id i.toNatClampNeg x) k n) : Ev l sc R own cc nL ret ini mc ms Q pc lv (jV x :: iV i :: rV (some id) :: st) M k n := by
  intro base p e s m args below meth c D Z ad0 L0 hcx hrt ad ca H locs ls hwd hS hcn hls hlv hst hag hsub
  have hid : id ∈ mL M := o_li_in (o_lv_of (q_sh (q_s0 (q_s0 hst)))) (o_16a ht (by decide))
  obtain ⟨q, hq0, hq, hK⟩ := o_arr hcx.2.2.2.2.2.2.2.2.1 hwd hid ht
  rw [o_ar_j rfl] at hq
  refine va_last hcx.1 hcx.2.1 hK hwd.1 hwd.2.1 hS q 0 hq rfl hin hdg (fun H1 locs1 hP1 hD1 hS1 => ?_)
  have hE : (.inl (ca id, mN M id, .inr (.inl (vp_updL (mJ M id) i.toNatClampNeg x))) : va_E) = o_en ad ca (sJ M id i.toNatClampNeg x) id := by
    rw [o_en_arr ht, o_ar_j rfl]
    have : vp_updL (mJ M id) i.toNatClampNeg x = mJ (sJ M id i.toNatClampNeg x) id := funext fun j => by rw [mJ_sJ]; by_cases h : j = i.toNatClampNeg <;> simp [vp_updL, h]
    rw [this]; rfl
  have hwd' : o_wd base D s ad ca (sJ M id i.toNatClampNeg x) H1 := o_wd_set hwd hq0 rfl hE (fun _ _ _ => rfl) (fun a ha j => by rw [mJ_sJ, if_neg (fun h => ha h.1)]) (fun _ _ _ => rfl) (fun _ _ => rfl) (fun j a h => hwd.2.2.1 id hid j a h) hP1 hD1
  exact kk base p e s m args below meth c D Z ad0 L0 hcx hrt ad ca H1 locs1 ls hwd' hS1 hcn hls hlv (q_s0 (q_s0 (q_s0 hst))) hag hsub
theorem e_aast {id b ci : Nat} {i : Int32} {r : vw_C} (ht : o_ty id = .inr (.object r.1)) (htb : o_ty b = .inl ci) (hc : o_cl[ci]? = some r) (hin : vp_in i (mN M id)) (hdg : decode cc pc = .ok (.aastore, 1)) (kk : Ev l sc R own cc nL ret ini mc ms Q (pc + 1) lv st (sR M id i.toNatClampNeg (some b)) k n) : Ev l sc R own cc nL ret ini mc ms Q pc lv (rV (some b) :: iV i :: rV (some id) :: st) M k n := by
  intro base p e s m args below meth c D Z ad0 L0 hcx hrt ad ca H locs ls hwd hS hcn hls hlv hst hag hsub
  have hid : id ∈ mL M := o_li_in (o_lv_of (q_sh (q_s0 (q_s0 hst)))) (o_16a ht (fun h => by cases h))
  have hbd : b ∈ mL M := o_li_in (o_lv_of (q_sh hst)) (o_16o htb)
  obtain ⟨q, hq0, hq, hK⟩ := o_arr hcx.2.2.2.2.2.2.2.2.1 hwd hid ht
  rw [o_ar_r rfl] at hq
  obtain ⟨q2, -, hq2⟩ := o_w_at (ad := ad) (ca := ca) hbd
  rw [o_en_obj htb] at hq2
  refine va_astq hcx.1 hcx.2.1 hK hwd.1 hwd.2.1 hS q 0 q2 ci hq rfl hq2 hc hin hdg (fun H1 locs1 hP1 hD1 hS1 => ?_)
  have hE : (.inl (ca id, mN M id, .inr (.inr (.inr (.inr (va_up (fun j => (mR M id j).map ad) i.toNatClampNeg (some (ad b))))))) : va_E) = o_en ad ca (sR M id i.toNatClampNeg (some b)) id := by
    rw [o_en_arr ht, o_ar_r rfl]
    have : va_up (fun j => (mR M id j).map ad) i.toNatClampNeg (some (ad b)) = fun j => (mR (sR M id i.toNatClampNeg (some b)) id j).map ad := funext fun j => by rw [mR_sR]; by_cases h : j = i.toNatClampNeg <;> simp [va_up, h]
    rw [this]; rfl
  have hwd' : o_wd base D s ad ca (sR M id i.toNatClampNeg (some b)) H1 := o_wd_set hwd hq0 rfl hE (fun _ _ _ => rfl) (fun _ _ _ => rfl) (fun a ha j => by rw [mR_sR, if_neg (fun h => ha h.1)]) (fun _ _ => rfl) (fun j a h => by
    rw [mR_sR] at h
    split at h
    · cases h; exact Or.inr hbd
    · exact hwd.2.2.1 id hid j a h) hP1 hD1
  exact kk base p e s m args below meth c D Z ad0 L0 hcx hrt ad ca H1 locs1 ls hwd' hS1 hcn hls hlv (q_s0 (q_s0 (q_s0 hst))) hag hsub
/-- the world with one cell more -/
theorem o_wd_new {base : Nat} {D : va_G} {U : State} {ad : Nat → Nat} {ca : Nat → ClassId} {H H1 : Heap} {id len q : Nat} {cA : ClassId} {E : va_E} (hwd : o_wd base D U ad ca M H) (hid : id ∉ mL M) (h16 : 16 ≤ id) (hE : E = o_en (va_up ad id q) (va_up ca id cA) (nW M id len) id) (hac : ∀ t, o_ty id = .inr t → ArrOfT U cA t ∧ va_RA U cA t)
    (hP : va_P D o_cl (o_w ad ca M ++ [(q, E)]) H1) (hD : va_D (o_A base) (o_w ad ca M ++ [(q, E)])) : o_wd base D U (va_up ad id q) (va_up ca id cA) (nW M id len) H1 ∧ ∀ a, o_li (mL M) a → va_up ad id q a = ad a := by
  obtain ⟨g1, g2, g3, g4⟩ := hwd
  have hag : ∀ a, o_li (mL M) a → va_up ad id q a = ad a := fun a ha => by
    have : a ≠ id := by
      rcases ha with h | h
      · omega
      · exact fun z => hid (z ▸ h)
    simp [va_up, this]
  have hs : o_w ad ca M ++ [(q, E)] = o_w (va_up ad id q) (va_up ca id cA) (nW M id len) := by
    unfold o_w
    rw [mL_nW, List.map_append, hE]
    congr 1
    · apply List.map_congr_left
      intro a ha
      have hne : a ≠ id := fun z => hid (z ▸ ha)
      rw [hag a (Or.inr ha), o_en_same (M := M) (ca := ca) (ca' := va_up ca id cA) ha g3 hag (by simp [va_up, hne]) (fun j => by rw [mI_nW, if_neg hne]) (fun j => by rw [mJ_nW, if_neg hne]) (fun j => by rw [mR_nW, if_neg hne]) (by rw [mN_nW, if_neg hne])]
    · simp [va_up]
  rw [hs] at hP hD
  refine ⟨⟨hP, hD, fun a ha j b hb => ?_, fun a ha => ?_⟩, hag⟩
  · rw [mL_nW, List.mem_append] at ha
    rw [mR_nW] at hb
    split at hb
    · cases hb
    · next hne =>
      rcases ha with ha | ha
      · rcases g3 a ha j b hb with h | h
        · exact Or.inl h
        · exact Or.inr (by rw [mL_nW]; exact List.mem_append_left _ h)
      · exact absurd (List.mem_singleton.mp ha) hne
  · rw [mL_nW, List.mem_append] at ha
    rcases ha with ha | ha
    · have hne : a ≠ id := fun z => hid (z ▸ ha)
      refine ⟨(g4 a ha).1, fun t ht => ?_⟩
      have := (g4 a ha).2 t ht
      simpa [va_up, hne] using this
    · have := List.mem_singleton.mp ha
      subst this
      exact ⟨h16, fun t ht => by simpa [va_up] using hac t ht⟩
/-- going on behind a making -/
theorem o_newgo {id len pc' : Nat} {k' n' : Nat} (hid : id ∉ mL M) (kk : Ev l sc R own cc nL ret ini mc ms Q pc' lv (rV (some id) :: st) (nW M id len) k' n')
    {base : Nat} {p : Program} {e : Env} {s : State} {m : MethodId} {args : Array Value} {below : List Frame} {meth : Method} {c : Code} {D : va_G} {Z : State → Prop} {ad0 : Nat → Nat} {L0 : List Nat} (hcx : o_cx base own cc nL ret ini p s m args meth c D) (hrt : o_rt base cc ret mc ms Q p l e R s m args below meth c D Z ad0 L0)
    {ad : Nat → Nat} {ca' : Nat → ClassId} {H1 : Heap} {locs : List Loc} {ls : Array Slot} {q : Nat} (hwd : o_wd base D s (va_up ad id q) ca' (nW M id len) H1) (hup : ∀ a, o_li (mL M) a → va_up ad id q a = ad a) (h16 : 16 ≤ id) (hS : va_S (o_A base) s.heap H1 locs) (hcn : o_cn base ad s ∧ o_sc base sc ad s) (hls : lv_has ls nL (lv.map fun q => (q.1, o_cv ad q.2))) (hlv : ∀ q ∈ lv, o_lv (mL M) q.2) (hst : ∀ v ∈ st, o_lv (mL M) v) (hag : ∀ id, o_li L0 id → ad id = ad0 id) (hsub : ∀ id ∈ L0, id ∈ mL M) :
    W p l e R s m args below meth c H1 locs k' n' Z (F0 m pc' ls (.ref q :: st.map (o_cv ad))) := by
  have hm : ∀ a ∈ mL M, a ∈ mL (nW M id len) := fun a ha => by rw [mL_nW]; exact List.mem_append_left _ ha
  have hk := kk base p e s m args below meth c D Z ad0 L0 hcx hrt (va_up ad id q) ca' H1 locs ls hwd hS ⟨o_cn_ad (fun i hi => hup i (Or.inl hi)) hcn.1, o_sc_ad (fun i hi => hup i (Or.inl hi)) hcn.2⟩ (by rw [o_lvmap hup hlv]; exact hls) (fun q hq => o_lv_mono hm (hlv q hq))
    (q_s1 (o_lv_r (fun a ha => Or.inr (by rw [mL_nW]; cases ha; exact List.mem_append_right _ List.mem_cons_self))) (fun v hv => o_lv_mono hm (hst v hv))) (fun a ha => by rw [hup a (by rcases ha with h | h; exact Or.inl h; exact Or.inr (hsub a h))]; exact hag a ha) (fun a ha => hm a (hsub a ha))
  rw [List.map_cons, o_stmap hup hst] at hk
  have e1 : o_cv (va_up ad id q) (rV (some id)) = .ref q := by simp [o_cv, va_rf, va_up]
  rw [e1] at hk
  exact hk
def o_plain (t : FieldType) : Bool := match t with
  | .float => false
  | .double => false
  | _ => true
theorem o_dflt {ad : Nat → Nat} {id j len : Nat} {t : FieldType} (h : o_plain t = true) : defaultValue t = o_cv ad (o_fv (nW M id len) id j t) := by
  cases t <;> first | (cases h; done) | (simp [o_fv, o_fk, mI_nW, mJ_nW, mR_nW, o_cv, defaultValue, va_rf])
theorem e_new {id ci index : Nat} {C : String} {T : u_T} {N : Nat} (hid : id ∉ mL M) (ht : o_ty id = .inl ci) (hc : o_cl[ci]? = some (C, T, N)) (hN : o_nf ci = N) (hin : ∀ w ∈ u_ws C T N, w ∈ o_T) (hty : ∀ k, k < N → parseFieldDescriptor (T k).2.2.1 = some (o_fy ci k)) (hpl : ∀ j, j < N → o_plain (o_fy ci j) = true)
    (w1 : Cond.classLink own index C ∈ o_T) (w2 : Cond.instantiable C N ∈ o_T) (w3 : Cond.initialized C ∈ o_T) (hcells : k + 1 ≤ R.cells) (hslots : n + N ≤ R.slots) (hdg : decode cc pc = .ok (.new index, 3)) (kk : Ev l sc R own cc nL ret ini mc ms Q (pc + 3) lv (rV (some id) :: st) (nW M id 0) (k + 1) (n + N)) : Ev l sc R own cc nL ret ini mc ms Q pc lv st M k n := by
  intro base p e s m args below meth c D Z ad0 L0 hcx hrt ad ca H locs ls hwd hS hcn hls hlv hst hag hsub
  have h16 := o_16o ht
  have hcx0 := hcx
  obtain ⟨hx, hb, hml, hr, hown, hini, hts, hnn, hK, hbase⟩ := hcx
  refine va_new (fs := o_fs ad (nW M id 0) id ci) hx hb hts hin (o_fy ci) hty hown (hts _ w1) (hts _ w2) (hts _ w3) hK hwd.1 hwd.2.1 hS (fun q h => Nat.le_trans hbase h) hc ?_ hcells hslots hdg (fun q H1 hP1 hD1 hS1 => ?_)
  · intro j hj
    unfold vp_V
    rw [List.getD_eq_getElem?_getD, o_fs_get (by rw [hN]; exact hj)]
    exact o_dflt (hpl j hj)
  · have hE : (.inr (ci, o_fs ad (nW M id 0) id ci) : va_E) = o_en (va_up ad id q) (va_up ca id 0) (nW M id 0) id := by
      rw [o_en_obj ht]
      have : o_fs ad (nW M id 0) id ci = o_fs (va_up ad id q) (nW M id 0) id ci := by
        unfold o_fs
        apply List.map_congr_left
        intro j hj
        have hj' : j < N := by rw [← hN]; exact List.mem_range.mp hj
        rw [← o_dflt (hpl j hj'), ← o_dflt (hpl j hj')]
      rw [this]
    obtain ⟨g1, g2⟩ := o_wd_new hwd hid h16 hE (fun t h => by rw [ht] at h; cases h) hP1 hD1
    exact o_newgo hid kk hcx0 hrt g1 g2 h16 hS1 hcn hls hlv hst hag hsub
theorem e_newa {id : Nat} {t : FieldType} {atype : ArrayType} {i : Int32} {N : Nat} (hid : id ∉ mL M) (ht : o_ty id = .inr t) (hty : newarray.typeOf atype = t) (hpl : o_plain t = true) (hk : o_fk t = 0 ∨ o_fk t = 1) (w : Cond.arrayClass t ∈ o_T) (hn : ¬ i < 0) (hN : i.toNatClampNeg = N) (hbytes : N * componentBytes t ≤ 536870912) (hcells : k + 1 ≤ R.cells) (hslots : n + N ≤ R.slots)
    (hdg : decode cc pc = .ok (.newarray atype, 2)) (kk : Ev l sc R own cc nL ret ini mc ms Q (pc + 2) lv (rV (some id) :: st) (nW M id N) (k + 1) (n + N)) : Ev l sc R own cc nL ret ini mc ms Q pc lv (iV i :: st) M k n := by
  intro base p e s m args below meth c D Z ad0 L0 hcx hrt ad ca H locs ls hwd hS hcn hls hlv hst hag hsub
  have h16 := o_16a ht (fun h => by rw [h] at hpl; cases hpl)
  have hcx0 := hcx
  obtain ⟨hx, hb, hml, hr, hown, hini, hts, hnn, hK, hbase⟩ := hcx
  refine va_newa (a0 := o_ar ad (nW M id N) id t) hx hb (by rw [hty]; exact hts _ w) hty hK hwd.1 hwd.2.1 hS (fun q h => Nat.le_trans hbase h) ?_ hn hN hbytes hcells hslots hdg (fun q cA H1 hK1 hP1 hD1 hS1 => ?_)
  · intro cA
    have hz : mN (nW M id N) id = N := by rw [mN_nW, if_pos rfl]
    have e1 : (mI (nW M id N) id) = fun _ => 0 := funext fun j => by rw [mI_nW, if_pos rfl]
    have e2 : (mJ (nW M id N) id) = fun _ => 0 := funext fun j => by rw [mJ_nW, if_pos rfl]
    cases t <;> first | (cases hpl; done) | (rw [o_ar_i rfl, hz, e1]; rfl) | (rw [o_ar_j rfl, hz, e2]; rfl) | (rcases hk with h | h <;> cases h)
  · have hE : (.inl (cA, o_ar ad (nW M id N) id t) : va_E) = o_en (va_up ad id q) (va_up ca id cA) (nW M id N) id := by
      rw [o_en_arr ht]
      have e1 : va_up ca id cA id = cA := by simp [va_up]
      rw [e1]
      rcases hk with h | h
      · rw [o_ar_i h, o_ar_i h]
      · rw [o_ar_j h, o_ar_j h]
    obtain ⟨g1, g2⟩ := o_wd_new hwd hid h16 hE (fun t' h => by
      rw [ht] at h; cases h
      exact hK1.2 0 (cA, t) rfl) hP1 hD1
    exact o_newgo hid kk hcx0 hrt g1 g2 h16 hS1 hcn hls hlv (q_s0 hst) hag hsub
theorem e_anew {id index : Nat} {C : String} {i : Int32} {N : Nat} (hid : id ∉ mL M) (ht : o_ty id = .inr (.object C)) (w1 : Cond.classLink own index C ∈ o_T) (w2 : C ∈ o_O) (hn : ¬ i < 0) (hN : i.toNatClampNeg = N) (hbytes : N * 4 ≤ 536870912) (hcells : k + 1 ≤ R.cells) (hslots : n + N ≤ R.slots)
    (hdg : decode cc pc = .ok (.anewarray index, 3)) (kk : Ev l sc R own cc nL ret ini mc ms Q (pc + 3) lv (rV (some id) :: st) (nW M id N) (k + 1) (n + N)) : Ev l sc R own cc nL ret ini mc ms Q pc lv (iV i :: st) M k n := by
  intro base p e s m args below meth c D Z ad0 L0 hcx hrt ad ca H locs ls hwd hS hcn hls hlv hst hag hsub
  have h16 := o_16a ht (fun h => by cases h)
  have hcx0 := hcx
  obtain ⟨hx, hb, hml, hr, hown, hini, hts, hnn, hK, hbase⟩ := hcx
  refine va_newq hx hb hown (hts _ w1) (hnn.2 C w2) hK hwd.1 hwd.2.1 hS (fun q h => Nat.le_trans hbase h) hn hN hbytes hcells hslots hdg (fun q cA H1 hK1 hP1 hD1 hS1 => ?_)
  have hE : (.inl (cA, N, .inr (.inr (.inr (.inr (fun _ => none))))) : va_E) = o_en (va_up ad id q) (va_up ca id cA) (nW M id N) id := by
    rw [o_en_arr ht, o_ar_r rfl]
    have e1 : va_up ca id cA id = cA := by simp [va_up]
    have e2 : (fun j => (mR (nW M id N) id j).map (va_up ad id q)) = fun _ => none := funext fun j => by rw [mR_nW, if_pos rfl]; rfl
    rw [e1, e2, mN_nW, if_pos rfl]
  obtain ⟨g1, g2⟩ := o_wd_new hwd hid h16 hE (fun t' h => by
    rw [ht] at h; cases h
    exact hK1.2 0 (cA, .object C) rfl) hP1 hD1
  exact o_newgo hid kk hcx0 hrt g1 g2 h16 hS1 hcn hls hlv (q_s0 hst) hag hsub
theorem e_objI {id index : Nat} (w1 : Cond.methodLink own index Lib.objectInit ∈ o_T) (w2 : Cond.instanceMethod Lib.objectInit ∈ o_T) (w3 : Cond.code Lib.objectInit ⟨#[0xb1]⟩ 1 none ∈ o_T) (hf : 1 ≤ R.frames) (hrest : o_rest st ≤ 8) (hlo : 20 ≤ R.locals) (hdg : decode cc pc = .ok (.invokespecial index, 3)) (kk : Ev l sc R own cc nL ret ini mc ms Q (pc + 3) lv st M k n) : Ev l sc R own cc nL ret ini mc ms Q pc lv (rV (some id) :: st) M k n := by
  intro base p e s m args below meth c D Z ad0 L0 hcx hrt ad ca H locs ls hwd hS hcn hls hlv hst hag hsub
  have hk := kk base p e s m args below meth c D Z ad0 L0 hcx hrt ad ca H locs ls hwd hS hcn hls hlv (q_s0 hst) hag hsub
  obtain ⟨hx, hb, hml, hr, hown, hini, hts, hnn, hK, hbase⟩ := hcx
  refine W.objInit hx hb hown (hts _ w1) (hts _ w2) (hts _ w3) rfl (by rw [hml]; exact hls.1) rfl hdg hf ?_ hk
  have := o_rest_le (ad := ad) (m := m) (pc := pc) (ls := ls) (st0 := (rV (some id) :: st).map (o_cv ad)) hrest
  omega
/-! the constants: KIND_ABOVE -/
theorem e_kind {index : Nat} (w : Cond.fieldLink own index "OrchestraYear" "KIND_ABOVE" "[I" ∈ o_T ∨ False) (hdg : decode cc pc = .ok (.getstatic index, 3)) (kk : Ev l sc R own cc nL ret ini mc ms Q (pc + 3) lv (rV (some 0) :: st) M k n) : Ev l sc R own cc nL ret ini mc ms Q pc lv st M k n := by
  intro base p e s m args below meth c D Z ad0 L0 hcx hrt ad ca H locs ls hwd hS hcn hls hlv hst hag hsub
  have hk := kk base p e s m args below meth c D Z ad0 L0 hcx hrt ad ca H locs ls hwd hS hcn hls hlv (q_s1 (o_lv_r (fun a h => Or.inl (by cases h; decide))) hst) hag hsub
  obtain ⟨hx, hb, hml, hr, hown, hini, hts, hnn, hK, hbase⟩ := hcx
  rcases w with w | w
  · exact va_gets hx hb hcn.1.1.1 hS hown (hts _ w) (fun _ h => h) hdg hk
  · exact w.elim
end OH
