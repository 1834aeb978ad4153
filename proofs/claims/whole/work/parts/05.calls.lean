/-! OWN LAYER, 4: contracts out of Ev; calls -/
def o_args : Nat → List o_V → List (Nat × o_V)
  | _, [] => []
  | i, v :: vs => (i, v) :: o_args (if o_cat v = 2 then i + 2 else i + 1) vs
theorem o_args_map (ad : Nat → Nat) : ∀ (i : Nat) (As : List o_V), (o_args i As).map (fun q => (q.1, o_cv ad q.2)) = lv_args i (As.map (o_cv ad))
  | _, [] => rfl
  | i, v :: vs => by
    simp only [o_args, List.map_cons, lv_args, o_cv_cat]
    rw [o_args_map ad _ vs]
theorem o_args_mem : ∀ (i : Nat) (As : List o_V) (q : Nat × o_V), q ∈ o_args i As → q.2 ∈ As
  | _, [], q, h => by simp [o_args] at h
  | i, v :: vs, q, h => by
    simp only [o_args, List.mem_cons] at h
    rcases h with rfl | h
    · exact List.mem_cons_self
    · exact List.mem_cons_of_mem _ (o_args_mem _ vs q h)
def o_size : List o_V → Nat
  | [] => 0
  | v :: vs => o_cat v + o_size vs
theorem o_size_lg (ad : Nat → Nat) : ∀ As : List o_V, (lg_sl (As.map (o_cv ad))).length = o_size As
  | [] => rfl
  | v :: vs => by
    have ih := o_size_lg ad vs
    simp only [lg_sl, List.map_cons, List.flatMap_cons, List.length_append, o_cv_cat, o_size] at ih ⊢
    rw [ih]
    rcases v with x | x | o <;> simp [o_cat]
theorem Ctr.mono {l : Launch} {y : MethodName} {cc : ByteArray} {nL : Nat} {ret : Option FieldType} {d mc ms : Nat} {As : List o_V} {M : o_M} {Q Q' : Option o_V → o_M → Prop} (h : Ctr l y cc nL ret d mc ms As M Q) (hQ : ∀ v M', Q v M' → Q' v M') : Ctr l y cc nL ret d mc ms As M Q' := by
  intro hA base D ad ca
  have h1 := h hA base D ad ca
  unfold Met at h1 ⊢
  intro p e ha hc hk s m args below hf hap hP hX
  obtain ⟨k, o, a1, a2, a3, ⟨⟨⟨v, M', ad', ca', b1, b2, b3⟩, b4⟩, b5⟩⟩ := h1 p e ha hc hk s m args below hf hap hP hX
  exact ⟨k, o, a1, a2, a3, ⟨⟨⟨v, M', ad', ca', b1, hQ v M' b2, b3⟩, b4⟩, b5⟩⟩
theorem o_rt_of {base : Nat} {cc : ByteArray} {ret : Option FieldType} {mc ms : Nat} {Q : Option o_V → o_M → Prop} {p : Program} {l : Launch} {e : Env} {R : Room} {s : State} {m : MethodId} {args : Array Value} {below : List Frame} {meth : Method} {c : Code} {D : va_G} {ad0 : Nat → Nat} {L0 : List Nat}
    (hx : p.tables.exec = Jvm.exec) (hb : c.code = cc) (hr : meth.sig.returnType = ret) (hlocks : meth.locks = false) : o_rt base cc ret mc ms Q p l e R s m args below meth c D (MQ below (o_Q base D ad0 L0 Q) args s mc ms (o_A base)) ad0 L0 := by
  intro v pc ls M ad ca H locs hdg hro hQ hwd hS hlv hag hsub
  have hq : ∀ t : State, t.heap = H → s.WarmedH t.vm → o_Q base D ad0 L0 Q args s (.returned (v.map (o_cv ad))) t := fun t ht hW => ⟨⟨v, M, ad, ca, rfl, hQ, hlv, hag, hsub, by rw [ht]; exact o_wd_moved hW.alike hwd⟩, hS.F ht⟩
  rcases ret with _ | ty
  · rcases v with _ | v
    · exact W.vret hx hb hr hq hS.2.2 hdg hlocks
    · exact absurd hro (by simp [o_ro])
  · rcases v with _ | v
    · exact absurd hro (by cases ty <;> simp [o_ro])
    · rcases v with x | x | o
      · cases ty <;> first | exact W.iret hx hb hr hq hS.2.2 hdg hlocks | exact W.zret hx hb hr hro hq hS.2.2 hdg hlocks | exact absurd hro (by simp [o_ro])
      · cases ty <;> first | exact W.lret hx hb hr hq hS.2.2 hdg hlocks | exact absurd hro (by simp [o_ro])
      · cases ty <;> first | exact W.aret hx hb hr (Or.inl ⟨_, rfl⟩) (va_rf_or _) hq hS.2.2 hdg hlocks | exact W.aret hx hb hr (Or.inr ⟨_, rfl⟩) (va_rf_or _) hq hS.2.2 hdg hlocks | exact absurd hro (by simp [o_ro])
theorem o_ctr {l : Launch} {y : MethodName} {cc : ByteArray} {nL : Nat} {ret : Option FieldType} {d mc ms : Nat} {As : List o_V} {M : o_M} {Q : Option o_V → o_M → Prop} {own : String} {ini : Bool} (hy : plainFor y = true) (ho : y.cls = own) (hi : ini = true → y.name = "<init>") (hn : o_size As ≤ nL)
    (h : Ev l none (o_rm d mc ms) own cc nL ret ini mc ms Q 0 (o_args 0 As) [] M 0 0) : Ctr l y cc nL ret d mc ms As M Q := by
  intro hA base D ad ca
  refine va_MetF (cc := cc) (maxL := nL) (ret := ret) hy rfl ?_
  intro p e s m args below meth c s₁ B hml hv
  obtain ⟨rfl, hwd, hcn, hnn, hK, hbase⟩ := hv
  have hts := atoms_spec (ws := .code y cc nL ret :: o_T) B.pre
  have hown : s.vm.findClass own = some m.cls := by rw [← ho]; exact findClass_of_methodNamed B.named
  have hl := lv_entry (As.map (o_cv ad)) (n := nL) (by rw [o_size_lg]; exact hn)
  rw [lg_entry_eq]
  generalize (lg_sl (As.map (o_cv ad)) ++ List.replicate (nL - (lg_sl (As.map (o_cv ad))).length) Slot.unset).toArray = ls at hl ⊢
  rw [← o_args_map] at hl
  exact h base p e s m _ below meth c D _ ad (mL M) ⟨B.exec, B.bytes, hml, B.returns, hown, fun z => (name_of_methodNamed B.named B.method).1.trans (hi z), fun w hw => hts w (List.mem_cons_of_mem _ hw), hnn, hK, hbase⟩
    (o_rt_of B.exec B.bytes B.returns B.notSynchronized) ad ca s.heap [] ls hwd va_S.rf ⟨hcn, trivial⟩ hl (fun q hq => hA _ (o_args_mem 0 As q hq)) (fun v hv => by cases hv) (fun _ _ => rfl) (fun _ h => h)
theorem o_good {y : MethodName} {cc : ByteArray} {nL : Nat} {ret : Option FieldType} (h : Cond.code y cc nL ret ∈ o_T) : GoodIn o_T (.code y cc nL ret :: o_T) := by
  intro w hw
  have hm : w ∈ o_T := by
    rcases List.mem_cons.mp hw with rfl | h1
    · exact h
    · exact h1
  exact ⟨hm, good_of_word (List.mem_filter.mp hm).2⟩
section OC
variable {l : Launch} {sc : Option (Nat × (Nat → Int32))} {R : Room} {own : String} {cc : ByteArray} {nL : Nat} {ret : Option FieldType} {ini : Bool} {mc ms : Nat} {Q : Option o_V → o_M → Prop} {pc : Nat} {lv : List (Nat × o_V)} {st : List o_V} {M : o_M} {k n : Nat}
theorem o_lvmap {L : List Nat} {ad ad' : Nat → Nat} (h : ∀ id, o_li L id → ad' id = ad id) (hl : ∀ q ∈ lv, o_lv L q.2) : (lv.map fun q => (q.1, o_cv ad' q.2)) = lv.map fun q => (q.1, o_cv ad q.2) := List.map_congr_left fun q hq => by rw [o_cv_eq h (hl q hq)]
theorem o_stmap {L : List Nat} {ad ad' : Nat → Nat} (h : ∀ id, o_li L id → ad' id = ad id) (hl : ∀ v ∈ st, o_lv L v) : st.map (o_cv ad') = st.map (o_cv ad) := List.map_congr_left fun q hq => o_cv_eq h (hl q hq)
/-- what a call gives, whatever its kind: the run of the callee, and the walk behind it -/
theorem o_tail {y : MethodName} {cc' : ByteArray} {nL' : Nat} {ret' : Option FieldType} {d' mc' ms' : Nat} {As : List o_V} {st0 : List o_V}
    (hM : Ctr l y cc' nL' ret' d' mc' ms' As M (fun v M' => Ev l sc R own cc nL ret ini mc ms Q (pc + 3) lv (v.toList ++ st) M' (k + mc') (n + ms'))) (hst : st0 = As.reverse ++ st)
    (hrun : ∀ (base : Nat) (p : Program) (e : Env) (s : State) (m : MethodId) (args : Array Value) (below : List Frame) (meth : Method) (c : Code) (D : va_G) (ad : Nat → Nat) (ca : Nat → ClassId) (H : Heap) (locs : List Loc) (ls : Array Slot), o_cx base own cc nL ret ini p s m args meth c D → ls.size = nL → o_wd base D s ad ca M H → (∀ v ∈ As, o_lv (mL M) v) →
      (∀ (Qc : Array Value → State → Outcome → State → Prop), Met l y (.code y cc' nL' ret' :: o_T) (o_rm d' mc' ms') (va_Pc (As.map (o_cv ad)) (o_pre base D ad ca M)) Qc mc' ms' (o_A base) → PreS s H (va_Pc (As.map (o_cv ad)) (o_pre base D ad ca M)) (As.map (o_cv ad)) →
        va_Run p l e R s m args below meth c H locs k n mc' ms' (F0 m pc ls ((As.reverse ++ st).map (o_cv ad))) (st.map (o_cv ad)) (Qc (As.map (o_cv ad)).toArray) (o_A base))) :
    Ev l sc R own cc nL ret ini mc ms Q pc lv st0 M k n := by
  subst hst
  intro base p e s m args below meth c D Z ad0 L0 hcx hrt ad ca H locs ls hwd hS hcn hls hlv hst hag hsub
  have hA : ∀ v ∈ As, o_lv (mL M) v := fun v hv => hst v (List.mem_append_left _ (List.mem_reverse.mpr hv))
  have hrest : ∀ v ∈ st, o_lv (mL M) v := fun v hv => hst v (List.mem_append_right _ hv)
  have hbase : base ≤ s.heap.size := hcx.2.2.2.2.2.2.2.2.2
  have hpre : PreS s H (va_Pc (As.map (o_cv ad)) (o_pre base D ad ca M)) (As.map (o_cv ad)) := by
    refine ⟨fun a U g mk q => ⟨q.1, o_pre_blind (u := U) (U := U.calling g mk a) rfl rfl q.2⟩, fun U hU hW => ⟨rfl, ?_⟩⟩
    refine ⟨by rw [hU]; exact o_wd_moved hW.alike hwd, o_cn_moved hW (fun a h1 h2 => by rw [hU]; exact hS.2.1 a h1 h2) hcn.1, o_nn_moved hW hcx.2.2.2.2.2.2.2.1, va_K.moved hW.alike hcx.2.2.2.2.2.2.2.2.1, by rw [hU]; exact Nat.le_trans hbase hS.1⟩
  have hr := hrun base p e s m args below meth c D ad ca H locs ls hcx hls.1 hwd hA _ (hM hA base D ad ca) hpre
  intro T hT X
  obtain ⟨v, st₀, t, T', L, h0, X', hL, e1, e2, ⟨⟨w, M', ad', ca', hv, hEv, hwlv, hag', hsub', hwd'⟩, hz, hk⟩, stp⟩ := hr T hT X
  cases hv
  rw [h0] at hz hk
  have hS' : va_S (o_A base) s.heap T'.heap (locs ++ L) := ⟨Nat.le_trans hS.1 (by rw [e1]; exact hz), fun q h1 h2 => by rw [e1, hk q (Nat.lt_of_lt_of_le h1 hS.1) h2]; exact hS.2.1 q h1 h2, fun q hq => by
      rcases List.mem_append.mp hq with h | h
      · exact hS.2.2 q h
      · exact hL q h⟩
  have hal : t.vm.Alike s.vm := by rw [← e2]; exact X'.warmed.alike.symm
  have hgo := hEv base p e s m args below meth c D Z ad0 L0 hcx hrt ad' ca' T'.heap (locs ++ L) ls (by rw [e1]; exact o_wd_moved hal hwd') hS' ⟨o_cn_ad (fun i hi => hag' i (Or.inl hi)) hcn.1, o_sc_ad (fun i hi => hag' i (Or.inl hi)) hcn.2⟩ (by rw [o_lvmap hag' hlv]; exact hls)
    (fun q hq => o_lv_mono hsub' (hlv q hq)) (fun x hx => by
      rcases List.mem_append.mp hx with h | h
      · exact hwlv x (by simpa using h)
      · exact o_lv_mono hsub' (hrest x h)) (fun id hid => by
      rw [hag' id (by rcases hid with h | h; exact Or.inl h; exact Or.inr (hsub id h))]; exact hag id hid) (fun id hid => hsub' id (hsub id hid))
  have he : (w.toList ++ st).map (o_cv ad') = (w.map (o_cv ad')).toList ++ st.map (o_cv ad) := by
    rw [List.map_append, o_stmap hag' hrest]
    cases w <;> rfl
  rw [he] at hgo
  obtain ⟨t2, a1, b1⟩ := hgo T' rfl X'
  exact ⟨t2, stp t2 a1, b1⟩
def o_rest (st : List o_V) : Nat := (st.map o_cat).sum
theorem o_rest_le {ad : Nat → Nat} {m : MethodId} {pc : Nat} {ls : Array Slot} {st0 : List Value} (h : o_rest st ≤ 8) : 2 * (F0 m pc ls st0).monitorRoom + ((st.map (o_cv ad)).map fun v => v.category).sum ≤ 8 := by
  refine lv_room ?_
  rw [List.map_map, show ((fun v => v.category) ∘ o_cv ad) = o_cat from funext fun v => o_cv_cat ad v]
  exact h
/-- a method that can be called: its words -/
def o_mt (y : MethodName) (cc : ByteArray) (nL : Nat) (ret : Option FieldType) (np : Nat) : Prop := Cond.code y cc nL ret ∈ o_T ∧ Cond.initialized y.cls ∈ o_T ∧ (y.cls ≠ "java/lang/invoke/MethodHandle" ∧ y.cls ≠ "java/lang/invoke/VarHandle" ∧ (parseMethodDescriptor y.desc).map (fun d => d.parameters.length) = some np)
def o_in (y : MethodName) : Prop := Cond.instanceMethod y ∈ o_T ∧ Cond.selects y.cls y y ∈ o_T
def o_lk (own : String) (index : Nat) (y : MethodName) : Prop := Cond.methodLink own index y ∈ o_T ∨ ∃ host, Cond.methodLinkNest own index y host ∈ o_N
def o_roomy (R : Room) (d nL : Nat) : Prop := d + 1 ≤ R.frames ∧ 8 + (nL + 11) + 40 * d ≤ R.locals
/-- the class of a cell -/
theorem o_recv {base : Nat} {D : va_G} {s : State} {ad : Nat → Nat} {ca : Nat → ClassId} {H : Heap} {a ci : Nat} {r : vw_C} (hK : va_K D o_cl [] s) (hwd : o_wd base D s ad ca M H) (ha : a ∈ mL M) (ht : o_ty a = .inl ci) (hc : o_cl[ci]? = some r) : ∃ cell : Cell, H[ad a]? = some cell ∧ cell.vm.isStatics = false ∧ s.vm.findClass r.1 = some cell.cls := by
  obtain ⟨q, -, hq⟩ := o_w_at (ad := ad) (ca := ca) ha
  have he : o_en ad ca M a = .inr (ci, o_fs ad M a ci) := by unfold o_en; rw [ht]
  rw [he] at hq
  exact va_recv hK hwd.1 hc hq
theorem e_callV {y : MethodName} {cc' : ByteArray} {nL' : Nat} {ret' : Option FieldType} {d' mc' ms' : Nat} {a : Nat} {As : List o_V} {st0 : List o_V} {index ci np : Nat} {T : u_T} {N : Nat}
    (hm : o_mt y cc' nL' ret' np) (hi : o_in y) (hlk : o_lk own index y) (hc : o_cl[ci]? = some (y.cls, T, N)) (ht : o_ty a = .inl ci) (hR : o_roomy R d' nL') (hrest : o_rest st ≤ 8) (hf : k + mc' ≤ R.cells ∧ n + ms' ≤ R.slots) (hnp : As.length = np) (hst : st0 = (rV (some a) :: As).reverse ++ st)
    (hdg : decode cc pc = .ok (.invokevirtual index, 3))
    (hM : Ctr l y cc' nL' ret' d' mc' ms' (rV (some a) :: As) M (fun v M' => Ev l sc R own cc nL ret ini mc ms Q (pc + 3) lv (v.toList ++ st) M' (k + mc') (n + ms'))) :
    Ev l sc R own cc nL ret ini mc ms Q pc lv st0 M k n := by
  refine o_tail hM hst ?_
  intro base p e s m args below meth c D ad ca H locs ls hcx hls hwd hA Qc hMet hpre
  obtain ⟨hx, hb, hml, hr, hown, hini, hts, hnn, hK, hbase⟩ := hcx
  have h16 : 16 ≤ a := o_ty16 (by rw [ht]; exact fun h => by cases h)
  have hin : a ∈ mL M := o_li_in (o_lv_of (hA _ List.mem_cons_self)) h16
  have hrec := o_recv hK hwd hin ht hc
  have hstk : ((rV (some a) :: As).reverse ++ st).map (o_cv ad) = (As.map (o_cv ad)).reverse ++ .ref (ad a) :: st.map (o_cv ad) := by simp [o_cv, va_rf]
  have hlen : (As.map (o_cv ad)).length = np := by rw [List.length_map]; exact hnp
  have hg := o_good hm.1
  rcases hlk with hlk | ⟨host, hlk⟩
  · exact va_runV (C := y.cls) (b := ad a) (As := As.map (o_cv ad)) ⟨hx, hb, hml, hown, hts⟩ hMet ⟨callB_of np hts hg rfl rfl rfl (hts _ hm.2.1) (hts _ hlk) hm.2.2 hR, hts _ hi.1, hts _ hi.2⟩ ⟨hpre.1, hrec, hpre.2⟩ rfl hlen hls hstk (o_rest_le hrest) hdg hf
  · exact va_runVN (C := y.cls) (host := host) (b := ad a) (As := As.map (o_cv ad)) ⟨hx, hb, hml, hown, hts⟩ hMet ⟨va_cnB np hts hg rfl rfl rfl (hnn.1 _ hlk) (hts _ hm.2.1) hm.2.2 hR, hts _ hi.1, hts _ hi.2⟩ ⟨hpre.1, hrec, hpre.2⟩ rfl hlen hls hstk (o_rest_le hrest) hdg hf
theorem e_callS {y : MethodName} {cc' : ByteArray} {nL' : Nat} {ret' : Option FieldType} {d' mc' ms' : Nat} {As : List o_V} {st0 : List o_V} {index np : Nat}
    (hm : o_mt y cc' nL' ret' np) (hi : Cond.static y ∈ o_T) (hlk : o_lk own index y) (hR : o_roomy R d' nL') (hrest : o_rest st ≤ 8) (hf : k + mc' ≤ R.cells ∧ n + ms' ≤ R.slots) (hnp : As.length = np) (hst : st0 = As.reverse ++ st)
    (hdg : decode cc pc = .ok (.invokestatic index, 3))
    (hM : Ctr l y cc' nL' ret' d' mc' ms' As M (fun v M' => Ev l sc R own cc nL ret ini mc ms Q (pc + 3) lv (v.toList ++ st) M' (k + mc') (n + ms'))) :
    Ev l sc R own cc nL ret ini mc ms Q pc lv st0 M k n := by
  refine o_tail hM hst ?_
  intro base p e s m args below meth c D ad ca H locs ls hcx hls hwd hA Qc hMet hpre
  obtain ⟨hx, hb, hml, hr, hown, hini, hts, hnn, hK, hbase⟩ := hcx
  have hstk : (As.reverse ++ st).map (o_cv ad) = (As.map (o_cv ad)).reverse ++ st.map (o_cv ad) := by simp
  have hlen : (As.map (o_cv ad)).length = np := by rw [List.length_map]; exact hnp
  have hg := o_good hm.1
  rcases hlk with hlk | ⟨host, hlk⟩
  · exact va_runS ⟨hx, hb, hml, hown, hts⟩ hMet ⟨callB_of np hts hg rfl rfl rfl (hts _ hm.2.1) (hts _ hlk) hm.2.2 hR, hts _ hi⟩ hpre rfl hlen hls hstk (o_rest_le hrest) hdg hf
  · exact va_runSN (host := host) ⟨hx, hb, hml, hown, hts⟩ hMet ⟨va_cnB np hts hg rfl rfl rfl (hnn.1 _ hlk) (hts _ hm.2.1) hm.2.2 hR, hts _ hi, trivial⟩ hpre rfl hlen hls hstk (o_rest_le hrest) hdg hf
theorem e_callI {y : MethodName} {cc' : ByteArray} {nL' : Nat} {d' mc' ms' : Nat} {a : Nat} {As : List o_V} {st0 : List o_V} {index np : Nat}
    (hm : o_mt y cc' nL' none np) (hy : y.name = "<init>") (hi : Cond.instanceMethod y ∈ o_T) (hlk : o_lk own index y) (hR : o_roomy R d' nL') (hrest : o_rest st ≤ 8) (hf : k + mc' ≤ R.cells ∧ n + ms' ≤ R.slots) (hnp : As.length = np) (hst : st0 = (rV (some a) :: As).reverse ++ st)
    (hdg : decode cc pc = .ok (.invokespecial index, 3))
    (hM : Ctr l y cc' nL' none d' mc' ms' (rV (some a) :: As) M (fun v M' => Ev l sc R own cc nL ret ini mc ms Q (pc + 3) lv (v.toList ++ st) M' (k + mc') (n + ms'))) :
    Ev l sc R own cc nL ret ini mc ms Q pc lv st0 M k n := by
  refine o_tail hM hst ?_
  intro base p e s m args below meth c D ad ca H locs ls hcx hls hwd hA Qc hMet hpre
  obtain ⟨hx, hb, hml, hr, hown, hini, hts, hnn, hK, hbase⟩ := hcx
  have hstk : ((rV (some a) :: As).reverse ++ st).map (o_cv ad) = (As.map (o_cv ad)).reverse ++ .ref (ad a) :: st.map (o_cv ad) := by simp [o_cv, va_rf]
  have hlen : (As.map (o_cv ad)).length = np := by rw [List.length_map]; exact hnp
  have hg := o_good hm.1
  rcases hlk with hlk | ⟨host, hlk⟩
  · exact va_runI (b := ad a) (As := As.map (o_cv ad)) ⟨hx, hb, hml, hown, hts⟩ hMet ⟨callB_of np hts hg rfl rfl rfl (hts _ hm.2.1) (hts _ hlk) hm.2.2 hR, hy, hts _ hi⟩ hpre rfl hlen hls hstk (o_rest_le hrest) hdg hf
  · exact va_runIN (host := host) (b := ad a) (As := As.map (o_cv ad)) ⟨hx, hb, hml, hown, hts⟩ hMet ⟨va_cnB np hts hg rfl rfl rfl (hnn.1 _ hlk) (hts _ hm.2.1) hm.2.2 hR, hy, hts _ hi⟩ hpre rfl hlen hls hstk (o_rest_le hrest) hdg hf
end OC
