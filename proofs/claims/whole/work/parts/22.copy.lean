/-! OWN LAYER, 10: clone, copyOf -/
section OCL
variable {l : Launch} {sc : Option (Nat × (Nat → Int32))} {R : Room} {own : String} {cc : ByteArray} {nL : Nat} {ret : Option FieldType} {ini : Bool} {mc ms : Nat} {Q : Option o_V → o_M → Prop} {pc : Nat} {lv : List (Nat × o_V)} {st : List o_V} {M : o_M} {k n : Nat}
theorem e_clone {id id1 index : Nat} {t : FieldType} {nm : String} (hid : id1 ∉ mL M) (ht : o_ty id = .inr t) (ht1 : o_ty id1 = .inr t) (hfk : o_fk t = 0) (hpl : o_plain t = true) (hnm : "[" ++ t.toString = nm)
    (w1 : Cond.methodLink own index ⟨nm, "clone", "()Ljava/lang/Object;"⟩ ∈ o_T) (w2 : Cond.sameMethod nm "java/lang/Object" "clone" "()Ljava/lang/Object;" ∈ o_T) (w3 : Cond.native ⟨"java/lang/Object", "clone", "()Ljava/lang/Object;"⟩ ∈ o_T) (w4 : Cond.instanceMethod ⟨"java/lang/Object", "clone", "()Ljava/lang/Object;"⟩ ∈ o_T) (w5 : Cond.selects nm ⟨nm, "clone", "()Ljava/lang/Object;"⟩ ⟨"java/lang/Object", "clone", "()Ljava/lang/Object;"⟩ ∈ o_T) (w6 : Cond.castable nm "java/lang/Cloneable" ∈ o_N)
    (hfit : ∀ j, j < mN M id → fits t (.int (mI M id j)) = true) (hf : 1 ≤ R.frames) (hrest : o_rest st ≤ 8) (hlo : 30 ≤ R.locals) (hcells : k + 1 ≤ R.cells) (hslots : n + mN M id ≤ R.slots) (hdg : decode cc pc = .ok (.invokevirtual index, 3))
    (kk : Ev l sc R own cc nL ret ini mc ms Q (pc + 3) lv (rV (some id1) :: st) (sA (nW M id1 (mN M id)) id1 (mI M id)) (k + 1) (n + mN M id)) : Ev l sc R own cc nL ret ini mc ms Q pc lv (rV (some id) :: st) M k n := by
  intro base p e s m args below meth c D Z ad0 L0 hcx hrt ad ca H locs ls hwd hS hcn hls hlv hst hag hsub
  have hnf : t ≠ .float := fun h => by rw [h] at hpl; cases hpl
  have hin : id ∈ mL M := o_li_in (o_lv_of (q_sh hst)) (o_16a ht hnf)
  have h16 := o_16a ht1 hnf
  obtain ⟨q0, -, hq0, hK1⟩ := o_arr hcx.2.2.2.2.2.2.2.2.1 hwd hin ht
  rw [o_ar_i hfk] at hq0
  have hac := (hwd.2.2.2 id hin).2 t ht
  have hcx0 := hcx
  obtain ⟨hx, hb, hml, hr, hown, hini, hts, hnn, hK, hbase⟩ := hcx
  have hfind : s.vm.findClass nm = some (ca id) := by
    have h2 := hac.2
    rw [← hnm]
    cases t <;> first | exact h2 | (cases hfk; done)
  refine va_clone hx hb (by rw [hml]; exact hls.1.symm) hown (hts _ w1) (hts _ w2) (hts _ w3) (hts _ w4) (hts _ w5) (hnn.1 _ w6) hK1 hwd.1 hwd.2.1 hS (fun q h => Nat.le_trans hbase h) q0 0 hq0 rfl hfind ?_ hf ?_ hcells hslots hdg (fun q H1 hK2 hP1 hD1 hS1 => ?_)
  · intro i v hv
    rw [show vp_cell (ca id) (mN M id, .inl (mI M id)) = arrV (ca id) (mN M id) (fun j => .int (mI M id j)) from rfl] at hv
    have hlt : i < mN M id := by
      have := (Array.getElem?_eq_some_iff.mp hv).1
      rwa [arrV_size] at this
    rw [arrV_read _ _ hlt] at hv
    cases hv
    exact hfit i hlt
  · have := o_rest_le (ad := ad) (m := m) (pc := pc) (ls := ls) (st0 := []) hrest
    omega
  · have hM : mI (sA (nW M id1 (mN M id)) id1 (mI M id)) id1 = mI M id := funext fun j => by rw [mI_sA, if_pos rfl]
    have hne : id ≠ id1 := fun z => hid (z ▸ hin)
    -- the world with the new cell, then its row
    have hup : ∀ a, o_li (mL M) a → va_up ad id1 q a = ad a := fun a ha => by
      have : a ≠ id1 := by
        rcases ha with h | h
        · omega
        · exact fun z => hid (z ▸ h)
      simp [va_up, this]
    have hE : (.inl (ca id, mN M id, .inl (mI M id)) : va_E) = o_en (va_up ad id1 q) (va_up ca id1 (ca id)) (sA (nW M id1 (mN M id)) id1 (mI M id)) id1 := by
      rw [o_en_arr ht1, o_ar_i hfk, hM]
      have e1 : va_up ca id1 (ca id) id1 = ca id := by simp [va_up]
      have e2 : mN (sA (nW M id1 (mN M id)) id1 (mI M id)) id1 = mN M id := by rw [mN_sA, mN_nW, if_pos rfl]
      rw [e1, e2]
    obtain ⟨g1, g2, g3, g4⟩ := hwd
    have hs : o_w ad ca M ++ [(q, .inl (ca id, mN M id, .inl (mI M id)))] = o_w (va_up ad id1 q) (va_up ca id1 (ca id)) (sA (nW M id1 (mN M id)) id1 (mI M id)) := by
      rw [hE]
      unfold o_w
      rw [mL_sA, mL_nW, List.map_append]
      congr 1
      · apply List.map_congr_left
        intro a ha
        have hna : a ≠ id1 := fun z => hid (z ▸ ha)
        rw [hup a (Or.inr ha), o_en_same (M := M) (ca := ca) (ca' := va_up ca id1 (ca id)) ha g3 hup (by simp [va_up, hna]) (fun j => by rw [mI_sA, if_neg hna, mI_nW, if_neg hna]) (fun j => by rw [mJ_sA, mJ_nW, if_neg hna]) (fun j => by rw [mR_sA, mR_nW, if_neg hna]) (by rw [mN_sA, mN_nW, if_neg hna])]
      · simp [va_up]
    rw [hs] at hP1 hD1
    have hwd' : o_wd base D s (va_up ad id1 q) (va_up ca id1 (ca id)) (sA (nW M id1 (mN M id)) id1 (mI M id)) H1 := by
      refine ⟨hP1, hD1, fun a ha j b hb => ?_, fun a ha => ?_⟩
      · rw [mL_sA, mL_nW, List.mem_append] at ha
        rw [mR_sA, mR_nW] at hb
        split at hb
        · cases hb
        · next hna =>
          rcases ha with ha | ha
          · rcases g3 a ha j b hb with h | h
            · exact Or.inl h
            · exact Or.inr (by rw [mL_sA, mL_nW]; exact List.mem_append_left _ h)
          · exact absurd (List.mem_singleton.mp ha) hna
      · rw [mL_sA, mL_nW, List.mem_append] at ha
        rcases ha with ha | ha
        · have hna : a ≠ id1 := fun z => hid (z ▸ ha)
          refine ⟨(g4 a ha).1, fun t' ht' => ?_⟩
          have := (g4 a ha).2 t' ht'
          simpa [va_up, hna] using this
        · have := List.mem_singleton.mp ha
          subst this
          refine ⟨h16, fun t' ht' => ?_⟩
          rw [ht1] at ht'
          cases ht'
          simpa [va_up] using hac
    have hm : ∀ a ∈ mL M, a ∈ mL (sA (nW M id1 (mN M id)) id1 (mI M id)) := fun a ha => by rw [mL_sA, mL_nW]; exact List.mem_append_left _ ha
    have hst0 := q_s0 hst
    have hk := kk base p e s m args below meth c D Z ad0 L0 hcx0 hrt (va_up ad id1 q) (va_up ca id1 (ca id)) H1 locs ls hwd' hS1 ⟨o_cn_ad (fun i hi => hup i (Or.inl hi)) hcn.1, o_sc_ad (fun i hi => hup i (Or.inl hi)) hcn.2⟩ (by rw [o_lvmap hup hlv]; exact hls) (fun q hq => o_lv_mono hm (hlv q hq))
      (q_s1 (o_lv_r (fun a ha => Or.inr (by rw [mL_sA, mL_nW]; cases ha; exact List.mem_append_right _ List.mem_cons_self))) (fun v hv => o_lv_mono hm (hst0 v hv))) (fun a ha => by rw [hup a (by rcases ha with h | h; exact Or.inl h; exact Or.inr (hsub a h))]; exact hag a ha) (fun a ha => hm a (hsub a ha))
    rw [List.map_cons, o_stmap hup hst0] at hk
    have e1 : o_cv (va_up ad id1 q) (rV (some id1)) = .ref q := by simp [o_cv, va_rf, va_up]
    rw [e1] at hk
    exact hk
theorem e_castA {id index : Nat} {t : FieldType} {nm : String} (ht : o_ty id = .inr t) (hfk : o_fk t = 0) (hpl : o_plain t = true) (hnm : "[" ++ t.toString = nm) (w : Cond.classLink own index nm ∈ o_T) (hdg : decode cc pc = .ok (.checkcast index, 3)) (kk : Ev l sc R own cc nL ret ini mc ms Q (pc + 3) lv (rV (some id) :: st) M k n) : Ev l sc R own cc nL ret ini mc ms Q pc lv (rV (some id) :: st) M k n := by
  intro base p e s m args below meth c D Z ad0 L0 hcx hrt ad ca H locs ls hwd hS hcn hls hlv hst hag hsub
  have hnf : t ≠ .float := fun h => by rw [h] at hpl; cases hpl
  have hin : id ∈ mL M := o_li_in (o_lv_of (q_sh hst)) (o_16a ht hnf)
  obtain ⟨q0, -, hq0, hK1⟩ := o_arr hcx.2.2.2.2.2.2.2.2.1 hwd hin ht
  have hac := (hwd.2.2.2 id hin).2 t ht
  have hk := kk base p e s m args below meth c D Z ad0 L0 hcx hrt ad ca H locs ls hwd hS hcn hls hlv hst hag hsub
  obtain ⟨hx, hb, hml, hr, hown, hini, hts, hnn, hK, hbase⟩ := hcx
  have hfind : s.vm.findClass nm = some (ca id) := by
    have h2 := hac.2
    rw [← hnm]
    cases t <;> first | exact h2 | (cases hfk; done)
  exact va_castA hx hb hown (hts _ w) hwd.1 q0 hq0 hfind hdg hk
theorem e_copyB {id id1 index : Nat} {t : FieldType} {sp dp i : Int32} (hfk : o_fk t = 0) (hpl : o_plain t = true) (hrk : refKind t = false) (w1 : Cond.methodLink own index arraycopyName ∈ o_T) (ht : o_ty id = .inr t) (ht1 : o_ty id1 = .inr t) (hok : o_cpok sp dp i (mN M id) (mN M id1)) (hfit : ∀ j, j < i.toNatClampNeg → fits t (.int (mI M id (sp.toNatClampNeg + j))) = true) (hf : 1 ≤ R.frames) (hrest : o_rest st ≤ 8) (hlo : 40 ≤ R.locals) (hdg : decode cc pc = .ok (.invokestatic index, 3))
    (kk : Ev l sc R own cc nL ret ini mc ms Q (pc + 3) lv st (sA M id1 (va_cpy (mI M id) (mI M id1) sp.toNatClampNeg dp.toNatClampNeg i.toNatClampNeg)) k n) : Ev l sc R own cc nL ret ini mc ms Q pc lv (iV i :: iV dp :: rV (some id1) :: iV sp :: rV (some id) :: st) M k n := by
  intro base p e s m args below meth c D Z ad0 L0 hcx hrt ad ca H locs ls hwd hS hcn hls hlv hst hag hsub
  have hnf : t ≠ .float := fun h => by rw [h] at hpl; cases hpl
  have hid1 : id1 ∈ mL M := o_li_in (o_lv_of (q_sh (q_s0 (q_s0 hst)))) (o_16a ht1 hnf)
  have hid : id ∈ mL M := o_li_in (o_lv_of (q_sh (q_s0 (q_s0 (q_s0 (q_s0 hst)))))) (o_16a ht hnf)
  obtain ⟨q0, -, hq0, -⟩ := o_arr hcx.2.2.2.2.2.2.2.2.1 hwd hid ht
  obtain ⟨q1, hq1', hq1, -⟩ := o_arr hcx.2.2.2.2.2.2.2.2.1 hwd hid1 ht1
  have hK2 := o_arr2 hcx.2.2.2.2.2.2.2.2.1 hwd hid ht hid1 ht1
  rw [o_ar_i hfk] at hq0 hq1
  have hcx0 := hcx
  obtain ⟨hx, hb, hml, hr, hown, hini, hts, hnn, hK, hbase⟩ := hcx
  obtain ⟨h1, h2, h3, h4, h5⟩ := hok
  refine va_copyi hx hb (by rw [hml]; exact hls.1.symm) hown (hts _ w1) (hts _ wc_2) (hts _ wc_3) (hts _ wc_4) hK2 hwd.1 hwd.2.1 hS q0 q1 0 1 hq0 hq1 rfl rfl hrk h1 h2 h3 h4 h5 hfit hf ?_ hdg (fun H1 locs1 hP1 hD1 hS1 => ?_)
  · have := o_rest_le (ad := ad) (m := m) (pc := pc) (ls := ls) (st0 := []) hrest
    have e1 : nativeFrameWords "java/lang/System" "arraycopy" 5 + 11 ≤ 32 := by decide
    omega
  · have hE : (.inl (ca id1, mN M id1, .inl (va_cpy (mI M id) (mI M id1) sp.toNatClampNeg dp.toNatClampNeg i.toNatClampNeg)) : va_E) = o_en ad ca (sA M id1 (va_cpy (mI M id) (mI M id1) sp.toNatClampNeg dp.toNatClampNeg i.toNatClampNeg)) id1 := by
      rw [o_en_arr ht1, o_ar_i hfk]
      have : mI (sA M id1 (va_cpy (mI M id) (mI M id1) sp.toNatClampNeg dp.toNatClampNeg i.toNatClampNeg)) id1 = va_cpy (mI M id) (mI M id1) sp.toNatClampNeg dp.toNatClampNeg i.toNatClampNeg := funext fun j => by rw [mI_sA, if_pos rfl]
      rw [this]; rfl
    have hwd' := o_wd_set (M' := sA M id1 (va_cpy (mI M id) (mI M id1) sp.toNatClampNeg dp.toNatClampNeg i.toNatClampNeg)) hwd hq1' rfl hE (fun a ha j => by rw [mI_sA, if_neg ha]) (fun _ _ _ => rfl) (fun _ _ _ => rfl) (fun _ _ => rfl) (fun j a h => hwd.2.2.1 id1 hid1 j a h) hP1 hD1
    exact kk base p e s m args below meth c D Z ad0 L0 hcx0 hrt ad ca H1 locs1 ls hwd' hS1 hcn hls hlv (q_s0 (q_s0 (q_s0 (q_s0 (q_s0 hst))))) hag hsub
end OCL
theorem cnI_1 : Cond.methodLink RJ7 316 ⟨"[I", "clone", "()Ljava/lang/Object;"⟩ ∈ o_T := o_wT (o_c2 (i := 174) rfl) rfl
theorem cnI_2 : Cond.sameMethod "[I" "java/lang/Object" "clone" "()Ljava/lang/Object;" ∈ o_T := o_wT (o_c2 (i := 175) rfl) rfl
theorem cnI_5 : Cond.selects "[I" ⟨"[I", "clone", "()Ljava/lang/Object;"⟩ ⟨"java/lang/Object", "clone", "()Ljava/lang/Object;"⟩ ∈ o_T := o_wT (o_c2 (i := 176) rfl) rfl
theorem cnI_6 : Cond.castable "[I" "java/lang/Cloneable" ∈ o_N := o_wN (o_c2 (i := 177) rfl) rfl
theorem cnI_7 : Cond.classLink RJ7 317 "[I" ∈ o_T := o_wT (o_c2 (i := 178) rfl) rfl
theorem cnB_1 : Cond.methodLink RJ7 310 ⟨"[B", "clone", "()Ljava/lang/Object;"⟩ ∈ o_T := o_wT (o_c2 (i := 160) rfl) rfl
theorem cnB_2 : Cond.sameMethod "[B" "java/lang/Object" "clone" "()Ljava/lang/Object;" ∈ o_T := o_wT (o_c2 (i := 161) rfl) rfl
theorem cnB_5 : Cond.selects "[B" ⟨"[B", "clone", "()Ljava/lang/Object;"⟩ ⟨"java/lang/Object", "clone", "()Ljava/lang/Object;"⟩ ∈ o_T := o_wT (o_c2 (i := 164) rfl) rfl
theorem cnB_6 : Cond.castable "[B" "java/lang/Cloneable" ∈ o_N := o_wN (o_c2 (i := 165) rfl) rfl
theorem cnB_7 : Cond.classLink RJ7 311 "[B" ∈ o_T := o_wT (o_c2 (i := 166) rfl) rfl
theorem cn_3 : Cond.native ⟨"java/lang/Object", "clone", "()Ljava/lang/Object;"⟩ ∈ o_T := o_wT (o_c2 (i := 162) rfl) rfl
theorem cn_4 : Cond.instanceMethod ⟨"java/lang/Object", "clone", "()Ljava/lang/Object;"⟩ ∈ o_T := o_wT (o_c2 (i := 163) rfl) rfl
theorem dJ7_copyOf_59c91_0 : decode cJ7_copyOf_59c91 0 = .ok (.iload_n 1, 1) := by decide +kernel
theorem dJ7_copyOf_59c91_1 : decode cJ7_copyOf_59c91 1 = .ok (.aload_n 0, 1) := by decide +kernel
theorem dJ7_copyOf_59c91_2 : decode cJ7_copyOf_59c91 2 = .ok (.arraylength, 1) := by decide +kernel
theorem dJ7_copyOf_59c91_3 : decode cJ7_copyOf_59c91 3 = .ok (.if_icmp .ne 11, 3) := by decide +kernel
theorem dJ7_copyOf_59c91_6 : decode cJ7_copyOf_59c91 6 = .ok (.aload_n 0, 1) := by decide +kernel
theorem dJ7_copyOf_59c91_7 : decode cJ7_copyOf_59c91 7 = .ok (.invokevirtual 316, 3) := by decide +kernel
theorem dJ7_copyOf_59c91_10 : decode cJ7_copyOf_59c91 10 = .ok (.checkcast 317, 3) := by decide +kernel
theorem dJ7_copyOf_59c91_13 : decode cJ7_copyOf_59c91 13 = .ok (.areturn, 1) := by decide +kernel
theorem dJ7_copyOf_59c91_14 : decode cJ7_copyOf_59c91 14 = .ok (.iload_n 1, 1) := by decide +kernel
theorem dJ7_copyOf_59c91_15 : decode cJ7_copyOf_59c91 15 = .ok (.newarray .int, 2) := by decide +kernel
theorem dJ7_copyOf_59c91_17 : decode cJ7_copyOf_59c91 17 = .ok (.astore_n 2, 1) := by decide +kernel
theorem dJ7_copyOf_59c91_18 : decode cJ7_copyOf_59c91 18 = .ok (.aload_n 0, 1) := by decide +kernel
theorem dJ7_copyOf_59c91_19 : decode cJ7_copyOf_59c91 19 = .ok (.iconst 0, 1) := by decide +kernel
theorem dJ7_copyOf_59c91_20 : decode cJ7_copyOf_59c91 20 = .ok (.aload_n 2, 1) := by decide +kernel
theorem dJ7_copyOf_59c91_21 : decode cJ7_copyOf_59c91 21 = .ok (.iconst 0, 1) := by decide +kernel
theorem dJ7_copyOf_59c91_22 : decode cJ7_copyOf_59c91 22 = .ok (.aload_n 0, 1) := by decide +kernel
theorem dJ7_copyOf_59c91_23 : decode cJ7_copyOf_59c91 23 = .ok (.arraylength, 1) := by decide +kernel
theorem dJ7_copyOf_59c91_24 : decode cJ7_copyOf_59c91 24 = .ok (.iload_n 1, 1) := by decide +kernel
theorem dJ7_copyOf_59c91_25 : decode cJ7_copyOf_59c91 25 = .ok (.invokestatic 304, 3) := by decide +kernel
theorem dJ7_copyOf_59c91_28 : decode cJ7_copyOf_59c91 28 = .ok (.invokestatic 150, 3) := by decide +kernel
theorem dJ7_copyOf_59c91_31 : decode cJ7_copyOf_59c91 31 = .ok (.aload_n 2, 1) := by decide +kernel
theorem dJ7_copyOf_59c91_32 : decode cJ7_copyOf_59c91 32 = .ok (.areturn, 1) := by decide +kernel
theorem dJ7_copyOf_9075b_0 : decode cJ7_copyOf_9075b 0 = .ok (.iload_n 1, 1) := by decide +kernel
theorem dJ7_copyOf_9075b_1 : decode cJ7_copyOf_9075b 1 = .ok (.aload_n 0, 1) := by decide +kernel
theorem dJ7_copyOf_9075b_2 : decode cJ7_copyOf_9075b 2 = .ok (.arraylength, 1) := by decide +kernel
theorem dJ7_copyOf_9075b_3 : decode cJ7_copyOf_9075b 3 = .ok (.if_icmp .ne 11, 3) := by decide +kernel
theorem dJ7_copyOf_9075b_6 : decode cJ7_copyOf_9075b 6 = .ok (.aload_n 0, 1) := by decide +kernel
theorem dJ7_copyOf_9075b_7 : decode cJ7_copyOf_9075b 7 = .ok (.invokevirtual 310, 3) := by decide +kernel
theorem dJ7_copyOf_9075b_10 : decode cJ7_copyOf_9075b 10 = .ok (.checkcast 311, 3) := by decide +kernel
theorem dJ7_copyOf_9075b_13 : decode cJ7_copyOf_9075b 13 = .ok (.areturn, 1) := by decide +kernel
theorem dJ7_copyOf_9075b_14 : decode cJ7_copyOf_9075b 14 = .ok (.iload_n 1, 1) := by decide +kernel
theorem dJ7_copyOf_9075b_15 : decode cJ7_copyOf_9075b 15 = .ok (.newarray .byte, 2) := by decide +kernel
theorem dJ7_copyOf_9075b_17 : decode cJ7_copyOf_9075b 17 = .ok (.astore_n 2, 1) := by decide +kernel
theorem dJ7_copyOf_9075b_18 : decode cJ7_copyOf_9075b 18 = .ok (.aload_n 0, 1) := by decide +kernel
theorem dJ7_copyOf_9075b_19 : decode cJ7_copyOf_9075b 19 = .ok (.iconst 0, 1) := by decide +kernel
theorem dJ7_copyOf_9075b_20 : decode cJ7_copyOf_9075b 20 = .ok (.aload_n 2, 1) := by decide +kernel
theorem dJ7_copyOf_9075b_21 : decode cJ7_copyOf_9075b 21 = .ok (.iconst 0, 1) := by decide +kernel
theorem dJ7_copyOf_9075b_22 : decode cJ7_copyOf_9075b 22 = .ok (.aload_n 0, 1) := by decide +kernel
theorem dJ7_copyOf_9075b_23 : decode cJ7_copyOf_9075b 23 = .ok (.arraylength, 1) := by decide +kernel
theorem dJ7_copyOf_9075b_24 : decode cJ7_copyOf_9075b 24 = .ok (.iload_n 1, 1) := by decide +kernel
theorem dJ7_copyOf_9075b_25 : decode cJ7_copyOf_9075b 25 = .ok (.invokestatic 304, 3) := by decide +kernel
theorem dJ7_copyOf_9075b_28 : decode cJ7_copyOf_9075b 28 = .ok (.invokestatic 150, 3) := by decide +kernel
theorem dJ7_copyOf_9075b_31 : decode cJ7_copyOf_9075b 31 = .ok (.aload_n 2, 1) := by decide +kernel
theorem dJ7_copyOf_9075b_32 : decode cJ7_copyOf_9075b 32 = .ok (.areturn, 1) := by decide +kernel
/-- what copyOf leaves behind -/
def o_cp (M M' : o_M) (a id N : Nat) : Prop := mL M' = mL M ++ [id] ∧ mN M' id = N ∧ (∀ j, j < N → mI M' id j = mI M a j) ∧ (∀ c, c ≠ id → (∀ j, mI M' c j = mI M c j) ∧ (∀ j, mJ M' c j = mJ M c j) ∧ (∀ j, mR M' c j = mR M c j) ∧ mN M' c = mN M c)
theorem w_J7_copyOf_59c91 (l : Launch) (a id N : Nat) (i : Int32) (ta : o_ty a = .inr .int) (tid : o_ty id = .inr .int) (M : o_M) (hid : id ∉ mL M) (hai0 : a ≠ id) (hi : i = nI N) (hN : N ≤ 300) (hle : N ≤ mN M a) (hl : mN M a < 2 ^ 31) (hfit : ∀ j, j < N → fits .int (.int (mI M a j)) = true) (hmin : ∀ (x y : Int32) (M : o_M) (q : Int32 → o_M → Prop), q (if x ≤ y then x else y) M → K_J9_min_7cf53 l [iV x, iV y] M q) (q : Option Nat → o_M → Prop) (h : ∀ M', o_cp M M' a id N → q (some id) M') : K_J7_copyOf_59c91 l [rV (some a), iV i] M q := by
  refine o_ctr (ini := false) (by decide +kernel) rfl (fun z => by cases z) (Nat.le_of_ble_eq_true rfl) ?_
  show E_J7_copyOf_59c91 l q 0 [(0, rV (some a)), (1, iV i)] [] M 0 0
  have hnf : (.int : FieldType) ≠ .float := by decide
  refine e_iload_n dJ7_copyOf_59c91_0 rfl rfl ?_
  refine e_aload_n dJ7_copyOf_59c91_1 rfl rfl ?_
  refine e_alen ta hnf rfl dJ7_copyOf_59c91_2 ?_
  refine e_ic_ne (tgt := 14) dJ7_copyOf_59c91_3 (by decide) (fun c1 => ?_) (fun c1 => ?_)
  · refine e_iload_n dJ7_copyOf_59c91_14 rfl rfl ?_
    have hi0 : ¬ i < 0 := by rw [hi]; exact nI_pos (by omega)
    have hiN : i.toNatClampNeg = N := by rw [hi]; exact nI_clamp (by omega)
    have hbt : N * componentBytes .int ≤ 536870912 := by
      have h4 : componentBytes .int ≤ 4 := by decide
      have := Nat.mul_le_mul hN h4
      omega
    refine e_newa (id := id) (N := N) hid tid rfl rfl (Or.inl rfl) ac_int hi0 hiN hbt (by decide) (by show 0 + N ≤ 300; omega) dJ7_copyOf_59c91_15 ?_
    refine e_astore_n (lv' := [(2, rV (some id)), (0, rV (some a)), (1, iV i)]) dJ7_copyOf_59c91_17 rfl (by decide) rfl ?_
    refine e_aload_n dJ7_copyOf_59c91_18 rfl rfl ?_
    refine e_iconst (v := 0) dJ7_copyOf_59c91_19 (by decide) ?_
    refine e_aload_n dJ7_copyOf_59c91_20 rfl rfl ?_
    refine e_iconst (v := 0) dJ7_copyOf_59c91_21 (by decide) ?_
    refine e_aload_n dJ7_copyOf_59c91_22 rfl rfl ?_
    refine e_alen ta hnf rfl dJ7_copyOf_59c91_23 ?_
    refine e_iload_n dJ7_copyOf_59c91_24 rfl rfl ?_
    refine e_callS (As := [iV (Int32.ofNat (mN (nW M id N) a)), iV i]) (st := [iV 0, rV (some id), iV 0, rV (some a)]) mt_J9_min_7cf53 is_J9_min_7cf53 lkJ7_304 ⟨by decide, by decide⟩ (Nat.le_of_ble_eq_true rfl) ⟨Nat.le_of_ble_eq_true rfl, by show 0 + N + 0 ≤ 300; omega⟩ rfl rfl dJ7_copyOf_59c91_25 (Ctr.mono (hmin _ _ _ (fun r M1 => r = i ∧ M1 = nW M id N) ⟨?_, rfl⟩) (fun v M1 h1 => ?_))
    · have hne : a ≠ id → mN (nW M id N) a = mN M a := fun z => by rw [mN_nW, if_neg z]
      by_cases z : a = id
      · rw [mN_nW, if_pos z]
        rw [hi]
        split
        · rfl
        · rfl
      · rw [hne z, hi]
        split
        · next h2 =>
          have h3 : mN M a ≤ N := (nI_leI hl (by omega)).mp h2
          have : mN M a = N := by omega
          rw [this]; rfl
        · rfl
    · obtain ⟨r, rfl, rfl, rfl⟩ := h1
      show E_J7_copyOf_59c91 l q 28 [(2, rV (some id)), (0, rV (some a)), (1, iV r)] [iV r, iV 0, rV (some id), iV 0, rV (some a)] (nW M id N) 1 (0 + N + 0)
      have hai : a ≠ id → mN (nW M id N) a = mN M a := fun z => by rw [mN_nW, if_neg z]
      have e0 : (0 : Int32).toNatClampNeg = 0 := by decide
      have hna : N ≤ mN (nW M id N) a := by
        by_cases z : a = id
        · rw [mN_nW, if_pos z]; exact Nat.le_refl _
        · rw [hai z]; exact hle
      refine e_copyB (t := .int) rfl rfl rfl wcJ7_150 ta tid ⟨by decide, by decide, hi0, by rw [e0, hiN]; omega, by rw [e0, hiN, mN_nW, if_pos rfl]; omega⟩ ?_ (by decide) (Nat.le_of_ble_eq_true rfl) (by decide) dJ7_copyOf_59c91_28 ?_
      · intro j hj
        rw [hiN] at hj
        rw [e0, mI_nW]
        by_cases z : a = id
        · rw [if_pos z]; decide
        · rw [if_neg z]; exact hfit _ (by omega)
      · refine e_aload_n dJ7_copyOf_59c91_31 rfl rfl ?_
        refine e_widen (k' := 1) (n' := 300) (Nat.le_refl _) (by omega) ?_
        refine e_aret rfl trivial dJ7_copyOf_59c91_32 ⟨_, rfl, h _ ?_⟩
        refine ⟨by rw [mL_sA, mL_nW], by rw [mN_sA, mN_nW, if_pos rfl], fun j hj => ?_, fun c hc => ?_⟩
        · have haid : a ≠ id ∨ a = id := by by_cases z : a = id; exact Or.inr z; exact Or.inl z
          rw [mI_sA, if_pos rfl, e0, hiN, pk_cpy_in (Nat.zero_le _) (by omega)]
          rw [mI_nW]
          rcases haid with z | z
          · rw [if_neg z]; simp
          · exact absurd z hai0
        · exact ⟨fun j => by rw [mI_sA, if_neg hc, mI_nW, if_neg hc], fun j => by rw [mJ_sA, mJ_nW, if_neg hc], fun j => by rw [mR_sA, mR_nW, if_neg hc], by rw [mN_sA, mN_nW, if_neg hc]⟩
  · have hlen : mN M a = N := by
      have h2 : nI N = nI (mN M a) := by rw [← hi]; exact c1
      exact ((nI_eq (by omega) hl).mp h2).symm
    refine e_aload_n dJ7_copyOf_59c91_6 rfl rfl ?_
    refine e_clone (t := .int) (id1 := id) hid ta tid rfl rfl rfl cnI_1 cnI_2 cn_3 cn_4 cnI_5 cnI_6 (fun j hj => hfit j (by omega)) (by decide) (Nat.le_of_ble_eq_true rfl) (by decide) (by decide) (by show 0 + mN M a ≤ 300; omega) dJ7_copyOf_59c91_7 ?_
    refine e_castA (t := .int) tid rfl rfl rfl cnI_7 dJ7_copyOf_59c91_10 ?_
    refine e_widen (k' := 1) (n' := 300) (Nat.le_refl _) (by omega) ?_
    refine e_aret rfl trivial dJ7_copyOf_59c91_13 ⟨_, rfl, h _ ?_⟩
    refine ⟨by rw [mL_sA, mL_nW], by rw [mN_sA, mN_nW, if_pos rfl, hlen], fun j hj => by rw [mI_sA, if_pos rfl], fun c hc => ?_⟩
    exact ⟨fun j => by rw [mI_sA, if_neg hc, mI_nW, if_neg hc], fun j => by rw [mJ_sA, mJ_nW, if_neg hc], fun j => by rw [mR_sA, mR_nW, if_neg hc], by rw [mN_sA, mN_nW, if_neg hc]⟩
theorem w_J7_copyOf_9075b (l : Launch) (a id N : Nat) (i : Int32) (ta : o_ty a = .inr .byte) (tid : o_ty id = .inr .byte) (M : o_M) (hid : id ∉ mL M) (hai0 : a ≠ id) (hi : i = nI N) (hN : N ≤ 300) (hle : N ≤ mN M a) (hl : mN M a < 2 ^ 31) (hfit : ∀ j, j < N → fits .byte (.int (mI M a j)) = true) (hmin : ∀ (x y : Int32) (M : o_M) (q : Int32 → o_M → Prop), q (if x ≤ y then x else y) M → K_J9_min_7cf53 l [iV x, iV y] M q) (q : Option Nat → o_M → Prop) (h : ∀ M', o_cp M M' a id N → q (some id) M') : K_J7_copyOf_9075b l [rV (some a), iV i] M q := by
  refine o_ctr (ini := false) (by decide +kernel) rfl (fun z => by cases z) (Nat.le_of_ble_eq_true rfl) ?_
  show E_J7_copyOf_9075b l q 0 [(0, rV (some a)), (1, iV i)] [] M 0 0
  have hnf : (.byte : FieldType) ≠ .float := by decide
  refine e_iload_n dJ7_copyOf_9075b_0 rfl rfl ?_
  refine e_aload_n dJ7_copyOf_9075b_1 rfl rfl ?_
  refine e_alen ta hnf rfl dJ7_copyOf_9075b_2 ?_
  refine e_ic_ne (tgt := 14) dJ7_copyOf_9075b_3 (by decide) (fun c1 => ?_) (fun c1 => ?_)
  · refine e_iload_n dJ7_copyOf_9075b_14 rfl rfl ?_
    have hi0 : ¬ i < 0 := by rw [hi]; exact nI_pos (by omega)
    have hiN : i.toNatClampNeg = N := by rw [hi]; exact nI_clamp (by omega)
    have hbt : N * componentBytes .byte ≤ 536870912 := by
      have h4 : componentBytes .byte ≤ 4 := by decide
      have := Nat.mul_le_mul hN h4
      omega
    refine e_newa (id := id) (N := N) hid tid rfl rfl (Or.inl rfl) ac_byte hi0 hiN hbt (by decide) (by show 0 + N ≤ 300; omega) dJ7_copyOf_9075b_15 ?_
    refine e_astore_n (lv' := [(2, rV (some id)), (0, rV (some a)), (1, iV i)]) dJ7_copyOf_9075b_17 rfl (by decide) rfl ?_
    refine e_aload_n dJ7_copyOf_9075b_18 rfl rfl ?_
    refine e_iconst (v := 0) dJ7_copyOf_9075b_19 (by decide) ?_
    refine e_aload_n dJ7_copyOf_9075b_20 rfl rfl ?_
    refine e_iconst (v := 0) dJ7_copyOf_9075b_21 (by decide) ?_
    refine e_aload_n dJ7_copyOf_9075b_22 rfl rfl ?_
    refine e_alen ta hnf rfl dJ7_copyOf_9075b_23 ?_
    refine e_iload_n dJ7_copyOf_9075b_24 rfl rfl ?_
    refine e_callS (As := [iV (Int32.ofNat (mN (nW M id N) a)), iV i]) (st := [iV 0, rV (some id), iV 0, rV (some a)]) mt_J9_min_7cf53 is_J9_min_7cf53 lkJ7_304 ⟨by decide, by decide⟩ (Nat.le_of_ble_eq_true rfl) ⟨Nat.le_of_ble_eq_true rfl, by show 0 + N + 0 ≤ 300; omega⟩ rfl rfl dJ7_copyOf_9075b_25 (Ctr.mono (hmin _ _ _ (fun r M1 => r = i ∧ M1 = nW M id N) ⟨?_, rfl⟩) (fun v M1 h1 => ?_))
    · have hne : a ≠ id → mN (nW M id N) a = mN M a := fun z => by rw [mN_nW, if_neg z]
      by_cases z : a = id
      · rw [mN_nW, if_pos z]
        rw [hi]
        split
        · rfl
        · rfl
      · rw [hne z, hi]
        split
        · next h2 =>
          have h3 : mN M a ≤ N := (nI_leI hl (by omega)).mp h2
          have : mN M a = N := by omega
          rw [this]; rfl
        · rfl
    · obtain ⟨r, rfl, rfl, rfl⟩ := h1
      show E_J7_copyOf_9075b l q 28 [(2, rV (some id)), (0, rV (some a)), (1, iV r)] [iV r, iV 0, rV (some id), iV 0, rV (some a)] (nW M id N) 1 (0 + N + 0)
      have hai : a ≠ id → mN (nW M id N) a = mN M a := fun z => by rw [mN_nW, if_neg z]
      have e0 : (0 : Int32).toNatClampNeg = 0 := by decide
      have hna : N ≤ mN (nW M id N) a := by
        by_cases z : a = id
        · rw [mN_nW, if_pos z]; exact Nat.le_refl _
        · rw [hai z]; exact hle
      refine e_copyB (t := .byte) rfl rfl rfl wcJ7_150 ta tid ⟨by decide, by decide, hi0, by rw [e0, hiN]; omega, by rw [e0, hiN, mN_nW, if_pos rfl]; omega⟩ ?_ (by decide) (Nat.le_of_ble_eq_true rfl) (by decide) dJ7_copyOf_9075b_28 ?_
      · intro j hj
        rw [hiN] at hj
        rw [e0, mI_nW]
        by_cases z : a = id
        · rw [if_pos z]; decide
        · rw [if_neg z]; exact hfit _ (by omega)
      · refine e_aload_n dJ7_copyOf_9075b_31 rfl rfl ?_
        refine e_widen (k' := 1) (n' := 300) (Nat.le_refl _) (by omega) ?_
        refine e_aret rfl trivial dJ7_copyOf_9075b_32 ⟨_, rfl, h _ ?_⟩
        refine ⟨by rw [mL_sA, mL_nW], by rw [mN_sA, mN_nW, if_pos rfl], fun j hj => ?_, fun c hc => ?_⟩
        · have haid : a ≠ id ∨ a = id := by by_cases z : a = id; exact Or.inr z; exact Or.inl z
          rw [mI_sA, if_pos rfl, e0, hiN, pk_cpy_in (Nat.zero_le _) (by omega)]
          rw [mI_nW]
          rcases haid with z | z
          · rw [if_neg z]; simp
          · exact absurd z hai0
        · exact ⟨fun j => by rw [mI_sA, if_neg hc, mI_nW, if_neg hc], fun j => by rw [mJ_sA, mJ_nW, if_neg hc], fun j => by rw [mR_sA, mR_nW, if_neg hc], by rw [mN_sA, mN_nW, if_neg hc]⟩
  · have hlen : mN M a = N := by
      have h2 : nI N = nI (mN M a) := by rw [← hi]; exact c1
      exact ((nI_eq (by omega) hl).mp h2).symm
    refine e_aload_n dJ7_copyOf_9075b_6 rfl rfl ?_
    refine e_clone (t := .byte) (id1 := id) hid ta tid rfl rfl rfl cnB_1 cnB_2 cn_3 cn_4 cnB_5 cnB_6 (fun j hj => hfit j (by omega)) (by decide) (Nat.le_of_ble_eq_true rfl) (by decide) (by decide) (by show 0 + mN M a ≤ 300; omega) dJ7_copyOf_9075b_7 ?_
    refine e_castA (t := .byte) tid rfl rfl rfl cnB_7 dJ7_copyOf_9075b_10 ?_
    refine e_widen (k' := 1) (n' := 300) (Nat.le_refl _) (by omega) ?_
    refine e_aret rfl trivial dJ7_copyOf_9075b_13 ⟨_, rfl, h _ ?_⟩
    refine ⟨by rw [mL_sA, mL_nW], by rw [mN_sA, mN_nW, if_pos rfl, hlen], fun j hj => by rw [mI_sA, if_pos rfl], fun c hc => ?_⟩
    exact ⟨fun j => by rw [mI_sA, if_neg hc, mI_nW, if_neg hc], fun j => by rw [mJ_sA, mJ_nW, if_neg hc], fun j => by rw [mR_sA, mR_nW, if_neg hc], by rw [mN_sA, mN_nW, if_neg hc]⟩
