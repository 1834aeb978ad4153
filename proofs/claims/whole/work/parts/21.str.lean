/-! OWN LAYER, 9: the three String constants (ids 1 .. 3, their bytes 4 .. 6), two statics of the JDK -/
def o_by (i j : Nat) : Int32 := (o_sb.getD i []).getD j 0
def o_ln (i : Nat) : Nat := o_sl.getD i 0
section OS
variable {l : Launch} {sc : Option (Nat × (Nat → Int32))} {R : Room} {own : String} {cc : ByteArray} {nL : Nat} {ret : Option FieldType} {ini : Bool} {mc ms : Nat} {Q : Option o_V → o_M → Prop} {pc : Nat} {lv : List (Nat × o_V)} {st : List o_V} {M : o_M} {k n : Nat}
/-- as o_tail, with the constants -/
theorem o_tail2 {y : MethodName} {cc' : ByteArray} {nL' : Nat} {ret' : Option FieldType} {d' mc' ms' : Nat} {As : List o_V} {st0 : List o_V}
    (hM : Ctr l y cc' nL' ret' d' mc' ms' As M (fun v M' => Ev l sc R own cc nL ret ini mc ms Q (pc + 3) lv (v.toList ++ st) M' (k + mc') (n + ms'))) (hst : st0 = As.reverse ++ st)
    (hrun : ∀ (base : Nat) (p : Program) (e : Env) (s : State) (m : MethodId) (args : Array Value) (below : List Frame) (meth : Method) (c : Code) (D : va_G) (ad : Nat → Nat) (ca : Nat → ClassId) (H : Heap) (locs : List Loc) (ls : Array Slot), o_cx base own cc nL ret ini p s m args meth c D → ls.size = nL → o_wd base D s ad ca M H → (∀ v ∈ As, o_lv (mL M) v) → o_cn base ad s → va_S (o_A base) s.heap H locs →
      (∀ (Qc : Array Value → State → Outcome → State → Prop), Met l y (.code y cc' nL' ret' :: o_T) (o_rm d' mc' ms') (va_Pc (As.map (o_cv ad)) (o_pre base D ad ca M)) Qc mc' ms' (o_A base) → PreS s H (va_Pc (As.map (o_cv ad)) (o_pre base D ad ca M)) (As.map (o_cv ad)) →
        va_Run p l e R s m args below meth c H locs k n mc' ms' (F0 m pc ls ((As.reverse ++ st).map (o_cv ad))) (st.map (o_cv ad)) (Qc (As.map (o_cv ad)).toArray) (o_A base))) :
    Ev l sc R own cc nL ret ini mc ms Q pc lv st0 M k n := by
  subst hst
  intro base p e s m args below meth c D Z ad0 L0 hcx hrt ad ca H locs ls hwd hS hcn hls hlv hst hag hsub
  have hA : ∀ v ∈ As, o_lv (mL M) v := fun v hv => hst v (List.mem_append_left _ (List.mem_reverse.mpr hv))
  have hrest : ∀ v ∈ st, o_lv (mL M) v := fun v hv => hst v (List.mem_append_right _ hv)
  have hbase : base ≤ s.heap.size := hcx.2.2.2.2.2.2.2.2.2
  have hpre : PreS s H (va_Pc (As.map (o_cv ad)) (o_pre base D ad ca M)) (As.map (o_cv ad)) := by
    refine ⟨fun a U g mk q => ⟨q.1, o_pre_blind (u := U) (U := U.calling g mk a) rfl rfl q.2⟩, fun U hU hW => ⟨rfl, ?_⟩⟩
    refine ⟨by rw [hU]; exact o_wd_moved hW.alike hwd, o_cn_moved hW (fun a h1 h2 => by rw [hU]; exact hS.2.1 a h1 h2) hcn.1, o_nn_moved hW hcx.2.2.2.2.2.2.2.1, va_K.moved hW.alike hcx.2.2.2.2.2.2.2.2.1, by rw [hU]; exact Nat.le_trans hbase hS.1⟩
  have hr := hrun base p e s m args below meth c D ad ca H locs ls hcx hls.1 hwd hA hcn.1 hS _ (hM hA base D ad ca) hpre
  intro T hT X
  obtain ⟨v, st₀, t, T', L, h0, X', hL, e1, e2, ⟨⟨w, M', ad', ca', hv, hEv, hwlv, hag', hsub', hwd'⟩, hz, hk⟩, stp⟩ := hr T hT X
  cases hv
  rw [h0] at hz hk
  have hS' : va_S (o_A base) s.heap T'.heap (locs ++ L) := ⟨Nat.le_trans hS.1 (by rw [e1]; exact hz), fun q h1 h2 => by rw [e1, hk q (Nat.lt_of_lt_of_le h1 hS.1) h2]; exact hS.2.1 q h1 h2, fun q hq => by
      rcases List.mem_append.mp hq with h | h
      · exact hS.2.2 q h
      · exact hL q h⟩
  have hal : t.vm.Alike s.vm := by rw [← e2]; exact X'.warmed.alike.symm
  have hgo := hEv base p e s m args below meth c D Z ad0 L0 hcx hrt ad' ca' T'.heap (locs ++ L) ls (by rw [e1]; exact o_wd_moved hal hwd') hS' ⟨o_cn_ad (fun i hi => hag' i (Or.inl hi)) hcn.1, o_sc_ad (fun i hi => hag' i (Or.inl hi)) hcn.2⟩ (by rw [o_lvmap hag' hlv]; exact hls)
    (fun q hq => o_lv_mono hsub' (hlv q hq)) (fun x hx => by
      rcases List.mem_append.mp hx with h | h
      · exact hwlv x (by simpa using h)
      · exact o_lv_mono hsub' (hrest x h)) (fun id hid => by
      rw [hag' id (by rcases hid with h | h; exact Or.inl h; exact Or.inr (hsub id h))]; exact hag id hid) (fun id hid => hsub' id (hsub id hid))
  have he : (w.toList ++ st).map (o_cv ad') = (w.map (o_cv ad')).toList ++ st.map (o_cv ad) := by
    rw [List.map_append, o_stmap hag' hrest]
    cases w <;> rfl
  rw [he] at hgo
  obtain ⟨t2, a1, b1⟩ := hgo T' rfl X'
  exact ⟨t2, stp t2 a1, b1⟩
theorem o_lvc {L : List Nat} {a : Nat} (h : a < 16) : o_lv L (rV (some a)) := o_lv_r (fun b e => Or.inl (by cases e; exact h))
theorem e_ldcS {index : Nat} {i : Nat} (hi : (own = "OrchestraYear" ∧ index = 101 ∧ i = 0) ∨ (own = "OrchestraYear$Reader" ∧ index = 116 ∧ i = 1) ∨ (own = "OrchestraYear$Reader" ∧ index = 124 ∧ i = 2)) (hdg : decode cc pc = .ok (.ldc index, 2)) (kk : Ev l sc R own cc nL ret ini mc ms Q (pc + 2) lv (rV (some (1 + i)) :: st) M k n) : Ev l sc R own cc nL ret ini mc ms Q pc lv st M k n := by
  intro base p e s m args below meth c D Z ad0 L0 hcx hrt ad ca H locs ls hwd hS hcn hls hlv hst hag hsub
  have h16 : 1 + i < 16 := by rcases hi with ⟨-, -, h⟩ | ⟨-, -, h⟩ | ⟨-, -, h⟩ <;> omega
  have hk := kk base p e s m args below meth c D Z ad0 L0 hcx hrt ad ca H locs ls hwd hS hcn hls hlv (q_s1 (o_lvc h16) hst) hag hsub
  obtain ⟨hx, hb, hml, hr, hown, hini, hts, hnn, hK, hbase⟩ := hcx
  rcases hi with ⟨rfl, rfl, rfl⟩ | ⟨rfl, rfl, rfl⟩ | ⟨rfl, rfl, rfl⟩
  · exact va_ldcS hx hb hown hcn.1.2.1.2.1 hdg hk
  · exact va_ldcS hx hb hown hcn.1.2.1.2.2.1 hdg hk
  · exact va_ldcS hx hb hown hcn.1.2.1.2.2.2 hdg hk
theorem e_sval {i index : Nat} (hi : i < 3) (w : Cond.fieldLink own index "java/lang/String" "value" "[B" ∈ o_T) (hdg : decode cc pc = .ok (.getfield index, 3)) (kk : Ev l sc R own cc nL ret ini mc ms Q (pc + 3) lv (rV (some (4 + i)) :: st) M k n) : Ev l sc R own cc nL ret ini mc ms Q pc lv (rV (some (1 + i)) :: st) M k n := by
  intro base p e s m args below meth c D Z ad0 L0 hcx hrt ad ca H locs ls hwd hS hcn hls hlv hst hag hsub
  have hk := kk base p e s m args below meth c D Z ad0 L0 hcx hrt ad ca H locs ls hwd hS hcn hls hlv (q_s1 (o_lvc (by omega)) (q_s0 hst)) hag hsub
  obtain ⟨hx, hb, hml, hr, hown, hini, hts, hnn, hK, hbase⟩ := hcx
  exact vk_getf (ref := "java/lang/String") hx hb (hcn.1.2.1.1.1 i hi).2.2.1 hS hown (hts _ w) (fun _ h => h) hdg hk
theorem e_scod {i index : Nat} (hi : i < 3) (w : Cond.fieldLink own index "java/lang/String" "coder" "B" ∈ o_T) (hdg : decode cc pc = .ok (.getfield index, 3)) (kk : Ev l sc R own cc nL ret ini mc ms Q (pc + 3) lv (iV 0 :: st) M k n) : Ev l sc R own cc nL ret ini mc ms Q pc lv (rV (some (1 + i)) :: st) M k n := by
  intro base p e s m args below meth c D Z ad0 L0 hcx hrt ad ca H locs ls hwd hS hcn hls hlv hst hag hsub
  have hk := kk base p e s m args below meth c D Z ad0 L0 hcx hrt ad ca H locs ls hwd hS hcn hls hlv (q_s1 (o_lv_i _ _) (q_s0 hst)) hag hsub
  obtain ⟨hx, hb, hml, hr, hown, hini, hts, hnn, hK, hbase⟩ := hcx
  exact vk_getf (ref := "java/lang/String") hx hb (hcn.1.2.1.1.1 i hi).2.1 hS hown (hts _ w) (fun _ h => h) hdg hk
theorem e_sbld {i : Nat} {j : Int32} (hi : i < 3) (hin : vp_in j (o_ln i)) (hdg : decode cc pc = .ok (.baload, 1)) (kk : Ev l sc R own cc nL ret ini mc ms Q (pc + 1) lv (iV (o_by i j.toNatClampNeg) :: st) M k n) : Ev l sc R own cc nL ret ini mc ms Q pc lv (iV j :: rV (some (4 + i)) :: st) M k n := by
  intro base p e s m args below meth c D Z ad0 L0 hcx hrt ad ca H locs ls hwd hS hcn hls hlv hst hag hsub
  have hk := kk base p e s m args below meth c D Z ad0 L0 hcx hrt ad ca H locs ls hwd hS hcn hls hlv (q_s1 (o_lv_i _ _) (q_s0 (q_s0 hst))) hag hsub
  exact va_tb (v := .int (o_by i j.toNatClampNeg)) hcx.1 hcx.2.1 (hcn.1.2.1.1.1 i hi).2.2.2 hS hin rfl hdg hk
theorem e_sbn {i : Nat} (hi : i < 3) (hdg : decode cc pc = .ok (.arraylength, 1)) (kk : Ev l sc R own cc nL ret ini mc ms Q (pc + 1) lv (iV (Int32.ofNat (o_ln i)) :: st) M k n) : Ev l sc R own cc nL ret ini mc ms Q pc lv (rV (some (4 + i)) :: st) M k n := by
  intro base p e s m args below meth c D Z ad0 L0 hcx hrt ad ca H locs ls hwd hS hcn hls hlv hst hag hsub
  have hk := kk base p e s m args below meth c D Z ad0 L0 hcx hrt ad ca H locs ls hwd hS hcn hls hlv (q_s1 (o_lv_i _ _) (q_s0 hst)) hag hsub
  exact va_tlen (v := Int32.ofNat (o_ln i)) hcx.1 hcx.2.1 (hcn.1.2.1.1.1 i hi).2.2.2 hS rfl hdg hk
theorem e_cs {index : Nat} (w : Cond.fieldLink own index "java/lang/String" "COMPACT_STRINGS" "Z" ∈ o_T) (hdg : decode cc pc = .ok (.getstatic index, 3)) (kk : Ev l sc R own cc nL ret ini mc ms Q (pc + 3) lv (iV 1 :: st) M k n) : Ev l sc R own cc nL ret ini mc ms Q pc lv st M k n := by
  intro base p e s m args below meth c D Z ad0 L0 hcx hrt ad ca H locs ls hwd hS hcn hls hlv hst hag hsub
  have hk := kk base p e s m args below meth c D Z ad0 L0 hcx hrt ad ca H locs ls hwd hS hcn hls hlv (q_s1 (o_lv_i _ _) hst) hag hsub
  obtain ⟨hx, hb, hml, hr, hown, hini, hts, hnn, hK, hbase⟩ := hcx
  exact va_gets hx hb hcn.1.2.2.1 hS hown (hts _ w) (fun _ h => h) hdg hk
theorem e_sio {index : Nat} (w : Cond.fieldLink own index "jdk/internal/util/Preconditions" "SIOOBE_FORMATTER" "Ljava/util/function/BiFunction;" ∈ o_T) (hdg : decode cc pc = .ok (.getstatic index, 3)) (kk : ∀ o : Option Nat, Ev l sc R own cc nL ret ini mc ms Q (pc + 3) lv (rV o :: st) M k n) : Ev l sc R own cc nL ret ini mc ms Q pc lv st M k n := by
  intro base p e s m args below meth c D Z ad0 L0 hcx hrt ad ca H locs ls hwd hS hcn hls hlv hst hag hsub
  have hk1 := kk none base p e s m args below meth c D Z ad0 L0 hcx hrt ad ca H locs ls hwd hS hcn hls hlv (q_s1 (o_lv_n _) hst) hag hsub
  have hk2 := kk (some 7) base p e s m args below meth c D Z ad0 L0 hcx hrt ad ca H locs ls hwd hS hcn hls hlv (q_s1 (o_lvc (by decide)) hst) hag hsub
  obtain ⟨hx, hb, hml, hr, hown, hini, hts, hnn, hK, hbase⟩ := hcx
  rcases hcn.1.2.2.2 with h | h
  · exact va_gets hx hb h hS hown (hts _ w) (fun _ h => h) hdg hk1
  · exact va_gets hx hb h hS hown (hts _ w) (fun _ h => h) hdg hk2
theorem e_callT {y : MethodName} {cc' : ByteArray} {nL' : Nat} {ret' : Option FieldType} {d' mc' ms' : Nat} {i : Nat} {As : List o_V} {st0 : List o_V} {index np : Nat} (hi3 : i < 3) (hyc : y.cls = "java/lang/String")
    (hm : o_mt y cc' nL' ret' np) (hi : o_in y) (hlk : Cond.methodLink own index y ∈ o_T) (hR : o_roomy R d' nL') (hrest : o_rest st ≤ 8) (hf : k + mc' ≤ R.cells ∧ n + ms' ≤ R.slots) (hnp : As.length = np) (hst : st0 = (rV (some (1 + i)) :: As).reverse ++ st)
    (hdg : decode cc pc = .ok (.invokevirtual index, 3))
    (hM : Ctr l y cc' nL' ret' d' mc' ms' (rV (some (1 + i)) :: As) M (fun v M' => Ev l sc R own cc nL ret ini mc ms Q (pc + 3) lv (v.toList ++ st) M' (k + mc') (n + ms'))) :
    Ev l sc R own cc nL ret ini mc ms Q pc lv st0 M k n := by
  refine o_tail2 hM hst ?_
  intro base p e s m args below meth c D ad ca H locs ls hcx hls hwd hA hcn hS Qc hMet hpre
  obtain ⟨hx, hb, hml, hr, hown, hini, hts, hnn, hK, hbase⟩ := hcx
  have hrec := vk_recv hcn.2.1.1 hi3 hS
  have hstk : ((rV (some (1 + i)) :: As).reverse ++ st).map (o_cv ad) = (As.map (o_cv ad)).reverse ++ .ref (ad (1 + i)) :: st.map (o_cv ad) := by simp [o_cv, va_rf]
  have hlen : (As.map (o_cv ad)).length = np := by rw [List.length_map]; exact hnp
  have hg := o_good hm.1
  exact va_runV (C := y.cls) (b := ad (1 + i)) (As := As.map (o_cv ad)) ⟨hx, hb, hml, hown, hts⟩ hMet ⟨callB_of np hts hg rfl rfl rfl (hts _ hm.2.1) (hts _ hlk) hm.2.2 hR, hts _ hi.1, hts _ hi.2⟩ ⟨hpre.1, by rw [hyc]; exact hrec, hpre.2⟩ rfl hlen hls hstk (o_rest_le hrest) hdg hf
end OS
theorem sf_38 : Cond.fieldLink RJ0 38 "java/lang/String" "COMPACT_STRINGS" "Z" ∈ o_T := o_wT (o_c1 (i := 210) rfl) rfl
theorem sf_1053 : Cond.fieldLink RJ0 1053 "jdk/internal/util/Preconditions" "SIOOBE_FORMATTER" "Ljava/util/function/BiFunction;" ∈ o_T := o_wT (o_c1 (i := 226) rfl) rfl
theorem sf_9 : Cond.fieldLink RJ0 9 "java/lang/String" "value" "[B" ∈ o_T := o_wT (o_c7 (i := 167) rfl) rfl
theorem sf_15 : Cond.fieldLink RJ0 15 "java/lang/String" "coder" "B" ∈ o_T := o_wT (o_c7 (i := 168) rfl) rfl
theorem lmX11_103 : Cond.methodLink RX11 103 yJ0_length_8abf5 ∈ o_T := o_wT (o_c1 (i := 202) rfl) rfl
theorem lmJ0_335 : Cond.methodLink RJ0 335 yJ0_coder_7d493 ∈ o_T := o_wT (o_c1 (i := 206) rfl) rfl
theorem lmX11_109 : Cond.methodLink RX11 109 yJ0_charAt_5068e ∈ o_T := o_wT (o_c1 (i := 212) rfl) rfl
theorem lmJ0_492 : Cond.methodLink RJ0 492 yJ0_isLatin1_aae02 ∈ o_T := o_wT (o_c1 (i := 216) rfl) rfl
theorem lmJ1_9 : Cond.methodLink RJ1 9 yJ0_checkIndex_df160 ∈ o_T := o_wT (o_c1 (i := 223) rfl) rfl
theorem lmJ2_414 : Cond.methodLink RJ2 414 yJ0_checkIndex_df160 ∈ o_T := o_wT (o_c2 (i := 0) rfl) rfl
theorem lmX3_118 : Cond.methodLink RX3 118 yJ0_charAt_5068e ∈ o_T := o_wT (o_c2 (i := 33) rfl) rfl
theorem lmX3_126 : Cond.methodLink RX3 126 yJ0_indexOf_0f7a4 ∈ o_T := o_wT (o_c2 (i := 46) rfl) rfl
theorem lmJ0_633 : Cond.methodLink RJ0 633 yJ0_indexOf_7cf53 ∈ o_T := o_wT (o_c2 (i := 50) rfl) rfl
theorem lmJ0_505 : Cond.methodLink RJ0 505 yJ0_length_8abf5 ∈ o_T := o_wT (o_c2 (i := 54) rfl) rfl
theorem lmJ2_241 : Cond.methodLink RJ2 241 yJ0_checkBoundsBeginEnd_23922 ∈ o_T := o_wT (o_c2 (i := 82) rfl) rfl
theorem dJ3_checkIndex_8e157_0 : decode cJ3_checkIndex_8e157 0 = .ok (.iload_n 0, 1) := by decide +kernel
theorem dJ3_checkIndex_8e157_1 : decode cJ3_checkIndex_8e157 1 = .ok (.ifCond .lt 8, 3) := by decide +kernel
theorem dJ3_checkIndex_8e157_4 : decode cJ3_checkIndex_8e157 4 = .ok (.iload_n 0, 1) := by decide +kernel
theorem dJ3_checkIndex_8e157_5 : decode cJ3_checkIndex_8e157 5 = .ok (.iload_n 1, 1) := by decide +kernel
theorem dJ3_checkIndex_8e157_6 : decode cJ3_checkIndex_8e157 6 = .ok (.if_icmp .lt 10, 3) := by decide +kernel
theorem dJ3_checkIndex_8e157_9 : decode cJ3_checkIndex_8e157 9 = .ok (.aload_n 2, 1) := by decide +kernel
theorem dJ3_checkIndex_8e157_10 : decode cJ3_checkIndex_8e157 10 = .ok (.iload_n 0, 1) := by decide +kernel
theorem dJ3_checkIndex_8e157_11 : decode cJ3_checkIndex_8e157 11 = .ok (.iload_n 1, 1) := by decide +kernel
theorem dJ3_checkIndex_8e157_12 : decode cJ3_checkIndex_8e157 12 = .ok (.invokestatic 95, 3) := by decide +kernel
theorem dJ3_checkIndex_8e157_15 : decode cJ3_checkIndex_8e157 15 = .ok (.athrow, 1) := by decide +kernel
theorem dJ3_checkIndex_8e157_16 : decode cJ3_checkIndex_8e157 16 = .ok (.iload_n 0, 1) := by decide +kernel
theorem dJ3_checkIndex_8e157_17 : decode cJ3_checkIndex_8e157 17 = .ok (.ireturn, 1) := by decide +kernel
theorem dJ0_checkIndex_df160_0 : decode cJ0_checkIndex_df160 0 = .ok (.iload_n 0, 1) := by decide +kernel
theorem dJ0_checkIndex_df160_1 : decode cJ0_checkIndex_df160 1 = .ok (.iload_n 1, 1) := by decide +kernel
theorem dJ0_checkIndex_df160_2 : decode cJ0_checkIndex_df160 2 = .ok (.getstatic 1053, 3) := by decide +kernel
theorem dJ0_checkIndex_df160_5 : decode cJ0_checkIndex_df160 5 = .ok (.invokestatic 1059, 3) := by decide +kernel
theorem dJ0_checkIndex_df160_8 : decode cJ0_checkIndex_df160 8 = .ok (.pop, 1) := by decide +kernel
theorem dJ0_checkIndex_df160_9 : decode cJ0_checkIndex_df160 9 = .ok (.return_, 1) := by decide +kernel
theorem dJ0_isLatin1_aae02_0 : decode cJ0_isLatin1_aae02 0 = .ok (.getstatic 38, 3) := by decide +kernel
theorem dJ0_isLatin1_aae02_3 : decode cJ0_isLatin1_aae02 3 = .ok (.ifCond .eq 14, 3) := by decide +kernel
theorem dJ0_isLatin1_aae02_6 : decode cJ0_isLatin1_aae02 6 = .ok (.aload_n 0, 1) := by decide +kernel
theorem dJ0_isLatin1_aae02_7 : decode cJ0_isLatin1_aae02 7 = .ok (.getfield 15, 3) := by decide +kernel
theorem dJ0_isLatin1_aae02_10 : decode cJ0_isLatin1_aae02 10 = .ok (.ifCond .ne 7, 3) := by decide +kernel
theorem dJ0_isLatin1_aae02_13 : decode cJ0_isLatin1_aae02 13 = .ok (.iconst 1, 1) := by decide +kernel
theorem dJ0_isLatin1_aae02_14 : decode cJ0_isLatin1_aae02 14 = .ok (.goto 4, 3) := by decide +kernel
theorem dJ0_isLatin1_aae02_17 : decode cJ0_isLatin1_aae02 17 = .ok (.iconst 0, 1) := by decide +kernel
theorem dJ0_isLatin1_aae02_18 : decode cJ0_isLatin1_aae02 18 = .ok (.ireturn, 1) := by decide +kernel
theorem dJ0_coder_7d493_0 : decode cJ0_coder_7d493 0 = .ok (.getstatic 38, 3) := by decide +kernel
theorem dJ0_coder_7d493_3 : decode cJ0_coder_7d493 3 = .ok (.ifCond .eq 10, 3) := by decide +kernel
theorem dJ0_coder_7d493_6 : decode cJ0_coder_7d493 6 = .ok (.aload_n 0, 1) := by decide +kernel
theorem dJ0_coder_7d493_7 : decode cJ0_coder_7d493 7 = .ok (.getfield 15, 3) := by decide +kernel
theorem dJ0_coder_7d493_10 : decode cJ0_coder_7d493 10 = .ok (.goto 4, 3) := by decide +kernel
theorem dJ0_coder_7d493_13 : decode cJ0_coder_7d493 13 = .ok (.iconst 1, 1) := by decide +kernel
theorem dJ0_coder_7d493_14 : decode cJ0_coder_7d493 14 = .ok (.ireturn, 1) := by decide +kernel
theorem dJ0_length_8abf5_0 : decode cJ0_length_8abf5 0 = .ok (.aload_n 0, 1) := by decide +kernel
theorem dJ0_length_8abf5_1 : decode cJ0_length_8abf5 1 = .ok (.getfield 9, 3) := by decide +kernel
theorem dJ0_length_8abf5_4 : decode cJ0_length_8abf5 4 = .ok (.arraylength, 1) := by decide +kernel
theorem dJ0_length_8abf5_5 : decode cJ0_length_8abf5 5 = .ok (.aload_n 0, 1) := by decide +kernel
theorem dJ0_length_8abf5_6 : decode cJ0_length_8abf5 6 = .ok (.invokevirtual 335, 3) := by decide +kernel
theorem dJ0_length_8abf5_9 : decode cJ0_length_8abf5 9 = .ok (.ishr, 1) := by decide +kernel
theorem dJ0_length_8abf5_10 : decode cJ0_length_8abf5 10 = .ok (.ireturn, 1) := by decide +kernel
theorem dJ1_charAt_3b067_0 : decode cJ1_charAt_3b067 0 = .ok (.iload_n 1, 1) := by decide +kernel
theorem dJ1_charAt_3b067_1 : decode cJ1_charAt_3b067 1 = .ok (.aload_n 0, 1) := by decide +kernel
theorem dJ1_charAt_3b067_2 : decode cJ1_charAt_3b067 2 = .ok (.arraylength, 1) := by decide +kernel
theorem dJ1_charAt_3b067_3 : decode cJ1_charAt_3b067 3 = .ok (.invokestatic 9, 3) := by decide +kernel
theorem dJ1_charAt_3b067_6 : decode cJ1_charAt_3b067 6 = .ok (.aload_n 0, 1) := by decide +kernel
theorem dJ1_charAt_3b067_7 : decode cJ1_charAt_3b067 7 = .ok (.iload_n 1, 1) := by decide +kernel
theorem dJ1_charAt_3b067_8 : decode cJ1_charAt_3b067 8 = .ok (.baload, 1) := by decide +kernel
theorem dJ1_charAt_3b067_9 : decode cJ1_charAt_3b067 9 = .ok (.sipush 255, 3) := by decide +kernel
theorem dJ1_charAt_3b067_12 : decode cJ1_charAt_3b067 12 = .ok (.iand, 1) := by decide +kernel
theorem dJ1_charAt_3b067_13 : decode cJ1_charAt_3b067 13 = .ok (.i2c, 1) := by decide +kernel
theorem dJ1_charAt_3b067_14 : decode cJ1_charAt_3b067 14 = .ok (.ireturn, 1) := by decide +kernel
theorem dJ0_charAt_5068e_0 : decode cJ0_charAt_5068e 0 = .ok (.aload_n 0, 1) := by decide +kernel
theorem dJ0_charAt_5068e_1 : decode cJ0_charAt_5068e 1 = .ok (.invokevirtual 492, 3) := by decide +kernel
theorem dJ0_charAt_5068e_4 : decode cJ0_charAt_5068e 4 = .ok (.ifCond .eq 12, 3) := by decide +kernel
theorem dJ0_charAt_5068e_7 : decode cJ0_charAt_5068e 7 = .ok (.aload_n 0, 1) := by decide +kernel
theorem dJ0_charAt_5068e_8 : decode cJ0_charAt_5068e 8 = .ok (.getfield 9, 3) := by decide +kernel
theorem dJ0_charAt_5068e_11 : decode cJ0_charAt_5068e 11 = .ok (.iload_n 1, 1) := by decide +kernel
theorem dJ0_charAt_5068e_12 : decode cJ0_charAt_5068e 12 = .ok (.invokestatic 495, 3) := by decide +kernel
theorem dJ0_charAt_5068e_15 : decode cJ0_charAt_5068e 15 = .ok (.ireturn, 1) := by decide +kernel
theorem dJ0_charAt_5068e_16 : decode cJ0_charAt_5068e 16 = .ok (.aload_n 0, 1) := by decide +kernel
theorem dJ0_charAt_5068e_17 : decode cJ0_charAt_5068e 17 = .ok (.getfield 9, 3) := by decide +kernel
theorem dJ0_charAt_5068e_20 : decode cJ0_charAt_5068e 20 = .ok (.iload_n 1, 1) := by decide +kernel
theorem dJ0_charAt_5068e_21 : decode cJ0_charAt_5068e 21 = .ok (.invokestatic 498, 3) := by decide +kernel
theorem dJ0_charAt_5068e_24 : decode cJ0_charAt_5068e 24 = .ok (.ireturn, 1) := by decide +kernel
theorem dJ1_canEncode_9a6ad_0 : decode cJ1_canEncode_9a6ad 0 = .ok (.iload_n 0, 1) := by decide +kernel
theorem dJ1_canEncode_9a6ad_1 : decode cJ1_canEncode_9a6ad 1 = .ok (.ifCond .lt 14, 3) := by decide +kernel
theorem dJ1_canEncode_9a6ad_4 : decode cJ1_canEncode_9a6ad 4 = .ok (.iload_n 0, 1) := by decide +kernel
theorem dJ1_canEncode_9a6ad_5 : decode cJ1_canEncode_9a6ad 5 = .ok (.sipush 255, 3) := by decide +kernel
theorem dJ1_canEncode_9a6ad_8 : decode cJ1_canEncode_9a6ad 8 = .ok (.if_icmp .gt 7, 3) := by decide +kernel
theorem dJ1_canEncode_9a6ad_11 : decode cJ1_canEncode_9a6ad 11 = .ok (.iconst 1, 1) := by decide +kernel
theorem dJ1_canEncode_9a6ad_12 : decode cJ1_canEncode_9a6ad 12 = .ok (.goto 4, 3) := by decide +kernel
theorem dJ1_canEncode_9a6ad_15 : decode cJ1_canEncode_9a6ad 15 = .ok (.iconst 0, 1) := by decide +kernel
theorem dJ1_canEncode_9a6ad_16 : decode cJ1_canEncode_9a6ad 16 = .ok (.ireturn, 1) := by decide +kernel
theorem dJ1_indexOfChar_4cfef_0 : decode cJ1_indexOfChar_4cfef 0 = .ok (.iload_n 1, 1) := by decide +kernel
theorem dJ1_indexOfChar_4cfef_1 : decode cJ1_indexOfChar_4cfef 1 = .ok (.i2b, 1) := by decide +kernel
theorem dJ1_indexOfChar_4cfef_2 : decode cJ1_indexOfChar_4cfef 2 = .ok (.istore 4, 2) := by decide +kernel
theorem dJ1_indexOfChar_4cfef_4 : decode cJ1_indexOfChar_4cfef 4 = .ok (.iload_n 2, 1) := by decide +kernel
theorem dJ1_indexOfChar_4cfef_5 : decode cJ1_indexOfChar_4cfef 5 = .ok (.istore 5, 2) := by decide +kernel
theorem dJ1_indexOfChar_4cfef_7 : decode cJ1_indexOfChar_4cfef 7 = .ok (.iload 5, 2) := by decide +kernel
theorem dJ1_indexOfChar_4cfef_9 : decode cJ1_indexOfChar_4cfef 9 = .ok (.iload_n 3, 1) := by decide +kernel
theorem dJ1_indexOfChar_4cfef_10 : decode cJ1_indexOfChar_4cfef 10 = .ok (.if_icmp .ge 21, 3) := by decide +kernel
theorem dJ1_indexOfChar_4cfef_13 : decode cJ1_indexOfChar_4cfef 13 = .ok (.aload_n 0, 1) := by decide +kernel
theorem dJ1_indexOfChar_4cfef_14 : decode cJ1_indexOfChar_4cfef 14 = .ok (.iload 5, 2) := by decide +kernel
theorem dJ1_indexOfChar_4cfef_16 : decode cJ1_indexOfChar_4cfef 16 = .ok (.baload, 1) := by decide +kernel
theorem dJ1_indexOfChar_4cfef_17 : decode cJ1_indexOfChar_4cfef 17 = .ok (.iload 4, 2) := by decide +kernel
theorem dJ1_indexOfChar_4cfef_19 : decode cJ1_indexOfChar_4cfef 19 = .ok (.if_icmp .ne 6, 3) := by decide +kernel
theorem dJ1_indexOfChar_4cfef_22 : decode cJ1_indexOfChar_4cfef 22 = .ok (.iload 5, 2) := by decide +kernel
theorem dJ1_indexOfChar_4cfef_24 : decode cJ1_indexOfChar_4cfef 24 = .ok (.ireturn, 1) := by decide +kernel
theorem dJ1_indexOfChar_4cfef_25 : decode cJ1_indexOfChar_4cfef 25 = .ok (.iinc 5 1, 3) := by decide +kernel
theorem dJ1_indexOfChar_4cfef_28 : decode cJ1_indexOfChar_4cfef 28 = .ok (.goto (-21), 3) := by decide +kernel
theorem dJ1_indexOfChar_4cfef_31 : decode cJ1_indexOfChar_4cfef 31 = .ok (.iconst (-1), 1) := by decide +kernel
theorem dJ1_indexOfChar_4cfef_32 : decode cJ1_indexOfChar_4cfef 32 = .ok (.ireturn, 1) := by decide +kernel
theorem dJ1_indexOf_4cfef_0 : decode cJ1_indexOf_4cfef 0 = .ok (.iload_n 1, 1) := by decide +kernel
theorem dJ1_indexOf_4cfef_1 : decode cJ1_indexOf_4cfef 1 = .ok (.invokestatic 88, 3) := by decide +kernel
theorem dJ1_indexOf_4cfef_4 : decode cJ1_indexOf_4cfef 4 = .ok (.ifCond .ne 5, 3) := by decide +kernel
theorem dJ1_indexOf_4cfef_7 : decode cJ1_indexOf_4cfef 7 = .ok (.iconst (-1), 1) := by decide +kernel
theorem dJ1_indexOf_4cfef_8 : decode cJ1_indexOf_4cfef 8 = .ok (.ireturn, 1) := by decide +kernel
theorem dJ1_indexOf_4cfef_9 : decode cJ1_indexOf_4cfef 9 = .ok (.iload_n 2, 1) := by decide +kernel
theorem dJ1_indexOf_4cfef_10 : decode cJ1_indexOf_4cfef 10 = .ok (.iconst 0, 1) := by decide +kernel
theorem dJ1_indexOf_4cfef_11 : decode cJ1_indexOf_4cfef 11 = .ok (.invokestatic 92, 3) := by decide +kernel
theorem dJ1_indexOf_4cfef_14 : decode cJ1_indexOf_4cfef 14 = .ok (.istore_n 2, 1) := by decide +kernel
theorem dJ1_indexOf_4cfef_15 : decode cJ1_indexOf_4cfef 15 = .ok (.iload_n 3, 1) := by decide +kernel
theorem dJ1_indexOf_4cfef_16 : decode cJ1_indexOf_4cfef 16 = .ok (.aload_n 0, 1) := by decide +kernel
theorem dJ1_indexOf_4cfef_17 : decode cJ1_indexOf_4cfef 17 = .ok (.arraylength, 1) := by decide +kernel
theorem dJ1_indexOf_4cfef_18 : decode cJ1_indexOf_4cfef 18 = .ok (.invokestatic 38, 3) := by decide +kernel
theorem dJ1_indexOf_4cfef_21 : decode cJ1_indexOf_4cfef 21 = .ok (.istore_n 3, 1) := by decide +kernel
theorem dJ1_indexOf_4cfef_22 : decode cJ1_indexOf_4cfef 22 = .ok (.iload_n 2, 1) := by decide +kernel
theorem dJ1_indexOf_4cfef_23 : decode cJ1_indexOf_4cfef 23 = .ok (.iload_n 3, 1) := by decide +kernel
theorem dJ1_indexOf_4cfef_24 : decode cJ1_indexOf_4cfef 24 = .ok (.if_icmp .lt 5, 3) := by decide +kernel
theorem dJ1_indexOf_4cfef_27 : decode cJ1_indexOf_4cfef 27 = .ok (.iconst (-1), 1) := by decide +kernel
theorem dJ1_indexOf_4cfef_28 : decode cJ1_indexOf_4cfef 28 = .ok (.ireturn, 1) := by decide +kernel
theorem dJ1_indexOf_4cfef_29 : decode cJ1_indexOf_4cfef 29 = .ok (.aload_n 0, 1) := by decide +kernel
theorem dJ1_indexOf_4cfef_30 : decode cJ1_indexOf_4cfef 30 = .ok (.iload_n 1, 1) := by decide +kernel
theorem dJ1_indexOf_4cfef_31 : decode cJ1_indexOf_4cfef 31 = .ok (.iload_n 2, 1) := by decide +kernel
theorem dJ1_indexOf_4cfef_32 : decode cJ1_indexOf_4cfef 32 = .ok (.iload_n 3, 1) := by decide +kernel
theorem dJ1_indexOf_4cfef_33 : decode cJ1_indexOf_4cfef 33 = .ok (.invokestatic 95, 3) := by decide +kernel
theorem dJ1_indexOf_4cfef_36 : decode cJ1_indexOf_4cfef 36 = .ok (.ireturn, 1) := by decide +kernel
theorem dJ0_indexOf_7cf53_0 : decode cJ0_indexOf_7cf53 0 = .ok (.aload_n 0, 1) := by decide +kernel
theorem dJ0_indexOf_7cf53_1 : decode cJ0_indexOf_7cf53 1 = .ok (.invokevirtual 492, 3) := by decide +kernel
theorem dJ0_indexOf_7cf53_4 : decode cJ0_indexOf_7cf53 4 = .ok (.ifCond .eq 19, 3) := by decide +kernel
theorem dJ0_indexOf_7cf53_7 : decode cJ0_indexOf_7cf53 7 = .ok (.aload_n 0, 1) := by decide +kernel
theorem dJ0_indexOf_7cf53_8 : decode cJ0_indexOf_7cf53 8 = .ok (.getfield 9, 3) := by decide +kernel
theorem dJ0_indexOf_7cf53_11 : decode cJ0_indexOf_7cf53 11 = .ok (.iload_n 1, 1) := by decide +kernel
theorem dJ0_indexOf_7cf53_12 : decode cJ0_indexOf_7cf53 12 = .ok (.iload_n 2, 1) := by decide +kernel
theorem dJ0_indexOf_7cf53_13 : decode cJ0_indexOf_7cf53 13 = .ok (.aload_n 0, 1) := by decide +kernel
theorem dJ0_indexOf_7cf53_14 : decode cJ0_indexOf_7cf53 14 = .ok (.invokevirtual 505, 3) := by decide +kernel
theorem dJ0_indexOf_7cf53_17 : decode cJ0_indexOf_7cf53 17 = .ok (.invokestatic 637, 3) := by decide +kernel
theorem dJ0_indexOf_7cf53_20 : decode cJ0_indexOf_7cf53 20 = .ok (.goto 16, 3) := by decide +kernel
theorem dJ0_indexOf_7cf53_23 : decode cJ0_indexOf_7cf53 23 = .ok (.aload_n 0, 1) := by decide +kernel
theorem dJ0_indexOf_7cf53_24 : decode cJ0_indexOf_7cf53 24 = .ok (.getfield 9, 3) := by decide +kernel
theorem dJ0_indexOf_7cf53_27 : decode cJ0_indexOf_7cf53 27 = .ok (.iload_n 1, 1) := by decide +kernel
theorem dJ0_indexOf_7cf53_28 : decode cJ0_indexOf_7cf53 28 = .ok (.iload_n 2, 1) := by decide +kernel
theorem dJ0_indexOf_7cf53_29 : decode cJ0_indexOf_7cf53 29 = .ok (.aload_n 0, 1) := by decide +kernel
theorem dJ0_indexOf_7cf53_30 : decode cJ0_indexOf_7cf53 30 = .ok (.invokevirtual 505, 3) := by decide +kernel
theorem dJ0_indexOf_7cf53_33 : decode cJ0_indexOf_7cf53 33 = .ok (.invokestatic 640, 3) := by decide +kernel
theorem dJ0_indexOf_7cf53_36 : decode cJ0_indexOf_7cf53 36 = .ok (.ireturn, 1) := by decide +kernel
theorem dJ0_indexOf_0f7a4_0 : decode cJ0_indexOf_0f7a4 0 = .ok (.aload_n 0, 1) := by decide +kernel
theorem dJ0_indexOf_0f7a4_1 : decode cJ0_indexOf_0f7a4 1 = .ok (.iload_n 1, 1) := by decide +kernel
theorem dJ0_indexOf_0f7a4_2 : decode cJ0_indexOf_0f7a4 2 = .ok (.iconst 0, 1) := by decide +kernel
theorem dJ0_indexOf_0f7a4_3 : decode cJ0_indexOf_0f7a4 3 = .ok (.invokevirtual 633, 3) := by decide +kernel
theorem dJ0_indexOf_0f7a4_6 : decode cJ0_indexOf_0f7a4 6 = .ok (.ireturn, 1) := by decide +kernel
theorem dX3_spells_0 : decode cX3_spells 0 = .ok (.aload_n 0, 1) := by decide +kernel
theorem dX3_spells_1 : decode cX3_spells 1 = .ok (.getfield 43, 3) := by decide +kernel
theorem dX3_spells_4 : decode cX3_spells 4 = .ok (.aload_n 0, 1) := by decide +kernel
theorem dX3_spells_5 : decode cX3_spells 5 = .ok (.getfield 40, 3) := by decide +kernel
theorem dX3_spells_8 : decode cX3_spells 8 = .ok (.isub, 1) := by decide +kernel
theorem dX3_spells_9 : decode cX3_spells 9 = .ok (.bipush 7, 2) := by decide +kernel
theorem dX3_spells_11 : decode cX3_spells 11 = .ok (.if_icmp .le 5, 3) := by decide +kernel
theorem dX3_spells_14 : decode cX3_spells 14 = .ok (.iconst 0, 1) := by decide +kernel
theorem dX3_spells_15 : decode cX3_spells 15 = .ok (.ireturn, 1) := by decide +kernel
theorem dX3_spells_16 : decode cX3_spells 16 = .ok (.iconst 0, 1) := by decide +kernel
theorem dX3_spells_17 : decode cX3_spells 17 = .ok (.istore_n 2, 1) := by decide +kernel
theorem dX3_spells_18 : decode cX3_spells 18 = .ok (.iload_n 2, 1) := by decide +kernel
theorem dX3_spells_19 : decode cX3_spells 19 = .ok (.bipush 7, 2) := by decide +kernel
theorem dX3_spells_21 : decode cX3_spells 21 = .ok (.if_icmp .ge 57, 3) := by decide +kernel
theorem dX3_spells_24 : decode cX3_spells 24 = .ok (.aload_n 0, 1) := by decide +kernel
theorem dX3_spells_25 : decode cX3_spells 25 = .ok (.getfield 40, 3) := by decide +kernel
theorem dX3_spells_28 : decode cX3_spells 28 = .ok (.iload_n 2, 1) := by decide +kernel
theorem dX3_spells_29 : decode cX3_spells 29 = .ok (.iadd, 1) := by decide +kernel
theorem dX3_spells_30 : decode cX3_spells 30 = .ok (.aload_n 0, 1) := by decide +kernel
theorem dX3_spells_31 : decode cX3_spells 31 = .ok (.getfield 43, 3) := by decide +kernel
theorem dX3_spells_34 : decode cX3_spells 34 = .ok (.if_icmp .ge 18, 3) := by decide +kernel
theorem dX3_spells_37 : decode cX3_spells 37 = .ok (.aload_n 0, 1) := by decide +kernel
theorem dX3_spells_38 : decode cX3_spells 38 = .ok (.getfield 18, 3) := by decide +kernel
theorem dX3_spells_41 : decode cX3_spells 41 = .ok (.aload_n 0, 1) := by decide +kernel
theorem dX3_spells_42 : decode cX3_spells 42 = .ok (.getfield 40, 3) := by decide +kernel
theorem dX3_spells_45 : decode cX3_spells 45 = .ok (.iload_n 2, 1) := by decide +kernel
theorem dX3_spells_46 : decode cX3_spells 46 = .ok (.iadd, 1) := by decide +kernel
theorem dX3_spells_47 : decode cX3_spells 47 = .ok (.baload, 1) := by decide +kernel
theorem dX3_spells_48 : decode cX3_spells 48 = .ok (.i2c, 1) := by decide +kernel
theorem dX3_spells_49 : decode cX3_spells 49 = .ok (.goto 5, 3) := by decide +kernel
theorem dX3_spells_52 : decode cX3_spells 52 = .ok (.bipush 32, 2) := by decide +kernel
theorem dX3_spells_54 : decode cX3_spells 54 = .ok (.istore_n 3, 1) := by decide +kernel
theorem dX3_spells_55 : decode cX3_spells 55 = .ok (.iload_n 3, 1) := by decide +kernel
theorem dX3_spells_56 : decode cX3_spells 56 = .ok (.ldc 116, 2) := by decide +kernel
theorem dX3_spells_58 : decode cX3_spells 58 = .ok (.iload_n 1, 1) := by decide +kernel
theorem dX3_spells_59 : decode cX3_spells 59 = .ok (.bipush 7, 2) := by decide +kernel
theorem dX3_spells_61 : decode cX3_spells 61 = .ok (.imul, 1) := by decide +kernel
theorem dX3_spells_62 : decode cX3_spells 62 = .ok (.iload_n 2, 1) := by decide +kernel
theorem dX3_spells_63 : decode cX3_spells 63 = .ok (.iadd, 1) := by decide +kernel
theorem dX3_spells_64 : decode cX3_spells 64 = .ok (.invokevirtual 118, 3) := by decide +kernel
theorem dX3_spells_67 : decode cX3_spells 67 = .ok (.if_icmp .eq 5, 3) := by decide +kernel
theorem dX3_spells_70 : decode cX3_spells 70 = .ok (.iconst 0, 1) := by decide +kernel
theorem dX3_spells_71 : decode cX3_spells 71 = .ok (.ireturn, 1) := by decide +kernel
theorem dX3_spells_72 : decode cX3_spells 72 = .ok (.iinc 2 1, 3) := by decide +kernel
theorem dX3_spells_75 : decode cX3_spells 75 = .ok (.goto (-57), 3) := by decide +kernel
theorem dX3_spells_78 : decode cX3_spells 78 = .ok (.iconst 1, 1) := by decide +kernel
theorem dX3_spells_79 : decode cX3_spells 79 = .ok (.ireturn, 1) := by decide +kernel
theorem dX3_takeSign_0 : decode cX3_takeSign 0 = .ok (.ldc 124, 2) := by decide +kernel
theorem dX3_takeSign_2 : decode cX3_takeSign 2 = .ok (.aload_n 0, 1) := by decide +kernel
theorem dX3_takeSign_3 : decode cX3_takeSign 3 = .ok (.getfield 18, 3) := by decide +kernel
theorem dX3_takeSign_6 : decode cX3_takeSign 6 = .ok (.aload_n 0, 1) := by decide +kernel
theorem dX3_takeSign_7 : decode cX3_takeSign 7 = .ok (.getfield 43, 3) := by decide +kernel
theorem dX3_takeSign_10 : decode cX3_takeSign 10 = .ok (.baload, 1) := by decide +kernel
theorem dX3_takeSign_11 : decode cX3_takeSign 11 = .ok (.sipush 255, 3) := by decide +kernel
theorem dX3_takeSign_14 : decode cX3_takeSign 14 = .ok (.iand, 1) := by decide +kernel
theorem dX3_takeSign_15 : decode cX3_takeSign 15 = .ok (.i2c, 1) := by decide +kernel
theorem dX3_takeSign_16 : decode cX3_takeSign 16 = .ok (.invokevirtual 126, 3) := by decide +kernel
theorem dX3_takeSign_19 : decode cX3_takeSign 19 = .ok (.istore_n 1, 1) := by decide +kernel
theorem dX3_takeSign_20 : decode cX3_takeSign 20 = .ok (.aload_n 0, 1) := by decide +kernel
theorem dX3_takeSign_21 : decode cX3_takeSign 21 = .ok (.iload_n 1, 1) := by decide +kernel
theorem dX3_takeSign_22 : decode cX3_takeSign 22 = .ok (.ifCond .ge 8, 3) := by decide +kernel
theorem dX3_takeSign_25 : decode cX3_takeSign 25 = .ok (.bipush 26, 2) := by decide +kernel
theorem dX3_takeSign_27 : decode cX3_takeSign 27 = .ok (.goto 7, 3) := by decide +kernel
theorem dX3_takeSign_30 : decode cX3_takeSign 30 = .ok (.bipush 16, 2) := by decide +kernel
theorem dX3_takeSign_32 : decode cX3_takeSign 32 = .ok (.iload_n 1, 1) := by decide +kernel
theorem dX3_takeSign_33 : decode cX3_takeSign 33 = .ok (.iadd, 1) := by decide +kernel
theorem dX3_takeSign_34 : decode cX3_takeSign 34 = .ok (.putfield 34, 3) := by decide +kernel
theorem dX3_takeSign_37 : decode cX3_takeSign 37 = .ok (.aload_n 0, 1) := by decide +kernel
theorem dX3_takeSign_38 : decode cX3_takeSign 38 = .ok (.dup, 1) := by decide +kernel
theorem dX3_takeSign_39 : decode cX3_takeSign 39 = .ok (.getfield 43, 3) := by decide +kernel
theorem dX3_takeSign_42 : decode cX3_takeSign 42 = .ok (.iconst 1, 1) := by decide +kernel
theorem dX3_takeSign_43 : decode cX3_takeSign 43 = .ok (.iadd, 1) := by decide +kernel
theorem dX3_takeSign_44 : decode cX3_takeSign 44 = .ok (.putfield 43, 3) := by decide +kernel
theorem dX3_takeSign_47 : decode cX3_takeSign 47 = .ok (.return_, 1) := by decide +kernel
theorem w_J3_checkIndex_8e157 (l : Launch) (p0 : Int32) (p1 : Int32) (p2 : Option Nat) (M : o_M) (q : Int32 → o_M → Prop) (h : ((p0 < 0 → False) ∧ (¬ p0 < 0 → ((p0 < p1 → q p0 M) ∧ (¬ p0 < p1 → False))))) : K_J3_checkIndex_8e157 l [iV p0, iV p1, rV p2] M q := by
  refine o_ctr (ini := false) (by decide +kernel) rfl (fun z => by cases z) (Nat.le_of_ble_eq_true rfl) ?_
  show E_J3_checkIndex_8e157 l q 0 [(0, iV p0), (1, iV p1), (2, rV p2)] [] M 0 0
  refine e_iload_n dJ3_checkIndex_8e157_0 rfl rfl ?_
  refine e_if_lt (tgt := 9) dJ3_checkIndex_8e157_1 (by decide) (fun c1 => ?_) (fun c1 => ?_)
  · replace h := h.1 c1
    refine e_aload_n dJ3_checkIndex_8e157_9 rfl rfl ?_
    refine e_iload_n dJ3_checkIndex_8e157_10 rfl rfl ?_
    refine e_iload_n dJ3_checkIndex_8e157_11 rfl rfl ?_
    exact h.elim
  · replace h := h.2 c1
    refine e_iload_n dJ3_checkIndex_8e157_4 rfl rfl ?_
    refine e_iload_n dJ3_checkIndex_8e157_5 rfl rfl ?_
    refine e_ic_lt (tgt := 16) dJ3_checkIndex_8e157_6 (by decide) (fun c2 => ?_) (fun c2 => ?_)
    · replace h := h.1 c2
      refine e_iload_n dJ3_checkIndex_8e157_16 rfl rfl ?_
      exact e_iret rfl trivial dJ3_checkIndex_8e157_17 ⟨_, rfl, h⟩
    · replace h := h.2 c2
      refine e_aload_n dJ3_checkIndex_8e157_9 rfl rfl ?_
      refine e_iload_n dJ3_checkIndex_8e157_10 rfl rfl ?_
      refine e_iload_n dJ3_checkIndex_8e157_11 rfl rfl ?_
      exact h.elim
theorem w_J0_checkIndex_df160 (l : Launch) (p0 : Int32) (p1 : Int32) (M : o_M) (q : o_M → Prop) (h : (∀ n1 : Option Nat, K_J3_checkIndex_8e157 l [iV p0, iV p1, rV n1] M (fun r3 M2 => q M2))) : K_J0_checkIndex_df160 l [iV p0, iV p1] M q := by
  refine o_ctr (ini := false) (by decide +kernel) rfl (fun z => by cases z) (Nat.le_of_ble_eq_true rfl) ?_
  show E_J0_checkIndex_df160 l q 0 [(0, iV p0), (1, iV p1)] [] M 0 0
  refine e_iload_n dJ0_checkIndex_df160_0 rfl rfl ?_
  refine e_iload_n dJ0_checkIndex_df160_1 rfl rfl ?_
  refine e_sio sf_1053 dJ0_checkIndex_df160_2 (fun n1 => ?_)
  replace h := h n1
  refine e_callS (As := [iV p0, iV p1, rV n1]) (st := []) mt_J3_checkIndex_8e157 is_J3_checkIndex_8e157 lkJ0_1059 ⟨by decide, by decide⟩ (Nat.le_of_ble_eq_true rfl) ⟨by decide, by decide⟩ rfl rfl dJ0_checkIndex_df160_5 (Ctr.mono h (fun v M2 h => ?_))
  obtain ⟨r3, rfl, h⟩ := h
  show E_J0_checkIndex_df160 l q 8 [(0, iV p0), (1, iV p1)] [iV r3] M2 0 0
  refine e_pop rfl dJ0_checkIndex_df160_8 ?_
  exact e_ret rfl dJ0_checkIndex_df160_9 ⟨rfl, h⟩
theorem w_J0_isLatin1_aae02 (l : Launch) (i : Nat) (hi : i < 3) (M : o_M) (q : Int32 → o_M → Prop) (h : q 1 M) : K_J0_isLatin1_aae02 l [rV (some (1 + i))] M q := by
  refine o_ctr (ini := false) (by decide +kernel) rfl (fun z => by cases z) (Nat.le_of_ble_eq_true rfl) ?_
  show E_J0_isLatin1_aae02 l q 0 [(0, rV (some (1 + i)))] [] M 0 0
  refine e_cs sf_38 dJ0_isLatin1_aae02_0 ?_
  refine e_if_eq (tgt := 17) dJ0_isLatin1_aae02_3 (by decide) (fun c1 => absurd c1 (by decide)) (fun _ => ?_)
  refine e_aload_n dJ0_isLatin1_aae02_6 rfl rfl ?_
  refine e_scod hi sf_15 dJ0_isLatin1_aae02_7 ?_
  refine e_if_ne (tgt := 17) dJ0_isLatin1_aae02_10 (by decide) (fun c2 => absurd c2 (by decide)) (fun _ => ?_)
  refine e_iconst (v := 1) dJ0_isLatin1_aae02_13 (by decide) ?_
  refine e_goto (tgt := 18) dJ0_isLatin1_aae02_14 (by decide) ?_
  exact e_iret rfl rb_1 dJ0_isLatin1_aae02_18 ⟨_, rfl, h⟩
theorem w_J0_coder_7d493 (l : Launch) (i : Nat) (hi : i < 3) (M : o_M) (q : Int32 → o_M → Prop) (h : q 0 M) : K_J0_coder_7d493 l [rV (some (1 + i))] M q := by
  refine o_ctr (ini := false) (by decide +kernel) rfl (fun z => by cases z) (Nat.le_of_ble_eq_true rfl) ?_
  show E_J0_coder_7d493 l q 0 [(0, rV (some (1 + i)))] [] M 0 0
  refine e_cs sf_38 dJ0_coder_7d493_0 ?_
  refine e_if_eq (tgt := 13) dJ0_coder_7d493_3 (by decide) (fun c1 => absurd c1 (by decide)) (fun _ => ?_)
  refine e_aload_n dJ0_coder_7d493_6 rfl rfl ?_
  refine e_scod hi sf_15 dJ0_coder_7d493_7 ?_
  refine e_goto (tgt := 14) dJ0_coder_7d493_10 (by decide) ?_
  exact e_iret rfl rb_0 dJ0_coder_7d493_14 ⟨_, rfl, h⟩
theorem w_J0_length_8abf5 (l : Launch) (i : Nat) (hi : i < 3) (M : o_M) (q : Int32 → o_M → Prop) (h : K_J0_coder_7d493 l [rV (some (1 + i))] M (fun r2 M1 => q ((Int32.ofNat (o_ln i)) >>> (r2 &&& 31)) M1)) : K_J0_length_8abf5 l [rV (some (1 + i))] M q := by
  refine o_ctr (ini := false) (by decide +kernel) rfl (fun z => by cases z) (Nat.le_of_ble_eq_true rfl) ?_
  show E_J0_length_8abf5 l q 0 [(0, rV (some (1 + i)))] [] M 0 0
  refine e_aload_n dJ0_length_8abf5_0 rfl rfl ?_
  refine e_sval hi sf_9 dJ0_length_8abf5_1 ?_
  refine e_sbn hi dJ0_length_8abf5_4 ?_
  refine e_aload_n dJ0_length_8abf5_5 rfl rfl ?_
  refine e_callT (i := i) (As := []) (st := [iV (Int32.ofNat (o_ln i))]) hi rfl mt_J0_coder_7d493 in_J0_coder_7d493 lmJ0_335 ⟨by decide, by decide⟩ (Nat.le_of_ble_eq_true rfl) ⟨by decide, by decide⟩ rfl rfl dJ0_length_8abf5_6 (Ctr.mono h (fun v M1 h => ?_))
  obtain ⟨r2, rfl, h⟩ := h
  show E_J0_length_8abf5 l q 9 [(0, rV (some (1 + i)))] [iV r2, iV (Int32.ofNat (o_ln i))] M1 0 0
  refine e_ishr dJ0_length_8abf5_9 ?_
  exact e_iret rfl trivial dJ0_length_8abf5_10 ⟨_, rfl, h⟩
theorem w_J1_charAt_3b067 (l : Launch) (i : Nat) (p1 : Int32) (hi : i < 3) (M : o_M) (q : Int32 → o_M → Prop) (h : K_J0_checkIndex_df160 l [iV p1, iV (Int32.ofNat (o_ln i))] M (fun M1 => (vp_in p1 (o_ln i) ∧ (narrow .char (.int ((((o_by i p1.toNatClampNeg) &&& 255).toUInt32 % 65536).toInt32)) = .int ((((o_by i p1.toNatClampNeg) &&& 255).toUInt32 % 65536).toInt32) ∧ q ((((o_by i p1.toNatClampNeg) &&& 255).toUInt32 % 65536).toInt32) M1)))) : K_J1_charAt_3b067 l [rV (some (4 + i)), iV p1] M q := by
  refine o_ctr (ini := false) (by decide +kernel) rfl (fun z => by cases z) (Nat.le_of_ble_eq_true rfl) ?_
  show E_J1_charAt_3b067 l q 0 [(0, rV (some (4 + i))), (1, iV p1)] [] M 0 0
  refine e_iload_n dJ1_charAt_3b067_0 rfl rfl ?_
  refine e_aload_n dJ1_charAt_3b067_1 rfl rfl ?_
  refine e_sbn hi dJ1_charAt_3b067_2 ?_
  refine e_callS (As := [iV p1, iV (Int32.ofNat (o_ln i))]) (st := []) mt_J0_checkIndex_df160 is_J0_checkIndex_df160 lkJ1_9 ⟨by decide, by decide⟩ (Nat.le_of_ble_eq_true rfl) ⟨by decide, by decide⟩ rfl rfl dJ1_charAt_3b067_3 (Ctr.mono h (fun v M1 h => ?_))
  obtain ⟨rfl, h⟩ := h
  show E_J1_charAt_3b067 l q 6 [(0, rV (some (4 + i))), (1, iV p1)] [] M1 0 0
  refine e_aload_n dJ1_charAt_3b067_6 rfl rfl ?_
  refine e_iload_n dJ1_charAt_3b067_7 rfl rfl ?_
  obtain ⟨o2, h⟩ := h
  refine e_sbld hi o2 dJ1_charAt_3b067_8 ?_
  refine e_sipush (v := 255) dJ1_charAt_3b067_9 (by decide) ?_
  refine e_iand dJ1_charAt_3b067_12 ?_
  refine e_i2c dJ1_charAt_3b067_13 ?_
  obtain ⟨o3, h⟩ := h
  exact e_iret rfl o3 dJ1_charAt_3b067_14 ⟨_, rfl, h⟩
theorem w_J0_charAt_5068e (l : Launch) (i : Nat) (p1 : Int32) (hi : i < 3) (M : o_M) (q : Int32 → o_M → Prop) (h : K_J0_isLatin1_aae02 l [rV (some (1 + i))] M (fun r2 M1 => ((r2 = 0 → False) ∧ (¬ r2 = 0 → K_J1_charAt_3b067 l [rV (some (4 + i)), iV p1] M1 (fun r5 M4 => (narrow .char (.int r5) = .int r5 ∧ q r5 M4)))))) : K_J0_charAt_5068e l [rV (some (1 + i)), iV p1] M q := by
  refine o_ctr (ini := false) (by decide +kernel) rfl (fun z => by cases z) (Nat.le_of_ble_eq_true rfl) ?_
  show E_J0_charAt_5068e l q 0 [(0, rV (some (1 + i))), (1, iV p1)] [] M 0 0
  refine e_aload_n dJ0_charAt_5068e_0 rfl rfl ?_
  refine e_callT (i := i) (As := []) (st := []) hi rfl mt_J0_isLatin1_aae02 in_J0_isLatin1_aae02 lmJ0_492 ⟨by decide, by decide⟩ (Nat.le_of_ble_eq_true rfl) ⟨by decide, by decide⟩ rfl rfl dJ0_charAt_5068e_1 (Ctr.mono h (fun v M1 h => ?_))
  obtain ⟨r2, rfl, h⟩ := h
  show E_J0_charAt_5068e l q 4 [(0, rV (some (1 + i))), (1, iV p1)] [iV r2] M1 0 0
  refine e_if_eq (tgt := 16) dJ0_charAt_5068e_4 (by decide) (fun c3 => ?_) (fun c3 => ?_)
  · replace h := h.1 c3
    refine e_aload_n dJ0_charAt_5068e_16 rfl rfl ?_
    refine e_sval hi sf_9 dJ0_charAt_5068e_17 ?_
    refine e_iload_n dJ0_charAt_5068e_20 rfl rfl ?_
    exact h.elim
  · replace h := h.2 c3
    refine e_aload_n dJ0_charAt_5068e_7 rfl rfl ?_
    refine e_sval hi sf_9 dJ0_charAt_5068e_8 ?_
    refine e_iload_n dJ0_charAt_5068e_11 rfl rfl ?_
    refine e_callS (As := [rV (some (4 + i)), iV p1]) (st := []) mt_J1_charAt_3b067 is_J1_charAt_3b067 lkJ0_495 ⟨by decide, by decide⟩ (Nat.le_of_ble_eq_true rfl) ⟨by decide, by decide⟩ rfl rfl dJ0_charAt_5068e_12 (Ctr.mono h (fun v M4 h => ?_))
    obtain ⟨r5, rfl, h⟩ := h
    show E_J0_charAt_5068e l q 15 [(0, rV (some (1 + i))), (1, iV p1)] [iV r5] M4 0 0
    obtain ⟨o6, h⟩ := h
    exact e_iret rfl o6 dJ0_charAt_5068e_15 ⟨_, rfl, h⟩
theorem w_J1_canEncode_9a6ad (l : Launch) (p0 : Int32) (M : o_M) (q : Int32 → o_M → Prop) (h : ((p0 < 0 → q 0 M) ∧ (¬ p0 < 0 → ((255 < p0 → q 0 M) ∧ (¬ 255 < p0 → q 1 M))))) : K_J1_canEncode_9a6ad l [iV p0] M q := by
  refine o_ctr (ini := false) (by decide +kernel) rfl (fun z => by cases z) (Nat.le_of_ble_eq_true rfl) ?_
  show E_J1_canEncode_9a6ad l q 0 [(0, iV p0)] [] M 0 0
  refine e_iload_n dJ1_canEncode_9a6ad_0 rfl rfl ?_
  refine e_if_lt (tgt := 15) dJ1_canEncode_9a6ad_1 (by decide) (fun c1 => ?_) (fun c1 => ?_)
  · replace h := h.1 c1
    refine e_iconst (v := 0) dJ1_canEncode_9a6ad_15 (by decide) ?_
    exact e_iret rfl rb_0 dJ1_canEncode_9a6ad_16 ⟨_, rfl, h⟩
  · replace h := h.2 c1
    refine e_iload_n dJ1_canEncode_9a6ad_4 rfl rfl ?_
    refine e_sipush (v := 255) dJ1_canEncode_9a6ad_5 (by decide) ?_
    refine e_ic_gt (tgt := 15) dJ1_canEncode_9a6ad_8 (by decide) (fun c2 => ?_) (fun c2 => ?_)
    · replace h := h.1 c2
      refine e_iconst (v := 0) dJ1_canEncode_9a6ad_15 (by decide) ?_
      exact e_iret rfl rb_0 dJ1_canEncode_9a6ad_16 ⟨_, rfl, h⟩
    · replace h := h.2 c2
      refine e_iconst (v := 1) dJ1_canEncode_9a6ad_11 (by decide) ?_
      refine e_goto (tgt := 16) dJ1_canEncode_9a6ad_12 (by decide) ?_
      exact e_iret rfl rb_1 dJ1_canEncode_9a6ad_16 ⟨_, rfl, h⟩
abbrev H_J1_indexOfChar_4cfef_7 (l : Launch) (q : Int32 → o_M → Prop) (i : Nat) (v3 : Int32) (v4 : Int32) (v5 : Int32) (M : o_M) : Prop := E_J1_indexOfChar_4cfef l q 7 [(0, rV (some (4 + i))), (3, iV v3), (4, iV v4), (5, iV v5)] [] M 0 0
theorem w_J1_indexOfChar_4cfef (l : Launch) (i : Nat) (p1 : Int32) (p2 : Int32) (p3 : Int32) (hi : i < 3) (M : o_M) (q : Int32 → o_M → Prop) (h : H_J1_indexOfChar_4cfef_7 l q i p3 p1.toInt8.toInt32 p2 M) : K_J1_indexOfChar_4cfef l [rV (some (4 + i)), iV p1, iV p2, iV p3] M q := by
  refine o_ctr (ini := false) (by decide +kernel) rfl (fun z => by cases z) (Nat.le_of_ble_eq_true rfl) ?_
  show E_J1_indexOfChar_4cfef l q 0 [(0, rV (some (4 + i))), (1, iV p1), (2, iV p2), (3, iV p3)] [] M 0 0
  refine e_iload_n dJ1_indexOfChar_4cfef_0 rfl rfl ?_
  refine e_i2b dJ1_indexOfChar_4cfef_1 ?_
  refine e_istore (lv' := [(4, iV p1.toInt8.toInt32), (0, rV (some (4 + i))), (1, iV p1), (2, iV p2), (3, iV p3)]) (by decide) rfl dJ1_indexOfChar_4cfef_2 ?_
  refine e_iload_n dJ1_indexOfChar_4cfef_4 rfl rfl ?_
  refine e_istore (lv' := [(5, iV p2), (4, iV p1.toInt8.toInt32), (0, rV (some (4 + i))), (1, iV p1), (2, iV p2), (3, iV p3)]) (by decide) rfl dJ1_indexOfChar_4cfef_5 ?_
  exact e_lv (List.forall_mem_cons.mpr ⟨rfl, List.forall_mem_cons.mpr ⟨rfl, List.forall_mem_cons.mpr ⟨rfl, List.forall_mem_cons.mpr ⟨rfl, fun _ h => absurd h List.not_mem_nil⟩⟩⟩⟩) h
theorem w_J1_indexOfChar_4cfef_7 (l : Launch) (q : Int32 → o_M → Prop) (i : Nat) (v3 : Int32) (v4 : Int32) (v5 : Int32) (hi : i < 3) (M : o_M) (h : ((v3 ≤ v5 → q (-1) M) ∧ (¬ v3 ≤ v5 → (vp_in v5 (o_ln i) ∧ ((¬ (o_by i v5.toNatClampNeg) = v4 → H_J1_indexOfChar_4cfef_7 l q i v3 v4 (v5 + 1) M) ∧ ((o_by i v5.toNatClampNeg) = v4 → q v5 M)))))) : H_J1_indexOfChar_4cfef_7 l q i v3 v4 v5 M := by
  refine e_iload rfl dJ1_indexOfChar_4cfef_7 ?_
  refine e_iload_n dJ1_indexOfChar_4cfef_9 rfl rfl ?_
  refine e_ic_ge (tgt := 31) dJ1_indexOfChar_4cfef_10 (by decide) (fun c1 => ?_) (fun c1 => ?_)
  · replace h := h.1 c1
    refine e_iconst (v := (-1)) dJ1_indexOfChar_4cfef_31 (by decide) ?_
    exact e_iret rfl trivial dJ1_indexOfChar_4cfef_32 ⟨_, rfl, h⟩
  · replace h := h.2 c1
    refine e_aload_n dJ1_indexOfChar_4cfef_13 rfl rfl ?_
    refine e_iload rfl dJ1_indexOfChar_4cfef_14 ?_
    obtain ⟨o2, h⟩ := h
    refine e_sbld hi o2 dJ1_indexOfChar_4cfef_16 ?_
    refine e_iload rfl dJ1_indexOfChar_4cfef_17 ?_
    refine e_ic_ne (tgt := 25) dJ1_indexOfChar_4cfef_19 (by decide) (fun c3 => ?_) (fun c3 => ?_)
    · replace h := h.1 c3
      refine e_iinc (v := 1) (lv' := [(5, iV (v5 + 1)), (0, rV (some (4 + i))), (3, iV v3), (4, iV v4)]) rfl (by decide) (by decide) rfl dJ1_indexOfChar_4cfef_25 ?_
      refine e_goto (tgt := 7) dJ1_indexOfChar_4cfef_28 (by decide) ?_
      exact e_lv (List.forall_mem_cons.mpr ⟨rfl, List.forall_mem_cons.mpr ⟨rfl, List.forall_mem_cons.mpr ⟨rfl, List.forall_mem_cons.mpr ⟨rfl, fun _ h => absurd h List.not_mem_nil⟩⟩⟩⟩) h
    · replace h := h.2 c3
      refine e_iload rfl dJ1_indexOfChar_4cfef_22 ?_
      exact e_iret rfl trivial dJ1_indexOfChar_4cfef_24 ⟨_, rfl, h⟩
theorem w_J1_indexOf_4cfef (l : Launch) (i : Nat) (p1 : Int32) (p2 : Int32) (p3 : Int32) (hi : i < 3) (M : o_M) (q : Int32 → o_M → Prop) (h : K_J1_canEncode_9a6ad l [iV p1] M (fun r2 M1 => ((¬ r2 = 0 → K_J9_max_7cf53 l [iV p2, iV 0] M1 (fun r5 M4 => K_J9_min_7cf53 l [iV p3, iV (Int32.ofNat (o_ln i))] M4 (fun r7 M6 => ((r5 < r7 → K_J1_indexOfChar_4cfef l [rV (some (4 + i)), iV p1, iV r5, iV r7] M6 (fun r10 M9 => q r10 M9)) ∧ (¬ r5 < r7 → q (-1) M6))))) ∧ (r2 = 0 → q (-1) M1)))) : K_J1_indexOf_4cfef l [rV (some (4 + i)), iV p1, iV p2, iV p3] M q := by
  refine o_ctr (ini := false) (by decide +kernel) rfl (fun z => by cases z) (Nat.le_of_ble_eq_true rfl) ?_
  show E_J1_indexOf_4cfef l q 0 [(0, rV (some (4 + i))), (1, iV p1), (2, iV p2), (3, iV p3)] [] M 0 0
  refine e_iload_n dJ1_indexOf_4cfef_0 rfl rfl ?_
  refine e_callS (As := [iV p1]) (st := []) mt_J1_canEncode_9a6ad is_J1_canEncode_9a6ad lkJ1_88 ⟨by decide, by decide⟩ (Nat.le_of_ble_eq_true rfl) ⟨by decide, by decide⟩ rfl rfl dJ1_indexOf_4cfef_1 (Ctr.mono h (fun v M1 h => ?_))
  obtain ⟨r2, rfl, h⟩ := h
  show E_J1_indexOf_4cfef l q 4 [(0, rV (some (4 + i))), (1, iV p1), (2, iV p2), (3, iV p3)] [iV r2] M1 0 0
  refine e_if_ne (tgt := 9) dJ1_indexOf_4cfef_4 (by decide) (fun c3 => ?_) (fun c3 => ?_)
  · replace h := h.1 c3
    refine e_iload_n dJ1_indexOf_4cfef_9 rfl rfl ?_
    refine e_iconst (v := 0) dJ1_indexOf_4cfef_10 (by decide) ?_
    refine e_callS (As := [iV p2, iV 0]) (st := []) mt_J9_max_7cf53 is_J9_max_7cf53 lkJ1_92 ⟨by decide, by decide⟩ (Nat.le_of_ble_eq_true rfl) ⟨by decide, by decide⟩ rfl rfl dJ1_indexOf_4cfef_11 (Ctr.mono h (fun v M4 h => ?_))
    obtain ⟨r5, rfl, h⟩ := h
    show E_J1_indexOf_4cfef l q 14 [(0, rV (some (4 + i))), (1, iV p1), (2, iV p2), (3, iV p3)] [iV r5] M4 0 0
    refine e_istore_n (lv' := [(2, iV r5), (0, rV (some (4 + i))), (1, iV p1), (3, iV p3)]) dJ1_indexOf_4cfef_14 rfl (by decide) rfl ?_
    refine e_iload_n dJ1_indexOf_4cfef_15 rfl rfl ?_
    refine e_aload_n dJ1_indexOf_4cfef_16 rfl rfl ?_
    refine e_sbn hi dJ1_indexOf_4cfef_17 ?_
    refine e_callS (As := [iV p3, iV (Int32.ofNat (o_ln i))]) (st := []) mt_J9_min_7cf53 is_J9_min_7cf53 lkJ1_38 ⟨by decide, by decide⟩ (Nat.le_of_ble_eq_true rfl) ⟨by decide, by decide⟩ rfl rfl dJ1_indexOf_4cfef_18 (Ctr.mono h (fun v M6 h => ?_))
    obtain ⟨r7, rfl, h⟩ := h
    show E_J1_indexOf_4cfef l q 21 [(2, iV r5), (0, rV (some (4 + i))), (1, iV p1), (3, iV p3)] [iV r7] M6 0 0
    refine e_istore_n (lv' := [(3, iV r7), (2, iV r5), (0, rV (some (4 + i))), (1, iV p1)]) dJ1_indexOf_4cfef_21 rfl (by decide) rfl ?_
    refine e_iload_n dJ1_indexOf_4cfef_22 rfl rfl ?_
    refine e_iload_n dJ1_indexOf_4cfef_23 rfl rfl ?_
    refine e_ic_lt (tgt := 29) dJ1_indexOf_4cfef_24 (by decide) (fun c8 => ?_) (fun c8 => ?_)
    · replace h := h.1 c8
      refine e_aload_n dJ1_indexOf_4cfef_29 rfl rfl ?_
      refine e_iload_n dJ1_indexOf_4cfef_30 rfl rfl ?_
      refine e_iload_n dJ1_indexOf_4cfef_31 rfl rfl ?_
      refine e_iload_n dJ1_indexOf_4cfef_32 rfl rfl ?_
      refine e_callS (As := [rV (some (4 + i)), iV p1, iV r5, iV r7]) (st := []) mt_J1_indexOfChar_4cfef is_J1_indexOfChar_4cfef lkJ1_95 ⟨by decide, by decide⟩ (Nat.le_of_ble_eq_true rfl) ⟨by decide, by decide⟩ rfl rfl dJ1_indexOf_4cfef_33 (Ctr.mono h (fun v M9 h => ?_))
      obtain ⟨r10, rfl, h⟩ := h
      show E_J1_indexOf_4cfef l q 36 [(3, iV r7), (2, iV r5), (0, rV (some (4 + i))), (1, iV p1)] [iV r10] M9 0 0
      exact e_iret rfl trivial dJ1_indexOf_4cfef_36 ⟨_, rfl, h⟩
    · replace h := h.2 c8
      refine e_iconst (v := (-1)) dJ1_indexOf_4cfef_27 (by decide) ?_
      exact e_iret rfl trivial dJ1_indexOf_4cfef_28 ⟨_, rfl, h⟩
  · replace h := h.2 c3
    refine e_iconst (v := (-1)) dJ1_indexOf_4cfef_7 (by decide) ?_
    exact e_iret rfl trivial dJ1_indexOf_4cfef_8 ⟨_, rfl, h⟩
theorem w_J0_indexOf_7cf53 (l : Launch) (i : Nat) (p1 : Int32) (p2 : Int32) (hi : i < 3) (M : o_M) (q : Int32 → o_M → Prop) (h : K_J0_isLatin1_aae02 l [rV (some (1 + i))] M (fun r2 M1 => ((r2 = 0 → K_J0_length_8abf5 l [rV (some (1 + i))] M1 (fun r5 M4 => False)) ∧ (¬ r2 = 0 → K_J0_length_8abf5 l [rV (some (1 + i))] M1 (fun r7 M6 => K_J1_indexOf_4cfef l [rV (some (4 + i)), iV p1, iV p2, iV r7] M6 (fun r9 M8 => q r9 M8)))))) : K_J0_indexOf_7cf53 l [rV (some (1 + i)), iV p1, iV p2] M q := by
  refine o_ctr (ini := false) (by decide +kernel) rfl (fun z => by cases z) (Nat.le_of_ble_eq_true rfl) ?_
  show E_J0_indexOf_7cf53 l q 0 [(0, rV (some (1 + i))), (1, iV p1), (2, iV p2)] [] M 0 0
  refine e_aload_n dJ0_indexOf_7cf53_0 rfl rfl ?_
  refine e_callT (i := i) (As := []) (st := []) hi rfl mt_J0_isLatin1_aae02 in_J0_isLatin1_aae02 lmJ0_492 ⟨by decide, by decide⟩ (Nat.le_of_ble_eq_true rfl) ⟨by decide, by decide⟩ rfl rfl dJ0_indexOf_7cf53_1 (Ctr.mono h (fun v M1 h => ?_))
  obtain ⟨r2, rfl, h⟩ := h
  show E_J0_indexOf_7cf53 l q 4 [(0, rV (some (1 + i))), (1, iV p1), (2, iV p2)] [iV r2] M1 0 0
  refine e_if_eq (tgt := 23) dJ0_indexOf_7cf53_4 (by decide) (fun c3 => ?_) (fun c3 => ?_)
  · replace h := h.1 c3
    refine e_aload_n dJ0_indexOf_7cf53_23 rfl rfl ?_
    refine e_sval hi sf_9 dJ0_indexOf_7cf53_24 ?_
    refine e_iload_n dJ0_indexOf_7cf53_27 rfl rfl ?_
    refine e_iload_n dJ0_indexOf_7cf53_28 rfl rfl ?_
    refine e_aload_n dJ0_indexOf_7cf53_29 rfl rfl ?_
    refine e_callT (i := i) (As := []) (st := [iV p2, iV p1, rV (some (4 + i))]) hi rfl mt_J0_length_8abf5 in_J0_length_8abf5 lmJ0_505 ⟨by decide, by decide⟩ (Nat.le_of_ble_eq_true rfl) ⟨by decide, by decide⟩ rfl rfl dJ0_indexOf_7cf53_30 (Ctr.mono h (fun v M4 h => ?_))
    obtain ⟨r5, rfl, h⟩ := h
    show E_J0_indexOf_7cf53 l q 33 [(0, rV (some (1 + i))), (1, iV p1), (2, iV p2)] [iV r5, iV p2, iV p1, rV (some (4 + i))] M4 0 0
    exact h.elim
  · replace h := h.2 c3
    refine e_aload_n dJ0_indexOf_7cf53_7 rfl rfl ?_
    refine e_sval hi sf_9 dJ0_indexOf_7cf53_8 ?_
    refine e_iload_n dJ0_indexOf_7cf53_11 rfl rfl ?_
    refine e_iload_n dJ0_indexOf_7cf53_12 rfl rfl ?_
    refine e_aload_n dJ0_indexOf_7cf53_13 rfl rfl ?_
    refine e_callT (i := i) (As := []) (st := [iV p2, iV p1, rV (some (4 + i))]) hi rfl mt_J0_length_8abf5 in_J0_length_8abf5 lmJ0_505 ⟨by decide, by decide⟩ (Nat.le_of_ble_eq_true rfl) ⟨by decide, by decide⟩ rfl rfl dJ0_indexOf_7cf53_14 (Ctr.mono h (fun v M6 h => ?_))
    obtain ⟨r7, rfl, h⟩ := h
    show E_J0_indexOf_7cf53 l q 17 [(0, rV (some (1 + i))), (1, iV p1), (2, iV p2)] [iV r7, iV p2, iV p1, rV (some (4 + i))] M6 0 0
    refine e_callS (As := [rV (some (4 + i)), iV p1, iV p2, iV r7]) (st := []) mt_J1_indexOf_4cfef is_J1_indexOf_4cfef lkJ0_637 ⟨by decide, by decide⟩ (Nat.le_of_ble_eq_true rfl) ⟨by decide, by decide⟩ rfl rfl dJ0_indexOf_7cf53_17 (Ctr.mono h (fun v M8 h => ?_))
    obtain ⟨r9, rfl, h⟩ := h
    show E_J0_indexOf_7cf53 l q 20 [(0, rV (some (1 + i))), (1, iV p1), (2, iV p2)] [iV r9] M8 0 0
    refine e_goto (tgt := 36) dJ0_indexOf_7cf53_20 (by decide) ?_
    exact e_iret rfl trivial dJ0_indexOf_7cf53_36 ⟨_, rfl, h⟩
theorem w_J0_indexOf_0f7a4 (l : Launch) (i : Nat) (p1 : Int32) (hi : i < 3) (M : o_M) (q : Int32 → o_M → Prop) (h : K_J0_indexOf_7cf53 l [rV (some (1 + i)), iV p1, iV 0] M (fun r2 M1 => q r2 M1)) : K_J0_indexOf_0f7a4 l [rV (some (1 + i)), iV p1] M q := by
  refine o_ctr (ini := false) (by decide +kernel) rfl (fun z => by cases z) (Nat.le_of_ble_eq_true rfl) ?_
  show E_J0_indexOf_0f7a4 l q 0 [(0, rV (some (1 + i))), (1, iV p1)] [] M 0 0
  refine e_aload_n dJ0_indexOf_0f7a4_0 rfl rfl ?_
  refine e_iload_n dJ0_indexOf_0f7a4_1 rfl rfl ?_
  refine e_iconst (v := 0) dJ0_indexOf_0f7a4_2 (by decide) ?_
  refine e_callT (i := i) (As := [iV p1, iV 0]) (st := []) hi rfl mt_J0_indexOf_7cf53 in_J0_indexOf_7cf53 lmJ0_633 ⟨by decide, by decide⟩ (Nat.le_of_ble_eq_true rfl) ⟨by decide, by decide⟩ rfl rfl dJ0_indexOf_0f7a4_3 (Ctr.mono h (fun v M1 h => ?_))
  obtain ⟨r2, rfl, h⟩ := h
  show E_J0_indexOf_0f7a4 l q 6 [(0, rV (some (1 + i))), (1, iV p1)] [iV r2] M1 0 0
  exact e_iret rfl trivial dJ0_indexOf_0f7a4_6 ⟨_, rfl, h⟩
abbrev H_X3_spells_18 (l : Launch) (q : Int32 → o_M → Prop) (v1 : Int32) (v2 : Int32) (M : o_M) : Prop := E_X3_spells l q 18 [(0, rV (some 23)), (1, iV v1), (2, iV v2)] [] M 0 0
theorem w_X3_spells (l : Launch) (p1 : Int32) (M : o_M) (q : Int32 → o_M → Prop) (h : ((((mI M 23 9) - (mI M 23 8)) ≤ 7 → H_X3_spells_18 l q p1 0 M) ∧ (¬ ((mI M 23 9) - (mI M 23 8)) ≤ 7 → q 0 M))) : K_X3_spells l [rV (some 23), iV p1] M q := by
  refine o_ctr (ini := false) (by decide +kernel) rfl (fun z => by cases z) (Nat.le_of_ble_eq_true rfl) ?_
  show E_X3_spells l q 0 [(0, rV (some 23)), (1, iV p1)] [] M 0 0
  refine e_aload_n dX3_spells_0 rfl rfl ?_
  refine e_gI flX3_43 rfl rfl dX3_spells_1 ?_
  refine e_aload_n dX3_spells_4 rfl rfl ?_
  refine e_gI flX3_40 rfl rfl dX3_spells_5 ?_
  refine e_isub dX3_spells_8 ?_
  refine e_bipush (v := 7) dX3_spells_9 (by decide) ?_
  refine e_ic_le (tgt := 16) dX3_spells_11 (by decide) (fun c1 => ?_) (fun c1 => ?_)
  · replace h := h.1 c1
    refine e_iconst (v := 0) dX3_spells_16 (by decide) ?_
    refine e_istore_n (lv' := [(2, iV 0), (0, rV (some 23)), (1, iV p1)]) dX3_spells_17 rfl (by decide) rfl ?_
    exact e_lv (List.forall_mem_cons.mpr ⟨rfl, List.forall_mem_cons.mpr ⟨rfl, List.forall_mem_cons.mpr ⟨rfl, fun _ h => absurd h List.not_mem_nil⟩⟩⟩) h
  · replace h := h.2 c1
    refine e_iconst (v := 0) dX3_spells_14 (by decide) ?_
    exact e_iret rfl rb_0 dX3_spells_15 ⟨_, rfl, h⟩
theorem w_X3_spells_18 (l : Launch) (q : Int32 → o_M → Prop) (v1 : Int32) (v2 : Int32) (M : o_M) (h : ((7 ≤ v2 → q 1 M) ∧ (¬ 7 ≤ v2 → (((mI M 23 9) ≤ ((mI M 23 8) + v2) → K_J0_charAt_5068e l [rV (some 2), iV ((v1 * 7) + v2)] M (fun r5 M4 => ((32 = r5 → H_X3_spells_18 l q v1 (v2 + 1) M4) ∧ (¬ 32 = r5 → q 0 M4)))) ∧ (¬ (mI M 23 9) ≤ ((mI M 23 8) + v2) → (mR M 23 2 = some 22 ∧ (vp_in ((mI M 23 8) + v2) (mN M 22) ∧ K_J0_charAt_5068e l [rV (some 2), iV ((v1 * 7) + v2)] M (fun r10 M9 => (((((mI M 22 ((mI M 23 8) + v2).toNatClampNeg).toUInt32 % 65536).toInt32) = r10 → H_X3_spells_18 l q v1 (v2 + 1) M9) ∧ (¬ (((mI M 22 ((mI M 23 8) + v2).toNatClampNeg).toUInt32 % 65536).toInt32) = r10 → q 0 M9)))))))))) : H_X3_spells_18 l q v1 v2 M := by
  refine e_iload_n dX3_spells_18 rfl rfl ?_
  refine e_bipush (v := 7) dX3_spells_19 (by decide) ?_
  refine e_ic_ge (tgt := 78) dX3_spells_21 (by decide) (fun c2 => ?_) (fun c2 => ?_)
  · replace h := h.1 c2
    refine e_iconst (v := 1) dX3_spells_78 (by decide) ?_
    exact e_iret rfl rb_1 dX3_spells_79 ⟨_, rfl, h⟩
  · replace h := h.2 c2
    refine e_aload_n dX3_spells_24 rfl rfl ?_
    refine e_gI flX3_40 rfl rfl dX3_spells_25 ?_
    refine e_iload_n dX3_spells_28 rfl rfl ?_
    refine e_iadd dX3_spells_29 ?_
    refine e_aload_n dX3_spells_30 rfl rfl ?_
    refine e_gI flX3_43 rfl rfl dX3_spells_31 ?_
    refine e_ic_ge (tgt := 52) dX3_spells_34 (by decide) (fun c3 => ?_) (fun c3 => ?_)
    · replace h := h.1 c3
      refine e_bipush (v := 32) dX3_spells_52 (by decide) ?_
      refine e_istore_n (lv' := [(3, iV 32), (0, rV (some 23)), (1, iV v1), (2, iV v2)]) dX3_spells_54 rfl (by decide) rfl ?_
      refine e_iload_n dX3_spells_55 rfl rfl ?_
      refine e_ldcS (i := 1) (by decide) dX3_spells_56 ?_
      refine e_iload_n dX3_spells_58 rfl rfl ?_
      refine e_bipush (v := 7) dX3_spells_59 (by decide) ?_
      refine e_imul dX3_spells_61 ?_
      refine e_iload_n dX3_spells_62 rfl rfl ?_
      refine e_iadd dX3_spells_63 ?_
      refine e_callT (i := 1) (As := [iV ((v1 * 7) + v2)]) (st := [iV 32]) (by decide) rfl mt_J0_charAt_5068e in_J0_charAt_5068e lmX3_118 ⟨by decide, by decide⟩ (Nat.le_of_ble_eq_true rfl) ⟨by decide, by decide⟩ rfl rfl dX3_spells_64 (Ctr.mono h (fun v M4 h => ?_))
      obtain ⟨r5, rfl, h⟩ := h
      show E_X3_spells l q 67 [(3, iV 32), (0, rV (some 23)), (1, iV v1), (2, iV v2)] [iV r5, iV 32] M4 0 0
      refine e_ic_eq (tgt := 72) dX3_spells_67 (by decide) (fun c6 => ?_) (fun c6 => ?_)
      · replace h := h.1 c6
        refine e_iinc (v := 1) (lv' := [(2, iV (v2 + 1)), (3, iV 32), (0, rV (some 23)), (1, iV v1)]) rfl (by decide) (by decide) rfl dX3_spells_72 ?_
        refine e_goto (tgt := 18) dX3_spells_75 (by decide) ?_
        exact e_lv (List.forall_mem_cons.mpr ⟨rfl, List.forall_mem_cons.mpr ⟨rfl, List.forall_mem_cons.mpr ⟨rfl, fun _ h => absurd h List.not_mem_nil⟩⟩⟩) h
      · replace h := h.2 c6
        refine e_iconst (v := 0) dX3_spells_70 (by decide) ?_
        exact e_iret rfl rb_0 dX3_spells_71 ⟨_, rfl, h⟩
    · replace h := h.2 c3
      refine e_aload_n dX3_spells_37 rfl rfl ?_
      obtain ⟨o7, h⟩ := h
      refine e_gA flX3_18 rfl rfl o7 dX3_spells_38 ?_
      refine e_aload_n dX3_spells_41 rfl rfl ?_
      refine e_gI flX3_40 rfl rfl dX3_spells_42 ?_
      refine e_iload_n dX3_spells_45 rfl rfl ?_
      refine e_iadd dX3_spells_46 ?_
      obtain ⟨o8, h⟩ := h
      refine e_bald rfl o8 dX3_spells_47 ?_
      refine e_i2c dX3_spells_48 ?_
      refine e_goto (tgt := 54) dX3_spells_49 (by decide) ?_
      refine e_istore_n (lv' := [(3, iV (((mI M 22 ((mI M 23 8) + v2).toNatClampNeg).toUInt32 % 65536).toInt32)), (0, rV (some 23)), (1, iV v1), (2, iV v2)]) dX3_spells_54 rfl (by decide) rfl ?_
      refine e_iload_n dX3_spells_55 rfl rfl ?_
      refine e_ldcS (i := 1) (by decide) dX3_spells_56 ?_
      refine e_iload_n dX3_spells_58 rfl rfl ?_
      refine e_bipush (v := 7) dX3_spells_59 (by decide) ?_
      refine e_imul dX3_spells_61 ?_
      refine e_iload_n dX3_spells_62 rfl rfl ?_
      refine e_iadd dX3_spells_63 ?_
      refine e_callT (i := 1) (As := [iV ((v1 * 7) + v2)]) (st := [iV (((mI M 22 ((mI M 23 8) + v2).toNatClampNeg).toUInt32 % 65536).toInt32)]) (by decide) rfl mt_J0_charAt_5068e in_J0_charAt_5068e lmX3_118 ⟨by decide, by decide⟩ (Nat.le_of_ble_eq_true rfl) ⟨by decide, by decide⟩ rfl rfl dX3_spells_64 (Ctr.mono h (fun v M9 h => ?_))
      obtain ⟨r10, rfl, h⟩ := h
      show E_X3_spells l q 67 [(3, iV (((mI M 22 ((mI M 23 8) + v2).toNatClampNeg).toUInt32 % 65536).toInt32)), (0, rV (some 23)), (1, iV v1), (2, iV v2)] [iV r10, iV (((mI M 22 ((mI M 23 8) + v2).toNatClampNeg).toUInt32 % 65536).toInt32)] M9 0 0
      refine e_ic_eq (tgt := 72) dX3_spells_67 (by decide) (fun c11 => ?_) (fun c11 => ?_)
      · replace h := h.1 c11
        refine e_iinc (v := 1) (lv' := [(2, iV (v2 + 1)), (3, iV (((mI M 22 ((mI M 23 8) + v2).toNatClampNeg).toUInt32 % 65536).toInt32)), (0, rV (some 23)), (1, iV v1)]) rfl (by decide) (by decide) rfl dX3_spells_72 ?_
        refine e_goto (tgt := 18) dX3_spells_75 (by decide) ?_
        exact e_lv (List.forall_mem_cons.mpr ⟨rfl, List.forall_mem_cons.mpr ⟨rfl, List.forall_mem_cons.mpr ⟨rfl, fun _ h => absurd h List.not_mem_nil⟩⟩⟩) h
      · replace h := h.2 c11
        refine e_iconst (v := 0) dX3_spells_70 (by decide) ?_
        exact e_iret rfl rb_0 dX3_spells_71 ⟨_, rfl, h⟩
theorem w_X3_takeSign (l : Launch) (M : o_M) (q : o_M → Prop) (h : (mR M 23 2 = some 22 ∧ (vp_in (mI M 23 9) (mN M 22) ∧ K_J0_indexOf_0f7a4 l [rV (some 3), iV ((((mI M 22 (mI M 23 9).toNatClampNeg) &&& 255).toUInt32 % 65536).toInt32)] M (fun r4 M3 => ((0 ≤ r4 → q (sI (sI M3 23 6 (16 + r4)) 23 9 ((mI (sI M3 23 6 (16 + r4)) 23 9) + 1))) ∧ (¬ 0 ≤ r4 → q (sI (sI M3 23 6 26) 23 9 ((mI (sI M3 23 6 26) 23 9) + 1)))))))) : K_X3_takeSign l [rV (some 23)] M q := by
  refine o_ctr (ini := false) (by decide +kernel) rfl (fun z => by cases z) (Nat.le_of_ble_eq_true rfl) ?_
  show E_X3_takeSign l q 0 [(0, rV (some 23))] [] M 0 0
  refine e_ldcS (i := 2) (by decide) dX3_takeSign_0 ?_
  refine e_aload_n dX3_takeSign_2 rfl rfl ?_
  obtain ⟨o1, h⟩ := h
  refine e_gA flX3_18 rfl rfl o1 dX3_takeSign_3 ?_
  refine e_aload_n dX3_takeSign_6 rfl rfl ?_
  refine e_gI flX3_43 rfl rfl dX3_takeSign_7 ?_
  obtain ⟨o2, h⟩ := h
  refine e_bald rfl o2 dX3_takeSign_10 ?_
  refine e_sipush (v := 255) dX3_takeSign_11 (by decide) ?_
  refine e_iand dX3_takeSign_14 ?_
  refine e_i2c dX3_takeSign_15 ?_
  refine e_callT (i := 2) (As := [iV ((((mI M 22 (mI M 23 9).toNatClampNeg) &&& 255).toUInt32 % 65536).toInt32)]) (st := []) (by decide) rfl mt_J0_indexOf_0f7a4 in_J0_indexOf_0f7a4 lmX3_126 ⟨by decide, by decide⟩ (Nat.le_of_ble_eq_true rfl) ⟨by decide, by decide⟩ rfl rfl dX3_takeSign_16 (Ctr.mono h (fun v M3 h => ?_))
  obtain ⟨r4, rfl, h⟩ := h
  show E_X3_takeSign l q 19 [(0, rV (some 23))] [iV r4] M3 0 0
  refine e_istore_n (lv' := [(1, iV r4), (0, rV (some 23))]) dX3_takeSign_19 rfl (by decide) rfl ?_
  refine e_aload_n dX3_takeSign_20 rfl rfl ?_
  refine e_iload_n dX3_takeSign_21 rfl rfl ?_
  refine e_if_ge (tgt := 30) dX3_takeSign_22 (by decide) (fun c5 => ?_) (fun c5 => ?_)
  · replace h := h.1 c5
    refine e_bipush (v := 16) dX3_takeSign_30 (by decide) ?_
    refine e_iload_n dX3_takeSign_32 rfl rfl ?_
    refine e_iadd dX3_takeSign_33 ?_
    refine e_pI flX3_34 rfl (Or.inl rfl) rfl rfl rfl dX3_takeSign_34 ?_
    refine e_aload_n dX3_takeSign_37 rfl rfl ?_
    refine e_dup rfl dX3_takeSign_38 ?_
    refine e_gI flX3_43 rfl rfl dX3_takeSign_39 ?_
    refine e_iconst (v := 1) dX3_takeSign_42 (by decide) ?_
    refine e_iadd dX3_takeSign_43 ?_
    refine e_pI flX3_43 rfl (Or.inl rfl) rfl rfl rfl dX3_takeSign_44 ?_
    exact e_ret rfl dX3_takeSign_47 ⟨rfl, h⟩
  · replace h := h.2 c5
    refine e_bipush (v := 26) dX3_takeSign_25 (by decide) ?_
    refine e_goto (tgt := 34) dX3_takeSign_27 (by decide) ?_
    refine e_pI flX3_34 rfl (Or.inl rfl) rfl rfl rfl dX3_takeSign_34 ?_
    refine e_aload_n dX3_takeSign_37 rfl rfl ?_
    refine e_dup rfl dX3_takeSign_38 ?_
    refine e_gI flX3_43 rfl rfl dX3_takeSign_39 ?_
    refine e_iconst (v := 1) dX3_takeSign_42 (by decide) ?_
    refine e_iadd dX3_takeSign_43 ?_
    refine e_pI flX3_43 rfl (Or.inl rfl) rfl rfl rfl dX3_takeSign_44 ?_
    exact e_ret rfl dX3_takeSign_47 ⟨rfl, h⟩
