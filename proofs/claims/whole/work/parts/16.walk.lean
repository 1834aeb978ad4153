/-! walks of methods (printed by program): X12_text -/
theorem dX12_text_0 : decode cX12_text 0 = .ok (.aload_n 0, 1) := by decide +kernel
theorem dX12_text_1 : decode cX12_text 1 = .ok (.getfield 145, 3) := by decide +kernel
theorem dX12_text_4 : decode cX12_text 4 = .ok (.bipush 10, 2) := by decide +kernel
theorem dX12_text_6 : decode cX12_text 6 = .ok (.if_icmp .ne 6, 3) := by decide +kernel
theorem dX12_text_9 : decode cX12_text 9 = .ok (.bipush (-4), 2) := by decide +kernel
theorem dX12_text_11 : decode cX12_text 11 = .ok (.ireturn, 1) := by decide +kernel
theorem dX12_text_12 : decode cX12_text 12 = .ok (.aload_n 0, 1) := by decide +kernel
theorem dX12_text_13 : decode cX12_text 13 = .ok (.getfield 145, 3) := by decide +kernel
theorem dX12_text_16 : decode cX12_text 16 = .ok (.istore_n 1, 1) := by decide +kernel
theorem dX12_text_17 : decode cX12_text 17 = .ok (.iconst 0, 1) := by decide +kernel
theorem dX12_text_18 : decode cX12_text 18 = .ok (.istore_n 2, 1) := by decide +kernel
theorem dX12_text_19 : decode cX12_text 19 = .ok (.iload_n 2, 1) := by decide +kernel
theorem dX12_text_20 : decode cX12_text 20 = .ok (.aload_n 0, 1) := by decide +kernel
theorem dX12_text_21 : decode cX12_text 21 = .ok (.getfield 301, 3) := by decide +kernel
theorem dX12_text_24 : decode cX12_text 24 = .ok (.if_icmp .ge 27, 3) := by decide +kernel
theorem dX12_text_27 : decode cX12_text 27 = .ok (.aload_n 0, 1) := by decide +kernel
theorem dX12_text_28 : decode cX12_text 28 = .ok (.getfield 77, 3) := by decide +kernel
theorem dX12_text_31 : decode cX12_text 31 = .ok (.sipush 300, 3) := by decide +kernel
theorem dX12_text_34 : decode cX12_text 34 = .ok (.iload_n 1, 1) := by decide +kernel
theorem dX12_text_35 : decode cX12_text 35 = .ok (.imul, 1) := by decide +kernel
theorem dX12_text_36 : decode cX12_text 36 = .ok (.iload_n 2, 1) := by decide +kernel
theorem dX12_text_37 : decode cX12_text 37 = .ok (.iadd, 1) := by decide +kernel
theorem dX12_text_38 : decode cX12_text 38 = .ok (.aload_n 0, 1) := by decide +kernel
theorem dX12_text_39 : decode cX12_text 39 = .ok (.getfield 71, 3) := by decide +kernel
theorem dX12_text_42 : decode cX12_text 42 = .ok (.iload_n 2, 1) := by decide +kernel
theorem dX12_text_43 : decode cX12_text 43 = .ok (.iaload, 1) := by decide +kernel
theorem dX12_text_44 : decode cX12_text 44 = .ok (.iastore, 1) := by decide +kernel
theorem dX12_text_45 : decode cX12_text 45 = .ok (.iinc 2 1, 3) := by decide +kernel
theorem dX12_text_48 : decode cX12_text 48 = .ok (.goto (-29), 3) := by decide +kernel
theorem dX12_text_51 : decode cX12_text 51 = .ok (.aload_n 0, 1) := by decide +kernel
theorem dX12_text_52 : decode cX12_text 52 = .ok (.getfield 74, 3) := by decide +kernel
theorem dX12_text_55 : decode cX12_text 55 = .ok (.iload_n 1, 1) := by decide +kernel
theorem dX12_text_56 : decode cX12_text 56 = .ok (.aload_n 0, 1) := by decide +kernel
theorem dX12_text_57 : decode cX12_text 57 = .ok (.getfield 301, 3) := by decide +kernel
theorem dX12_text_60 : decode cX12_text 60 = .ok (.iastore, 1) := by decide +kernel
theorem dX12_text_61 : decode cX12_text 61 = .ok (.aload_n 0, 1) := by decide +kernel
theorem dX12_text_62 : decode cX12_text 62 = .ok (.iconst 0, 1) := by decide +kernel
theorem dX12_text_63 : decode cX12_text 63 = .ok (.putfield 301, 3) := by decide +kernel
theorem dX12_text_66 : decode cX12_text 66 = .ok (.aload_n 0, 1) := by decide +kernel
theorem dX12_text_67 : decode cX12_text 67 = .ok (.iload_n 1, 1) := by decide +kernel
theorem dX12_text_68 : decode cX12_text 68 = .ok (.invokevirtual 141, 3) := by decide +kernel
theorem dX12_text_71 : decode cX12_text 71 = .ok (.aload_n 0, 1) := by decide +kernel
theorem dX12_text_72 : decode cX12_text 72 = .ok (.invokevirtual 236, 3) := by decide +kernel
theorem dX12_text_75 : decode cX12_text 75 = .ok (.ifCond .eq 11, 3) := by decide +kernel
theorem dX12_text_78 : decode cX12_text 78 = .ok (.bipush (-10), 2) := by decide +kernel
theorem dX12_text_80 : decode cX12_text 80 = .ok (.aload_n 0, 1) := by decide +kernel
theorem dX12_text_81 : decode cX12_text 81 = .ok (.getfield 233, 3) := by decide +kernel
theorem dX12_text_84 : decode cX12_text 84 = .ok (.isub, 1) := by decide +kernel
theorem dX12_text_85 : decode cX12_text 85 = .ok (.ireturn, 1) := by decide +kernel
theorem dX12_text_86 : decode cX12_text 86 = .ok (.aload_n 0, 1) := by decide +kernel
theorem dX12_text_87 : decode cX12_text 87 = .ok (.getfield 92, 3) := by decide +kernel
theorem dX12_text_90 : decode cX12_text 90 = .ok (.iload_n 1, 1) := by decide +kernel
theorem dX12_text_91 : decode cX12_text 91 = .ok (.iconst (-1), 1) := by decide +kernel
theorem dX12_text_92 : decode cX12_text 92 = .ok (.iastore, 1) := by decide +kernel
theorem dX12_text_93 : decode cX12_text 93 = .ok (.aload_n 0, 1) := by decide +kernel
theorem dX12_text_94 : decode cX12_text 94 = .ok (.dup, 1) := by decide +kernel
theorem dX12_text_95 : decode cX12_text 95 = .ok (.getfield 145, 3) := by decide +kernel
theorem dX12_text_98 : decode cX12_text 98 = .ok (.iconst 1, 1) := by decide +kernel
theorem dX12_text_99 : decode cX12_text 99 = .ok (.iadd, 1) := by decide +kernel
theorem dX12_text_100 : decode cX12_text 100 = .ok (.putfield 145, 3) := by decide +kernel
theorem dX12_text_103 : decode cX12_text 103 = .ok (.iload_n 1, 1) := by decide +kernel
theorem dX12_text_104 : decode cX12_text 104 = .ok (.ireturn, 1) := by decide +kernel
abbrev H_X12_text_19 (l : Launch) (q : Int32 → o_M → Prop) (v1 : Int32) (v2 : Int32) (M : o_M) : Prop := E_X12_text l q 19 [(0, rV (some 60)), (1, iV v1), (2, iV v2)] [] M 0 0
theorem w_X12_text (l : Launch) (M : o_M) (q : Int32 → o_M → Prop) (h : ((¬ (mI M 60 25) = 10 → H_X12_text_19 l q (mI M 60 25) 0 M) ∧ ((mI M 60 25) = 10 → q (-4) M))) : K_X12_text l [rV (some 60)] M q := by
  refine o_ctr (ini := false) (by decide +kernel) rfl (fun z => by cases z) (Nat.le_of_ble_eq_true rfl) ?_
  show E_X12_text l q 0 [(0, rV (some 60))] [] M 0 0
  refine e_aload_n dX12_text_0 rfl rfl ?_
  refine e_gI flX12_145 rfl rfl dX12_text_1 ?_
  refine e_bipush (v := 10) dX12_text_4 (by decide) ?_
  refine e_ic_ne (tgt := 12) dX12_text_6 (by decide) (fun c1 => ?_) (fun c1 => ?_)
  · replace h := h.1 c1
    refine e_aload_n dX12_text_12 rfl rfl ?_
    refine e_gI flX12_145 rfl rfl dX12_text_13 ?_
    refine e_istore_n (lv' := [(1, iV (mI M 60 25)), (0, rV (some 60))]) dX12_text_16 rfl (by decide) rfl ?_
    refine e_iconst (v := 0) dX12_text_17 (by decide) ?_
    refine e_istore_n (lv' := [(2, iV 0), (1, iV (mI M 60 25)), (0, rV (some 60))]) dX12_text_18 rfl (by decide) rfl ?_
    exact e_lv (List.forall_mem_cons.mpr ⟨rfl, List.forall_mem_cons.mpr ⟨rfl, List.forall_mem_cons.mpr ⟨rfl, fun _ h => absurd h List.not_mem_nil⟩⟩⟩) h
  · replace h := h.2 c1
    refine e_bipush (v := (-4)) dX12_text_9 (by decide) ?_
    exact e_iret rfl trivial dX12_text_11 ⟨_, rfl, h⟩
theorem w_X12_text_19 (l : Launch) (q : Int32 → o_M → Prop) (v1 : Int32) (v2 : Int32) (M : o_M) (h : (((mI M 60 24) ≤ v2 → (mR M 60 26 = some 87 ∧ (vp_in v1 (mN M 87) ∧ K_X12_reads l [rV (some 60), iV v1] (sI (sI M 87 v1.toNatClampNeg (mI M 60 24)) 60 24 0) (fun M5 => K_X12_isWrong l [rV (some 60)] M5 (fun r7 M6 => ((r7 = 0 → (mR M6 60 32 = some 93 ∧ (vp_in v1 (mN M6 93) ∧ q v1 (sI (sI M6 93 v1.toNatClampNeg (-1)) 60 25 ((mI (sI M6 93 v1.toNatClampNeg (-1)) 60 25) + 1))))) ∧ (¬ r7 = 0 → q ((-10) - (mI M6 60 47)) M6))))))) ∧ (¬ (mI M 60 24) ≤ v2 → (mR M 60 27 = some 88 ∧ (mR M 60 23 = some 84 ∧ (vp_in v2 (mN M 84) ∧ (vp_in ((300 * v1) + v2) (mN M 88) ∧ H_X12_text_19 l q v1 (v2 + 1) (sI M 88 (((300 * v1) + v2).toNatClampNeg) (mI M 84 v2.toNatClampNeg))))))))) : H_X12_text_19 l q v1 v2 M := by
  refine e_iload_n dX12_text_19 rfl rfl ?_
  refine e_aload_n dX12_text_20 rfl rfl ?_
  refine e_gI flX12_301 rfl rfl dX12_text_21 ?_
  refine e_ic_ge (tgt := 51) dX12_text_24 (by decide) (fun c2 => ?_) (fun c2 => ?_)
  · replace h := h.1 c2
    refine e_aload_n dX12_text_51 rfl rfl ?_
    obtain ⟨o3, h⟩ := h
    refine e_gA flX12_74 rfl rfl o3 dX12_text_52 ?_
    refine e_iload_n dX12_text_55 rfl rfl ?_
    refine e_aload_n dX12_text_56 rfl rfl ?_
    refine e_gI flX12_301 rfl rfl dX12_text_57 ?_
    obtain ⟨o4, h⟩ := h
    refine e_iast rfl o4 dX12_text_60 ?_
    refine e_aload_n dX12_text_61 rfl rfl ?_
    refine e_iconst (v := 0) dX12_text_62 (by decide) ?_
    refine e_pI flX12_301 rfl (Or.inl rfl) rfl rfl rfl dX12_text_63 ?_
    refine e_aload_n dX12_text_66 rfl rfl ?_
    refine e_iload_n dX12_text_67 rfl rfl ?_
    refine e_callV (As := [iV v1]) (st := []) mt_X12_reads in_X12_reads lkX12_141 rfl rfl ⟨by decide, by decide⟩ (Nat.le_of_ble_eq_true rfl) ⟨by decide, by decide⟩ rfl rfl dX12_text_68 (Ctr.mono h (fun v M5 h => ?_))
    obtain ⟨rfl, h⟩ := h
    show E_X12_text l q 71 [(0, rV (some 60)), (1, iV v1), (2, iV v2)] [] M5 0 0
    refine e_aload_n dX12_text_71 rfl rfl ?_
    refine e_callV (As := []) (st := []) mt_X12_isWrong in_X12_isWrong lkX12_236 rfl rfl ⟨by decide, by decide⟩ (Nat.le_of_ble_eq_true rfl) ⟨by decide, by decide⟩ rfl rfl dX12_text_72 (Ctr.mono h (fun v M6 h => ?_))
    obtain ⟨r7, rfl, h⟩ := h
    show E_X12_text l q 75 [(0, rV (some 60)), (1, iV v1), (2, iV v2)] [iV r7] M6 0 0
    refine e_if_eq (tgt := 86) dX12_text_75 (by decide) (fun c8 => ?_) (fun c8 => ?_)
    · replace h := h.1 c8
      refine e_aload_n dX12_text_86 rfl rfl ?_
      obtain ⟨o9, h⟩ := h
      refine e_gA flX12_92 rfl rfl o9 dX12_text_87 ?_
      refine e_iload_n dX12_text_90 rfl rfl ?_
      refine e_iconst (v := (-1)) dX12_text_91 (by decide) ?_
      obtain ⟨o10, h⟩ := h
      refine e_iast rfl o10 dX12_text_92 ?_
      refine e_aload_n dX12_text_93 rfl rfl ?_
      refine e_dup rfl dX12_text_94 ?_
      refine e_gI flX12_145 rfl rfl dX12_text_95 ?_
      refine e_iconst (v := 1) dX12_text_98 (by decide) ?_
      refine e_iadd dX12_text_99 ?_
      refine e_pI flX12_145 rfl (Or.inl rfl) rfl rfl rfl dX12_text_100 ?_
      refine e_iload_n dX12_text_103 rfl rfl ?_
      exact e_iret rfl trivial dX12_text_104 ⟨_, rfl, h⟩
    · replace h := h.2 c8
      refine e_bipush (v := (-10)) dX12_text_78 (by decide) ?_
      refine e_aload_n dX12_text_80 rfl rfl ?_
      refine e_gI flX12_233 rfl rfl dX12_text_81 ?_
      refine e_isub dX12_text_84 ?_
      exact e_iret rfl trivial dX12_text_85 ⟨_, rfl, h⟩
  · replace h := h.2 c2
    refine e_aload_n dX12_text_27 rfl rfl ?_
    obtain ⟨o11, h⟩ := h
    refine e_gA flX12_77 rfl rfl o11 dX12_text_28 ?_
    refine e_sipush (v := 300) dX12_text_31 (by decide) ?_
    refine e_iload_n dX12_text_34 rfl rfl ?_
    refine e_imul dX12_text_35 ?_
    refine e_iload_n dX12_text_36 rfl rfl ?_
    refine e_iadd dX12_text_37 ?_
    refine e_aload_n dX12_text_38 rfl rfl ?_
    obtain ⟨o12, h⟩ := h
    refine e_gA flX12_71 rfl rfl o12 dX12_text_39 ?_
    refine e_iload_n dX12_text_42 rfl rfl ?_
    obtain ⟨o13, h⟩ := h
    refine e_iald rfl o13 dX12_text_43 ?_
    obtain ⟨o14, h⟩ := h
    refine e_iast rfl o14 dX12_text_44 ?_
    refine e_iinc (v := 1) (lv' := [(2, iV (v2 + 1)), (0, rV (some 60)), (1, iV v1)]) rfl (by decide) (by decide) rfl dX12_text_45 ?_
    refine e_goto (tgt := 19) dX12_text_48 (by decide) ?_
    exact e_lv (List.forall_mem_cons.mpr ⟨rfl, List.forall_mem_cons.mpr ⟨rfl, List.forall_mem_cons.mpr ⟨rfl, fun _ h => absurd h List.not_mem_nil⟩⟩⟩) h
