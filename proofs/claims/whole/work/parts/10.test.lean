theorem dX11_isWithin_0 : decode cX11_isWithin 0 = .ok (.iload_n 0, 1) := by decide +kernel
theorem dX11_isWithin_1 : decode cX11_isWithin 1 = .ok (.iload_n 1, 1) := by decide +kernel
theorem dX11_isWithin_2 : decode cX11_isWithin 2 = .ok (.if_icmp .lt 12, 3) := by decide +kernel
theorem dX11_isWithin_5 : decode cX11_isWithin 5 = .ok (.iload_n 0, 1) := by decide +kernel
theorem dX11_isWithin_6 : decode cX11_isWithin 6 = .ok (.iload_n 2, 1) := by decide +kernel
theorem dX11_isWithin_7 : decode cX11_isWithin 7 = .ok (.if_icmp .gt 7, 3) := by decide +kernel
theorem dX11_isWithin_10 : decode cX11_isWithin 10 = .ok (.iconst 1, 1) := by decide +kernel
theorem dX11_isWithin_11 : decode cX11_isWithin 11 = .ok (.goto 4, 3) := by decide +kernel
theorem dX11_isWithin_14 : decode cX11_isWithin 14 = .ok (.iconst 0, 1) := by decide +kernel
theorem dX11_isWithin_15 : decode cX11_isWithin 15 = .ok (.ireturn, 1) := by decide +kernel
theorem dX11_isDay_0 : decode cX11_isDay 0 = .ok (.iload_n 0, 1) := by decide +kernel
theorem dX11_isDay_1 : decode cX11_isDay 1 = .ok (.iconst 0, 1) := by decide +kernel
theorem dX11_isDay_2 : decode cX11_isDay 2 = .ok (.sipush 400, 3) := by decide +kernel
theorem dX11_isDay_5 : decode cX11_isDay 5 = .ok (.invokestatic 124, 3) := by decide +kernel
theorem dX11_isDay_8 : decode cX11_isDay 8 = .ok (.ireturn, 1) := by decide +kernel
theorem dX11_findWork_0 : decode cX11_findWork 0 = .ok (.iload_n 1, 1) := by decide +kernel
theorem dX11_findWork_1 : decode cX11_findWork 1 = .ok (.iconst 0, 1) := by decide +kernel
theorem dX11_findWork_2 : decode cX11_findWork 2 = .ok (.aload_n 0, 1) := by decide +kernel
theorem dX11_findWork_3 : decode cX11_findWork 3 = .ok (.getfield 78, 3) := by decide +kernel
theorem dX11_findWork_6 : decode cX11_findWork 6 = .ok (.iconst 1, 1) := by decide +kernel
theorem dX11_findWork_7 : decode cX11_findWork 7 = .ok (.isub, 1) := by decide +kernel
theorem dX11_findWork_8 : decode cX11_findWork 8 = .ok (.invokestatic 124, 3) := by decide +kernel
theorem dX11_findWork_11 : decode cX11_findWork 11 = .ok (.ifCond .eq 12, 3) := by decide +kernel
theorem dX11_findWork_14 : decode cX11_findWork 14 = .ok (.aload_n 0, 1) := by decide +kernel
theorem dX11_findWork_15 : decode cX11_findWork 15 = .ok (.getfield 11, 3) := by decide +kernel
theorem dX11_findWork_18 : decode cX11_findWork 18 = .ok (.iload_n 1, 1) := by decide +kernel
theorem dX11_findWork_19 : decode cX11_findWork 19 = .ok (.aaload, 1) := by decide +kernel
theorem dX11_findWork_20 : decode cX11_findWork 20 = .ok (.goto 4, 3) := by decide +kernel
theorem dX11_findWork_23 : decode cX11_findWork 23 = .ok (.aconst_null, 1) := by decide +kernel
theorem dX11_findWork_24 : decode cX11_findWork 24 = .ok (.areturn, 1) := by decide +kernel
theorem dX10_canBePlayed_0 : decode cX10_canBePlayed 0 = .ok (.aload_n 0, 1) := by decide +kernel
theorem dX10_canBePlayed_1 : decode cX10_canBePlayed 1 = .ok (.getfield 9, 3) := by decide +kernel
theorem dX10_canBePlayed_4 : decode cX10_canBePlayed 4 = .ok (.ifCond .eq 26, 3) := by decide +kernel
theorem dX10_canBePlayed_7 : decode cX10_canBePlayed 7 = .ok (.aload_n 0, 1) := by decide +kernel
theorem dX10_canBePlayed_8 : decode cX10_canBePlayed 8 = .ok (.getfield 9, 3) := by decide +kernel
theorem dX10_canBePlayed_11 : decode cX10_canBePlayed 11 = .ok (.iconst 1, 1) := by decide +kernel
theorem dX10_canBePlayed_12 : decode cX10_canBePlayed 12 = .ok (.if_icmp .ne 22, 3) := by decide +kernel
theorem dX10_canBePlayed_15 : decode cX10_canBePlayed 15 = .ok (.iload_n 1, 1) := by decide +kernel
theorem dX10_canBePlayed_16 : decode cX10_canBePlayed 16 = .ok (.aload_n 0, 1) := by decide +kernel
theorem dX10_canBePlayed_17 : decode cX10_canBePlayed 17 = .ok (.getfield 15, 3) := by decide +kernel
theorem dX10_canBePlayed_20 : decode cX10_canBePlayed 20 = .ok (.aload_n 0, 1) := by decide +kernel
theorem dX10_canBePlayed_21 : decode cX10_canBePlayed 21 = .ok (.getfield 18, 3) := by decide +kernel
theorem dX10_canBePlayed_24 : decode cX10_canBePlayed 24 = .ok (.invokestatic 30, 3) := by decide +kernel
theorem dX10_canBePlayed_27 : decode cX10_canBePlayed 27 = .ok (.ifCond .eq 7, 3) := by decide +kernel
theorem dX10_canBePlayed_30 : decode cX10_canBePlayed 30 = .ok (.iconst 1, 1) := by decide +kernel
theorem dX10_canBePlayed_31 : decode cX10_canBePlayed 31 = .ok (.goto 4, 3) := by decide +kernel
theorem dX10_canBePlayed_34 : decode cX10_canBePlayed 34 = .ok (.iconst 0, 1) := by decide +kernel
theorem dX10_canBePlayed_35 : decode cX10_canBePlayed 35 = .ok (.ireturn, 1) := by decide +kernel
theorem dX11_workTold_0 : decode cX11_workTold 0 = .ok (.aload_n 0, 1) := by decide +kernel
theorem dX11_workTold_1 : decode cX11_workTold 1 = .ok (.iload_n 1, 1) := by decide +kernel
theorem dX11_workTold_2 : decode cX11_workTold 2 = .ok (.invokevirtual 131, 3) := by decide +kernel
theorem dX11_workTold_5 : decode cX11_workTold 5 = .ok (.astore_n 3, 1) := by decide +kernel
theorem dX11_workTold_6 : decode cX11_workTold 6 = .ok (.aload_n 3, 1) := by decide +kernel
theorem dX11_workTold_7 : decode cX11_workTold 7 = .ok (.ifnonnull 6, 3) := by decide +kernel
theorem dX11_workTold_10 : decode cX11_workTold 10 = .ok (.bipush (-2), 2) := by decide +kernel
theorem dX11_workTold_12 : decode cX11_workTold 12 = .ok (.ireturn, 1) := by decide +kernel
theorem dX11_workTold_13 : decode cX11_workTold 13 = .ok (.iload_n 2, 1) := by decide +kernel
theorem dX11_workTold_14 : decode cX11_workTold 14 = .ok (.tableswitch 68 0 5 #[38, 43, 48, 53, 58, 63], 38) := by decide +kernel
theorem dX11_workTold_52 : decode cX11_workTold 52 = .ok (.aload_n 3, 1) := by decide +kernel
theorem dX11_workTold_53 : decode cX11_workTold 53 = .ok (.getfield 193, 3) := by decide +kernel
theorem dX11_workTold_56 : decode cX11_workTold 56 = .ok (.ireturn, 1) := by decide +kernel
theorem dX11_workTold_57 : decode cX11_workTold 57 = .ok (.aload_n 3, 1) := by decide +kernel
theorem dX11_workTold_58 : decode cX11_workTold 58 = .ok (.getfield 196, 3) := by decide +kernel
theorem dX11_workTold_61 : decode cX11_workTold 61 = .ok (.ireturn, 1) := by decide +kernel
theorem dX11_workTold_62 : decode cX11_workTold 62 = .ok (.aload_n 3, 1) := by decide +kernel
theorem dX11_workTold_63 : decode cX11_workTold 63 = .ok (.getfield 199, 3) := by decide +kernel
theorem dX11_workTold_66 : decode cX11_workTold 66 = .ok (.ireturn, 1) := by decide +kernel
theorem dX11_workTold_67 : decode cX11_workTold 67 = .ok (.aload_n 3, 1) := by decide +kernel
theorem dX11_workTold_68 : decode cX11_workTold 68 = .ok (.getfield 139, 3) := by decide +kernel
theorem dX11_workTold_71 : decode cX11_workTold 71 = .ok (.ireturn, 1) := by decide +kernel
theorem dX11_workTold_72 : decode cX11_workTold 72 = .ok (.aload_n 3, 1) := by decide +kernel
theorem dX11_workTold_73 : decode cX11_workTold 73 = .ok (.getfield 142, 3) := by decide +kernel
theorem dX11_workTold_76 : decode cX11_workTold 76 = .ok (.ireturn, 1) := by decide +kernel
theorem dX11_workTold_77 : decode cX11_workTold 77 = .ok (.aload_n 3, 1) := by decide +kernel
theorem dX11_workTold_78 : decode cX11_workTold 78 = .ok (.getfield 145, 3) := by decide +kernel
theorem dX11_workTold_81 : decode cX11_workTold 81 = .ok (.ireturn, 1) := by decide +kernel
theorem dX11_workTold_82 : decode cX11_workTold 82 = .ok (.bipush (-2), 2) := by decide +kernel
theorem dX11_workTold_84 : decode cX11_workTold 84 = .ok (.ireturn, 1) := by decide +kernel
theorem dX11_played_0 : decode cX11_played 0 = .ok (.aload_n 0, 1) := by decide +kernel
theorem dX11_played_1 : decode cX11_played 1 = .ok (.iload_n 1, 1) := by decide +kernel
theorem dX11_played_2 : decode cX11_played 2 = .ok (.invokevirtual 131, 3) := by decide +kernel
theorem dX11_played_5 : decode cX11_played 5 = .ok (.astore_n 3, 1) := by decide +kernel
theorem dX11_played_6 : decode cX11_played 6 = .ok (.aload_n 3, 1) := by decide +kernel
theorem dX11_played_7 : decode cX11_played 7 = .ok (.ifnull 10, 3) := by decide +kernel
theorem dX11_played_10 : decode cX11_played 10 = .ok (.iload_n 2, 1) := by decide +kernel
theorem dX11_played_11 : decode cX11_played 11 = .ok (.invokestatic 167, 3) := by decide +kernel
theorem dX11_played_14 : decode cX11_played 14 = .ok (.ifCond .ne 6, 3) := by decide +kernel
theorem dX11_played_17 : decode cX11_played 17 = .ok (.bipush (-2), 2) := by decide +kernel
theorem dX11_played_19 : decode cX11_played 19 = .ok (.ireturn, 1) := by decide +kernel
theorem dX11_played_20 : decode cX11_played 20 = .ok (.aload_n 3, 1) := by decide +kernel
theorem dX11_played_21 : decode cX11_played 21 = .ok (.iload_n 2, 1) := by decide +kernel
theorem dX11_played_22 : decode cX11_played 22 = .ok (.invokevirtual 202, 3) := by decide +kernel
theorem dX11_played_25 : decode cX11_played 25 = .ok (.ifCond .eq 7, 3) := by decide +kernel
theorem dX11_played_28 : decode cX11_played 28 = .ok (.iconst 1, 1) := by decide +kernel
theorem dX11_played_29 : decode cX11_played 29 = .ok (.goto 4, 3) := by decide +kernel
theorem dX11_played_32 : decode cX11_played 32 = .ok (.iconst 0, 1) := by decide +kernel
theorem dX11_played_33 : decode cX11_played 33 = .ok (.ireturn, 1) := by decide +kernel
theorem dX2_hasLeave_0 : decode cX2_hasLeave 0 = .ok (.iconst 0, 1) := by decide +kernel
theorem dX2_hasLeave_1 : decode cX2_hasLeave 1 = .ok (.istore_n 2, 1) := by decide +kernel
theorem dX2_hasLeave_2 : decode cX2_hasLeave 2 = .ok (.iload_n 2, 1) := by decide +kernel
theorem dX2_hasLeave_3 : decode cX2_hasLeave 3 = .ok (.aload_n 0, 1) := by decide +kernel
theorem dX2_hasLeave_4 : decode cX2_hasLeave 4 = .ok (.getfield 18, 3) := by decide +kernel
theorem dX2_hasLeave_7 : decode cX2_hasLeave 7 = .ok (.if_icmp .ge 30, 3) := by decide +kernel
theorem dX2_hasLeave_10 : decode cX2_hasLeave 10 = .ok (.iload_n 1, 1) := by decide +kernel
theorem dX2_hasLeave_11 : decode cX2_hasLeave 11 = .ok (.aload_n 0, 1) := by decide +kernel
theorem dX2_hasLeave_12 : decode cX2_hasLeave 12 = .ok (.getfield 9, 3) := by decide +kernel
theorem dX2_hasLeave_15 : decode cX2_hasLeave 15 = .ok (.iload_n 2, 1) := by decide +kernel
theorem dX2_hasLeave_16 : decode cX2_hasLeave 16 = .ok (.iaload, 1) := by decide +kernel
theorem dX2_hasLeave_17 : decode cX2_hasLeave 17 = .ok (.aload_n 0, 1) := by decide +kernel
theorem dX2_hasLeave_18 : decode cX2_hasLeave 18 = .ok (.getfield 15, 3) := by decide +kernel
theorem dX2_hasLeave_21 : decode cX2_hasLeave 21 = .ok (.iload_n 2, 1) := by decide +kernel
theorem dX2_hasLeave_22 : decode cX2_hasLeave 22 = .ok (.iaload, 1) := by decide +kernel
theorem dX2_hasLeave_23 : decode cX2_hasLeave 23 = .ok (.invokestatic 31, 3) := by decide +kernel
theorem dX2_hasLeave_26 : decode cX2_hasLeave 26 = .ok (.ifCond .eq 5, 3) := by decide +kernel
theorem dX2_hasLeave_29 : decode cX2_hasLeave 29 = .ok (.iconst 1, 1) := by decide +kernel
theorem dX2_hasLeave_30 : decode cX2_hasLeave 30 = .ok (.ireturn, 1) := by decide +kernel
theorem dX2_hasLeave_31 : decode cX2_hasLeave 31 = .ok (.iinc 2 1, 3) := by decide +kernel
theorem dX2_hasLeave_34 : decode cX2_hasLeave 34 = .ok (.goto (-32), 3) := by decide +kernel
theorem dX2_hasLeave_37 : decode cX2_hasLeave 37 = .ok (.iconst 0, 1) := by decide +kernel
theorem dX2_hasLeave_38 : decode cX2_hasLeave 38 = .ok (.ireturn, 1) := by decide +kernel
theorem dX2_addLeave_0 : decode cX2_addLeave 0 = .ok (.aload_n 0, 1) := by decide +kernel
theorem dX2_addLeave_1 : decode cX2_addLeave 1 = .ok (.getfield 18, 3) := by decide +kernel
theorem dX2_addLeave_4 : decode cX2_addLeave 4 = .ok (.bipush 6, 2) := by decide +kernel
theorem dX2_addLeave_6 : decode cX2_addLeave 6 = .ok (.if_icmp .ge 33, 3) := by decide +kernel
theorem dX2_addLeave_9 : decode cX2_addLeave 9 = .ok (.aload_n 0, 1) := by decide +kernel
theorem dX2_addLeave_10 : decode cX2_addLeave 10 = .ok (.getfield 9, 3) := by decide +kernel
theorem dX2_addLeave_13 : decode cX2_addLeave 13 = .ok (.aload_n 0, 1) := by decide +kernel
theorem dX2_addLeave_14 : decode cX2_addLeave 14 = .ok (.getfield 18, 3) := by decide +kernel
theorem dX2_addLeave_17 : decode cX2_addLeave 17 = .ok (.iload_n 1, 1) := by decide +kernel
theorem dX2_addLeave_18 : decode cX2_addLeave 18 = .ok (.iastore, 1) := by decide +kernel
theorem dX2_addLeave_19 : decode cX2_addLeave 19 = .ok (.aload_n 0, 1) := by decide +kernel
theorem dX2_addLeave_20 : decode cX2_addLeave 20 = .ok (.getfield 15, 3) := by decide +kernel
theorem dX2_addLeave_23 : decode cX2_addLeave 23 = .ok (.aload_n 0, 1) := by decide +kernel
theorem dX2_addLeave_24 : decode cX2_addLeave 24 = .ok (.getfield 18, 3) := by decide +kernel
theorem dX2_addLeave_27 : decode cX2_addLeave 27 = .ok (.iload_n 2, 1) := by decide +kernel
theorem dX2_addLeave_28 : decode cX2_addLeave 28 = .ok (.iastore, 1) := by decide +kernel
theorem dX2_addLeave_29 : decode cX2_addLeave 29 = .ok (.aload_n 0, 1) := by decide +kernel
theorem dX2_addLeave_30 : decode cX2_addLeave 30 = .ok (.dup, 1) := by decide +kernel
theorem dX2_addLeave_31 : decode cX2_addLeave 31 = .ok (.getfield 18, 3) := by decide +kernel
theorem dX2_addLeave_34 : decode cX2_addLeave 34 = .ok (.iconst 1, 1) := by decide +kernel
theorem dX2_addLeave_35 : decode cX2_addLeave 35 = .ok (.iadd, 1) := by decide +kernel
theorem dX2_addLeave_36 : decode cX2_addLeave 36 = .ok (.putfield 18, 3) := by decide +kernel
theorem dX2_addLeave_39 : decode cX2_addLeave 39 = .ok (.return_, 1) := by decide +kernel
theorem dX2_plays_0 : decode cX2_plays 0 = .ok (.iload_n 1, 1) := by decide +kernel
theorem dX2_plays_1 : decode cX2_plays 1 = .ok (.aload_n 0, 1) := by decide +kernel
theorem dX2_plays_2 : decode cX2_plays 2 = .ok (.getfield 22, 3) := by decide +kernel
theorem dX2_plays_5 : decode cX2_plays 5 = .ok (.if_icmp .eq 15, 3) := by decide +kernel
theorem dX2_plays_8 : decode cX2_plays 8 = .ok (.aload_n 0, 1) := by decide +kernel
theorem dX2_plays_9 : decode cX2_plays 9 = .ok (.getfield 25, 3) := by decide +kernel
theorem dX2_plays_12 : decode cX2_plays 12 = .ok (.iload_n 1, 1) := by decide +kernel
theorem dX2_plays_13 : decode cX2_plays 13 = .ok (.ishr, 1) := by decide +kernel
theorem dX2_plays_14 : decode cX2_plays 14 = .ok (.iconst 1, 1) := by decide +kernel
theorem dX2_plays_15 : decode cX2_plays 15 = .ok (.iand, 1) := by decide +kernel
theorem dX2_plays_16 : decode cX2_plays 16 = .ok (.iconst 1, 1) := by decide +kernel
theorem dX2_plays_17 : decode cX2_plays 17 = .ok (.if_icmp .ne 7, 3) := by decide +kernel
theorem dX2_plays_20 : decode cX2_plays 20 = .ok (.iconst 1, 1) := by decide +kernel
theorem dX2_plays_21 : decode cX2_plays 21 = .ok (.goto 4, 3) := by decide +kernel
theorem dX2_plays_24 : decode cX2_plays 24 = .ok (.iconst 0, 1) := by decide +kernel
theorem dX2_plays_25 : decode cX2_plays 25 = .ok (.ireturn, 1) := by decide +kernel
abbrev K_X11_isWithin (l : Launch) (As : List o_V) (M : o_M) (q : Int32 → o_M → Prop) : Prop := Ctr l yX11_isWithin cX11_isWithin 3 (some .boolean) 0 0 0 As M (QI q)
abbrev E_X11_isWithin (l : Launch) (q : Int32 → o_M → Prop) (pc : Nat) (lv : List (Nat × o_V)) (st : List o_V) (M : o_M) (k n : Nat) : Prop := Ev l (o_rm 0 0 0) RX11 cX11_isWithin 3 (some .boolean) false 0 0 (QI q) pc lv st M k n
theorem w_X11_isWithin (l : Launch) (p0 : Int32) (p1 : Int32) (p2 : Int32) (M : o_M) (q : Int32 → o_M → Prop) (h : ((p0 < p1 → q 0 M) ∧ (¬ p0 < p1 → ((p2 < p0 → q 0 M) ∧ (¬ p2 < p0 → q 1 M))))) : K_X11_isWithin l [iV p0, iV p1, iV p2] M q := by
  refine o_ctr (ini := false) (by decide) rfl (fun z => by cases z) (Nat.le_of_ble_eq_true rfl) ?_
  show E_X11_isWithin l q 0 [(0, iV p0), (1, iV p1), (2, iV p2)] [] M 0 0
  refine e_iload_n dX11_isWithin_0 rfl rfl ?_
  refine e_iload_n dX11_isWithin_1 rfl rfl ?_
  refine e_ic_lt (tgt := 14) dX11_isWithin_2 (by decide) (fun c1 => ?_) (fun c1 => ?_)
  · replace h := h.1 c1
    refine e_iconst (v := 0) dX11_isWithin_14 (by decide) ?_
    exact e_iret rfl rb_0 dX11_isWithin_15 ⟨_, rfl, h⟩
  · replace h := h.2 c1
    refine e_iload_n dX11_isWithin_5 rfl rfl ?_
    refine e_iload_n dX11_isWithin_6 rfl rfl ?_
    refine e_ic_gt (tgt := 14) dX11_isWithin_7 (by decide) (fun c2 => ?_) (fun c2 => ?_)
    · replace h := h.1 c2
      refine e_iconst (v := 0) dX11_isWithin_14 (by decide) ?_
      exact e_iret rfl rb_0 dX11_isWithin_15 ⟨_, rfl, h⟩
    · replace h := h.2 c2
      refine e_iconst (v := 1) dX11_isWithin_10 (by decide) ?_
      refine e_goto (tgt := 15) dX11_isWithin_11 (by decide) ?_
      exact e_iret rfl rb_1 dX11_isWithin_15 ⟨_, rfl, h⟩
abbrev K_X11_isDay (l : Launch) (As : List o_V) (M : o_M) (q : Int32 → o_M → Prop) : Prop := Ctr l yX11_isDay cX11_isDay 1 (some .boolean) 1 0 0 As M (QI q)
abbrev E_X11_isDay (l : Launch) (q : Int32 → o_M → Prop) (pc : Nat) (lv : List (Nat × o_V)) (st : List o_V) (M : o_M) (k n : Nat) : Prop := Ev l (o_rm 1 0 0) RX11 cX11_isDay 1 (some .boolean) false 0 0 (QI q) pc lv st M k n
theorem w_X11_isDay (l : Launch) (p0 : Int32) (M : o_M) (q : Int32 → o_M → Prop) (h : K_X11_isWithin l [iV p0, iV 0, iV 400] M (fun r2 M1 => (narrow .boolean (.int r2) = .int r2 ∧ q r2 M1))) : K_X11_isDay l [iV p0] M q := by
  refine o_ctr (ini := false) (by decide) rfl (fun z => by cases z) (Nat.le_of_ble_eq_true rfl) ?_
  show E_X11_isDay l q 0 [(0, iV p0)] [] M 0 0
  refine e_iload_n dX11_isDay_0 rfl rfl ?_
  refine e_iconst (v := 0) dX11_isDay_1 (by decide) ?_
  refine e_sipush (v := 400) dX11_isDay_2 (by decide) ?_
  refine e_callS (As := [iV p0, iV 0, iV 400]) (st := []) mt_X11_isWithin is_X11_isWithin lkX11_124 ⟨by decide, by decide⟩ (Nat.le_of_ble_eq_true rfl) ⟨by decide, by decide⟩ rfl rfl dX11_isDay_5 (Ctr.mono h (fun v M1 h => ?_))
  obtain ⟨r2, rfl, h⟩ := h
  show E_X11_isDay l q 8 [(0, iV p0)] [iV r2] M1 0 0
  obtain ⟨o3, h⟩ := h
  exact e_iret rfl o3 dX11_isDay_8 ⟨_, rfl, h⟩
abbrev K_X11_findWork (l : Launch) (As : List o_V) (M : o_M) (q : Option Nat → o_M → Prop) : Prop := Ctr l yX11_findWork cX11_findWork 2 (some (.object "OrchestraYear$Work")) 1 0 0 As M (QR q)
abbrev E_X11_findWork (l : Launch) (q : Option Nat → o_M → Prop) (pc : Nat) (lv : List (Nat × o_V)) (st : List o_V) (M : o_M) (k n : Nat) : Prop := Ev l (o_rm 1 0 0) RX11 cX11_findWork 2 (some (.object "OrchestraYear$Work")) false 0 0 (QR q) pc lv st M k n
theorem w_X11_findWork (l : Launch) (p1 : Int32) (M : o_M) (q : Option Nat → o_M → Prop) (h : K_X11_isWithin l [iV p1, iV 0, iV ((mI M 16 11) - 1)] M (fun r2 M1 => ((r2 = 0 → q none M1) ∧ (¬ r2 = 0 → (mR M1 16 0 = some 17 ∧ (vp_in p1 (mN M1 17) ∧ q (mR M1 17 p1.toNatClampNeg) M1)))))) : K_X11_findWork l [rV (some 16), iV p1] M q := by
  refine o_ctr (ini := false) (by decide) rfl (fun z => by cases z) (Nat.le_of_ble_eq_true rfl) ?_
  show E_X11_findWork l q 0 [(0, rV (some 16)), (1, iV p1)] [] M 0 0
  refine e_iload_n dX11_findWork_0 rfl rfl ?_
  refine e_iconst (v := 0) dX11_findWork_1 (by decide) ?_
  refine e_aload_n dX11_findWork_2 rfl rfl ?_
  refine e_gI flX11_78 rfl rfl dX11_findWork_3 ?_
  refine e_iconst (v := 1) dX11_findWork_6 (by decide) ?_
  refine e_isub dX11_findWork_7 ?_
  refine e_callS (As := [iV p1, iV 0, iV ((mI M 16 11) - 1)]) (st := []) mt_X11_isWithin is_X11_isWithin lkX11_124 ⟨by decide, by decide⟩ (Nat.le_of_ble_eq_true rfl) ⟨by decide, by decide⟩ rfl rfl dX11_findWork_8 (Ctr.mono h (fun v M1 h => ?_))
  obtain ⟨r2, rfl, h⟩ := h
  show E_X11_findWork l q 11 [(0, rV (some 16)), (1, iV p1)] [iV r2] M1 0 0
  refine e_if_eq (tgt := 23) dX11_findWork_11 (by decide) (fun c3 => ?_) (fun c3 => ?_)
  · replace h := h.1 c3
    refine e_null dX11_findWork_23 ?_
    exact e_aret rfl trivial dX11_findWork_24 ⟨_, rfl, h⟩
  · replace h := h.2 c3
    refine e_aload_n dX11_findWork_14 rfl rfl ?_
    obtain ⟨o4, h⟩ := h
    refine e_gA flX11_11 rfl rfl o4 dX11_findWork_15 ?_
    refine e_iload_n dX11_findWork_18 rfl rfl ?_
    obtain ⟨o5, h⟩ := h
    refine e_aald rfl o5 dX11_findWork_19 ?_
    refine e_goto (tgt := 24) dX11_findWork_20 (by decide) ?_
    exact e_aret rfl trivial dX11_findWork_24 ⟨_, rfl, h⟩
abbrev K_X10_canBePlayed (l : Launch) (As : List o_V) (M : o_M) (q : Int32 → o_M → Prop) : Prop := Ctr l yX10_canBePlayed cX10_canBePlayed 2 (some .boolean) 1 0 0 As M (QI q)
abbrev E_X10_canBePlayed (l : Launch) (q : Int32 → o_M → Prop) (pc : Nat) (lv : List (Nat × o_V)) (st : List o_V) (M : o_M) (k n : Nat) : Prop := Ev l (o_rm 1 0 0) RX10 cX10_canBePlayed 2 (some .boolean) false 0 0 (QI q) pc lv st M k n
theorem w_X10_canBePlayed (l : Launch) (a0 : Nat) (p1 : Int32) (t0 : o_ty a0 = .inl 10) (M : o_M) (q : Int32 → o_M → Prop) (h : (((mI M a0 3) = 0 → q 1 M) ∧ (¬ (mI M a0 3) = 0 → ((¬ (mI M a0 3) = 1 → q 0 M) ∧ ((mI M a0 3) = 1 → K_X11_isWithin l [iV p1, iV (mI M a0 4), iV (mI M a0 5)] M (fun r4 M3 => ((r4 = 0 → q 0 M3) ∧ (¬ r4 = 0 → q 1 M3)))))))) : K_X10_canBePlayed l [rV (some a0), iV p1] M q := by
  refine o_ctr (ini := false) (by decide) rfl (fun z => by cases z) (Nat.le_of_ble_eq_true rfl) ?_
  show E_X10_canBePlayed l q 0 [(0, rV (some a0)), (1, iV p1)] [] M 0 0
  refine e_aload_n dX10_canBePlayed_0 rfl rfl ?_
  refine e_gI flX10_9 t0 rfl dX10_canBePlayed_1 ?_
  refine e_if_eq (tgt := 30) dX10_canBePlayed_4 (by decide) (fun c1 => ?_) (fun c1 => ?_)
  · replace h := h.1 c1
    refine e_iconst (v := 1) dX10_canBePlayed_30 (by decide) ?_
    refine e_goto (tgt := 35) dX10_canBePlayed_31 (by decide) ?_
    exact e_iret rfl rb_1 dX10_canBePlayed_35 ⟨_, rfl, h⟩
  · replace h := h.2 c1
    refine e_aload_n dX10_canBePlayed_7 rfl rfl ?_
    refine e_gI flX10_9 t0 rfl dX10_canBePlayed_8 ?_
    refine e_iconst (v := 1) dX10_canBePlayed_11 (by decide) ?_
    refine e_ic_ne (tgt := 34) dX10_canBePlayed_12 (by decide) (fun c2 => ?_) (fun c2 => ?_)
    · replace h := h.1 c2
      refine e_iconst (v := 0) dX10_canBePlayed_34 (by decide) ?_
      exact e_iret rfl rb_0 dX10_canBePlayed_35 ⟨_, rfl, h⟩
    · replace h := h.2 c2
      refine e_iload_n dX10_canBePlayed_15 rfl rfl ?_
      refine e_aload_n dX10_canBePlayed_16 rfl rfl ?_
      refine e_gI flX10_15 t0 rfl dX10_canBePlayed_17 ?_
      refine e_aload_n dX10_canBePlayed_20 rfl rfl ?_
      refine e_gI flX10_18 t0 rfl dX10_canBePlayed_21 ?_
      refine e_callS (As := [iV p1, iV (mI M a0 4), iV (mI M a0 5)]) (st := []) mt_X11_isWithin is_X11_isWithin lkX10_30 ⟨by decide, by decide⟩ (Nat.le_of_ble_eq_true rfl) ⟨by decide, by decide⟩ rfl rfl dX10_canBePlayed_24 (Ctr.mono h (fun v M3 h => ?_))
      obtain ⟨r4, rfl, h⟩ := h
      show E_X10_canBePlayed l q 27 [(0, rV (some a0)), (1, iV p1)] [iV r4] M3 0 0
      refine e_if_eq (tgt := 34) dX10_canBePlayed_27 (by decide) (fun c5 => ?_) (fun c5 => ?_)
      · replace h := h.1 c5
        refine e_iconst (v := 0) dX10_canBePlayed_34 (by decide) ?_
        exact e_iret rfl rb_0 dX10_canBePlayed_35 ⟨_, rfl, h⟩
      · replace h := h.2 c5
        refine e_iconst (v := 1) dX10_canBePlayed_30 (by decide) ?_
        refine e_goto (tgt := 35) dX10_canBePlayed_31 (by decide) ?_
        exact e_iret rfl rb_1 dX10_canBePlayed_35 ⟨_, rfl, h⟩
abbrev K_X11_workTold (l : Launch) (As : List o_V) (M : o_M) (q : Int32 → o_M → Prop) : Prop := Ctr l yX11_workTold cX11_workTold 4 (some .int) 2 0 0 As M (QI q)
abbrev E_X11_workTold (l : Launch) (q : Int32 → o_M → Prop) (pc : Nat) (lv : List (Nat × o_V)) (st : List o_V) (M : o_M) (k n : Nat) : Prop := Ev l (o_rm 2 0 0) RX11 cX11_workTold 4 (some .int) false 0 0 (QI q) pc lv st M k n
theorem w_X11_workTold (l : Launch) (p1 : Int32) (p2 : Int32) (M : o_M) (q : Int32 → o_M → Prop) (h : K_X11_findWork l [rV (some 16), iV p1] M (fun r2 M1 => ((r2 = none → q (-2) M1) ∧ (∀ b3, r2 = some b3 → o_ty b3 = .inl 10 ∧ (((p2 < 0 ∨ 5 < p2) → q (-2) M1) ∧ (p2 = 0 → q (mI M1 b3 0) M1) ∧ (p2 = 1 → q (mI M1 b3 1) M1) ∧ (p2 = 2 → q (mI M1 b3 2) M1) ∧ (p2 = 3 → q (mI M1 b3 3) M1) ∧ (p2 = 4 → q (mI M1 b3 4) M1) ∧ (p2 = 5 → q (mI M1 b3 5) M1)))))) : K_X11_workTold l [rV (some 16), iV p1, iV p2] M q := by
  refine o_ctr (ini := false) (by decide) rfl (fun z => by cases z) (Nat.le_of_ble_eq_true rfl) ?_
  show E_X11_workTold l q 0 [(0, rV (some 16)), (1, iV p1), (2, iV p2)] [] M 0 0
  refine e_aload_n dX11_workTold_0 rfl rfl ?_
  refine e_iload_n dX11_workTold_1 rfl rfl ?_
  refine e_callV (As := [iV p1]) (st := []) mt_X11_findWork in_X11_findWork lkX11_131 rfl rfl ⟨by decide, by decide⟩ (Nat.le_of_ble_eq_true rfl) ⟨by decide, by decide⟩ rfl rfl dX11_workTold_2 (Ctr.mono h (fun v M1 h => ?_))
  obtain ⟨r2, rfl, h⟩ := h
  show E_X11_workTold l q 5 [(0, rV (some 16)), (1, iV p1), (2, iV p2)] [rV r2] M1 0 0
  refine e_astore_n (lv' := [(3, rV r2), (0, rV (some 16)), (1, iV p1), (2, iV p2)]) dX11_workTold_5 rfl (by decide) rfl ?_
  refine e_aload_n dX11_workTold_6 rfl rfl ?_
  refine e_ifnonnull (tgt := 13) dX11_workTold_7 (by decide) (fun b3 c4 => ?_) (fun c4 => ?_)
  · obtain ⟨t5, h⟩ := h.2 b3 c4
    refine e_eq (lv' := [(3, rV (some b3)), (0, rV (some 16)), (1, iV p1), (2, iV p2)]) (st' := []) (by rw [c4]) (by first | rfl | rw [c4]) rfl ?_
    refine e_iload_n dX11_workTold_13 rfl rfl ?_
    rcases o_tab p2 0 5 (by decide) with c6 | c6
    · replace h := h.1 c6
      refine e_tabOut (tgt := 82) dX11_workTold_14 (o_tabo (by decide) (by decide) c6) (by decide) ?_
      refine e_bipush (v := (-2)) dX11_workTold_82 (by decide) ?_
      exact e_iret rfl trivial dX11_workTold_84 ⟨_, rfl, h⟩
    · have h0 := h.2
      have e1 : p2.toInt = 0 ∨ p2.toInt = 1 ∨ p2.toInt = 2 ∨ p2.toInt = 3 ∨ p2.toInt = 4 ∨ p2.toInt = 5 := by omega
      clear h; rcases e1 with e1 | e1 | e1 | e1 | e1 | e1
      · have h := h0.1 (Int32.toInt_inj.mp e1)
        refine e_tabIn (tgt := 52) (off := 38) dX11_workTold_14 (by rw [e1]; decide) (by rw [e1]; decide) (by rw [e1]; rfl) (by decide) ?_
        refine e_aload_n dX11_workTold_52 rfl rfl ?_
        refine e_gI flX11_193 t5 rfl dX11_workTold_53 ?_
        exact e_iret rfl trivial dX11_workTold_56 ⟨_, rfl, h⟩
      · have h := h0.2.1 (Int32.toInt_inj.mp e1)
        refine e_tabIn (tgt := 57) (off := 43) dX11_workTold_14 (by rw [e1]; decide) (by rw [e1]; decide) (by rw [e1]; rfl) (by decide) ?_
        refine e_aload_n dX11_workTold_57 rfl rfl ?_
        refine e_gI flX11_196 t5 rfl dX11_workTold_58 ?_
        exact e_iret rfl trivial dX11_workTold_61 ⟨_, rfl, h⟩
      · have h := h0.2.2.1 (Int32.toInt_inj.mp e1)
        refine e_tabIn (tgt := 62) (off := 48) dX11_workTold_14 (by rw [e1]; decide) (by rw [e1]; decide) (by rw [e1]; rfl) (by decide) ?_
        refine e_aload_n dX11_workTold_62 rfl rfl ?_
        refine e_gI flX11_199 t5 rfl dX11_workTold_63 ?_
        exact e_iret rfl trivial dX11_workTold_66 ⟨_, rfl, h⟩
      · have h := h0.2.2.2.1 (Int32.toInt_inj.mp e1)
        refine e_tabIn (tgt := 67) (off := 53) dX11_workTold_14 (by rw [e1]; decide) (by rw [e1]; decide) (by rw [e1]; rfl) (by decide) ?_
        refine e_aload_n dX11_workTold_67 rfl rfl ?_
        refine e_gI flX11_139 t5 rfl dX11_workTold_68 ?_
        exact e_iret rfl trivial dX11_workTold_71 ⟨_, rfl, h⟩
      · have h := h0.2.2.2.2.1 (Int32.toInt_inj.mp e1)
        refine e_tabIn (tgt := 72) (off := 58) dX11_workTold_14 (by rw [e1]; decide) (by rw [e1]; decide) (by rw [e1]; rfl) (by decide) ?_
        refine e_aload_n dX11_workTold_72 rfl rfl ?_
        refine e_gI flX11_142 t5 rfl dX11_workTold_73 ?_
        exact e_iret rfl trivial dX11_workTold_76 ⟨_, rfl, h⟩
      · have h := h0.2.2.2.2.2 (Int32.toInt_inj.mp e1)
        refine e_tabIn (tgt := 77) (off := 63) dX11_workTold_14 (by rw [e1]; decide) (by rw [e1]; decide) (by rw [e1]; rfl) (by decide) ?_
        refine e_aload_n dX11_workTold_77 rfl rfl ?_
        refine e_gI flX11_145 t5 rfl dX11_workTold_78 ?_
        exact e_iret rfl trivial dX11_workTold_81 ⟨_, rfl, h⟩
  · replace h := h.1 c4
    refine e_eq (lv' := [(3, rV none), (0, rV (some 16)), (1, iV p1), (2, iV p2)]) (st' := []) (by rw [c4]) (by first | rfl | rw [c4]) rfl ?_
    refine e_bipush (v := (-2)) dX11_workTold_10 (by decide) ?_
    exact e_iret rfl trivial dX11_workTold_12 ⟨_, rfl, h⟩
abbrev K_X11_played (l : Launch) (As : List o_V) (M : o_M) (q : Int32 → o_M → Prop) : Prop := Ctr l yX11_played cX11_played 4 (some .int) 2 0 0 As M (QI q)
abbrev E_X11_played (l : Launch) (q : Int32 → o_M → Prop) (pc : Nat) (lv : List (Nat × o_V)) (st : List o_V) (M : o_M) (k n : Nat) : Prop := Ev l (o_rm 2 0 0) RX11 cX11_played 4 (some .int) false 0 0 (QI q) pc lv st M k n
theorem w_X11_played (l : Launch) (p1 : Int32) (p2 : Int32) (M : o_M) (q : Int32 → o_M → Prop) (h : K_X11_findWork l [rV (some 16), iV p1] M (fun r2 M1 => ((r2 = none → q (-2) M1) ∧ (∀ b3, r2 = some b3 → o_ty b3 = .inl 10 ∧ K_X11_isDay l [iV p2] M1 (fun r7 M6 => ((¬ r7 = 0 → K_X10_canBePlayed l [rV (some b3), iV p2] M6 (fun r10 M9 => ((r10 = 0 → q 0 M9) ∧ (¬ r10 = 0 → q 1 M9)))) ∧ (r7 = 0 → q (-2) M6))))))) : K_X11_played l [rV (some 16), iV p1, iV p2] M q := by
  refine o_ctr (ini := false) (by decide) rfl (fun z => by cases z) (Nat.le_of_ble_eq_true rfl) ?_
  show E_X11_played l q 0 [(0, rV (some 16)), (1, iV p1), (2, iV p2)] [] M 0 0
  refine e_aload_n dX11_played_0 rfl rfl ?_
  refine e_iload_n dX11_played_1 rfl rfl ?_
  refine e_callV (As := [iV p1]) (st := []) mt_X11_findWork in_X11_findWork lkX11_131 rfl rfl ⟨by decide, by decide⟩ (Nat.le_of_ble_eq_true rfl) ⟨by decide, by decide⟩ rfl rfl dX11_played_2 (Ctr.mono h (fun v M1 h => ?_))
  obtain ⟨r2, rfl, h⟩ := h
  show E_X11_played l q 5 [(0, rV (some 16)), (1, iV p1), (2, iV p2)] [rV r2] M1 0 0
  refine e_astore_n (lv' := [(3, rV r2), (0, rV (some 16)), (1, iV p1), (2, iV p2)]) dX11_played_5 rfl (by decide) rfl ?_
  refine e_aload_n dX11_played_6 rfl rfl ?_
  refine e_ifnull (tgt := 17) dX11_played_7 (by decide) (fun c4 => ?_) (fun b3 c4 => ?_)
  · replace h := h.1 c4
    refine e_eq (lv' := [(3, rV none), (0, rV (some 16)), (1, iV p1), (2, iV p2)]) (st' := []) (by rw [c4]) (by first | rfl | rw [c4]) rfl ?_
    refine e_bipush (v := (-2)) dX11_played_17 (by decide) ?_
    exact e_iret rfl trivial dX11_played_19 ⟨_, rfl, h⟩
  · obtain ⟨t5, h⟩ := h.2 b3 c4
    refine e_eq (lv' := [(3, rV (some b3)), (0, rV (some 16)), (1, iV p1), (2, iV p2)]) (st' := []) (by rw [c4]) (by first | rfl | rw [c4]) rfl ?_
    refine e_iload_n dX11_played_10 rfl rfl ?_
    refine e_callS (As := [iV p2]) (st := []) mt_X11_isDay is_X11_isDay lkX11_167 ⟨by decide, by decide⟩ (Nat.le_of_ble_eq_true rfl) ⟨by decide, by decide⟩ rfl rfl dX11_played_11 (Ctr.mono h (fun v M6 h => ?_))
    obtain ⟨r7, rfl, h⟩ := h
    show E_X11_played l q 14 [(3, rV (some b3)), (0, rV (some 16)), (1, iV p1), (2, iV p2)] [iV r7] M6 0 0
    refine e_if_ne (tgt := 20) dX11_played_14 (by decide) (fun c8 => ?_) (fun c8 => ?_)
    · replace h := h.1 c8
      refine e_aload_n dX11_played_20 rfl rfl ?_
      refine e_iload_n dX11_played_21 rfl rfl ?_
      refine e_callV (As := [iV p2]) (st := []) mt_X10_canBePlayed in_X10_canBePlayed lkX11_202 rfl t5 ⟨by decide, by decide⟩ (Nat.le_of_ble_eq_true rfl) ⟨by decide, by decide⟩ rfl rfl dX11_played_22 (Ctr.mono h (fun v M9 h => ?_))
      obtain ⟨r10, rfl, h⟩ := h
      show E_X11_played l q 25 [(3, rV (some b3)), (0, rV (some 16)), (1, iV p1), (2, iV p2)] [iV r10] M9 0 0
      refine e_if_eq (tgt := 32) dX11_played_25 (by decide) (fun c11 => ?_) (fun c11 => ?_)
      · replace h := h.1 c11
        refine e_iconst (v := 0) dX11_played_32 (by decide) ?_
        exact e_iret rfl trivial dX11_played_33 ⟨_, rfl, h⟩
      · replace h := h.2 c11
        refine e_iconst (v := 1) dX11_played_28 (by decide) ?_
        refine e_goto (tgt := 33) dX11_played_29 (by decide) ?_
        exact e_iret rfl trivial dX11_played_33 ⟨_, rfl, h⟩
    · replace h := h.2 c8
      refine e_bipush (v := (-2)) dX11_played_17 (by decide) ?_
      exact e_iret rfl trivial dX11_played_19 ⟨_, rfl, h⟩
abbrev K_X2_hasLeave (l : Launch) (As : List o_V) (M : o_M) (q : Int32 → o_M → Prop) : Prop := Ctr l yX2_hasLeave cX2_hasLeave 3 (some .boolean) 1 0 0 As M (QI q)
abbrev E_X2_hasLeave (l : Launch) (q : Int32 → o_M → Prop) (pc : Nat) (lv : List (Nat × o_V)) (st : List o_V) (M : o_M) (k n : Nat) : Prop := Ev l (o_rm 1 0 0) RX2 cX2_hasLeave 3 (some .boolean) false 0 0 (QI q) pc lv st M k n
abbrev H_X2_hasLeave_2 (l : Launch) (q : Int32 → o_M → Prop) (a0 : Nat) (p1 : Int32) (v1 : Int32) (v2 : Int32) (M : o_M) : Prop := E_X2_hasLeave l q 2 [(0, rV (some a0)), (1, iV v1), (2, iV v2)] [] M 0 0
theorem w_X2_hasLeave (l : Launch) (a0 : Nat) (p1 : Int32) (t0 : o_ty a0 = .inl 2) (M : o_M) (q : Int32 → o_M → Prop) (h : H_X2_hasLeave_2 l q a0 p1 p1 0 M) : K_X2_hasLeave l [rV (some a0), iV p1] M q := by
  refine o_ctr (ini := false) (by decide) rfl (fun z => by cases z) (Nat.le_of_ble_eq_true rfl) ?_
  show E_X2_hasLeave l q 0 [(0, rV (some a0)), (1, iV p1)] [] M 0 0
  refine e_iconst (v := 0) dX2_hasLeave_0 (by decide) ?_
  refine e_istore_n (lv' := [(2, iV 0), (0, rV (some a0)), (1, iV p1)]) dX2_hasLeave_1 rfl (by decide) rfl ?_
  exact e_lv (List.forall_mem_cons.mpr ⟨rfl, List.forall_mem_cons.mpr ⟨rfl, List.forall_mem_cons.mpr ⟨rfl, fun _ h => absurd h List.not_mem_nil⟩⟩⟩) h
theorem w_X2_hasLeave_2 (l : Launch) (q : Int32 → o_M → Prop) (a0 : Nat) (p1 : Int32) (t0 : o_ty a0 = .inl 2) (v1 : Int32) (v2 : Int32) (M : o_M) (h : (((mI M a0 5) ≤ v2 → q 0 M) ∧ (¬ (mI M a0 5) ≤ v2 → (mR M a0 3 = some (a0 + 1) ∧ (vp_in v2 (mN M (a0 + 1)) ∧ (mR M a0 4 = some (a0 + 2) ∧ (vp_in v2 (mN M (a0 + 2)) ∧ K_X11_isWithin l [iV v1, iV (mI M (a0 + 1) v2.toNatClampNeg), iV (mI M (a0 + 2) v2.toNatClampNeg)] M (fun r7 M6 => ((r7 = 0 → H_X2_hasLeave_2 l q a0 p1 v1 (v2 + 1) M6) ∧ (¬ r7 = 0 → q 1 M6)))))))))) : H_X2_hasLeave_2 l q a0 p1 v1 v2 M := by
  refine e_iload_n dX2_hasLeave_2 rfl rfl ?_
  refine e_aload_n dX2_hasLeave_3 rfl rfl ?_
  refine e_gI flX2_18 t0 rfl dX2_hasLeave_4 ?_
  refine e_ic_ge (tgt := 37) dX2_hasLeave_7 (by decide) (fun c1 => ?_) (fun c1 => ?_)
  · replace h := h.1 c1
    refine e_iconst (v := 0) dX2_hasLeave_37 (by decide) ?_
    exact e_iret rfl rb_0 dX2_hasLeave_38 ⟨_, rfl, h⟩
  · replace h := h.2 c1
    refine e_iload_n dX2_hasLeave_10 rfl rfl ?_
    refine e_aload_n dX2_hasLeave_11 rfl rfl ?_
    obtain ⟨o2, h⟩ := h
    refine e_gA flX2_9 t0 rfl o2 dX2_hasLeave_12 ?_
    refine e_iload_n dX2_hasLeave_15 rfl rfl ?_
    obtain ⟨o3, h⟩ := h
    refine e_iald ((o_sub2 t0).2.1) o3 dX2_hasLeave_16 ?_
    refine e_aload_n dX2_hasLeave_17 rfl rfl ?_
    obtain ⟨o4, h⟩ := h
    refine e_gA flX2_15 t0 rfl o4 dX2_hasLeave_18 ?_
    refine e_iload_n dX2_hasLeave_21 rfl rfl ?_
    obtain ⟨o5, h⟩ := h
    refine e_iald ((o_sub2 t0).2.2) o5 dX2_hasLeave_22 ?_
    refine e_callS (As := [iV v1, iV (mI M (a0 + 1) v2.toNatClampNeg), iV (mI M (a0 + 2) v2.toNatClampNeg)]) (st := []) mt_X11_isWithin is_X11_isWithin lkX2_31 ⟨by decide, by decide⟩ (Nat.le_of_ble_eq_true rfl) ⟨by decide, by decide⟩ rfl rfl dX2_hasLeave_23 (Ctr.mono h (fun v M6 h => ?_))
    obtain ⟨r7, rfl, h⟩ := h
    show E_X2_hasLeave l q 26 [(0, rV (some a0)), (1, iV v1), (2, iV v2)] [iV r7] M6 0 0
    refine e_if_eq (tgt := 31) dX2_hasLeave_26 (by decide) (fun c8 => ?_) (fun c8 => ?_)
    · replace h := h.1 c8
      refine e_iinc (v := 1) (lv' := [(2, iV (v2 + 1)), (0, rV (some a0)), (1, iV v1)]) rfl (by decide) (by decide) rfl dX2_hasLeave_31 ?_
      refine e_goto (tgt := 2) dX2_hasLeave_34 (by decide) ?_
      exact e_lv (List.forall_mem_cons.mpr ⟨rfl, List.forall_mem_cons.mpr ⟨rfl, List.forall_mem_cons.mpr ⟨rfl, fun _ h => absurd h List.not_mem_nil⟩⟩⟩) h
    · replace h := h.2 c8
      refine e_iconst (v := 1) dX2_hasLeave_29 (by decide) ?_
      exact e_iret rfl rb_1 dX2_hasLeave_30 ⟨_, rfl, h⟩
abbrev K_X2_addLeave (l : Launch) (As : List o_V) (M : o_M) (q : o_M → Prop) : Prop := Ctr l yX2_addLeave cX2_addLeave 3 none 0 0 0 As M (QU q)
abbrev E_X2_addLeave (l : Launch) (q : o_M → Prop) (pc : Nat) (lv : List (Nat × o_V)) (st : List o_V) (M : o_M) (k n : Nat) : Prop := Ev l (o_rm 0 0 0) RX2 cX2_addLeave 3 none false 0 0 (QU q) pc lv st M k n
theorem w_X2_addLeave (l : Launch) (a0 : Nat) (p1 : Int32) (p2 : Int32) (t0 : o_ty a0 = .inl 2) (M : o_M) (q : o_M → Prop) (h : ((6 ≤ (mI M a0 5) → q M) ∧ (¬ 6 ≤ (mI M a0 5) → (mR M a0 3 = some (a0 + 1) ∧ (vp_in (mI M a0 5) (mN M (a0 + 1)) ∧ (mR (sI M (a0 + 1) ((mI M a0 5).toNatClampNeg) p1) a0 4 = some (a0 + 2) ∧ (vp_in (mI (sI M (a0 + 1) ((mI M a0 5).toNatClampNeg) p1) a0 5) (mN (sI M (a0 + 1) ((mI M a0 5).toNatClampNeg) p1) (a0 + 2)) ∧ q (sI (sI (sI M (a0 + 1) ((mI M a0 5).toNatClampNeg) p1) (a0 + 2) ((mI (sI M (a0 + 1) ((mI M a0 5).toNatClampNeg) p1) a0 5).toNatClampNeg) p2) a0 5 ((mI (sI (sI M (a0 + 1) ((mI M a0 5).toNatClampNeg) p1) (a0 + 2) ((mI (sI M (a0 + 1) ((mI M a0 5).toNatClampNeg) p1) a0 5).toNatClampNeg) p2) a0 5) + 1))))))))) : K_X2_addLeave l [rV (some a0), iV p1, iV p2] M q := by
  refine o_ctr (ini := false) (by decide) rfl (fun z => by cases z) (Nat.le_of_ble_eq_true rfl) ?_
  show E_X2_addLeave l q 0 [(0, rV (some a0)), (1, iV p1), (2, iV p2)] [] M 0 0
  refine e_aload_n dX2_addLeave_0 rfl rfl ?_
  refine e_gI flX2_18 t0 rfl dX2_addLeave_1 ?_
  refine e_bipush (v := 6) dX2_addLeave_4 (by decide) ?_
  refine e_ic_ge (tgt := 39) dX2_addLeave_6 (by decide) (fun c1 => ?_) (fun c1 => ?_)
  · replace h := h.1 c1
    exact e_ret rfl dX2_addLeave_39 ⟨rfl, h⟩
  · replace h := h.2 c1
    refine e_aload_n dX2_addLeave_9 rfl rfl ?_
    obtain ⟨o2, h⟩ := h
    refine e_gA flX2_9 t0 rfl o2 dX2_addLeave_10 ?_
    refine e_aload_n dX2_addLeave_13 rfl rfl ?_
    refine e_gI flX2_18 t0 rfl dX2_addLeave_14 ?_
    refine e_iload_n dX2_addLeave_17 rfl rfl ?_
    obtain ⟨o3, h⟩ := h
    refine e_iast ((o_sub2 t0).2.1) o3 dX2_addLeave_18 ?_
    refine e_aload_n dX2_addLeave_19 rfl rfl ?_
    obtain ⟨o4, h⟩ := h
    refine e_gA flX2_15 t0 rfl o4 dX2_addLeave_20 ?_
    refine e_aload_n dX2_addLeave_23 rfl rfl ?_
    refine e_gI flX2_18 t0 rfl dX2_addLeave_24 ?_
    refine e_iload_n dX2_addLeave_27 rfl rfl ?_
    obtain ⟨o5, h⟩ := h
    refine e_iast ((o_sub2 t0).2.2) o5 dX2_addLeave_28 ?_
    refine e_aload_n dX2_addLeave_29 rfl rfl ?_
    refine e_dup rfl dX2_addLeave_30 ?_
    refine e_gI flX2_18 t0 rfl dX2_addLeave_31 ?_
    refine e_iconst (v := 1) dX2_addLeave_34 (by decide) ?_
    refine e_iadd dX2_addLeave_35 ?_
    refine e_pI flX2_18 t0 (Or.inl rfl) rfl rfl rfl dX2_addLeave_36 ?_
    exact e_ret rfl dX2_addLeave_39 ⟨rfl, h⟩
abbrev K_X2_plays (l : Launch) (As : List o_V) (M : o_M) (q : Int32 → o_M → Prop) : Prop := Ctr l yX2_plays cX2_plays 2 (some .boolean) 0 0 0 As M (QI q)
abbrev E_X2_plays (l : Launch) (q : Int32 → o_M → Prop) (pc : Nat) (lv : List (Nat × o_V)) (st : List o_V) (M : o_M) (k n : Nat) : Prop := Ev l (o_rm 0 0 0) RX2 cX2_plays 2 (some .boolean) false 0 0 (QI q) pc lv st M k n
theorem w_X2_plays (l : Launch) (a0 : Nat) (p1 : Int32) (t0 : o_ty a0 = .inl 2) (M : o_M) (q : Int32 → o_M → Prop) (h : ((p1 = (mI M a0 0) → q 1 M) ∧ (¬ p1 = (mI M a0 0) → ((¬ (((mI M a0 1) >>> (p1 &&& 31)) &&& 1) = 1 → q 0 M) ∧ ((((mI M a0 1) >>> (p1 &&& 31)) &&& 1) = 1 → q 1 M))))) : K_X2_plays l [rV (some a0), iV p1] M q := by
  refine o_ctr (ini := false) (by decide) rfl (fun z => by cases z) (Nat.le_of_ble_eq_true rfl) ?_
  show E_X2_plays l q 0 [(0, rV (some a0)), (1, iV p1)] [] M 0 0
  refine e_iload_n dX2_plays_0 rfl rfl ?_
  refine e_aload_n dX2_plays_1 rfl rfl ?_
  refine e_gI flX2_22 t0 rfl dX2_plays_2 ?_
  refine e_ic_eq (tgt := 20) dX2_plays_5 (by decide) (fun c1 => ?_) (fun c1 => ?_)
  · replace h := h.1 c1
    refine e_iconst (v := 1) dX2_plays_20 (by decide) ?_
    refine e_goto (tgt := 25) dX2_plays_21 (by decide) ?_
    exact e_iret rfl rb_1 dX2_plays_25 ⟨_, rfl, h⟩
  · replace h := h.2 c1
    refine e_aload_n dX2_plays_8 rfl rfl ?_
    refine e_gI flX2_25 t0 rfl dX2_plays_9 ?_
    refine e_iload_n dX2_plays_12 rfl rfl ?_
    refine e_ishr dX2_plays_13 ?_
    refine e_iconst (v := 1) dX2_plays_14 (by decide) ?_
    refine e_iand dX2_plays_15 ?_
    refine e_iconst (v := 1) dX2_plays_16 (by decide) ?_
    refine e_ic_ne (tgt := 24) dX2_plays_17 (by decide) (fun c2 => ?_) (fun c2 => ?_)
    · replace h := h.1 c2
      refine e_iconst (v := 0) dX2_plays_24 (by decide) ?_
      exact e_iret rfl rb_0 dX2_plays_25 ⟨_, rfl, h⟩
    · replace h := h.2 c2
      refine e_iconst (v := 1) dX2_plays_20 (by decide) ?_
      refine e_goto (tgt := 25) dX2_plays_21 (by decide) ?_
      exact e_iret rfl rb_1 dX2_plays_25 ⟨_, rfl, h⟩
