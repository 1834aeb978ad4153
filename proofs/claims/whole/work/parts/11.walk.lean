/-! walks of methods (printed by program): J7_fill_53178 J9_floorMod_7cf53 J9_max_7cf53 J9_min_7cf53 -/
theorem dJ7_fill_53178_0 : decode cJ7_fill_53178 0 = .ok (.iconst 0, 1) := by decide +kernel
theorem dJ7_fill_53178_1 : decode cJ7_fill_53178 1 = .ok (.istore_n 2, 1) := by decide +kernel
theorem dJ7_fill_53178_2 : decode cJ7_fill_53178 2 = .ok (.aload_n 0, 1) := by decide +kernel
theorem dJ7_fill_53178_3 : decode cJ7_fill_53178 3 = .ok (.arraylength, 1) := by decide +kernel
theorem dJ7_fill_53178_4 : decode cJ7_fill_53178 4 = .ok (.istore_n 3, 1) := by decide +kernel
theorem dJ7_fill_53178_5 : decode cJ7_fill_53178 5 = .ok (.iload_n 2, 1) := by decide +kernel
theorem dJ7_fill_53178_6 : decode cJ7_fill_53178 6 = .ok (.iload_n 3, 1) := by decide +kernel
theorem dJ7_fill_53178_7 : decode cJ7_fill_53178 7 = .ok (.if_icmp .ge 13, 3) := by decide +kernel
theorem dJ7_fill_53178_10 : decode cJ7_fill_53178 10 = .ok (.aload_n 0, 1) := by decide +kernel
theorem dJ7_fill_53178_11 : decode cJ7_fill_53178 11 = .ok (.iload_n 2, 1) := by decide +kernel
theorem dJ7_fill_53178_12 : decode cJ7_fill_53178 12 = .ok (.iload_n 1, 1) := by decide +kernel
theorem dJ7_fill_53178_13 : decode cJ7_fill_53178 13 = .ok (.iastore, 1) := by decide +kernel
theorem dJ7_fill_53178_14 : decode cJ7_fill_53178 14 = .ok (.iinc 2 1, 3) := by decide +kernel
theorem dJ7_fill_53178_17 : decode cJ7_fill_53178 17 = .ok (.goto (-12), 3) := by decide +kernel
theorem dJ7_fill_53178_20 : decode cJ7_fill_53178 20 = .ok (.return_, 1) := by decide +kernel
theorem dJ9_floorMod_7cf53_0 : decode cJ9_floorMod_7cf53 0 = .ok (.iload_n 0, 1) := by decide +kernel
theorem dJ9_floorMod_7cf53_1 : decode cJ9_floorMod_7cf53 1 = .ok (.iload_n 1, 1) := by decide +kernel
theorem dJ9_floorMod_7cf53_2 : decode cJ9_floorMod_7cf53 2 = .ok (.irem, 1) := by decide +kernel
theorem dJ9_floorMod_7cf53_3 : decode cJ9_floorMod_7cf53 3 = .ok (.istore_n 2, 1) := by decide +kernel
theorem dJ9_floorMod_7cf53_4 : decode cJ9_floorMod_7cf53 4 = .ok (.iload_n 0, 1) := by decide +kernel
theorem dJ9_floorMod_7cf53_5 : decode cJ9_floorMod_7cf53 5 = .ok (.iload_n 1, 1) := by decide +kernel
theorem dJ9_floorMod_7cf53_6 : decode cJ9_floorMod_7cf53 6 = .ok (.ixor, 1) := by decide +kernel
theorem dJ9_floorMod_7cf53_7 : decode cJ9_floorMod_7cf53 7 = .ok (.ifCond .ge 11, 3) := by decide +kernel
theorem dJ9_floorMod_7cf53_10 : decode cJ9_floorMod_7cf53 10 = .ok (.iload_n 2, 1) := by decide +kernel
theorem dJ9_floorMod_7cf53_11 : decode cJ9_floorMod_7cf53 11 = .ok (.ifCond .eq 7, 3) := by decide +kernel
theorem dJ9_floorMod_7cf53_14 : decode cJ9_floorMod_7cf53 14 = .ok (.iload_n 2, 1) := by decide +kernel
theorem dJ9_floorMod_7cf53_15 : decode cJ9_floorMod_7cf53 15 = .ok (.iload_n 1, 1) := by decide +kernel
theorem dJ9_floorMod_7cf53_16 : decode cJ9_floorMod_7cf53 16 = .ok (.iadd, 1) := by decide +kernel
theorem dJ9_floorMod_7cf53_17 : decode cJ9_floorMod_7cf53 17 = .ok (.ireturn, 1) := by decide +kernel
theorem dJ9_floorMod_7cf53_18 : decode cJ9_floorMod_7cf53 18 = .ok (.iload_n 2, 1) := by decide +kernel
theorem dJ9_floorMod_7cf53_19 : decode cJ9_floorMod_7cf53 19 = .ok (.ireturn, 1) := by decide +kernel
theorem dJ9_max_7cf53_0 : decode cJ9_max_7cf53 0 = .ok (.iload_n 0, 1) := by decide +kernel
theorem dJ9_max_7cf53_1 : decode cJ9_max_7cf53 1 = .ok (.iload_n 1, 1) := by decide +kernel
theorem dJ9_max_7cf53_2 : decode cJ9_max_7cf53 2 = .ok (.if_icmp .lt 7, 3) := by decide +kernel
theorem dJ9_max_7cf53_5 : decode cJ9_max_7cf53 5 = .ok (.iload_n 0, 1) := by decide +kernel
theorem dJ9_max_7cf53_6 : decode cJ9_max_7cf53 6 = .ok (.goto 4, 3) := by decide +kernel
theorem dJ9_max_7cf53_9 : decode cJ9_max_7cf53 9 = .ok (.iload_n 1, 1) := by decide +kernel
theorem dJ9_max_7cf53_10 : decode cJ9_max_7cf53 10 = .ok (.ireturn, 1) := by decide +kernel
theorem dJ9_min_7cf53_0 : decode cJ9_min_7cf53 0 = .ok (.iload_n 0, 1) := by decide +kernel
theorem dJ9_min_7cf53_1 : decode cJ9_min_7cf53 1 = .ok (.iload_n 1, 1) := by decide +kernel
theorem dJ9_min_7cf53_2 : decode cJ9_min_7cf53 2 = .ok (.if_icmp .gt 7, 3) := by decide +kernel
theorem dJ9_min_7cf53_5 : decode cJ9_min_7cf53 5 = .ok (.iload_n 0, 1) := by decide +kernel
theorem dJ9_min_7cf53_6 : decode cJ9_min_7cf53 6 = .ok (.goto 4, 3) := by decide +kernel
theorem dJ9_min_7cf53_9 : decode cJ9_min_7cf53 9 = .ok (.iload_n 1, 1) := by decide +kernel
theorem dJ9_min_7cf53_10 : decode cJ9_min_7cf53 10 = .ok (.ireturn, 1) := by decide +kernel
abbrev H_J7_fill_53178_5 (l : Launch) (q : o_M → Prop) (a0 : Nat) (v1 : Int32) (v2 : Int32) (v3 : Int32) (M : o_M) : Prop := E_J7_fill_53178 l q 5 [(0, rV (some a0)), (1, iV v1), (2, iV v2), (3, iV v3)] [] M 0 0
theorem w_J7_fill_53178 (l : Launch) (a0 : Nat) (p1 : Int32) (t0 : o_ty a0 = .inr .int) (M : o_M) (q : o_M → Prop) (h : H_J7_fill_53178_5 l q a0 p1 0 (Int32.ofNat (mN M a0)) M) : K_J7_fill_53178 l [rV (some a0), iV p1] M q := by
  refine o_ctr (ini := false) (by decide +kernel) rfl (fun z => by cases z) (Nat.le_of_ble_eq_true rfl) ?_
  show E_J7_fill_53178 l q 0 [(0, rV (some a0)), (1, iV p1)] [] M 0 0
  refine e_iconst (v := 0) dJ7_fill_53178_0 (by decide) ?_
  refine e_istore_n (lv' := [(2, iV 0), (0, rV (some a0)), (1, iV p1)]) dJ7_fill_53178_1 rfl (by decide) rfl ?_
  refine e_aload_n dJ7_fill_53178_2 rfl rfl ?_
  refine e_alen t0 (by decide) rfl dJ7_fill_53178_3 ?_
  refine e_istore_n (lv' := [(3, iV (Int32.ofNat (mN M a0))), (2, iV 0), (0, rV (some a0)), (1, iV p1)]) dJ7_fill_53178_4 rfl (by decide) rfl ?_
  exact e_lv (List.forall_mem_cons.mpr ⟨rfl, List.forall_mem_cons.mpr ⟨rfl, List.forall_mem_cons.mpr ⟨rfl, List.forall_mem_cons.mpr ⟨rfl, fun _ h => absurd h List.not_mem_nil⟩⟩⟩⟩) h
theorem w_J7_fill_53178_5 (l : Launch) (q : o_M → Prop) (a0 : Nat) (t0 : o_ty a0 = .inr .int) (v1 : Int32) (v2 : Int32) (v3 : Int32) (M : o_M) (h : ((v3 ≤ v2 → q M) ∧ (¬ v3 ≤ v2 → (vp_in v2 (mN M a0) ∧ H_J7_fill_53178_5 l q a0 v1 (v2 + 1) v3 (sI M a0 v2.toNatClampNeg v1))))) : H_J7_fill_53178_5 l q a0 v1 v2 v3 M := by
  refine e_iload_n dJ7_fill_53178_5 rfl rfl ?_
  refine e_iload_n dJ7_fill_53178_6 rfl rfl ?_
  refine e_ic_ge (tgt := 20) dJ7_fill_53178_7 (by decide) (fun c1 => ?_) (fun c1 => ?_)
  · replace h := h.1 c1
    exact e_ret rfl dJ7_fill_53178_20 ⟨rfl, h⟩
  · replace h := h.2 c1
    refine e_aload_n dJ7_fill_53178_10 rfl rfl ?_
    refine e_iload_n dJ7_fill_53178_11 rfl rfl ?_
    refine e_iload_n dJ7_fill_53178_12 rfl rfl ?_
    obtain ⟨o2, h⟩ := h
    refine e_iast t0 o2 dJ7_fill_53178_13 ?_
    refine e_iinc (v := 1) (lv' := [(2, iV (v2 + 1)), (0, rV (some a0)), (1, iV v1), (3, iV v3)]) rfl (by decide) (by decide) rfl dJ7_fill_53178_14 ?_
    refine e_goto (tgt := 5) dJ7_fill_53178_17 (by decide) ?_
    exact e_lv (List.forall_mem_cons.mpr ⟨rfl, List.forall_mem_cons.mpr ⟨rfl, List.forall_mem_cons.mpr ⟨rfl, List.forall_mem_cons.mpr ⟨rfl, fun _ h => absurd h List.not_mem_nil⟩⟩⟩⟩) h
theorem w_J9_floorMod_7cf53 (l : Launch) (p0 : Int32) (p1 : Int32) (M : o_M) (q : Int32 → o_M → Prop) (h : (¬ p1 = 0 ∧ ((0 ≤ (p0 ^^^ p1) → q (p0 - p0 / p1 * p1) M) ∧ (¬ 0 ≤ (p0 ^^^ p1) → (((p0 - p0 / p1 * p1) = 0 → q (p0 - p0 / p1 * p1) M) ∧ (¬ (p0 - p0 / p1 * p1) = 0 → q ((p0 - p0 / p1 * p1) + p1) M)))))) : K_J9_floorMod_7cf53 l [iV p0, iV p1] M q := by
  refine o_ctr (ini := false) (by decide +kernel) rfl (fun z => by cases z) (Nat.le_of_ble_eq_true rfl) ?_
  show E_J9_floorMod_7cf53 l q 0 [(0, iV p0), (1, iV p1)] [] M 0 0
  refine e_iload_n dJ9_floorMod_7cf53_0 rfl rfl ?_
  refine e_iload_n dJ9_floorMod_7cf53_1 rfl rfl ?_
  obtain ⟨o1, h⟩ := h
  refine e_irem dJ9_floorMod_7cf53_2 o1 ?_
  refine e_istore_n (lv' := [(2, iV (p0 - p0 / p1 * p1)), (0, iV p0), (1, iV p1)]) dJ9_floorMod_7cf53_3 rfl (by decide) rfl ?_
  refine e_iload_n dJ9_floorMod_7cf53_4 rfl rfl ?_
  refine e_iload_n dJ9_floorMod_7cf53_5 rfl rfl ?_
  refine e_ixor dJ9_floorMod_7cf53_6 ?_
  refine e_if_ge (tgt := 18) dJ9_floorMod_7cf53_7 (by decide) (fun c2 => ?_) (fun c2 => ?_)
  · replace h := h.1 c2
    refine e_iload_n dJ9_floorMod_7cf53_18 rfl rfl ?_
    exact e_iret rfl trivial dJ9_floorMod_7cf53_19 ⟨_, rfl, h⟩
  · replace h := h.2 c2
    refine e_iload_n dJ9_floorMod_7cf53_10 rfl rfl ?_
    refine e_if_eq (tgt := 18) dJ9_floorMod_7cf53_11 (by decide) (fun c3 => ?_) (fun c3 => ?_)
    · replace h := h.1 c3
      refine e_iload_n dJ9_floorMod_7cf53_18 rfl rfl ?_
      exact e_iret rfl trivial dJ9_floorMod_7cf53_19 ⟨_, rfl, h⟩
    · replace h := h.2 c3
      refine e_iload_n dJ9_floorMod_7cf53_14 rfl rfl ?_
      refine e_iload_n dJ9_floorMod_7cf53_15 rfl rfl ?_
      refine e_iadd dJ9_floorMod_7cf53_16 ?_
      exact e_iret rfl trivial dJ9_floorMod_7cf53_17 ⟨_, rfl, h⟩
theorem w_J9_max_7cf53 (l : Launch) (p0 : Int32) (p1 : Int32) (M : o_M) (q : Int32 → o_M → Prop) (h : ((p0 < p1 → q p1 M) ∧ (¬ p0 < p1 → q p0 M))) : K_J9_max_7cf53 l [iV p0, iV p1] M q := by
  refine o_ctr (ini := false) (by decide +kernel) rfl (fun z => by cases z) (Nat.le_of_ble_eq_true rfl) ?_
  show E_J9_max_7cf53 l q 0 [(0, iV p0), (1, iV p1)] [] M 0 0
  refine e_iload_n dJ9_max_7cf53_0 rfl rfl ?_
  refine e_iload_n dJ9_max_7cf53_1 rfl rfl ?_
  refine e_ic_lt (tgt := 9) dJ9_max_7cf53_2 (by decide) (fun c1 => ?_) (fun c1 => ?_)
  · replace h := h.1 c1
    refine e_iload_n dJ9_max_7cf53_9 rfl rfl ?_
    exact e_iret rfl trivial dJ9_max_7cf53_10 ⟨_, rfl, h⟩
  · replace h := h.2 c1
    refine e_iload_n dJ9_max_7cf53_5 rfl rfl ?_
    refine e_goto (tgt := 10) dJ9_max_7cf53_6 (by decide) ?_
    exact e_iret rfl trivial dJ9_max_7cf53_10 ⟨_, rfl, h⟩
theorem w_J9_min_7cf53 (l : Launch) (p0 : Int32) (p1 : Int32) (M : o_M) (q : Int32 → o_M → Prop) (h : ((p1 < p0 → q p1 M) ∧ (¬ p1 < p0 → q p0 M))) : K_J9_min_7cf53 l [iV p0, iV p1] M q := by
  refine o_ctr (ini := false) (by decide +kernel) rfl (fun z => by cases z) (Nat.le_of_ble_eq_true rfl) ?_
  show E_J9_min_7cf53 l q 0 [(0, iV p0), (1, iV p1)] [] M 0 0
  refine e_iload_n dJ9_min_7cf53_0 rfl rfl ?_
  refine e_iload_n dJ9_min_7cf53_1 rfl rfl ?_
  refine e_ic_gt (tgt := 9) dJ9_min_7cf53_2 (by decide) (fun c1 => ?_) (fun c1 => ?_)
  · replace h := h.1 c1
    refine e_iload_n dJ9_min_7cf53_9 rfl rfl ?_
    exact e_iret rfl trivial dJ9_min_7cf53_10 ⟨_, rfl, h⟩
  · replace h := h.2 c1
    refine e_iload_n dJ9_min_7cf53_5 rfl rfl ?_
    refine e_goto (tgt := 10) dJ9_min_7cf53_6 (by decide) ?_
    exact e_iret rfl trivial dJ9_min_7cf53_10 ⟨_, rfl, h⟩
