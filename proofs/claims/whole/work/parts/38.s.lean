/-! works, players, services: the calls that make them -/
section S38
variable {l : Launch} {M : o_M} {nw np ns nt T : Nat}
theorem lvi_mono {nw np ns nt nw' np' ns' nt' x : Nat} (h1 : nw ≤ nw') (h2 : np ≤ np') (h3 : ns ≤ ns') (h4 : nt ≤ nt') (h : lvi nw np ns nt x) : lvi nw' np' ns' nt' x := by
  unfold lvi at *; omega
theorem RLv_not (r : RLv M nw np ns nt) {x : Nat} (h : ¬ lvi nw np ns nt x) : x ∉ mL M := fun z => h (r x z)
theorem f_mx_w {v w : o_v} {nw : Nat} (h : ∀ i, i < nw → w 64 i = v 64 i) (h1 : w 81 = v 81) (s i : Nat) (n0 : Int32) : ∀ k, (∀ j, j < k → ∃ a, a < nw ∧ v 81 (5 * s + j) = nI a) → nw ≤ 12 → f_mx w s i n0 k = f_mx v s i n0 k
  | 0 => fun _ _ => rfl
  | k + 1 => fun hk hn => by
    have e : f_wk w s k = f_wk v s k := by unfold f_wk; rw [h1]
    obtain ⟨a, ha, hv⟩ := hk k (by omega)
    have e2 : f_needOf w (f_wk v s k) i = f_needOf v (f_wk v s k) i := by
      unfold f_needOf f_wk
      rw [hv, nI_clamp (by omega), h a ha]
    unfold f_mx
    rw [f_mx_w h h1 s i n0 k (fun j hj => hk j (by omega)) hn, e, e2]
theorem f_need_w {v w : o_v} {nw s i : Nat} (hn : nw ≤ 12) (h : ∀ i, i < nw → w 64 i = v 64 i) (h1 : w 81 = v 81) (h2 : w 76 = v 76) (h3 : w 80 = v 80) (hk : ∃ n, n ≤ 5 ∧ v 80 s = nI n ∧ ∀ j, j < n → ∃ a, a < nw ∧ v 81 (5 * s + j) = nI a) : f_need w s i none = f_need v s i none := by
  obtain ⟨n, hn5, e, hk⟩ := hk
  have hc : (nI n).toNatClampNeg = n := nI_clamp (by omega)
  unfold f_need
  rw [h2, h3, e, hc, f_mx_w h h1 s i _ n hk hn]
def FS0 (x : Nat) : Prop := x = 19 ∨ (47 ≤ x % 128 ∧ x % 128 ≤ 50) ∨ (76 ≤ x ∧ x ≤ 83)
theorem SV_fw {N : o_M} {s nw' : Nat} (h : Fr FS0 M N) (h64 : ∀ i, i < nw → mI N 64 i = mI M 64 i) (hn : nw ≤ 12) (hle : nw ≤ nw') (r : SV M s nw) : SV N s nw' := by
  have e := fun id hid => (h id hid).1
  have e76 := e 76 (by unfold FS0; omega)
  have e80 := e 80 (by unfold FS0; omega)
  have e81 := e 81 (by unfold FS0; omega)
  have e82 := e 82 (by unfold FS0; omega)
  have e83 := e 83 (by unfold FS0; omega)
  obtain ⟨n, hn5, en, hk, hd⟩ := r.2.2.1.2
  have hneed : ∀ i, f_need (mI N) s i none = f_need (mI M) s i none := fun i => f_need_w hn h64 e81 e76 e80 ⟨n, hn5, en, fun j hj => by obtain ⟨w, h1, h2, _⟩ := hk j hj; exact ⟨w, h1, h2⟩⟩
  have hch : f_chairs (mI N) s none = f_chairs (mI M) s none := by
    have : ∀ k, f_chN (mI N) s none k = f_chN (mI M) s none k := fun k => by
      induction k with
      | zero => rfl
      | succ k ih => simp only [f_chN, ih, hneed]
    exact this 6
  have r := r
  unfold SV SV1 SV2 SV3 SV4 at r ⊢
  simp only [hneed]
  rw [hch, f_chairOf_e e82 e83, f_gapsIn_e e82, (h 19 (Or.inl rfl)).2.2.1, (h (47 + 128 * s) (by unfold FS0; omega)).2.2.1, (h (48 + 128 * s) (by unfold FS0; omega)).2.2.2, (h (49 + 128 * s) (by unfold FS0; omega)).2.2.2, (h (50 + 128 * s) (by unfold FS0; omega)).2.2.2, e (47 + 128 * s) (by unfold FS0; omega), e (48 + 128 * s) (by unfold FS0; omega), e (49 + 128 * s) (by unfold FS0; omega), e (50 + 128 * s) (by unfold FS0; omega), e76, e 77 (by unfold FS0; omega), e 78 (by unfold FS0; omega), e 79 (by unfold FS0; omega), e80, e81, e82, e83]
  refine ⟨r.1, r.2.1, ⟨r.2.2.1.1, n, hn5, en, fun k hk' => ?_, hd⟩, r.2.2.2⟩
  obtain ⟨w, h1, h2⟩ := hk k hk'
  exact ⟨w, by omega, h2⟩
theorem RZ_k {N : o_M} (h1 : mI N 16 15 = mI M 16 15) (h2 : mI N 60 24 = mI M 60 24) (h3 : ∀ j, mI N 22 j = mI M 22 j) (h4 : ∀ j, mI N 84 j = mI M 84 j) (h : RZ M) : RZ N := by
  unfold RZ at *; simp only [h1, h2, h3, h4]; exact h
theorem RD_k {N : o_M} (h : ∀ j, mI N 102 j = mI M 102 j) (r : RD M) : RD N := fun j hj => by rw [h]; exact r j hj
theorem P_work (r : Rel M nw np ns nt T) (a b c : Int32) : K_X11_work l [rV (some 16), iV a, iV b, iV c] M (fun r1 M1 => K_X12_work l [rV (some 60), iV a, iV b, iV c] M1 (fun r2 M2 => r1 = r2 ∧ Nx T M2)) := by
  have hs : Nx T M := Nx_s r
  have ⟨r1, r2, r3, r4, r5, r6, r7, r8, r9, r10, r11⟩ := r
  obtain ⟨hn, e16, e60⟩ := r3.1
  have hni : (nI nw).toNatClampNeg = nw := nI_clamp (by omega)
  refine w_X11_work l a b c M _ (c11_isWithin a 1 90 _ ⟨fun z1 => ?_, fun z1 => c11_isWithin b 0 1000 _ ⟨fun z2 => ?_, fun z2 => c11_isWithin c 0 4095 _ ⟨fun z3 => ⟨fun z4 => ?_, fun z4 => ?_⟩, fun z3 => ?_⟩⟩⟩)
  · refine w_X12_work l a b c M _ (c12_in _ _ _ _ ⟨fun y1 => ⟨rfl, hs⟩, fun y1 => ?_⟩)
    contradiction
  · refine w_X12_work l a b c M _ (c12_in _ _ _ _ ⟨fun y1 => ⟨rfl, hs⟩, fun y1 => c12_in _ _ _ _ ⟨fun y2 => ⟨rfl, hs⟩, fun y2 => ?_⟩⟩)
    contradiction
  · rw [e16] at z4
    have hlt : nw < 12 := by (simp (disch := omega) only [ile, ilt, ieq, nI_toInt, Int32.reduceToInt] at z4; omega)
    refine ⟨xr16_0 r2, 43 + 128 * nw, RLv_not r4 (by unfold lvi; omega), ty43 nw, w_X10_init l _ a b c (ty43 nw) _ _ ?_⟩
    rw [e16, hni]
    refine ⟨by simp (disch := omega) only [true_and, mI_sI_1, mI_sI_2, mI_sI_3, mI_nW_1, mI_nW_2, mI_sR, mI_sJ, mI_sA_1, mI_sA_2, mR_sI, mR_sJ, mR_sA, mR_sR_1, mR_sR_2, mR_sR_3, mR_nW_1, mR_nW_2, mN_sI, mN_sJ, mN_sR, mN_sA, mN_nW_1, mN_nW_2, mJ_sI, mJ_sR, mJ_sA, mJ_sJ_1, mJ_sJ_2, mJ_sJ_3, mJ_nW_1, mJ_nW_2, xn17 r2]; exact vin hlt (by decide), ?_⟩
    refine w_X12_work l a b c _ _ (c12_in _ _ _ _ ⟨fun y1 => ?_, fun y1 => c12_in _ _ _ _ ⟨fun y2 => ?_, fun y2 => c12_in _ _ _ _ ⟨fun y3 => ⟨fun y4 => ?_, fun y4 => ?_⟩, fun y3 => ?_⟩⟩⟩)
    · contradiction
    · contradiction
    · simp (disch := omega) only [true_and, mI_sI_1, mI_sI_2, mI_sI_3, mI_nW_1, mI_nW_2, mI_sR, mI_sJ, mI_sA_1, mI_sA_2, mR_sI, mR_sJ, mR_sA, mR_sR_1, mR_sR_2, mR_sR_3, mR_nW_1, mR_nW_2, mN_sI, mN_sJ, mN_sR, mN_sA, mN_nW_1, mN_nW_2, mJ_sI, mJ_sR, mJ_sA, mJ_sJ_1, mJ_sJ_2, mJ_sJ_3, mJ_nW_1, mJ_nW_2, e60, hni, wr1 r1, wr2 r1, wr3 r1, wr4 r1, wn1 r1, wn2 r1, wn3 r1, wn4 r1, e16]
      have v12 : vp_in (nI nw) 12 := vin hlt (by decide)
      refine ⟨v12, v12, v12, fun N hN => ?_⟩
      subst hN
      simp (disch := omega) only [true_and, mI_sI_1, mI_sI_2, mI_sI_3, mI_nW_1, mI_nW_2, mI_sR, mI_sJ, mI_sA_1, mI_sA_2, mR_sI, mR_sJ, mR_sA, mR_sR_1, mR_sR_2, mR_sR_3, mR_nW_1, mR_nW_2, mN_sI, mN_sJ, mN_sR, mN_sA, mN_nW_1, mN_nW_2, mJ_sI, mJ_sR, mJ_sA, mJ_sJ_1, mJ_sJ_2, mJ_sJ_3, mJ_nW_1, mJ_nW_2, e60, hni, wr4 r1, wn4 r1, e16]
      refine ⟨v12, nw + 1, np, ns, nt, T, by omega, ?_⟩
      obtain ⟨ma, ha1, ha2, rfl⟩ := rng_nat 1 90 (by decide) (by decide) (b2_n0.mp z1)
      obtain ⟨mb, _, hb2, rfl⟩ := rng_nat 0 1000 (by decide) (by decide) (b2_n0.mp z2)
      obtain ⟨mc, _, hc2, rfl⟩ := rng_nat 0 4095 (by decide) (by decide) (b2_n0.mp z3)
      refine ⟨wM_k (fun k => by simp (disch := omega) only [true_and, mI_sI_1, mI_sI_2, mI_sI_3, mI_nW_1, mI_nW_2, mI_sR, mI_sJ, mI_sA_1, mI_sA_2, mR_sI, mR_sJ, mR_sA, mR_sR_1, mR_sR_2, mR_sR_3, mR_nW_1, mR_nW_2, mN_sI, mN_sJ, mN_sR, mN_sA, mN_nW_1, mN_nW_2, mJ_sI, mJ_sR, mJ_sA, mJ_sJ_1, mJ_sJ_2, mJ_sJ_3, mJ_nW_1, mJ_nW_2]) (fun x _ _ => by simp (disch := omega) only [true_and, mI_sI_1, mI_sI_2, mI_sI_3, mI_nW_1, mI_nW_2, mI_sR, mI_sJ, mI_sA_1, mI_sA_2, mR_sI, mR_sJ, mR_sA, mR_sR_1, mR_sR_2, mR_sR_3, mR_nW_1, mR_nW_2, mN_sI, mN_sJ, mN_sR, mN_sA, mN_nW_1, mN_nW_2, mJ_sI, mJ_sR, mJ_sA, mJ_sJ_1, mJ_sJ_2, mJ_sJ_3, mJ_nW_1, mJ_nW_2]) r1, wX_k (fun x k hx => by simp (disch := omega) only [true_and, mI_sI_1, mI_sI_2, mI_sI_3, mI_nW_1, mI_nW_2, mI_sR, mI_sJ, mI_sA_1, mI_sA_2, mR_sI, mR_sJ, mR_sA, mR_sR_1, mR_sR_2, mR_sR_3, mR_nW_1, mR_nW_2, mN_sI, mN_sJ, mN_sR, mN_sA, mN_nW_1, mN_nW_2, mJ_sI, mJ_sR, mJ_sA, mJ_sJ_1, mJ_sJ_2, mJ_sJ_3, mJ_nW_1, mJ_nW_2]) (fun x _ _ => by simp (disch := omega) only [true_and, mI_sI_1, mI_sI_2, mI_sI_3, mI_nW_1, mI_nW_2, mI_sR, mI_sJ, mI_sA_1, mI_sA_2, mR_sI, mR_sJ, mR_sA, mR_sR_1, mR_sR_2, mR_sR_3, mR_nW_1, mR_nW_2, mN_sI, mN_sJ, mN_sR, mN_sA, mN_nW_1, mN_nW_2, mJ_sI, mJ_sR, mJ_sA, mJ_sJ_1, mJ_sJ_2, mJ_sJ_3, mJ_nW_1, mJ_nW_2]) r2, ?_, ?_, ?_, ?_, ?_, ?_, ?_, ?_, ?_⟩
      · unfold RC
        refine ⟨⟨hlt, ?_, ?_⟩, ?_⟩
        · simp (disch := omega) only [true_and, mI_sI_1, mI_sI_2, mI_sI_3, mI_nW_1, mI_nW_2, mI_sR, mI_sJ, mI_sA_1, mI_sA_2, mR_sI, mR_sJ, mR_sA, mR_sR_1, mR_sR_2, mR_sR_3, mR_nW_1, mR_nW_2, mN_sI, mN_sJ, mN_sR, mN_sA, mN_nW_1, mN_nW_2, mJ_sI, mJ_sR, mJ_sA, mJ_sJ_1, mJ_sJ_2, mJ_sJ_3, mJ_nW_1, mJ_nW_2, n1, e16, e60]
        · simp (disch := omega) only [true_and, mI_sI_1, mI_sI_2, mI_sI_3, mI_nW_1, mI_nW_2, mI_sR, mI_sJ, mI_sA_1, mI_sA_2, mR_sI, mR_sJ, mR_sA, mR_sR_1, mR_sR_2, mR_sR_3, mR_nW_1, mR_nW_2, mN_sI, mN_sJ, mN_sR, mN_sA, mN_nW_1, mN_nW_2, mJ_sI, mJ_sR, mJ_sA, mJ_sJ_1, mJ_sJ_2, mJ_sJ_3, mJ_nW_1, mJ_nW_2, n1, e16, e60]
        · simp (disch := omega) only [true_and, mI_sI_1, mI_sI_2, mI_sI_3, mI_nW_1, mI_nW_2, mI_sR, mI_sJ, mI_sA_1, mI_sA_2, mR_sI, mR_sJ, mR_sA, mR_sR_1, mR_sR_2, mR_sR_3, mR_nW_1, mR_nW_2, mN_sI, mN_sJ, mN_sR, mN_sA, mN_nW_1, mN_nW_2, mJ_sI, mJ_sR, mJ_sA, mJ_sJ_1, mJ_sJ_2, mJ_sJ_3, mJ_nW_1, mJ_nW_2]; exact r3.2
      · intro x hx
        have hx : x ∈ mL M ++ [43 + 128 * nw] := hx
        rcases List.mem_append.mp hx with h | h
        · exact lvi_mono (by omega) (Nat.le_refl _) (Nat.le_refl _) (Nat.le_refl _) (r4 x h)
        · rw [List.mem_singleton] at h; subst h; unfold lvi; omega
      · intro i hi
        by_cases hin : i = nw
        · subst hin
          simp (disch := omega) only [true_and, mI_sI_1, mI_sI_2, mI_sI_3, mI_nW_1, mI_nW_2, mI_sR, mI_sJ, mI_sA_1, mI_sA_2, mR_sI, mR_sJ, mR_sA, mR_sR_1, mR_sR_2, mR_sR_3, mR_nW_1, mR_nW_2, mN_sI, mN_sJ, mN_sR, mN_sA, mN_nW_1, mN_nW_2, mJ_sI, mJ_sR, mJ_sA, mJ_sJ_1, mJ_sJ_2, mJ_sJ_3, mJ_nW_1, mJ_nW_2]
          exact ⟨rfl, rfl, ⟨ma, ha1, ha2, rfl⟩, ⟨mb, hb2, rfl⟩, ⟨mc, hc2, rfl⟩⟩
        · have h := r5 i (by omega)
          simp (disch := omega) only [true_and, mI_sI_1, mI_sI_2, mI_sI_3, mI_nW_1, mI_nW_2, mI_sR, mI_sJ, mI_sA_1, mI_sA_2, mR_sI, mR_sJ, mR_sA, mR_sR_1, mR_sR_2, mR_sR_3, mR_nW_1, mR_nW_2, mN_sI, mN_sJ, mN_sR, mN_sA, mN_nW_1, mN_nW_2, mJ_sI, mJ_sR, mJ_sA, mJ_sJ_1, mJ_sJ_2, mJ_sJ_3, mJ_nW_1, mJ_nW_2]
          exact h
      · exact RP_fr (by (repeat (first | exact Fr_r _ _ | refine Fr_sI ?_ (by unfold FP; omega) _ _ | refine Fr_sR ?_ (by unfold FP; omega) _ _ | refine Fr_nW ?_ (by unfold FP; omega) _ | refine Fr_sJ ?_ (by unfold FP; omega) _ _ | refine Fr_sA ?_ (by unfold FP; omega) _))) r6
      · exact ⟨fun s hs => SV_fw (by (repeat (first | exact Fr_r _ _ | refine Fr_sI ?_ (by unfold FS0; omega) _ _ | refine Fr_sR ?_ (by unfold FS0; omega) _ _ | refine Fr_nW ?_ (by unfold FS0; omega) _ | refine Fr_sJ ?_ (by unfold FS0; omega) _ _ | refine Fr_sA ?_ (by unfold FS0; omega) _))) (fun i hi => by simp (disch := omega) only [true_and, mI_sI_1, mI_sI_2, mI_sI_3, mI_nW_1, mI_nW_2, mI_sR, mI_sJ, mI_sA_1, mI_sA_2, mR_sI, mR_sJ, mR_sA, mR_sR_1, mR_sR_2, mR_sR_3, mR_nW_1, mR_nW_2, mN_sI, mN_sJ, mN_sR, mN_sA, mN_nW_1, mN_nW_2, mJ_sI, mJ_sR, mJ_sA, mJ_sJ_1, mJ_sJ_2, mJ_sJ_3, mJ_nW_1, mJ_nW_2]) hn (by omega) (r7.1 s hs), fun s h1 h2 => by simp (disch := omega) only [true_and, mI_sI_1, mI_sI_2, mI_sI_3, mI_nW_1, mI_nW_2, mI_sR, mI_sJ, mI_sA_1, mI_sA_2, mR_sI, mR_sJ, mR_sA, mR_sR_1, mR_sR_2, mR_sR_3, mR_nW_1, mR_nW_2, mN_sI, mN_sJ, mN_sR, mN_sA, mN_nW_1, mN_nW_2, mJ_sI, mJ_sR, mJ_sA, mJ_sJ_1, mJ_sJ_2, mJ_sJ_3, mJ_nW_1, mJ_nW_2]; exact r7.2 s h1 h2⟩
      · exact RT_fr (by (repeat (first | exact Fr_r _ _ | refine Fr_sI ?_ (by unfold FT; omega) _ _ | refine Fr_sR ?_ (by unfold FT; omega) _ _ | refine Fr_nW ?_ (by unfold FT; omega) _ | refine Fr_sJ ?_ (by unfold FT; omega) _ _ | refine Fr_sA ?_ (by unfold FT; omega) _))) r8
      · exact RY_fr (by (repeat (first | exact Fr_r _ _ | refine Fr_sI ?_ (by unfold FY; omega) _ _ | refine Fr_sR ?_ (by unfold FY; omega) _ _ | refine Fr_nW ?_ (by unfold FY; omega) _ | refine Fr_sJ ?_ (by unfold FY; omega) _ _ | refine Fr_sA ?_ (by unfold FY; omega) _))) r9
      · exact RZ_k (by simp (disch := omega) only [true_and, mI_sI_1, mI_sI_2, mI_sI_3, mI_nW_1, mI_nW_2, mI_sR, mI_sJ, mI_sA_1, mI_sA_2, mR_sI, mR_sJ, mR_sA, mR_sR_1, mR_sR_2, mR_sR_3, mR_nW_1, mR_nW_2, mN_sI, mN_sJ, mN_sR, mN_sA, mN_nW_1, mN_nW_2, mJ_sI, mJ_sR, mJ_sA, mJ_sJ_1, mJ_sJ_2, mJ_sJ_3, mJ_nW_1, mJ_nW_2]) (by simp (disch := omega) only [true_and, mI_sI_1, mI_sI_2, mI_sI_3, mI_nW_1, mI_nW_2, mI_sR, mI_sJ, mI_sA_1, mI_sA_2, mR_sI, mR_sJ, mR_sA, mR_sR_1, mR_sR_2, mR_sR_3, mR_nW_1, mR_nW_2, mN_sI, mN_sJ, mN_sR, mN_sA, mN_nW_1, mN_nW_2, mJ_sI, mJ_sR, mJ_sA, mJ_sJ_1, mJ_sJ_2, mJ_sJ_3, mJ_nW_1, mJ_nW_2]) (fun j => by simp (disch := omega) only [true_and, mI_sI_1, mI_sI_2, mI_sI_3, mI_nW_1, mI_nW_2, mI_sR, mI_sJ, mI_sA_1, mI_sA_2, mR_sI, mR_sJ, mR_sA, mR_sR_1, mR_sR_2, mR_sR_3, mR_nW_1, mR_nW_2, mN_sI, mN_sJ, mN_sR, mN_sA, mN_nW_1, mN_nW_2, mJ_sI, mJ_sR, mJ_sA, mJ_sJ_1, mJ_sJ_2, mJ_sJ_3, mJ_nW_1, mJ_nW_2]) (fun j => by simp (disch := omega) only [true_and, mI_sI_1, mI_sI_2, mI_sI_3, mI_nW_1, mI_nW_2, mI_sR, mI_sJ, mI_sA_1, mI_sA_2, mR_sI, mR_sJ, mR_sA, mR_sR_1, mR_sR_2, mR_sR_3, mR_nW_1, mR_nW_2, mN_sI, mN_sJ, mN_sR, mN_sA, mN_nW_1, mN_nW_2, mJ_sI, mJ_sR, mJ_sA, mJ_sJ_1, mJ_sJ_2, mJ_sJ_3, mJ_nW_1, mJ_nW_2]) r10
      · exact RD_k (fun j => by simp (disch := omega) only [true_and, mI_sI_1, mI_sI_2, mI_sI_3, mI_nW_1, mI_nW_2, mI_sR, mI_sJ, mI_sA_1, mI_sA_2, mR_sI, mR_sJ, mR_sA, mR_sR_1, mR_sR_2, mR_sR_3, mR_nW_1, mR_nW_2, mN_sI, mN_sJ, mN_sR, mN_sA, mN_nW_1, mN_nW_2, mJ_sI, mJ_sR, mJ_sA, mJ_sJ_1, mJ_sJ_2, mJ_sJ_3, mJ_nW_1, mJ_nW_2]) r11
    · simp (disch := omega) only [true_and, mI_sI_1, mI_sI_2, mI_sI_3, mI_nW_1, mI_nW_2, mI_sR, mI_sJ, mI_sA_1, mI_sA_2, mR_sI, mR_sJ, mR_sA, mR_sR_1, mR_sR_2, mR_sR_3, mR_nW_1, mR_nW_2, mN_sI, mN_sJ, mN_sR, mN_sA, mN_nW_1, mN_nW_2, mJ_sI, mJ_sR, mJ_sA, mJ_sJ_1, mJ_sJ_2, mJ_sJ_3, mJ_nW_1, mJ_nW_2, e60] at y4
      (simp (disch := omega) only [ile, ilt, ieq, nI_toInt, Int32.reduceToInt] at y4; omega)
    · contradiction
  · rw [e16] at z4
    have hnw : nw = 12 := by (simp (disch := omega) only [ile, ilt, ieq, nI_toInt, Int32.reduceToInt] at z4; omega)
    refine w_X12_work l a b c M _ (c12_in _ _ _ _ ⟨fun y1 => ⟨?_, hs⟩, fun y1 => c12_in _ _ _ _ ⟨fun y2 => ⟨?_, hs⟩, fun y2 => c12_in _ _ _ _ ⟨fun y3 => ⟨fun y4 => ?_, fun y4 => ⟨rfl, hs⟩⟩, fun y3 => ⟨?_, hs⟩⟩⟩⟩)
    · contradiction
    · contradiction
    · rw [e60, hnw] at y4; exact absurd rfl y4
    · contradiction
  · refine w_X12_work l a b c M _ (c12_in _ _ _ _ ⟨fun y1 => ⟨rfl, hs⟩, fun y1 => c12_in _ _ _ _ ⟨fun y2 => ⟨rfl, hs⟩, fun y2 => c12_in _ _ _ _ ⟨fun y3 => ?_, fun y3 => ⟨rfl, hs⟩⟩⟩⟩)
    contradiction
end S38
