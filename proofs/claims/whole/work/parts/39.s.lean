/-! score, player, leave -/
section S39
variable {l : Launch} {M : o_M} {nw np ns nt T : Nat}
theorem span_t {a b : Int32} (h : f_span a b = true) : rng a 0 400 = true ∧ rng b 0 400 = true ∧ a ≤ b := by
  unfold f_span at h
  simp only [Bool.and_eq_true, decide_eq_true_eq] at h
  exact ⟨h.1.1, h.1.2, ile.mpr h.2⟩
theorem span_f {a b : Int32} (h : f_span a b = false) (h1 : rng a 0 400 = true) (h2 : rng b 0 400 = true) : ¬ a ≤ b := by
  unfold f_span at h
  rw [h1, h2] at h
  intro z
  rw [ile] at z
  simp at h; omega
theorem score_rel (r : Rel M nw np ns nt T) {i : Nat} (hi : i < nw) {b c d x y : Int32} (h1 : b = 1 → x = c ∧ y = d) (h2 : ¬ b = 1 → x = -1 ∧ y = -1) : Rel (sI (sI (sI (sI (sI (sI M (43 + 128 * i) 3 b) (43 + 128 * i) 4 x) (43 + 128 * i) 5 y) 65 i b) 66 i c) 67 i d) nw np ns nt T := by
  have ⟨r1, r2, r3, r4, r5, r6, r7, r8, r9, r10, r11⟩ := r
  refine ⟨wM_k (fun k => by simp (disch := omega) only [true_and, mI_sI_1, mI_sI_2, mI_sI_3, mI_nW_1, mI_nW_2, mI_sR, mI_sJ, mI_sA_1, mI_sA_2, mR_sI, mR_sJ, mR_sA, mR_sR_1, mR_sR_2, mR_sR_3, mR_nW_1, mR_nW_2, mN_sI, mN_sJ, mN_sR, mN_sA, mN_nW_1, mN_nW_2, mJ_sI, mJ_sR, mJ_sA, mJ_sJ_1, mJ_sJ_2, mJ_sJ_3, mJ_nW_1, mJ_nW_2]) (fun x _ _ => by simp (disch := omega) only [true_and, mI_sI_1, mI_sI_2, mI_sI_3, mI_nW_1, mI_nW_2, mI_sR, mI_sJ, mI_sA_1, mI_sA_2, mR_sI, mR_sJ, mR_sA, mR_sR_1, mR_sR_2, mR_sR_3, mR_nW_1, mR_nW_2, mN_sI, mN_sJ, mN_sR, mN_sA, mN_nW_1, mN_nW_2, mJ_sI, mJ_sR, mJ_sA, mJ_sJ_1, mJ_sJ_2, mJ_sJ_3, mJ_nW_1, mJ_nW_2]) r1, wX_k (fun x k hx => by simp (disch := omega) only [true_and, mI_sI_1, mI_sI_2, mI_sI_3, mI_nW_1, mI_nW_2, mI_sR, mI_sJ, mI_sA_1, mI_sA_2, mR_sI, mR_sJ, mR_sA, mR_sR_1, mR_sR_2, mR_sR_3, mR_nW_1, mR_nW_2, mN_sI, mN_sJ, mN_sR, mN_sA, mN_nW_1, mN_nW_2, mJ_sI, mJ_sR, mJ_sA, mJ_sJ_1, mJ_sJ_2, mJ_sJ_3, mJ_nW_1, mJ_nW_2]) (fun x _ _ => by simp (disch := omega) only [true_and, mI_sI_1, mI_sI_2, mI_sI_3, mI_nW_1, mI_nW_2, mI_sR, mI_sJ, mI_sA_1, mI_sA_2, mR_sI, mR_sJ, mR_sA, mR_sR_1, mR_sR_2, mR_sR_3, mR_nW_1, mR_nW_2, mN_sI, mN_sJ, mN_sR, mN_sA, mN_nW_1, mN_nW_2, mJ_sI, mJ_sR, mJ_sA, mJ_sJ_1, mJ_sJ_2, mJ_sJ_3, mJ_nW_1, mJ_nW_2]) r2, (by unfold RC; simp (disch := omega) only [true_and, mI_sI_1, mI_sI_2, mI_sI_3, mI_nW_1, mI_nW_2, mI_sR, mI_sJ, mI_sA_1, mI_sA_2, mR_sI, mR_sJ, mR_sA, mR_sR_1, mR_sR_2, mR_sR_3, mR_nW_1, mR_nW_2, mN_sI, mN_sJ, mN_sR, mN_sA, mN_nW_1, mN_nW_2, mJ_sI, mJ_sR, mJ_sA, mJ_sJ_1, mJ_sJ_2, mJ_sJ_3, mJ_nW_1, mJ_nW_2]; exact r3), r4, ?_, RP_fr (by (repeat (first | exact Fr_r _ _ | refine Fr_sI ?_ (by unfold FP; omega) _ _ | refine Fr_sR ?_ (by unfold FP; omega) _ _ | refine Fr_nW ?_ (by unfold FP; omega) _ | refine Fr_sJ ?_ (by unfold FP; omega) _ _ | refine Fr_sA ?_ (by unfold FP; omega) _))) r6, RS_fr (by (repeat (first | exact Fr_r _ _ | refine Fr_sI ?_ (by unfold FS; omega) _ _ | refine Fr_sR ?_ (by unfold FS; omega) _ _ | refine Fr_nW ?_ (by unfold FS; omega) _ | refine Fr_sJ ?_ (by unfold FS; omega) _ _ | refine Fr_sA ?_ (by unfold FS; omega) _))) r7, RT_fr (by (repeat (first | exact Fr_r _ _ | refine Fr_sI ?_ (by unfold FT; omega) _ _ | refine Fr_sR ?_ (by unfold FT; omega) _ _ | refine Fr_nW ?_ (by unfold FT; omega) _ | refine Fr_sJ ?_ (by unfold FT; omega) _ _ | refine Fr_sA ?_ (by unfold FT; omega) _))) r8, RY_fr (by (repeat (first | exact Fr_r _ _ | refine Fr_sI ?_ (by unfold FY; omega) _ _ | refine Fr_sR ?_ (by unfold FY; omega) _ _ | refine Fr_nW ?_ (by unfold FY; omega) _ | refine Fr_sJ ?_ (by unfold FY; omega) _ _ | refine Fr_sA ?_ (by unfold FY; omega) _))) r9, RZ_k (by simp (disch := omega) only [true_and, mI_sI_1, mI_sI_2, mI_sI_3, mI_nW_1, mI_nW_2, mI_sR, mI_sJ, mI_sA_1, mI_sA_2, mR_sI, mR_sJ, mR_sA, mR_sR_1, mR_sR_2, mR_sR_3, mR_nW_1, mR_nW_2, mN_sI, mN_sJ, mN_sR, mN_sA, mN_nW_1, mN_nW_2, mJ_sI, mJ_sR, mJ_sA, mJ_sJ_1, mJ_sJ_2, mJ_sJ_3, mJ_nW_1, mJ_nW_2]) (by simp (disch := omega) only [true_and, mI_sI_1, mI_sI_2, mI_sI_3, mI_nW_1, mI_nW_2, mI_sR, mI_sJ, mI_sA_1, mI_sA_2, mR_sI, mR_sJ, mR_sA, mR_sR_1, mR_sR_2, mR_sR_3, mR_nW_1, mR_nW_2, mN_sI, mN_sJ, mN_sR, mN_sA, mN_nW_1, mN_nW_2, mJ_sI, mJ_sR, mJ_sA, mJ_sJ_1, mJ_sJ_2, mJ_sJ_3, mJ_nW_1, mJ_nW_2]) (fun j => by simp (disch := omega) only [true_and, mI_sI_1, mI_sI_2, mI_sI_3, mI_nW_1, mI_nW_2, mI_sR, mI_sJ, mI_sA_1, mI_sA_2, mR_sI, mR_sJ, mR_sA, mR_sR_1, mR_sR_2, mR_sR_3, mR_nW_1, mR_nW_2, mN_sI, mN_sJ, mN_sR, mN_sA, mN_nW_1, mN_nW_2, mJ_sI, mJ_sR, mJ_sA, mJ_sJ_1, mJ_sJ_2, mJ_sJ_3, mJ_nW_1, mJ_nW_2]) (fun j => by simp (disch := omega) only [true_and, mI_sI_1, mI_sI_2, mI_sI_3, mI_nW_1, mI_nW_2, mI_sR, mI_sJ, mI_sA_1, mI_sA_2, mR_sI, mR_sJ, mR_sA, mR_sR_1, mR_sR_2, mR_sR_3, mR_nW_1, mR_nW_2, mN_sI, mN_sJ, mN_sR, mN_sA, mN_nW_1, mN_nW_2, mJ_sI, mJ_sR, mJ_sA, mJ_sJ_1, mJ_sJ_2, mJ_sJ_3, mJ_nW_1, mJ_nW_2]) r10, RD_k (fun j => by simp (disch := omega) only [true_and, mI_sI_1, mI_sI_2, mI_sI_3, mI_nW_1, mI_nW_2, mI_sR, mI_sJ, mI_sA_1, mI_sA_2, mR_sI, mR_sJ, mR_sA, mR_sR_1, mR_sR_2, mR_sR_3, mR_nW_1, mR_nW_2, mN_sI, mN_sJ, mN_sR, mN_sA, mN_nW_1, mN_nW_2, mJ_sI, mJ_sR, mJ_sA, mJ_sJ_1, mJ_sJ_2, mJ_sJ_3, mJ_nW_1, mJ_nW_2]) r11⟩
  intro k hk
  have h := r5 k hk
  by_cases hik : k = i
  · subst hik
    simp (disch := omega) only [true_and, mI_sI_1, mI_sI_2, mI_sI_3, mI_nW_1, mI_nW_2, mI_sR, mI_sJ, mI_sA_1, mI_sA_2, mR_sI, mR_sJ, mR_sA, mR_sR_1, mR_sR_2, mR_sR_3, mR_nW_1, mR_nW_2, mN_sI, mN_sJ, mN_sR, mN_sA, mN_nW_1, mN_nW_2, mJ_sI, mJ_sR, mJ_sA, mJ_sJ_1, mJ_sJ_2, mJ_sJ_3, mJ_nW_1, mJ_nW_2]
    refine ⟨h.1, h.2.1, h.2.2.1, h.2.2.2.1, ?_, ?_, h.2.2.2.2.2.2.2⟩
    · by_cases hb : b = 1
      · rw [if_pos hb]; exact (h1 hb).1
      · rw [if_neg hb]; exact (h2 hb).1
    · by_cases hb : b = 1
      · rw [if_pos hb]; exact (h1 hb).2
      · rw [if_neg hb]; exact (h2 hb).2
  · simp (disch := omega) only [true_and, mI_sI_1, mI_sI_2, mI_sI_3, mI_nW_1, mI_nW_2, mI_sR, mI_sJ, mI_sA_1, mI_sA_2, mR_sI, mR_sJ, mR_sA, mR_sR_1, mR_sR_2, mR_sR_3, mR_nW_1, mR_nW_2, mN_sI, mN_sJ, mN_sR, mN_sA, mN_nW_1, mN_nW_2, mJ_sI, mJ_sR, mJ_sA, mJ_sJ_1, mJ_sJ_2, mJ_sJ_3, mJ_nW_1, mJ_nW_2]; exact h
theorem P_score (r : Rel M nw np ns nt T) (a b c d : Int32) : K_X11_score l [rV (some 16), iV a, iV b, iV c, iV d] M (fun r1 M1 => K_X12_score l [rV (some 60), iV a, iV b, iV c, iV d] M1 (fun r2 M2 => r1 = r2 ∧ Nx T M2)) := by
  have hs : Nx T M := Nx_s r
  have ⟨r1, r2, r3, r4, r5, r6, r7, r8, r9, r10, r11⟩ := r
  obtain ⟨hn, e16, e60⟩ := r3.1
  refine w_X11_score l a b c d M _ (c11_findWork r a _ (fun z => ⟨fun _ => ?_, fun b3 e => (by cases e)⟩) (fun i hi e => ⟨fun e => (by cases e), fun b3 e => ?_⟩))
  · exact w_X12_score l a b c d M _ (k12_isWork r a _ ⟨fun _ => ⟨rfl, hs⟩, fun y => absurd (b2_0.mpr z) y⟩)
  · subst a
    obtain rfl := Option.some.inj e
    have hin : (nI i).toNatClampNeg = i := nI_clamp (by omega)
    have hrg : ¬ b2 (rng (nI i) 0 (nI nw - 1)) = 0 := by rw [rng_ix1 (by omega) hi]; decide
    have v12 : vp_in (nI i) 12 := vin (by omega) (by decide)
    refine ⟨ty43 i, c11_isWithin b 0 2 _ ⟨fun z2 => ⟨fun z3 => ⟨fun _ => ⟨fun _ => ?_, fun y => absurd y z3⟩, fun y => absurd y z3⟩, fun z3 => c11_isSpan c d _ ⟨fun z4 => ⟨fun y => absurd z3 y, fun _ => ⟨fun y => absurd z3 y, fun _ => ?_⟩⟩, fun z4 => ?_⟩⟩, fun z2 => ?_⟩⟩
    · refine w_X12_score l (nI i) b c d _ _ (c12_isWork _ _ ?_)
      simp (disch := omega) only [true_and, mI_sI_1, mI_sI_2, mI_sI_3, mI_nW_1, mI_nW_2, mI_sR, mI_sJ, mI_sA_1, mI_sA_2, mR_sI, mR_sJ, mR_sA, mR_sR_1, mR_sR_2, mR_sR_3, mR_nW_1, mR_nW_2, mN_sI, mN_sJ, mN_sR, mN_sA, mN_nW_1, mN_nW_2, mJ_sI, mJ_sR, mJ_sA, mJ_sJ_1, mJ_sJ_2, mJ_sJ_3, mJ_nW_1, mJ_nW_2, e60]
      refine ⟨fun y => absurd y hrg, fun _ => c12_in b 0 2 _ ⟨fun y => absurd y z2, fun _ => ⟨fun _ => ?_, fun y => absurd y z3⟩⟩⟩
      simp (disch := omega) only [true_and, mI_sI_1, mI_sI_2, mI_sI_3, mI_nW_1, mI_nW_2, mI_sR, mI_sJ, mI_sA_1, mI_sA_2, mR_sI, mR_sJ, mR_sA, mR_sR_1, mR_sR_2, mR_sR_3, mR_nW_1, mR_nW_2, mN_sI, mN_sJ, mN_sR, mN_sA, mN_nW_1, mN_nW_2, mJ_sI, mJ_sR, mJ_sA, mJ_sJ_1, mJ_sJ_2, mJ_sJ_3, mJ_nW_1, mJ_nW_2, hin, wr4 r1, wr5 r1, wr6 r1, wn4 r1, wn5 r1, wn6 r1]
      exact ⟨v12, v12, v12, Nx_s (score_rel r hi (fun y => absurd y z3) (fun _ => ⟨rfl, rfl⟩))⟩
    · obtain ⟨s1, s2, s3⟩ := span_t (b2_n0.mp z4)
      refine w_X12_score l (nI i) b c d _ _ (c12_isWork _ _ ?_)
      simp (disch := omega) only [true_and, mI_sI_1, mI_sI_2, mI_sI_3, mI_nW_1, mI_nW_2, mI_sR, mI_sJ, mI_sA_1, mI_sA_2, mR_sI, mR_sJ, mR_sA, mR_sR_1, mR_sR_2, mR_sR_3, mR_nW_1, mR_nW_2, mN_sI, mN_sJ, mN_sR, mN_sA, mN_nW_1, mN_nW_2, mJ_sI, mJ_sR, mJ_sA, mJ_sJ_1, mJ_sJ_2, mJ_sJ_3, mJ_nW_1, mJ_nW_2, e60]
      refine ⟨fun y => absurd y hrg, fun _ => c12_in b 0 2 _ ⟨fun y => absurd y z2, fun _ => ⟨fun y => absurd z3 y, fun _ => c12_isDay c _ ⟨fun y => by rw [s1] at y; exact absurd y (by decide), fun _ => c12_isDay d _ ⟨fun y => by rw [s2] at y; exact absurd y (by decide), fun _ => ⟨fun _ => ?_, fun y => absurd s3 y⟩⟩⟩⟩⟩⟩
      simp (disch := omega) only [true_and, mI_sI_1, mI_sI_2, mI_sI_3, mI_nW_1, mI_nW_2, mI_sR, mI_sJ, mI_sA_1, mI_sA_2, mR_sI, mR_sJ, mR_sA, mR_sR_1, mR_sR_2, mR_sR_3, mR_nW_1, mR_nW_2, mN_sI, mN_sJ, mN_sR, mN_sA, mN_nW_1, mN_nW_2, mJ_sI, mJ_sR, mJ_sA, mJ_sJ_1, mJ_sJ_2, mJ_sJ_3, mJ_nW_1, mJ_nW_2, hin, wr4 r1, wr5 r1, wr6 r1, wn4 r1, wn5 r1, wn6 r1]
      exact ⟨v12, v12, v12, Nx_s (score_rel r hi (fun _ => ⟨rfl, rfl⟩) (fun y => absurd z3 y))⟩
    · refine w_X12_score l (nI i) b c d _ _ (k12_isWork r _ _ ⟨fun y => absurd y hrg, fun _ => c12_in b 0 2 _ ⟨fun y => absurd y z2, fun _ => ⟨fun y => absurd z3 y, fun _ => c12_isDay c _ ⟨fun y => ⟨rfl, hs⟩, fun y1 => c12_isDay d _ ⟨fun y => ⟨rfl, hs⟩, fun y2 => ⟨fun y3 => absurd y3 (span_f (b2_0.mp z4) (b2_n0.mp y1) (b2_n0.mp y2)), fun y => ⟨rfl, hs⟩⟩⟩⟩⟩⟩⟩)
    · exact w_X12_score l (nI i) b c d _ _ (k12_isWork r _ _ ⟨fun y => absurd y hrg, fun _ => c12_in b 0 2 _ ⟨fun y => ⟨rfl, hs⟩, fun y => absurd z2 y⟩⟩)
theorem P_player (r : Rel M nw np ns nt T) (a b c : Int32) : K_X11_player l [rV (some 16), iV a, iV b, iV c] M (fun r1 M1 => K_X12_player l [rV (some 60), iV a, iV b, iV c] M1 (fun r2 M2 => r1 = r2 ∧ Nx T M2)) := by
  have hs : Nx T M := Nx_s r
  have ⟨r1, r2, r3, r4, r5, r6, r7, r8, r9, r10, r11⟩ := r
  obtain ⟨hn, e16, e60⟩ := r3.2.1
  have hni : (nI np).toNatClampNeg = np := nI_clamp (by omega)
  refine w_X11_player l a b c M _ (c11_isInstrument a _ ⟨fun z1 => ?_, fun z1 => c11_isWithin b 0 63 _ ⟨fun z2 => ?_, fun z2 => c11_isWithin c 1 9 _ ⟨fun z3 => ⟨fun z4 => ?_, fun z4 => ?_⟩, fun z3 => ?_⟩⟩⟩)
  · refine w_X12_player l a b c M _ (c12_isInstrument _ _ ⟨fun y1 => ⟨rfl, hs⟩, fun y1 => ?_⟩)
    contradiction
  · refine w_X12_player l a b c M _ (c12_isInstrument _ _ ⟨fun y1 => ⟨rfl, hs⟩, fun y1 => c12_in _ _ _ _ ⟨fun y2 => ⟨rfl, hs⟩, fun y2 => ?_⟩⟩)
    contradiction
  · rw [e16] at z4
    have hlt : np < 10 := by (simp (disch := omega) only [ile, ilt, ieq, nI_toInt, Int32.reduceToInt] at z4; omega)
    refine ⟨xr16_1 r2, 44 + 128 * np, RLv_not r4 (by unfold lvi; omega), ty44 np, w_X2_init l _ a b c (ty44 np) _ _ ⟨?_, ?_, ?_⟩⟩
    · rw [mL_nW, show 44 + 128 * np + 1 = 45 + 128 * np by omega]
      intro z
      rcases List.mem_append.mp z with h | h
      · exact RLv_not r4 (by unfold lvi; omega) h
      · rw [List.mem_singleton] at h; omega
    · rw [mL_sR, mL_nW, mL_nW, show 44 + 128 * np + 2 = 46 + 128 * np by omega]
      intro z
      rcases List.mem_append.mp z with h | h
      · rcases List.mem_append.mp h with h | h
        · exact RLv_not r4 (by unfold lvi; omega) h
        · rw [List.mem_singleton] at h; omega
      · rw [List.mem_singleton] at h; omega
    rw [e16, hni, show 44 + 128 * np + 1 = 45 + 128 * np by omega, show 44 + 128 * np + 2 = 46 + 128 * np by omega]
    refine ⟨by simp (disch := omega) only [true_and, mI_sI_1, mI_sI_2, mI_sI_3, mI_nW_1, mI_nW_2, mI_sR, mI_sJ, mI_sA_1, mI_sA_2, mR_sI, mR_sJ, mR_sA, mR_sR_1, mR_sR_2, mR_sR_3, mR_nW_1, mR_nW_2, mN_sI, mN_sJ, mN_sR, mN_sA, mN_nW_1, mN_nW_2, mJ_sI, mJ_sR, mJ_sA, mJ_sJ_1, mJ_sJ_2, mJ_sJ_3, mJ_nW_1, mJ_nW_2, xn18 r2]; exact vin hlt (by decide), ?_⟩
    refine w_X12_player l a b c _ _ (c12_isInstrument _ _ ⟨fun y1 => ?_, fun y1 => c12_in _ _ _ _ ⟨fun y2 => ?_, fun y2 => c12_in _ _ _ _ ⟨fun y3 => ⟨fun y4 => ?_, fun y4 => ?_⟩, fun y3 => ?_⟩⟩⟩)
    · contradiction
    · contradiction
    · simp (disch := omega) only [true_and, mI_sI_1, mI_sI_2, mI_sI_3, mI_nW_1, mI_nW_2, mI_sR, mI_sJ, mI_sA_1, mI_sA_2, mR_sI, mR_sJ, mR_sA, mR_sR_1, mR_sR_2, mR_sR_3, mR_nW_1, mR_nW_2, mN_sI, mN_sJ, mN_sR, mN_sA, mN_nW_1, mN_nW_2, mJ_sI, mJ_sR, mJ_sA, mJ_sJ_1, mJ_sJ_2, mJ_sJ_3, mJ_nW_1, mJ_nW_2, e60, hni, wr8 r1, wr9 r1, wr10 r1, wn8 r1, wn9 r1, wn10 r1, e16]
      have v12 : vp_in (nI np) 10 := vin hlt (by decide)
      refine ⟨v12, v12, v12, fun N hN => ?_⟩
      subst hN
      simp (disch := omega) only [true_and, mI_sI_1, mI_sI_2, mI_sI_3, mI_nW_1, mI_nW_2, mI_sR, mI_sJ, mI_sA_1, mI_sA_2, mR_sI, mR_sJ, mR_sA, mR_sR_1, mR_sR_2, mR_sR_3, mR_nW_1, mR_nW_2, mN_sI, mN_sJ, mN_sR, mN_sA, mN_nW_1, mN_nW_2, mJ_sI, mJ_sR, mJ_sA, mJ_sJ_1, mJ_sJ_2, mJ_sJ_3, mJ_nW_1, mJ_nW_2, e60, hni, e16]
      refine ⟨nw, np + 1, ns, nt, T, by omega, ?_⟩
      obtain ⟨ma, ha1, ha2, rfl⟩ := rng_nat 0 5 (by decide) (by decide) (b2_n0.mp z1)
      obtain ⟨mb, _, hb2, rfl⟩ := rng_nat 0 63 (by decide) (by decide) (b2_n0.mp z2)
      refine ⟨wM_k (fun k => by simp (disch := omega) only [true_and, mI_sI_1, mI_sI_2, mI_sI_3, mI_nW_1, mI_nW_2, mI_sR, mI_sJ, mI_sA_1, mI_sA_2, mR_sI, mR_sJ, mR_sA, mR_sR_1, mR_sR_2, mR_sR_3, mR_nW_1, mR_nW_2, mN_sI, mN_sJ, mN_sR, mN_sA, mN_nW_1, mN_nW_2, mJ_sI, mJ_sR, mJ_sA, mJ_sJ_1, mJ_sJ_2, mJ_sJ_3, mJ_nW_1, mJ_nW_2]) (fun x _ _ => by simp (disch := omega) only [true_and, mI_sI_1, mI_sI_2, mI_sI_3, mI_nW_1, mI_nW_2, mI_sR, mI_sJ, mI_sA_1, mI_sA_2, mR_sI, mR_sJ, mR_sA, mR_sR_1, mR_sR_2, mR_sR_3, mR_nW_1, mR_nW_2, mN_sI, mN_sJ, mN_sR, mN_sA, mN_nW_1, mN_nW_2, mJ_sI, mJ_sR, mJ_sA, mJ_sJ_1, mJ_sJ_2, mJ_sJ_3, mJ_nW_1, mJ_nW_2]) r1, wX_k (fun x k hx => by simp (disch := omega) only [true_and, mI_sI_1, mI_sI_2, mI_sI_3, mI_nW_1, mI_nW_2, mI_sR, mI_sJ, mI_sA_1, mI_sA_2, mR_sI, mR_sJ, mR_sA, mR_sR_1, mR_sR_2, mR_sR_3, mR_nW_1, mR_nW_2, mN_sI, mN_sJ, mN_sR, mN_sA, mN_nW_1, mN_nW_2, mJ_sI, mJ_sR, mJ_sA, mJ_sJ_1, mJ_sJ_2, mJ_sJ_3, mJ_nW_1, mJ_nW_2]) (fun x _ _ => by simp (disch := omega) only [true_and, mI_sI_1, mI_sI_2, mI_sI_3, mI_nW_1, mI_nW_2, mI_sR, mI_sJ, mI_sA_1, mI_sA_2, mR_sI, mR_sJ, mR_sA, mR_sR_1, mR_sR_2, mR_sR_3, mR_nW_1, mR_nW_2, mN_sI, mN_sJ, mN_sR, mN_sA, mN_nW_1, mN_nW_2, mJ_sI, mJ_sR, mJ_sA, mJ_sJ_1, mJ_sJ_2, mJ_sJ_3, mJ_nW_1, mJ_nW_2]) r2, ?_, ?_, RW_fr (by (repeat (first | exact Fr_r _ _ | refine Fr_sI ?_ (by unfold FW; omega) _ _ | refine Fr_sR ?_ (by unfold FW; omega) _ _ | refine Fr_nW ?_ (by unfold FW; omega) _ | refine Fr_sJ ?_ (by unfold FW; omega) _ _ | refine Fr_sA ?_ (by unfold FW; omega) _))) r5, ?_, RS_fr (by (repeat (first | exact Fr_r _ _ | refine Fr_sI ?_ (by unfold FS; omega) _ _ | refine Fr_sR ?_ (by unfold FS; omega) _ _ | refine Fr_nW ?_ (by unfold FS; omega) _ | refine Fr_sJ ?_ (by unfold FS; omega) _ _ | refine Fr_sA ?_ (by unfold FS; omega) _))) r7, RT_fr (by (repeat (first | exact Fr_r _ _ | refine Fr_sI ?_ (by unfold FT; omega) _ _ | refine Fr_sR ?_ (by unfold FT; omega) _ _ | refine Fr_nW ?_ (by unfold FT; omega) _ | refine Fr_sJ ?_ (by unfold FT; omega) _ _ | refine Fr_sA ?_ (by unfold FT; omega) _))) r8, RY_fr (by (repeat (first | exact Fr_r _ _ | refine Fr_sI ?_ (by unfold FY; omega) _ _ | refine Fr_sR ?_ (by unfold FY; omega) _ _ | refine Fr_nW ?_ (by unfold FY; omega) _ | refine Fr_sJ ?_ (by unfold FY; omega) _ _ | refine Fr_sA ?_ (by unfold FY; omega) _))) r9, RZ_k (by simp (disch := omega) only [true_and, mI_sI_1, mI_sI_2, mI_sI_3, mI_nW_1, mI_nW_2, mI_sR, mI_sJ, mI_sA_1, mI_sA_2, mR_sI, mR_sJ, mR_sA, mR_sR_1, mR_sR_2, mR_sR_3, mR_nW_1, mR_nW_2, mN_sI, mN_sJ, mN_sR, mN_sA, mN_nW_1, mN_nW_2, mJ_sI, mJ_sR, mJ_sA, mJ_sJ_1, mJ_sJ_2, mJ_sJ_3, mJ_nW_1, mJ_nW_2]) (by simp (disch := omega) only [true_and, mI_sI_1, mI_sI_2, mI_sI_3, mI_nW_1, mI_nW_2, mI_sR, mI_sJ, mI_sA_1, mI_sA_2, mR_sI, mR_sJ, mR_sA, mR_sR_1, mR_sR_2, mR_sR_3, mR_nW_1, mR_nW_2, mN_sI, mN_sJ, mN_sR, mN_sA, mN_nW_1, mN_nW_2, mJ_sI, mJ_sR, mJ_sA, mJ_sJ_1, mJ_sJ_2, mJ_sJ_3, mJ_nW_1, mJ_nW_2]) (fun j => by simp (disch := omega) only [true_and, mI_sI_1, mI_sI_2, mI_sI_3, mI_nW_1, mI_nW_2, mI_sR, mI_sJ, mI_sA_1, mI_sA_2, mR_sI, mR_sJ, mR_sA, mR_sR_1, mR_sR_2, mR_sR_3, mR_nW_1, mR_nW_2, mN_sI, mN_sJ, mN_sR, mN_sA, mN_nW_1, mN_nW_2, mJ_sI, mJ_sR, mJ_sA, mJ_sJ_1, mJ_sJ_2, mJ_sJ_3, mJ_nW_1, mJ_nW_2]) (fun j => by simp (disch := omega) only [true_and, mI_sI_1, mI_sI_2, mI_sI_3, mI_nW_1, mI_nW_2, mI_sR, mI_sJ, mI_sA_1, mI_sA_2, mR_sI, mR_sJ, mR_sA, mR_sR_1, mR_sR_2, mR_sR_3, mR_nW_1, mR_nW_2, mN_sI, mN_sJ, mN_sR, mN_sA, mN_nW_1, mN_nW_2, mJ_sI, mJ_sR, mJ_sA, mJ_sJ_1, mJ_sJ_2, mJ_sJ_3, mJ_nW_1, mJ_nW_2]) r10, RD_k (fun j => by simp (disch := omega) only [true_and, mI_sI_1, mI_sI_2, mI_sI_3, mI_nW_1, mI_nW_2, mI_sR, mI_sJ, mI_sA_1, mI_sA_2, mR_sI, mR_sJ, mR_sA, mR_sR_1, mR_sR_2, mR_sR_3, mR_nW_1, mR_nW_2, mN_sI, mN_sJ, mN_sR, mN_sA, mN_nW_1, mN_nW_2, mJ_sI, mJ_sR, mJ_sA, mJ_sJ_1, mJ_sJ_2, mJ_sJ_3, mJ_nW_1, mJ_nW_2]) r11⟩
      · refine ⟨?_, ⟨hlt, ?_, ?_⟩, ?_⟩
        · simp (disch := omega) only [true_and, mI_sI_1, mI_sI_2, mI_sI_3, mI_nW_1, mI_nW_2, mI_sR, mI_sJ, mI_sA_1, mI_sA_2, mR_sI, mR_sJ, mR_sA, mR_sR_1, mR_sR_2, mR_sR_3, mR_nW_1, mR_nW_2, mN_sI, mN_sJ, mN_sR, mN_sA, mN_nW_1, mN_nW_2, mJ_sI, mJ_sR, mJ_sA, mJ_sJ_1, mJ_sJ_2, mJ_sJ_3, mJ_nW_1, mJ_nW_2]; exact r3.1
        · simp (disch := omega) only [true_and, mI_sI_1, mI_sI_2, mI_sI_3, mI_nW_1, mI_nW_2, mI_sR, mI_sJ, mI_sA_1, mI_sA_2, mR_sI, mR_sJ, mR_sA, mR_sR_1, mR_sR_2, mR_sR_3, mR_nW_1, mR_nW_2, mN_sI, mN_sJ, mN_sR, mN_sA, mN_nW_1, mN_nW_2, mJ_sI, mJ_sR, mJ_sA, mJ_sJ_1, mJ_sJ_2, mJ_sJ_3, mJ_nW_1, mJ_nW_2, n1, e16, e60]
        · simp (disch := omega) only [true_and, mI_sI_1, mI_sI_2, mI_sI_3, mI_nW_1, mI_nW_2, mI_sR, mI_sJ, mI_sA_1, mI_sA_2, mR_sI, mR_sJ, mR_sA, mR_sR_1, mR_sR_2, mR_sR_3, mR_nW_1, mR_nW_2, mN_sI, mN_sJ, mN_sR, mN_sA, mN_nW_1, mN_nW_2, mJ_sI, mJ_sR, mJ_sA, mJ_sJ_1, mJ_sJ_2, mJ_sJ_3, mJ_nW_1, mJ_nW_2, n1, e16, e60]
        · simp (disch := omega) only [true_and, mI_sI_1, mI_sI_2, mI_sI_3, mI_nW_1, mI_nW_2, mI_sR, mI_sJ, mI_sA_1, mI_sA_2, mR_sI, mR_sJ, mR_sA, mR_sR_1, mR_sR_2, mR_sR_3, mR_nW_1, mR_nW_2, mN_sI, mN_sJ, mN_sR, mN_sA, mN_nW_1, mN_nW_2, mJ_sI, mJ_sR, mJ_sA, mJ_sJ_1, mJ_sJ_2, mJ_sJ_3, mJ_nW_1, mJ_nW_2]; exact r3.2.2
      · intro x hx
        have hx : x ∈ ((mL M ++ [44 + 128 * np]) ++ [45 + 128 * np]) ++ [46 + 128 * np] := hx
        simp only [List.mem_append, List.mem_singleton] at hx
        rcases hx with ((h | h) | h) | h
        · exact lvi_mono (Nat.le_refl _) (by omega) (Nat.le_refl _) (Nat.le_refl _) (r4 x h)
        all_goals subst h; unfold lvi; omega
      · refine ⟨fun i hi => ?_, fun i h1 h2 => by simp (disch := omega) only [true_and, mI_sI_1, mI_sI_2, mI_sI_3, mI_nW_1, mI_nW_2, mI_sR, mI_sJ, mI_sA_1, mI_sA_2, mR_sI, mR_sJ, mR_sA, mR_sR_1, mR_sR_2, mR_sR_3, mR_nW_1, mR_nW_2, mN_sI, mN_sJ, mN_sR, mN_sA, mN_nW_1, mN_nW_2, mJ_sI, mJ_sR, mJ_sA, mJ_sJ_1, mJ_sJ_2, mJ_sJ_3, mJ_nW_1, mJ_nW_2]; exact r6.2 i (by omega) h2⟩
        by_cases hin : i = np
        · subst hin
          have h0 := r6.2 i (Nat.le_refl _) hlt
          unfold PL
          simp (disch := omega) only [true_and, mI_sI_1, mI_sI_2, mI_sI_3, mI_nW_1, mI_nW_2, mI_sR, mI_sJ, mI_sA_1, mI_sA_2, mR_sI, mR_sJ, mR_sA, mR_sR_1, mR_sR_2, mR_sR_3, mR_nW_1, mR_nW_2, mN_sI, mN_sJ, mN_sR, mN_sA, mN_nW_1, mN_nW_2, mJ_sI, mJ_sR, mJ_sA, mJ_sJ_1, mJ_sJ_2, mJ_sJ_3, mJ_nW_1, mJ_nW_2, h0]
          exact ⟨⟨ma, by omega, rfl⟩, ⟨mb, hb2, rfl⟩, 0, by omega, rfl, fun k hk => absurd hk (by omega)⟩
        · have h := r6.1 i (by omega)
          unfold PL at h ⊢
          simp (disch := omega) only [true_and, mI_sI_1, mI_sI_2, mI_sI_3, mI_nW_1, mI_nW_2, mI_sR, mI_sJ, mI_sA_1, mI_sA_2, mR_sI, mR_sJ, mR_sA, mR_sR_1, mR_sR_2, mR_sR_3, mR_nW_1, mR_nW_2, mN_sI, mN_sJ, mN_sR, mN_sA, mN_nW_1, mN_nW_2, mJ_sI, mJ_sR, mJ_sA, mJ_sJ_1, mJ_sJ_2, mJ_sJ_3, mJ_nW_1, mJ_nW_2]
          exact h
    · simp (disch := omega) only [true_and, mI_sI_1, mI_sI_2, mI_sI_3, mI_nW_1, mI_nW_2, mI_sR, mI_sJ, mI_sA_1, mI_sA_2, mR_sI, mR_sJ, mR_sA, mR_sR_1, mR_sR_2, mR_sR_3, mR_nW_1, mR_nW_2, mN_sI, mN_sJ, mN_sR, mN_sA, mN_nW_1, mN_nW_2, mJ_sI, mJ_sR, mJ_sA, mJ_sJ_1, mJ_sJ_2, mJ_sJ_3, mJ_nW_1, mJ_nW_2, e60] at y4
      (simp (disch := omega) only [ile, ilt, ieq, nI_toInt, Int32.reduceToInt] at y4; omega)
    · contradiction
  · rw [e16] at z4
    have hnw : np = 10 := by (simp (disch := omega) only [ile, ilt, ieq, nI_toInt, Int32.reduceToInt] at z4; omega)
    refine w_X12_player l a b c M _ (c12_isInstrument _ _ ⟨fun y1 => ⟨?_, hs⟩, fun y1 => c12_in _ _ _ _ ⟨fun y2 => ⟨?_, hs⟩, fun y2 => c12_in _ _ _ _ ⟨fun y3 => ⟨fun y4 => ?_, fun y4 => ⟨rfl, hs⟩⟩, fun y3 => ⟨?_, hs⟩⟩⟩⟩)
    · contradiction
    · contradiction
    · rw [e60, hnw] at y4; exact absurd rfl y4
    · contradiction
  · refine w_X12_player l a b c M _ (c12_isInstrument _ _ ⟨fun y1 => ⟨rfl, hs⟩, fun y1 => c12_in _ _ _ _ ⟨fun y2 => ⟨rfl, hs⟩, fun y2 => c12_in _ _ _ _ ⟨fun y3 => ?_, fun y3 => ⟨rfl, hs⟩⟩⟩⟩)
    contradiction
end S39
