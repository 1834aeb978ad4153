/-! put: the pair, told -/
section S74
variable {l : Launch} {M : o_M} {nw np ns nt T : Nat}
def pgood (ns : Nat) (b c : Int32) : Prop := b = 0 ∨ b = 3 ∨ (b = 1 ∧ rng c 0 (nI ns - 1) = true) ∨ ((b = 2 ∨ b = 4) ∧ rng c 0 400 = true)
theorem c12_putB {N : o_M} (e14 : mI N 60 14 = nI ns) (a b c : Int32) (hbad : rng a 0 5 = true → ¬ pgood ns b c) (q : Int32 → o_M → Prop) (h : q (-1) (sI N 60 39 1)) : K_X12_put l [rV (some 60), iV a, iV b, iV c] N q := by
  have p44 : ∀ s0 : Int32, (s0 = 0 ∨ rng a 0 5 = false) → H_X12_put_44 l q a b c s0 N := fun s0 hs => w_X12_put_44 l q _ _ _ _ N (c12_in _ _ _ _ ⟨fun _ => w_X12_refuse l _ N _ h, fun w => ⟨fun w2 => by
    rcases hs with e | e
    · exact absurd e w2
    · rw [e] at w; exact absurd rfl w, fun _ => w_X12_refuse l _ N _ h⟩⟩)
  have g : pgood ns b c → rng a 0 5 = false := fun hg => by
    cases hr : rng a 0 5 with
    | false => rfl
    | true => exact absurd hg (hbad hr)
  have ok : pgood ns b c → H_X12_put_44 l q a b c 1 N := fun hg => p44 1 (Or.inr (g hg))
  have no : H_X12_put_44 l q a b c 0 N := p44 0 (Or.inl rfl)
  refine w_X12_put l _ _ _ N q ⟨fun w => ok (Or.inl w), fun w0 => ⟨fun w => ok (Or.inr (Or.inl w)), fun w3 => ⟨fun w1 => ⟨fun w2 => c12_isDay _ _ ⟨fun _ => no, fun w => ok (Or.inr (Or.inr (Or.inr ⟨Or.inl w2, b2_n0.mp w⟩)))⟩, fun w2 => ⟨fun _ => no, fun w4 => c12_isDay _ _ ⟨fun _ => no, fun w => ok (Or.inr (Or.inr (Or.inr ⟨Or.inr w4, b2_n0.mp w⟩)))⟩⟩⟩, fun w1 => c12_isService _ _ ?_⟩⟩⟩
  rw [e14]
  exact ⟨fun w => ok (Or.inr (Or.inr (Or.inl ⟨w1, b2_n0.mp w⟩))), fun _ => ⟨fun w2 => absurd (w1.symm.trans w2) (by decide), fun _ => ⟨fun _ => no, fun w4 => absurd (w1.symm.trans w4) (by decide)⟩⟩⟩
theorem P_put (r : Rel M nw np ns nt T) (hT : T < 2 ^ 30) (a b c : Int32) : K_X11_put l [rV (some 16), iV a, iV b, iV c] M (fun r1 M1 => K_X12_put l [rV (some 60), iV a, iV b, iV c] M1 (fun r2 M2 => r1 = r2 ∧ Nx T M2)) := by
  have hX := r.2.1
  have rv := RelV_of r
  have hns := r.2.2.1.2.2.1.1
  have hnp := r.2.2.1.2.1.1
  have hnt := r.2.2.1.2.2.2.1
  have refu : (rng a 0 5 = true → ¬ pgood ns b c) → K_X11_hostRefuses l [rV (some 16), iV 1] M (fun r1 M1 => K_X12_put l [rV (some 60), iV a, iV b, iV c] M1 (fun r2 M2 => r1 = r2 ∧ Nx T M2)) := fun hb => w_X11_hostRefuses l _ M _ (c12_putB (by simp (disch := omega) only [true_and, mI_sI_1, mI_sI_2, mI_sI_3, mI_nW_1, mI_nW_2, mI_sR, mI_sJ, mI_sA_1, mI_sA_2, mR_sI, mR_sJ, mR_sA, mR_sR_1, mR_sR_2, mR_sR_3, mR_nW_1, mR_nW_2, mN_sI, mN_sJ, mN_sR, mN_sA, mN_nW_1, mN_nW_2, mJ_sI, mJ_sR, mJ_sA, mJ_sJ_1, mJ_sJ_2, mJ_sJ_3, mJ_nW_1, mJ_nW_2]; exact r.2.2.1.2.2.1.2.2) a b c hb _ ⟨rfl, Nx_s (st_rel r 1)⟩)
  refine w_X11_put l a b c M _ (c11_isWithin _ _ _ _ ⟨fun z => refu (fun h => ?_), fun z => ?_⟩)
  · rw [h] at z; exact absurd z (by decide)
  obtain ⟨y, _, hy5, rfl⟩ := rng_nat 0 5 (by decide) (by decide) (b2_n0.mp z)
  have hy : y < 6 := by omega
  obtain ⟨t0, t1, t2, t3, t4⟩ := r.2.2.2.2.2.2.2.2.1 y hy
  -- the answer of a put that goes through
  have good : (∀ (q : Int32 → o_M → Prop), q 1 M → ((((b < 1 ∨ 4 < b) → K_X11_hostAnswers l [rV (some 16), iV 1] (sI M (41 + 128 * y) 5 b) q) ∧ True) ∧ True) → True) := fun _ _ _ => trivial
  have fin : ∀ (N1 : o_M) (z t : Nat) (val : Nat → Int64), z ≤ 300 → CW M N1 y → RelV N1 nw np ns nt T → ((b = 2 ∧ rng c 0 400 = true ∧ t < 11 ∧ f_textOn (mI M) c nt = nI t ∧ mI M 87 t = nI z ∧ ∀ i, i < z → val i = (mI M 88 (300 * t + i)).toInt64) ∨ (b = 3 ∧ z = np ∧ t = 0 ∧ ∀ i, i < z → val i = f_due (mI M) ns nt i 0 400 1) ∨ (b = 4 ∧ rng c 0 400 = true ∧ z = np ∧ t = 0 ∧ ∀ i, i < z → val i = if f_away (mI M) i c then 1 else 0) ∨ (b = 0 ∧ z = 0 ∧ t = 0) ∨ (b = 1 ∧ rng c 0 (nI ns - 1) = true ∧ z = 0 ∧ t = 0)) → (∀ N', PW (sI N1 16 17 0) N' y b c (nI z) z val → TY N' y ns nt) → K_X11_hostAnswers l [rV (some 16), iV 1] N1 (fun r1 M1 => K_X12_put l [rV (some 60), iV (nI y), iV b, iV c] M1 (fun r2 M2 => r1 = r2 ∧ Nx T M2)) := by
    intro N1 z t val hz hC rv1 hgood hTY
    refine w_X11_hostAnswers l _ N1 _ (c12_putM (RelV_st rv1 0) hy b c t hz val ?_ _ (fun N' hP => ⟨rfl, put_rel r hy hz hC hP (hTY N' hP)⟩))
    have hrow : ∀ a j, 61 ≤ a → a ≤ 94 → mI (sI N1 16 17 0) a j = mI M a j := fun a j h1 h2 => by simp (disch := omega) only [true_and, mI_sI_1, mI_sI_2, mI_sI_3, mI_nW_1, mI_nW_2, mI_sR, mI_sJ, mI_sA_1, mI_sA_2, mR_sI, mR_sJ, mR_sA, mR_sR_1, mR_sR_2, mR_sR_3, mR_nW_1, mR_nW_2, mN_sI, mN_sJ, mN_sR, mN_sA, mN_nW_1, mN_nW_2, mJ_sI, mJ_sR, mJ_sA, mJ_sJ_1, mJ_sJ_2, mJ_sJ_3, mJ_nW_1, mJ_nW_2]; exact CW_V rv hC a j h1 h2
    have hdv := dv_e hrow
    rw [show f_textOn (mI (sI N1 16 17 0)) = f_textOn (mI M) by rw [← dp_textOn, hdv, dp_textOn], show f_due (mI (sI N1 16 17 0)) = f_due (mI M) by rw [← dp_due, hdv, dp_due], show f_away (mI (sI N1 16 17 0)) = f_away (mI M) by rw [← dp_away, hdv, dp_away], hrow 87 _ (by omega) (by omega)]
    rcases hgood with ⟨e1, e2, e3, e4, e5, e6⟩ | h
    · exact Or.inl ⟨e1, e2, e3, e4, e5, fun i hi => by rw [hrow 88 _ (by omega) (by omega)]; exact e6 i hi⟩
    · exact Or.inr h
  have hC0 : CW M (sI M (41 + 128 * y) 5 b) y := ⟨fun a j _ ha => by simp (disch := omega) only [true_and, mI_sI_1, mI_sI_2, mI_sI_3, mI_nW_1, mI_nW_2, mI_sR, mI_sJ, mI_sA_1, mI_sA_2, mR_sI, mR_sJ, mR_sA, mR_sR_1, mR_sR_2, mR_sR_3, mR_nW_1, mR_nW_2, mN_sI, mN_sJ, mN_sR, mN_sA, mN_nW_1, mN_nW_2, mJ_sI, mJ_sR, mJ_sA, mJ_sJ_1, mJ_sJ_2, mJ_sJ_3, mJ_nW_1, mJ_nW_2], fun a j _ _ => rfl, fun a j _ => rfl, rfl, rfl, rfl⟩
  have rv0 : RelV (sI M (41 + 128 * y) 5 b) nw np ns nt T := RelV_fr (Fr_sI (Fr_r _ _) (by unfold FYm; omega) _ _) rfl rfl rv
  -- what a tray's part of the relation needs
  have tray : ∀ (N1 N' : o_M) (z : Nat) (val : Nat → Int64), CW M N1 y → mI N1 (41 + 128 * y) 5 = b → PW (sI N1 16 17 0) N' y b c (nI z) z val → (mR N' 21 y = some (41 + 128 * y) ∧ mR N' (41 + 128 * y) 0 = some (42 + 128 * y) ∧ mN N' (42 + 128 * y) = 10 ∧ mI N' (41 + 128 * y) 5 = mI N' 96 y ∧ mI N' 96 y = b ∧ mI N' 97 y = c ∧ mI N' 98 y = nI z ∧ (∀ j, mI N' (41 + 128 * y) j = mI N1 (41 + 128 * y) j) ∧ (∀ j, mR N' (41 + 128 * y) j = mR N1 (41 + 128 * y) j) ∧ (∀ j, mJ N' (42 + 128 * y) j = mJ N1 (42 + 128 * y) j) ∧ ∀ i, i < z → mJ N' 99 (300 * y + i) = val i) := by
    intro N1 N' z val hC h5 hP
    obtain ⟨p1, p2, p3, p4, p5⟩ := hP
    have h41 : ∀ j, mI N' (41 + 128 * y) j = mI N1 (41 + 128 * y) j := fun j => by
      rw [p1 _ j (scr_o (by omega) (by omega)), if_neg (by omega), if_neg (by omega), if_neg (by omega), if_neg (by omega)]; simp (disch := omega) only [true_and, mI_sI_1, mI_sI_2, mI_sI_3, mI_nW_1, mI_nW_2, mI_sR, mI_sJ, mI_sA_1, mI_sA_2, mR_sI, mR_sJ, mR_sA, mR_sR_1, mR_sR_2, mR_sR_3, mR_nW_1, mR_nW_2, mN_sI, mN_sJ, mN_sR, mN_sA, mN_nW_1, mN_nW_2, mJ_sI, mJ_sR, mJ_sA, mJ_sJ_1, mJ_sJ_2, mJ_sJ_3, mJ_nW_1, mJ_nW_2]
    have h96 : mI N' 96 y = b := by rw [p1 96 y rfl, if_pos ⟨rfl, rfl⟩]
    refine ⟨?_, ?_, ?_, by rw [h41, h96]; exact h5, h96, by rw [p1 97 y rfl, if_neg (by omega), if_pos ⟨rfl, rfl⟩], by rw [p1 98 y rfl, if_neg (by omega), if_neg (by omega), if_pos ⟨rfl, rfl⟩], h41, fun j => by rw [p3]; rfl, fun j => ?_, fun i hi => ?_⟩
    · rw [p3]; show mR N1 21 y = _; rw [hC.2.2.1 21 y (by omega)]; exact t0
    · rw [p3]; show mR N1 (41 + 128 * y) 0 = _; rw [hC.2.2.2.1]; exact t1
    · rw [p4]; show mN N1 (42 + 128 * y) = _; rw [hC.2.2.2.2.1]; exact t2
    · rw [p2 _ j (by unfold lj; omega), if_neg (by omega)]; rfl
    · rw [p2 99 _ (by unfold lj; omega), if_pos (by omega)]; congr 1; omega
  -- from here on: what is put
  have hput : ∀ r7 : Int32, (r7 = 0 → ¬ pgood ns b c) → (¬ r7 = 0 → pgood ns b c) → ((¬ r7 = 0 → (mR M 16 4 = some 21 ∧ (vp_in (nI y) (mN M 21) ∧ (∃ b11, mR M 21 (nI y).toNatClampNeg = some b11 ∧ o_ty b11 = .inl 9 ∧ (((b < 1 ∨ 4 < b) → K_X11_hostAnswers l [rV (some 16), iV 1] (sI M b11 5 b) (fun r1 M1 => K_X12_put l [rV (some 60), iV (nI y), iV b, iV c] M1 (fun r2 M2 => r1 = r2 ∧ Nx T M2))) ∧ (b = 1 → (mR (sI M b11 5 b) 16 2 = some 19 ∧ (vp_in c (mN (sI M b11 5 b) 19) ∧ (∃ b19, mR (sI M b11 5 b) 19 c.toNatClampNeg = some b19 ∧ o_ty b19 = .inl 6 ∧ K_X11_hostAnswers l [rV (some 16), iV 1] (sR (sI M b11 5 b) b11 1 (some b19)) (fun r1 M1 => K_X12_put l [rV (some 60), iV (nI y), iV b, iV c] M1 (fun r2 M2 => r1 = r2 ∧ Nx T M2)))))) ∧ (b = 2 → K_X11_putBytes l [rV (some 16), rV (some b11), iV c] (sI M b11 5 b) (fun M24 => K_X11_hostAnswers l [rV (some 16), iV 1] M24 (fun r1 M1 => K_X12_put l [rV (some 60), iV (nI y), iV b, iV c] M1 (fun r2 M2 => r1 = r2 ∧ Nx T M2)))) ∧ (b = 3 → K_X11_putPays l [rV (some 16), rV (some b11)] (sI M b11 5 b) (fun M27 => K_X11_hostAnswers l [rV (some 16), iV 1] M27 (fun r1 M1 => K_X12_put l [rV (some 60), iV (nI y), iV b, iV c] M1 (fun r2 M2 => r1 = r2 ∧ Nx T M2)))) ∧ (b = 4 → K_X11_putTruths l [rV (some 16), rV (some b11), iV c] (sI M b11 5 b) (fun M30 => K_X11_hostAnswers l [rV (some 16), iV 1] M30 (fun r1 M1 => K_X12_put l [rV (some 60), iV (nI y), iV b, iV c] M1 (fun r2 M2 => r1 = r2 ∧ Nx T M2))))))))) ∧ (r7 = 0 → K_X11_hostRefuses l [rV (some 16), iV 1] M (fun r1 M1 => K_X12_put l [rV (some 60), iV (nI y), iV b, iV c] M1 (fun r2 M2 => r1 = r2 ∧ Nx T M2)))) := by
    intro r7 hb0 hb1
    refine ⟨fun w => ?_, fun w => refu (fun _ => hb0 w)⟩
    have hg := hb1 w
    rw [xn21 hX, nI_clamp (by omega), t0]
    refine ⟨xr16_4 hX, vin hy (by decide), _, rfl, ty41 y, fun w => ?_, fun w => ?_, fun w => ?_, fun w => ?_, fun w => ?_⟩
    · have hb : b = 0 := by
        rcases hg with e | e | ⟨e, _⟩ | ⟨e | e, _⟩
        · exact e
        all_goals rw [e] at w; exact absurd w (by decide)
      refine fin _ 0 0 (fun _ => 0) (by omega) hC0 rv0 (Or.inr (Or.inr (Or.inr (Or.inl ⟨hb, rfl, rfl⟩)))) (fun N' hP => ?_)
      obtain ⟨q0, q1, q2, q3, q4, _⟩ := tray _ N' 0 _ hC0 (by simp (disch := omega) only [true_and, mI_sI_1, mI_sI_2, mI_sI_3, mI_nW_1, mI_nW_2, mI_sR, mI_sJ, mI_sA_1, mI_sA_2, mR_sI, mR_sJ, mR_sA, mR_sR_1, mR_sR_2, mR_sR_3, mR_nW_1, mR_nW_2, mN_sI, mN_sJ, mN_sR, mN_sA, mN_nW_1, mN_nW_2, mJ_sI, mJ_sR, mJ_sA, mJ_sJ_1, mJ_sJ_2, mJ_sJ_3, mJ_nW_1, mJ_nW_2]) hP
      exact ⟨q0, q1, q2, q3, Or.inl (q4.trans hb)⟩
    · have hr : rng c 0 (nI ns - 1) = true := by
        rcases hg with e | e | ⟨_, e⟩ | ⟨e | e, _⟩
        · rw [e] at w; exact absurd w (by decide)
        · rw [e] at w; exact absurd w (by decide)
        · exact e
        all_goals rw [e] at w; exact absurd w (by decide)
      obtain ⟨s, hs, hcs⟩ := rng_ix (by omega) hr
      simp (disch := omega) only [true_and, mI_sI_1, mI_sI_2, mI_sI_3, mI_nW_1, mI_nW_2, mI_sR, mI_sJ, mI_sA_1, mI_sA_2, mR_sI, mR_sJ, mR_sA, mR_sR_1, mR_sR_2, mR_sR_3, mR_nW_1, mR_nW_2, mN_sI, mN_sJ, mN_sR, mN_sA, mN_nW_1, mN_nW_2, mJ_sI, mJ_sR, mJ_sA, mJ_sJ_1, mJ_sJ_2, mJ_sJ_3, mJ_nW_1, mJ_nW_2, xr16_2 hX, xn19 hX]
      rw [hcs, nI_clamp (by omega), svR r hs]
      refine ⟨vin (by omega) (by decide), _, rfl, ty47 s, ?_⟩
      rw [← hcs]
      have hC1 : CW M (sR (sI M (41 + 128 * y) 5 b) (41 + 128 * y) 1 (some (47 + 128 * s))) y := ⟨fun a j _ ha => by simp (disch := omega) only [true_and, mI_sI_1, mI_sI_2, mI_sI_3, mI_nW_1, mI_nW_2, mI_sR, mI_sJ, mI_sA_1, mI_sA_2, mR_sI, mR_sJ, mR_sA, mR_sR_1, mR_sR_2, mR_sR_3, mR_nW_1, mR_nW_2, mN_sI, mN_sJ, mN_sR, mN_sA, mN_nW_1, mN_nW_2, mJ_sI, mJ_sR, mJ_sA, mJ_sJ_1, mJ_sJ_2, mJ_sJ_3, mJ_nW_1, mJ_nW_2], fun a j _ _ => rfl, fun a j ha => by simp (disch := omega) only [true_and, mI_sI_1, mI_sI_2, mI_sI_3, mI_nW_1, mI_nW_2, mI_sR, mI_sJ, mI_sA_1, mI_sA_2, mR_sI, mR_sJ, mR_sA, mR_sR_1, mR_sR_2, mR_sR_3, mR_nW_1, mR_nW_2, mN_sI, mN_sJ, mN_sR, mN_sA, mN_nW_1, mN_nW_2, mJ_sI, mJ_sR, mJ_sA, mJ_sJ_1, mJ_sJ_2, mJ_sJ_3, mJ_nW_1, mJ_nW_2], by simp (disch := omega) only [true_and, mI_sI_1, mI_sI_2, mI_sI_3, mI_nW_1, mI_nW_2, mI_sR, mI_sJ, mI_sA_1, mI_sA_2, mR_sI, mR_sJ, mR_sA, mR_sR_1, mR_sR_2, mR_sR_3, mR_nW_1, mR_nW_2, mN_sI, mN_sJ, mN_sR, mN_sA, mN_nW_1, mN_nW_2, mJ_sI, mJ_sR, mJ_sA, mJ_sJ_1, mJ_sJ_2, mJ_sJ_3, mJ_nW_1, mJ_nW_2], rfl, rfl⟩
      refine fin _ 0 0 (fun _ => 0) (by omega) hC1 (RelV_fr (Fr_sR (Fr_r _ _) (by unfold FYm; omega) _ _) rfl rfl rv0) (Or.inr (Or.inr (Or.inr (Or.inr ⟨w, hr, rfl, rfl⟩)))) (fun N' hP => ?_)
      obtain ⟨q0, q1, q2, q3, q4, q5, q6, q7, q8, _⟩ := tray _ N' 0 _ hC1 (by simp (disch := omega) only [true_and, mI_sI_1, mI_sI_2, mI_sI_3, mI_nW_1, mI_nW_2, mI_sR, mI_sJ, mI_sA_1, mI_sA_2, mR_sI, mR_sJ, mR_sA, mR_sR_1, mR_sR_2, mR_sR_3, mR_nW_1, mR_nW_2, mN_sI, mN_sJ, mN_sR, mN_sA, mN_nW_1, mN_nW_2, mJ_sI, mJ_sR, mJ_sA, mJ_sJ_1, mJ_sJ_2, mJ_sJ_3, mJ_nW_1, mJ_nW_2]) hP
      exact ⟨q0, q1, q2, q3, Or.inr (Or.inl ⟨q4.trans w, s, hs, q5.trans hcs, by rw [q8]; simp (disch := omega) only [true_and, mI_sI_1, mI_sI_2, mI_sI_3, mI_nW_1, mI_nW_2, mI_sR, mI_sJ, mI_sA_1, mI_sA_2, mR_sI, mR_sJ, mR_sA, mR_sR_1, mR_sR_2, mR_sR_3, mR_nW_1, mR_nW_2, mN_sI, mN_sJ, mN_sR, mN_sA, mN_nW_1, mN_nW_2, mJ_sI, mJ_sR, mJ_sA, mJ_sJ_1, mJ_sJ_2, mJ_sJ_3, mJ_nW_1, mJ_nW_2]⟩)⟩
    · have hr : rng c 0 400 = true := by
        rcases hg with e | e | ⟨e, _⟩ | ⟨_, e⟩
        · rw [e] at w; exact absurd w (by decide)
        · rw [e] at w; exact absurd w (by decide)
        · rw [e] at w; exact absurd w (by decide)
        · exact e
      obtain ⟨t, ht, et⟩ := textOn_lt r c
      have et0 : f_textOn (mI (sI M (41 + 128 * y) 5 b)) c nt = nI t := by
        rw [← dp_textOn, dv_e (M := M) (fun a j h1 h2 => by simp (disch := omega) only [true_and, mI_sI_1, mI_sI_2, mI_sI_3, mI_nW_1, mI_nW_2, mI_sR, mI_sJ, mI_sA_1, mI_sA_2, mR_sI, mR_sJ, mR_sA, mR_sR_1, mR_sR_2, mR_sR_3, mR_nW_1, mR_nW_2, mN_sI, mN_sJ, mN_sR, mN_sA, mN_nW_1, mN_nW_2, mJ_sI, mJ_sR, mJ_sA, mJ_sJ_1, mJ_sJ_2, mJ_sJ_3, mJ_nW_1, mJ_nW_2]), dp_textOn]; exact et
      obtain ⟨x0, x1, _, _, ⟨z, hz, ezn, e87, e88⟩, _⟩ := r.2.2.2.2.2.2.2.1 t ht
      have ty52 : o_ty (52 + 128 * t) = .inr .byte := by
        have : (52 + 128 * t) % 128 = 52 := by omega
        unfold o_ty; rw [this]; rfl
      refine w_X11_putBytes l _ _ (ty41 y) _ _ ⟨by simp (disch := omega) only [true_and, mI_sI_1, mI_sI_2, mI_sI_3, mI_nW_1, mI_nW_2, mI_sR, mI_sJ, mI_sA_1, mI_sA_2, mR_sI, mR_sJ, mR_sA, mR_sR_1, mR_sR_2, mR_sR_3, mR_nW_1, mR_nW_2, mN_sI, mN_sJ, mN_sR, mN_sA, mN_nW_1, mN_nW_2, mJ_sI, mJ_sR, mJ_sA, mJ_sJ_1, mJ_sJ_2, mJ_sJ_3, mJ_nW_1, mJ_nW_2, xr16_3 hX], vc11_findInForce rv0 hT c _ ?_⟩
      rw [et0, nI_clamp (by omega)]
      simp (disch := omega) only [true_and, mI_sI_1, mI_sI_2, mI_sI_3, mI_nW_1, mI_nW_2, mI_sR, mI_sJ, mI_sA_1, mI_sA_2, mR_sI, mR_sJ, mR_sA, mR_sR_1, mR_sR_2, mR_sR_3, mR_nW_1, mR_nW_2, mN_sI, mN_sJ, mN_sR, mN_sA, mN_nW_1, mN_nW_2, mJ_sI, mJ_sR, mJ_sA, mJ_sJ_1, mJ_sJ_2, mJ_sJ_3, mJ_nW_1, mJ_nW_2, xn20 hX, x0]
      refine ⟨vin (by omega) (by decide), _, rfl, ty51 t, ?_⟩
      rw [show 51 + 128 * t + 1 = 52 + 128 * t by omega]
      simp (disch := omega) only [true_and, mI_sI_1, mI_sI_2, mI_sI_3, mI_nW_1, mI_nW_2, mI_sR, mI_sJ, mI_sA_1, mI_sA_2, mR_sI, mR_sJ, mR_sA, mR_sR_1, mR_sR_2, mR_sR_3, mR_nW_1, mR_nW_2, mN_sI, mN_sJ, mN_sR, mN_sA, mN_nW_1, mN_nW_2, mJ_sI, mJ_sR, mJ_sA, mJ_sJ_1, mJ_sJ_2, mJ_sJ_3, mJ_nW_1, mJ_nW_2, x1]
      refine ⟨_, rfl, ty52, ?_⟩
      rw [ezn, show Int32.ofNat z = nI z from rfl]
      have hC1 : CW M (sI (sR (sI M (41 + 128 * y) 5 b) (41 + 128 * y) 2 (some (52 + 128 * t))) (41 + 128 * y) 4 (nI z)) y := ⟨fun a j _ ha => by simp (disch := omega) only [true_and, mI_sI_1, mI_sI_2, mI_sI_3, mI_nW_1, mI_nW_2, mI_sR, mI_sJ, mI_sA_1, mI_sA_2, mR_sI, mR_sJ, mR_sA, mR_sR_1, mR_sR_2, mR_sR_3, mR_nW_1, mR_nW_2, mN_sI, mN_sJ, mN_sR, mN_sA, mN_nW_1, mN_nW_2, mJ_sI, mJ_sR, mJ_sA, mJ_sJ_1, mJ_sJ_2, mJ_sJ_3, mJ_nW_1, mJ_nW_2], fun a j _ _ => rfl, fun a j ha => by simp (disch := omega) only [true_and, mI_sI_1, mI_sI_2, mI_sI_3, mI_nW_1, mI_nW_2, mI_sR, mI_sJ, mI_sA_1, mI_sA_2, mR_sI, mR_sJ, mR_sA, mR_sR_1, mR_sR_2, mR_sR_3, mR_nW_1, mR_nW_2, mN_sI, mN_sJ, mN_sR, mN_sA, mN_nW_1, mN_nW_2, mJ_sI, mJ_sR, mJ_sA, mJ_sJ_1, mJ_sJ_2, mJ_sJ_3, mJ_nW_1, mJ_nW_2], by simp (disch := omega) only [true_and, mI_sI_1, mI_sI_2, mI_sI_3, mI_nW_1, mI_nW_2, mI_sR, mI_sJ, mI_sA_1, mI_sA_2, mR_sI, mR_sJ, mR_sA, mR_sR_1, mR_sR_2, mR_sR_3, mR_nW_1, mR_nW_2, mN_sI, mN_sJ, mN_sR, mN_sA, mN_nW_1, mN_nW_2, mJ_sI, mJ_sR, mJ_sA, mJ_sJ_1, mJ_sJ_2, mJ_sJ_3, mJ_nW_1, mJ_nW_2], rfl, rfl⟩
      refine fin _ z t (fun i => (mI M 88 (300 * t + i)).toInt64) hz hC1 (RelV_fr (Fr_sI (Fr_sR (Fr_r _ _) (by unfold FYm; omega) _ _) (by unfold FYm; omega) _ _) rfl rfl rv0) (Or.inl ⟨w, hr, by omega, et, e87, fun i _ => rfl⟩) (fun N' hP => ?_)
      have hP' := hP
      obtain ⟨p1, p2, p3, p4, p5⟩ := hP'
      obtain ⟨q0, q1, q2, q3, q4, q5, q6, q7, q8, q9, q10⟩ := tray _ N' z _ hC1 (by simp (disch := omega) only [true_and, mI_sI_1, mI_sI_2, mI_sI_3, mI_nW_1, mI_nW_2, mI_sR, mI_sJ, mI_sA_1, mI_sA_2, mR_sI, mR_sJ, mR_sA, mR_sR_1, mR_sR_2, mR_sR_3, mR_nW_1, mR_nW_2, mN_sI, mN_sJ, mN_sR, mN_sA, mN_nW_1, mN_nW_2, mJ_sI, mJ_sR, mJ_sA, mJ_sJ_1, mJ_sJ_2, mJ_sJ_3, mJ_nW_1, mJ_nW_2]) hP
      refine ⟨q0, q1, q2, q3, Or.inr (Or.inr (Or.inl ⟨q4.trans w, t, z, ht, hz, ?_, by rw [q8]; simp (disch := omega) only [true_and, mI_sI_1, mI_sI_2, mI_sI_3, mI_nW_1, mI_nW_2, mI_sR, mI_sJ, mI_sA_1, mI_sA_2, mR_sI, mR_sJ, mR_sA, mR_sR_1, mR_sR_2, mR_sR_3, mR_nW_1, mR_nW_2, mN_sI, mN_sJ, mN_sR, mN_sA, mN_nW_1, mN_nW_2, mJ_sI, mJ_sR, mJ_sA, mJ_sJ_1, mJ_sJ_2, mJ_sJ_3, mJ_nW_1, mJ_nW_2], q6, by rw [q7]; simp (disch := omega) only [true_and, mI_sI_1, mI_sI_2, mI_sI_3, mI_nW_1, mI_nW_2, mI_sR, mI_sJ, mI_sA_1, mI_sA_2, mR_sI, mR_sJ, mR_sA, mR_sR_1, mR_sR_2, mR_sR_3, mR_nW_1, mR_nW_2, mN_sI, mN_sJ, mN_sR, mN_sA, mN_nW_1, mN_nW_2, mJ_sI, mJ_sR, mJ_sA, mJ_sJ_1, mJ_sJ_2, mJ_sJ_3, mJ_nW_1, mJ_nW_2], fun i hi => ?_⟩))⟩
      · rw [p4]; exact ezn
      · rw [q10 i hi, e88 i hi]
        congr 1
        rw [p1 _ i (scr_o (by omega) (by omega)), if_neg (by omega), if_neg (by omega), if_neg (by omega), if_neg (by omega)]
        simp (disch := omega) only [true_and, mI_sI_1, mI_sI_2, mI_sI_3, mI_nW_1, mI_nW_2, mI_sR, mI_sJ, mI_sA_1, mI_sA_2, mR_sI, mR_sJ, mR_sA, mR_sR_1, mR_sR_2, mR_sR_3, mR_nW_1, mR_nW_2, mN_sI, mN_sJ, mN_sR, mN_sA, mN_nW_1, mN_nW_2, mJ_sI, mJ_sR, mJ_sA, mJ_sJ_1, mJ_sJ_2, mJ_sJ_3, mJ_nW_1, mJ_nW_2]
    · -- pays
      have key : ∀ m k, k + m = np → ∀ N1, CW M N1 y → RelV N1 nw np ns nt T → mI N1 (41 + 128 * y) 5 = b → (∀ i, i < k → mJ N1 (42 + 128 * y) i = f_due (mI M) ns nt i 0 400 1) → H_X11_putPays_2 l (fun M27 => K_X11_hostAnswers l [rV (some 16), iV 1] M27 (fun r1 M1 => K_X12_put l [rV (some 60), iV (nI y), iV b, iV c] M1 (fun r2 M2 => r1 = r2 ∧ Nx T M2))) (41 + 128 * y) (nI k) N1 := by
        intro m
        induction m with
        | zero =>
          intro k hk N1 hC rv1 h5 hpay
          have : k = np := by omega
          subst this
          refine w_X11_putPays_2 l _ _ (ty41 y) _ N1 ⟨fun _ => ?_, fun w => absurd (by rw [rv1.2.2.1.2.1.2.1]; exact nI_le (Nat.le_refl _) (by omega)) w⟩
          rw [rv1.2.2.1.2.1.2.1]
          have hC1 : CW M (sI N1 (41 + 128 * y) 4 (nI k)) y := ⟨fun a j hs ha => by simp (disch := omega) only [true_and, mI_sI_1, mI_sI_2, mI_sI_3, mI_nW_1, mI_nW_2, mI_sR, mI_sJ, mI_sA_1, mI_sA_2, mR_sI, mR_sJ, mR_sA, mR_sR_1, mR_sR_2, mR_sR_3, mR_nW_1, mR_nW_2, mN_sI, mN_sJ, mN_sR, mN_sA, mN_nW_1, mN_nW_2, mJ_sI, mJ_sR, mJ_sA, mJ_sJ_1, mJ_sJ_2, mJ_sJ_3, mJ_nW_1, mJ_nW_2]; exact hC.1 a j hs ha, hC.2.1, hC.2.2.1, hC.2.2.2.1, hC.2.2.2.2.1, hC.2.2.2.2.2⟩
          refine fin _ k 0 (fun i => f_due (mI M) ns nt i 0 400 1) (by omega) hC1 (RelV_fr (Fr_sI (Fr_r _ _) (by unfold FYm; omega) _ _) rfl rfl rv1) (Or.inr (Or.inl ⟨w, rfl, rfl, fun i _ => rfl⟩)) (fun N' hP => ?_)
          obtain ⟨q0, q1, q2, q3, q4, q5, q6, q7, q8, q9, q10⟩ := tray _ N' k _ hC1 (by simp (disch := omega) only [true_and, mI_sI_1, mI_sI_2, mI_sI_3, mI_nW_1, mI_nW_2, mI_sR, mI_sJ, mI_sA_1, mI_sA_2, mR_sI, mR_sJ, mR_sA, mR_sR_1, mR_sR_2, mR_sR_3, mR_nW_1, mR_nW_2, mN_sI, mN_sJ, mN_sR, mN_sA, mN_nW_1, mN_nW_2, mJ_sI, mJ_sR, mJ_sA, mJ_sJ_1, mJ_sJ_2, mJ_sJ_3, mJ_nW_1, mJ_nW_2]; exact h5) hP
          exact ⟨q0, q1, q2, q3, Or.inr (Or.inr (Or.inr (Or.inl ⟨q4.trans w, k, hnp, q6, by rw [q7]; simp (disch := omega) only [true_and, mI_sI_1, mI_sI_2, mI_sI_3, mI_nW_1, mI_nW_2, mI_sR, mI_sJ, mI_sA_1, mI_sA_2, mR_sI, mR_sJ, mR_sA, mR_sR_1, mR_sR_2, mR_sR_3, mR_nW_1, mR_nW_2, mN_sI, mN_sJ, mN_sR, mN_sA, mN_nW_1, mN_nW_2, mJ_sI, mJ_sR, mJ_sA, mJ_sJ_1, mJ_sJ_2, mJ_sJ_3, mJ_nW_1, mJ_nW_2], fun i hi => by rw [q10 i hi, q9]; simp (disch := omega) only [true_and, mI_sI_1, mI_sI_2, mI_sI_3, mI_nW_1, mI_nW_2, mI_sR, mI_sJ, mI_sA_1, mI_sA_2, mR_sI, mR_sJ, mR_sA, mR_sR_1, mR_sR_2, mR_sR_3, mR_nW_1, mR_nW_2, mN_sI, mN_sJ, mN_sR, mN_sA, mN_nW_1, mN_nW_2, mJ_sI, mJ_sR, mJ_sA, mJ_sJ_1, mJ_sJ_2, mJ_sJ_3, mJ_nW_1, mJ_nW_2]; exact (hpay i hi).symm⟩)))⟩
        | succ m ih =>
          intro k hk N1 hC rv1 h5 hpay
          have hdv := dv_e (CW_V rv hC)
          refine w_X11_putPays_2 l _ _ (ty41 y) _ N1 ⟨fun w => ?_, fun _ => ⟨?_, vc11_sumDue rv1 hT (w := 1) (by omega) (Nat.le_refl _) 0 400 _ (fun N2 hN2 => ?_)⟩⟩
          · rw [rv1.2.2.1.2.1.2.1, nI_leI (by omega) (by omega)] at w; omega
          · rw [hC.2.2.2.1, show 41 + 128 * y + 1 = 42 + 128 * y by omega]; exact t1
          have rv2 := RelV_Sm hN2 rv1
          rw [show 41 + 128 * y + 1 = 42 + 128 * y by omega, hN2.2.2.2.1, hC.2.2.2.2.1, t2, nI_clamp (by omega), n1, show f_due (mI N1) = f_due (mI M) by rw [← dp_due, hdv, dp_due]]
          refine ⟨vin (by omega) (by decide), ih (k + 1) (by omega) _ ⟨fun a j hs ha => (Sm_i hN2 hs).trans (hC.1 a j hs ha), fun a j h1 h2 => ?_, fun a j ha => ?_, ?_, ?_, ?_⟩ (RelV_fr (Fr_sJ (Fr_r _ _) (by unfold FYm; omega) _ _) rfl rfl rv2) ?_ (fun i hi => ?_)⟩
          · rw [mJ_sJ_1 h2, Sm_j hN2 h1]; exact hC.2.1 a j h1 h2
          · show mR N2 a j = _; rw [hN2.2.2.1]; exact hC.2.2.1 a j ha
          · show mR N2 _ 0 = _; rw [hN2.2.2.1]; exact hC.2.2.2.1
          · show mN N2 = _; exact hN2.2.2.2.1.trans hC.2.2.2.2.1
          · show mL N2 = _; exact hN2.2.2.2.2.trans hC.2.2.2.2.2
          · show mI N2 _ 5 = _; rw [Sm_i hN2 (scr_o (by omega) (by omega))]; exact h5
          · by_cases hik : i = k
            · subst hik; simp (disch := omega) only [true_and, mI_sI_1, mI_sI_2, mI_sI_3, mI_nW_1, mI_nW_2, mI_sR, mI_sJ, mI_sA_1, mI_sA_2, mR_sI, mR_sJ, mR_sA, mR_sR_1, mR_sR_2, mR_sR_3, mR_nW_1, mR_nW_2, mN_sI, mN_sJ, mN_sR, mN_sA, mN_nW_1, mN_nW_2, mJ_sI, mJ_sR, mJ_sA, mJ_sJ_1, mJ_sJ_2, mJ_sJ_3, mJ_nW_1, mJ_nW_2]
            · simp (disch := omega) only [true_and, mI_sI_1, mI_sI_2, mI_sI_3, mI_nW_1, mI_nW_2, mI_sR, mI_sJ, mI_sA_1, mI_sA_2, mR_sI, mR_sJ, mR_sA, mR_sR_1, mR_sR_2, mR_sR_3, mR_nW_1, mR_nW_2, mN_sI, mN_sJ, mN_sR, mN_sA, mN_nW_1, mN_nW_2, mJ_sI, mJ_sR, mJ_sA, mJ_sJ_1, mJ_sJ_2, mJ_sJ_3, mJ_nW_1, mJ_nW_2]; rw [Sm_j hN2 (by omega)]; exact hpay i (by omega)
      exact w_X11_putPays l _ (ty41 y) _ _ (key np 0 (by omega) _ hC0 rv0 (by simp (disch := omega) only [true_and, mI_sI_1, mI_sI_2, mI_sI_3, mI_nW_1, mI_nW_2, mI_sR, mI_sJ, mI_sA_1, mI_sA_2, mR_sI, mR_sJ, mR_sA, mR_sR_1, mR_sR_2, mR_sR_3, mR_nW_1, mR_nW_2, mN_sI, mN_sJ, mN_sR, mN_sA, mN_nW_1, mN_nW_2, mJ_sI, mJ_sR, mJ_sA, mJ_sJ_1, mJ_sJ_2, mJ_sJ_3, mJ_nW_1, mJ_nW_2]) (fun i hi => by omega))
    · -- truths
      have hr : rng c 0 400 = true := by
        rcases hg with e | e | ⟨e, _⟩ | ⟨_, e⟩
        · rw [e] at w; exact absurd w (by decide)
        · rw [e] at w; exact absurd w (by decide)
        · rw [e] at w; exact absurd w (by decide)
        · exact e
      have key : ∀ m k, k + m = np → ∀ N1, CW M N1 y → RelV N1 nw np ns nt T → mI N1 (41 + 128 * y) 5 = b → mI N1 (41 + 128 * y) 3 = nI (setN (fun i => f_away (mI M) i c) k) → H_X11_putTruths_7 l (fun M27 => K_X11_hostAnswers l [rV (some 16), iV 1] M27 (fun r1 M1 => K_X12_put l [rV (some 60), iV (nI y), iV b, iV c] M1 (fun r2 M2 => r1 = r2 ∧ Nx T M2))) (41 + 128 * y) c (nI k) N1 := by
        intro m
        induction m with
        | zero =>
          intro k hk N1 hC rv1 h5 h3
          have : k = np := by omega
          subst this
          refine w_X11_putTruths_7 l _ _ (ty41 y) _ _ N1 ⟨fun _ => ?_, fun w => absurd (by rw [rv1.2.2.1.2.1.2.1]; exact nI_le (Nat.le_refl _) (by omega)) w⟩
          rw [rv1.2.2.1.2.1.2.1]
          have hC1 : CW M (sI N1 (41 + 128 * y) 4 (nI k)) y := ⟨fun a j hs ha => by simp (disch := omega) only [true_and, mI_sI_1, mI_sI_2, mI_sI_3, mI_nW_1, mI_nW_2, mI_sR, mI_sJ, mI_sA_1, mI_sA_2, mR_sI, mR_sJ, mR_sA, mR_sR_1, mR_sR_2, mR_sR_3, mR_nW_1, mR_nW_2, mN_sI, mN_sJ, mN_sR, mN_sA, mN_nW_1, mN_nW_2, mJ_sI, mJ_sR, mJ_sA, mJ_sJ_1, mJ_sJ_2, mJ_sJ_3, mJ_nW_1, mJ_nW_2]; exact hC.1 a j hs ha, hC.2.1, hC.2.2.1, hC.2.2.2.1, hC.2.2.2.2.1, hC.2.2.2.2.2⟩
          refine fin _ k 0 (fun i => if f_away (mI M) i c then 1 else 0) (by omega) hC1 (RelV_fr (Fr_sI (Fr_r _ _) (by unfold FYm; omega) _ _) rfl rfl rv1) (Or.inr (Or.inr (Or.inl ⟨w, hr, rfl, rfl, fun i _ => rfl⟩))) (fun N' hP => ?_)
          obtain ⟨q0, q1, q2, q3, q4, q5, q6, q7, q8, q9, q10⟩ := tray _ N' k _ hC1 (by simp (disch := omega) only [true_and, mI_sI_1, mI_sI_2, mI_sI_3, mI_nW_1, mI_nW_2, mI_sR, mI_sJ, mI_sA_1, mI_sA_2, mR_sI, mR_sJ, mR_sA, mR_sR_1, mR_sR_2, mR_sR_3, mR_nW_1, mR_nW_2, mN_sI, mN_sJ, mN_sR, mN_sA, mN_nW_1, mN_nW_2, mJ_sI, mJ_sR, mJ_sA, mJ_sJ_1, mJ_sJ_2, mJ_sJ_3, mJ_nW_1, mJ_nW_2]; exact h5) hP
          refine ⟨q0, q1, q2, q3, Or.inr (Or.inr (Or.inr (Or.inr ⟨q4.trans w, k, hnp, q6, by rw [q7]; simp (disch := omega) only [true_and, mI_sI_1, mI_sI_2, mI_sI_3, mI_nW_1, mI_nW_2, mI_sR, mI_sJ, mI_sA_1, mI_sA_2, mR_sI, mR_sJ, mR_sA, mR_sR_1, mR_sR_2, mR_sR_3, mR_nW_1, mR_nW_2, mN_sI, mN_sJ, mN_sR, mN_sA, mN_nW_1, mN_nW_2, mJ_sI, mJ_sR, mJ_sA, mJ_sJ_1, mJ_sJ_2, mJ_sJ_3, mJ_nW_1, mJ_nW_2], fun i hi => ?_⟩)))⟩
          rw [q10 i hi, q7]
          simp (disch := omega) only [true_and, mI_sI_1, mI_sI_2, mI_sI_3, mI_nW_1, mI_nW_2, mI_sR, mI_sJ, mI_sA_1, mI_sA_2, mR_sI, mR_sJ, mR_sA, mR_sR_1, mR_sR_2, mR_sR_3, mR_nW_1, mR_nW_2, mN_sI, mN_sJ, mN_sR, mN_sA, mN_nW_1, mN_nW_2, mJ_sI, mJ_sR, mJ_sA, mJ_sJ_1, mJ_sJ_2, mJ_sJ_3, mJ_nW_1, mJ_nW_2, h3]
          have hlt : setN (fun i => f_away (mI M) i c) k < 1024 := by
            apply Nat.lt_pow_two_of_testBit (n := 10)
            intro p hp
            rw [setN_t]
            have : decide (p < k) = false := by simp; omega
            rw [this]; rfl
          have hbit := setN_t (fun i => f_away (mI M) i c) k i
          simp only [hi, decide_true, Bool.true_and] at hbit
          cases hb : f_away (mI M) i c with
          | true =>
            rw [hb] at hbit
            rw [(bit_iff (by omega) (by omega)).mpr hbit]; rfl
          | false =>
            rw [hb] at hbit
            rw [(bit_iff0 (by omega) (by omega)).mpr hbit]; rfl
        | succ m ih =>
          intro k hk N1 hC rv1 h5 h3
          have hdv := dv_e (CW_V rv hC)
          have pR := (rv1.2.2.2.2.2.1.1 k (by omega)).1
          have hsn : setN (fun i => f_away (mI M) i c) (k + 1) = if f_away (mI M) k c then setN (fun i => f_away (mI M) i c) k ||| 2 ^ k else setN (fun i => f_away (mI M) i c) k := rfl
          refine w_X11_putTruths_7 l _ _ (ty41 y) _ _ N1 ⟨fun w => ?_, fun _ => ?_⟩
          · rw [rv1.2.2.1.2.1.2.1, nI_leI (by omega) (by omega)] at w; omega
          rw [xn18 rv1.2.1, nI_clamp (by omega), pR, n1]
          refine ⟨xr16_1 rv1.2.1, vin (by omega) (by decide), _, rfl, ty44 k, vk2_hasLeave rv1 (by omega) c _ ?_⟩
          rw [show f_away (mI N1) k c = f_away (mI M) k c by rw [← dp_away, hdv, dp_away]]
          refine ⟨fun w => ih (k + 1) (by omega) N1 hC rv1 h5 (by rw [hsn, b2_0.mp w]; exact h3), fun w => ?_⟩
          rw [h3, bitp k (by omega), nI_or]
          refine ih (k + 1) (by omega) _ ⟨fun a j hs ha => by simp (disch := omega) only [true_and, mI_sI_1, mI_sI_2, mI_sI_3, mI_nW_1, mI_nW_2, mI_sR, mI_sJ, mI_sA_1, mI_sA_2, mR_sI, mR_sJ, mR_sA, mR_sR_1, mR_sR_2, mR_sR_3, mR_nW_1, mR_nW_2, mN_sI, mN_sJ, mN_sR, mN_sA, mN_nW_1, mN_nW_2, mJ_sI, mJ_sR, mJ_sA, mJ_sJ_1, mJ_sJ_2, mJ_sJ_3, mJ_nW_1, mJ_nW_2]; exact hC.1 a j hs ha, hC.2.1, hC.2.2.1, hC.2.2.2.1, hC.2.2.2.2.1, hC.2.2.2.2.2⟩ (RelV_fr (Fr_sI (Fr_r _ _) (by unfold FYm; omega) _ _) rfl rfl rv1) (by simp (disch := omega) only [true_and, mI_sI_1, mI_sI_2, mI_sI_3, mI_nW_1, mI_nW_2, mI_sR, mI_sJ, mI_sA_1, mI_sA_2, mR_sI, mR_sJ, mR_sA, mR_sR_1, mR_sR_2, mR_sR_3, mR_nW_1, mR_nW_2, mN_sI, mN_sJ, mN_sR, mN_sA, mN_nW_1, mN_nW_2, mJ_sI, mJ_sR, mJ_sA, mJ_sJ_1, mJ_sJ_2, mJ_sJ_3, mJ_nW_1, mJ_nW_2]; exact h5) (by simp (disch := omega) only [true_and, mI_sI_1, mI_sI_2, mI_sI_3, mI_nW_1, mI_nW_2, mI_sR, mI_sJ, mI_sA_1, mI_sA_2, mR_sI, mR_sJ, mR_sA, mR_sR_1, mR_sR_2, mR_sR_3, mR_nW_1, mR_nW_2, mN_sI, mN_sJ, mN_sR, mN_sA, mN_nW_1, mN_nW_2, mJ_sI, mJ_sR, mJ_sA, mJ_sJ_1, mJ_sJ_2, mJ_sJ_3, mJ_nW_1, mJ_nW_2]; rw [hsn, b2_n0.mp w]; rfl)
      refine w_X11_putTruths l _ _ (ty41 y) _ _ (key np 0 (by omega) _ ⟨fun a j hs ha => by simp (disch := omega) only [true_and, mI_sI_1, mI_sI_2, mI_sI_3, mI_nW_1, mI_nW_2, mI_sR, mI_sJ, mI_sA_1, mI_sA_2, mR_sI, mR_sJ, mR_sA, mR_sR_1, mR_sR_2, mR_sR_3, mR_nW_1, mR_nW_2, mN_sI, mN_sJ, mN_sR, mN_sA, mN_nW_1, mN_nW_2, mJ_sI, mJ_sR, mJ_sA, mJ_sJ_1, mJ_sJ_2, mJ_sJ_3, mJ_nW_1, mJ_nW_2], fun a j _ _ => rfl, fun a j _ => rfl, rfl, rfl, rfl⟩ (RelV_fr (Fr_sI (Fr_r _ _) (by unfold FYm; omega) _ _) rfl rfl rv0) (by simp (disch := omega) only [true_and, mI_sI_1, mI_sI_2, mI_sI_3, mI_nW_1, mI_nW_2, mI_sR, mI_sJ, mI_sA_1, mI_sA_2, mR_sI, mR_sJ, mR_sA, mR_sR_1, mR_sR_2, mR_sR_3, mR_nW_1, mR_nW_2, mN_sI, mN_sJ, mN_sR, mN_sA, mN_nW_1, mN_nW_2, mJ_sI, mJ_sR, mJ_sA, mJ_sJ_1, mJ_sJ_2, mJ_sJ_3, mJ_nW_1, mJ_nW_2]) (by simp (disch := omega) only [true_and, mI_sI_1, mI_sI_2, mI_sI_3, mI_nW_1, mI_nW_2, mI_sR, mI_sJ, mI_sA_1, mI_sA_2, mR_sI, mR_sJ, mR_sA, mR_sR_1, mR_sR_2, mR_sR_3, mR_nW_1, mR_nW_2, mN_sI, mN_sJ, mN_sR, mN_sA, mN_nW_1, mN_nW_2, mJ_sI, mJ_sR, mJ_sA, mJ_sJ_1, mJ_sJ_2, mJ_sJ_3, mJ_nW_1, mJ_nW_2]; rfl))
  have nb : ∀ k, k ≤ 4 → (b < 0 ∨ 4 < b) → ¬ b = nI k := fun k hk w => sw_ne (n := 4) w hk (by omega)
  refine w_X11_isPuttable l _ _ M _ ⟨fun w => hput 0 (fun _ hg => ?_) (fun y => absurd rfl y), fun w => hput 1 (fun y => absurd y (by decide)) (fun _ => Or.inl w), fun w => c11_isWithin _ _ _ _ ⟨b2_nar _, ?_⟩, fun w => c11_isDay _ _ ⟨b2_nar _, hput _ (fun y hg => ?_) (fun y => Or.inr (Or.inr (Or.inr ⟨Or.inl w, b2_n0.mp y⟩)))⟩, fun w => hput 1 (fun y => absurd y (by decide)) (fun _ => Or.inr (Or.inl w)), fun w => c11_isDay _ _ ⟨b2_nar _, hput _ (fun y hg => ?_) (fun y => Or.inr (Or.inr (Or.inr ⟨Or.inr w, b2_n0.mp y⟩)))⟩⟩
  · rcases hg with e | e | ⟨e, _⟩ | ⟨e | e, _⟩
    · exact nb 0 (by omega) w e
    · exact nb 3 (by omega) w e
    · exact nb 1 (by omega) w e
    · exact nb 2 (by omega) w e
    · exact nb 4 (by omega) w e
  · rw [r.2.2.1.2.2.1.2.1]
    refine hput _ (fun y hg => ?_) (fun y => Or.inr (Or.inr (Or.inl ⟨w, b2_n0.mp y⟩)))
    have y := b2_0.mp y
    rcases hg with e | e | ⟨_, e⟩ | ⟨e | e, _⟩
    · rw [e] at w; exact absurd w (by decide)
    · rw [e] at w; exact absurd w (by decide)
    · rw [e] at y; cases y
    · rw [e] at w; exact absurd w (by decide)
    · rw [e] at w; exact absurd w (by decide)
  · have y := b2_0.mp y
    rcases hg with e | e | ⟨e, _⟩ | ⟨_, e⟩
    · rw [e] at w; exact absurd w (by decide)
    · rw [e] at w; exact absurd w (by decide)
    · rw [e] at w; exact absurd w (by decide)
    · rw [e] at y; cases y
  · have y := b2_0.mp y
    rcases hg with e | e | ⟨e, _⟩ | ⟨_, e⟩
    · rw [e] at w; exact absurd w (by decide)
    · rw [e] at w; exact absurd w (by decide)
    · rw [e] at w; exact absurd w (by decide)
    · rw [e] at y; cases y
end S74
