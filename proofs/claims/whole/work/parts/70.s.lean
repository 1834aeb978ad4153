/-! forge: the pair -/
section S70
variable {l : Launch} {M : o_M} {nw np ns nt T : Nat}
theorem P_forge (r : Rel M nw np ns nt T) (a b c : Int32) : K_X11_forge l [rV (some 16), iV a, iV b, iV c] M (fun r1 M1 => K_X12_forge l [rV (some 60), iV a, iV b, iV c] M1 (fun r2 M2 => r1 = r2 ∧ Nx T M2)) := by
  have hX := r.2.1
  have hst : ∀ x, Nx T (sI (sI M 16 17 x) 60 39 x) := fun x => Nx_s (st_rel r x)
  have wS : ∀ x, wM (sI M 16 17 x) := fun x => r.1
  have hns := r.2.2.1.2.2.1.1
  -- a refusal that needs no tray
  have ref1 : (∀ (q : Int32 → o_M → Prop), q (-1) (sI (sI M 16 17 1) 60 39 1) → K_X12_forge l [rV (some 60), iV a, iV b, iV c] (sI M 16 17 1) q) → K_X11_hostRefuses l [rV (some 16), iV 1] M (fun r1 M1 => K_X12_forge l [rV (some 60), iV a, iV b, iV c] M1 (fun r2 M2 => r1 = r2 ∧ Nx T M2)) := fun h => w_X11_hostRefuses l _ M _ (h _ ⟨rfl, hst 1⟩)
  have hrf : ∀ (N : o_M) (x : Int32) (q : Int32 → o_M → Prop), q (-1) (sI N 60 39 x) → K_X12_refuse l [rV (some 60), iV x] N (fun r2 M2 => q r2 M2) := fun N x q hq => w_X12_refuse l x N _ hq
  have hdn : ∀ (N : o_M) (x : Int32) (q : Int32 → o_M → Prop), q x (sI N 60 39 0) → K_X12_done l [rV (some 60), iV x] N (fun r2 M2 => q r2 M2) := fun N x q hq => w_X12_done l x N _ hq
  refine w_X11_forge l a b c M _ (c11_isWithin _ _ _ _ ⟨fun z => ref1 (fun q hq => ?_), fun z => c11_isWithin _ _ _ _ ⟨fun z2 => ?_, fun z2 => ref1 (fun q hq => ?_)⟩⟩)
  · exact w_X12_forge l _ _ _ _ _ (c12_in _ _ _ _ ⟨fun _ => hrf _ _ _ hq, fun w => absurd z w⟩)
  · obtain ⟨y, _, hy5, rfl⟩ := rng_nat 0 5 (by decide) (by decide) (b2_n0.mp z)
    have hy : y < 6 := by omega
    obtain ⟨k, hk201, hck⟩ := rng100 (b2_n0.mp z2)
    obtain ⟨m1, m2, m3⟩ := mod6 k hk201
    rw [← hck] at m1 m2 m3
    rw [xn21 hX, nI_clamp (by omega), yR r hy]
    refine ⟨xr16_4 hX, vin hy (by decide), _, rfl, ty41 y, ?_⟩
    -- the model, with a known case
    have mod : ∀ (N : o_M) (q : Int32 → o_M → Prop), rng b 0 8 = true → (((b < 0 ∨ 7 < b) → K_X12_refuse l [rV (some 60), iV 10] N (fun r16 M15 => q r16 M15)) ∧ (b = 0 → K_X12_asService l [rV (some 60), iV (nI y), iV (((c - c / 6 * 6) + 6) - ((c - c / 6 * 6) + 6) / 6 * 6), iV 11] N (fun r18 M17 => q r18 M17)) ∧ (b = 1 → K_X12_asRow l [rV (some 60), iV (nI y), iV 2, iV c] N (fun r20 M19 => q r20 M19)) ∧ (b = 2 → K_X12_asRow l [rV (some 60), iV (nI y), iV 3, iV c] N (fun r22 M21 => q r22 M21)) ∧ (b = 3 → K_X12_asRow l [rV (some 60), iV (nI y), iV 4, iV c] N (fun r24 M23 => q r24 M23)) ∧ (b = 4 → ((0 ≤ c → K_X12_done l [rV (some 60), iV c] N (fun r27 M26 => q r27 M26)) ∧ (¬ 0 ≤ c → K_X12_refuse l [rV (some 60), iV 13] N (fun r29 M28 => q r29 M28)))) ∧ (b = 5 → K_X12_copied l [rV (some 60), iV (nI y), iV c] N (fun r31 M30 => q r31 M30)) ∧ (b = 6 → K_X12_asService l [rV (some 60), iV (nI y), iV 1, iV 14] N (fun r33 M32 => q r33 M32)) ∧ (b = 7 → ((¬ c = 0 → (¬ c = 0 ∧ K_X12_done l [rV (some 60), iV (1000 / c)] N (fun r37 M36 => q r37 M36))) ∧ (c = 0 → K_X12_refuse l [rV (some 60), iV 15] N (fun r39 M38 => q r39 M38))))) → K_X12_forge l [rV (some 60), iV (nI y), iV b, iV c] N q := fun N q hb h =>
      w_X12_forge l _ _ _ N q (c12_in _ _ _ _ ⟨fun w => absurd w z, fun _ => c12_in _ _ _ _ ⟨fun w => by rw [hb] at w; exact absurd w (by decide), fun _ => c12_in _ _ _ _ ⟨fun _ => h, fun w => absurd w z2⟩⟩⟩)
    have hr8 : ∀ j, j ≤ 8 → rng (nI j) 0 8 = true := by decide
    have rows : ∀ x a, a ≠ 16 → mI (sI M 16 17 x) a = mI M a := fun x a ha => funext fun j => by simp (disch := omega) only [true_and, mI_sI_1, mI_sI_2, mI_sI_3, mI_nW_1, mI_nW_2, mI_sR, mI_sJ, mI_sA_1, mI_sA_2, mR_sI, mR_sJ, mR_sA, mR_sR_1, mR_sR_2, mR_sR_3, mR_nW_1, mR_nW_2, mN_sI, mN_sJ, mN_sR, mN_sA, mN_nW_1, mN_nW_2, mJ_sI, mJ_sR, mJ_sA, mJ_sJ_1, mJ_sJ_2, mJ_sJ_3, mJ_nW_1, mJ_nW_2]
    have hasS : ∀ x, f_asS (mI (sI M 16 17 x)) = f_asS (mI M) := fun x => f_asS_e (rows x 96 (by decide)) (rows x 97 (by decide)) (rows x 76 (by decide)) (rows x 77 (by decide))
    have hasR : ∀ x, f_asR (mI (sI M 16 17 x)) (mJ (sI M 16 17 x)) = f_asR (mI M) (mJ M) := fun x => by funext u v w; unfold f_asR; rw [rows x 96 (by decide), rows x 98 (by decide)]; rfl
    have hcp : ∀ x, f_cp (mI (sI M 16 17 x)) (mJ (sI M 16 17 x)) = f_cp (mI M) (mJ M) := fun x => by funext u v; unfold f_cp; rw [rows x 96 (by decide), rows x 98 (by decide)]; rfl
    have hfit : ∀ what, (what = 2 ∨ what = 3 ∨ what = 4) → ∀ x, mI (sI M 16 17 x) 96 y = what → ∃ n, n ≤ 300 ∧ mI (sI M 16 17 x) 98 y = nI n := fun what hw x e => by
      rw [rows x 96 (by decide)] at e
      rw [rows x 98 (by decide)]
      rcases (r.2.2.2.2.2.2.2.2.1 y hy).2.2.2.2 with c | ⟨c, _⟩ | ⟨c, t, zz, _, hz, _, _, e98, _⟩ | ⟨c, n, hn, e98, _⟩ | ⟨c, n, hn, e98, _⟩
      · rw [c] at e; rw [← e] at hw; exact absurd hw (by decide)
      · rw [c] at e; rw [← e] at hw; exact absurd hw (by decide)
      · exact ⟨zz, hz, e98⟩
      · exact ⟨n, by omega, e98⟩
      · exact ⟨n, by omega, e98⟩
    have hfit3 : ∀ x, mI (sI M 16 17 x) 96 y = 3 → ∃ n, n ≤ 10 ∧ mI (sI M 16 17 x) 98 y = nI n := fun x e => by
      rw [rows x 96 (by decide)] at e
      rw [rows x 98 (by decide)]
      rcases (r.2.2.2.2.2.2.2.2.1 y hy).2.2.2.2 with c | ⟨c, _⟩ | ⟨c, _⟩ | ⟨c, n, hn, e98, _⟩ | ⟨c, _⟩
      · rw [c] at e; exact absurd e (by decide)
      · rw [c] at e; exact absurd e (by decide)
      · rw [c] at e; exact absurd e (by decide)
      · exact ⟨n, by omega, e98⟩
      · rw [c] at e; exact absurd e (by decide)
    have h97 : ∀ x, mI (sI M 16 17 x) 96 y = 1 → ∃ s, s < 40 ∧ mI (sI M 16 17 x) 97 y = nI s := fun x e => by
      rw [rows x 96 (by decide)] at e
      rw [rows x 97 (by decide)]
      obtain ⟨s, hs, e1, _⟩ := sl97 r hy e
      exact ⟨s, by omega, e1⟩
    have hcn : ¬ c < 0 → ∃ k, k ≤ 100 ∧ c = nI k := fun w => by
      have hr := b2_n0.mp z2
      unfold rng at hr
      have e1 : (-100 : Int32).toInt = -100 := by decide
      have e2 : (100 : Int32).toInt = 100 := by decide
      have e0 : (0 : Int32).toInt = 0 := by decide
      rw [e1, e2, decide_eq_true_eq] at hr
      rw [ilt, e0] at w
      refine ⟨c.toInt.toNat, by omega, ?_⟩
      rw [ieq, nI_toInt (by omega)]; omega
    -- a part of the class that ends with a status and an answer
    have fin : ∀ (A : Int32 × Int32), K_X12_forge l [rV (some 60), iV (nI y), iV b, iV c] (sI M 16 17 A.1) (fun r2 M2 => A.2 = r2 ∧ Nx T M2) → ∀ r1 M1, (r1 = A.2 ∧ M1 = sI M 16 17 A.1) → K_X12_forge l [rV (some 60), iV (nI y), iV b, iV c] M1 (fun r2 M2 => r1 = r2 ∧ Nx T M2) := fun A h r1 M1 e => by
      obtain ⟨e1, e2⟩ := e
      subst e1 e2; exact h
    refine ⟨fun w => ?_, fun w => ?_, fun w => ?_, fun w => ?_, fun w => ?_, fun w => ?_, fun w => ?_, fun w => ?_, fun w => ?_, fun w => ?_⟩
    · refine w_X11_hostRefuses l _ M _ (w_X12_forge l _ _ _ _ _ (c12_in _ _ _ _ ⟨fun y' => absurd y' z, fun _ => c12_in _ _ _ _ ⟨fun _ => hrf _ _ _ ⟨rfl, hst 1⟩, fun y' => ?_⟩⟩))
      obtain ⟨j, _, hj, e⟩ := rng_nat 0 8 (by decide) (by decide) (b2_n0.mp y')
      exact absurd e (sw_ne (n := 8) w hj (by omega))
    all_goals subst w
    · -- 0
      have hT6 : ∃ o, o < 6 ∧ ((c - c / 6 * 6) + 6) - ((c - c / 6 * 6) + 6) / 6 * 6 = nI o := by
        rcases m3 with h | h | h | h | h | h
        · exact ⟨0, by omega, h⟩
        · exact ⟨1, by omega, h⟩
        · exact ⟨2, by omega, h⟩
        · exact ⟨3, by omega, h⟩
        · exact ⟨4, by omega, h⟩
        · exact ⟨5, by omega, h⟩
      obtain ⟨o, ho, eo⟩ := hT6
      rw [eo] at m1 m2
      have main : K_X11_forgeDay l [rV (some 16), rV (some (41 + 128 * y)), iV (nI o)] M (fun r20 M19 => K_X12_forge l [rV (some 60), iV (nI y), iV 0, iV c] M19 (fun r2 M2 => r20 = r2 ∧ Nx T M2)) := by
        refine Ctr.mono (Pf_day r hy ho) (fun v M' h => ?_)
        obtain ⟨x, ex, e1, e2⟩ := h
        refine ⟨x, ex, fin (f_asS (mI M) y (nI o) 11) (mod _ _ (hr8 0 (by omega)) ⟨fun w => absurd w (by decide), fun _ => ?_, fun w => absurd w (by decide), fun w => absurd w (by decide), fun w => absurd w (by decide), fun w => absurd w (by decide), fun w => absurd w (by decide), fun w => absurd w (by decide), fun w => absurd w (by decide)⟩) x M' ⟨e1, e2⟩⟩
        rw [eo]
        refine c12_asService (wS _) hy _ _ (h97 _) _ ?_
        rw [hasS]
        exact ⟨rfl, hst _⟩
      refine w_J9_floorMod_7cf53 l _ _ M _ ⟨by decide, fun h => ?_, fun h => ⟨fun h2 => ?_, fun h2 => ?_⟩⟩
      · rw [m1 h]; exact main
      · rw [(m2 h).1 h2]; exact main
      · rw [(m2 h).2 h2]; exact main
    · refine Ctr.mono (Pf_place r hy (Or.inl rfl) c) (fun v M' h => ?_)
      obtain ⟨x, ex, e1, e2⟩ := h
      refine ⟨x, ex, fin (f_asR (mI M) (mJ M) y 2 c) (mod _ _ (hr8 1 (by omega)) ⟨fun w => absurd w (by decide), fun w => absurd w (by decide), fun _ => ?_, fun w => absurd w (by decide), fun w => absurd w (by decide), fun w => absurd w (by decide), fun w => absurd w (by decide), fun w => absurd w (by decide), fun w => absurd w (by decide)⟩) x M' ⟨e1, e2⟩⟩
      refine c12_asRow (wS _) hy _ _ (hfit 2 (Or.inl rfl) _) _ ?_
      rw [hasR]
      exact ⟨rfl, hst _⟩
    · refine Ctr.mono (Pf_place r hy (Or.inr (Or.inl rfl)) c) (fun v M' h => ?_)
      obtain ⟨x, ex, e1, e2⟩ := h
      refine ⟨x, ex, fin (f_asR (mI M) (mJ M) y 3 c) (mod _ _ (hr8 2 (by omega)) ⟨fun w => absurd w (by decide), fun w => absurd w (by decide), fun w => absurd w (by decide), fun _ => ?_, fun w => absurd w (by decide), fun w => absurd w (by decide), fun w => absurd w (by decide), fun w => absurd w (by decide), fun w => absurd w (by decide)⟩) x M' ⟨e1, e2⟩⟩
      refine c12_asRow (wS _) hy _ _ (hfit 3 (Or.inr (Or.inl rfl)) _) _ ?_
      rw [hasR]
      exact ⟨rfl, hst _⟩
    · refine Ctr.mono (Pf_place r hy (Or.inr (Or.inr rfl)) c) (fun v M' h => ?_)
      obtain ⟨x, ex, e1, e2⟩ := h
      refine ⟨x, ex, fin (f_asR (mI M) (mJ M) y 4 c) (mod _ _ (hr8 3 (by omega)) ⟨fun w => absurd w (by decide), fun w => absurd w (by decide), fun w => absurd w (by decide), fun w => absurd w (by decide), fun _ => ?_, fun w => absurd w (by decide), fun w => absurd w (by decide), fun w => absurd w (by decide), fun w => absurd w (by decide)⟩) x M' ⟨e1, e2⟩⟩
      refine c12_asRow (wS _) hy _ _ (hfit 4 (Or.inr (Or.inr rfl)) _) _ ?_
      rw [hasR]
      exact ⟨rfl, hst _⟩
    · refine ⟨fun h => w_X11_hostAnswers l _ M _ (mod _ _ (hr8 4 (by omega)) ⟨fun w => absurd w (by decide), fun w => absurd w (by decide), fun w => absurd w (by decide), fun w => absurd w (by decide), fun w => absurd w (by decide), fun _ => ⟨fun _ => hdn _ _ _ ⟨rfl, hst 0⟩, fun w => absurd h w⟩, fun w => absurd w (by decide), fun w => absurd w (by decide), fun w => absurd w (by decide)⟩), fun h => w_X11_hostRefuses l _ M _ (mod _ _ (hr8 4 (by omega)) ⟨fun w => absurd w (by decide), fun w => absurd w (by decide), fun w => absurd w (by decide), fun w => absurd w (by decide), fun w => absurd w (by decide), fun _ => ⟨fun w => absurd w h, fun _ => hrf _ _ _ ⟨rfl, hst 13⟩⟩, fun w => absurd w (by decide), fun w => absurd w (by decide), fun w => absurd w (by decide)⟩)⟩
    · refine Ctr.mono (Pf_copy r hy hcn) (fun v M' h => ?_)
      obtain ⟨x, ex, e1, e2⟩ := h
      refine ⟨x, ex, fin (f_cp (mI M) (mJ M) y c) (mod _ _ (hr8 5 (by omega)) ⟨fun w => absurd w (by decide), fun w => absurd w (by decide), fun w => absurd w (by decide), fun w => absurd w (by decide), fun w => absurd w (by decide), fun w => absurd w (by decide), fun _ => ?_, fun w => absurd w (by decide), fun w => absurd w (by decide)⟩) x M' ⟨e1, e2⟩⟩
      refine c12_copied (wS _) hy hcn (hfit3 _) _ ?_
      rw [hcp]
      exact ⟨rfl, hst _⟩
    · refine Ctr.mono (Pf_laid r hy) (fun v M' h => ?_)
      obtain ⟨x, ex, e1, e2⟩ := h
      refine ⟨x, ex, fin (f_asS (mI M) y 1 14) (mod _ _ (hr8 6 (by omega)) ⟨fun w => absurd w (by decide), fun w => absurd w (by decide), fun w => absurd w (by decide), fun w => absurd w (by decide), fun w => absurd w (by decide), fun w => absurd w (by decide), fun w => absurd w (by decide), fun _ => ?_, fun w => absurd w (by decide)⟩) x M' ⟨e1, e2⟩⟩
      refine c12_asService (wS _) hy _ _ (h97 _) _ ?_
      rw [hasS]
      exact ⟨rfl, hst _⟩
    · refine ⟨fun h => ⟨h, w_X11_hostAnswers l _ M _ (mod _ _ (hr8 7 (by omega)) ⟨fun w => absurd w (by decide), fun w => absurd w (by decide), fun w => absurd w (by decide), fun w => absurd w (by decide), fun w => absurd w (by decide), fun w => absurd w (by decide), fun w => absurd w (by decide), fun w => absurd w (by decide), fun _ => ⟨fun _ => ⟨h, hdn _ _ _ ⟨rfl, hst 0⟩⟩, fun w => absurd w h⟩⟩)⟩, fun h => w_X11_hostRefuses l _ M _ (mod _ _ (hr8 7 (by omega)) ⟨fun w => absurd w (by decide), fun w => absurd w (by decide), fun w => absurd w (by decide), fun w => absurd w (by decide), fun w => absurd w (by decide), fun w => absurd w (by decide), fun w => absurd w (by decide), fun w => absurd w (by decide), fun _ => ⟨fun w => absurd h w, fun _ => hrf _ _ _ ⟨rfl, hst 15⟩⟩⟩)⟩
    · exact w_X11_hostRefuses l _ M _ (mod _ _ (hr8 8 (by omega)) ⟨fun _ => hrf _ _ _ ⟨rfl, hst 10⟩, fun w => absurd w (by decide), fun w => absurd w (by decide), fun w => absurd w (by decide), fun w => absurd w (by decide), fun w => absurd w (by decide), fun w => absurd w (by decide), fun w => absurd w (by decide), fun w => absurd w (by decide)⟩)
  · refine w_X12_forge l _ _ _ _ _ (c12_in _ _ _ _ ⟨fun w => hrf _ _ _ hq, fun w => c12_in _ _ _ _ ⟨fun w => hrf _ _ _ hq, fun w => c12_in _ _ _ _ ⟨fun w => absurd z2 w, fun w => hrf _ _ _ hq⟩⟩⟩)
end S70
