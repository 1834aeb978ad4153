/-! text: the pair -/
section S789
variable {l : Launch} {M N : o_M} {nw np ns nt T : Nat}
theorem TX_pt {t T : Nat} (hR : mR N 20 t = mR M 20 t) (hc : ∀ a, 51 + 128 * t ≤ a → a ≤ 54 + 128 * t → (∀ j, mI N a j = mI M a j) ∧ (∀ j, mR N a j = mR M a j) ∧ mN N a = mN M a) (h87 : mI N 87 t = mI M 87 t) (h88 : ∀ i, i < 300 → mI N 88 (300 * t + i) = mI M 88 (300 * t + i)) (h89 : ∀ i, i < 300 → mI N 89 (300 * t + i) = mI M 89 (300 * t + i)) (h90 : ∀ i, i < 300 → mI N 90 (300 * t + i) = mI M 90 (300 * t + i)) (h91 : mI N 91 t = mI M 91 t) (h92 : ∀ j, j < 11 → mI N 92 (11 * t + j) = mI M 92 (11 * t + j)) (h93 : mI N 93 t = mI M 93 t) (h94 : mI N 94 t = mI M 94 t) (r : TX M t T) : TX N t T := by
  obtain ⟨x0, x1, x2, x3, ⟨z, z1, z2, z3, z4⟩, ⟨b, cl, e, y1, y2, y3, y4, y5, y6, y7, y8, y9, y10⟩, x5⟩ := r
  have c51 := hc (51 + 128 * t) (by omega) (by omega)
  have c52 := hc (52 + 128 * t) (by omega) (by omega)
  have c53 := hc (53 + 128 * t) (by omega) (by omega)
  have c54 := hc (54 + 128 * t) (by omega) (by omega)
  refine ⟨by rw [hR]; exact x0, by rw [c51.2.1]; exact x1, by rw [c51.2.1]; exact x2, by rw [c51.2.1]; exact x3, ⟨z, z1, by rw [c52.2.2]; exact z2, by rw [h87]; exact z3, fun i hi => by rw [h88 i (by omega), c52.1]; exact z4 i hi⟩, ⟨b, cl, e, y1, y2, by rw [c54.2.2]; exact y3, by rw [c51.1]; exact y4, by rw [h91]; exact y5, by rw [c53.2.2]; exact y6, y7, fun j hj => ⟨by rw [h92 j (by omega)]; exact (y8 j hj).1, (y8 j hj).2⟩, fun j hj => ⟨by rw [c54.1]; exact (y9 j hj).1, ?_⟩, fun c hc' => by rw [c53.1, h89 c (by omega), h90 c (by omega)]; exact y10 c hc'⟩, by rw [h93, h94, c51.1, c51.1]; exact x5⟩
  obtain ⟨ht, a1, a2, a3, a4⟩ := (y9 j hj).2
  have hl := (y8 (j + 1) (by omega)).2
  exact ⟨ht, a1, a2, a3, fun c h1 h2 => by dsimp only; rw [h89 c (by omega)]; exact a4 c h1 h2⟩
theorem TY_pt {y nt' : Nat} (h : nt ≤ nt') (e21 : mR N 21 = mR M 21) (eI : mI N (41 + 128 * y) = mI M (41 + 128 * y)) (eR : mR N (41 + 128 * y) = mR M (41 + 128 * y)) (e42 : mN N (42 + 128 * y) = mN M (42 + 128 * y)) (e96 : mI N 96 = mI M 96) (e97 : mI N 97 = mI M 97) (e98 : mI N 98 = mI M 98) (e99 : mJ N 99 = mJ M 99) (eJ : mJ N (42 + 128 * y) = mJ M (42 + 128 * y)) (e52 : ∀ t, t < nt → mI N (52 + 128 * t) = mI M (52 + 128 * t) ∧ mN N (52 + 128 * t) = mN M (52 + 128 * t)) (r : TY M y ns nt) : TY N y ns nt' := by
  unfold TY at r ⊢
  rw [e21, eI, eR, e42, e96, e97, e98, e99, eJ]
  obtain ⟨r1, r2, r3, r4, r5⟩ := r
  refine ⟨r1, r2, r3, r4, ?_⟩
  rcases r5 with h0 | h0 | ⟨h1, t, z, h2, h3, h4, h5⟩ | h0 | h0
  · exact Or.inl h0
  · exact Or.inr (Or.inl h0)
  · exact Or.inr (Or.inr (Or.inl ⟨h1, t, z, by omega, h3, by rw [(e52 t h2).2]; exact h4, h5.1, h5.2.1, h5.2.2.1, fun i hi => by rw [(e52 t h2).1]; exact h5.2.2.2 i hi⟩))
  · exact Or.inr (Or.inr (Or.inr (Or.inl h0)))
  · exact Or.inr (Or.inr (Or.inr (Or.inr h0)))
def PE (t a j : Nat) : Prop := PZ a j ∨ (a = 16 ∧ (j = 14 ∨ j = 15)) ∨ PO t a j ∨ (51 + 128 * t ≤ a ∧ a ≤ 54 + 128 * t)
theorem text_rel {nt' : Nat} (r : Rel M nw np ns nt T) (hnt : nt < 10) (hI : ∀ a j, ¬ PE nt a j → mI N a j = mI M a j) (hJ : ∀ a j, ¬ (51 + 128 * nt ≤ a ∧ a ≤ 54 + 128 * nt) → mJ N a j = mJ M a j) (hR : ∀ a j, ¬ (51 + 128 * nt ≤ a ∧ a ≤ 54 + 128 * nt) → ¬ (a = 20 ∧ j = nt) → mR N a j = mR M a j) (hN : ∀ a, ¬ (51 + 128 * nt ≤ a ∧ a ≤ 54 + 128 * nt) → mN N a = mN M a) (hL : ∀ x ∈ mL N, lvi nw np ns nt' x) (c1 : mI N 16 14 = nI nt') (c2 : mI N 60 25 = nI nt') (c3 : mI N 16 15 = 0) (c4 : mI N 60 24 = 0) (hT : nt' = nt ∨ (nt' = nt + 1 ∧ TX N nt T)) : Rel N nw np ns nt' T := by
  have ⟨r1, r2, r3, r4, r5, r6, r7, r8, r9, r10, r11⟩ := r
  have hFr : ∀ F : Nat → Prop, (∀ a, F a → ¬ (51 + 128 * nt ≤ a ∧ a ≤ 54 + 128 * nt) ∧ a ≠ 16 ∧ a ≠ 20 ∧ a ≠ 23 ∧ a ≠ 24 ∧ a ≠ 25 ∧ a ≠ 60 ∧ ¬ (87 ≤ a ∧ a ≤ 93)) → Fr F M N := fun F hF id h => by
    have g := hF id h
    exact ⟨funext fun j => hI id j (by unfold PE PZ PO; omega), funext fun j => hJ id j g.1, funext fun j => hR id j g.1 (by omega), hN id g.1⟩
  have row : ∀ a, ¬ (51 + 128 * nt ≤ a ∧ a ≤ 54 + 128 * nt) → a ≠ 16 → a ≠ 23 → a ≠ 24 → a ≠ 25 → a ≠ 60 → ¬ (87 ≤ a ∧ a ≤ 93) → mI N a = mI M a := fun a h1 h2 h3 h4 h5 h6 h7 => funext fun j => hI a j (by unfold PE PZ PO; omega)
  have h1nt := r3.2.2.2.1.1
  refine ⟨wM_k (fun k => hR 60 k (by omega) (by omega)) (fun x h1 h2 => hN x (by omega)) r1, wX_k (fun a k h => hR a k (by omega) (by omega)) (fun x h1 h2 => hN x (by omega)) r2, ?_, fun x hx => hL x hx, RW_fr (hFr FW (fun a h => by unfold FW at h; omega)) r5, RP_fr (hFr FP (fun a h => by unfold FP at h; omega)) r6, RS_fr (hFr FS (fun a h => by unfold FS at h; omega)) r7, fun t ht => ?_, fun y hy => ?_, ⟨0, by omega, c3, c4, fun i hi => by omega⟩, fun j hj => by rw [hI 102 j (by unfold PE PZ PO; omega)]; exact r11 j hj⟩
  · unfold RC at r3 ⊢
    obtain ⟨a1, a2, a3, a4, a5, a6⟩ := r3
    rw [hI 16 11 (by unfold PE PZ PO; omega), hI 60 0 (by unfold PE PZ PO; omega), hI 16 12 (by unfold PE PZ PO; omega), hI 60 7 (by unfold PE PZ PO; omega), hI 16 13 (by unfold PE PZ PO; omega), hI 60 14 (by unfold PE PZ PO; omega), hI 16 16 (by unfold PE PZ PO; omega), hI 60 34 (by unfold PE PZ PO; omega), hI 16 17 (by unfold PE PZ PO; omega), hI 60 39 (by unfold PE PZ PO; omega)]
    exact ⟨a1, a2, a3, ⟨by omega, by omega, c1, c2⟩, a5, a6⟩
  · by_cases e : t < nt
    · refine TX_pt (hR 20 t (by omega) (by omega)) (fun a h1 h2 => ⟨fun j => hI a j (by unfold PE PZ PO; omega), fun j => hR a j (by omega) (by omega), hN a (by omega)⟩) (hI 87 t (by unfold PE PZ PO; omega)) (fun i hi => hI 88 _ (by unfold PE PZ PO; omega)) (fun i hi => hI 89 _ (by unfold PE PZ PO; omega)) (fun i hi => hI 90 _ (by unfold PE PZ PO; omega)) (hI 91 t (by unfold PE PZ PO; omega)) (fun j hj => hI 92 _ (by unfold PE PZ PO; omega)) (hI 93 t (by unfold PE PZ PO; omega)) (hI 94 t (by unfold PE PZ PO; omega)) (r8 t e)
    · rcases hT with h | h
      · omega
      · have : t = nt := by omega
        subst this; exact h.2
  · exact TY_pt (by omega) (funext fun j => hR 21 j (by omega) (by omega)) (row _ (by omega) (by omega) (by omega) (by omega) (by omega) (by omega) (by omega)) (funext fun j => hR _ j (by omega) (by omega)) (hN _ (by omega)) (row 96 (by omega) (by omega) (by omega) (by omega) (by omega) (by omega) (by omega)) (row 97 (by omega) (by omega) (by omega) (by omega) (by omega) (by omega) (by omega)) (row 98 (by omega) (by omega) (by omega) (by omega) (by omega) (by omega) (by omega)) (funext fun j => hJ 99 j (by omega)) (funext fun j => hJ _ j (by omega)) (fun t ht => ⟨row _ (by omega) (by omega) (by omega) (by omega) (by omega) (by omega) (by omega), hN _ (by omega)⟩) (r9 y hy)
/-- the row of a text that was read and kept -/
theorem TX_new {b : Nat → Nat} {z k t : Nat} {S : Nat → Sta} {N0 N1 : o_M} (R : Run b z k S) (hz : z ≤ 300) (tg : ttk (xp b z 25 (S (k + 2))) ≠ 27) (hC : CX N0 N0 (xp b z 25 (S (k + 2)))) (hb : ∀ i, i < z → mI N0 22 i = sgb (b i)) (he : ∀ j, j < k + 2 → mI N0 25 j = nI (tcs (S (j + 1)))) (hK : KT N0 N1 t z (tcs (xp b z 25 (S (k + 2)))) k) (hM : TM N t z k b S (xp b z 25 (S (k + 2)))) (eI : ∀ a, 51 + 128 * t ≤ a → a ≤ 54 + 128 * t → (∀ j, mI N a j = mI N1 a j) ∧ (∀ j, mR N a j = mR N1 a j) ∧ mN N a = mN N1 a) (eR : mR N 20 t = mR N1 20 t) : TX N t T := by
  obtain ⟨_, k1, k2, _, k3, k4, k5, k6, k7, k8, k9, k10, k11, k12, k13, k14⟩ := hK
  obtain ⟨m1, m2, m3, m4, m5, m6⟩ := hM
  obtain ⟨g1, g2, g3, g4, g5, g6⟩ := run_good R hz tg
  have kc := (hC.2.2.2 tg).2.2.2.2.2.2
  have hk8 := R.1
  have tg2 : ttk (S (k + 2)) ≠ 27 := by omega
  have c51 := eI (51 + 128 * t) (by omega) (by omega)
  have c52 := eI (52 + 128 * t) (by omega) (by omega)
  have c53 := eI (53 + 128 * t) (by omega) (by omega)
  have c54 := eI (54 + 128 * t) (by omega) (by omega)
  have hle : ∀ j, j ≤ k + 2 → tcs (S j) ≤ tcs (S (k + 2)) := fun j hj => (run_back R tg2 (k + 2 - j) j (by omega)).2.1
  refine ⟨by rw [eR]; exact k2, by rw [c51.2.1]; exact k3, by rw [c51.2.1]; exact k4, by rw [c51.2.1]; exact k5, ⟨z, hz, by rw [c52.2.2]; exact k9, m2, fun i hi => ?_⟩, ⟨k, tcs (S (k + 2)), fun j => tcs (S j), hk8, g4, by rw [c54.2.2]; exact k13, by rw [c51.1]; exact k6, m5, by rw [c53.2.2, k11, g2], run_0 R, fun j hj => ⟨m6 j (by omega), hle j hj⟩, fun j hj => ⟨by rw [c54.1, k14 j hj]; exact he j hj, ?_⟩, fun c hc => ?_⟩, Or.inl ⟨m1, by rw [c51.1]; exact k8⟩⟩
  · rw [m3 i hi, c52.1, k10 i hi, hb i hi, sgb_n _ (g5 i hi)]
  · obtain ⟨ht, a1, a2, a3, a4⟩ := g6 j hj
    refine ⟨ht, a1, a2, a3, fun c h1 h2 => ?_⟩
    have := hle (j + 1) (by omega)
    have h2' : c < tcs (S (j + 1)) := h2
    dsimp only
    rw [(m4 c (by rw [g2]; omega)).1, g3]
    exact a4 c h1 h2
  · have hc' : c < tcs (xp b z 25 (S (k + 2))) := by rw [g2]; exact hc
    rw [c53.1, k12 c hc', (m4 c hc').1, (m4 c hc').2]
    exact kc c hc'
theorem P_text (r : Rel M nw np ns nt T) : K_X11_text l [rV (some 16)] M (fun r1 M1 => K_X12_text l [rV (some 60)] M1 (fun r2 M2 => r1 = r2 ∧ Nx T M2)) := by
  have r0 := r
  have ⟨r1, r2, r3, r4, r5, r6, r7, r8, r9, r10, r11⟩ := r
  obtain ⟨h1nt, h10, t14, t25⟩ := r3.2.2.2.1
  refine w_X11_text l M _ ?_
  rw [show (mI M 16 14 < 10 ↔ nt < 10) by rw [t14]; exact nI_ltI (b := 10) (by omega) (by decide)]
  refine ⟨fun hnt => ?_, fun hnt => w_X12_text l M _ ⟨fun c => absurd (by rw [t25]; exact (nI_eq (b := 10) (by omega) (by decide)).mpr (by omega)) c, fun _ => ⟨rfl, Nx_s r0⟩⟩⟩
  obtain ⟨z, hz, h15, h24, hbs⟩ := r10
  have hb : ∀ i, i < z → (mI M 84 i).toNatClampNeg < 256 ∧ mI M 22 i = sgb (mI M 84 i).toNatClampNeg ∧ mI M 84 i = nI (mI M 84 i).toNatClampNeg := fun i hi => by
    obtain ⟨e1, x, e2, e3⟩ := hbs i hi
    rw [e1, e3, nI_clamp (by omega)]
    exact ⟨e2, rfl, rfl⟩
  obtain ⟨k, S, R⟩ := run_ex (fun i => (mI M 84 i).toNatClampNeg) z
  have hk8 := R.1
  rw [h15]
  refine ⟨xo6 r2, xr16_5 r2, c3_readTape R hz (xr23_0 r2) (xr23_1 r2) (xn24 r2) (xn25 r2) (xn22 r2) (fun i hi => ⟨(hb i hi).1, (hb i hi).2.1⟩) _ (fun N f1 f2 f3 => ?_)⟩
  have eR : ∀ a j, mR N a j = mR M a j := fun a j => by
    rw [f1.2.2.1, mR_sR]
    by_cases h : a = 23 ∧ j = 2
    · rw [if_pos h, h.1, h.2]; exact r2.2.2.symm
    · rw [if_neg h]
  have eI : ∀ a j, ¬ PZ a j → mI N a j = mI M a j := fun a j h => f1.1 a j h
  have eJ : ∀ a j, mJ N a j = mJ M a j := fun a j => by rw [f1.2.1]; rfl
  have eN : ∀ a, mN N a = mN M a := fun a => by rw [f1.2.2.2.1]; rfl
  have eL : mL N = mL M := f1.2.2.2.2
  have hwN : wM N := wM_k (fun k => eR 60 k) (fun x _ _ => eN x) r1
  have hXN : wX N := wX_k (fun a k _ => eR a k) (fun x _ _ => eN x) r2
  have hIe := (Iv_xp (k := 25) (run_iv R (k + 2) (by omega)).1 (by omega)).1
  have i1 := hIe.1
  have i2 := hIe.2.1
  have w84 : ∀ (N1 : o_M), (∀ j, mI N1 84 j = mI M 84 j) → ∀ i, i < z → (mI M 84 i).toNatClampNeg < 256 ∧ mI N1 84 i = nI (mI M 84 i).toNatClampNeg := fun N1 h i hi => ⟨(hb i hi).1, by rw [h]; exact (hb i hi).2.2⟩
  by_cases tE : ttk (xp (fun i => (mI M 84 i).toNatClampNeg) z 25 (S (k + 2))) = 27
  · have e11 := (f2.2.2.1 tE).2
    have hne : ¬ mI N 23 11 = -1 := by rw [e11]; exact nI_ne1 (by omega)
    refine ⟨fun _ => ⟨fun _ => ?_, fun c => absurd c hne⟩, fun c => absurd c hne⟩
    rw [e11]
    refine c12_textM R (M := sI N 16 15 0) hwN (fun j hj => by simp (disch := omega) only [true_and, mI_sI_1, mI_sI_2, mI_sI_3, mI_nW_1, mI_nW_2, mI_sR, mI_sJ, mI_sA_1, mI_sA_2, mR_sI, mR_sJ, mR_sA, mR_sR_1, mR_sR_2, mR_sR_3, mR_nW_1, mR_nW_2, mN_sI, mN_sJ, mN_sR, mN_sA, mN_nW_1, mN_nW_2, mJ_sI, mJ_sR, mJ_sA, mJ_sJ_1, mJ_sJ_2, mJ_sJ_3, mJ_nW_1, mJ_nW_2]; rw [eI 102 j (by unfold PZ; omega)]; exact r11 j hj) hnt hz (by simp (disch := omega) only [true_and, mI_sI_1, mI_sI_2, mI_sI_3, mI_nW_1, mI_nW_2, mI_sR, mI_sJ, mI_sA_1, mI_sA_2, mR_sI, mR_sJ, mR_sA, mR_sR_1, mR_sR_2, mR_sR_3, mR_nW_1, mR_nW_2, mN_sI, mN_sJ, mN_sR, mN_sA, mN_nW_1, mN_nW_2, mJ_sI, mJ_sR, mJ_sA, mJ_sJ_1, mJ_sJ_2, mJ_sJ_3, mJ_nW_1, mJ_nW_2]; rw [eI 60 25 (by unfold PZ; omega)]; exact t25) (by simp (disch := omega) only [true_and, mI_sI_1, mI_sI_2, mI_sI_3, mI_nW_1, mI_nW_2, mI_sR, mI_sJ, mI_sA_1, mI_sA_2, mR_sI, mR_sJ, mR_sA, mR_sR_1, mR_sR_2, mR_sR_3, mR_nW_1, mR_nW_2, mN_sI, mN_sJ, mN_sR, mN_sA, mN_nW_1, mN_nW_2, mJ_sI, mJ_sR, mJ_sA, mJ_sJ_1, mJ_sJ_2, mJ_sJ_3, mJ_nW_1, mJ_nW_2]; rw [eI 60 24 (by unfold PZ; omega)]; exact h24) (w84 _ (fun j => by simp (disch := omega) only [true_and, mI_sI_1, mI_sI_2, mI_sI_3, mI_nW_1, mI_nW_2, mI_sR, mI_sJ, mI_sA_1, mI_sA_2, mR_sI, mR_sJ, mR_sA, mR_sR_1, mR_sR_2, mR_sR_3, mR_nW_1, mR_nW_2, mN_sI, mN_sJ, mN_sR, mN_sA, mN_nW_1, mN_nW_2, mJ_sI, mJ_sR, mJ_sA, mJ_sJ_1, mJ_sJ_2, mJ_sJ_3, mJ_nW_1, mJ_nW_2]; exact eI 84 j (by unfold PZ; omega))) _ (fun _ N2 g1 g2 g3 => ⟨rfl, ?_⟩) (fun tg => absurd tE tg)
    have gI : ∀ a j, ¬ PO nt a j → mI N2 a j = mI (sI N 16 15 0) a j := g1.1
    refine Nx_s (text_rel (nt' := nt) r0 hnt (fun a j h => ?_) (fun a j _ => by rw [g1.2.1]; exact eJ a j) (fun a j _ _ => by rw [g1.2.2.1]; exact eR a j) (fun a _ => by rw [g1.2.2.2.1]; exact eN a) (fun x hx => r4 x (by rw [g1.2.2.2.2] at hx; rw [← eL]; exact hx)) ?_ g3 ?_ g2 (Or.inl rfl))
    · rw [gI a j (fun e => h (Or.inr (Or.inr (Or.inl e))))]
      rw [mI_sI, if_neg (fun e => h (Or.inr (Or.inl ⟨e.1, Or.inr e.2⟩)))]
      exact eI a j (fun e => h (Or.inl e))
    · rw [gI 16 14 (by unfold PO; omega)]; simp (disch := omega) only [true_and, mI_sI_1, mI_sI_2, mI_sI_3, mI_nW_1, mI_nW_2, mI_sR, mI_sJ, mI_sA_1, mI_sA_2, mR_sI, mR_sJ, mR_sA, mR_sR_1, mR_sR_2, mR_sR_3, mR_nW_1, mR_nW_2, mN_sI, mN_sJ, mN_sR, mN_sA, mN_nW_1, mN_nW_2, mJ_sI, mJ_sR, mJ_sA, mJ_sJ_1, mJ_sJ_2, mJ_sJ_3, mJ_nW_1, mJ_nW_2]; rw [eI 16 14 (by unfold PZ; omega)]; exact t14
    · rw [gI 16 15 (by unfold PO; omega)]; simp (disch := omega) only [true_and, mI_sI_1, mI_sI_2, mI_sI_3, mI_nW_1, mI_nW_2, mI_sR, mI_sJ, mI_sA_1, mI_sA_2, mR_sI, mR_sJ, mR_sA, mR_sR_1, mR_sR_2, mR_sR_3, mR_nW_1, mR_nW_2, mN_sI, mN_sJ, mN_sR, mN_sA, mN_nW_1, mN_nW_2, mJ_sI, mJ_sR, mJ_sA, mJ_sJ_1, mJ_sJ_2, mJ_sJ_3, mJ_nW_1, mJ_nW_2]
  · have e11 := (f2.2.2.2 tE).2.2.2.2.2.1
    obtain ⟨g5, g25⟩ := f3 tE
    obtain ⟨n4, hn4, e4, e4'⟩ := f2.2.1
    have hn4' := e4' tE
    subst hn4'
    refine ⟨fun c => absurd e11 c, fun _ => ?_⟩
    refine c11_keep hXN hnt hz hn4 hk8 (by rw [eI 16 14 (by unfold PZ; omega)]; exact t14) (by rw [eI 16 15 (by unfold PZ; omega)]; exact h15) e4 g5 (fun x h1 h2 hx => ?_) (fun j hj => ?_) _ (fun N1 hK => ⟨fun c => absurd e11 c, fun _ => ?_⟩)
    · rw [eL] at hx
      have := r4 x hx
      unfold lvi at this
      omega
    · rw [eI 22 j (by unfold PZ; omega), (hb j hj).2.1]; exact pk_fb _
    have hK0 := hK
    obtain ⟨q1, q2, q3, q4, _⟩ := hK
    have q14 : mI (sI N1 16 15 0) 16 14 - 1 = nI nt := by
      simp (disch := omega) only [true_and, mI_sI_1, mI_sI_2, mI_sI_3, mI_nW_1, mI_nW_2, mI_sR, mI_sJ, mI_sA_1, mI_sA_2, mR_sI, mR_sJ, mR_sA, mR_sR_1, mR_sR_2, mR_sR_3, mR_nW_1, mR_nW_2, mN_sI, mN_sJ, mN_sR, mN_sA, mN_nW_1, mN_nW_2, mJ_sI, mJ_sR, mJ_sA, mJ_sJ_1, mJ_sJ_2, mJ_sJ_3, mJ_nW_1, mJ_nW_2]; rw [q2]; exact nI_sb (c := 1) (by omega)
    rw [q14]
    have nI1 : ∀ a j, ¬ (51 + 128 * nt ≤ a ∧ a ≤ 54 + 128 * nt) → ¬ (a = 16 ∧ j = 14) → mI N1 a j = mI N a j := fun a j h1 h2 => (q1 a h1).1 j h2
    have hwN1 : wM N1 := wM_k (fun k => (q1 60 (by omega)).2.2.1 k (by omega)) (fun x h1 h2 => (q1 x (by omega)).2.2.2) hwN
    refine c12_textM R (M := sI N1 16 15 0) hwN1 (fun j hj => by simp (disch := omega) only [true_and, mI_sI_1, mI_sI_2, mI_sI_3, mI_nW_1, mI_nW_2, mI_sR, mI_sJ, mI_sA_1, mI_sA_2, mR_sI, mR_sJ, mR_sA, mR_sR_1, mR_sR_2, mR_sR_3, mR_nW_1, mR_nW_2, mN_sI, mN_sJ, mN_sR, mN_sA, mN_nW_1, mN_nW_2, mJ_sI, mJ_sR, mJ_sA, mJ_sJ_1, mJ_sJ_2, mJ_sJ_3, mJ_nW_1, mJ_nW_2]; rw [nI1 102 j (by omega) (by omega), eI 102 j (by unfold PZ; omega)]; exact r11 j hj) hnt hz (by simp (disch := omega) only [true_and, mI_sI_1, mI_sI_2, mI_sI_3, mI_nW_1, mI_nW_2, mI_sR, mI_sJ, mI_sA_1, mI_sA_2, mR_sI, mR_sJ, mR_sA, mR_sR_1, mR_sR_2, mR_sR_3, mR_nW_1, mR_nW_2, mN_sI, mN_sJ, mN_sR, mN_sA, mN_nW_1, mN_nW_2, mJ_sI, mJ_sR, mJ_sA, mJ_sJ_1, mJ_sJ_2, mJ_sJ_3, mJ_nW_1, mJ_nW_2]; rw [nI1 60 25 (by omega) (by omega), eI 60 25 (by unfold PZ; omega)]; exact t25) (by simp (disch := omega) only [true_and, mI_sI_1, mI_sI_2, mI_sI_3, mI_nW_1, mI_nW_2, mI_sR, mI_sJ, mI_sA_1, mI_sA_2, mR_sI, mR_sJ, mR_sA, mR_sR_1, mR_sR_2, mR_sR_3, mR_nW_1, mR_nW_2, mN_sI, mN_sJ, mN_sR, mN_sA, mN_nW_1, mN_nW_2, mJ_sI, mJ_sR, mJ_sA, mJ_sJ_1, mJ_sJ_2, mJ_sJ_3, mJ_nW_1, mJ_nW_2]; rw [nI1 60 24 (by omega) (by omega), eI 60 24 (by unfold PZ; omega)]; exact h24) (w84 _ (fun j => by simp (disch := omega) only [true_and, mI_sI_1, mI_sI_2, mI_sI_3, mI_nW_1, mI_nW_2, mI_sR, mI_sJ, mI_sA_1, mI_sA_2, mR_sI, mR_sJ, mR_sA, mR_sR_1, mR_sR_2, mR_sR_3, mR_nW_1, mR_nW_2, mN_sI, mN_sJ, mN_sR, mN_sA, mN_nW_1, mN_nW_2, mJ_sI, mJ_sR, mJ_sA, mJ_sJ_1, mJ_sJ_2, mJ_sJ_3, mJ_nW_1, mJ_nW_2]; rw [nI1 84 j (by omega) (by omega)]; exact eI 84 j (by unfold PZ; omega))) _ (fun tb => absurd tb tE) (fun _ N2 g1 g2 g3 gM => ⟨rfl, ?_⟩)
    have gI : ∀ a j, ¬ PO nt a j → mI N2 a j = mI (sI N1 16 15 0) a j := g1.1
    refine Nx_s (text_rel (nt' := nt + 1) r0 hnt (fun a j h => ?_) (fun a j h => ?_) (fun a j h1 h2 => ?_) (fun a h => ?_) (fun x hx => ?_) ?_ g3 ?_ g2 (Or.inr ⟨rfl, ?_⟩))
    · have hr : ¬ (51 + 128 * nt ≤ a ∧ a ≤ 54 + 128 * nt) := fun e => h (Or.inr (Or.inr (Or.inr e)))
      rw [gI a j (fun e => h (Or.inr (Or.inr (Or.inl e)))), mI_sI, if_neg (fun e => h (Or.inr (Or.inl ⟨e.1, Or.inr e.2⟩))), nI1 a j hr (fun e => h (Or.inr (Or.inl ⟨e.1, Or.inl e.2⟩)))]
      exact eI a j (fun e => h (Or.inl e))
    · rw [g1.2.1]; exact ((q1 a h).2.1 j).trans (eJ a j)
    · rw [g1.2.2.1]; exact ((q1 a h1).2.2.1 j h2).trans (eR a j)
    · rw [g1.2.2.2.1]; exact ((q1 a h).2.2.2).trans (eN a)
    · rw [g1.2.2.2.2] at hx
      replace hx : x ∈ mL N1 := hx
      rw [q4, eL] at hx
      simp only [List.mem_append, List.mem_singleton] at hx
      rcases hx with (((hx | hx) | hx) | hx) | hx
      · exact lvi_mono (Nat.le_refl _) (Nat.le_refl _) (Nat.le_refl _) (Nat.le_succ _) (r4 x hx)
      all_goals unfold lvi; omega
    · rw [gI 16 14 (by unfold PO; omega)]; simp (disch := omega) only [true_and, mI_sI_1, mI_sI_2, mI_sI_3, mI_nW_1, mI_nW_2, mI_sR, mI_sJ, mI_sA_1, mI_sA_2, mR_sI, mR_sJ, mR_sA, mR_sR_1, mR_sR_2, mR_sR_3, mR_nW_1, mR_nW_2, mN_sI, mN_sJ, mN_sR, mN_sA, mN_nW_1, mN_nW_2, mJ_sI, mJ_sR, mJ_sA, mJ_sJ_1, mJ_sJ_2, mJ_sJ_3, mJ_nW_1, mJ_nW_2]; exact q2
    · rw [gI 16 15 (by unfold PO; omega)]; simp (disch := omega) only [true_and, mI_sI_1, mI_sI_2, mI_sI_3, mI_nW_1, mI_nW_2, mI_sR, mI_sJ, mI_sA_1, mI_sA_2, mR_sI, mR_sJ, mR_sA, mR_sR_1, mR_sR_2, mR_sR_3, mR_nW_1, mR_nW_2, mN_sI, mN_sJ, mN_sR, mN_sA, mN_nW_1, mN_nW_2, mJ_sI, mJ_sR, mJ_sA, mJ_sJ_1, mJ_sJ_2, mJ_sJ_3, mJ_nW_1, mJ_nW_2]
    · refine TX_new (N0 := N) (N1 := N1) R hz tE f2 (fun i hi => by rw [eI 22 i (by unfold PZ; omega)]; exact (hb i hi).2.1) g25 hK0 gM (fun a h1 h2 => ⟨fun j => ?_, fun j => by rw [g1.2.2.1]; rfl, by rw [g1.2.2.2.1]; rfl⟩) (by rw [g1.2.2.1]; rfl)
      rw [gI a j (by unfold PO; omega), mI_sI_1 (by omega)]
end S789
