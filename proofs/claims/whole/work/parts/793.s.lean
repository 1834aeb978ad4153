/-! the beginning: the relation holds -/
section S793
variable {l : Launch} {M N : o_M}
theorem TX_g {b : Nat → Nat} {z k t T : Nat} {S : Nat → Sta} (R : Run b z k S) (hz : z ≤ 300) (tg : ttk (xp b z 25 (S (k + 2))) ≠ 27) (x0 : mR M 20 t = some (51 + 128 * t)) (x1 : mR M (51 + 128 * t) 0 = some (52 + 128 * t)) (x2 : mR M (51 + 128 * t) 1 = some (53 + 128 * t)) (x3 : mR M (51 + 128 * t) 2 = some (54 + 128 * t)) (y1 : mN M (52 + 128 * t) = z) (y2 : ∀ i, i < z → mI M (52 + 128 * t) i = sgb (b i)) (y3 : mN M (53 + 128 * t) = tcs (xp b z 25 (S (k + 2)))) (y4 : ∀ c, c < tcs (xp b z 25 (S (k + 2))) → cod (mI M (53 + 128 * t) c) (nI (tco (xp b z 25 (S (k + 2))) c)) (nI (tcw (xp b z 25 (S (k + 2))) c))) (y5 : mN M (54 + 128 * t) = k + 2) (y6 : ∀ j, j < k + 2 → mI M (54 + 128 * t) j = nI (tcs (S (j + 1)))) (y7 : mI M (51 + 128 * t) 3 = nI k) (m2 : mI M 87 t = nI z) (m3 : ∀ i, i < z → mI M 88 (300 * t + i) = nI (b i)) (m4 : ∀ c, c < tcs (xp b z 25 (S (k + 2))) → mI M 89 (300 * t + c) = nI (tco (xp b z 25 (S (k + 2))) c) ∧ mI M 90 (300 * t + c) = nI (tcw (xp b z 25 (S (k + 2))) c)) (m5 : mI M 91 t = nI k) (m6 : ∀ j, j < k + 3 → mI M 92 (11 * t + j) = nI (tcs (S j))) (hlast : (mI M 93 t = -1 ∧ mI M (51 + 128 * t) 5 = 0) ∨ ∃ d r, d ≤ 400 ∧ r < T ∧ mI M 93 t = nI d ∧ mI M (51 + 128 * t) 4 = nI d ∧ mI M 94 t = nI r ∧ mI M (51 + 128 * t) 5 = nI (r + 1)) : TX M t T := by
  obtain ⟨g1, g2, g3, g4, g5, g6⟩ := run_good R hz tg
  have hk8 := R.1
  have tg2 : ttk (S (k + 2)) ≠ 27 := by omega
  have hle : ∀ j, j ≤ k + 2 → tcs (S j) ≤ tcs (S (k + 2)) := fun j hj => (run_back R tg2 (k + 2 - j) j (by omega)).2.1
  refine ⟨x0, x1, x2, x3, ⟨z, hz, y1, m2, fun i hi => ?_⟩, ⟨k, tcs (S (k + 2)), fun j => tcs (S j), hk8, g4, y5, y7, m5, by rw [y3, g2], run_0 R, fun j hj => ⟨m6 j (by omega), hle j hj⟩, fun j hj => ⟨y6 j hj, ?_⟩, fun c hc => ?_⟩, hlast⟩
  · rw [m3 i hi, y2 i hi, sgb_n _ (g5 i hi)]
  · obtain ⟨ht, a1, a2, a3, a4⟩ := g6 j hj
    refine ⟨ht, a1, a2, a3, fun c h1 h2 => ?_⟩
    have := hle (j + 1) (by omega)
    have h2' : c < tcs (S (j + 1)) := h2
    dsimp only
    rw [(m4 c (by rw [g2]; omega)).1, g3]
    exact a4 c h1 h2
  · have hc' : c < tcs (xp b z 25 (S (k + 2))) := by rw [g2]; exact hc
    rw [(m4 c hc').1, (m4 c hc').2]
    exact y4 c hc'
theorem Gst_w (g : Gst N 119 M) : wM M := fun p hp => by
  have hb := m60_b p hp
  obtain ⟨b1, b2, _⟩ := g.2.2.2.2.1 p hp (by omega)
  exact ⟨b1, b2⟩
theorem Gst_z (g : Gst N 119 M) {f len : Nat} (hm : (f, len) ∈ o_m60) (h1 : f ≠ 40) (h2 : f ≠ 41) (j : Nat) : mI M (61 + f) j = 0 := by
  have hb := m60_b _ hm
  exact (g.2.2.2.2.1 _ hm (by dsimp only at hb ⊢; omega)).2.2 h1 h2 j
/-- after the model's first reading -/
theorem rel_0 {S : Nat → Sta} {M1 M2 : o_M} (R : Run fbt 28 0 S) (tE : ttk (xp fbt 28 25 (S 2)) ≠ 27) (hC : CN N S) (g : Gst N 119 M) (hF1 : Fi (fun a _ => a = 88) M M1) (h88 : ∀ j, j < 28 → mI M1 88 j = nI (fbt j)) (f1 : Fi (PR 0) (sI M1 87 0 (nI 28)) M2) (f2 : MX M2 M2 0 (xp fbt 28 25 (S 2))) (f3 : mI M2 91 0 = nI 0 ∧ ∀ j, j < 3 → mI M2 92 (11 * 0 + j) = nI (tcs (S j))) : Rel (sI (sI M2 60 25 1) 60 34 1) 0 0 0 1 1 := by
  obtain ⟨c1, ⟨d1, d2, d3, d4, d5, d6, d7⟩, c3, c4, e0, e1, e2, e3, e4, e5, e6, e7, e8, e9, e10, e11, e12⟩ := hC
  have g3 := g.2.2.1
  have mR2 : mR (sI (sI M2 60 25 1) 60 34 1) = mR M := (f1.2.2.1.trans hF1.2.2.1 : mR M2 = mR M)
  have mN2 : mN (sI (sI M2 60 25 1) 60 34 1) = mN M := (f1.2.2.2.1.trans hF1.2.2.2.1 : mN M2 = mN M)
  have mL2 : mL (sI (sI M2 60 25 1) 60 34 1) = mL M := (f1.2.2.2.2.trans hF1.2.2.2.2 : mL M2 = mL M)
  -- what was not touched since the rows were made
  have old : ∀ a j, ¬ PR 0 a j → ¬ (a = 87 ∧ j = 0) → a ≠ 88 → ¬ (a = 60 ∧ (j = 25 ∨ j = 34)) → mI (sI (sI M2 60 25 1) 60 34 1) a j = mI M a j := fun a j h1 h2 h3 h4 => by
    rw [mI_sI, if_neg (by omega), mI_sI, if_neg (by omega), f1.1 a j h1, mI_sI, if_neg h2]
    exact hF1.1 a j h3
  have cls : ∀ a j, ¬ (60 ≤ a ∧ a ≤ 118) → mI (sI (sI M2 60 25 1) 60 34 1) a j = mI N a j := fun a j h => by
    rw [old a j (by unfold PR; omega) (by omega) (by omega) (by omega)]; exact (g3 a h).1 j
  have clR : ∀ a j, ¬ (60 ≤ a ∧ a ≤ 118) → mR (sI (sI M2 60 25 1) 60 34 1) a j = mR N a j := fun a j h => by rw [mR2]; exact (g3 a h).2.2.1 j
  have clN : ∀ a, ¬ (60 ≤ a ∧ a ≤ 118) → mN (sI (sI M2 60 25 1) 60 34 1) a = mN N a := fun a h => by rw [mN2]; exact (g3 a h).2.2.2
  have z60 : ∀ j, ¬ (42 ≤ j ∧ j ≤ 49) → j ≠ 25 → j ≠ 34 → mI (sI (sI M2 60 25 1) 60 34 1) 60 j = 0 := fun j h1 h2 h3 => by
    rw [old 60 j (by unfold PR; omega) (by omega) (by omega) (by omega)]; exact g.2.2.2.1 j
  have hw : wM (sI (sI M2 60 25 1) 60 34 1) := fun p hp => by rw [mR2, mN2]; exact Gst_w g p hp
  refine ⟨hw, wX_k (M := N) (fun a k ha => clR a k (by omega)) (fun x h1 h2 => clN x (by omega)) c1, ⟨⟨by omega, ?_, ?_⟩, ⟨by omega, ?_, ?_⟩, ⟨by omega, ?_, ?_⟩, ⟨by omega, by omega, ?_, ?_⟩, ⟨?_, ?_⟩, ?_⟩, fun x hx => ?_, fun i hi => by omega, ⟨fun i hi => by omega, fun i _ hi => ?_⟩, ⟨fun i hi => by omega, fun i _ hi => ⟨?_, ?_⟩⟩, fun t ht => ?_, fun y hy => ?_, ⟨0, by omega, ?_, ?_, fun i hi => by omega⟩, fun j hj => ?_⟩
  · rw [cls 16 11 (by omega)]; exact d1
  · exact z60 0 (by omega) (by omega) (by omega)
  · rw [cls 16 12 (by omega)]; exact d2
  · exact z60 7 (by omega) (by omega) (by omega)
  · rw [cls 16 13 (by omega)]; exact d3
  · exact z60 14 (by omega) (by omega) (by omega)
  · rw [cls 16 14 (by omega)]; exact d4
  · rw [mI_sI_2 (by omega), mI_sI_3]; rfl
  · rw [cls 16 16 (by omega)]; exact d6
  · rw [mI_sI_3]; rfl
  · rw [cls 16 17 (by omega), d7, z60 39 (by omega) (by omega) (by omega)]
  · rw [mL2] at hx
    rcases g.2.1 x hx with h | h
    · have := c4 x h
      unfold lvi; omega
    · unfold lvi; omega
  · rw [old 72 i (by unfold PR; omega) (by omega) (by omega) (by omega)]
    exact Gst_z g (f := 11) (len := 10) (by decide) (by omega) (by omega) i
  · rw [old 80 i (by unfold PR; omega) (by omega) (by omega) (by omega)]
    exact Gst_z g (f := 19) (len := 40) (by decide) (by omega) (by omega) i
  · rw [old 83 i (by unfold PR; omega) (by omega) (by omega) (by omega)]
    exact Gst_z g (f := 22) (len := 40) (by decide) (by omega) (by omega) i
  · have : t = 0 := by omega
    subst this
    have gc := (f2.2.2.2 tE).2.2.2.2.2.2.2
    refine TX_g R (by decide) tE ?_ ?_ ?_ ?_ ?_ (fun i hi => ?_) ?_ (fun c hc => ?_) ?_ (fun j hj => ?_) ?_ ?_ (fun i hi => ?_) (fun c hc => ?_) ?_ (fun j hj => ?_) (Or.inr ⟨0, 0, by omega, by omega, ?_, ?_, ?_, ?_⟩)
    · rw [clR 20 0 (by omega)]; exact e0
    · rw [clR _ 0 (by omega)]; exact e1
    · rw [clR _ 1 (by omega)]; exact e2
    · rw [clR _ 2 (by omega)]; exact e3
    · rw [clN _ (by omega)]; exact e7
    · rw [cls _ i (by omega)]; exact e8 i hi
    · rw [clN _ (by omega)]; exact e9
    · rw [cls _ c (by omega)]; exact e10 c hc
    · rw [clN _ (by omega)]; exact e11
    · rw [cls _ j (by omega)]; exact e12 j hj
    · rw [cls _ 3 (by omega)]; exact e4
    · simp (disch := omega) only [true_and, mI_sI_1, mI_sI_2, mI_sI_3, mI_nW_1, mI_nW_2, mI_sR, mI_sJ, mI_sA_1, mI_sA_2, mR_sI, mR_sJ, mR_sA, mR_sR_1, mR_sR_2, mR_sR_3, mR_nW_1, mR_nW_2, mN_sI, mN_sJ, mN_sR, mN_sA, mN_nW_1, mN_nW_2, mJ_sI, mJ_sR, mJ_sA, mJ_sJ_1, mJ_sJ_2, mJ_sJ_3, mJ_nW_1, mJ_nW_2]
      rw [f1.1 87 0 (by unfold PR; omega)]; exact mI_sI_3
    · simp (disch := omega) only [true_and, mI_sI_1, mI_sI_2, mI_sI_3, mI_nW_1, mI_nW_2, mI_sR, mI_sJ, mI_sA_1, mI_sA_2, mR_sI, mR_sJ, mR_sA, mR_sR_1, mR_sR_2, mR_sR_3, mR_nW_1, mR_nW_2, mN_sI, mN_sJ, mN_sR, mN_sA, mN_nW_1, mN_nW_2, mJ_sI, mJ_sR, mJ_sA, mJ_sJ_1, mJ_sJ_2, mJ_sJ_3, mJ_nW_1, mJ_nW_2]
      rw [f1.1 88 _ (by unfold PR; omega), mI_sI_1 (by omega), show 300 * 0 + i = i by omega]; exact h88 i hi
    · simp (disch := omega) only [true_and, mI_sI_1, mI_sI_2, mI_sI_3, mI_nW_1, mI_nW_2, mI_sR, mI_sJ, mI_sA_1, mI_sA_2, mR_sI, mR_sJ, mR_sA, mR_sR_1, mR_sR_2, mR_sR_3, mR_nW_1, mR_nW_2, mN_sI, mN_sJ, mN_sR, mN_sA, mN_nW_1, mN_nW_2, mJ_sI, mJ_sR, mJ_sA, mJ_sJ_1, mJ_sJ_2, mJ_sJ_3, mJ_nW_1, mJ_nW_2]; exact gc c hc
    · simp (disch := omega) only [true_and, mI_sI_1, mI_sI_2, mI_sI_3, mI_nW_1, mI_nW_2, mI_sR, mI_sJ, mI_sA_1, mI_sA_2, mR_sI, mR_sJ, mR_sA, mR_sR_1, mR_sR_2, mR_sR_3, mR_nW_1, mR_nW_2, mN_sI, mN_sJ, mN_sR, mN_sA, mN_nW_1, mN_nW_2, mJ_sI, mJ_sR, mJ_sA, mJ_sJ_1, mJ_sJ_2, mJ_sJ_3, mJ_nW_1, mJ_nW_2]; exact f3.1
    · simp (disch := omega) only [true_and, mI_sI_1, mI_sI_2, mI_sI_3, mI_nW_1, mI_nW_2, mI_sR, mI_sJ, mI_sA_1, mI_sA_2, mR_sI, mR_sJ, mR_sA, mR_sR_1, mR_sR_2, mR_sR_3, mR_nW_1, mR_nW_2, mN_sI, mN_sJ, mN_sR, mN_sA, mN_nW_1, mN_nW_2, mJ_sI, mJ_sR, mJ_sA, mJ_sJ_1, mJ_sJ_2, mJ_sJ_3, mJ_nW_1, mJ_nW_2]; exact f3.2 j hj
    · rw [old 93 0 (by unfold PR; omega) (by omega) (by omega) (by omega)]
      exact Gst_z g (f := 32) (len := 11) (by decide) (by omega) (by omega) 0
    · rw [cls _ 4 (by omega)]; exact e5
    · rw [old 94 0 (by unfold PR; omega) (by omega) (by omega) (by omega)]
      exact Gst_z g (f := 33) (len := 11) (by decide) (by omega) (by omega) 0
    · rw [cls _ 5 (by omega)]; exact e6
  · obtain ⟨b1, b2, b3, b4⟩ := c3 y hy
    have e96 : mI (sI (sI M2 60 25 1) 60 34 1) 96 y = 0 := by
      rw [old 96 y (by unfold PR; omega) (by omega) (by omega) (by omega)]
      exact Gst_z g (f := 35) (len := 6) (by decide) (by omega) (by omega) y
    exact ⟨by rw [clR 21 y (by omega)]; exact b1, by rw [clR _ 0 (by omega)]; exact b2, by rw [clN _ (by omega)]; exact b3, by rw [cls _ 5 (by omega), b4, e96], Or.inl e96⟩
  · rw [cls 16 15 (by omega)]; exact d5
  · exact z60 24 (by omega) (by omega) (by omega)
  · rw [old 102 j (by unfold PR; omega) (by omega) (by omega) (by omega)]; exact g.2.2.2.2.2.2 (by omega) j hj
theorem c12_init {S : Nat → Sta} (R : Run fbt 28 0 S) (tE : ttk (xp fbt 28 25 (S 2)) ≠ 27) (hC : CN N S) (q : o_M → Prop) (h : ∀ M, Rel M 0 0 0 1 1 → q M) : K_X12_init l [rV (some 60)] (nW N 60 0) q := by
  have hc4 := hC.2.2.2.1
  have g0 : Gst N 61 (nW N 60 0) := by
    refine ⟨fun x hx => ?_, fun x hx => ?_, fun a ha => ⟨fun j => by simp (disch := omega) only [true_and, mI_sI_1, mI_sI_2, mI_sI_3, mI_nW_1, mI_nW_2, mI_sR, mI_sJ, mI_sA_1, mI_sA_2, mR_sI, mR_sJ, mR_sA, mR_sR_1, mR_sR_2, mR_sR_3, mR_nW_1, mR_nW_2, mN_sI, mN_sJ, mN_sR, mN_sA, mN_nW_1, mN_nW_2, mJ_sI, mJ_sR, mJ_sA, mJ_sJ_1, mJ_sJ_2, mJ_sJ_3, mJ_nW_1, mJ_nW_2], fun j => by simp (disch := omega) only [true_and, mI_sI_1, mI_sI_2, mI_sI_3, mI_nW_1, mI_nW_2, mI_sR, mI_sJ, mI_sA_1, mI_sA_2, mR_sI, mR_sJ, mR_sA, mR_sR_1, mR_sR_2, mR_sR_3, mR_nW_1, mR_nW_2, mN_sI, mN_sJ, mN_sR, mN_sA, mN_nW_1, mN_nW_2, mJ_sI, mJ_sR, mJ_sA, mJ_sJ_1, mJ_sJ_2, mJ_sJ_3, mJ_nW_1, mJ_nW_2], fun j => by simp (disch := omega) only [true_and, mI_sI_1, mI_sI_2, mI_sI_3, mI_nW_1, mI_nW_2, mI_sR, mI_sJ, mI_sA_1, mI_sA_2, mR_sI, mR_sJ, mR_sA, mR_sR_1, mR_sR_2, mR_sR_3, mR_nW_1, mR_nW_2, mN_sI, mN_sJ, mN_sR, mN_sA, mN_nW_1, mN_nW_2, mJ_sI, mJ_sR, mJ_sA, mJ_sJ_1, mJ_sJ_2, mJ_sJ_3, mJ_nW_1, mJ_nW_2], by simp (disch := omega) only [true_and, mI_sI_1, mI_sI_2, mI_sI_3, mI_nW_1, mI_nW_2, mI_sR, mI_sJ, mI_sA_1, mI_sA_2, mR_sI, mR_sJ, mR_sA, mR_sR_1, mR_sR_2, mR_sR_3, mR_nW_1, mR_nW_2, mN_sI, mN_sJ, mN_sR, mN_sA, mN_nW_1, mN_nW_2, mJ_sI, mJ_sR, mJ_sA, mJ_sJ_1, mJ_sJ_2, mJ_sJ_3, mJ_nW_1, mJ_nW_2]⟩, fun j => by simp (disch := omega) only [true_and, mI_sI_1, mI_sI_2, mI_sI_3, mI_nW_1, mI_nW_2, mI_sR, mI_sJ, mI_sA_1, mI_sA_2, mR_sI, mR_sJ, mR_sA, mR_sR_1, mR_sR_2, mR_sR_3, mR_nW_1, mR_nW_2, mN_sI, mN_sJ, mN_sR, mN_sA, mN_nW_1, mN_nW_2, mJ_sI, mJ_sR, mJ_sA, mJ_sJ_1, mJ_sJ_2, mJ_sJ_3, mJ_nW_1, mJ_nW_2], fun p hp hpu => ?_, fun h => by omega, fun h => by omega⟩
    · have := hc4 x hx; omega
    · replace hx : x ∈ mL N ++ [60] := hx
      rcases List.mem_append.mp hx with hx | hx
      · exact Or.inl hx
      · have := List.mem_singleton.mp hx
        exact Or.inr (by omega)
    · have := m60_b p hp; omega
  refine st_0 g0 (fun M g => ?_)
  have key : ∀ m i M1, i + m = 28 → Fi (fun a _ => a = 88) M M1 → (∀ j, j < i → mI M1 88 j = nI (fbt j)) → H_X12_init_982 l q (nI i) M1 := by
    intro m
    induction m with
    | zero =>
      intro i M1 hi hF h88
      have hw : wM M1 := fun p hp => by rw [hF.2.2.1, hF.2.2.2.1]; exact Gst_w g p hp
      have : i = 28 := by omega
      subst this
      refine w_X12_init_982 l q _ M1 ?_
      rw [wn40 hw, wn26 hw]
      refine ⟨wr40 hw, fun _ => ⟨wr26 hw, wr40 hw, vin (j := 0) (by decide) (by decide), ?_⟩, fun c => absurd (by decide) c⟩
      rw [show (0 : Int32).toNatClampNeg = 0 from by decide, show Int32.ofNat 28 = nI 28 from rfl]
      refine c12_reads (t := 0) R (M := sI M1 87 0 (nI 28)) hw (fun j hj => ?_) (by decide) (by decide) mI_sI_3 (fun i hi => ⟨(fbt_e i hi).1, ?_⟩) _ (fun M2 f1 f2 f3 => w_X12_init_1027 l q _ M2 (h _ (rel_0 R tE hC g hF h88 f1 f2 (f3 tE))))
      · rw [mI_sI_1 (by omega), hF.1 102 j (by omega)]; exact g.2.2.2.2.2.2 (by omega) j hj
      · rw [mI_sI_1 (by omega), show 300 * 0 + i = i by omega]; exact h88 i hi
    | succ m ih =>
      intro i M1 hi hF h88
      have hw : wM M1 := fun p hp => by rw [hF.2.2.1, hF.2.2.2.1]; exact Gst_w g p hp
      have e101 : mI M1 101 i = nI (fbt i) := by rw [hF.1 101 i (by omega)]; exact g.2.2.2.2.2.1 (by omega) i (by omega)
      refine w_X12_init_982 l q _ M1 ?_
      rw [wn40 hw, wn27 hw, show Int32.ofNat 28 = nI 28 from rfl, nI_leI (by decide) (by omega), nI_clamp (by omega), e101, n1]
      refine ⟨wr40 hw, fun c => by omega, fun _ => ⟨wr27 hw, wr40 hw, vin (by omega) (by decide), vin (by omega) (by decide), ih (i + 1) _ (by omega) (Fi_s hF rfl) (fun j hj => ?_)⟩⟩
      by_cases e : j = i
      · subst e; exact mI_sI_3
      · rw [mI_sI_2 e]; exact h88 j (by omega)
  exact key 28 0 M (by decide) (Fi_r _ _) (fun j hj => by omega)
end S793
/-- the law, for every script -/
theorem law_all (l : Launch) {L : Nat} (hL : L ≤ 2560) (xs : Nat → Int32) : E_L_law l (some (L, xs)) (fun r _ => r = 1) 0 [(0, rV (some 8))] [] o_M0 0 0 := by
  obtain ⟨S, R, tE⟩ := fbt_run
  refine w_L_law l L xs o_M0 _ ⟨by decide, c11_init R tE (fun N hC => ⟨fun hx => ?_, c12_init R tE hC _ (fun M r => ?_)⟩)⟩
  · have := hC.2.2.2.1 60 hx; omega
  · exact law_loop (fun r _ => P_text r) hL xs 514 0 (by omega) 85 32305 M (by omega) (by omega) ⟨0, 0, 0, 1, 1, by omega, r⟩ (by omega)
