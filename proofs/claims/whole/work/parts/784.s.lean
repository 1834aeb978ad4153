/-! the model's reader follows the pure reading -/
section S784
variable {l : Launch} {M N M0 : o_M} {b : Nat → Nat} {z t : Nat} {s s1 s' : Sta}
def PY (t a j : Nat) : Prop := (a = 60 ∧ 43 ≤ j ∧ j ≤ 49) ∨ ((a = 89 ∨ a = 90) ∧ 300 * t ≤ j)
/-- the model's cells and a state of the pure reading -/
def MX (M0 M : o_M) (t : Nat) (s : Sta) : Prop := Fi (PY t) M0 M ∧ mI M 60 49 = nI (tcs s) ∧ (ttk s = 27 → mI M 60 47 = nI (tpl s)) ∧ (ttk s ≠ 27 → mI M 60 43 = nI (tnx s) ∧ mI M 60 44 = nI (tpl s) ∧ mI M 60 45 = mtk (ttk s) ∧ (ttk s < 10 → mI M 60 46 = nI (ttk s)) ∧ (ttk s = 24 → mI M 60 46 = nI (tnu s)) ∧ mI M 60 48 = nI (top s) ∧ mI M 60 47 = -1 ∧ ∀ c, c < tcs s → mI M 89 (300 * t + c) = nI (tco s c) ∧ mI M 90 (300 * t + c) = nI (tcw s c))
theorem BM_Y (h : Fi (PY t) M N) (g : BM M t b z) : BM N t b z := BM_f (by unfold PY; omega) (fun j => by unfold PY; omega) (fun j => by unfold PY; omega) (fun j => by unfold PY; omega) h g
theorem MX_B (hB : BM M0 t b z) (h : MX M0 M t s) : BM M t b z := BM_Y h.1 hB
theorem mtk_e : ∀ j, j ≤ 26 → ∀ k, k ≤ 26 → 10 ≤ k → (mtk j = mtk k ↔ j = k) := by decide +kernel
theorem mtk_3 : ∀ j, j ≤ 26 → (mtk j = 3 ↔ j < 10) := by decide +kernel
theorem MX_tk (hI : Iv b z s) (h : MX M0 M t s) (tg : ttk s ≠ 27) {k : Nat} {v : Int32} (hv : v = mtk k) (hk : 10 ≤ k) (hk2 : k ≤ 26) : mI M 60 45 = v ↔ ttk s = k := by
  have := hI.2.2.1
  rw [(h.2.2.2 tg).2.2.1, hv]
  exact mtk_e _ (by omega) k hk2 hk
theorem MX_t3 (hI : Iv b z s) (h : MX M0 M t s) (tg : ttk s ≠ 27) : mI M 60 45 = 3 ↔ ttk s < 10 := by
  have := hI.2.2.1
  rw [(h.2.2.2 tg).2.2.1]
  exact mtk_3 _ (by omega)
theorem c12_wr (hB : BM M0 t b z) (hI : Iv b z s) (h : MX M0 M t s) (q : Int32 → o_M → Prop) (h0 : ttk s ≠ 27 → q 0 M) (h1 : ttk s = 27 → q 1 M) : K_X12_isWrong l [rV (some 60)] M q := by
  have hz : z ≤ 300 := hB.2.2.2.2.1
  have hi1 := hI.1
  have hi2 := hI.2.1
  refine w_X12_isWrong l M q ⟨fun c => h0 (fun e => ?_), fun c => h1 ?_⟩
  · rw [h.2.2.1 e] at c; exact absurd c (nI_ne1 (by omega))
  · by_cases e : ttk s = 27
    · exact e
    · exact absurd (h.2.2.2 e).2.2.2.2.2.2.1 c
theorem c12_adv (hB : BM M0 t b z) (hI : Iv b z s) (h : MX M0 M t s) (tg : ttk s ≠ 27) (q : o_M → Prop) (hq : ∀ N, MX M0 N t (adv b z s) → q N) : K_X12_next l [rV (some 60)] M q := by
  have hl := lex_ok (b := b) hI.1
  obtain ⟨h1, h2, h3, h4⟩ := h
  obtain ⟨k43, k44, k45, k46, k46', k48, k47, kc⟩ := h4 tg
  refine c12_next (BM_Y h1 hB) k43 hI.1 q (fun N f1 f43 f44 f45 f46 f46' => hq N ?_)
  have wQY : ∀ a j, PQ a j → PY t a j := fun a j h => by unfold PQ at h; unfold PY; omega
  refine ⟨Fi_t h1 (Fi_w wQY f1), by rw [f1.1 60 49 (by unfold PQ; omega)]; exact h2, fun w => ?_, fun _ => ⟨f43, f44, f45, f46, f46', ?_, ?_, fun c hc => ?_⟩⟩
  · rw [ttk_adv] at w; omega
  · rw [f1.1 60 48 (by unfold PQ; omega)]; exact k48
  · rw [f1.1 60 47 (by unfold PQ; omega)]; exact k47
  · rw [f1.1 89 _ (by unfold PQ; omega), f1.1 90 _ (by unfold PQ; omega)]; exact kc c hc
theorem c12_cannot (hB : BM M0 t b z) (hI : Iv b z s) (h : MX M0 M t s) (q : o_M → Prop) (hq : ∀ N, MX M0 N t (yfl s) → q N) : K_X12_cannot l [rV (some 60)] M q := by
  have hz : z ≤ 300 := hB.2.2.2.2.1
  have hi1 := hI.1
  have hi2 := hI.2.1
  obtain ⟨h1, h2, h3, h4⟩ := h
  refine w_X12_cannot l M q ⟨fun c => hq _ ?_, fun c => hq _ ?_⟩
  · have e : ttk s = 27 := by
      by_cases e : ttk s = 27
      · exact e
      · exact absurd (h4 e).2.2.2.2.2.2.1 c
    exact ⟨Fi_s h1 (by unfold PY; omega), by simp (disch := omega) only [true_and, mI_sI_1, mI_sI_2, mI_sI_3, mI_nW_1, mI_nW_2, mI_sR, mI_sJ, mI_sA_1, mI_sA_2, mR_sI, mR_sJ, mR_sA, mR_sR_1, mR_sR_2, mR_sR_3, mR_nW_1, mR_nW_2, mN_sI, mN_sJ, mN_sR, mN_sA, mN_nW_1, mN_nW_2, mJ_sI, mJ_sR, mJ_sA, mJ_sJ_1, mJ_sJ_2, mJ_sJ_3, mJ_nW_1, mJ_nW_2]; exact h2, fun _ => by rw [mI_sI_3]; exact h3 e, fun w => absurd rfl w⟩
  · have e : ttk s ≠ 27 := fun e => by
      rw [h3 e] at c; exact absurd c (nI_ne1 (by omega))
    exact ⟨Fi_s h1 (by unfold PY; omega), by simp (disch := omega) only [true_and, mI_sI_1, mI_sI_2, mI_sI_3, mI_nW_1, mI_nW_2, mI_sR, mI_sJ, mI_sA_1, mI_sA_2, mR_sI, mR_sJ, mR_sA, mR_sR_1, mR_sR_2, mR_sR_3, mR_nW_1, mR_nW_2, mN_sI, mN_sJ, mN_sR, mN_sA, mN_nW_1, mN_nW_2, mJ_sI, mJ_sR, mJ_sA, mJ_sJ_1, mJ_sJ_2, mJ_sJ_3, mJ_nW_1, mJ_nW_2]; exact h2, fun _ => by rw [mI_sI_3]; exact (h4 e).2.1, fun w => absurd rfl w⟩
theorem c12_need_ (hB : BM M0 t b z) (hI : Iv b z s) (h : MX M0 M t s) {k : Nat} {v : Int32} (hv : v = mtk k) (hk : 10 ≤ k) (hk2 : k ≤ 25) (q : o_M → Prop) (hq : ∀ N, MX M0 N t (xp b z k s) → q N) : K_X12_need_ l [rV (some 60), iV v] M q := by
  refine w_X12_need_ l _ M q (c12_wr hB hI h _ (fun tg => ⟨fun _ => ?_, fun c => absurd rfl c⟩) (fun tb => ⟨fun c => absurd c (by decide), fun _ => hq M ?_⟩))
  · have e := MX_tk hI h tg hv hk (by omega)
    refine ⟨fun c => c12_adv hB hI h tg _ (fun N hN => hq N ?_), fun c => c12_cannot hB hI h _ (fun N hN => hq N ?_)⟩
    · unfold xp; rw [if_pos (e.mp c)]; exact hN
    · unfold xp; rw [if_neg (fun w => c (e.mpr w))]; exact hN
  · rw [xp_bad tb (by omega)]; exact h
theorem c12_emit (hB : BM M0 t b z) (h : MX M0 M t s) (htc : tcs s ≤ 301) {x y : Int32} {o w : Nat} (hx : x = nI o) (hy : y = nI w) (q : o_M → Prop) (hq : ∀ N, MX M0 N t (yem o w s) → q N) : K_X12_emit l [rV (some 60), iV x, iV y] M q := by
  obtain ⟨g1, g2, g3, g4, g5, g6, g7⟩ := MX_B hB h
  obtain ⟨h1, h2, h3, h4⟩ := h
  refine w_X12_emit l _ _ M q ?_
  have e1 : mI (sI M 89 (((300 * (mI M 60 42)) + (mI M 60 49)).toNatClampNeg) x) 60 42 = nI t := by simp (disch := omega) only [true_and, mI_sI_1, mI_sI_2, mI_sI_3, mI_nW_1, mI_nW_2, mI_sR, mI_sJ, mI_sA_1, mI_sA_2, mR_sI, mR_sJ, mR_sA, mR_sR_1, mR_sR_2, mR_sR_3, mR_nW_1, mR_nW_2, mN_sI, mN_sJ, mN_sR, mN_sA, mN_nW_1, mN_nW_2, mJ_sI, mJ_sR, mJ_sA, mJ_sJ_1, mJ_sJ_2, mJ_sJ_3, mJ_nW_1, mJ_nW_2]; exact g4
  have e2 : mI (sI M 89 (((300 * (mI M 60 42)) + (mI M 60 49)).toNatClampNeg) x) 60 49 = nI (tcs s) := by simp (disch := omega) only [true_and, mI_sI_1, mI_sI_2, mI_sI_3, mI_nW_1, mI_nW_2, mI_sR, mI_sJ, mI_sA_1, mI_sA_2, mR_sI, mR_sJ, mR_sA, mR_sR_1, mR_sR_2, mR_sR_3, mR_nW_1, mR_nW_2, mN_sI, mN_sJ, mN_sR, mN_sA, mN_nW_1, mN_nW_2, mJ_sI, mJ_sR, mJ_sA, mJ_sJ_1, mJ_sJ_2, mJ_sJ_3, mJ_nW_1, mJ_nW_2]; exact h2
  rw [e1, e2, g4, h2, ixm (C := 300) 300 t (tcs s) rfl, nI_clamp (by omega), wn28 g1]
  refine ⟨wr28 g1, vin (by omega) (by decide), wr29 g1, ?_, fun M5 hM => ?_⟩
  · show vp_in _ (mN M 90)
    rw [wn29 g1]; exact vin (by omega) (by decide)
  · subst hM
    refine hq _ ⟨Fi_s (Fi_s (Fi_s h1 (by unfold PY; omega)) (by unfold PY; omega)) (by unfold PY; omega), ?_, fun e => by simp (disch := omega) only [true_and, mI_sI_1, mI_sI_2, mI_sI_3, mI_nW_1, mI_nW_2, mI_sR, mI_sJ, mI_sA_1, mI_sA_2, mR_sI, mR_sJ, mR_sA, mR_sR_1, mR_sR_2, mR_sR_3, mR_nW_1, mR_nW_2, mN_sI, mN_sJ, mN_sR, mN_sA, mN_nW_1, mN_nW_2, mJ_sI, mJ_sR, mJ_sA, mJ_sJ_1, mJ_sJ_2, mJ_sJ_3, mJ_nW_1, mJ_nW_2]; exact h3 e, fun e => ?_⟩
    · simp (disch := omega) only [true_and, mI_sI_1, mI_sI_2, mI_sI_3, mI_nW_1, mI_nW_2, mI_sR, mI_sJ, mI_sA_1, mI_sA_2, mR_sI, mR_sJ, mR_sA, mR_sR_1, mR_sR_2, mR_sR_3, mR_nW_1, mR_nW_2, mN_sI, mN_sJ, mN_sR, mN_sA, mN_nW_1, mN_nW_2, mJ_sI, mJ_sR, mJ_sA, mJ_sJ_1, mJ_sJ_2, mJ_sJ_3, mJ_nW_1, mJ_nW_2]; rw [h2, n1, tcs_yem]
    · obtain ⟨k43, k44, k45, k46, k46', k48, k47, kc⟩ := h4 e
      refine ⟨by simp (disch := omega) only [true_and, mI_sI_1, mI_sI_2, mI_sI_3, mI_nW_1, mI_nW_2, mI_sR, mI_sJ, mI_sA_1, mI_sA_2, mR_sI, mR_sJ, mR_sA, mR_sR_1, mR_sR_2, mR_sR_3, mR_nW_1, mR_nW_2, mN_sI, mN_sJ, mN_sR, mN_sA, mN_nW_1, mN_nW_2, mJ_sI, mJ_sR, mJ_sA, mJ_sJ_1, mJ_sJ_2, mJ_sJ_3, mJ_nW_1, mJ_nW_2]; exact k43, by simp (disch := omega) only [true_and, mI_sI_1, mI_sI_2, mI_sI_3, mI_nW_1, mI_nW_2, mI_sR, mI_sJ, mI_sA_1, mI_sA_2, mR_sI, mR_sJ, mR_sA, mR_sR_1, mR_sR_2, mR_sR_3, mR_nW_1, mR_nW_2, mN_sI, mN_sJ, mN_sR, mN_sA, mN_nW_1, mN_nW_2, mJ_sI, mJ_sR, mJ_sA, mJ_sJ_1, mJ_sJ_2, mJ_sJ_3, mJ_nW_1, mJ_nW_2]; exact k44, by simp (disch := omega) only [true_and, mI_sI_1, mI_sI_2, mI_sI_3, mI_nW_1, mI_nW_2, mI_sR, mI_sJ, mI_sA_1, mI_sA_2, mR_sI, mR_sJ, mR_sA, mR_sR_1, mR_sR_2, mR_sR_3, mR_nW_1, mR_nW_2, mN_sI, mN_sJ, mN_sR, mN_sA, mN_nW_1, mN_nW_2, mJ_sI, mJ_sR, mJ_sA, mJ_sJ_1, mJ_sJ_2, mJ_sJ_3, mJ_nW_1, mJ_nW_2]; exact k45, fun w => by simp (disch := omega) only [true_and, mI_sI_1, mI_sI_2, mI_sI_3, mI_nW_1, mI_nW_2, mI_sR, mI_sJ, mI_sA_1, mI_sA_2, mR_sI, mR_sJ, mR_sA, mR_sR_1, mR_sR_2, mR_sR_3, mR_nW_1, mR_nW_2, mN_sI, mN_sJ, mN_sR, mN_sA, mN_nW_1, mN_nW_2, mJ_sI, mJ_sR, mJ_sA, mJ_sJ_1, mJ_sJ_2, mJ_sJ_3, mJ_nW_1, mJ_nW_2]; exact k46 w, fun w => by simp (disch := omega) only [true_and, mI_sI_1, mI_sI_2, mI_sI_3, mI_nW_1, mI_nW_2, mI_sR, mI_sJ, mI_sA_1, mI_sA_2, mR_sI, mR_sJ, mR_sA, mR_sR_1, mR_sR_2, mR_sR_3, mR_nW_1, mR_nW_2, mN_sI, mN_sJ, mN_sR, mN_sA, mN_nW_1, mN_nW_2, mJ_sI, mJ_sR, mJ_sA, mJ_sJ_1, mJ_sJ_2, mJ_sJ_3, mJ_nW_1, mJ_nW_2]; exact k46' w, by simp (disch := omega) only [true_and, mI_sI_1, mI_sI_2, mI_sI_3, mI_nW_1, mI_nW_2, mI_sR, mI_sJ, mI_sA_1, mI_sA_2, mR_sI, mR_sJ, mR_sA, mR_sR_1, mR_sR_2, mR_sR_3, mR_nW_1, mR_nW_2, mN_sI, mN_sJ, mN_sR, mN_sA, mN_nW_1, mN_nW_2, mJ_sI, mJ_sR, mJ_sA, mJ_sJ_1, mJ_sJ_2, mJ_sJ_3, mJ_nW_1, mJ_nW_2]; exact k48, by simp (disch := omega) only [true_and, mI_sI_1, mI_sI_2, mI_sI_3, mI_nW_1, mI_nW_2, mI_sR, mI_sJ, mI_sA_1, mI_sA_2, mR_sI, mR_sJ, mR_sA, mR_sR_1, mR_sR_2, mR_sR_3, mR_nW_1, mR_nW_2, mN_sI, mN_sJ, mN_sR, mN_sA, mN_nW_1, mN_nW_2, mJ_sI, mJ_sR, mJ_sA, mJ_sJ_1, mJ_sJ_2, mJ_sJ_3, mJ_nW_1, mJ_nW_2]; exact k47, fun c hc => ?_⟩
      rw [tcs_yem] at hc
      rw [tco_yem, tcw_yem]
      by_cases ec : c = tcs s
      · subst ec
        rw [yup_i, yup_i]
        simp (disch := omega) only [true_and, mI_sI_1, mI_sI_2, mI_sI_3, mI_nW_1, mI_nW_2, mI_sR, mI_sJ, mI_sA_1, mI_sA_2, mR_sI, mR_sJ, mR_sA, mR_sR_1, mR_sR_2, mR_sR_3, mR_nW_1, mR_nW_2, mN_sI, mN_sJ, mN_sR, mN_sA, mN_nW_1, mN_nW_2, mJ_sI, mJ_sR, mJ_sA, mJ_sJ_1, mJ_sJ_2, mJ_sJ_3, mJ_nW_1, mJ_nW_2]
        exact ⟨hx, hy⟩
      · rw [yup_o (by omega), yup_o (by omega)]
        simp (disch := omega) only [true_and, mI_sI_1, mI_sI_2, mI_sI_3, mI_nW_1, mI_nW_2, mI_sR, mI_sJ, mI_sA_1, mI_sA_2, mR_sI, mR_sJ, mR_sA, mR_sR_1, mR_sR_2, mR_sR_3, mR_nW_1, mR_nW_2, mN_sI, mN_sJ, mN_sR, mN_sA, mN_nW_1, mN_nW_2, mJ_sI, mJ_sR, mJ_sA, mJ_sJ_1, mJ_sJ_2, mJ_sJ_3, mJ_nW_1, mJ_nW_2]
        exact kc c (by omega)
theorem MX_cl (h : MX M0 M t s) (ht : ttk s ≠ 27 → 1 ≤ top s) : MX M0 (sI M 60 48 (mI M 60 48 - 1)) t (ycl s) := by
  obtain ⟨h1, h2, h3, h4⟩ := h
  refine ⟨Fi_s h1 (by unfold PY; omega), by simp (disch := omega) only [true_and, mI_sI_1, mI_sI_2, mI_sI_3, mI_nW_1, mI_nW_2, mI_sR, mI_sJ, mI_sA_1, mI_sA_2, mR_sI, mR_sJ, mR_sA, mR_sR_1, mR_sR_2, mR_sR_3, mR_nW_1, mR_nW_2, mN_sI, mN_sJ, mN_sR, mN_sA, mN_nW_1, mN_nW_2, mJ_sI, mJ_sR, mJ_sA, mJ_sJ_1, mJ_sJ_2, mJ_sJ_3, mJ_nW_1, mJ_nW_2]; exact h2, fun e => by simp (disch := omega) only [true_and, mI_sI_1, mI_sI_2, mI_sI_3, mI_nW_1, mI_nW_2, mI_sR, mI_sJ, mI_sA_1, mI_sA_2, mR_sI, mR_sJ, mR_sA, mR_sR_1, mR_sR_2, mR_sR_3, mR_nW_1, mR_nW_2, mN_sI, mN_sJ, mN_sR, mN_sA, mN_nW_1, mN_nW_2, mJ_sI, mJ_sR, mJ_sA, mJ_sJ_1, mJ_sJ_2, mJ_sJ_3, mJ_nW_1, mJ_nW_2]; exact h3 e, fun e => ?_⟩
  obtain ⟨k43, k44, k45, k46, k46', k48, k47, kc⟩ := h4 e
  exact ⟨by simp (disch := omega) only [true_and, mI_sI_1, mI_sI_2, mI_sI_3, mI_nW_1, mI_nW_2, mI_sR, mI_sJ, mI_sA_1, mI_sA_2, mR_sI, mR_sJ, mR_sA, mR_sR_1, mR_sR_2, mR_sR_3, mR_nW_1, mR_nW_2, mN_sI, mN_sJ, mN_sR, mN_sA, mN_nW_1, mN_nW_2, mJ_sI, mJ_sR, mJ_sA, mJ_sJ_1, mJ_sJ_2, mJ_sJ_3, mJ_nW_1, mJ_nW_2]; exact k43, by simp (disch := omega) only [true_and, mI_sI_1, mI_sI_2, mI_sI_3, mI_nW_1, mI_nW_2, mI_sR, mI_sJ, mI_sA_1, mI_sA_2, mR_sI, mR_sJ, mR_sA, mR_sR_1, mR_sR_2, mR_sR_3, mR_nW_1, mR_nW_2, mN_sI, mN_sJ, mN_sR, mN_sA, mN_nW_1, mN_nW_2, mJ_sI, mJ_sR, mJ_sA, mJ_sJ_1, mJ_sJ_2, mJ_sJ_3, mJ_nW_1, mJ_nW_2]; exact k44, by simp (disch := omega) only [true_and, mI_sI_1, mI_sI_2, mI_sI_3, mI_nW_1, mI_nW_2, mI_sR, mI_sJ, mI_sA_1, mI_sA_2, mR_sI, mR_sJ, mR_sA, mR_sR_1, mR_sR_2, mR_sR_3, mR_nW_1, mR_nW_2, mN_sI, mN_sJ, mN_sR, mN_sA, mN_nW_1, mN_nW_2, mJ_sI, mJ_sR, mJ_sA, mJ_sJ_1, mJ_sJ_2, mJ_sJ_3, mJ_nW_1, mJ_nW_2]; exact k45, fun w => by simp (disch := omega) only [true_and, mI_sI_1, mI_sI_2, mI_sI_3, mI_nW_1, mI_nW_2, mI_sR, mI_sJ, mI_sA_1, mI_sA_2, mR_sI, mR_sJ, mR_sA, mR_sR_1, mR_sR_2, mR_sR_3, mR_nW_1, mR_nW_2, mN_sI, mN_sJ, mN_sR, mN_sA, mN_nW_1, mN_nW_2, mJ_sI, mJ_sR, mJ_sA, mJ_sJ_1, mJ_sJ_2, mJ_sJ_3, mJ_nW_1, mJ_nW_2]; exact k46 w, fun w => by simp (disch := omega) only [true_and, mI_sI_1, mI_sI_2, mI_sI_3, mI_nW_1, mI_nW_2, mI_sR, mI_sJ, mI_sA_1, mI_sA_2, mR_sI, mR_sJ, mR_sA, mR_sR_1, mR_sR_2, mR_sR_3, mR_nW_1, mR_nW_2, mN_sI, mN_sJ, mN_sR, mN_sA, mN_nW_1, mN_nW_2, mJ_sI, mJ_sR, mJ_sA, mJ_sJ_1, mJ_sJ_2, mJ_sJ_3, mJ_nW_1, mJ_nW_2]; exact k46' w, by simp (disch := omega) only [true_and, mI_sI_1, mI_sI_2, mI_sI_3, mI_nW_1, mI_nW_2, mI_sR, mI_sJ, mI_sA_1, mI_sA_2, mR_sI, mR_sJ, mR_sA, mR_sR_1, mR_sR_2, mR_sR_3, mR_nW_1, mR_nW_2, mN_sI, mN_sJ, mN_sR, mN_sA, mN_nW_1, mN_nW_2, mJ_sI, mJ_sR, mJ_sA, mJ_sJ_1, mJ_sJ_2, mJ_sJ_3, mJ_nW_1, mJ_nW_2]; rw [k48, top_ycl]; exact nI_sb (ht e), by simp (disch := omega) only [true_and, mI_sI_1, mI_sI_2, mI_sI_3, mI_nW_1, mI_nW_2, mI_sR, mI_sJ, mI_sA_1, mI_sA_2, mR_sI, mR_sJ, mR_sA, mR_sR_1, mR_sR_2, mR_sR_3, mR_nW_1, mR_nW_2, mN_sI, mN_sJ, mN_sR, mN_sA, mN_nW_1, mN_nW_2, mJ_sI, mJ_sR, mJ_sA, mJ_sJ_1, mJ_sJ_2, mJ_sJ_3, mJ_nW_1, mJ_nW_2]; exact k47, fun c hc => by simp (disch := omega) only [true_and, mI_sI_1, mI_sI_2, mI_sI_3, mI_nW_1, mI_nW_2, mI_sR, mI_sJ, mI_sA_1, mI_sA_2, mR_sI, mR_sJ, mR_sA, mR_sR_1, mR_sR_2, mR_sR_3, mR_nW_1, mR_nW_2, mN_sI, mN_sJ, mN_sR, mN_sA, mN_nW_1, mN_nW_2, mJ_sI, mJ_sR, mJ_sA, mJ_sJ_1, mJ_sJ_2, mJ_sJ_3, mJ_nW_1, mJ_nW_2]; exact kc c hc⟩
theorem c12_opens (hB : BM M0 t b z) (hI : Iv b z s) (h : MX M0 M t s) (tg : ttk s ≠ 27) (q : o_M → Prop) (hq : ∀ N, MX M0 N t (opn b z s) → q N) : K_X12_opens l [rV (some 60)] M q := by
  have hop := hI.2.2.2.2.2.2.2 tg
  have k48 := (h.2.2.2 tg).2.2.2.2.2.1
  have e6 : mI M 60 48 = 6 ↔ top s = 6 := by rw [k48]; exact nI_eq (b := 6) (by omega) (by decide)
  refine w_X12_opens l M q ⟨fun c => ?_, fun c => ?_⟩
  · have h6 : ¬ 6 ≤ top s := fun e => c (e6.mpr (by omega))
    have eo : opn b z s = adv b z (yoo s) := if_neg h6
    rw [eo] at hq
    have hN : MX M0 (sI M 60 48 (mI M 60 48 + 1)) t (yoo s) := by
      obtain ⟨h1, h2, h3, h4⟩ := h
      obtain ⟨k43, k44, k45, k46, k46', k48, k47, kc⟩ := h4 tg
      exact ⟨Fi_s h1 (by unfold PY; omega), by simp (disch := omega) only [true_and, mI_sI_1, mI_sI_2, mI_sI_3, mI_nW_1, mI_nW_2, mI_sR, mI_sJ, mI_sA_1, mI_sA_2, mR_sI, mR_sJ, mR_sA, mR_sR_1, mR_sR_2, mR_sR_3, mR_nW_1, mR_nW_2, mN_sI, mN_sJ, mN_sR, mN_sA, mN_nW_1, mN_nW_2, mJ_sI, mJ_sR, mJ_sA, mJ_sJ_1, mJ_sJ_2, mJ_sJ_3, mJ_nW_1, mJ_nW_2]; exact h2, fun e => absurd e tg, fun e => ⟨by simp (disch := omega) only [true_and, mI_sI_1, mI_sI_2, mI_sI_3, mI_nW_1, mI_nW_2, mI_sR, mI_sJ, mI_sA_1, mI_sA_2, mR_sI, mR_sJ, mR_sA, mR_sR_1, mR_sR_2, mR_sR_3, mR_nW_1, mR_nW_2, mN_sI, mN_sJ, mN_sR, mN_sA, mN_nW_1, mN_nW_2, mJ_sI, mJ_sR, mJ_sA, mJ_sJ_1, mJ_sJ_2, mJ_sJ_3, mJ_nW_1, mJ_nW_2]; exact k43, by simp (disch := omega) only [true_and, mI_sI_1, mI_sI_2, mI_sI_3, mI_nW_1, mI_nW_2, mI_sR, mI_sJ, mI_sA_1, mI_sA_2, mR_sI, mR_sJ, mR_sA, mR_sR_1, mR_sR_2, mR_sR_3, mR_nW_1, mR_nW_2, mN_sI, mN_sJ, mN_sR, mN_sA, mN_nW_1, mN_nW_2, mJ_sI, mJ_sR, mJ_sA, mJ_sJ_1, mJ_sJ_2, mJ_sJ_3, mJ_nW_1, mJ_nW_2]; exact k44, by simp (disch := omega) only [true_and, mI_sI_1, mI_sI_2, mI_sI_3, mI_nW_1, mI_nW_2, mI_sR, mI_sJ, mI_sA_1, mI_sA_2, mR_sI, mR_sJ, mR_sA, mR_sR_1, mR_sR_2, mR_sR_3, mR_nW_1, mR_nW_2, mN_sI, mN_sJ, mN_sR, mN_sA, mN_nW_1, mN_nW_2, mJ_sI, mJ_sR, mJ_sA, mJ_sJ_1, mJ_sJ_2, mJ_sJ_3, mJ_nW_1, mJ_nW_2]; exact k45, fun w => by simp (disch := omega) only [true_and, mI_sI_1, mI_sI_2, mI_sI_3, mI_nW_1, mI_nW_2, mI_sR, mI_sJ, mI_sA_1, mI_sA_2, mR_sI, mR_sJ, mR_sA, mR_sR_1, mR_sR_2, mR_sR_3, mR_nW_1, mR_nW_2, mN_sI, mN_sJ, mN_sR, mN_sA, mN_nW_1, mN_nW_2, mJ_sI, mJ_sR, mJ_sA, mJ_sJ_1, mJ_sJ_2, mJ_sJ_3, mJ_nW_1, mJ_nW_2]; exact k46 w, fun w => by simp (disch := omega) only [true_and, mI_sI_1, mI_sI_2, mI_sI_3, mI_nW_1, mI_nW_2, mI_sR, mI_sJ, mI_sA_1, mI_sA_2, mR_sI, mR_sJ, mR_sA, mR_sR_1, mR_sR_2, mR_sR_3, mR_nW_1, mR_nW_2, mN_sI, mN_sJ, mN_sR, mN_sA, mN_nW_1, mN_nW_2, mJ_sI, mJ_sR, mJ_sA, mJ_sJ_1, mJ_sJ_2, mJ_sJ_3, mJ_nW_1, mJ_nW_2]; exact k46' w, by simp (disch := omega) only [true_and, mI_sI_1, mI_sI_2, mI_sI_3, mI_nW_1, mI_nW_2, mI_sR, mI_sJ, mI_sA_1, mI_sA_2, mR_sI, mR_sJ, mR_sA, mR_sR_1, mR_sR_2, mR_sR_3, mR_nW_1, mR_nW_2, mN_sI, mN_sJ, mN_sR, mN_sA, mN_nW_1, mN_nW_2, mJ_sI, mJ_sR, mJ_sA, mJ_sJ_1, mJ_sJ_2, mJ_sJ_3, mJ_nW_1, mJ_nW_2]; rw [k48, n1, top_yoo], by simp (disch := omega) only [true_and, mI_sI_1, mI_sI_2, mI_sI_3, mI_nW_1, mI_nW_2, mI_sR, mI_sJ, mI_sA_1, mI_sA_2, mR_sI, mR_sJ, mR_sA, mR_sR_1, mR_sR_2, mR_sR_3, mR_nW_1, mR_nW_2, mN_sI, mN_sJ, mN_sR, mN_sA, mN_nW_1, mN_nW_2, mJ_sI, mJ_sR, mJ_sA, mJ_sJ_1, mJ_sJ_2, mJ_sJ_3, mJ_nW_1, mJ_nW_2]; exact k47, fun c hc => by simp (disch := omega) only [true_and, mI_sI_1, mI_sI_2, mI_sI_3, mI_nW_1, mI_nW_2, mI_sR, mI_sJ, mI_sA_1, mI_sA_2, mR_sI, mR_sJ, mR_sA, mR_sR_1, mR_sR_2, mR_sR_3, mR_nW_1, mR_nW_2, mN_sI, mN_sJ, mN_sR, mN_sA, mN_nW_1, mN_nW_2, mJ_sI, mJ_sR, mJ_sA, mJ_sJ_1, mJ_sJ_2, mJ_sJ_3, mJ_nW_1, mJ_nW_2]; exact kc c hc⟩⟩
    exact c12_wr (s := yoo s) hB (Iv_yoo hI (by omega)) hN _ (fun _ => ⟨fun c => absurd rfl c, fun _ => c12_adv hB (Iv_yoo hI (by omega)) hN tg _ hq⟩) (fun e => absurd e tg)
  · have h6 : 6 ≤ top s := by have := e6.mp c; omega
    have eo : opn b z s = yfl s := if_pos h6
    rw [eo] at hq
    refine c12_cannot hB hI h _ (fun N hN => ?_)
    have hN' : MX M0 (sI N 60 48 (mI N 60 48 + 1)) t (yfl s) := ⟨Fi_s hN.1 (by unfold PY; omega), by simp (disch := omega) only [true_and, mI_sI_1, mI_sI_2, mI_sI_3, mI_nW_1, mI_nW_2, mI_sR, mI_sJ, mI_sA_1, mI_sA_2, mR_sI, mR_sJ, mR_sA, mR_sR_1, mR_sR_2, mR_sR_3, mR_nW_1, mR_nW_2, mN_sI, mN_sJ, mN_sR, mN_sA, mN_nW_1, mN_nW_2, mJ_sI, mJ_sR, mJ_sA, mJ_sJ_1, mJ_sJ_2, mJ_sJ_3, mJ_nW_1, mJ_nW_2]; exact hN.2.1, fun e => by simp (disch := omega) only [true_and, mI_sI_1, mI_sI_2, mI_sI_3, mI_nW_1, mI_nW_2, mI_sR, mI_sJ, mI_sA_1, mI_sA_2, mR_sI, mR_sJ, mR_sA, mR_sR_1, mR_sR_2, mR_sR_3, mR_nW_1, mR_nW_2, mN_sI, mN_sJ, mN_sR, mN_sA, mN_nW_1, mN_nW_2, mJ_sI, mJ_sR, mJ_sA, mJ_sJ_1, mJ_sJ_2, mJ_sJ_3, mJ_nW_1, mJ_nW_2]; exact hN.2.2.1 e, fun w => absurd rfl w⟩
    exact c12_wr hB (Iv_yfl hI) hN' _ (fun e => absurd rfl e) (fun _ => ⟨fun _ => hq _ hN', fun c => absurd c (by decide)⟩)
def KM (l : Launch) (w d : Nat) (M : o_M) (q : o_M → Prop) : Prop :=
  match w with
  | 0 => K_X12_either l d [rV (some 60)] M q
  | 1 => H_X12_either_4 l d q M
  | 2 => K_X12_both l d [rV (some 60)] M q
  | 3 => H_X12_both_4 l d q M
  | 4 => K_X12_not l d [rV (some 60)] M q
  | 5 => K_X12_sum l d [rV (some 60)] M q
  | 6 => H_X12_sum_4 l d q M
  | 7 => K_X12_term l d [rV (some 60)] M q
  | 8 => H_X12_term_4 l d q M
  | _ => K_X12_one l d [rV (some 60)] M q
def MI (l : Launch) (M0 : o_M) (t : Nat) (b : Nat → Nat) (z f : Nat) : Prop := ∀ w, w ≤ 9 → ∀ (s s' : Sta) (d : Nat) (M : o_M) (q : o_M → Prop), MX M0 M t s → Iv b z s → tcs s ≤ ph s → 25 ≤ d + wlv w → (ttk s ≠ 27 → 75 ≤ d + 7 * top s + wlv w) → pr b z f w s = some s' → (∀ N, MX M0 N t s' → q N) → KM l w d M q
theorem dpm {d lv x : Nat} {lp : Bool} (g : Ok b z lp x s s1) (h : ttk s ≠ 27 → 75 ≤ d + 7 * top s + lv) : ttk s1 ≠ 27 → 75 ≤ d + 7 * top s1 + lv := fun t => by rw [(g.2.2.2.2.2.2 t).1]; exact h (fun e => t (g.2.2.2.2.2.1 e))
theorem ph_301 (hz : z ≤ 300) (hI : Iv b z s) (hp : tcs s ≤ ph s) : tcs s ≤ 301 := by
  have h1 := hI.1
  have h2 := hI.2.1
  unfold ph at hp
  split at hp <;> omega
theorem KM_seq {f u v : Nat} (ih : MI l M0 t b z f) (hu : u ≤ 9) (hv : v ≤ 9) {d e lu lv' : Nat} (eu : wlv u = lu) (ev : wlv v = lv') (hde : e + lu = d + lv') (q : o_M → Prop) (hC : MX M0 M t s) (hI : Iv b z s) (hp : tcs s ≤ ph s) (h25 : 25 ≤ d + lv') (h75 : ttk s ≠ 27 → 75 ≤ d + 7 * top s + lv') (hpr : (pr b z f u s).bind (pr b z f v) = some s') (hq : ∀ N, MX M0 N t s' → q N) : KM l u e M (fun N => KM l v d N q) := by
  obtain ⟨s1, e1, e2⟩ := bd hpr
  have g := pr_ok _ _ hu _ _ hI e1
  refine ih u hu s s1 e M _ hC hI hp (by omega) (fun t => by have := h75 t; omega) e1 (fun N hN => ?_)
  exact ih v hv s1 s' d N q hN g.1 (phx g hp) (by omega) (by rw [ev]; exact dpm g h75) e2 hq
theorem KM_more {f u v o : Nat} (ih : MI l M0 t b z f) (hB : BM M0 t b z) (hu : u ≤ 9) (hv : v ≤ 9) {d e lu lv' : Nat} (eu : wlv u = lu) (ev : wlv v = lv') (hde : e + lu = d + lv') (q : o_M → Prop) (hC : MX M0 M t s) (hI : Iv b z s) (hp : tcs s ≤ ph s) (h25 : 25 ≤ d + lv') (h75 : ttk s ≠ 27 → 75 ≤ d + 7 * top s + lv') (tt : ttk s ≠ 25 ∧ ttk s ≠ 26 ∧ ttk s ≠ 27) (hpr : (pr b z f u (adv b z s)).bind (fun s1 => pr b z f v (yem o 0 s1)) = some s') (hq : ∀ N, MX M0 N t s' → q N) : K_X12_next l [rV (some 60)] M (fun M4 => KM l u e M4 (fun M5 => K_X12_emit l [rV (some 60), iV (nI o), iV 0] M5 (fun M6 => KM l v d M6 q))) := by
  obtain ⟨s1, e1, e2⟩ := bd hpr
  have A := Iv_adv hI tt.2.1 tt.2.2
  have hpl := hI.2.2.2.1 tt.1 tt.2.2
  have hz : z ≤ 300 := hB.2.2.2.2.1
  have g := pr_ok _ _ hu _ _ A.1 e1
  have pg := ph_good tt.2.2
  have pa := ph_good A.2.2
  have g3 := g.2.2.1
  have ca : tcs (adv b z s) = tcs s := rfl
  have hp1 : tcs (adv b z s) ≤ ph (adv b z s) := by omega
  refine c12_adv hB hI hC tt.2.2 _ (fun N hN => ?_)
  refine ih u hu _ s1 e N _ hN A.1 hp1 (by omega) (fun _ => by have := h75 tt.2.2; rw [top_adv]; omega) e1 (fun N2 hN2 => ?_)
  refine c12_emit hB hN2 (ph_301 hz g.1 (phx g hp1)) rfl rfl _ (fun N3 hN3 => ?_)
  refine ih v hv _ s' d N3 q hN3 (Iv_yem g.1) ?_ (by omega) ?_ e2 hq
  · show tcs s1 + 1 ≤ ph s1
    omega
  · intro t1
    have := dpm (d := d) (lv := lv') g (fun _ => by rw [top_adv]; exact h75 tt.2.2) t1
    rw [ev]; exact this
end S784
