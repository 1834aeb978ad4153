/-! the class's reader follows the pure reading -/
section S78
variable {l : Launch} {M N M0 : o_M} {b : Nat → Nat} {z : Nat} {s s1 s' : Sta}
def PX (a j : Nat) : Prop := a = 24 ∨ (a = 23 ∧ j ≠ 3 ∧ j ≠ 5)
/-- the reader's cells and a state of the pure reading -/
def CX (M0 M : o_M) (s : Sta) : Prop := Fi PX M0 M ∧ (∃ n, n ≤ 300 ∧ mI M 23 4 = nI n ∧ (ttk s ≠ 27 → n = tcs s)) ∧ (ttk s = 27 → mI M 23 6 = nI 26 ∧ mI M 23 11 = nI (tpl s)) ∧ (ttk s ≠ 27 → mI M 23 9 = nI (tnx s) ∧ mI M 23 8 = nI (tpl s) ∧ mI M 23 6 = nI (ttk s) ∧ (ttk s = 24 → mI M 23 7 = nI (tnu s)) ∧ mI M 23 10 = nI (top s) ∧ mI M 23 11 = -1 ∧ ∀ c, c < tcs s → cod (mI M 24 c) (nI (tco s c)) (nI (tcw s c)))
theorem PX3 : ¬ PX 23 3 := by unfold PX; omega
theorem PX22 : ∀ j, ¬ PX 22 j := fun j => by unfold PX; omega
theorem CX_B (hB : BX M0 b z) (h : CX M0 M s) : BX M b z := BX_f PX3 PX22 h.1 hB
theorem CX_bad (h : CX M0 M s) (t : ttk s = 27) (t' : ttk s' = 27) (e : tpl s' = tpl s) : CX M0 M s' := by
  obtain ⟨h1, ⟨n, h2, h3, _⟩, h4, _⟩ := h
  exact ⟨h1, ⟨n, h2, h3, fun w => absurd t' w⟩, fun _ => by rw [e]; exact h4 t, fun w => absurd t' w⟩
theorem cd_2 : cod (-1 - nI 13) (nI 2) (nI 0) := Or.inr (Or.inr (Or.inl ⟨by decide, by decide⟩))
theorem cd_3 : cod (-1 - nI 14) (nI 3) (nI 0) := Or.inr (Or.inr (Or.inr (Or.inl ⟨by decide, by decide⟩)))
theorem cd_4 : cod (-1 - nI 15) (nI 4) (nI 0) := Or.inr (Or.inr (Or.inr (Or.inr (Or.inl ⟨by decide, by decide⟩))))
theorem cd_5 : cod (-1 - nI 22) (nI 5) (nI 0) := Or.inr (Or.inr (Or.inr (Or.inr (Or.inr (Or.inl ⟨by decide, by decide⟩)))))
theorem cd_6 : cod (-1 - nI 23) (nI 6) (nI 0) := Or.inr (Or.inr (Or.inr (Or.inr (Or.inr (Or.inr (Or.inl ⟨by decide, by decide⟩))))))
theorem cd_7 : cod (-1 - nI 19) (nI 7) (nI 0) := Or.inr (Or.inr (Or.inr (Or.inr (Or.inr (Or.inr (Or.inr (Or.inl ⟨by decide, by decide⟩)))))))
theorem cd_8 : cod (-1 - nI 20) (nI 8) (nI 0) := Or.inr (Or.inr (Or.inr (Or.inr (Or.inr (Or.inr (Or.inr (Or.inr (Or.inl ⟨by decide, by decide⟩))))))))
theorem cd_9 : cod (-1 - nI 21) (nI 9) (nI 0) := Or.inr (Or.inr (Or.inr (Or.inr (Or.inr (Or.inr (Or.inr (Or.inr (Or.inr (Or.inl ⟨by decide, by decide⟩)))))))))
theorem cd_10 : cod (-1 - nI 27) (nI 10) (nI 0) := Or.inr (Or.inr (Or.inr (Or.inr (Or.inr (Or.inr (Or.inr (Or.inr (Or.inr (Or.inr ⟨by decide, by decide⟩)))))))))
theorem CX_tk (hI : Iv b z s) (h : CX M0 M s) {k : Nat} (hk : k < 26) : mI M 23 6 = nI k ↔ ttk s = k := by
  have h27 := hI.2.2.1
  by_cases t : ttk s = 27
  · rw [(h.2.2.1 t).1, nI_eq (by decide) (by omega)]; omega
  · rw [(h.2.2.2 t).2.2.1, nI_eq (by omega) (by omega)]
theorem c3_adv (hB : BX M0 b z) (hI : Iv b z s) (h : CX M0 M s) (t : ttk s ≠ 27) (q : o_M → Prop) (hq : ∀ N, CX M0 N (adv b z s) → q N) : K_X3_advance l [rV (some 23)] M q := by
  have hl := lex_ok (b := b) hI.1
  obtain ⟨h1, ⟨n, h2, h3, h4⟩, h5, h6⟩ := h
  obtain ⟨k9, k8, k6, k7, k10, k11, kc⟩ := h6 t
  have hz : z ≤ 300 := hB.2.2.2.2.2.2.1
  have hn := hI.1
  refine c3_advance (BX_f PX3 PX22 h1 hB) k11 k9 hn q (fun N f1 f9 f8 f6 f7 => hq N ?_)
  have wAX : ∀ a j, PA a j → PX a j := fun a j h => by unfold PA at h; unfold PX; omega
  refine ⟨Fi_t h1 (Fi_w wAX f1), ⟨n, h2, by rw [f1.1 23 4 (by unfold PA; omega)]; exact h3, fun _ => h4 t⟩, fun w => ?_, fun _ => ?_⟩
  · rw [ttk_adv] at w; omega
  · refine ⟨f9, f8, f6, f7, ?_, ?_, fun c hc => ?_⟩
    · rw [f1.1 23 10 (by unfold PA; omega)]; exact k10
    · rw [f1.1 23 11 (by unfold PA; omega)]; exact k11
    · rw [f1.1 24 c (by unfold PA; omega)]; exact kc c hc
theorem c3_emit (hB : BX M0 b z) (h : CX M0 M s) {x : Int32} {o w : Nat} (hx : ttk s ≠ 27 → cod x (nI o) (nI w) ∧ tcs s < 300) (q : o_M → Prop) (hq : ∀ N, CX M0 N (yem o w s) → q N) : K_X3_emit l [rV (some 23), iV x] M q := by
  obtain ⟨g1, g2, g3, g4, g5, g6, g7, g8, g9⟩ := CX_B hB h
  obtain ⟨h1, ⟨n, h2, h3, h4⟩, h5, h6⟩ := h
  refine w_X3_emit l _ M q ?_
  rw [g4, h3, show Int32.ofNat 300 = nI 300 from rfl, nI_leI (by decide) (by omega)]
  refine ⟨g1, fun c => hq M ⟨h1, ⟨n, h2, h3, fun t => ?_⟩, h5, fun t => ?_⟩, fun c => ⟨g1, vin (by omega) (by decide), hq _ ?_⟩⟩
  · have := h4 t; have := (hx t).2; omega
  · have := h4 t; have := (hx t).2; omega
  · rw [nI_clamp (by omega)]
    refine ⟨Fi_s (Fi_s h1 (by unfold PX; omega)) (by unfold PX; omega), ⟨n + 1, by omega, ?_, fun t => by rw [tcs_yem, h4 t]⟩, fun t => ?_, fun t => ?_⟩
    · simp (disch := omega) only [true_and, mI_sI_1, mI_sI_2, mI_sI_3, mI_nW_1, mI_nW_2, mI_sR, mI_sJ, mI_sA_1, mI_sA_2, mR_sI, mR_sJ, mR_sA, mR_sR_1, mR_sR_2, mR_sR_3, mR_nW_1, mR_nW_2, mN_sI, mN_sJ, mN_sR, mN_sA, mN_nW_1, mN_nW_2, mJ_sI, mJ_sR, mJ_sA, mJ_sJ_1, mJ_sJ_2, mJ_sJ_3, mJ_nW_1, mJ_nW_2]; rw [h3, n1]
    · simp (disch := omega) only [true_and, mI_sI_1, mI_sI_2, mI_sI_3, mI_nW_1, mI_nW_2, mI_sR, mI_sJ, mI_sA_1, mI_sA_2, mR_sI, mR_sJ, mR_sA, mR_sR_1, mR_sR_2, mR_sR_3, mR_nW_1, mR_nW_2, mN_sI, mN_sJ, mN_sR, mN_sA, mN_nW_1, mN_nW_2, mJ_sI, mJ_sR, mJ_sA, mJ_sJ_1, mJ_sJ_2, mJ_sJ_3, mJ_nW_1, mJ_nW_2]; exact h5 t
    · obtain ⟨k9, k8, k6, k7, k10, k11, kc⟩ := h6 t
      refine ⟨by simp (disch := omega) only [true_and, mI_sI_1, mI_sI_2, mI_sI_3, mI_nW_1, mI_nW_2, mI_sR, mI_sJ, mI_sA_1, mI_sA_2, mR_sI, mR_sJ, mR_sA, mR_sR_1, mR_sR_2, mR_sR_3, mR_nW_1, mR_nW_2, mN_sI, mN_sJ, mN_sR, mN_sA, mN_nW_1, mN_nW_2, mJ_sI, mJ_sR, mJ_sA, mJ_sJ_1, mJ_sJ_2, mJ_sJ_3, mJ_nW_1, mJ_nW_2]; exact k9, by simp (disch := omega) only [true_and, mI_sI_1, mI_sI_2, mI_sI_3, mI_nW_1, mI_nW_2, mI_sR, mI_sJ, mI_sA_1, mI_sA_2, mR_sI, mR_sJ, mR_sA, mR_sR_1, mR_sR_2, mR_sR_3, mR_nW_1, mR_nW_2, mN_sI, mN_sJ, mN_sR, mN_sA, mN_nW_1, mN_nW_2, mJ_sI, mJ_sR, mJ_sA, mJ_sJ_1, mJ_sJ_2, mJ_sJ_3, mJ_nW_1, mJ_nW_2]; exact k8, by simp (disch := omega) only [true_and, mI_sI_1, mI_sI_2, mI_sI_3, mI_nW_1, mI_nW_2, mI_sR, mI_sJ, mI_sA_1, mI_sA_2, mR_sI, mR_sJ, mR_sA, mR_sR_1, mR_sR_2, mR_sR_3, mR_nW_1, mR_nW_2, mN_sI, mN_sJ, mN_sR, mN_sA, mN_nW_1, mN_nW_2, mJ_sI, mJ_sR, mJ_sA, mJ_sJ_1, mJ_sJ_2, mJ_sJ_3, mJ_nW_1, mJ_nW_2]; exact k6, fun e => by simp (disch := omega) only [true_and, mI_sI_1, mI_sI_2, mI_sI_3, mI_nW_1, mI_nW_2, mI_sR, mI_sJ, mI_sA_1, mI_sA_2, mR_sI, mR_sJ, mR_sA, mR_sR_1, mR_sR_2, mR_sR_3, mR_nW_1, mR_nW_2, mN_sI, mN_sJ, mN_sR, mN_sA, mN_nW_1, mN_nW_2, mJ_sI, mJ_sR, mJ_sA, mJ_sJ_1, mJ_sJ_2, mJ_sJ_3, mJ_nW_1, mJ_nW_2]; exact k7 e, by simp (disch := omega) only [true_and, mI_sI_1, mI_sI_2, mI_sI_3, mI_nW_1, mI_nW_2, mI_sR, mI_sJ, mI_sA_1, mI_sA_2, mR_sI, mR_sJ, mR_sA, mR_sR_1, mR_sR_2, mR_sR_3, mR_nW_1, mR_nW_2, mN_sI, mN_sJ, mN_sR, mN_sA, mN_nW_1, mN_nW_2, mJ_sI, mJ_sR, mJ_sA, mJ_sJ_1, mJ_sJ_2, mJ_sJ_3, mJ_nW_1, mJ_nW_2]; exact k10, by simp (disch := omega) only [true_and, mI_sI_1, mI_sI_2, mI_sI_3, mI_nW_1, mI_nW_2, mI_sR, mI_sJ, mI_sA_1, mI_sA_2, mR_sI, mR_sJ, mR_sA, mR_sR_1, mR_sR_2, mR_sR_3, mR_nW_1, mR_nW_2, mN_sI, mN_sJ, mN_sR, mN_sA, mN_nW_1, mN_nW_2, mJ_sI, mJ_sR, mJ_sA, mJ_sJ_1, mJ_sJ_2, mJ_sJ_3, mJ_nW_1, mJ_nW_2]; exact k11, fun c hc => ?_⟩
      have hnc := h4 t
      rw [tcs_yem] at hc
      rw [tco_yem, tcw_yem]
      by_cases e : c = tcs s
      · subst e
        rw [yup_i, yup_i, hnc]
        simp (disch := omega) only [true_and, mI_sI_1, mI_sI_2, mI_sI_3, mI_nW_1, mI_nW_2, mI_sR, mI_sJ, mI_sA_1, mI_sA_2, mR_sI, mR_sJ, mR_sA, mR_sR_1, mR_sR_2, mR_sR_3, mR_nW_1, mR_nW_2, mN_sI, mN_sJ, mN_sR, mN_sA, mN_nW_1, mN_nW_2, mJ_sI, mJ_sR, mJ_sA, mJ_sJ_1, mJ_sJ_2, mJ_sJ_3, mJ_nW_1, mJ_nW_2]
        exact (hx t).1
      · rw [yup_o (by omega), yup_o (by omega)]
        simp (disch := omega) only [true_and, mI_sI_1, mI_sI_2, mI_sI_3, mI_nW_1, mI_nW_2, mI_sR, mI_sJ, mI_sA_1, mI_sA_2, mR_sI, mR_sJ, mR_sA, mR_sR_1, mR_sR_2, mR_sR_3, mR_nW_1, mR_nW_2, mN_sI, mN_sJ, mN_sR, mN_sA, mN_nW_1, mN_nW_2, mJ_sI, mJ_sR, mJ_sA, mJ_sJ_1, mJ_sJ_2, mJ_sJ_3, mJ_nW_1, mJ_nW_2]
        exact kc c (by omega)
theorem c3_fail (hB : BX M0 b z) (hI : Iv b z s) (h : CX M0 M s) (q : o_M → Prop) (hq : ∀ N, CX M0 N (yfl s) → q N) : K_X3_fail l [rV (some 23)] M q := by
  have hz : z ≤ 300 := hB.2.2.2.2.2.2.1
  have hi1 := hI.1
  have hi2 := hI.2.1
  obtain ⟨h1, ⟨n, h2, h3, h4⟩, h5, h6⟩ := h
  refine w_X3_fail l M q ⟨fun c => hq _ ?_, fun c => hq _ ?_⟩
  · have t : ttk s = 27 := by
      by_cases t : ttk s = 27
      · exact t
      · exact absurd (h6 t).2.2.2.2.2.1 c
    refine ⟨Fi_s h1 (by unfold PX; omega), ⟨n, h2, by simp (disch := omega) only [true_and, mI_sI_1, mI_sI_2, mI_sI_3, mI_nW_1, mI_nW_2, mI_sR, mI_sJ, mI_sA_1, mI_sA_2, mR_sI, mR_sJ, mR_sA, mR_sR_1, mR_sR_2, mR_sR_3, mR_nW_1, mR_nW_2, mN_sI, mN_sJ, mN_sR, mN_sA, mN_nW_1, mN_nW_2, mJ_sI, mJ_sR, mJ_sA, mJ_sJ_1, mJ_sJ_2, mJ_sJ_3, mJ_nW_1, mJ_nW_2]; exact h3, fun w => absurd rfl w⟩, fun _ => ⟨mI_sI_3, by simp (disch := omega) only [true_and, mI_sI_1, mI_sI_2, mI_sI_3, mI_nW_1, mI_nW_2, mI_sR, mI_sJ, mI_sA_1, mI_sA_2, mR_sI, mR_sJ, mR_sA, mR_sR_1, mR_sR_2, mR_sR_3, mR_nW_1, mR_nW_2, mN_sI, mN_sJ, mN_sR, mN_sA, mN_nW_1, mN_nW_2, mJ_sI, mJ_sR, mJ_sA, mJ_sJ_1, mJ_sJ_2, mJ_sJ_3, mJ_nW_1, mJ_nW_2]; exact (h5 t).2⟩, fun w => absurd rfl w⟩
  · have t : ttk s ≠ 27 := fun t => by
      rw [(h5 t).2] at c
      exact absurd c (nI_ne1 (by omega))
    have k8 := (h6 t).2.1
    refine ⟨Fi_s (Fi_s h1 (by unfold PX; omega)) (by unfold PX; omega), ⟨n, h2, by simp (disch := omega) only [true_and, mI_sI_1, mI_sI_2, mI_sI_3, mI_nW_1, mI_nW_2, mI_sR, mI_sJ, mI_sA_1, mI_sA_2, mR_sI, mR_sJ, mR_sA, mR_sR_1, mR_sR_2, mR_sR_3, mR_nW_1, mR_nW_2, mN_sI, mN_sJ, mN_sR, mN_sA, mN_nW_1, mN_nW_2, mJ_sI, mJ_sR, mJ_sA, mJ_sJ_1, mJ_sJ_2, mJ_sJ_3, mJ_nW_1, mJ_nW_2]; exact h3, fun w => absurd rfl w⟩, fun _ => ⟨mI_sI_3, by simp (disch := omega) only [true_and, mI_sI_1, mI_sI_2, mI_sI_3, mI_nW_1, mI_nW_2, mI_sR, mI_sJ, mI_sA_1, mI_sA_2, mR_sI, mR_sJ, mR_sA, mR_sR_1, mR_sR_2, mR_sR_3, mR_nW_1, mR_nW_2, mN_sI, mN_sJ, mN_sR, mN_sA, mN_nW_1, mN_nW_2, mJ_sI, mJ_sR, mJ_sA, mJ_sJ_1, mJ_sJ_2, mJ_sJ_3, mJ_nW_1, mJ_nW_2]; exact k8⟩, fun w => absurd rfl w⟩
theorem c3_expect (hB : BX M0 b z) (hI : Iv b z s) (h : CX M0 M s) {k : Nat} (hk : k < 26) (q : o_M → Prop) (hq : ∀ N, CX M0 N (xp b z k s) → q N) : K_X3_expect l [rV (some 23), iV (nI k)] M q := by
  have e := CX_tk hI h hk
  refine w_X3_expect l _ M q ⟨fun c => c3_fail hB hI h _ (fun N hN => hq N ?_), fun c => c3_adv hB hI h (by have := e.mp c; omega) _ (fun N hN => hq N ?_)⟩
  · unfold xp; rw [if_neg (fun z => c (e.mpr z))]; exact hN
  · unfold xp; rw [if_pos (e.mp c)]; exact hN
theorem CX_oo (h : CX M0 M s) (t : ttk s ≠ 27) : CX M0 (sI M 23 10 (mI M 23 10 + 1)) (yoo s) := by
  obtain ⟨h1, ⟨n, h2, h3, h4⟩, h5, h6⟩ := h
  obtain ⟨k9, k8, k6, k7, k10, k11, kc⟩ := h6 t
  refine ⟨Fi_s h1 (by unfold PX; omega), ⟨n, h2, by simp (disch := omega) only [true_and, mI_sI_1, mI_sI_2, mI_sI_3, mI_nW_1, mI_nW_2, mI_sR, mI_sJ, mI_sA_1, mI_sA_2, mR_sI, mR_sJ, mR_sA, mR_sR_1, mR_sR_2, mR_sR_3, mR_nW_1, mR_nW_2, mN_sI, mN_sJ, mN_sR, mN_sA, mN_nW_1, mN_nW_2, mJ_sI, mJ_sR, mJ_sA, mJ_sJ_1, mJ_sJ_2, mJ_sJ_3, mJ_nW_1, mJ_nW_2]; exact h3, h4⟩, fun w => absurd w t, fun _ => ⟨by simp (disch := omega) only [true_and, mI_sI_1, mI_sI_2, mI_sI_3, mI_nW_1, mI_nW_2, mI_sR, mI_sJ, mI_sA_1, mI_sA_2, mR_sI, mR_sJ, mR_sA, mR_sR_1, mR_sR_2, mR_sR_3, mR_nW_1, mR_nW_2, mN_sI, mN_sJ, mN_sR, mN_sA, mN_nW_1, mN_nW_2, mJ_sI, mJ_sR, mJ_sA, mJ_sJ_1, mJ_sJ_2, mJ_sJ_3, mJ_nW_1, mJ_nW_2]; exact k9, by simp (disch := omega) only [true_and, mI_sI_1, mI_sI_2, mI_sI_3, mI_nW_1, mI_nW_2, mI_sR, mI_sJ, mI_sA_1, mI_sA_2, mR_sI, mR_sJ, mR_sA, mR_sR_1, mR_sR_2, mR_sR_3, mR_nW_1, mR_nW_2, mN_sI, mN_sJ, mN_sR, mN_sA, mN_nW_1, mN_nW_2, mJ_sI, mJ_sR, mJ_sA, mJ_sJ_1, mJ_sJ_2, mJ_sJ_3, mJ_nW_1, mJ_nW_2]; exact k8, by simp (disch := omega) only [true_and, mI_sI_1, mI_sI_2, mI_sI_3, mI_nW_1, mI_nW_2, mI_sR, mI_sJ, mI_sA_1, mI_sA_2, mR_sI, mR_sJ, mR_sA, mR_sR_1, mR_sR_2, mR_sR_3, mR_nW_1, mR_nW_2, mN_sI, mN_sJ, mN_sR, mN_sA, mN_nW_1, mN_nW_2, mJ_sI, mJ_sR, mJ_sA, mJ_sJ_1, mJ_sJ_2, mJ_sJ_3, mJ_nW_1, mJ_nW_2]; exact k6, fun e => by simp (disch := omega) only [true_and, mI_sI_1, mI_sI_2, mI_sI_3, mI_nW_1, mI_nW_2, mI_sR, mI_sJ, mI_sA_1, mI_sA_2, mR_sI, mR_sJ, mR_sA, mR_sR_1, mR_sR_2, mR_sR_3, mR_nW_1, mR_nW_2, mN_sI, mN_sJ, mN_sR, mN_sA, mN_nW_1, mN_nW_2, mJ_sI, mJ_sR, mJ_sA, mJ_sJ_1, mJ_sJ_2, mJ_sJ_3, mJ_nW_1, mJ_nW_2]; exact k7 e, by simp (disch := omega) only [true_and, mI_sI_1, mI_sI_2, mI_sI_3, mI_nW_1, mI_nW_2, mI_sR, mI_sJ, mI_sA_1, mI_sA_2, mR_sI, mR_sJ, mR_sA, mR_sR_1, mR_sR_2, mR_sR_3, mR_nW_1, mR_nW_2, mN_sI, mN_sJ, mN_sR, mN_sA, mN_nW_1, mN_nW_2, mJ_sI, mJ_sR, mJ_sA, mJ_sJ_1, mJ_sJ_2, mJ_sJ_3, mJ_nW_1, mJ_nW_2]; rw [k10, n1, top_yoo], by simp (disch := omega) only [true_and, mI_sI_1, mI_sI_2, mI_sI_3, mI_nW_1, mI_nW_2, mI_sR, mI_sJ, mI_sA_1, mI_sA_2, mR_sI, mR_sJ, mR_sA, mR_sR_1, mR_sR_2, mR_sR_3, mR_nW_1, mR_nW_2, mN_sI, mN_sJ, mN_sR, mN_sA, mN_nW_1, mN_nW_2, mJ_sI, mJ_sR, mJ_sA, mJ_sJ_1, mJ_sJ_2, mJ_sJ_3, mJ_nW_1, mJ_nW_2]; exact k11, fun c hc => by simp (disch := omega) only [true_and, mI_sI_1, mI_sI_2, mI_sI_3, mI_nW_1, mI_nW_2, mI_sR, mI_sJ, mI_sA_1, mI_sA_2, mR_sI, mR_sJ, mR_sA, mR_sR_1, mR_sR_2, mR_sR_3, mR_nW_1, mR_nW_2, mN_sI, mN_sJ, mN_sR, mN_sA, mN_nW_1, mN_nW_2, mJ_sI, mJ_sR, mJ_sA, mJ_sJ_1, mJ_sJ_2, mJ_sJ_3, mJ_nW_1, mJ_nW_2]; exact kc c hc⟩⟩
theorem CX_cl (h : CX M0 M s) (ht : ttk s ≠ 27 → 1 ≤ top s) : CX M0 (sI M 23 10 (mI M 23 10 - 1)) (ycl s) := by
  obtain ⟨h1, ⟨n, h2, h3, h4⟩, h5, h6⟩ := h
  refine ⟨Fi_s h1 (by unfold PX; omega), ⟨n, h2, by simp (disch := omega) only [true_and, mI_sI_1, mI_sI_2, mI_sI_3, mI_nW_1, mI_nW_2, mI_sR, mI_sJ, mI_sA_1, mI_sA_2, mR_sI, mR_sJ, mR_sA, mR_sR_1, mR_sR_2, mR_sR_3, mR_nW_1, mR_nW_2, mN_sI, mN_sJ, mN_sR, mN_sA, mN_nW_1, mN_nW_2, mJ_sI, mJ_sR, mJ_sA, mJ_sJ_1, mJ_sJ_2, mJ_sJ_3, mJ_nW_1, mJ_nW_2]; exact h3, h4⟩, fun w => by simp (disch := omega) only [true_and, mI_sI_1, mI_sI_2, mI_sI_3, mI_nW_1, mI_nW_2, mI_sR, mI_sJ, mI_sA_1, mI_sA_2, mR_sI, mR_sJ, mR_sA, mR_sR_1, mR_sR_2, mR_sR_3, mR_nW_1, mR_nW_2, mN_sI, mN_sJ, mN_sR, mN_sA, mN_nW_1, mN_nW_2, mJ_sI, mJ_sR, mJ_sA, mJ_sJ_1, mJ_sJ_2, mJ_sJ_3, mJ_nW_1, mJ_nW_2]; exact h5 w, fun t => ?_⟩
  obtain ⟨k9, k8, k6, k7, k10, k11, kc⟩ := h6 t
  exact ⟨by simp (disch := omega) only [true_and, mI_sI_1, mI_sI_2, mI_sI_3, mI_nW_1, mI_nW_2, mI_sR, mI_sJ, mI_sA_1, mI_sA_2, mR_sI, mR_sJ, mR_sA, mR_sR_1, mR_sR_2, mR_sR_3, mR_nW_1, mR_nW_2, mN_sI, mN_sJ, mN_sR, mN_sA, mN_nW_1, mN_nW_2, mJ_sI, mJ_sR, mJ_sA, mJ_sJ_1, mJ_sJ_2, mJ_sJ_3, mJ_nW_1, mJ_nW_2]; exact k9, by simp (disch := omega) only [true_and, mI_sI_1, mI_sI_2, mI_sI_3, mI_nW_1, mI_nW_2, mI_sR, mI_sJ, mI_sA_1, mI_sA_2, mR_sI, mR_sJ, mR_sA, mR_sR_1, mR_sR_2, mR_sR_3, mR_nW_1, mR_nW_2, mN_sI, mN_sJ, mN_sR, mN_sA, mN_nW_1, mN_nW_2, mJ_sI, mJ_sR, mJ_sA, mJ_sJ_1, mJ_sJ_2, mJ_sJ_3, mJ_nW_1, mJ_nW_2]; exact k8, by simp (disch := omega) only [true_and, mI_sI_1, mI_sI_2, mI_sI_3, mI_nW_1, mI_nW_2, mI_sR, mI_sJ, mI_sA_1, mI_sA_2, mR_sI, mR_sJ, mR_sA, mR_sR_1, mR_sR_2, mR_sR_3, mR_nW_1, mR_nW_2, mN_sI, mN_sJ, mN_sR, mN_sA, mN_nW_1, mN_nW_2, mJ_sI, mJ_sR, mJ_sA, mJ_sJ_1, mJ_sJ_2, mJ_sJ_3, mJ_nW_1, mJ_nW_2]; exact k6, fun e => by simp (disch := omega) only [true_and, mI_sI_1, mI_sI_2, mI_sI_3, mI_nW_1, mI_nW_2, mI_sR, mI_sJ, mI_sA_1, mI_sA_2, mR_sI, mR_sJ, mR_sA, mR_sR_1, mR_sR_2, mR_sR_3, mR_nW_1, mR_nW_2, mN_sI, mN_sJ, mN_sR, mN_sA, mN_nW_1, mN_nW_2, mJ_sI, mJ_sR, mJ_sA, mJ_sJ_1, mJ_sJ_2, mJ_sJ_3, mJ_nW_1, mJ_nW_2]; exact k7 e, by simp (disch := omega) only [true_and, mI_sI_1, mI_sI_2, mI_sI_3, mI_nW_1, mI_nW_2, mI_sR, mI_sJ, mI_sA_1, mI_sA_2, mR_sI, mR_sJ, mR_sA, mR_sR_1, mR_sR_2, mR_sR_3, mR_nW_1, mR_nW_2, mN_sI, mN_sJ, mN_sR, mN_sA, mN_nW_1, mN_nW_2, mJ_sI, mJ_sR, mJ_sA, mJ_sJ_1, mJ_sJ_2, mJ_sJ_3, mJ_nW_1, mJ_nW_2]; rw [k10, top_ycl]; exact nI_sb (ht t), by simp (disch := omega) only [true_and, mI_sI_1, mI_sI_2, mI_sI_3, mI_nW_1, mI_nW_2, mI_sR, mI_sJ, mI_sA_1, mI_sA_2, mR_sI, mR_sJ, mR_sA, mR_sR_1, mR_sR_2, mR_sR_3, mR_nW_1, mR_nW_2, mN_sI, mN_sJ, mN_sR, mN_sA, mN_nW_1, mN_nW_2, mJ_sI, mJ_sR, mJ_sA, mJ_sJ_1, mJ_sJ_2, mJ_sJ_3, mJ_nW_1, mJ_nW_2]; exact k11, fun c hc => by simp (disch := omega) only [true_and, mI_sI_1, mI_sI_2, mI_sI_3, mI_nW_1, mI_nW_2, mI_sR, mI_sJ, mI_sA_1, mI_sA_2, mR_sI, mR_sJ, mR_sA, mR_sR_1, mR_sR_2, mR_sR_3, mR_nW_1, mR_nW_2, mN_sI, mN_sJ, mN_sR, mN_sA, mN_nW_1, mN_nW_2, mJ_sI, mJ_sR, mJ_sA, mJ_sJ_1, mJ_sJ_2, mJ_sJ_3, mJ_nW_1, mJ_nW_2]; exact kc c hc⟩
theorem c3_open (hB : BX M0 b z) (hI : Iv b z s) (h : CX M0 M s) (t : ttk s ≠ 27) (q : Int32 → o_M → Prop) (h0 : 6 ≤ top s → ∀ N, CX M0 N (yfl s) → q 0 N) (h1 : ¬ 6 ≤ top s → ∀ N, CX M0 N (adv b z (yoo s)) → q 1 N) : K_X3_openOne l [rV (some 23)] M q := by
  have hop := hI.2.2.2.2.2.2.2 t
  have k10 := (h.2.2.2 t).2.2.2.2.1
  refine w_X3_openOne l M q ?_
  rw [show mI M 23 10 < 6 ↔ top s < 6 by rw [k10]; exact nI_ltI (b := 6) (by omega) (by decide)]
  refine ⟨fun c => c3_adv (s := yoo s) hB (Iv_yoo hI c) (CX_oo h t) t _ (fun N hN => h1 (by omega) N hN), fun c => c3_fail hB hI h _ (fun N hN => h0 (by omega) N hN)⟩
/-- the reading methods and their loops -/
def KX (l : Launch) (w d i : Nat) (M : o_M) (q : o_M → Prop) : Prop :=
  match w with
  | 0 => K_X3_readOr l d [rV (some 23)] M q
  | 1 => H_X3_readOr_6 l d q (nI i) M
  | 2 => K_X3_readAnd l d [rV (some 23)] M q
  | 3 => H_X3_readAnd_6 l d q (nI i) M
  | 4 => K_X3_readNot l d [rV (some 23)] M q
  | 5 => K_X3_readSum l d [rV (some 23)] M q
  | 6 => H_X3_readSum_6 l d q (nI i) M
  | 7 => K_X3_readTerm l d [rV (some 23)] M q
  | 8 => H_X3_readTerm_6 l d q (nI i) M
  | _ => K_X3_readOne l d [rV (some 23)] M q
/-- what a reading of this fuel does -/
def XI (l : Launch) (M0 : o_M) (b : Nat → Nat) (z f : Nat) : Prop := ∀ w, w ≤ 9 → ∀ (s s' : Sta) (d i : Nat) (M : o_M) (q : o_M → Prop), CX M0 M s → Iv b z s → tcs s ≤ ph s → 27 ≤ d + wlv w → (ttk s ≠ 27 → 69 ≤ d + 7 * top s + wlv w) → i ≤ 300 → (ttk s ≠ 27 → i ≤ tpl s) → pr b z f w s = some s' → (∀ N, CX M0 N s' → q N) → KX l w d i M q
theorem dpx {d lv x : Nat} {lp : Bool} (g : Ok b z lp x s s1) (h : ttk s ≠ 27 → 69 ≤ d + 7 * top s + lv) : ttk s1 ≠ 27 → 69 ≤ d + 7 * top s1 + lv := fun t => by rw [(g.2.2.2.2.2.2 t).1]; exact h (fun e => t (g.2.2.2.2.2.1 e))
theorem phx {x : Nat} {lp : Bool} (g : Ok b z lp x s s1) (h : tcs s ≤ ph s) : tcs s1 ≤ ph s1 := by have := g.2.2.1; omega
/-- a first operand and its loop -/
theorem KX_seq {f u v : Nat} (ih : XI l M0 b z f) (hu : u ≤ 9) (hv : v ≤ 9) {d e lu lv' : Nat} (eu : wlv u = lu) (ev : wlv v = lv') (hde : e + lu = d + lv') (q : o_M → Prop) (hC : CX M0 M s) (hI : Iv b z s) (hp : tcs s ≤ ph s) (h27 : 27 ≤ d + lv') (h69 : ttk s ≠ 27 → 69 ≤ d + 7 * top s + lv') (hpr : (pr b z f u s).bind (pr b z f v) = some s') (hq : ∀ N, CX M0 N s' → q N) : KX l u e 0 M (fun N => KX l v d 0 N q) := by
  obtain ⟨s1, e1, e2⟩ := bd hpr
  have g := pr_ok _ _ hu _ _ hI e1
  refine ih u hu s s1 e 0 M _ hC hI hp (by omega) (fun t => by have := h69 t; omega) (by omega) (fun _ => by omega) e1 (fun N hN => ?_)
  exact ih v hv s1 s' d 0 N q hN g.1 (phx g hp) (by omega) (by rw [ev]; exact dpx g h69) (by omega) (fun _ => by omega) e2 hq
/-- one more operand, its step, and the loop again -/
theorem KX_more {f u v o T i : Nat} (ih : XI l M0 b z f) (hB : BX M0 b z) (hu : u ≤ 9) (hv : v ≤ 9) {d e lu lv' : Nat} (eu : wlv u = lu) (ev : wlv v = lv') (hde : e + lu = d + lv') (q : o_M → Prop) (hC : CX M0 M s) (hI : Iv b z s) (hp : tcs s ≤ ph s) (h27 : 27 ≤ d + lv') (h69 : ttk s ≠ 27 → 69 ≤ d + 7 * top s + lv') (t : ttk s ≠ 25 ∧ ttk s ≠ 26 ∧ ttk s ≠ 27) (hi : i ≤ tpl s) (hx : cod (-1 - nI T) (nI o) (nI 0)) (hpr : (pr b z f u (adv b z s)).bind (fun s1 => pr b z f v (yem o 0 s1)) = some s') (hq : ∀ N, CX M0 N s' → q N) : K_X3_advance l [rV (some 23)] M (fun M4 => KX l u e 0 M4 (fun M5 => K_X3_emitToken l [rV (some 23), iV (nI T)] M5 (fun M6 => KX l v d (i + 1) M6 q))) := by
  obtain ⟨s1, e1, e2⟩ := bd hpr
  have A := Iv_adv hI t.2.1 t.2.2
  have hpl := hI.2.2.2.1 t.1 t.2.2
  have hz : z ≤ 300 := hB.2.2.2.2.2.2.1
  have hi1 := hI.1
  have g := pr_ok _ _ hu _ _ A.1 e1
  have pg := ph_good t.2.2
  have pa := ph_good A.2.2
  have g3 := g.2.2.1
  have g2 := g.2.1
  have ca : tcs (adv b z s) = tcs s := rfl
  refine c3_adv hB hI hC t.2.2 _ (fun N hN => ?_)
  refine ih u hu _ s1 e 0 N _ hN A.1 (by omega) (by omega) (fun _ => by have := h69 t.2.2; rw [top_adv]; omega) (by omega) (fun _ => by omega) e1 (fun N2 hN2 => ?_)
  have h1 := g.1.1
  have h2 := g.1.2.1
  refine w_X3_emitToken l _ _ _ (c3_emit hB hN2 (fun t1 => ⟨hx, ?_⟩) _ (fun N3 hN3 => ?_))
  · have := ph_good t1; omega
  · refine ih v hv _ s' d (i + 1) N3 q hN3 (Iv_yem g.1) ?_ (by omega) ?_ (by omega) ?_ e2 hq
    · show tcs s1 + 1 ≤ ph s1
      omega
    · intro t1
      have := dpx (d := d) (lv := lv') g (fun _ => by rw [top_adv]; exact h69 t.2.2) t1
      rw [ev]; exact this
    · intro t1
      show i + 1 ≤ tpl s1
      omega
end S78
