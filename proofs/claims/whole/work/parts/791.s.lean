/-! the beginning: the class -/
section S791
variable {l : Launch} {M N : o_M}
def fbtL : List Nat := [99, 111, 117, 110, 116, 32, 108, 111, 110, 103, 32, 59, 32, 112, 97, 121, 32, 108, 111, 110, 103, 32, 42, 32, 49, 48, 32, 59]
def fbt (i : Nat) : Nat := fbtL.getD i 0
theorem fbt_e : ∀ i, i < 28 → fbt i < 256 ∧ vp_nar .byte (o_by 0 i).toInt8.toInt32 = sgb (fbt i) := by decide +kernel
/-- the first text is read to its end -/
theorem fbt_run : ∃ S, Run fbt 28 0 S ∧ ttk (xp fbt 28 25 (S 2)) ≠ 27 := by
  have h : (pr fbt 28 60 0 (xp fbt 28 11 (adv fbt 28 s00))).bind (fun s1 => (pr fbt 28 60 0 (xp fbt 28 12 (xp fbt 28 18 s1))).bind (fun s2 => some (ttk (xp fbt 28 25 (xp fbt 28 18 s2))))) = some 25 := by decide +kernel
  obtain ⟨s1, e1, h⟩ := bd h
  obtain ⟨s2, e2, h⟩ := bd h
  have h3 : ttk (xp fbt 28 25 (xp fbt 28 18 s2)) = 25 := Option.some.inj h
  have h0 : ttk (adv fbt 28 s00) = 11 := by decide +kernel
  refine ⟨fun j => if j = 0 then adv fbt 28 s00 else if j = 1 then xp fbt 28 18 s1 else xp fbt 28 18 s2, ⟨by omega, rfl, fun j hj => by omega, fun _ => ?_, fun j hj => ?_⟩, ?_⟩
  · show ttk (adv fbt 28 s00) ≠ 10
    rw [h0]; decide
  · match j, hj with
    | 0, _ => exact ⟨60, s1, e1, rfl⟩
    | 1, _ => exact ⟨60, s2, e2, rfl⟩
    | j + 2, hj => omega
  · show ttk (xp fbt 28 25 (xp fbt 28 18 s2)) ≠ 27
    rw [h3]; decide
def oX (M : o_M) : Prop := (∀ p ∈ o_x, mR M p.1 p.2.1 = some p.2.2.1 ∧ mN M p.2.2.1 = p.2.2.2) ∧ (∀ p ∈ o_xo, mR M 16 p.1 = some p.2)
theorem oX_k (h1 : ∀ a k, a = 16 ∨ a = 23 ∨ a = 26 ∨ a = 29 ∨ a = 35 ∨ a = 38 → ¬ (a = 23 ∧ k = 2) → mR N a k = mR M a k) (h2 : ∀ x, 17 ≤ x → x ≤ 40 → mN N x = mN M x) (h : oX M) : oX N := by
  have hb : ∀ p ∈ o_x, (p.1 = 16 ∨ p.1 = 23 ∨ p.1 = 26 ∨ p.1 = 29 ∨ p.1 = 35 ∨ p.1 = 38) ∧ 17 ≤ p.2.2.1 ∧ p.2.2.1 ≤ 40 ∧ ¬ (p.1 = 23 ∧ p.2.1 = 2) := by decide
  refine ⟨fun p hp => ?_, fun p hp => ?_⟩
  · rw [h1 _ _ (hb p hp).1 (hb p hp).2.2.2, h2 _ (hb p hp).2.1 (hb p hp).2.2.1]; exact h.1 p hp
  · rw [h1 _ _ (Or.inl rfl) (by omega)]; exact h.2 p hp
def I0 (M : o_M) : Prop := mI M 16 11 = 0 ∧ mI M 16 12 = 0 ∧ mI M 16 13 = 0 ∧ mI M 16 14 = 0 ∧ mI M 16 15 = 0 ∧ mI M 16 16 = 0 ∧ mI M 16 17 = 0
def IY (M : o_M) (i : Nat) : Prop := ∀ y, y < i → mR M 21 y = some (41 + 128 * y) ∧ mR M (41 + 128 * y) 0 = some (42 + 128 * y) ∧ mN M (42 + 128 * y) = 10 ∧ mI M (41 + 128 * y) 5 = 0
def IL (M : o_M) (i : Nat) : Prop := ∀ x ∈ mL M, (16 ≤ x ∧ x ≤ 40) ∨ ((x % 128 = 41 ∨ x % 128 = 42) ∧ x / 128 < i)
def I2 (i : Nat) (M : o_M) : Prop := oX M ∧ I0 M ∧ IY M i ∧ IL M i
set_option maxRecDepth 20000 in
theorem init_a {q : o_M → Prop} (h : ∀ M, I2 0 M → H_X11_init_150 l q 0 24 1944 M) : K_X11_init l [rV (some 16)] (nW o_M0 16 0) q := by
  refine w_X11_init l _ q ⟨by decide, by decide, by decide, by decide, by decide, by decide, by decide, w_X3_init l _ _ ⟨by decide, by decide, by decide, w_X4_init l _ _ ⟨by decide, by decide, by decide, w_X5_init l _ _ ⟨by decide, by decide, by decide, by decide, by decide, by decide, w_X1_init l _ _ ⟨by decide, by decide, by decide, w_X0_init l _ _ ⟨by decide, by decide, h _ ⟨⟨?_, ?_⟩, ⟨rfl, rfl, rfl, rfl, rfl, rfl, rfl⟩, fun y hy => by omega, ?_⟩⟩⟩⟩⟩⟩⟩
  · decide +kernel
  · decide +kernel
  · have : ∀ x ∈ [16, 17, 18, 19, 20, 21, 22, 23, 24, 25, 26, 27, 28, 29, 30, 31, 32, 33, 34, 35, 36, 37, 38, 39, 40], 16 ≤ x ∧ x ≤ 40 := by decide
    exact fun x hx => Or.inl (this x hx)
theorem init_b {q : o_M → Prop} (h : ∀ M, I2 6 M → H_X11_init_177 l q 0 36 2040 M) : ∀ m i M, i + m = 6 → I2 i M → H_X11_init_150 l q (nI i) (24 + 2 * i) (1944 + 16 * i) M := by
  intro m
  induction m with
  | zero =>
    intro i M hi hM
    have : i = 6 := by omega
    subst this
    exact w_X11_init_150 l q _ _ _ M ⟨fun _ => h M hM, fun c => absurd (by decide) c⟩
  | succ m ih =>
    intro i M hi hM
    obtain ⟨h1, h2, h3, h4⟩ := hM
    have hn : ∀ x, (x % 128 = 41 ∨ x % 128 = 42) → x / 128 = i → x ∉ mL M := fun x e1 e2 hx => by
      have := h4 x hx
      omega
    refine w_X11_init_150 l q _ _ _ M ⟨fun c => ?_, fun _ => ⟨(h1.1 (16, 4, 21, 6) (by decide)).1, 41 + 128 * i, hn _ (by omega) (by omega), ty41 i, by omega, by omega, by omega, by omega, w_X9_init l _ (ty41 i) _ _ ⟨?_, ?_⟩⟩⟩
    · rw [show (6 : Int32) = nI 6 from rfl, nI_leI (by decide) (by omega)] at c; omega
    · show 41 + 128 * i + 1 ∉ mL M ++ [41 + 128 * i]
      intro hx
      rcases List.mem_append.mp hx with hx | hx
      · exact hn _ (by omega) (by omega) hx
      · have := List.mem_singleton.mp hx; omega
    · have e21 : mN M 21 = 6 := (h1.1 (16, 4, 21, 6) (by decide)).2
      rw [n1, nI_clamp (by omega), show 24 + 2 * i + 1 + 1 = 24 + 2 * (i + 1) by omega, show 1944 + 16 * i + 6 + 10 = 1944 + 16 * (i + 1) by omega]
      refine ⟨by simp (disch := omega) only [true_and, mI_sI_1, mI_sI_2, mI_sI_3, mI_nW_1, mI_nW_2, mI_sR, mI_sJ, mI_sA_1, mI_sA_2, mR_sI, mR_sJ, mR_sA, mR_sR_1, mR_sR_2, mR_sR_3, mR_nW_1, mR_nW_2, mN_sI, mN_sJ, mN_sR, mN_sA, mN_nW_1, mN_nW_2, mJ_sI, mJ_sR, mJ_sA, mJ_sJ_1, mJ_sJ_2, mJ_sJ_3, mJ_nW_1, mJ_nW_2, e21]; exact vin (by omega) (by decide), ih (i + 1) _ (by omega) ⟨oX_k (fun a k ha _ => by simp (disch := omega) only [true_and, mI_sI_1, mI_sI_2, mI_sI_3, mI_nW_1, mI_nW_2, mI_sR, mI_sJ, mI_sA_1, mI_sA_2, mR_sI, mR_sJ, mR_sA, mR_sR_1, mR_sR_2, mR_sR_3, mR_nW_1, mR_nW_2, mN_sI, mN_sJ, mN_sR, mN_sA, mN_nW_1, mN_nW_2, mJ_sI, mJ_sR, mJ_sA, mJ_sJ_1, mJ_sJ_2, mJ_sJ_3, mJ_nW_1, mJ_nW_2]) (fun x hx1 hx2 => by simp (disch := omega) only [true_and, mI_sI_1, mI_sI_2, mI_sI_3, mI_nW_1, mI_nW_2, mI_sR, mI_sJ, mI_sA_1, mI_sA_2, mR_sI, mR_sJ, mR_sA, mR_sR_1, mR_sR_2, mR_sR_3, mR_nW_1, mR_nW_2, mN_sI, mN_sJ, mN_sR, mN_sA, mN_nW_1, mN_nW_2, mJ_sI, mJ_sR, mJ_sA, mJ_sJ_1, mJ_sJ_2, mJ_sJ_3, mJ_nW_1, mJ_nW_2]) h1, ?_, fun y hy => ?_, fun x hx => ?_⟩⟩
      · obtain ⟨a1, a2, a3, a4, a5, a6, a7⟩ := h2
        exact ⟨by simp (disch := omega) only [true_and, mI_sI_1, mI_sI_2, mI_sI_3, mI_nW_1, mI_nW_2, mI_sR, mI_sJ, mI_sA_1, mI_sA_2, mR_sI, mR_sJ, mR_sA, mR_sR_1, mR_sR_2, mR_sR_3, mR_nW_1, mR_nW_2, mN_sI, mN_sJ, mN_sR, mN_sA, mN_nW_1, mN_nW_2, mJ_sI, mJ_sR, mJ_sA, mJ_sJ_1, mJ_sJ_2, mJ_sJ_3, mJ_nW_1, mJ_nW_2]; exact a1, by simp (disch := omega) only [true_and, mI_sI_1, mI_sI_2, mI_sI_3, mI_nW_1, mI_nW_2, mI_sR, mI_sJ, mI_sA_1, mI_sA_2, mR_sI, mR_sJ, mR_sA, mR_sR_1, mR_sR_2, mR_sR_3, mR_nW_1, mR_nW_2, mN_sI, mN_sJ, mN_sR, mN_sA, mN_nW_1, mN_nW_2, mJ_sI, mJ_sR, mJ_sA, mJ_sJ_1, mJ_sJ_2, mJ_sJ_3, mJ_nW_1, mJ_nW_2]; exact a2, by simp (disch := omega) only [true_and, mI_sI_1, mI_sI_2, mI_sI_3, mI_nW_1, mI_nW_2, mI_sR, mI_sJ, mI_sA_1, mI_sA_2, mR_sI, mR_sJ, mR_sA, mR_sR_1, mR_sR_2, mR_sR_3, mR_nW_1, mR_nW_2, mN_sI, mN_sJ, mN_sR, mN_sA, mN_nW_1, mN_nW_2, mJ_sI, mJ_sR, mJ_sA, mJ_sJ_1, mJ_sJ_2, mJ_sJ_3, mJ_nW_1, mJ_nW_2]; exact a3, by simp (disch := omega) only [true_and, mI_sI_1, mI_sI_2, mI_sI_3, mI_nW_1, mI_nW_2, mI_sR, mI_sJ, mI_sA_1, mI_sA_2, mR_sI, mR_sJ, mR_sA, mR_sR_1, mR_sR_2, mR_sR_3, mR_nW_1, mR_nW_2, mN_sI, mN_sJ, mN_sR, mN_sA, mN_nW_1, mN_nW_2, mJ_sI, mJ_sR, mJ_sA, mJ_sJ_1, mJ_sJ_2, mJ_sJ_3, mJ_nW_1, mJ_nW_2]; exact a4, by simp (disch := omega) only [true_and, mI_sI_1, mI_sI_2, mI_sI_3, mI_nW_1, mI_nW_2, mI_sR, mI_sJ, mI_sA_1, mI_sA_2, mR_sI, mR_sJ, mR_sA, mR_sR_1, mR_sR_2, mR_sR_3, mR_nW_1, mR_nW_2, mN_sI, mN_sJ, mN_sR, mN_sA, mN_nW_1, mN_nW_2, mJ_sI, mJ_sR, mJ_sA, mJ_sJ_1, mJ_sJ_2, mJ_sJ_3, mJ_nW_1, mJ_nW_2]; exact a5, by simp (disch := omega) only [true_and, mI_sI_1, mI_sI_2, mI_sI_3, mI_nW_1, mI_nW_2, mI_sR, mI_sJ, mI_sA_1, mI_sA_2, mR_sI, mR_sJ, mR_sA, mR_sR_1, mR_sR_2, mR_sR_3, mR_nW_1, mR_nW_2, mN_sI, mN_sJ, mN_sR, mN_sA, mN_nW_1, mN_nW_2, mJ_sI, mJ_sR, mJ_sA, mJ_sJ_1, mJ_sJ_2, mJ_sJ_3, mJ_nW_1, mJ_nW_2]; exact a6, by simp (disch := omega) only [true_and, mI_sI_1, mI_sI_2, mI_sI_3, mI_nW_1, mI_nW_2, mI_sR, mI_sJ, mI_sA_1, mI_sA_2, mR_sI, mR_sJ, mR_sA, mR_sR_1, mR_sR_2, mR_sR_3, mR_nW_1, mR_nW_2, mN_sI, mN_sJ, mN_sR, mN_sA, mN_nW_1, mN_nW_2, mJ_sI, mJ_sR, mJ_sA, mJ_sJ_1, mJ_sJ_2, mJ_sJ_3, mJ_nW_1, mJ_nW_2]; exact a7⟩
      · by_cases e : y = i
        · subst e
          refine ⟨by simp (disch := omega) only [true_and, mI_sI_1, mI_sI_2, mI_sI_3, mI_nW_1, mI_nW_2, mI_sR, mI_sJ, mI_sA_1, mI_sA_2, mR_sI, mR_sJ, mR_sA, mR_sR_1, mR_sR_2, mR_sR_3, mR_nW_1, mR_nW_2, mN_sI, mN_sJ, mN_sR, mN_sA, mN_nW_1, mN_nW_2, mJ_sI, mJ_sR, mJ_sA, mJ_sJ_1, mJ_sJ_2, mJ_sJ_3, mJ_nW_1, mJ_nW_2], ?_, ?_, by simp (disch := omega) only [true_and, mI_sI_1, mI_sI_2, mI_sI_3, mI_nW_1, mI_nW_2, mI_sR, mI_sJ, mI_sA_1, mI_sA_2, mR_sI, mR_sJ, mR_sA, mR_sR_1, mR_sR_2, mR_sR_3, mR_nW_1, mR_nW_2, mN_sI, mN_sJ, mN_sR, mN_sA, mN_nW_1, mN_nW_2, mJ_sI, mJ_sR, mJ_sA, mJ_sJ_1, mJ_sJ_2, mJ_sJ_3, mJ_nW_1, mJ_nW_2]⟩
          · rw [show 42 + 128 * y = 41 + 128 * y + 1 by omega]; simp (disch := omega) only [true_and, mI_sI_1, mI_sI_2, mI_sI_3, mI_nW_1, mI_nW_2, mI_sR, mI_sJ, mI_sA_1, mI_sA_2, mR_sI, mR_sJ, mR_sA, mR_sR_1, mR_sR_2, mR_sR_3, mR_nW_1, mR_nW_2, mN_sI, mN_sJ, mN_sR, mN_sA, mN_nW_1, mN_nW_2, mJ_sI, mJ_sR, mJ_sA, mJ_sJ_1, mJ_sJ_2, mJ_sJ_3, mJ_nW_1, mJ_nW_2]
          · rw [show 42 + 128 * y = 41 + 128 * y + 1 by omega]; simp (disch := omega) only [true_and, mI_sI_1, mI_sI_2, mI_sI_3, mI_nW_1, mI_nW_2, mI_sR, mI_sJ, mI_sA_1, mI_sA_2, mR_sI, mR_sJ, mR_sA, mR_sR_1, mR_sR_2, mR_sR_3, mR_nW_1, mR_nW_2, mN_sI, mN_sJ, mN_sR, mN_sA, mN_nW_1, mN_nW_2, mJ_sI, mJ_sR, mJ_sA, mJ_sJ_1, mJ_sJ_2, mJ_sJ_3, mJ_nW_1, mJ_nW_2]
        · obtain ⟨b1, b2, b3, b4⟩ := h3 y (by omega)
          exact ⟨by simp (disch := omega) only [true_and, mI_sI_1, mI_sI_2, mI_sI_3, mI_nW_1, mI_nW_2, mI_sR, mI_sJ, mI_sA_1, mI_sA_2, mR_sI, mR_sJ, mR_sA, mR_sR_1, mR_sR_2, mR_sR_3, mR_nW_1, mR_nW_2, mN_sI, mN_sJ, mN_sR, mN_sA, mN_nW_1, mN_nW_2, mJ_sI, mJ_sR, mJ_sA, mJ_sJ_1, mJ_sJ_2, mJ_sJ_3, mJ_nW_1, mJ_nW_2]; exact b1, by simp (disch := omega) only [true_and, mI_sI_1, mI_sI_2, mI_sI_3, mI_nW_1, mI_nW_2, mI_sR, mI_sJ, mI_sA_1, mI_sA_2, mR_sI, mR_sJ, mR_sA, mR_sR_1, mR_sR_2, mR_sR_3, mR_nW_1, mR_nW_2, mN_sI, mN_sJ, mN_sR, mN_sA, mN_nW_1, mN_nW_2, mJ_sI, mJ_sR, mJ_sA, mJ_sJ_1, mJ_sJ_2, mJ_sJ_3, mJ_nW_1, mJ_nW_2]; exact b2, by simp (disch := omega) only [true_and, mI_sI_1, mI_sI_2, mI_sI_3, mI_nW_1, mI_nW_2, mI_sR, mI_sJ, mI_sA_1, mI_sA_2, mR_sI, mR_sJ, mR_sA, mR_sR_1, mR_sR_2, mR_sR_3, mR_nW_1, mR_nW_2, mN_sI, mN_sJ, mN_sR, mN_sA, mN_nW_1, mN_nW_2, mJ_sI, mJ_sR, mJ_sA, mJ_sJ_1, mJ_sJ_2, mJ_sJ_3, mJ_nW_1, mJ_nW_2]; exact b3, by simp (disch := omega) only [true_and, mI_sI_1, mI_sI_2, mI_sI_3, mI_nW_1, mI_nW_2, mI_sR, mI_sJ, mI_sA_1, mI_sA_2, mR_sI, mR_sJ, mR_sA, mR_sR_1, mR_sR_2, mR_sR_3, mR_nW_1, mR_nW_2, mN_sI, mN_sJ, mN_sR, mN_sA, mN_nW_1, mN_nW_2, mJ_sI, mJ_sR, mJ_sA, mJ_sJ_1, mJ_sJ_2, mJ_sJ_3, mJ_nW_1, mJ_nW_2]; exact b4⟩
      · replace hx : x ∈ mL M ++ [41 + 128 * i] ++ [41 + 128 * i + 1] := hx
        simp only [List.mem_append, List.mem_singleton] at hx
        rcases hx with (hx | hx) | hx
        · have := h4 x hx; omega
        · omega
        · omega
/-- what the class's constructor leaves behind -/
def CN (N : o_M) (S : Nat → Sta) : Prop := wX N ∧ (mI N 16 11 = 0 ∧ mI N 16 12 = 0 ∧ mI N 16 13 = 0 ∧ mI N 16 14 = 1 ∧ mI N 16 15 = 0 ∧ mI N 16 16 = 1 ∧ mI N 16 17 = 0) ∧ IY N 6 ∧
  (∀ x ∈ mL N, (16 ≤ x ∧ x ≤ 40) ∨ ((x % 128 = 41 ∨ x % 128 = 42) ∧ x / 128 < 6) ∨ (51 ≤ x ∧ x ≤ 54)) ∧
  mR N 20 0 = some 51 ∧ mR N 51 0 = some 52 ∧ mR N 51 1 = some 53 ∧ mR N 51 2 = some 54 ∧ mI N 51 3 = 0 ∧ mI N 51 4 = 0 ∧ mI N 51 5 = 1 ∧ mN N 52 = 28 ∧ (∀ j, j < 28 → mI N 52 j = sgb (fbt j)) ∧ mN N 53 = tcs (xp fbt 28 25 (S 2)) ∧ (∀ c, c < tcs (xp fbt 28 25 (S 2)) → cod (mI N 53 c) (nI (tco (xp fbt 28 25 (S 2)) c)) (nI (tcw (xp fbt 28 25 (S 2)) c))) ∧ mN N 54 = 2 ∧ ∀ j, j < 2 → mI N 54 j = nI (tcs (S (j + 1)))
theorem cJ_length0 (q : Int32 → o_M → Prop) (h : q (nI 28) M) : K_J0_length_8abf5 l [rV (some 1)] M q := by
  have e : Int32.ofNat (o_ln 0) >>> ((0 : Int32) &&& 31) = nI 28 := by decide
  refine w_J0_length_8abf5 l 0 (by decide) M q (w_J0_coder_7d493 l 0 (by decide) M _ ?_)
  rw [e]; exact h
theorem init_c {q : o_M → Prop} {S : Nat → Sta} (R : Run fbt 28 0 S) (tE : ttk (xp fbt 28 25 (S 2)) ≠ 27) (h : ∀ N, CN N S → q N) : ∀ m i M, i + m = 28 → I2 6 M → (∀ j, j < i → mI M 22 j = sgb (fbt j)) → H_X11_init_177 l q (nI i) 36 2040 M := by
  intro m
  induction m with
  | zero =>
    intro i M hi hM hb
    have : i = 28 := by omega
    subst this
    obtain ⟨h1, h2, h3, h4⟩ := hM
    obtain ⟨a1, a2, a3, a4, a5, a6, a7⟩ := h2
    refine w_X11_init_177 l q _ _ _ M ⟨by decide, by decide, cJ_length0 _ ⟨fun _ => ⟨by decide, by decide, cJ_length0 _ ?_⟩, fun c => absurd (by decide) c⟩⟩
    have e15 : mI (sI M 16 15 (nI 28)) 16 15 = nI 28 := mI_sI_3
    rw [e15]
    refine ⟨h1.2 (6, 23) (by decide), (h1.1 (16, 5, 22, 300) (by decide)).1, by decide, by decide, ?_⟩
    refine c3_readTape R (M := sI M 16 15 (nI 28)) (by decide) (h1.1 (23, 0, 24, 300) (by decide)).1 (h1.1 (23, 1, 25, 10) (by decide)).1 (h1.1 (23, 0, 24, 300) (by decide)).2 (h1.1 (23, 1, 25, 10) (by decide)).2 (h1.1 (16, 5, 22, 300) (by decide)).2 (fun i hi => ⟨(fbt_e i hi).1, by simp (disch := omega) only [true_and, mI_sI_1, mI_sI_2, mI_sI_3, mI_nW_1, mI_nW_2, mI_sR, mI_sJ, mI_sA_1, mI_sA_2, mR_sI, mR_sJ, mR_sA, mR_sR_1, mR_sR_2, mR_sR_3, mR_nW_1, mR_nW_2, mN_sI, mN_sJ, mN_sR, mN_sA, mN_nW_1, mN_nW_2, mJ_sI, mJ_sR, mJ_sA, mJ_sJ_1, mJ_sJ_2, mJ_sJ_3, mJ_nW_1, mJ_nW_2]; exact hb i hi⟩) _ (fun N f1 f2 f3 => ⟨by decide, by decide, ?_⟩)
    obtain ⟨g5, g25⟩ := f3 tE
    obtain ⟨n4, hn4, e4, e4'⟩ := f2.2.1
    have hn4' := e4' tE
    subst hn4'
    have eR : ∀ a j, ¬ (a = 23 ∧ j = 2) → mR N a j = mR M a j := fun a j hh => by
      rw [f1.2.2.1, mR_sR, if_neg hh]; rfl
    have eI : ∀ a j, ¬ PZ a j → ¬ (a = 16 ∧ j = 15) → mI N a j = mI M a j := fun a j hh hh2 => by
      rw [f1.1 a j hh]
      show mI (sI M 16 15 (nI 28)) a j = _
      rw [mI_sI, if_neg hh2]
    have eN : ∀ a, mN N a = mN M a := fun a => by rw [f1.2.2.2.1]; rfl
    have eL : mL N = mL M := f1.2.2.2.2
    have hXN : wX N := by
      have := oX_k (M := M) (N := N) (fun a k _ hh => eR a k hh) (fun x _ _ => eN x) h1
      refine ⟨this.1, this.2, ?_⟩
      rw [f1.2.2.1]; exact mR_sR_3
    refine c11_keep hXN (t := 0) (p := 0) (by decide) (z := 28) (by decide) hn4 (by decide) (by rw [eI 16 14 (by unfold PZ; omega) (by omega)]; exact a4) (by rw [f1.1 16 15 (by unfold PZ; omega)]; simp (disch := omega) only [true_and, mI_sI_1, mI_sI_2, mI_sI_3, mI_nW_1, mI_nW_2, mI_sR, mI_sJ, mI_sA_1, mI_sA_2, mR_sI, mR_sJ, mR_sA, mR_sR_1, mR_sR_2, mR_sR_3, mR_nW_1, mR_nW_2, mN_sI, mN_sJ, mN_sR, mN_sA, mN_nW_1, mN_nW_2, mJ_sI, mJ_sR, mJ_sA, mJ_sJ_1, mJ_sJ_2, mJ_sJ_3, mJ_nW_1, mJ_nW_2]) e4 g5 (fun x hx1 hx2 hx => ?_) (fun j hj => ?_) _ (fun N1 hK => ⟨by decide, by decide, ?_⟩)
    · rw [eL] at hx
      have := h4 x hx
      omega
    · rw [eI 22 j (by unfold PZ; omega) (by omega), hb j hj]; exact pk_fb _
    obtain ⟨q1, q2, q3, q4, k3, k4, k5, k6, k7, k8, k9, k10, k11, k12, k13, k14⟩ := hK
    have hXN1 : wX N1 := wX_k (fun a k ha => (q1 a (by omega)).2.2.1 k (by omega)) (fun x hx1 hx2 => (q1 x (by omega)).2.2.2) hXN
    have nI1 : ∀ a j, ¬ (51 ≤ a ∧ a ≤ 54) → ¬ (a = 16 ∧ j = 14) → mI N1 a j = mI N a j := fun a j hh1 hh2 => (q1 a (by omega)).1 j hh2
    have e16 : mI (sI N1 16 15 0) 16 16 = 0 := by simp (disch := omega) only [true_and, mI_sI_1, mI_sI_2, mI_sI_3, mI_nW_1, mI_nW_2, mI_sR, mI_sJ, mI_sA_1, mI_sA_2, mR_sI, mR_sJ, mR_sA, mR_sR_1, mR_sR_2, mR_sR_3, mR_nW_1, mR_nW_2, mN_sI, mN_sJ, mN_sR, mN_sA, mN_nW_1, mN_nW_2, mJ_sI, mJ_sR, mJ_sA, mJ_sJ_1, mJ_sJ_2, mJ_sJ_3, mJ_nW_1, mJ_nW_2]; rw [nI1 16 16 (by omega) (by omega), eI 16 16 (by unfold PZ; omega) (by omega)]; exact a6
    have q3' : mR N1 20 0 = some 51 := q3
    refine w_X11_tellForce l _ _ _ _ ?_
    rw [e16, show (0 : Int32) + 1 = 1 from by decide, show (0 : Int32).toNatClampNeg = 0 from by decide]
    refine ⟨xr16_3 hXN1, by show vp_in _ (mN N1 20); rw [xn20 hXN1]; exact vin (j := 0) (by decide) (by decide), 51, q3', ty51 0, xr16_3 hXN1, by show vp_in _ (mN N1 20); rw [xn20 hXN1]; exact vin (j := 0) (by decide) (by decide), 51, q3', ty51 0, by decide, by decide, h _ ?_⟩
    have kc := (f2.2.2.2 tE).2.2.2.2.2.2
    refine ⟨wX_k (fun a k ha => rfl) (fun x hx1 hx2 => rfl) hXN1, ⟨?_, ?_, ?_, ?_, ?_, ?_, ?_⟩, fun y hy => ?_, fun x hx => ?_, q3', k3, k4, k5, ?_, ?_, ?_, k9, fun j hj => ?_, k11, fun c hc => ?_, k13, fun j hj => ?_⟩
    · simp (disch := omega) only [true_and, mI_sI_1, mI_sI_2, mI_sI_3, mI_nW_1, mI_nW_2, mI_sR, mI_sJ, mI_sA_1, mI_sA_2, mR_sI, mR_sJ, mR_sA, mR_sR_1, mR_sR_2, mR_sR_3, mR_nW_1, mR_nW_2, mN_sI, mN_sJ, mN_sR, mN_sA, mN_nW_1, mN_nW_2, mJ_sI, mJ_sR, mJ_sA, mJ_sJ_1, mJ_sJ_2, mJ_sJ_3, mJ_nW_1, mJ_nW_2]; rw [nI1 16 11 (by omega) (by omega), eI 16 11 (by unfold PZ; omega) (by omega)]; exact a1
    · simp (disch := omega) only [true_and, mI_sI_1, mI_sI_2, mI_sI_3, mI_nW_1, mI_nW_2, mI_sR, mI_sJ, mI_sA_1, mI_sA_2, mR_sI, mR_sJ, mR_sA, mR_sR_1, mR_sR_2, mR_sR_3, mR_nW_1, mR_nW_2, mN_sI, mN_sJ, mN_sR, mN_sA, mN_nW_1, mN_nW_2, mJ_sI, mJ_sR, mJ_sA, mJ_sJ_1, mJ_sJ_2, mJ_sJ_3, mJ_nW_1, mJ_nW_2]; rw [nI1 16 12 (by omega) (by omega), eI 16 12 (by unfold PZ; omega) (by omega)]; exact a2
    · simp (disch := omega) only [true_and, mI_sI_1, mI_sI_2, mI_sI_3, mI_nW_1, mI_nW_2, mI_sR, mI_sJ, mI_sA_1, mI_sA_2, mR_sI, mR_sJ, mR_sA, mR_sR_1, mR_sR_2, mR_sR_3, mR_nW_1, mR_nW_2, mN_sI, mN_sJ, mN_sR, mN_sA, mN_nW_1, mN_nW_2, mJ_sI, mJ_sR, mJ_sA, mJ_sJ_1, mJ_sJ_2, mJ_sJ_3, mJ_nW_1, mJ_nW_2]; rw [nI1 16 13 (by omega) (by omega), eI 16 13 (by unfold PZ; omega) (by omega)]; exact a3
    · simp (disch := omega) only [true_and, mI_sI_1, mI_sI_2, mI_sI_3, mI_nW_1, mI_nW_2, mI_sR, mI_sJ, mI_sA_1, mI_sA_2, mR_sI, mR_sJ, mR_sA, mR_sR_1, mR_sR_2, mR_sR_3, mR_nW_1, mR_nW_2, mN_sI, mN_sJ, mN_sR, mN_sA, mN_nW_1, mN_nW_2, mJ_sI, mJ_sR, mJ_sA, mJ_sJ_1, mJ_sJ_2, mJ_sJ_3, mJ_nW_1, mJ_nW_2]; exact q2
    · simp (disch := omega) only [true_and, mI_sI_1, mI_sI_2, mI_sI_3, mI_nW_1, mI_nW_2, mI_sR, mI_sJ, mI_sA_1, mI_sA_2, mR_sI, mR_sJ, mR_sA, mR_sR_1, mR_sR_2, mR_sR_3, mR_nW_1, mR_nW_2, mN_sI, mN_sJ, mN_sR, mN_sA, mN_nW_1, mN_nW_2, mJ_sI, mJ_sR, mJ_sA, mJ_sJ_1, mJ_sJ_2, mJ_sJ_3, mJ_nW_1, mJ_nW_2]
    · simp (disch := omega) only [true_and, mI_sI_1, mI_sI_2, mI_sI_3, mI_nW_1, mI_nW_2, mI_sR, mI_sJ, mI_sA_1, mI_sA_2, mR_sI, mR_sJ, mR_sA, mR_sR_1, mR_sR_2, mR_sR_3, mR_nW_1, mR_nW_2, mN_sI, mN_sJ, mN_sR, mN_sA, mN_nW_1, mN_nW_2, mJ_sI, mJ_sR, mJ_sA, mJ_sJ_1, mJ_sJ_2, mJ_sJ_3, mJ_nW_1, mJ_nW_2]
    · simp (disch := omega) only [true_and, mI_sI_1, mI_sI_2, mI_sI_3, mI_nW_1, mI_nW_2, mI_sR, mI_sJ, mI_sA_1, mI_sA_2, mR_sI, mR_sJ, mR_sA, mR_sR_1, mR_sR_2, mR_sR_3, mR_nW_1, mR_nW_2, mN_sI, mN_sJ, mN_sR, mN_sA, mN_nW_1, mN_nW_2, mJ_sI, mJ_sR, mJ_sA, mJ_sJ_1, mJ_sJ_2, mJ_sJ_3, mJ_nW_1, mJ_nW_2]; rw [nI1 16 17 (by omega) (by omega), eI 16 17 (by unfold PZ; omega) (by omega)]; exact a7
    · obtain ⟨b1, b2, b3, b4⟩ := h3 y hy
      refine ⟨?_, ?_, ?_, ?_⟩
      · show mR N1 21 y = _
        rw [(q1 21 (by omega)).2.2.1 y (by omega), eR 21 y (by omega)]; exact b1
      · show mR N1 (41 + 128 * y) 0 = _
        rw [(q1 _ (by omega)).2.2.1 0 (by omega), eR _ 0 (by omega)]; exact b2
      · show mN N1 (42 + 128 * y) = _
        rw [(q1 _ (by omega)).2.2.2, eN]; exact b3
      · simp (disch := omega) only [true_and, mI_sI_1, mI_sI_2, mI_sI_3, mI_nW_1, mI_nW_2, mI_sR, mI_sJ, mI_sA_1, mI_sA_2, mR_sI, mR_sJ, mR_sA, mR_sR_1, mR_sR_2, mR_sR_3, mR_nW_1, mR_nW_2, mN_sI, mN_sJ, mN_sR, mN_sA, mN_nW_1, mN_nW_2, mJ_sI, mJ_sR, mJ_sA, mJ_sJ_1, mJ_sJ_2, mJ_sJ_3, mJ_nW_1, mJ_nW_2]; rw [nI1 _ _ (by omega) (by omega), eI _ _ (by unfold PZ; omega) (by omega)]; exact b4
    · replace hx : x ∈ mL N1 := hx
      rw [q4, eL] at hx
      simp only [List.mem_append, List.mem_singleton] at hx
      rcases hx with (((hx | hx) | hx) | hx) | hx
      · have := h4 x hx; omega
      all_goals omega
    · simp (disch := omega) only [true_and, mI_sI_1, mI_sI_2, mI_sI_3, mI_nW_1, mI_nW_2, mI_sR, mI_sJ, mI_sA_1, mI_sA_2, mR_sI, mR_sJ, mR_sA, mR_sR_1, mR_sR_2, mR_sR_3, mR_nW_1, mR_nW_2, mN_sI, mN_sJ, mN_sR, mN_sA, mN_nW_1, mN_nW_2, mJ_sI, mJ_sR, mJ_sA, mJ_sJ_1, mJ_sJ_2, mJ_sJ_3, mJ_nW_1, mJ_nW_2]; exact k6
    · simp (disch := omega) only [true_and, mI_sI_1, mI_sI_2, mI_sI_3, mI_nW_1, mI_nW_2, mI_sR, mI_sJ, mI_sA_1, mI_sA_2, mR_sI, mR_sJ, mR_sA, mR_sR_1, mR_sR_2, mR_sR_3, mR_nW_1, mR_nW_2, mN_sI, mN_sJ, mN_sR, mN_sA, mN_nW_1, mN_nW_2, mJ_sI, mJ_sR, mJ_sA, mJ_sJ_1, mJ_sJ_2, mJ_sJ_3, mJ_nW_1, mJ_nW_2]
    · simp (disch := omega) only [true_and, mI_sI_1, mI_sI_2, mI_sI_3, mI_nW_1, mI_nW_2, mI_sR, mI_sJ, mI_sA_1, mI_sA_2, mR_sI, mR_sJ, mR_sA, mR_sR_1, mR_sR_2, mR_sR_3, mR_nW_1, mR_nW_2, mN_sI, mN_sJ, mN_sR, mN_sA, mN_nW_1, mN_nW_2, mJ_sI, mJ_sR, mJ_sA, mJ_sJ_1, mJ_sJ_2, mJ_sJ_3, mJ_nW_1, mJ_nW_2]
    · simp (disch := omega) only [true_and, mI_sI_1, mI_sI_2, mI_sI_3, mI_nW_1, mI_nW_2, mI_sR, mI_sJ, mI_sA_1, mI_sA_2, mR_sI, mR_sJ, mR_sA, mR_sR_1, mR_sR_2, mR_sR_3, mR_nW_1, mR_nW_2, mN_sI, mN_sJ, mN_sR, mN_sA, mN_nW_1, mN_nW_2, mJ_sI, mJ_sR, mJ_sA, mJ_sJ_1, mJ_sJ_2, mJ_sJ_3, mJ_nW_1, mJ_nW_2]
      rw [show mI N1 52 j = mI N 22 j from k10 j hj, eI 22 j (by unfold PZ; omega) (by omega)]; exact hb j hj
    · simp (disch := omega) only [true_and, mI_sI_1, mI_sI_2, mI_sI_3, mI_nW_1, mI_nW_2, mI_sR, mI_sJ, mI_sA_1, mI_sA_2, mR_sI, mR_sJ, mR_sA, mR_sR_1, mR_sR_2, mR_sR_3, mR_nW_1, mR_nW_2, mN_sI, mN_sJ, mN_sR, mN_sA, mN_nW_1, mN_nW_2, mJ_sI, mJ_sR, mJ_sA, mJ_sJ_1, mJ_sJ_2, mJ_sJ_3, mJ_nW_1, mJ_nW_2]
      rw [show mI N1 53 c = mI N 24 c from k12 c hc]; exact kc c hc
    · simp (disch := omega) only [true_and, mI_sI_1, mI_sI_2, mI_sI_3, mI_nW_1, mI_nW_2, mI_sR, mI_sJ, mI_sA_1, mI_sA_2, mR_sI, mR_sJ, mR_sA, mR_sR_1, mR_sR_2, mR_sR_3, mR_nW_1, mR_nW_2, mN_sI, mN_sJ, mN_sR, mN_sA, mN_nW_1, mN_nW_2, mJ_sI, mJ_sR, mJ_sA, mJ_sJ_1, mJ_sJ_2, mJ_sJ_3, mJ_nW_1, mJ_nW_2]
      rw [show mI N1 54 j = mI N 25 j from k14 j hj]; exact g25 j hj
  | succ m ih =>
    intro i M hi hM hb
    obtain ⟨h1, h2, h3, h4⟩ := hM
    have hf := fbt_e i (by omega)
    refine w_X11_init_177 l q _ _ _ M ⟨by decide, by decide, cJ_length0 _ ⟨fun c => ?_, fun _ => ⟨(h1.1 (16, 5, 22, 300) (by decide)).1, by decide, by decide, cJ_charAt (i := 0) (by decide) (by show i < 28; omega) _ ⟨?_, ?_⟩⟩⟩⟩
    · rw [nI_leI (by decide) (by omega)] at c; omega
    · rw [show mN M 22 = 300 from (h1.1 (16, 5, 22, 300) (by decide)).2]; exact vin (by omega) (by decide)
    · rw [nI_clamp (by omega), n1, hf.2]
      refine ih (i + 1) _ (by omega) ⟨oX_k (fun a k _ _ => rfl) (fun x _ _ => rfl) h1, ?_, fun y hy => ?_, fun x hx => h4 x hx⟩ (fun j hj => ?_)
      · obtain ⟨a1, a2, a3, a4, a5, a6, a7⟩ := h2
        exact ⟨by simp (disch := omega) only [true_and, mI_sI_1, mI_sI_2, mI_sI_3, mI_nW_1, mI_nW_2, mI_sR, mI_sJ, mI_sA_1, mI_sA_2, mR_sI, mR_sJ, mR_sA, mR_sR_1, mR_sR_2, mR_sR_3, mR_nW_1, mR_nW_2, mN_sI, mN_sJ, mN_sR, mN_sA, mN_nW_1, mN_nW_2, mJ_sI, mJ_sR, mJ_sA, mJ_sJ_1, mJ_sJ_2, mJ_sJ_3, mJ_nW_1, mJ_nW_2]; exact a1, by simp (disch := omega) only [true_and, mI_sI_1, mI_sI_2, mI_sI_3, mI_nW_1, mI_nW_2, mI_sR, mI_sJ, mI_sA_1, mI_sA_2, mR_sI, mR_sJ, mR_sA, mR_sR_1, mR_sR_2, mR_sR_3, mR_nW_1, mR_nW_2, mN_sI, mN_sJ, mN_sR, mN_sA, mN_nW_1, mN_nW_2, mJ_sI, mJ_sR, mJ_sA, mJ_sJ_1, mJ_sJ_2, mJ_sJ_3, mJ_nW_1, mJ_nW_2]; exact a2, by simp (disch := omega) only [true_and, mI_sI_1, mI_sI_2, mI_sI_3, mI_nW_1, mI_nW_2, mI_sR, mI_sJ, mI_sA_1, mI_sA_2, mR_sI, mR_sJ, mR_sA, mR_sR_1, mR_sR_2, mR_sR_3, mR_nW_1, mR_nW_2, mN_sI, mN_sJ, mN_sR, mN_sA, mN_nW_1, mN_nW_2, mJ_sI, mJ_sR, mJ_sA, mJ_sJ_1, mJ_sJ_2, mJ_sJ_3, mJ_nW_1, mJ_nW_2]; exact a3, by simp (disch := omega) only [true_and, mI_sI_1, mI_sI_2, mI_sI_3, mI_nW_1, mI_nW_2, mI_sR, mI_sJ, mI_sA_1, mI_sA_2, mR_sI, mR_sJ, mR_sA, mR_sR_1, mR_sR_2, mR_sR_3, mR_nW_1, mR_nW_2, mN_sI, mN_sJ, mN_sR, mN_sA, mN_nW_1, mN_nW_2, mJ_sI, mJ_sR, mJ_sA, mJ_sJ_1, mJ_sJ_2, mJ_sJ_3, mJ_nW_1, mJ_nW_2]; exact a4, by simp (disch := omega) only [true_and, mI_sI_1, mI_sI_2, mI_sI_3, mI_nW_1, mI_nW_2, mI_sR, mI_sJ, mI_sA_1, mI_sA_2, mR_sI, mR_sJ, mR_sA, mR_sR_1, mR_sR_2, mR_sR_3, mR_nW_1, mR_nW_2, mN_sI, mN_sJ, mN_sR, mN_sA, mN_nW_1, mN_nW_2, mJ_sI, mJ_sR, mJ_sA, mJ_sJ_1, mJ_sJ_2, mJ_sJ_3, mJ_nW_1, mJ_nW_2]; exact a5, by simp (disch := omega) only [true_and, mI_sI_1, mI_sI_2, mI_sI_3, mI_nW_1, mI_nW_2, mI_sR, mI_sJ, mI_sA_1, mI_sA_2, mR_sI, mR_sJ, mR_sA, mR_sR_1, mR_sR_2, mR_sR_3, mR_nW_1, mR_nW_2, mN_sI, mN_sJ, mN_sR, mN_sA, mN_nW_1, mN_nW_2, mJ_sI, mJ_sR, mJ_sA, mJ_sJ_1, mJ_sJ_2, mJ_sJ_3, mJ_nW_1, mJ_nW_2]; exact a6, by simp (disch := omega) only [true_and, mI_sI_1, mI_sI_2, mI_sI_3, mI_nW_1, mI_nW_2, mI_sR, mI_sJ, mI_sA_1, mI_sA_2, mR_sI, mR_sJ, mR_sA, mR_sR_1, mR_sR_2, mR_sR_3, mR_nW_1, mR_nW_2, mN_sI, mN_sJ, mN_sR, mN_sA, mN_nW_1, mN_nW_2, mJ_sI, mJ_sR, mJ_sA, mJ_sJ_1, mJ_sJ_2, mJ_sJ_3, mJ_nW_1, mJ_nW_2]; exact a7⟩
      · obtain ⟨b1, b2, b3, b4⟩ := h3 y hy
        exact ⟨b1, b2, b3, by simp (disch := omega) only [true_and, mI_sI_1, mI_sI_2, mI_sI_3, mI_nW_1, mI_nW_2, mI_sR, mI_sJ, mI_sA_1, mI_sA_2, mR_sI, mR_sJ, mR_sA, mR_sR_1, mR_sR_2, mR_sR_3, mR_nW_1, mR_nW_2, mN_sI, mN_sJ, mN_sR, mN_sA, mN_nW_1, mN_nW_2, mJ_sI, mJ_sR, mJ_sA, mJ_sJ_1, mJ_sJ_2, mJ_sJ_3, mJ_nW_1, mJ_nW_2]; exact b4⟩
      · by_cases e : j = i
        · subst e; exact mI_sI_3
        · rw [mI_sI_2 (by omega)]; exact hb j (by omega)
theorem c11_init {q : o_M → Prop} {S : Nat → Sta} (R : Run fbt 28 0 S) (tE : ttk (xp fbt 28 25 (S 2)) ≠ 27) (h : ∀ N, CN N S → q N) : K_X11_init l [rV (some 16)] (nW o_M0 16 0) q :=
  init_a (fun M hM => init_b (fun M2 h2 => init_c R tE h 28 0 M2 (by decide) h2 (fun j hj => by omega)) 6 0 M (by decide) hM)
end S791
