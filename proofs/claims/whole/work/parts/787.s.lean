/-! the class reads a whole text -/
section S787
variable {l : Launch} {M N M0 : o_M} {b : Nat → Nat} {z : Nat} {s s1 s' : Sta}
def PT (a j : Nat) : Prop := a = 24 ∨ a = 25 ∨ (a = 23 ∧ j ≠ 3)
def PZ (a j : Nat) : Prop := a = 24 ∨ a = 25 ∨ a = 23
theorem c3_part {key p : Nat} (hk : key < 26) (hB : BX M b z) (hC : CX M M s) (hI : Iv b z s) (hp : tcs s ≤ ph s) (hp10 : p < 10) (h5 : mI M 23 5 = nI p) (hPS : PS b z key s s') (q : o_M → Prop) (hq : ∀ N, CX N N s' → Fi PT M N → mI N 23 5 = nI (p + 1) → (∀ j, j < p → mI N 25 j = mI M 25 j) → (ttk s' ≠ 27 → mI N 25 p = nI (tcs s')) → q N) : K_X3_readPart l [rV (some 23), iV (nI key)] M q := by
  obtain ⟨f, s1, e1, rfl⟩ := hPS
  obtain ⟨x1, x2, x3, x4, x5, x6, x7, x8⟩ := Iv_xp (k := key) hI (by omega)
  have g := pr_ok _ _ (by omega) _ _ x1 e1
  refine w_X3_readPart l _ M q (c3_expect hB hI hC hk _ (fun N1 h1 => ?_))
  refine x3_all hB f 0 (by omega) (xp b z key s) s1 100 0 N1 (fun M2 => _) h1 x1 (by omega) (show 27 ≤ 100 + 0 by omega) (fun _ => show 69 ≤ 100 + 7 * top (xp b z key s) + 0 by omega) (by omega) (fun _ => by omega) e1 (fun N2 h2 => ?_)
  refine c3_expect hB g.1 h2 (k := 18) (by decide) _ (fun N3 h3 => ?_)
  obtain ⟨g1, g2, g3, g4, g5, g6, g7, g8, g9⟩ := CX_B hB h3
  have k5 : mI N3 23 5 = nI p := by rw [h3.1.1 23 5 (by unfold PX; omega)]; exact h5
  have wXT : ∀ a j, PX a j → PT a j := fun a j h => by unfold PX at h; unfold PT; omega
  have hPX := h3.1
  have hF : Fi PT M N3 := Fi_w wXT hPX
  rw [g5, k5, show Int32.ofNat 10 = nI 10 from rfl, nI_leI (by decide) (by omega), nI_clamp (by omega)]
  refine ⟨g2, fun c => by omega, fun _ => ⟨g2, vin (by omega) (by decide), ?_⟩⟩
  obtain ⟨_, ⟨n, h4, h6, h7⟩, h8, h9⟩ := h3
  refine hq _ ⟨Fi_r _ _, ⟨n, h4, by simp (disch := omega) only [true_and, mI_sI_1, mI_sI_2, mI_sI_3, mI_nW_1, mI_nW_2, mI_sR, mI_sJ, mI_sA_1, mI_sA_2, mR_sI, mR_sJ, mR_sA, mR_sR_1, mR_sR_2, mR_sR_3, mR_nW_1, mR_nW_2, mN_sI, mN_sJ, mN_sR, mN_sA, mN_nW_1, mN_nW_2, mJ_sI, mJ_sR, mJ_sA, mJ_sJ_1, mJ_sJ_2, mJ_sJ_3, mJ_nW_1, mJ_nW_2]; exact h6, h7⟩, fun e => ?_, fun e => ?_⟩ (Fi_s (Fi_s hF (by unfold PT; omega)) (by unfold PT; omega)) (by simp (disch := omega) only [true_and, mI_sI_1, mI_sI_2, mI_sI_3, mI_nW_1, mI_nW_2, mI_sR, mI_sJ, mI_sA_1, mI_sA_2, mR_sI, mR_sJ, mR_sA, mR_sR_1, mR_sR_2, mR_sR_3, mR_nW_1, mR_nW_2, mN_sI, mN_sJ, mN_sR, mN_sA, mN_nW_1, mN_nW_2, mJ_sI, mJ_sR, mJ_sA, mJ_sJ_1, mJ_sJ_2, mJ_sJ_3, mJ_nW_1, mJ_nW_2]; rw [k5, n1]) (fun j hj => ?_) (fun e => ?_)
  · simp (disch := omega) only [true_and, mI_sI_1, mI_sI_2, mI_sI_3, mI_nW_1, mI_nW_2, mI_sR, mI_sJ, mI_sA_1, mI_sA_2, mR_sI, mR_sJ, mR_sA, mR_sR_1, mR_sR_2, mR_sR_3, mR_nW_1, mR_nW_2, mN_sI, mN_sJ, mN_sR, mN_sA, mN_nW_1, mN_nW_2, mJ_sI, mJ_sR, mJ_sA, mJ_sJ_1, mJ_sJ_2, mJ_sJ_3, mJ_nW_1, mJ_nW_2]; exact h8 e
  · simp (disch := omega) only [true_and, mI_sI_1, mI_sI_2, mI_sI_3, mI_nW_1, mI_nW_2, mI_sR, mI_sJ, mI_sA_1, mI_sA_2, mR_sI, mR_sJ, mR_sA, mR_sR_1, mR_sR_2, mR_sR_3, mR_nW_1, mR_nW_2, mN_sI, mN_sJ, mN_sR, mN_sA, mN_nW_1, mN_nW_2, mJ_sI, mJ_sR, mJ_sA, mJ_sJ_1, mJ_sJ_2, mJ_sJ_3, mJ_nW_1, mJ_nW_2]; exact h9 e
  · simp (disch := omega) only [true_and, mI_sI_1, mI_sI_2, mI_sI_3, mI_nW_1, mI_nW_2, mI_sR, mI_sJ, mI_sA_1, mI_sA_2, mR_sI, mR_sJ, mR_sA, mR_sR_1, mR_sR_2, mR_sR_3, mR_nW_1, mR_nW_2, mN_sI, mN_sJ, mN_sR, mN_sA, mN_nW_1, mN_nW_2, mJ_sI, mJ_sR, mJ_sA, mJ_sJ_1, mJ_sJ_2, mJ_sJ_3, mJ_nW_1, mJ_nW_2]; rw [hPX.1 25 j (by unfold PX; omega)]
  · simp (disch := omega) only [true_and, mI_sI_1, mI_sI_2, mI_sI_3, mI_nW_1, mI_nW_2, mI_sR, mI_sJ, mI_sA_1, mI_sA_2, mR_sI, mR_sJ, mR_sA, mR_sR_1, mR_sR_2, mR_sR_3, mR_nW_1, mR_nW_2, mN_sI, mN_sJ, mN_sR, mN_sA, mN_nW_1, mN_nW_2, mJ_sI, mJ_sR, mJ_sA, mJ_sJ_1, mJ_sJ_2, mJ_sJ_3, mJ_nW_1, mJ_nW_2]; rw [h6, h7 e]
theorem c3_readTape {k : Nat} {S : Nat → Sta} (R : Run b z k S) (hz : z ≤ 300) (r0 : mR M 23 0 = some 24) (r1 : mR M 23 1 = some 25) (n24 : mN M 24 = 300) (n25 : mN M 25 = 10) (n22 : mN M 22 = 300) (hb : ∀ i, i < z → b i < 256 ∧ mI M 22 i = sgb (b i)) (q : Int32 → o_M → Prop) (hq : ∀ N, Fi PZ (sR M 23 2 (some 22)) N → CX N N (xp b z 25 (S (k + 2))) → (ttk (xp b z 25 (S (k + 2))) ≠ 27 → mI N 23 5 = nI (k + 2) ∧ ∀ j, j < k + 2 → mI N 25 j = nI (tcs (S (j + 1)))) → q (mI N 23 11) N) : K_X3_readTape l [rV (some 23), rV (some 22), iV (nI z)] M q := by
  have hk8 := R.1
  have wTZ : ∀ a j, PT a j → PZ a j := fun a j h => by unfold PT at h; unfold PZ; omega
  have fin : ∀ N, CX N N (S k) → BX N b z → Fi PZ (sR M 23 2 (some 22)) N → mI N 23 5 = nI k → (∀ j, j < k → ttk (S k) ≠ 27 → mI N 25 j = nI (tcs (S (j + 1)))) → K_X3_readPart l [rV (some 23), iV 11] N (fun M3 => K_X3_readPart l [rV (some 23), iV 12] M3 (fun M4 => K_X3_expect l [rV (some 23), iV 25] M4 (fun M5 => q (mI M5 23 11) M5))) := by
    intro N hC hB hF k5 k25
    obtain ⟨i1, i2, i3⟩ := run_iv R k (by omega)
    obtain ⟨j1, j2, j3⟩ := run_iv R (k + 1) (by omega)
    obtain ⟨l1, l2, l3⟩ := run_iv R (k + 2) (by omega)
    have p1 := R.2.2.2.2 k (by omega)
    have p2 := R.2.2.2.2 (k + 1) (by omega)
    rw [show ykey k k = 11 by unfold ykey; rw [if_neg (by omega), if_pos rfl]] at p1
    rw [show ykey k (k + 1) = 12 by unfold ykey; rw [if_neg (by omega), if_neg (by omega)]] at p2
    refine c3_part (key := 11) (by decide) hB hC i1 i2 (by omega) k5 p1 _ (fun N1 a1 a2 a3 a4 a5 => ?_)
    have hB1 : BX N1 b z := BX_f (by unfold PT; omega) (fun j => by unfold PT; omega) a2 hB
    refine c3_part (key := 12) (by decide) hB1 a1 j1 j2 (by omega) a3 p2 _ (fun N2 b1 b2 b3 b4 b5 => ?_)
    have hB2 : BX N2 b z := BX_f (by unfold PT; omega) (fun j => by unfold PT; omega) b2 hB1
    refine c3_expect hB2 l1 b1 (k := 25) (by decide) _ (fun N3 c1 => ?_)
    have hX : Fi PX N2 N3 := c1.1
    refine hq N3 (Fi_t hF (Fi_t (Fi_w wTZ a2) (Fi_t (Fi_w wTZ b2) (Fi_w (fun a j h => by unfold PX at h; unfold PZ; omega) hX)))) ⟨Fi_r _ _, c1.2⟩ (fun t => ?_)
    have t25 := (run_good R hz t).1
    have tg : ttk (S (k + 2)) ≠ 27 := by omega
    obtain ⟨u1, _, _⟩ := run_back R tg 1 (k + 1) (by omega)
    obtain ⟨u2, _, _⟩ := run_back R tg 2 k (by omega)
    refine ⟨by rw [hX.1 23 5 (by unfold PX; omega)]; exact b3, fun j hj => ?_⟩
    rw [hX.1 25 j (by unfold PX; omega)]
    by_cases e2 : j = k + 1
    · subst e2; exact b5 tg
    rw [b4 j (by omega)]
    by_cases e1 : j = k
    · subst e1; exact a5 u1
    rw [a4 j (by omega)]
    exact k25 j (by omega) u2
  have key : ∀ m i N, i + m = k → CX N N (S i) → BX N b z → Fi PZ (sR M 23 2 (some 22)) N → mI N 23 5 = nI i → (∀ j, j < i → ttk (S i) ≠ 27 → mI N 25 j = nI (tcs (S (j + 1)))) → H_X3_readTape_41 l q (nI i) N := by
    intro m
    induction m with
    | zero =>
      intro i N hi hC hB hF k5 k25
      have : i = k := by omega
      subst this
      have i1 := (run_iv R i (by omega)).1
      refine w_X3_readTape_41 l q _ N ⟨fun _ => fin N hC hB hF k5 k25, fun c => ⟨fun _ => fin N hC hB hF k5 k25, fun c2 => ?_⟩⟩
      rw [show (8 : Int32) = nI 8 from rfl, nI_leI (by decide) (by omega)] at c
      exact absurd ((CX_tk i1 hC (k := 10) (by decide)).mp c2) (R.2.2.2.1 (by omega))
    | succ m ih =>
      intro i N hi hC hB hF k5 k25
      have t10 := R.2.2.1 i (by omega)
      obtain ⟨i1, i2, i3⟩ := run_iv R i (by omega)
      have p1 := R.2.2.2.2 i (by omega)
      rw [show ykey k i = 10 by unfold ykey; rw [if_pos (by omega)]] at p1
      have e10 := CX_tk i1 hC (k := 10) (by decide)
      refine w_X3_readTape_41 l q _ N ⟨fun c => ?_, fun _ => ⟨fun c => absurd (e10.mpr t10) c, fun _ => ?_⟩⟩
      · rw [show (8 : Int32) = nI 8 from rfl, nI_leI (by decide) (by omega)] at c; omega
      rw [n1]
      refine c3_part (key := 10) (by decide) hB hC i1 i2 (by omega) k5 p1 _ (fun N1 a1 a2 a3 a4 a5 => ?_)
      have hB1 : BX N1 b z := BX_f (by unfold PT; omega) (fun j => by unfold PT; omega) a2 hB
      refine ih (i + 1) N1 (by omega) a1 hB1 (Fi_t hF (Fi_w wTZ a2)) a3 (fun j hj t => ?_)
      by_cases e : j = i
      · subst e; exact a5 t
      · rw [a4 j (by omega)]; exact k25 j (by omega) (by omega)
  refine w_X3_readTape l _ M q ?_
  have hB0 : BX (sI (sI (sI (sI (sI (sI (sR M 23 2 (some 22)) 23 3 (nI z)) 23 4 0) 23 5 0) 23 9 0) 23 10 0) 23 11 (-1)) b z := by
    refine ⟨?_, ?_, ?_, n24, n25, n22, hz, ?_, fun i hi => ⟨(hb i hi).1, ?_⟩⟩
    · simp (disch := omega) only [true_and, mI_sI_1, mI_sI_2, mI_sI_3, mI_nW_1, mI_nW_2, mI_sR, mI_sJ, mI_sA_1, mI_sA_2, mR_sI, mR_sJ, mR_sA, mR_sR_1, mR_sR_2, mR_sR_3, mR_nW_1, mR_nW_2, mN_sI, mN_sJ, mN_sR, mN_sA, mN_nW_1, mN_nW_2, mJ_sI, mJ_sR, mJ_sA, mJ_sJ_1, mJ_sJ_2, mJ_sJ_3, mJ_nW_1, mJ_nW_2]; exact r0
    · simp (disch := omega) only [true_and, mI_sI_1, mI_sI_2, mI_sI_3, mI_nW_1, mI_nW_2, mI_sR, mI_sJ, mI_sA_1, mI_sA_2, mR_sI, mR_sJ, mR_sA, mR_sR_1, mR_sR_2, mR_sR_3, mR_nW_1, mR_nW_2, mN_sI, mN_sJ, mN_sR, mN_sA, mN_nW_1, mN_nW_2, mJ_sI, mJ_sR, mJ_sA, mJ_sJ_1, mJ_sJ_2, mJ_sJ_3, mJ_nW_1, mJ_nW_2]; exact r1
    · simp (disch := omega) only [true_and, mI_sI_1, mI_sI_2, mI_sI_3, mI_nW_1, mI_nW_2, mI_sR, mI_sJ, mI_sA_1, mI_sA_2, mR_sI, mR_sJ, mR_sA, mR_sR_1, mR_sR_2, mR_sR_3, mR_nW_1, mR_nW_2, mN_sI, mN_sJ, mN_sR, mN_sA, mN_nW_1, mN_nW_2, mJ_sI, mJ_sR, mJ_sA, mJ_sJ_1, mJ_sJ_2, mJ_sJ_3, mJ_nW_1, mJ_nW_2]
    · simp (disch := omega) only [true_and, mI_sI_1, mI_sI_2, mI_sI_3, mI_nW_1, mI_nW_2, mI_sR, mI_sJ, mI_sA_1, mI_sA_2, mR_sI, mR_sJ, mR_sA, mR_sR_1, mR_sR_2, mR_sR_3, mR_nW_1, mR_nW_2, mN_sI, mN_sJ, mN_sR, mN_sA, mN_nW_1, mN_nW_2, mJ_sI, mJ_sR, mJ_sA, mJ_sJ_1, mJ_sJ_2, mJ_sJ_3, mJ_nW_1, mJ_nW_2]
    · simp (disch := omega) only [true_and, mI_sI_1, mI_sI_2, mI_sI_3, mI_nW_1, mI_nW_2, mI_sR, mI_sJ, mI_sA_1, mI_sA_2, mR_sI, mR_sJ, mR_sA, mR_sR_1, mR_sR_2, mR_sR_3, mR_nW_1, mR_nW_2, mN_sI, mN_sJ, mN_sR, mN_sA, mN_nW_1, mN_nW_2, mJ_sI, mJ_sR, mJ_sA, mJ_sJ_1, mJ_sJ_2, mJ_sJ_3, mJ_nW_1, mJ_nW_2]; exact (hb i hi).2
  have hF0 : Fi PZ (sR M 23 2 (some 22)) (sI (sI (sI (sI (sI (sI (sR M 23 2 (some 22)) 23 3 (nI z)) 23 4 0) 23 5 0) 23 9 0) 23 10 0) 23 11 (-1)) := Fi_s (Fi_s (Fi_s (Fi_s (Fi_s (Fi_s (Fi_r _ _) (by unfold PZ; omega)) (by unfold PZ; omega)) (by unfold PZ; omega)) (by unfold PZ; omega)) (by unfold PZ; omega)) (by unfold PZ; omega)
  refine c3_advance hB0 (by simp (disch := omega) only [true_and, mI_sI_1, mI_sI_2, mI_sI_3, mI_nW_1, mI_nW_2, mI_sR, mI_sJ, mI_sA_1, mI_sA_2, mR_sI, mR_sJ, mR_sA, mR_sR_1, mR_sR_2, mR_sR_3, mR_nW_1, mR_nW_2, mN_sI, mN_sJ, mN_sR, mN_sA, mN_nW_1, mN_nW_2, mJ_sI, mJ_sR, mJ_sA, mJ_sJ_1, mJ_sJ_2, mJ_sJ_3, mJ_nW_1, mJ_nW_2]) (n := 0) (by simp (disch := omega) only [true_and, mI_sI_1, mI_sI_2, mI_sI_3, mI_nW_1, mI_nW_2, mI_sR, mI_sJ, mI_sA_1, mI_sA_2, mR_sI, mR_sJ, mR_sA, mR_sR_1, mR_sR_2, mR_sR_3, mR_nW_1, mR_nW_2, mN_sI, mN_sJ, mN_sR, mN_sA, mN_nW_1, mN_nW_2, mJ_sI, mJ_sR, mJ_sA, mJ_sJ_1, mJ_sJ_2, mJ_sJ_3, mJ_nW_1, mJ_nW_2]; rfl) (Nat.zero_le _) _ (fun N f1 f9 f8 f6 f7 => ?_)
  have hl := lex_ok (b := b) (Nat.zero_le z)
  refine key k 0 N (by omega) ?_ (BX_f (by unfold PA; omega) (fun j => by unfold PA; omega) f1 hB0) (Fi_t hF0 (Fi_w (fun a j h => by unfold PA at h; unfold PZ; omega) f1)) ?_ (fun j hj => by omega)
  · rw [R.2.1]
    refine ⟨Fi_r _ _, ⟨0, by omega, ?_, fun _ => rfl⟩, fun e => ?_, fun _ => ⟨f9, f8, f6, f7, ?_, ?_, fun c hc => ?_⟩⟩
    · rw [f1.1 23 4 (by unfold PA; omega)]; simp (disch := omega) only [true_and, mI_sI_1, mI_sI_2, mI_sI_3, mI_nW_1, mI_nW_2, mI_sR, mI_sJ, mI_sA_1, mI_sA_2, mR_sI, mR_sJ, mR_sA, mR_sR_1, mR_sR_2, mR_sR_3, mR_nW_1, mR_nW_2, mN_sI, mN_sJ, mN_sR, mN_sA, mN_nW_1, mN_nW_2, mJ_sI, mJ_sR, mJ_sA, mJ_sJ_1, mJ_sJ_2, mJ_sJ_3, mJ_nW_1, mJ_nW_2]; rfl
    · have e' : (lex b z 0).2.2.1 = 27 := e
      omega
    · rw [f1.1 23 10 (by unfold PA; omega)]; simp (disch := omega) only [true_and, mI_sI_1, mI_sI_2, mI_sI_3, mI_nW_1, mI_nW_2, mI_sR, mI_sJ, mI_sA_1, mI_sA_2, mR_sI, mR_sJ, mR_sA, mR_sR_1, mR_sR_2, mR_sR_3, mR_nW_1, mR_nW_2, mN_sI, mN_sJ, mN_sR, mN_sA, mN_nW_1, mN_nW_2, mJ_sI, mJ_sR, mJ_sA, mJ_sJ_1, mJ_sJ_2, mJ_sJ_3, mJ_nW_1, mJ_nW_2]; rfl
    · rw [f1.1 23 11 (by unfold PA; omega)]; simp (disch := omega) only [true_and, mI_sI_1, mI_sI_2, mI_sI_3, mI_nW_1, mI_nW_2, mI_sR, mI_sJ, mI_sA_1, mI_sA_2, mR_sI, mR_sJ, mR_sA, mR_sR_1, mR_sR_2, mR_sR_3, mR_nW_1, mR_nW_2, mN_sI, mN_sJ, mN_sR, mN_sA, mN_nW_1, mN_nW_2, mJ_sI, mJ_sR, mJ_sA, mJ_sJ_1, mJ_sJ_2, mJ_sJ_3, mJ_nW_1, mJ_nW_2]
    · rw [tcs_adv] at hc; exact absurd hc (by show ¬ c < 0; omega)
  · rw [f1.1 23 5 (by unfold PA; omega)]; simp (disch := omega) only [true_and, mI_sI_1, mI_sI_2, mI_sI_3, mI_nW_1, mI_nW_2, mI_sR, mI_sJ, mI_sA_1, mI_sA_2, mR_sI, mR_sJ, mR_sA, mR_sR_1, mR_sR_2, mR_sR_3, mR_nW_1, mR_nW_2, mN_sI, mN_sJ, mN_sR, mN_sA, mN_nW_1, mN_nW_2, mJ_sI, mJ_sR, mJ_sA, mJ_sJ_1, mJ_sJ_2, mJ_sJ_3, mJ_nW_1, mJ_nW_2]; rfl
/-- what keeping a text leaves behind -/
def KT (M N : o_M) (t z cs p : Nat) : Prop :=
  (∀ a, ¬ (51 + 128 * t ≤ a ∧ a ≤ 54 + 128 * t) → (∀ j, ¬ (a = 16 ∧ j = 14) → mI N a j = mI M a j) ∧ (∀ j, mJ N a j = mJ M a j) ∧ (∀ j, ¬ (a = 20 ∧ j = t) → mR N a j = mR M a j) ∧ mN N a = mN M a) ∧
  mI N 16 14 = nI (t + 1) ∧ mR N 20 t = some (51 + 128 * t) ∧ mL N = mL M ++ [52 + 128 * t] ++ [53 + 128 * t] ++ [54 + 128 * t] ++ [51 + 128 * t] ∧
  mR N (51 + 128 * t) 0 = some (52 + 128 * t) ∧ mR N (51 + 128 * t) 1 = some (53 + 128 * t) ∧ mR N (51 + 128 * t) 2 = some (54 + 128 * t) ∧
  mI N (51 + 128 * t) 3 = nI p ∧ mI N (51 + 128 * t) 4 = 0 ∧ mI N (51 + 128 * t) 5 = 0 ∧
  mN N (52 + 128 * t) = z ∧ (∀ j, j < z → mI N (52 + 128 * t) j = mI M 22 j) ∧ mN N (53 + 128 * t) = cs ∧ (∀ j, j < cs → mI N (53 + 128 * t) j = mI M 24 j) ∧ mN N (54 + 128 * t) = p + 2 ∧ ∀ j, j < p + 2 → mI N (54 + 128 * t) j = mI M 25 j
theorem ty52 (i : Nat) : o_ty (52 + 128 * i) = .inr .byte := by
  have : (52 + 128 * i) % 128 = 52 := by omega
  unfold o_ty; rw [this]; rfl
theorem ty53 (i : Nat) : o_ty (53 + 128 * i) = .inr .int := by
  have : (53 + 128 * i) % 128 = 53 := by omega
  unfold o_ty; rw [this]; rfl
theorem ty54 (i : Nat) : o_ty (54 + 128 * i) = .inr .int := by
  have : (54 + 128 * i) % 128 = 54 := by omega
  unfold o_ty; rw [this]; rfl
theorem c11_keep (hX : wX M) {t z cs p : Nat} (ht : t < 10) (hz : z ≤ 300) (hcs : cs ≤ 300) (hp : p ≤ 8) (h14 : mI M 16 14 = nI t) (h15 : mI M 16 15 = nI z) (h4 : mI M 23 4 = nI cs) (h5 : mI M 23 5 = nI (p + 2)) (hn : ∀ x, 51 + 128 * t ≤ x → x ≤ 54 + 128 * t → x ∉ mL M) (hfit : ∀ j, j < z → fits .byte (.int (mI M 22 j)) = true) (q : o_M → Prop) (hq : ∀ N, KT M N t z cs p → q N) : K_X11_keepReadText l [rV (some 16)] M q := by
  have hmin : ∀ (x y : Int32) (M : o_M) (q : Int32 → o_M → Prop), q (if x ≤ y then x else y) M → K_J9_min_7cf53 l [iV x, iV y] M q := fun x y M q h => cJ_min x y q h
  refine w_X11_keepReadText l M q ⟨xr16_5 hX, ?_⟩
  refine w_J7_copyOf_9075b l 22 (52 + 128 * t) z _ rfl (ty52 t) M (hn _ (by omega) (by omega)) (by omega) h15 hz (by rw [xn22 hX]; omega) (by rw [xn22 hX]; decide) hfit hmin _ (fun M2 c1 => ?_)
  obtain ⟨a1, a2, a3, a4⟩ := c1
  have r2 : ∀ a j, a ≠ 52 + 128 * t → mR M2 a j = mR M a j := fun a j h => (a4 a h).2.2.1 j
  have i2 : ∀ a j, a ≠ 52 + 128 * t → mI M2 a j = mI M a j := fun a j h => (a4 a h).1 j
  have n2 : ∀ a, a ≠ 52 + 128 * t → mN M2 a = mN M a := fun a h => (a4 a h).2.2.2
  refine ⟨by rw [r2 16 6 (by omega)]; exact xo6 hX, by rw [r2 23 0 (by omega)]; exact xr23_0 hX, by rw [r2 16 6 (by omega)]; exact xo6 hX, ?_⟩
  refine w_J7_copyOf_59c91 l 24 (53 + 128 * t) cs _ rfl (ty53 t) M2 (by rw [a1]; intro h; rcases List.mem_append.mp h with h | h; exact hn _ (by omega) (by omega) h; have := List.mem_singleton.mp h; omega) (by omega) (by rw [i2 23 4 (by omega)]; exact h4) hcs (by rw [n2 24 (by omega), xn24 hX]; omega) (by rw [n2 24 (by omega), xn24 hX]; decide) (fun j _ => rfl) hmin _ (fun M7 c2 => ?_)
  obtain ⟨b1, b2, b3, b4⟩ := c2
  have r7 : ∀ a j, a ≠ 52 + 128 * t → a ≠ 53 + 128 * t → mR M7 a j = mR M a j := fun a j h h' => ((b4 a h').2.2.1 j).trans (r2 a j h)
  have i7 : ∀ a j, a ≠ 52 + 128 * t → a ≠ 53 + 128 * t → mI M7 a j = mI M a j := fun a j h h' => ((b4 a h').1 j).trans (i2 a j h)
  have n7 : ∀ a, a ≠ 52 + 128 * t → a ≠ 53 + 128 * t → mN M7 a = mN M a := fun a h h' => (b4 a h').2.2.2.trans (n2 a h)
  refine ⟨by rw [r7 16 6 (by omega) (by omega)]; exact xo6 hX, by rw [r7 23 1 (by omega) (by omega)]; exact xr23_1 hX, by rw [r7 16 6 (by omega) (by omega)]; exact xo6 hX, ?_⟩
  have l7 : mL M7 = mL M ++ [52 + 128 * t] ++ [53 + 128 * t] := by rw [b1, a1]
  refine w_J7_copyOf_59c91 l 25 (54 + 128 * t) (p + 2) _ rfl (ty54 t) M7 (by rw [l7]; simp only [List.mem_append, List.mem_singleton]; intro h; rcases h with (h | h) | h; exact hn _ (by omega) (by omega) h; omega; omega) (by omega) (by rw [i7 23 5 (by omega) (by omega)]; exact h5) (by omega) (by rw [n7 25 (by omega) (by omega), xn25 hX]; omega) (by rw [n7 25 (by omega) (by omega), xn25 hX]; decide) (fun j _ => rfl) hmin _ (fun M12 c3 => ?_)
  obtain ⟨d1, d2, d3, d4⟩ := c3
  have r12 : ∀ a j, a ≠ 52 + 128 * t → a ≠ 53 + 128 * t → a ≠ 54 + 128 * t → mR M12 a j = mR M a j := fun a j h h' h'' => ((d4 a h'').2.2.1 j).trans (r7 a j h h')
  have i12 : ∀ a j, a ≠ 52 + 128 * t → a ≠ 53 + 128 * t → a ≠ 54 + 128 * t → mI M12 a j = mI M a j := fun a j h h' h'' => ((d4 a h'').1 j).trans (i7 a j h h')
  have n12 : ∀ a, a ≠ 52 + 128 * t → a ≠ 53 + 128 * t → a ≠ 54 + 128 * t → mN M12 a = mN M a := fun a h h' h'' => (d4 a h'').2.2.2.trans (n7 a h h')
  have j12 : ∀ a j, a ≠ 52 + 128 * t → a ≠ 53 + 128 * t → a ≠ 54 + 128 * t → mJ M12 a j = mJ M a j := fun a j h h' h'' => ((d4 a h'').2.1 j).trans (((b4 a h').2.1 j).trans ((a4 a h).2.1 j))
  have l12 : mL M12 = mL M ++ [52 + 128 * t] ++ [53 + 128 * t] ++ [54 + 128 * t] := by rw [d1, l7]
  refine ⟨by rw [r12 16 3 (by omega) (by omega) (by omega)]; exact xr16_3 hX, 51 + 128 * t, ?_, ty51 t, ?_⟩
  · rw [l12]; simp only [List.mem_append, List.mem_singleton]; intro h
    rcases h with ((h | h) | h) | h
    · exact hn _ (by omega) (by omega) h
    all_goals omega
  refine w_X7_init l _ _ _ _ (ty51 t) (ty52 t) (ty53 t) (ty54 t) _ _ ?_
  have e14 : mI M12 16 14 = nI t := by rw [i12 16 14 (by omega) (by omega) (by omega)]; exact h14
  rw [e14, nI_clamp (by omega)]
  have n54 : mN M12 (54 + 128 * t) = p + 2 := d2
  have n53 : mN M12 (53 + 128 * t) = cs := ((d4 _ (by omega)).2.2.2).trans b2
  have n52 : mN M12 (52 + 128 * t) = z := ((d4 _ (by omega)).2.2.2).trans (((b4 _ (by omega)).2.2.2).trans a2)
  refine ⟨?_, hq _ ⟨fun a ha => ⟨fun j hj => ?_, fun j => ?_, fun j hj => ?_, ?_⟩, ?_, ?_, ?_, ?_, ?_, ?_, ?_, ?_, ?_, ?_, fun j hj => ?_, ?_, fun j hj => ?_, ?_, fun j hj => ?_⟩⟩
  · simp (disch := omega) only [true_and, mI_sI_1, mI_sI_2, mI_sI_3, mI_nW_1, mI_nW_2, mI_sR, mI_sJ, mI_sA_1, mI_sA_2, mR_sI, mR_sJ, mR_sA, mR_sR_1, mR_sR_2, mR_sR_3, mR_nW_1, mR_nW_2, mN_sI, mN_sJ, mN_sR, mN_sA, mN_nW_1, mN_nW_2, mJ_sI, mJ_sR, mJ_sA, mJ_sJ_1, mJ_sJ_2, mJ_sJ_3, mJ_nW_1, mJ_nW_2]; rw [n12 20 (by omega) (by omega) (by omega), xn20 hX]; exact vin (by omega) (by decide)
  · by_cases h16 : a = 16
    · subst h16
      have : j ≠ 14 := fun e => hj ⟨rfl, e⟩
      simp (disch := omega) only [true_and, mI_sI_1, mI_sI_2, mI_sI_3, mI_nW_1, mI_nW_2, mI_sR, mI_sJ, mI_sA_1, mI_sA_2, mR_sI, mR_sJ, mR_sA, mR_sR_1, mR_sR_2, mR_sR_3, mR_nW_1, mR_nW_2, mN_sI, mN_sJ, mN_sR, mN_sA, mN_nW_1, mN_nW_2, mJ_sI, mJ_sR, mJ_sA, mJ_sJ_1, mJ_sJ_2, mJ_sJ_3, mJ_nW_1, mJ_nW_2]; exact i12 _ _ (by omega) (by omega) (by omega)
    · simp (disch := omega) only [true_and, mI_sI_1, mI_sI_2, mI_sI_3, mI_nW_1, mI_nW_2, mI_sR, mI_sJ, mI_sA_1, mI_sA_2, mR_sI, mR_sJ, mR_sA, mR_sR_1, mR_sR_2, mR_sR_3, mR_nW_1, mR_nW_2, mN_sI, mN_sJ, mN_sR, mN_sA, mN_nW_1, mN_nW_2, mJ_sI, mJ_sR, mJ_sA, mJ_sJ_1, mJ_sJ_2, mJ_sJ_3, mJ_nW_1, mJ_nW_2]; exact i12 _ _ (by omega) (by omega) (by omega)
  · simp (disch := omega) only [true_and, mI_sI_1, mI_sI_2, mI_sI_3, mI_nW_1, mI_nW_2, mI_sR, mI_sJ, mI_sA_1, mI_sA_2, mR_sI, mR_sJ, mR_sA, mR_sR_1, mR_sR_2, mR_sR_3, mR_nW_1, mR_nW_2, mN_sI, mN_sJ, mN_sR, mN_sA, mN_nW_1, mN_nW_2, mJ_sI, mJ_sR, mJ_sA, mJ_sJ_1, mJ_sJ_2, mJ_sJ_3, mJ_nW_1, mJ_nW_2]; exact j12 _ _ (by omega) (by omega) (by omega)
  · by_cases h20 : a = 20
    · subst h20
      have : j ≠ t := fun e => hj ⟨rfl, e⟩
      simp (disch := omega) only [true_and, mI_sI_1, mI_sI_2, mI_sI_3, mI_nW_1, mI_nW_2, mI_sR, mI_sJ, mI_sA_1, mI_sA_2, mR_sI, mR_sJ, mR_sA, mR_sR_1, mR_sR_2, mR_sR_3, mR_nW_1, mR_nW_2, mN_sI, mN_sJ, mN_sR, mN_sA, mN_nW_1, mN_nW_2, mJ_sI, mJ_sR, mJ_sA, mJ_sJ_1, mJ_sJ_2, mJ_sJ_3, mJ_nW_1, mJ_nW_2]; exact r12 _ _ (by omega) (by omega) (by omega)
    · simp (disch := omega) only [true_and, mI_sI_1, mI_sI_2, mI_sI_3, mI_nW_1, mI_nW_2, mI_sR, mI_sJ, mI_sA_1, mI_sA_2, mR_sI, mR_sJ, mR_sA, mR_sR_1, mR_sR_2, mR_sR_3, mR_nW_1, mR_nW_2, mN_sI, mN_sJ, mN_sR, mN_sA, mN_nW_1, mN_nW_2, mJ_sI, mJ_sR, mJ_sA, mJ_sJ_1, mJ_sJ_2, mJ_sJ_3, mJ_nW_1, mJ_nW_2]; exact r12 _ _ (by omega) (by omega) (by omega)
  · simp (disch := omega) only [true_and, mI_sI_1, mI_sI_2, mI_sI_3, mI_nW_1, mI_nW_2, mI_sR, mI_sJ, mI_sA_1, mI_sA_2, mR_sI, mR_sJ, mR_sA, mR_sR_1, mR_sR_2, mR_sR_3, mR_nW_1, mR_nW_2, mN_sI, mN_sJ, mN_sR, mN_sA, mN_nW_1, mN_nW_2, mJ_sI, mJ_sR, mJ_sA, mJ_sJ_1, mJ_sJ_2, mJ_sJ_3, mJ_nW_1, mJ_nW_2]; exact n12 _ (by omega) (by omega) (by omega)
  · simp (disch := omega) only [true_and, mI_sI_1, mI_sI_2, mI_sI_3, mI_nW_1, mI_nW_2, mI_sR, mI_sJ, mI_sA_1, mI_sA_2, mR_sI, mR_sJ, mR_sA, mR_sR_1, mR_sR_2, mR_sR_3, mR_nW_1, mR_nW_2, mN_sI, mN_sJ, mN_sR, mN_sA, mN_nW_1, mN_nW_2, mJ_sI, mJ_sR, mJ_sA, mJ_sJ_1, mJ_sJ_2, mJ_sJ_3, mJ_nW_1, mJ_nW_2]; rw [e14, n1]
  · simp (disch := omega) only [true_and, mI_sI_1, mI_sI_2, mI_sI_3, mI_nW_1, mI_nW_2, mI_sR, mI_sJ, mI_sA_1, mI_sA_2, mR_sI, mR_sJ, mR_sA, mR_sR_1, mR_sR_2, mR_sR_3, mR_nW_1, mR_nW_2, mN_sI, mN_sJ, mN_sR, mN_sA, mN_nW_1, mN_nW_2, mJ_sI, mJ_sR, mJ_sA, mJ_sJ_1, mJ_sJ_2, mJ_sJ_3, mJ_nW_1, mJ_nW_2]
  · show mL M12 ++ [51 + 128 * t] = _
    rw [l12]
  · simp (disch := omega) only [true_and, mI_sI_1, mI_sI_2, mI_sI_3, mI_nW_1, mI_nW_2, mI_sR, mI_sJ, mI_sA_1, mI_sA_2, mR_sI, mR_sJ, mR_sA, mR_sR_1, mR_sR_2, mR_sR_3, mR_nW_1, mR_nW_2, mN_sI, mN_sJ, mN_sR, mN_sA, mN_nW_1, mN_nW_2, mJ_sI, mJ_sR, mJ_sA, mJ_sJ_1, mJ_sJ_2, mJ_sJ_3, mJ_nW_1, mJ_nW_2]
  · simp (disch := omega) only [true_and, mI_sI_1, mI_sI_2, mI_sI_3, mI_nW_1, mI_nW_2, mI_sR, mI_sJ, mI_sA_1, mI_sA_2, mR_sI, mR_sJ, mR_sA, mR_sR_1, mR_sR_2, mR_sR_3, mR_nW_1, mR_nW_2, mN_sI, mN_sJ, mN_sR, mN_sA, mN_nW_1, mN_nW_2, mJ_sI, mJ_sR, mJ_sA, mJ_sJ_1, mJ_sJ_2, mJ_sJ_3, mJ_nW_1, mJ_nW_2]
  · simp (disch := omega) only [true_and, mI_sI_1, mI_sI_2, mI_sI_3, mI_nW_1, mI_nW_2, mI_sR, mI_sJ, mI_sA_1, mI_sA_2, mR_sI, mR_sJ, mR_sA, mR_sR_1, mR_sR_2, mR_sR_3, mR_nW_1, mR_nW_2, mN_sI, mN_sJ, mN_sR, mN_sA, mN_nW_1, mN_nW_2, mJ_sI, mJ_sR, mJ_sA, mJ_sJ_1, mJ_sJ_2, mJ_sJ_3, mJ_nW_1, mJ_nW_2]
  · simp (disch := omega) only [true_and, mI_sI_1, mI_sI_2, mI_sI_3, mI_nW_1, mI_nW_2, mI_sR, mI_sJ, mI_sA_1, mI_sA_2, mR_sI, mR_sJ, mR_sA, mR_sR_1, mR_sR_2, mR_sR_3, mR_nW_1, mR_nW_2, mN_sI, mN_sJ, mN_sR, mN_sA, mN_nW_1, mN_nW_2, mJ_sI, mJ_sR, mJ_sA, mJ_sJ_1, mJ_sJ_2, mJ_sJ_3, mJ_nW_1, mJ_nW_2]
    rw [n54]
    exact nI_sb (c := 2) (by omega)
  · simp (disch := omega) only [true_and, mI_sI_1, mI_sI_2, mI_sI_3, mI_nW_1, mI_nW_2, mI_sR, mI_sJ, mI_sA_1, mI_sA_2, mR_sI, mR_sJ, mR_sA, mR_sR_1, mR_sR_2, mR_sR_3, mR_nW_1, mR_nW_2, mN_sI, mN_sJ, mN_sR, mN_sA, mN_nW_1, mN_nW_2, mJ_sI, mJ_sR, mJ_sA, mJ_sJ_1, mJ_sJ_2, mJ_sJ_3, mJ_nW_1, mJ_nW_2]
  · simp (disch := omega) only [true_and, mI_sI_1, mI_sI_2, mI_sI_3, mI_nW_1, mI_nW_2, mI_sR, mI_sJ, mI_sA_1, mI_sA_2, mR_sI, mR_sJ, mR_sA, mR_sR_1, mR_sR_2, mR_sR_3, mR_nW_1, mR_nW_2, mN_sI, mN_sJ, mN_sR, mN_sA, mN_nW_1, mN_nW_2, mJ_sI, mJ_sR, mJ_sA, mJ_sJ_1, mJ_sJ_2, mJ_sJ_3, mJ_nW_1, mJ_nW_2]
  · simp (disch := omega) only [true_and, mI_sI_1, mI_sI_2, mI_sI_3, mI_nW_1, mI_nW_2, mI_sR, mI_sJ, mI_sA_1, mI_sA_2, mR_sI, mR_sJ, mR_sA, mR_sR_1, mR_sR_2, mR_sR_3, mR_nW_1, mR_nW_2, mN_sI, mN_sJ, mN_sR, mN_sA, mN_nW_1, mN_nW_2, mJ_sI, mJ_sR, mJ_sA, mJ_sJ_1, mJ_sJ_2, mJ_sJ_3, mJ_nW_1, mJ_nW_2]; exact n52
  · simp (disch := omega) only [true_and, mI_sI_1, mI_sI_2, mI_sI_3, mI_nW_1, mI_nW_2, mI_sR, mI_sJ, mI_sA_1, mI_sA_2, mR_sI, mR_sJ, mR_sA, mR_sR_1, mR_sR_2, mR_sR_3, mR_nW_1, mR_nW_2, mN_sI, mN_sJ, mN_sR, mN_sA, mN_nW_1, mN_nW_2, mJ_sI, mJ_sR, mJ_sA, mJ_sJ_1, mJ_sJ_2, mJ_sJ_3, mJ_nW_1, mJ_nW_2]
    rw [(d4 _ (by omega)).1 j, (b4 _ (by omega)).1 j]; exact a3 j hj
  · simp (disch := omega) only [true_and, mI_sI_1, mI_sI_2, mI_sI_3, mI_nW_1, mI_nW_2, mI_sR, mI_sJ, mI_sA_1, mI_sA_2, mR_sI, mR_sJ, mR_sA, mR_sR_1, mR_sR_2, mR_sR_3, mR_nW_1, mR_nW_2, mN_sI, mN_sJ, mN_sR, mN_sA, mN_nW_1, mN_nW_2, mJ_sI, mJ_sR, mJ_sA, mJ_sJ_1, mJ_sJ_2, mJ_sJ_3, mJ_nW_1, mJ_nW_2]; exact n53
  · simp (disch := omega) only [true_and, mI_sI_1, mI_sI_2, mI_sI_3, mI_nW_1, mI_nW_2, mI_sR, mI_sJ, mI_sA_1, mI_sA_2, mR_sI, mR_sJ, mR_sA, mR_sR_1, mR_sR_2, mR_sR_3, mR_nW_1, mR_nW_2, mN_sI, mN_sJ, mN_sR, mN_sA, mN_nW_1, mN_nW_2, mJ_sI, mJ_sR, mJ_sA, mJ_sJ_1, mJ_sJ_2, mJ_sJ_3, mJ_nW_1, mJ_nW_2]
    rw [(d4 _ (by omega)).1 j, b3 j hj]; exact i2 24 j (by omega)
  · simp (disch := omega) only [true_and, mI_sI_1, mI_sI_2, mI_sI_3, mI_nW_1, mI_nW_2, mI_sR, mI_sJ, mI_sA_1, mI_sA_2, mR_sI, mR_sJ, mR_sA, mR_sR_1, mR_sR_2, mR_sR_3, mR_nW_1, mR_nW_2, mN_sI, mN_sJ, mN_sR, mN_sA, mN_nW_1, mN_nW_2, mJ_sI, mJ_sR, mJ_sA, mJ_sJ_1, mJ_sJ_2, mJ_sJ_3, mJ_nW_1, mJ_nW_2]; exact n54
  · simp (disch := omega) only [true_and, mI_sI_1, mI_sI_2, mI_sI_3, mI_nW_1, mI_nW_2, mI_sR, mI_sJ, mI_sA_1, mI_sA_2, mR_sI, mR_sJ, mR_sA, mR_sR_1, mR_sR_2, mR_sR_3, mR_nW_1, mR_nW_2, mN_sI, mN_sJ, mN_sR, mN_sA, mN_nW_1, mN_nW_2, mJ_sI, mJ_sR, mJ_sA, mJ_sJ_1, mJ_sJ_2, mJ_sJ_3, mJ_nW_1, mJ_nW_2]
    rw [d3 j hj]; exact i7 25 j (by omega) (by omega)
end S787
