/-! the model reads a whole text -/
section S788
variable {l : Launch} {M N M0 : o_M} {b : Nat → Nat} {z t : Nat} {s s1 s' : Sta}
def rdE (l : Launch) (q : o_M → Prop) (v1 : Int32) (M4 : o_M) : Prop := (mR M4 60 31 = some 92 ∧ (mR M4 60 30 = some 91 ∧ (vp_in v1 (mN M4 91) ∧ (vp_in ((11 * v1) + (mI M4 91 v1.toNatClampNeg)) (mN M4 92) ∧ K_X12_told l [rV (some 60), iV 301] (sI M4 92 (((11 * v1) + (mI M4 91 v1.toNatClampNeg)).toNatClampNeg) (mI M4 60 49)) (fun M11 => (mR M11 60 31 = some 92 ∧ (mR M11 60 30 = some 91 ∧ (vp_in v1 (mN M11 91) ∧ (vp_in (((11 * v1) + (mI M11 91 v1.toNatClampNeg)) + 1) (mN M11 92) ∧ K_X12_told l [rV (some 60), iV 302] (sI M11 92 ((((11 * v1) + (mI M11 91 v1.toNatClampNeg)) + 1).toNatClampNeg) (mI M11 60 49)) (fun M16 => (mR M16 60 31 = some 92 ∧ (mR M16 60 30 = some 91 ∧ (vp_in v1 (mN M16 91) ∧ (vp_in (((11 * v1) + (mI M16 91 v1.toNatClampNeg)) + 2) (mN M16 92) ∧ K_X12_need_ l [rV (some 60), iV 0] (sI M16 92 ((((11 * v1) + (mI M16 91 v1.toNatClampNeg)) + 2).toNatClampNeg) (mI M16 60 49)) (fun M21 => q M21)))))))))))))))
theorem rdH {q : o_M → Prop} {v1 : Int32} (h : K_X12_isWrong l [rV (some 60)] M (fun r5 M4 => ((¬ r5 = 0 → rdE l q v1 M4) ∧ (r5 = 0 → ((¬ (mI M4 60 45) = 300 → rdE l q v1 M4) ∧ ((mI M4 60 45) = 300 → (mR M4 60 30 = some 91 ∧ (vp_in v1 (mN M4 91) ∧ ((¬ (mI M4 91 v1.toNatClampNeg) = 8 → (mR M4 60 31 = some 92 ∧ (mR M4 60 30 = some 91 ∧ (vp_in v1 (mN M4 91) ∧ (vp_in ((11 * v1) + (mI M4 91 v1.toNatClampNeg)) (mN M4 92) ∧ (mR (sI M4 92 (((11 * v1) + (mI M4 91 v1.toNatClampNeg)).toNatClampNeg) (mI M4 60 49)) 60 30 = some 91 ∧ (vp_in v1 (mN (sI M4 92 (((11 * v1) + (mI M4 91 v1.toNatClampNeg)).toNatClampNeg) (mI M4 60 49)) 91) ∧ (vp_in v1 (mN (sI M4 92 (((11 * v1) + (mI M4 91 v1.toNatClampNeg)).toNatClampNeg) (mI M4 60 49)) 91) ∧ K_X12_told l [rV (some 60), iV 300] (sI (sI M4 92 (((11 * v1) + (mI M4 91 v1.toNatClampNeg)).toNatClampNeg) (mI M4 60 49)) 91 v1.toNatClampNeg ((mI (sI M4 92 (((11 * v1) + (mI M4 91 v1.toNatClampNeg)).toNatClampNeg) (mI M4 60 49)) 91 v1.toNatClampNeg) + 1)) (fun M48 => H_X12_reads_36 l q v1 M48))))))))) ∧ ((mI M4 91 v1.toNatClampNeg) = 8 → K_X12_cannot l [rV (some 60)] M4 (fun M49 => H_X12_reads_36 l q v1 M49))))))))))) : H_X12_reads_36 l q v1 M := w_X12_reads_36 l q v1 M h
def PR (t a j : Nat) : Prop := (a = 60 ∧ 42 ≤ j ∧ j ≤ 49) ∨ ((a = 89 ∨ a = 90) ∧ 300 * t ≤ j) ∨ (a = 91 ∧ j = t) ∨ (a = 92 ∧ 11 * t ≤ j)
theorem wYR (t a j : Nat) (h : PY t a j) : PR t a j := by unfold PY at h; unfold PR; omega
theorem MX_92 (h : MX M0 M t s) {c j : Nat} {v : Int32} (hc : c = 91 ∨ c = 92) : MX (sI M c j v) (sI M c j v) t s := by
  obtain ⟨h1, h2, h3, h4⟩ := h
  refine ⟨Fi_r _ _, by simp (disch := omega) only [true_and, mI_sI_1, mI_sI_2, mI_sI_3, mI_nW_1, mI_nW_2, mI_sR, mI_sJ, mI_sA_1, mI_sA_2, mR_sI, mR_sJ, mR_sA, mR_sR_1, mR_sR_2, mR_sR_3, mR_nW_1, mR_nW_2, mN_sI, mN_sJ, mN_sR, mN_sA, mN_nW_1, mN_nW_2, mJ_sI, mJ_sR, mJ_sA, mJ_sJ_1, mJ_sJ_2, mJ_sJ_3, mJ_nW_1, mJ_nW_2]; exact h2, fun e => by simp (disch := omega) only [true_and, mI_sI_1, mI_sI_2, mI_sI_3, mI_nW_1, mI_nW_2, mI_sR, mI_sJ, mI_sA_1, mI_sA_2, mR_sI, mR_sJ, mR_sA, mR_sR_1, mR_sR_2, mR_sR_3, mR_nW_1, mR_nW_2, mN_sI, mN_sJ, mN_sR, mN_sA, mN_nW_1, mN_nW_2, mJ_sI, mJ_sR, mJ_sA, mJ_sJ_1, mJ_sJ_2, mJ_sJ_3, mJ_nW_1, mJ_nW_2]; exact h3 e, fun e => ?_⟩
  obtain ⟨k43, k44, k45, k46, k46', k48, k47, kc⟩ := h4 e
  exact ⟨by simp (disch := omega) only [true_and, mI_sI_1, mI_sI_2, mI_sI_3, mI_nW_1, mI_nW_2, mI_sR, mI_sJ, mI_sA_1, mI_sA_2, mR_sI, mR_sJ, mR_sA, mR_sR_1, mR_sR_2, mR_sR_3, mR_nW_1, mR_nW_2, mN_sI, mN_sJ, mN_sR, mN_sA, mN_nW_1, mN_nW_2, mJ_sI, mJ_sR, mJ_sA, mJ_sJ_1, mJ_sJ_2, mJ_sJ_3, mJ_nW_1, mJ_nW_2]; exact k43, by simp (disch := omega) only [true_and, mI_sI_1, mI_sI_2, mI_sI_3, mI_nW_1, mI_nW_2, mI_sR, mI_sJ, mI_sA_1, mI_sA_2, mR_sI, mR_sJ, mR_sA, mR_sR_1, mR_sR_2, mR_sR_3, mR_nW_1, mR_nW_2, mN_sI, mN_sJ, mN_sR, mN_sA, mN_nW_1, mN_nW_2, mJ_sI, mJ_sR, mJ_sA, mJ_sJ_1, mJ_sJ_2, mJ_sJ_3, mJ_nW_1, mJ_nW_2]; exact k44, by simp (disch := omega) only [true_and, mI_sI_1, mI_sI_2, mI_sI_3, mI_nW_1, mI_nW_2, mI_sR, mI_sJ, mI_sA_1, mI_sA_2, mR_sI, mR_sJ, mR_sA, mR_sR_1, mR_sR_2, mR_sR_3, mR_nW_1, mR_nW_2, mN_sI, mN_sJ, mN_sR, mN_sA, mN_nW_1, mN_nW_2, mJ_sI, mJ_sR, mJ_sA, mJ_sJ_1, mJ_sJ_2, mJ_sJ_3, mJ_nW_1, mJ_nW_2]; exact k45, fun w => by simp (disch := omega) only [true_and, mI_sI_1, mI_sI_2, mI_sI_3, mI_nW_1, mI_nW_2, mI_sR, mI_sJ, mI_sA_1, mI_sA_2, mR_sI, mR_sJ, mR_sA, mR_sR_1, mR_sR_2, mR_sR_3, mR_nW_1, mR_nW_2, mN_sI, mN_sJ, mN_sR, mN_sA, mN_nW_1, mN_nW_2, mJ_sI, mJ_sR, mJ_sA, mJ_sJ_1, mJ_sJ_2, mJ_sJ_3, mJ_nW_1, mJ_nW_2]; exact k46 w, fun w => by simp (disch := omega) only [true_and, mI_sI_1, mI_sI_2, mI_sI_3, mI_nW_1, mI_nW_2, mI_sR, mI_sJ, mI_sA_1, mI_sA_2, mR_sI, mR_sJ, mR_sA, mR_sR_1, mR_sR_2, mR_sR_3, mR_nW_1, mR_nW_2, mN_sI, mN_sJ, mN_sR, mN_sA, mN_nW_1, mN_nW_2, mJ_sI, mJ_sR, mJ_sA, mJ_sJ_1, mJ_sJ_2, mJ_sJ_3, mJ_nW_1, mJ_nW_2]; exact k46' w, by simp (disch := omega) only [true_and, mI_sI_1, mI_sI_2, mI_sI_3, mI_nW_1, mI_nW_2, mI_sR, mI_sJ, mI_sA_1, mI_sA_2, mR_sI, mR_sJ, mR_sA, mR_sR_1, mR_sR_2, mR_sR_3, mR_nW_1, mR_nW_2, mN_sI, mN_sJ, mN_sR, mN_sA, mN_nW_1, mN_nW_2, mJ_sI, mJ_sR, mJ_sA, mJ_sJ_1, mJ_sJ_2, mJ_sJ_3, mJ_nW_1, mJ_nW_2]; exact k48, by simp (disch := omega) only [true_and, mI_sI_1, mI_sI_2, mI_sI_3, mI_nW_1, mI_nW_2, mI_sR, mI_sJ, mI_sA_1, mI_sA_2, mR_sI, mR_sJ, mR_sA, mR_sR_1, mR_sR_2, mR_sR_3, mR_nW_1, mR_nW_2, mN_sI, mN_sJ, mN_sR, mN_sA, mN_nW_1, mN_nW_2, mJ_sI, mJ_sR, mJ_sA, mJ_sJ_1, mJ_sJ_2, mJ_sJ_3, mJ_nW_1, mJ_nW_2]; exact k47, fun c hc => by simp (disch := omega) only [true_and, mI_sI_1, mI_sI_2, mI_sI_3, mI_nW_1, mI_nW_2, mI_sR, mI_sJ, mI_sA_1, mI_sA_2, mR_sI, mR_sJ, mR_sA, mR_sR_1, mR_sR_2, mR_sR_3, mR_nW_1, mR_nW_2, mN_sI, mN_sJ, mN_sR, mN_sA, mN_nW_1, mN_nW_2, mJ_sI, mJ_sR, mJ_sA, mJ_sJ_1, mJ_sJ_2, mJ_sJ_3, mJ_nW_1, mJ_nW_2]; exact kc c hc⟩
theorem BM_92 (h : BM M t b z) {c j : Nat} {v : Int32} (hc : c = 91 ∨ c = 92) : BM (sI M c j v) t b z :=
  BM_f (P := fun a _ => a = 91 ∨ a = 92) (by omega) (fun j => by omega) (fun j => by omega) (fun j => by omega) (Fi_s (Fi_r _ _) hc) h
theorem c12_told {key : Nat} {v : Int32} (hv : v = mtk key) (hk : 10 ≤ key) (hk2 : key ≤ 12) (hB : BM M t b z) (hC : MX M M t s) (hI : Iv b z s) (hp : tcs s ≤ ph s) (hPS : PS b z key s s') (q : o_M → Prop) (hq : ∀ N, MX N N t s' → Fi (PY t) M N → BM N t b z → q N) : K_X12_told l [rV (some 60), iV v] M q := by
  obtain ⟨f, s1, e1, rfl⟩ := hPS
  obtain ⟨x1, x2, x3, x4, x5, x6, x7, x8⟩ := Iv_xp (k := key) hI (by omega)
  have g := pr_ok _ _ (by omega) _ _ x1 e1
  refine w_X12_told l _ M q (c12_need_ hB hI hC hv hk (by omega) _ (fun N1 h1 => ?_))
  refine y12_all hB f 0 (by omega) (xp b z key s) s1 100 N1 (fun M2 => _) h1 x1 (by omega) (show 25 ≤ 100 + 0 by omega) (fun _ => show 75 ≤ 100 + 7 * top (xp b z key s) + 0 by omega) e1 (fun N2 h2 => ?_)
  exact c12_need_ hB g.1 h2 (k := 18) rfl (by decide) (by decide) _ (fun N3 h3 => hq N3 ⟨Fi_r _ _, h3.2⟩ h3.1 (MX_B hB h3))
theorem c12_reads {k : Nat} {S : Nat → Sta} (R : Run b z k S) (hw : wM M) (hd : RD M) (ht : t < 10) (hz : z ≤ 300) (h87 : mI M 87 t = nI z) (hb : ∀ i, i < z → b i < 256 ∧ mI M 88 (300 * t + i) = nI (b i)) (q : o_M → Prop) (hq : ∀ N, Fi (PR t) M N → MX N N t (xp b z 25 (S (k + 2))) → (ttk (xp b z 25 (S (k + 2))) ≠ 27 → mI N 91 t = nI k ∧ ∀ j, j < k + 3 → mI N 92 (11 * t + j) = nI (tcs (S j))) → q N) : K_X12_reads l [rV (some 60), iV (nI t)] M q := by
  have hk8 := R.1
  have fin : ∀ s N, Iv b z s → tcs s ≤ ph s → xp b z 11 s = xp b z 11 (S k) → tcs s = tcs (S k) → MX N N t s → BM N t b z → Fi (PR t) M N → mI N 91 t = nI k → (∀ j, j < k → ttk (S k) ≠ 27 → mI N 92 (11 * t + j) = nI (tcs (S j))) → rdE l q (nI t) N := by
    intro s N hI hp hxp hcs hC hB hF k91 k92
    obtain ⟨j1, j2, j3⟩ := run_iv R (k + 1) (by omega)
    obtain ⟨l1, l2, l3⟩ := run_iv R (k + 2) (by omega)
    have p1 := R.2.2.2.2 k (by omega)
    have p2 := R.2.2.2.2 (k + 1) (by omega)
    rw [show ykey k k = 11 by unfold ykey; rw [if_neg (by omega), if_pos rfl]] at p1
    rw [show ykey k (k + 1) = 12 by unfold ykey; rw [if_neg (by omega), if_neg (by omega)]] at p2
    have p1' : PS b z 11 s (S (k + 1)) := by
      obtain ⟨f, s1, e1, e2⟩ := p1
      exact ⟨f, s1, by rw [hxp]; exact e1, e2⟩
    have hwN := hB.1
    unfold rdE
    rw [nI_clamp (by omega), k91, wn30 hwN, wn31 hwN, ixm (C := 11) 11 t k rfl, nI_clamp (by omega), hC.2.1]
    refine ⟨wr31 hwN, wr30 hwN, vin (by omega) (by decide), vin (by omega) (by decide), ?_⟩
    refine c12_told (key := 11) rfl (by decide) (by decide) (BM_92 hB (Or.inr rfl)) (MX_92 hC (Or.inr rfl)) hI hp p1' _ (fun N1 a1 a2 a3 => ?_)
    have hwN1 := a3.1
    have k91' : mI N1 91 t = nI k := by rw [a2.1 91 t (by unfold PY; omega)]; simp (disch := omega) only [true_and, mI_sI_1, mI_sI_2, mI_sI_3, mI_nW_1, mI_nW_2, mI_sR, mI_sJ, mI_sA_1, mI_sA_2, mR_sI, mR_sJ, mR_sA, mR_sR_1, mR_sR_2, mR_sR_3, mR_nW_1, mR_nW_2, mN_sI, mN_sJ, mN_sR, mN_sA, mN_nW_1, mN_nW_2, mJ_sI, mJ_sR, mJ_sA, mJ_sJ_1, mJ_sJ_2, mJ_sJ_3, mJ_nW_1, mJ_nW_2]; exact k91
    rw [k91', wn30 hwN1, wn31 hwN1, ixm (C := 11) 11 t k rfl, n1, nI_clamp (by omega), a1.2.1]
    refine ⟨wr31 hwN1, wr30 hwN1, vin (by omega) (by decide), vin (by omega) (by decide), ?_⟩
    refine c12_told (key := 12) rfl (by decide) (by decide) (BM_92 a3 (Or.inr rfl)) (MX_92 a1 (Or.inr rfl)) j1 j2 p2 _ (fun N2 b1 b2 b3 => ?_)
    have hwN2 := b3.1
    have k91'' : mI N2 91 t = nI k := by rw [b2.1 91 t (by unfold PY; omega)]; simp (disch := omega) only [true_and, mI_sI_1, mI_sI_2, mI_sI_3, mI_nW_1, mI_nW_2, mI_sR, mI_sJ, mI_sA_1, mI_sA_2, mR_sI, mR_sJ, mR_sA, mR_sR_1, mR_sR_2, mR_sR_3, mR_nW_1, mR_nW_2, mN_sI, mN_sJ, mN_sR, mN_sA, mN_nW_1, mN_nW_2, mJ_sI, mJ_sR, mJ_sA, mJ_sJ_1, mJ_sJ_2, mJ_sJ_3, mJ_nW_1, mJ_nW_2]; exact k91'
    rw [k91'', wn30 hwN2, wn31 hwN2, ixm (C := 11) 11 t k rfl, show (2 : Int32) = nI 2 from rfl, nI_add, nI_clamp (by omega), b1.2.1]
    refine ⟨wr31 hwN2, wr30 hwN2, vin (by omega) (by decide), vin (by omega) (by decide), ?_⟩
    refine c12_need_ (BM_92 b3 (Or.inr rfl)) l1 (MX_92 b1 (Or.inr rfl)) (k := 25) rfl (by decide) (by decide) _ (fun N3 c1 => ?_)
    have hX := c1.1
    have wR : Fi (PR t) M N3 := Fi_t (Fi_s hF (by unfold PR; omega)) (Fi_t (Fi_w (wYR t) a2) (Fi_t (Fi_s (Fi_r _ _) (by unfold PR; omega)) (Fi_t (Fi_w (wYR t) b2) (Fi_t (Fi_s (Fi_r _ _) (by unfold PR; omega)) (Fi_w (wYR t) hX)))))
    refine hq N3 wR ⟨Fi_r _ _, c1.2⟩ (fun tg => ?_)
    have t25 := (run_good R hz tg).1
    have tg2 : ttk (S (k + 2)) ≠ 27 := by omega
    obtain ⟨u2, _, _⟩ := run_back R tg2 2 k (by omega)
    refine ⟨by rw [hX.1 91 t (by unfold PY; omega)]; simp (disch := omega) only [true_and, mI_sI_1, mI_sI_2, mI_sI_3, mI_nW_1, mI_nW_2, mI_sR, mI_sJ, mI_sA_1, mI_sA_2, mR_sI, mR_sJ, mR_sA, mR_sR_1, mR_sR_2, mR_sR_3, mR_nW_1, mR_nW_2, mN_sI, mN_sJ, mN_sR, mN_sA, mN_nW_1, mN_nW_2, mJ_sI, mJ_sR, mJ_sA, mJ_sJ_1, mJ_sJ_2, mJ_sJ_3, mJ_nW_1, mJ_nW_2]; exact k91'', fun j hj => ?_⟩
    rw [hX.1 92 _ (by unfold PY; omega)]
    by_cases e2 : j = k + 2
    · subst e2
      rw [show 11 * t + (k + 2) = 11 * t + k + 2 by omega]
      exact mI_sI_3
    rw [mI_sI_2 (by omega), b2.1 92 _ (by unfold PY; omega)]
    by_cases e1 : j = k + 1
    · subst e1
      rw [show 11 * t + (k + 1) = 11 * t + k + 1 by omega]
      exact mI_sI_3
    rw [mI_sI_2 (by omega), a2.1 92 _ (by unfold PY; omega)]
    by_cases e0 : j = k
    · subst e0
      rw [mI_sI_3, hcs]
    rw [mI_sI_2 (by omega)]
    exact k92 j (by omega) u2
  have key : ∀ m i N, i + m = k → MX N N t (S i) → BM N t b z → Fi (PR t) M N → mI N 91 t = nI i → (∀ j, j < i → ttk (S i) ≠ 27 → mI N 92 (11 * t + j) = nI (tcs (S j))) → H_X12_reads_36 l q (nI t) N := by
    intro m
    induction m with
    | zero =>
      intro i N hi hC hB hF k91 k92
      have : i = k := by omega
      subst this
      obtain ⟨i1, i2, i3⟩ := run_iv R i (by omega)
      have hwN := hB.1
      refine rdH (c12_wr hB i1 hC _ (fun tg => ⟨fun c => absurd rfl c, fun _ => ⟨fun _ => fin (S i) N i1 i2 rfl rfl hC hB hF k91 k92, fun c => ?_⟩⟩) (fun tb => ⟨fun _ => fin (S i) N i1 i2 rfl rfl hC hB hF k91 k92, fun c => absurd c (by decide)⟩))
      have t10 := (MX_tk i1 hC tg (k := 10) (v := 300) rfl (by decide) (by decide)).mp c
      have hi8 : i = 8 := by
        by_cases e : i < 8
        · exact absurd t10 (R.2.2.2.1 e)
        · omega
      rw [nI_clamp (by omega), k91, wn30 hwN]
      refine ⟨wr30 hwN, vin (by omega) (by decide), fun c => absurd (by rw [hi8]; rfl) c, fun _ => ?_⟩
      refine c12_cannot hB i1 hC _ (fun N1 a1 => ?_)
      have hB1 := MX_B hB a1
      have I1 := Iv_yfl i1
      have p1 : tcs (yfl (S i)) ≤ ph (yfl (S i)) := by
        have : ph (yfl (S i)) = tpl (S i) + 1 := ph_bad rfl
        have := ph_good tg
        rw [tcs_yfl]; omega
      have hxp : xp b z 11 (yfl (S i)) = xp b z 11 (S i) := by
        rw [xp_bad rfl (by decide)]
        unfold xp
        rw [if_neg (by omega)]
      refine rdH (c12_wr hB1 I1 ⟨Fi_r _ _, a1.2⟩ _ (fun tg => absurd rfl tg) (fun _ => ⟨fun _ => fin (yfl (S i)) N1 I1 p1 hxp rfl ⟨Fi_r _ _, a1.2⟩ hB1 (Fi_t hF (Fi_w (wYR t) a1.1)) ?_ (fun j hj tg => ?_), fun c => absurd c (by decide)⟩))
      · rw [a1.1.1 91 t (by unfold PY; omega)]; exact k91
      · rw [a1.1.1 92 _ (by unfold PY; omega)]; exact k92 j hj tg
    | succ m ih =>
      intro i N hi hC hB hF k91 k92
      have t10 := R.2.2.1 i (by omega)
      obtain ⟨i1, i2, i3⟩ := run_iv R i (by omega)
      have p1 := R.2.2.2.2 i (by omega)
      rw [show ykey k i = 10 by unfold ykey; rw [if_pos (by omega)]] at p1
      have hwN := hB.1
      refine rdH (c12_wr hB i1 hC _ (fun tg => ⟨fun c => absurd rfl c, fun _ => ⟨fun c => absurd ((MX_tk i1 hC tg (k := 10) (v := 300) rfl (by decide) (by decide)).mpr t10) c, fun _ => ?_⟩⟩) (fun tb => by omega))
      have e91 : mI (sI N 92 (11 * t + i) (nI (tcs (S i)))) 91 t = nI i := by simp (disch := omega) only [true_and, mI_sI_1, mI_sI_2, mI_sI_3, mI_nW_1, mI_nW_2, mI_sR, mI_sJ, mI_sA_1, mI_sA_2, mR_sI, mR_sJ, mR_sA, mR_sR_1, mR_sR_2, mR_sR_3, mR_nW_1, mR_nW_2, mN_sI, mN_sJ, mN_sR, mN_sA, mN_nW_1, mN_nW_2, mJ_sI, mJ_sR, mJ_sA, mJ_sJ_1, mJ_sJ_2, mJ_sJ_3, mJ_nW_1, mJ_nW_2]; exact k91
      rw [nI_clamp (by omega), k91, wn30 hwN, wn31 hwN, ixm (C := 11) 11 t i rfl, nI_clamp (by omega), hC.2.1, e91, n1]
      refine ⟨wr30 hwN, vin (by omega) (by decide), fun _ => ⟨wr31 hwN, wr30 hwN, vin (by omega) (by decide), vin (by omega) (by decide), wr30 hwN, ?_, ?_, ?_⟩, fun c => ?_⟩
      · show vp_in _ (mN N 91); rw [wn30 hwN]; exact vin (by omega) (by decide)
      · show vp_in _ (mN N 91); rw [wn30 hwN]; exact vin (by omega) (by decide)
      · refine c12_told (key := 10) rfl (by decide) (by decide) (BM_92 (BM_92 hB (Or.inr rfl)) (Or.inl rfl)) (MX_92 (MX_92 hC (Or.inr rfl)) (Or.inl rfl)) i1 i2 p1 _ (fun N1 a1 a2 a3 => ?_)
        refine ih (i + 1) N1 (by omega) a1 a3 (Fi_t (Fi_s (Fi_s hF (by unfold PR; omega)) (by unfold PR; omega)) (Fi_w (wYR t) a2)) (by rw [a2.1 91 t (by unfold PY; omega)]; exact mI_sI_3) (fun j hj tg => ?_)
        rw [a2.1 92 _ (by unfold PY; omega), mI_sI_1 (by omega)]
        by_cases e : j = i
        · subst e; exact mI_sI_3
        · rw [mI_sI_2 (by omega)]; exact k92 j (by omega) (by omega)
      · have := (nI_eq (b := 8) (by omega) (by decide)).mp c
        omega
  refine w_X12_reads l _ M q ?_
  have hB0 : BM (sI (sI (sI (sI (sI (sI M 60 42 (nI t)) 60 43 0) 60 47 (-1)) 60 48 0) 60 49 0) 91 (nI t).toNatClampNeg 0) t b z := by
    refine ⟨hw, fun j hj => ?_, ht, by simp (disch := omega) only [true_and, mI_sI_1, mI_sI_2, mI_sI_3, mI_nW_1, mI_nW_2, mI_sR, mI_sJ, mI_sA_1, mI_sA_2, mR_sI, mR_sJ, mR_sA, mR_sR_1, mR_sR_2, mR_sR_3, mR_nW_1, mR_nW_2, mN_sI, mN_sJ, mN_sR, mN_sA, mN_nW_1, mN_nW_2, mJ_sI, mJ_sR, mJ_sA, mJ_sJ_1, mJ_sJ_2, mJ_sJ_3, mJ_nW_1, mJ_nW_2], hz, by simp (disch := omega) only [true_and, mI_sI_1, mI_sI_2, mI_sI_3, mI_nW_1, mI_nW_2, mI_sR, mI_sJ, mI_sA_1, mI_sA_2, mR_sI, mR_sJ, mR_sA, mR_sR_1, mR_sR_2, mR_sR_3, mR_nW_1, mR_nW_2, mN_sI, mN_sJ, mN_sR, mN_sA, mN_nW_1, mN_nW_2, mJ_sI, mJ_sR, mJ_sA, mJ_sJ_1, mJ_sJ_2, mJ_sJ_3, mJ_nW_1, mJ_nW_2]; exact h87, fun i hi => ⟨(hb i hi).1, by simp (disch := omega) only [true_and, mI_sI_1, mI_sI_2, mI_sI_3, mI_nW_1, mI_nW_2, mI_sR, mI_sJ, mI_sA_1, mI_sA_2, mR_sI, mR_sJ, mR_sA, mR_sR_1, mR_sR_2, mR_sR_3, mR_nW_1, mR_nW_2, mN_sI, mN_sJ, mN_sR, mN_sA, mN_nW_1, mN_nW_2, mJ_sI, mJ_sR, mJ_sA, mJ_sJ_1, mJ_sJ_2, mJ_sJ_3, mJ_nW_1, mJ_nW_2]; exact (hb i hi).2⟩⟩
    simp (disch := omega) only [true_and, mI_sI_1, mI_sI_2, mI_sI_3, mI_nW_1, mI_nW_2, mI_sR, mI_sJ, mI_sA_1, mI_sA_2, mR_sI, mR_sJ, mR_sA, mR_sR_1, mR_sR_2, mR_sR_3, mR_nW_1, mR_nW_2, mN_sI, mN_sJ, mN_sR, mN_sA, mN_nW_1, mN_nW_2, mJ_sI, mJ_sR, mJ_sA, mJ_sJ_1, mJ_sJ_2, mJ_sJ_3, mJ_nW_1, mJ_nW_2]; exact hd j hj
  have hF0 : Fi (PR t) M (sI (sI (sI (sI (sI (sI M 60 42 (nI t)) 60 43 0) 60 47 (-1)) 60 48 0) 60 49 0) 91 (nI t).toNatClampNeg 0) := by
    rw [nI_clamp (by omega)]
    exact Fi_s (Fi_s (Fi_s (Fi_s (Fi_s (Fi_s (Fi_r _ _) (by unfold PR; omega)) (by unfold PR; omega)) (by unfold PR; omega)) (by unfold PR; omega)) (by unfold PR; omega)) (by unfold PR; omega)
  refine ⟨wr30 hw, by show vp_in _ (mN M 91); rw [wn30 hw]; exact vin (by omega) (by decide), ?_⟩
  refine c12_next hB0 (n := 0) (by simp (disch := omega) only [true_and, mI_sI_1, mI_sI_2, mI_sI_3, mI_nW_1, mI_nW_2, mI_sR, mI_sJ, mI_sA_1, mI_sA_2, mR_sI, mR_sJ, mR_sA, mR_sR_1, mR_sR_2, mR_sR_3, mR_nW_1, mR_nW_2, mN_sI, mN_sJ, mN_sR, mN_sA, mN_nW_1, mN_nW_2, mJ_sI, mJ_sR, mJ_sA, mJ_sJ_1, mJ_sJ_2, mJ_sJ_3, mJ_nW_1, mJ_nW_2]; rfl) (Nat.zero_le _) _ (fun N f1 f43 f44 f45 f46 f46' => ?_)
  have hl := lex_ok (b := b) (Nat.zero_le z)
  have wQR : ∀ a j, PQ a j → PR t a j := fun a j h => by unfold PQ at h; unfold PR; omega
  refine key k 0 N (by omega) ?_ (BM_Q f1 hB0) (Fi_t hF0 (Fi_w wQR f1)) ?_ (fun j hj => by omega)
  · rw [R.2.1]
    refine ⟨Fi_r _ _, ?_, fun e => ?_, fun _ => ⟨f43, f44, f45, f46, f46', ?_, ?_, fun c hc => ?_⟩⟩
    · rw [f1.1 60 49 (by unfold PQ; omega)]; simp (disch := omega) only [true_and, mI_sI_1, mI_sI_2, mI_sI_3, mI_nW_1, mI_nW_2, mI_sR, mI_sJ, mI_sA_1, mI_sA_2, mR_sI, mR_sJ, mR_sA, mR_sR_1, mR_sR_2, mR_sR_3, mR_nW_1, mR_nW_2, mN_sI, mN_sJ, mN_sR, mN_sA, mN_nW_1, mN_nW_2, mJ_sI, mJ_sR, mJ_sA, mJ_sJ_1, mJ_sJ_2, mJ_sJ_3, mJ_nW_1, mJ_nW_2]; rfl
    · have e' : (lex b z 0).2.2.1 = 27 := e
      omega
    · rw [f1.1 60 48 (by unfold PQ; omega)]; simp (disch := omega) only [true_and, mI_sI_1, mI_sI_2, mI_sI_3, mI_nW_1, mI_nW_2, mI_sR, mI_sJ, mI_sA_1, mI_sA_2, mR_sI, mR_sJ, mR_sA, mR_sR_1, mR_sR_2, mR_sR_3, mR_nW_1, mR_nW_2, mN_sI, mN_sJ, mN_sR, mN_sA, mN_nW_1, mN_nW_2, mJ_sI, mJ_sR, mJ_sA, mJ_sJ_1, mJ_sJ_2, mJ_sJ_3, mJ_nW_1, mJ_nW_2]; rfl
    · rw [f1.1 60 47 (by unfold PQ; omega)]; simp (disch := omega) only [true_and, mI_sI_1, mI_sI_2, mI_sI_3, mI_nW_1, mI_nW_2, mI_sR, mI_sJ, mI_sA_1, mI_sA_2, mR_sI, mR_sJ, mR_sA, mR_sR_1, mR_sR_2, mR_sR_3, mR_nW_1, mR_nW_2, mN_sI, mN_sJ, mN_sR, mN_sA, mN_nW_1, mN_nW_2, mJ_sI, mJ_sR, mJ_sA, mJ_sJ_1, mJ_sJ_2, mJ_sJ_3, mJ_nW_1, mJ_nW_2]
    · rw [tcs_adv] at hc; exact absurd hc (by show ¬ c < 0; omega)
  · rw [f1.1 91 t (by unfold PQ; omega), nI_clamp (by omega)]; exact mI_sI_3
def PO (t a j : Nat) : Prop := (a = 60 ∧ (j = 24 ∨ j = 25 ∨ (42 ≤ j ∧ j ≤ 49))) ∨ (a = 87 ∧ j = t) ∨ ((a = 88 ∨ a = 89 ∨ a = 90) ∧ 300 * t ≤ j) ∨ (a = 91 ∧ j = t) ∨ (a = 92 ∧ 11 * t ≤ j) ∨ (a = 93 ∧ j = t)
/-- what a text that was read leaves in the model's rows -/
def TM (N : o_M) (t z k : Nat) (b : Nat → Nat) (S : Nat → Sta) (e : Sta) : Prop := mI N 93 t = -1 ∧ mI N 87 t = nI z ∧ (∀ i, i < z → mI N 88 (300 * t + i) = nI (b i)) ∧ (∀ c, c < tcs e → mI N 89 (300 * t + c) = nI (tco e c) ∧ mI N 90 (300 * t + c) = nI (tcw e c)) ∧ mI N 91 t = nI k ∧ ∀ j, j < k + 3 → mI N 92 (11 * t + j) = nI (tcs (S j))
theorem c12_textM {k : Nat} {S : Nat → Sta} (R : Run b z k S) (hw : wM M) (hd : RD M) (ht : t < 10) (hz : z ≤ 300) (h25 : mI M 60 25 = nI t) (h24 : mI M 60 24 = nI z) (hb : ∀ i, i < z → b i < 256 ∧ mI M 84 i = nI (b i)) (q : Int32 → o_M → Prop) (hbad : ttk (xp b z 25 (S (k + 2))) = 27 → ∀ N, Fi (PO t) M N → mI N 60 24 = 0 → mI N 60 25 = nI t → q (-10 - nI (tpl (xp b z 25 (S (k + 2))))) N) (hgood : ttk (xp b z 25 (S (k + 2))) ≠ 27 → ∀ N, Fi (PO t) M N → mI N 60 24 = 0 → mI N 60 25 = nI (t + 1) → TM N t z k b S (xp b z 25 (S (k + 2))) → q (nI t) N) : K_X12_text l [rV (some 60)] M q := by
  have wRO : ∀ a j, PR t a j → PO t a j := fun a j h => by unfold PR at h; unfold PO; omega
  obtain ⟨l1, l2, l3⟩ := run_iv R (k + 2) (by omega)
  have Ie := (Iv_xp (k := 25) l1 (by omega)).1
  have key : ∀ m i N, i + m = z → Fi (PO t) M N → mI N 60 24 = nI z → mI N 60 25 = nI t → (∀ j, j < i → mI N 88 (300 * t + j) = nI (b j)) → H_X12_text_19 l q (nI t) (nI i) N := by
    intro m
    induction m with
    | zero =>
      intro i N hi hF k24 k25 k88
      have hwN : wM N := fun p hp => by rw [hF.2.2.1, hF.2.2.2.1]; exact hw p hp
      have hdN : RD N := fun j hj => by rw [hF.1 102 j (by unfold PO; omega)]; exact hd j hj
      refine w_X12_text_19 l q _ _ N ?_
      rw [k24, nI_leI (by omega) (by omega), nI_clamp (by omega), wn26 hwN]
      refine ⟨fun _ => ⟨wr26 hwN, vin (by omega) (by decide), ?_⟩, fun c => by omega⟩
      have hF1 : Fi (PO t) M (sI (sI N 87 t (nI z)) 60 24 0) := Fi_s (Fi_s hF (by unfold PO; omega)) (by unfold PO; omega)
      refine c12_reads R (M := sI (sI N 87 t (nI z)) 60 24 0) hwN (fun j hj => by simp (disch := omega) only [true_and, mI_sI_1, mI_sI_2, mI_sI_3, mI_nW_1, mI_nW_2, mI_sR, mI_sJ, mI_sA_1, mI_sA_2, mR_sI, mR_sJ, mR_sA, mR_sR_1, mR_sR_2, mR_sR_3, mR_nW_1, mR_nW_2, mN_sI, mN_sJ, mN_sR, mN_sA, mN_nW_1, mN_nW_2, mJ_sI, mJ_sR, mJ_sA, mJ_sJ_1, mJ_sJ_2, mJ_sJ_3, mJ_nW_1, mJ_nW_2]; exact hdN j hj) ht hz (by simp (disch := omega) only [true_and, mI_sI_1, mI_sI_2, mI_sI_3, mI_nW_1, mI_nW_2, mI_sR, mI_sJ, mI_sA_1, mI_sA_2, mR_sI, mR_sJ, mR_sA, mR_sR_1, mR_sR_2, mR_sR_3, mR_nW_1, mR_nW_2, mN_sI, mN_sJ, mN_sR, mN_sA, mN_nW_1, mN_nW_2, mJ_sI, mJ_sR, mJ_sA, mJ_sJ_1, mJ_sJ_2, mJ_sJ_3, mJ_nW_1, mJ_nW_2]) (fun i' hi' => ⟨(hb i' hi').1, by simp (disch := omega) only [true_and, mI_sI_1, mI_sI_2, mI_sI_3, mI_nW_1, mI_nW_2, mI_sR, mI_sJ, mI_sA_1, mI_sA_2, mR_sI, mR_sJ, mR_sA, mR_sR_1, mR_sR_2, mR_sR_3, mR_nW_1, mR_nW_2, mN_sI, mN_sJ, mN_sR, mN_sA, mN_nW_1, mN_nW_2, mJ_sI, mJ_sR, mJ_sA, mJ_sJ_1, mJ_sJ_2, mJ_sJ_3, mJ_nW_1, mJ_nW_2]; exact k88 i' (by omega)⟩) _ (fun N1 f1 f2 f3 => ?_)
      have hwN1 : wM N1 := fun p hp => by rw [f1.2.2.1, f1.2.2.2.1]; exact hwN p hp
      have hdN1 : RD N1 := fun j hj => by rw [f1.1 102 j (by unfold PR; omega)]; simp (disch := omega) only [true_and, mI_sI_1, mI_sI_2, mI_sI_3, mI_nW_1, mI_nW_2, mI_sR, mI_sJ, mI_sA_1, mI_sA_2, mR_sI, mR_sJ, mR_sA, mR_sR_1, mR_sR_2, mR_sR_3, mR_nW_1, mR_nW_2, mN_sI, mN_sJ, mN_sR, mN_sA, mN_nW_1, mN_nW_2, mJ_sI, mJ_sR, mJ_sA, mJ_sJ_1, mJ_sJ_2, mJ_sJ_3, mJ_nW_1, mJ_nW_2]; exact hdN j hj
      have n87 : mI N1 87 t = nI z := by rw [f1.1 87 t (by unfold PR; omega)]; simp (disch := omega) only [true_and, mI_sI_1, mI_sI_2, mI_sI_3, mI_nW_1, mI_nW_2, mI_sR, mI_sJ, mI_sA_1, mI_sA_2, mR_sI, mR_sJ, mR_sA, mR_sR_1, mR_sR_2, mR_sR_3, mR_nW_1, mR_nW_2, mN_sI, mN_sJ, mN_sR, mN_sA, mN_nW_1, mN_nW_2, mJ_sI, mJ_sR, mJ_sA, mJ_sJ_1, mJ_sJ_2, mJ_sJ_3, mJ_nW_1, mJ_nW_2]
      have n88 : ∀ i, i < z → mI N1 88 (300 * t + i) = nI (b i) := fun i' hi' => by rw [f1.1 88 _ (by unfold PR; omega)]; simp (disch := omega) only [true_and, mI_sI_1, mI_sI_2, mI_sI_3, mI_nW_1, mI_nW_2, mI_sR, mI_sJ, mI_sA_1, mI_sA_2, mR_sI, mR_sJ, mR_sA, mR_sR_1, mR_sR_2, mR_sR_3, mR_nW_1, mR_nW_2, mN_sI, mN_sJ, mN_sR, mN_sA, mN_nW_1, mN_nW_2, mJ_sI, mJ_sR, mJ_sA, mJ_sJ_1, mJ_sJ_2, mJ_sJ_3, mJ_nW_1, mJ_nW_2]; exact k88 i' (by omega)
      have n24 : mI N1 60 24 = 0 := by rw [f1.1 60 24 (by unfold PR; omega)]; simp (disch := omega) only [true_and, mI_sI_1, mI_sI_2, mI_sI_3, mI_nW_1, mI_nW_2, mI_sR, mI_sJ, mI_sA_1, mI_sA_2, mR_sI, mR_sJ, mR_sA, mR_sR_1, mR_sR_2, mR_sR_3, mR_nW_1, mR_nW_2, mN_sI, mN_sJ, mN_sR, mN_sA, mN_nW_1, mN_nW_2, mJ_sI, mJ_sR, mJ_sA, mJ_sJ_1, mJ_sJ_2, mJ_sJ_3, mJ_nW_1, mJ_nW_2]
      have n25 : mI N1 60 25 = nI t := by rw [f1.1 60 25 (by unfold PR; omega)]; simp (disch := omega) only [true_and, mI_sI_1, mI_sI_2, mI_sI_3, mI_nW_1, mI_nW_2, mI_sR, mI_sJ, mI_sA_1, mI_sA_2, mR_sI, mR_sJ, mR_sA, mR_sR_1, mR_sR_2, mR_sR_3, mR_nW_1, mR_nW_2, mN_sI, mN_sJ, mN_sR, mN_sA, mN_nW_1, mN_nW_2, mJ_sI, mJ_sR, mJ_sA, mJ_sJ_1, mJ_sJ_2, mJ_sJ_3, mJ_nW_1, mJ_nW_2]; exact k25
      have hFO : Fi (PO t) M N1 := Fi_t hF1 (Fi_w wRO f1)
      -- whether it went wrong
      have hz' := hz
      have i1 := Ie.1
      have i2 := Ie.2.1
      refine w_X12_isWrong l N1 _ ⟨fun c => ⟨fun _ => ?_, fun c => absurd rfl c⟩, fun c => ⟨fun c => absurd c (by decide), fun _ => ?_⟩⟩
      · have tg : ttk (xp b z 25 (S (k + 2))) ≠ 27 := fun e => by
          rw [f2.2.2.1 e] at c; exact absurd c (nI_ne1 (by omega))
        have e25 : mI (sI N1 93 t (-1)) 60 25 = nI t := by simp (disch := omega) only [true_and, mI_sI_1, mI_sI_2, mI_sI_3, mI_nW_1, mI_nW_2, mI_sR, mI_sJ, mI_sA_1, mI_sA_2, mR_sI, mR_sJ, mR_sA, mR_sR_1, mR_sR_2, mR_sR_3, mR_nW_1, mR_nW_2, mN_sI, mN_sJ, mN_sR, mN_sA, mN_nW_1, mN_nW_2, mJ_sI, mJ_sR, mJ_sA, mJ_sJ_1, mJ_sJ_2, mJ_sJ_3, mJ_nW_1, mJ_nW_2]; exact n25
        rw [e25, n1, wn32 hwN1]
        refine ⟨wr32 hwN1, vin (by omega) (by decide), hgood tg _ (Fi_s (Fi_s hFO (by unfold PO; omega)) (by unfold PO; omega)) (by simp (disch := omega) only [true_and, mI_sI_1, mI_sI_2, mI_sI_3, mI_nW_1, mI_nW_2, mI_sR, mI_sJ, mI_sA_1, mI_sA_2, mR_sI, mR_sJ, mR_sA, mR_sR_1, mR_sR_2, mR_sR_3, mR_nW_1, mR_nW_2, mN_sI, mN_sJ, mN_sR, mN_sA, mN_nW_1, mN_nW_2, mJ_sI, mJ_sR, mJ_sA, mJ_sJ_1, mJ_sJ_2, mJ_sJ_3, mJ_nW_1, mJ_nW_2]; exact n24) mI_sI_3 ?_⟩
        obtain ⟨g1, g2⟩ := f3 tg
        have gc := (f2.2.2.2 tg).2.2.2.2.2.2.2
        exact ⟨by simp (disch := omega) only [true_and, mI_sI_1, mI_sI_2, mI_sI_3, mI_nW_1, mI_nW_2, mI_sR, mI_sJ, mI_sA_1, mI_sA_2, mR_sI, mR_sJ, mR_sA, mR_sR_1, mR_sR_2, mR_sR_3, mR_nW_1, mR_nW_2, mN_sI, mN_sJ, mN_sR, mN_sA, mN_nW_1, mN_nW_2, mJ_sI, mJ_sR, mJ_sA, mJ_sJ_1, mJ_sJ_2, mJ_sJ_3, mJ_nW_1, mJ_nW_2], by simp (disch := omega) only [true_and, mI_sI_1, mI_sI_2, mI_sI_3, mI_nW_1, mI_nW_2, mI_sR, mI_sJ, mI_sA_1, mI_sA_2, mR_sI, mR_sJ, mR_sA, mR_sR_1, mR_sR_2, mR_sR_3, mR_nW_1, mR_nW_2, mN_sI, mN_sJ, mN_sR, mN_sA, mN_nW_1, mN_nW_2, mJ_sI, mJ_sR, mJ_sA, mJ_sJ_1, mJ_sJ_2, mJ_sJ_3, mJ_nW_1, mJ_nW_2]; exact n87, fun i hi => by simp (disch := omega) only [true_and, mI_sI_1, mI_sI_2, mI_sI_3, mI_nW_1, mI_nW_2, mI_sR, mI_sJ, mI_sA_1, mI_sA_2, mR_sI, mR_sJ, mR_sA, mR_sR_1, mR_sR_2, mR_sR_3, mR_nW_1, mR_nW_2, mN_sI, mN_sJ, mN_sR, mN_sA, mN_nW_1, mN_nW_2, mJ_sI, mJ_sR, mJ_sA, mJ_sJ_1, mJ_sJ_2, mJ_sJ_3, mJ_nW_1, mJ_nW_2]; exact n88 i hi, fun c hc => by simp (disch := omega) only [true_and, mI_sI_1, mI_sI_2, mI_sI_3, mI_nW_1, mI_nW_2, mI_sR, mI_sJ, mI_sA_1, mI_sA_2, mR_sI, mR_sJ, mR_sA, mR_sR_1, mR_sR_2, mR_sR_3, mR_nW_1, mR_nW_2, mN_sI, mN_sJ, mN_sR, mN_sA, mN_nW_1, mN_nW_2, mJ_sI, mJ_sR, mJ_sA, mJ_sJ_1, mJ_sJ_2, mJ_sJ_3, mJ_nW_1, mJ_nW_2]; exact gc c hc, by simp (disch := omega) only [true_and, mI_sI_1, mI_sI_2, mI_sI_3, mI_nW_1, mI_nW_2, mI_sR, mI_sJ, mI_sA_1, mI_sA_2, mR_sI, mR_sJ, mR_sA, mR_sR_1, mR_sR_2, mR_sR_3, mR_nW_1, mR_nW_2, mN_sI, mN_sJ, mN_sR, mN_sA, mN_nW_1, mN_nW_2, mJ_sI, mJ_sR, mJ_sA, mJ_sJ_1, mJ_sJ_2, mJ_sJ_3, mJ_nW_1, mJ_nW_2]; exact g1, fun j hj => by simp (disch := omega) only [true_and, mI_sI_1, mI_sI_2, mI_sI_3, mI_nW_1, mI_nW_2, mI_sR, mI_sJ, mI_sA_1, mI_sA_2, mR_sI, mR_sJ, mR_sA, mR_sR_1, mR_sR_2, mR_sR_3, mR_nW_1, mR_nW_2, mN_sI, mN_sJ, mN_sR, mN_sA, mN_nW_1, mN_nW_2, mJ_sI, mJ_sR, mJ_sA, mJ_sJ_1, mJ_sJ_2, mJ_sJ_3, mJ_nW_1, mJ_nW_2]; exact g2 j hj⟩
      · have tb : ttk (xp b z 25 (S (k + 2))) = 27 := by
          by_cases e : ttk (xp b z 25 (S (k + 2))) = 27
          · exact e
          · exact absurd (f2.2.2.2 e).2.2.2.2.2.2.1 c
        rw [f2.2.2.1 tb]
        exact hbad tb N1 hFO n24 n25
    | succ m ih =>
      intro i N hi hF k24 k25 k88
      have hwN : wM N := fun p hp => by rw [hF.2.2.1, hF.2.2.2.1]; exact hw p hp
      have e84 : mI N 84 i = nI (b i) := by rw [hF.1 84 i (by unfold PO; omega)]; exact (hb i (by omega)).2
      refine w_X12_text_19 l q _ _ N ?_
      rw [k24, nI_leI (by omega) (by omega), nI_clamp (n := i) (by omega), e84, ixm (C := 300) 300 t i rfl, nI_clamp (n := 300 * t + i) (by omega), n1, wn23 hwN, wn27 hwN]
      refine ⟨fun c => by omega, fun _ => ⟨wr27 hwN, wr23 hwN, vin (by omega) (by decide), vin (by omega) (by decide), ?_⟩⟩
      refine ih (i + 1) _ (by omega) (Fi_s hF (by unfold PO; omega)) (by simp (disch := omega) only [true_and, mI_sI_1, mI_sI_2, mI_sI_3, mI_nW_1, mI_nW_2, mI_sR, mI_sJ, mI_sA_1, mI_sA_2, mR_sI, mR_sJ, mR_sA, mR_sR_1, mR_sR_2, mR_sR_3, mR_nW_1, mR_nW_2, mN_sI, mN_sJ, mN_sR, mN_sA, mN_nW_1, mN_nW_2, mJ_sI, mJ_sR, mJ_sA, mJ_sJ_1, mJ_sJ_2, mJ_sJ_3, mJ_nW_1, mJ_nW_2]; exact k24) (by simp (disch := omega) only [true_and, mI_sI_1, mI_sI_2, mI_sI_3, mI_nW_1, mI_nW_2, mI_sR, mI_sJ, mI_sA_1, mI_sA_2, mR_sI, mR_sJ, mR_sA, mR_sR_1, mR_sR_2, mR_sR_3, mR_nW_1, mR_nW_2, mN_sI, mN_sJ, mN_sR, mN_sA, mN_nW_1, mN_nW_2, mJ_sI, mJ_sR, mJ_sA, mJ_sJ_1, mJ_sJ_2, mJ_sJ_3, mJ_nW_1, mJ_nW_2]; exact k25) (fun j hj => ?_)
      by_cases e : j = i
      · subst e; exact mI_sI_3
      · rw [mI_sI_2 (by omega)]; exact k88 j (by omega)
  refine w_X12_text l M q ?_
  rw [h25]
  refine ⟨fun _ => key z 0 M (by omega) (Fi_r _ _) h24 h25 (fun j hj => by omega), fun c => ?_⟩
  have := (nI_eq (b := 10) (by omega) (by decide)).mp c
  omega
end S788

