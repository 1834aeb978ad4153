/-! the class: who fits, the seating -/
section S65
variable {l : Launch} {M : o_M} {nw np ns nt T : Nat}
def fit (v : o_v) (ns nt np s : Nat) (i : Int32) : Nat := setN (fun p => f_hinders v ns nt s p i == 0) np
def fmC (v : o_v) (ns nt np s c : Nat) : Nat := fit v ns nt np s (nI (f_inst v s c))
theorem fit_t (v : o_v) (ns nt np s : Nat) (i : Int32) (p : Nat) : (fit v ns nt np s i).testBit p = (decide (p < np) && (f_hinders v ns nt s p i == 0)) := setN_t _ np p
theorem fit_lt {v : o_v} {ns nt np s : Nat} {i : Int32} (h : np ≤ 10) : fit v ns nt np s i < 1024 := by
  apply Nat.lt_pow_two_of_testBit (n := 10)
  intro p hp
  rw [fit_t]
  have : decide (p < np) = false := by simp; omega
  rw [this]; rfl
theorem fr_fit {N : o_M} (h : Sm M N) : fit (mI N) = fit (mI M) := by funext ns nt np s i; unfold fit; rw [fr_hinders h]
theorem fr_fm {N : o_M} (h : Sm M N) : fmC (mI N) = fmC (mI M) := by funext ns nt np s c; unfold fmC; rw [fr_fit h, fr_inst h]
theorem c11_findFitting (r : Rel M nw np ns nt T) (hT : T < 2 ^ 30) {s : Nat} (hs : s < ns) (i : Int32) (q : Int32 → o_M → Prop) (h : ∀ N, Sk M N → q (nI (fit (mI M) ns nt np s i)) N) : K_X11_findFitting l [rV (some 16), rV (some (47 + 128 * s)), iV i] M q := by
  have hnp := r.2.2.1.2.1.1
  have key : ∀ m p, p + m = np → ∀ N, Sk M N → H_X11_findFitting_5 l q (47 + 128 * s) i (nI (setN (fun p => f_hinders (mI M) ns nt s p i == 0) p)) (nI p) N := by
    intro m
    induction m with
    | zero =>
      intro p hp N hN
      have rN := Rel_Sm hN.1 r
      have : p = np := by omega
      subst this
      exact w_X11_findFitting_5 l q _ (ty47 s) _ _ _ N ⟨fun _ => h N hN, fun z => absurd (by rw [rN.2.2.1.2.1.2.1]; exact nI_le (Nat.le_refl _) (by omega)) z⟩
    | succ m ih =>
      intro p hp N hN
      have rN := Rel_Sm hN.1 r
      have e : ∀ N', Sk M N' → H_X11_findFitting_5 l q (47 + 128 * s) i (nI (if f_hinders (mI M) ns nt s p i == 0 then setN (fun p => f_hinders (mI M) ns nt s p i == 0) p ||| 2 ^ p else setN (fun p => f_hinders (mI M) ns nt s p i == 0) p)) (nI (p + 1)) N' := ih (p + 1) (by omega)
      refine w_X11_findFitting_5 l q _ (ty47 s) _ _ _ N ⟨fun z => ?_, fun _ => c11_findHindrance rN hT hs (by omega) i _ (fun N' hN' => ?_)⟩
      · rw [rN.2.2.1.2.1.2.1, nI_leI (by omega) (by omega)] at z; omega
      rw [fr_hinders hN.1, n1, bitp p (by omega), nI_or]
      refine ⟨fun z => ?_, fun z => ?_⟩
      · have : (f_hinders (mI M) ns nt s p i == 0) = false := by simp [z]
        rw [this] at e; exact e N' (Sk_t hN hN')
      · have : (f_hinders (mI M) ns nt s p i == 0) = true := by simp [z]
        rw [this] at e; exact e N' (Sk_t hN hN')
  exact w_X11_findFitting l _ _ (ty47 s) M q (key np 0 (by omega) M (Sk_r M))
theorem ty30 : o_ty 30 = .inr .int := rfl
theorem ty31 : o_ty 31 = .inr .int := rfl
theorem ty32 : o_ty 32 = .inr .int := rfl
theorem c11_findSeating (r : Rel M nw np ns nt T) (hT : T < 2 ^ 30) {s : Nat} (hs : s < ns) (q : o_M → Prop) (h : ∀ N h g S, Sm M N → SR N (cs (mI M) s 6) S (fmC (mI M) ns nt np s) h g → Mt (cnf (fmC (mI M) ns nt np s)) np (cs (mI M) s 6) h g → (∀ c, c < cs (mI M) s 6 → h c = fndS (cnf (fmC (mI M) ns nt np s)) np (cs (mI M) s 6) c (Sq (cnf (fmC (mI M) ns nt np s)) np (cs (mI M) s 6) c)) → sz h 0 (cs (mI M) s 6) = fl (cnf (fmC (mI M) ns nt np s)) np (cs (mI M) s 6) 0 0 → q N) : K_X11_findSeating l [rV (some 16), rV (some (47 + 128 * s))] M q := by
  have hX := r.2.1
  have hnp := r.2.2.1.2.1.1
  obtain ⟨⟨_, _, g5, _, _, l5, _⟩, _, _, ⟨nds, chc, m12, hm12, em, _⟩⟩ := r.2.2.2.2.2.2.1.1 s hs
  have h18 := cs_le (mI M) s 6
  have hmc : m12 = cs (mI M) s 6 := nI_inj (by omega) (by omega) (em.symm.trans (chairs_cs _ _))
  subst hmc
  -- filling the rows of who fits
  have allowL : ∀ i, i < 6 → ∀ (fitv : Int32), (0 < nd (mI M) s i → fitv = nI (fit (mI M) ns nt np s (nI i))) → (∀ N, Sm M N → mI N 29 5 = nI (cs (mI M) s 6) → mI N 29 6 = 0 → (∀ c, c < cs (mI M) s (i + 1) → mI N 30 c = nI (fmC (mI M) ns nt np s c)) → (∀ c, c < 12 → mI N 31 c = -1) → (∀ p, p < 10 → mI N 32 p = -1) → H_X11_findSeating_15 l q (47 + 128 * s) (nI (cs (mI M) s (i + 1))) (nI (i + 1)) N) → ∀ a k, k + a = nd (mI M) s i → ∀ N, Sm M N → mI N 29 5 = nI (cs (mI M) s 6) → mI N 29 6 = 0 → (∀ c, c < cs (mI M) s i + k → mI N 30 c = nI (fmC (mI M) ns nt np s c)) → (∀ c, c < 12 → mI N 31 c = -1) → (∀ p, p < 10 → mI N 32 p = -1) → H_X11_findSeating_45 l q (47 + 128 * s) (nI (cs (mI M) s i + k)) (nI i) fitv (nI k) N := by
    intro i hi fitv hfit hnext a
    have n3 := (nd_eq (mI M) s i).1
    have hm6 : cs (mI M) s i + nd (mI M) s i ≤ cs (mI M) s 6 := cs_mono (mI M) s (i := i + 1) (j := 6) (by omega)
    induction a with
    | zero =>
      intro k hk N hN e5 e6 h30 h31 h32
      refine w_X11_findSeating_45 l q _ (ty47 s) _ _ _ _ N ?_
      rw [show 47 + 128 * s + 2 = 49 + 128 * s by omega, hN.2.2.1, hN.2.2.2.1, l5, nI_clamp (by omega), Sm_i hN (scr_o (by omega) (by omega)), nds i hi, (nd_eq (mI M) s i).2, n1]
      refine ⟨g5, vin hi (by decide), fun _ => ?_, fun z => absurd (nI_le (by omega) (by omega)) z⟩
      have e : cs (mI M) s i + k = cs (mI M) s (i + 1) := by simp only [cs]; omega
      rw [e] at h30 ⊢
      exact hnext N hN e5 e6 h30 h31 h32
    | succ a ih =>
      intro k hk N hN e5 e6 h30 h31 h32
      refine w_X11_findSeating_45 l q _ (ty47 s) _ _ _ _ N ?_
      rw [show 47 + 128 * s + 2 = 49 + 128 * s by omega, hN.2.2.1, hN.2.2.2.1, l5, nI_clamp (by omega), Sm_i hN (scr_o (by omega) (by omega)), nds i hi, (nd_eq (mI M) s i).2, n1 (cs (mI M) s i + k), n1 k]
      refine ⟨g5, vin hi (by decide), fun z => ?_, fun _ => ⟨xo8 hX, w_X5_allow l _ _ N _ (c11_isWithin _ _ _ _ ?_)⟩⟩
      · rw [nI_leI (by omega) (by omega)] at z; omega
      rw [e5, rng_ix1 (by omega) (show cs (mI M) s i + k < cs (mI M) s 6 by omega), nI_clamp (by omega)]
      refine ⟨fun y => absurd y (by decide), fun _ => ⟨xr29_0 (Sm_wX hN hX), by rw [xn30 (Sm_wX hN hX)]; exact vin (by omega) (by decide), ih (k + 1) (by omega) _ (Sm_t hN (Sm_sI _ rfl _)) (by simp (disch := omega) only [true_and, mI_sI_1, mI_sI_2, mI_sI_3, mI_nW_1, mI_nW_2, mI_sR, mI_sJ, mI_sA_1, mI_sA_2, mR_sI, mR_sJ, mR_sA, mR_sR_1, mR_sR_2, mR_sR_3, mR_nW_1, mR_nW_2, mN_sI, mN_sJ, mN_sR, mN_sA, mN_nW_1, mN_nW_2, mJ_sI, mJ_sR, mJ_sA, mJ_sJ_1, mJ_sJ_2, mJ_sJ_3, mJ_nW_1, mJ_nW_2]; exact e5) (by simp (disch := omega) only [true_and, mI_sI_1, mI_sI_2, mI_sI_3, mI_nW_1, mI_nW_2, mI_sR, mI_sJ, mI_sA_1, mI_sA_2, mR_sI, mR_sJ, mR_sA, mR_sR_1, mR_sR_2, mR_sR_3, mR_nW_1, mR_nW_2, mN_sI, mN_sJ, mN_sR, mN_sA, mN_nW_1, mN_nW_2, mJ_sI, mJ_sR, mJ_sA, mJ_sJ_1, mJ_sJ_2, mJ_sJ_3, mJ_nW_1, mJ_nW_2]; exact e6) (fun c hc => ?_) (fun c hc => by simp (disch := omega) only [true_and, mI_sI_1, mI_sI_2, mI_sI_3, mI_nW_1, mI_nW_2, mI_sR, mI_sJ, mI_sA_1, mI_sA_2, mR_sI, mR_sJ, mR_sA, mR_sR_1, mR_sR_2, mR_sR_3, mR_nW_1, mR_nW_2, mN_sI, mN_sJ, mN_sR, mN_sA, mN_nW_1, mN_nW_2, mJ_sI, mJ_sR, mJ_sA, mJ_sJ_1, mJ_sJ_2, mJ_sJ_3, mJ_nW_1, mJ_nW_2]; exact h31 c hc) (fun p hp => by simp (disch := omega) only [true_and, mI_sI_1, mI_sI_2, mI_sI_3, mI_nW_1, mI_nW_2, mI_sR, mI_sJ, mI_sA_1, mI_sA_2, mR_sI, mR_sJ, mR_sA, mR_sR_1, mR_sR_2, mR_sR_3, mR_nW_1, mR_nW_2, mN_sI, mN_sJ, mN_sR, mN_sA, mN_nW_1, mN_nW_2, mJ_sI, mJ_sR, mJ_sA, mJ_sJ_1, mJ_sJ_2, mJ_sJ_3, mJ_nW_1, mJ_nW_2]; exact h32 p hp)⟩⟩
      by_cases hck : c = cs (mI M) s i + k
      · subst hck
        simp (disch := omega) only [true_and, mI_sI_1, mI_sI_2, mI_sI_3, mI_nW_1, mI_nW_2, mI_sR, mI_sJ, mI_sA_1, mI_sA_2, mR_sI, mR_sJ, mR_sA, mR_sR_1, mR_sR_2, mR_sR_3, mR_nW_1, mR_nW_2, mN_sI, mN_sJ, mN_sR, mN_sA, mN_nW_1, mN_nW_2, mJ_sI, mJ_sR, mJ_sA, mJ_sJ_1, mJ_sJ_2, mJ_sJ_3, mJ_nW_1, mJ_nW_2]
        rw [hfit (by omega)]
        unfold fmC
        rw [f_inst_eq (i := i) (by omega) (by simp only [cs]; omega) hi]
      · simp (disch := omega) only [true_and, mI_sI_1, mI_sI_2, mI_sI_3, mI_nW_1, mI_nW_2, mI_sR, mI_sJ, mI_sA_1, mI_sA_2, mR_sI, mR_sJ, mR_sA, mR_sR_1, mR_sR_2, mR_sR_3, mR_nW_1, mR_nW_2, mN_sI, mN_sJ, mN_sR, mN_sA, mN_nW_1, mN_nW_2, mJ_sI, mJ_sR, mJ_sA, mJ_sJ_1, mJ_sJ_2, mJ_sJ_3, mJ_nW_1, mJ_nW_2]; exact h30 c (by omega)
  have outer : ∀ m i, i + m = 6 → ∀ N, Sm M N → mI N 29 5 = nI (cs (mI M) s 6) → mI N 29 6 = 0 → (∀ c, c < cs (mI M) s i → mI N 30 c = nI (fmC (mI M) ns nt np s c)) → (∀ c, c < 12 → mI N 31 c = -1) → (∀ p, p < 10 → mI N 32 p = -1) → H_X11_findSeating_15 l q (47 + 128 * s) (nI (cs (mI M) s i)) (nI i) N := by
    intro m
    induction m with
    | zero =>
      intro i hi N hN e5 e6 h30 h31 h32
      have : i = 6 := by omega
      subst this
      refine w_X11_findSeating_15 l q _ (ty47 s) _ _ N ⟨fun _ => ⟨xo8 (Sm_wX hN hX), ?_⟩, fun z => absurd (by decide) z⟩
      refine c5_seatAll (Sm_wX hN hX) (P := np) (n := cs (mI M) s 6) (fm := fmC (mI M) ns nt np s) hnp (by omega) (fun c hc => ⟨fit_lt hnp, fun p hp => ?_⟩) ⟨e5, e6, h30, h31, h32⟩ _ (fun N' h' g' S' hN' hSR hM hfd hsz => h N' h' g' S' (Sm_t hN hN') hSR hM hfd hsz)
      have hp : (fit (mI M) ns nt np s (nI (f_inst (mI M) s c))).testBit p = true := hp
      rw [fit_t, Bool.and_eq_true, decide_eq_true_eq] at hp
      exact hp.1
    | succ m ih =>
      intro i hi N hN e5 e6 h30 h31 h32
      have n3 := (nd_eq (mI M) s i).1
      refine w_X11_findSeating_15 l q _ (ty47 s) _ _ N ⟨fun z => ?_, fun _ => ?_⟩
      · (simp (disch := omega) only [ile, ilt, ieq, nI_toInt, Int32.reduceToInt] at z; omega)
      rw [show 47 + 128 * s + 2 = 49 + 128 * s by omega, hN.2.2.1, hN.2.2.2.1, l5, nI_clamp (by omega), Sm_i hN (scr_o (by omega) (by omega)), nds i (by omega), (nd_eq (mI M) s i).2]
      refine ⟨g5, vin (by omega) (by decide), fun z => ?_, fun z => ?_⟩
      · have rN := Rel_Sm hN r
        refine c11_findFitting rN hT hs _ _ (fun N' hN' => ?_)
        rw [fr_fit hN]
        have k := fun id hid => hN'.2 id hid
        exact allowL i (by omega) _ (fun _ => rfl) (ih (i + 1) (by omega)) (nd (mI M) s i) 0 (by omega) N' (Sm_t hN hN'.1) (by rw [k 29 (by decide)]; exact e5) (by rw [k 29 (by decide)]; exact e6) (fun c hc => by rw [k 30 (by decide)]; exact h30 c (by omega)) (fun c hc => by rw [k 31 (by decide)]; exact h31 c hc) (fun p hp => by rw [k 32 (by decide)]; exact h32 p hp)
      · have hz : nd (mI M) s i = 0 := nI_inj (by omega) (by omega) z
        exact allowL i (by omega) 0 (fun y => by omega) (ih (i + 1) (by omega)) (nd (mI M) s i) 0 (by omega) N hN e5 e6 h30 h31 h32
  refine w_X11_findSeating l _ (ty47 s) M q ⟨xo8 hX, w_X5_begin l _ M _ (cJ_min _ _ _ ?_)⟩
  rw [chc, em]
  have hmin : (if nI (cs (mI M) s 6) ≤ 12 then nI (cs (mI M) s 6) else 12) = nI (cs (mI M) s 6) := if_pos (nI_le (b := 12) hm12 (by omega))
  rw [hmin]
  have sA0 : Sm M (sI (sI M 29 5 (nI (cs (mI M) s 6))) 29 6 0) := Sm_t (Sm_sI _ rfl _) (Sm_sI _ rfl _)
  refine ⟨by simp (disch := omega) only [true_and, mI_sI_1, mI_sI_2, mI_sI_3, mI_nW_1, mI_nW_2, mI_sR, mI_sJ, mI_sA_1, mI_sA_2, mR_sI, mR_sJ, mR_sA, mR_sR_1, mR_sR_2, mR_sR_3, mR_nW_1, mR_nW_2, mN_sI, mN_sJ, mN_sR, mN_sA, mN_nW_1, mN_nW_2, mJ_sI, mJ_sR, mJ_sA, mJ_sJ_1, mJ_sJ_2, mJ_sJ_3, mJ_nW_1, mJ_nW_2, xr29_0 hX], c7_fill ty30 (n := 12) (by simp (disch := omega) only [true_and, mI_sI_1, mI_sI_2, mI_sI_3, mI_nW_1, mI_nW_2, mI_sR, mI_sJ, mI_sA_1, mI_sA_2, mR_sI, mR_sJ, mR_sA, mR_sR_1, mR_sR_2, mR_sR_3, mR_nW_1, mR_nW_2, mN_sI, mN_sJ, mN_sR, mN_sA, mN_nW_1, mN_nW_2, mJ_sI, mJ_sR, mJ_sA, mJ_sJ_1, mJ_sJ_2, mJ_sJ_3, mJ_nW_1, mJ_nW_2, xn30 hX]) (by decide) _ _ (fun N1 h1 => ?_)⟩
  have s1 := Sm_t sA0 (Wr_Sm h1 (fun _ => rfl))
  refine ⟨xr29_1 (Sm_wX s1 hX), c7_fill ty31 (xn31 (Sm_wX s1 hX)) (by decide) _ _ (fun N2 h2 => ?_)⟩
  have s2 := Sm_t s1 (Wr_Sm h2 (fun _ => rfl))
  refine ⟨xr29_2 (Sm_wX s2 hX), c7_fill ty32 (xn32 (Sm_wX s2 hX)) (by decide) _ _ (fun N3 h3 => ?_)⟩
  have s3 := Sm_t s2 (Wr_Sm h3 (fun _ => rfl))
  refine outer 6 0 (by omega) N3 s3 ?_ ?_ (fun c hc => by simp [cs] at hc) (fun c hc => ?_) (fun p hp => ?_)
  · rw [Wr_o h3 (by decide), Wr_o h2 (by decide), Wr_o h1 (by decide)]; simp (disch := omega) only [true_and, mI_sI_1, mI_sI_2, mI_sI_3, mI_nW_1, mI_nW_2, mI_sR, mI_sJ, mI_sA_1, mI_sA_2, mR_sI, mR_sJ, mR_sA, mR_sR_1, mR_sR_2, mR_sR_3, mR_nW_1, mR_nW_2, mN_sI, mN_sJ, mN_sR, mN_sA, mN_nW_1, mN_nW_2, mJ_sI, mJ_sR, mJ_sA, mJ_sJ_1, mJ_sJ_2, mJ_sJ_3, mJ_nW_1, mJ_nW_2]
  · rw [Wr_o h3 (by decide), Wr_o h2 (by decide), Wr_o h1 (by decide)]; simp (disch := omega) only [true_and, mI_sI_1, mI_sI_2, mI_sI_3, mI_nW_1, mI_nW_2, mI_sR, mI_sJ, mI_sA_1, mI_sA_2, mR_sI, mR_sJ, mR_sA, mR_sR_1, mR_sR_2, mR_sR_3, mR_nW_1, mR_nW_2, mN_sI, mN_sJ, mN_sR, mN_sA, mN_nW_1, mN_nW_2, mJ_sI, mJ_sR, mJ_sA, mJ_sJ_1, mJ_sJ_2, mJ_sJ_3, mJ_nW_1, mJ_nW_2]
  · rw [Wr_o h3 (by decide), h2.1, if_pos (by omega)]
  · rw [h3.1, if_pos (by omega)]
end S65
