/-! the model finds the seating -/
section S66
variable {l : Launch} {M : o_M} {nw np ns nt T : Nat}
/-- the choice of a player for a chair -/
theorem c12_choice {N : o_M} (wN : wM N) {c S p P m : Nat} {can : Nat → Nat → Bool} (hc : c < 12) (hS : S < 1024) (hp : p < P) (hP : P ≤ 10) (hcan : mI N 112 (10 * c + p) = b2 (can c p)) (hf : ∀ S, S < 1024 → mI N 113 (1024 * (c + 1) + S) = nI (fl can P m (c + 1) S)) (q : Int32 → o_M → Prop) (h0 : (can c p && !S.testBit p) = false → q (-1) N) (h1 : (can c p && !S.testBit p) = true → q (nI (1 + fl can P m (c + 1) (bs S p))) N) : K_X12_choice l [rV (some 60), iV (nI c), iV (nI S), iV (nI p)] N q := by
  have hix : (10 : Int32) * nI c + nI p = nI (10 * c + p) := ixm 10 c p rfl
  have hbs := bs_lt hS (show p < 10 by omega)
  have e2p : S ||| 2 ^ p = bs S p := by unfold bs; rw [Nat.one_shiftLeft]
  have hix2 : (1024 : Int32) * (nI c + 1) + (nI S ||| ((1 : Int32) <<< (nI p &&& 31))) = nI (1024 * (c + 1) + bs S p) := by
    rw [n1, bitp p (by omega), nI_or, e2p]; exact ixm 1024 (c + 1) (bs S p) rfl
  refine w_X12_choice l _ _ _ N q ?_
  rw [hix, hix2, wn51 wN, wn52 wN, nI_clamp (by omega), nI_clamp (by omega), hcan, hf _ hbs]
  refine ⟨wr51 wN, vin (by omega) (by decide), fun z => h0 (by rw [b2_0.mp z]; rfl), fun z => ⟨fun z2 => h0 ?_, fun z2 => ⟨wr52 wN, vin (by omega) (by decide), ?_⟩⟩⟩
  · have : S.testBit p = true := by
      cases hb : S.testBit p with
      | true => rfl
      | false => exact absurd ((bit_iff0 (by omega) (by omega)).mpr hb) z2
    rw [this]; simp
  · have hb := (bit_iff0 (a := S) (i := p) (by omega) (by omega)).mp z2
    have := h1 (by rw [b2_n0.mp z, hb]; rfl)
    rw [show (1 : Int32) = nI 1 from rfl, nI_add]; exact this
theorem fl_lp (can : Nat → Nat → Bool) (P m c S : Nat) : fl can P (m + 1) c S = lp (fun p a => if can c p && !S.testBit p then (if a < 1 + fl can P m (c + 1) (bs S p) then 1 + fl can P m (c + 1) (bs S p) else a) else a) (fl can P m (c + 1) S) P := rfl
theorem lp_bd {can : Nat → Nat → Bool} {P m c S : Nat} : ∀ k, lp (fun p a => if can c p && !S.testBit p then (if a < 1 + fl can P m (c + 1) (bs S p) then 1 + fl can P m (c + 1) (bs S p) else a) else a) (fl can P m (c + 1) S) k ≤ m + 1
  | 0 => by have := fl_m can P m (c + 1) S; simp only [lp]; omega
  | k + 1 => by
    have h := lp_bd (can := can) (P := P) (m := m) (c := c) (S := S) k
    have := fl_m can P m (c + 1) (bs S k)
    simp only [lp]
    split
    · split <;> omega
    · exact h
theorem c12_seats (r : Rel M nw np ns nt T) {s : Nat} (hs : s < ns) (q : Int32 → o_M → Prop) (h : ∀ N, Sm M N → (∀ c, c < cs (mI M) s 6 → mI N 114 c = oI (fndS (cnf (fmC (mI M) ns nt np s)) np (cs (mI M) s 6) c (Sq (cnf (fmC (mI M) ns nt np s)) np (cs (mI M) s 6) c))) → q (nI (cs (mI M) s 6 - fl (cnf (fmC (mI M) ns nt np s)) np (cs (mI M) s 6) 0 0)) N) : K_X12_seats l [rV (some 60), iV (nI s)] M q := by
  have hnp := r.2.2.1.2.1.1
  have hns := r.2.2.1.2.2.1.1
  obtain ⟨n', hn', en'⟩ := chairs_of r hs
  have h18 := cs_le (mI M) s 6
  have hnn : n' = cs (mI M) s 6 := nI_inj (by omega) (by omega) (en'.symm.trans (chairs_cs _ _))
  subst hnn
  generalize hn : cs (mI M) s 6 = n at *
  generalize hcn : cnf (fmC (mI M) ns nt np s) = can at *
  have hcanv : ∀ c p, p < np → can c p = (f_hinders (mI M) ns nt s p (nI (f_inst (mI M) s c)) == 0) := fun c p hp => by
    rw [← hcn]
    show (fit (mI M) ns nt np s (nI (f_inst (mI M) s c))).testBit p = _
    rw [fit_t]; simp [hp]
  -- the rows that stay
  -- finding
  have look : ∀ m c, c + m = n → ∀ N, Sm M N → (∀ c p, c < n → p < np → mI N 112 (10 * c + p) = b2 (can c p)) → (∀ c S, c ≤ n → S < 1024 → mI N 113 (1024 * c + S) = nI (fl can np (n - c) c S)) → Sq can np n c < 1024 → (∀ k, k < c → mI N 114 k = oI (fndS can np n k (Sq can np n k))) → H_X12_seats_225 l q (nI n) (nI (Sq can np n c)) (nI c) N := by
    intro m
    induction m with
    | zero =>
      intro c hc N hN hcan hfl hS hfd
      have wN := Sm_wM hN r.1
      have : c = n := by omega
      subst this
      have hb := fl_m can np c 0 0
      refine w_X12_seats_225 l q _ _ _ N ⟨fun _ => ⟨wr52 wN, by rw [wn52 wN]; exact vin (j := 0) (by decide) (by decide), ?_⟩, fun z => absurd (nI_le (Nat.le_refl _) (by omega)) z⟩
      have e0 : mI N 113 (0 : Int32).toNatClampNeg = nI (fl can np c 0 0) := by
        have := hfl 0 0 (Nat.zero_le _) (by decide)
        rw [Nat.sub_zero] at this; exact this
      rw [e0, pk_sub hb]
      exact h N hN hfd
    | succ m ih =>
      intro c hc N hN hcan hfl hS hfd
      have wN := Sm_wM hN r.1
      have hcl : c < n := by omega
      have scan : ∀ k, k ≤ np → ∀ N1, Sm M N1 → (∀ c p, c < n → p < np → mI N1 112 (10 * c + p) = b2 (can c p)) → (∀ c S, c ≤ n → S < 1024 → mI N1 113 (1024 * c + S) = nI (fl can np (n - c) c S)) → (∀ j, j < c → mI N1 114 j = oI (fndS can np n j (Sq can np n j))) → mI N1 114 c = oI (lf (gsel can np n c (Sq can np n c)) k (np - k)) → H_X12_seats_247 l q (nI n) (nI (Sq can np n c)) (nI c) (nI k - 1) N1 := by
        intro k
        induction k with
        | zero =>
          intro hk N1 hN1 hcan hfl hfd hcur
          have wN1 := Sm_wM hN1 r.1
          have hfd' : mI N1 114 c = oI (fndS can np n c (Sq can np n c)) := by rw [hcur, Nat.sub_zero]; rfl
          have em : nI 0 - 1 = (-1 : Int32) := by decide
          rw [em]
          refine w_X12_seats_247 l q _ _ _ _ N1 ⟨fun _ => ?_, fun z => absurd (by decide) z⟩
          rw [nI_clamp (by omega), hfd', wn53 wN1, n1]
          have hall : ∀ k, k < c + 1 → mI N1 114 k = oI (fndS can np n k (Sq can np n k)) := fun k hk => by
            by_cases hkc : k = c
            · subst hkc; exact hfd'
            · exact hfd k (by omega)
          have hlt : ∀ p, fndS can np n c (Sq can np n c) = some p → p < np := fun p hp => by
            unfold fndS at hp
            have : ∀ m k, lf (gsel can np n c (Sq can np n c)) k m = some p → p < k + m := fun m => by
              induction m with
              | zero => intro k hk; cases hk
              | succ m ih =>
                intro k hk
                unfold lf at hk
                split at hk
                · cases hk; omega
                · have := ih (k + 1) hk; omega
            have := this np 0 hp; omega
          cases ho : fndS can np n c (Sq can np n c) with
          | none =>
            refine ⟨wr53 wN1, vin (by omega) (by decide), fun y => absurd rfl y, fun _ => ?_⟩
            have e0 : nI (Sq can np n c) ||| 0 = nI (Sq can np n (c + 1)) := by
              rw [show (0 : Int32) = nI 0 from rfl, nI_or, Nat.or_zero]
              show _ = nI (nxS can np n c (Sq can np n c))
              unfold nxS; rw [ho]
            rw [e0]
            exact ih (c + 1) (by omega) N1 hN1 hcan hfl (by show nxS can np n c (Sq can np n c) < 1024; unfold nxS; rw [ho]; exact hS) hall
          | some p =>
            have hp := hlt p ho
            have hoI : oI (some p) = nI p := rfl
            rw [hoI]
            refine ⟨wr53 wN1, vin (by omega) (by decide), fun _ => ⟨wr53 wN1, vin (by omega) (by decide), ?_⟩, fun y => absurd y (nI_ne1 (by omega))⟩
            have e0 : nI (Sq can np n c) ||| ((1 : Int32) <<< (nI p &&& 31)) = nI (Sq can np n (c + 1)) := by
              rw [bitp p (by omega), nI_or]
              show _ = nI (nxS can np n c (Sq can np n c))
              unfold nxS; rw [ho]
              show _ = nI (bs (Sq can np n c) p)
              unfold bs; rw [Nat.one_shiftLeft]
            rw [e0]
            exact ih (c + 1) (by omega) N1 hN1 hcan hfl (by show nxS can np n c (Sq can np n c) < 1024; unfold nxS; rw [ho]; exact bs_lt hS (by omega)) hall
        | succ k ihk =>
          intro hk N1 hN1 hcan hfl hfd hcur
          have wN1 := Sm_wM hN1 r.1
          have em : nI (k + 1) - 1 = nI k := pk_sub (a := k + 1) (b := 1) (by omega)
          have em2 : nI k + -1 = nI k - 1 := by grind
          rw [em]
          have hix : (1024 : Int32) * nI c + nI (Sq can np n c) = nI (1024 * c + Sq can np n c) := ixm 1024 c _ rfl
          have hcurf := hfl c (Sq can np n c) (by omega) hS
          have hlfs : lf (gsel can np n c (Sq can np n c)) k (np - k) = if gsel can np n c (Sq can np n c) k then some k else lf (gsel can np n c (Sq can np n c)) (k + 1) (np - (k + 1)) := by
            rw [show np - k = (np - (k + 1)) + 1 by omega]; rfl
          have hfb := fl_m can np (n - c) c (Sq can np n c)
          have hno : gsel can np n c (Sq can np n c) k = false → H_X12_seats_247 l q (nI n) (nI (Sq can np n c)) (nI c) (nI k - 1) (sI N1 114 c (mI N1 114 c)) := fun hg => by
            refine ihk (by omega) _ (Sm_t hN1 (Sm_sI _ rfl _)) (fun a b ha hb => by simp (disch := omega) only [true_and, mI_sI_1, mI_sI_2, mI_sI_3, mI_nW_1, mI_nW_2, mI_sR, mI_sJ, mI_sA_1, mI_sA_2, mR_sI, mR_sJ, mR_sA, mR_sR_1, mR_sR_2, mR_sR_3, mR_nW_1, mR_nW_2, mN_sI, mN_sJ, mN_sR, mN_sA, mN_nW_1, mN_nW_2, mJ_sI, mJ_sR, mJ_sA, mJ_sJ_1, mJ_sJ_2, mJ_sJ_3, mJ_nW_1, mJ_nW_2]; exact hcan a b ha hb) (fun a S ha hS => by simp (disch := omega) only [true_and, mI_sI_1, mI_sI_2, mI_sI_3, mI_nW_1, mI_nW_2, mI_sR, mI_sJ, mI_sA_1, mI_sA_2, mR_sI, mR_sJ, mR_sA, mR_sR_1, mR_sR_2, mR_sR_3, mR_nW_1, mR_nW_2, mN_sI, mN_sJ, mN_sR, mN_sA, mN_nW_1, mN_nW_2, mJ_sI, mJ_sR, mJ_sA, mJ_sJ_1, mJ_sJ_2, mJ_sJ_3, mJ_nW_1, mJ_nW_2]; exact hfl a S ha hS) (fun j hj => by simp (disch := omega) only [true_and, mI_sI_1, mI_sI_2, mI_sI_3, mI_nW_1, mI_nW_2, mI_sR, mI_sJ, mI_sA_1, mI_sA_2, mR_sI, mR_sJ, mR_sA, mR_sR_1, mR_sR_2, mR_sR_3, mR_nW_1, mR_nW_2, mN_sI, mN_sJ, mN_sR, mN_sA, mN_nW_1, mN_nW_2, mJ_sI, mJ_sR, mJ_sA, mJ_sJ_1, mJ_sJ_2, mJ_sJ_3, mJ_nW_1, mJ_nW_2]; exact hfd j hj) ?_
            simp (disch := omega) only [true_and, mI_sI_1, mI_sI_2, mI_sI_3, mI_nW_1, mI_nW_2, mI_sR, mI_sJ, mI_sA_1, mI_sA_2, mR_sI, mR_sJ, mR_sA, mR_sR_1, mR_sR_2, mR_sR_3, mR_nW_1, mR_nW_2, mN_sI, mN_sJ, mN_sR, mN_sA, mN_nW_1, mN_nW_2, mJ_sI, mJ_sR, mJ_sA, mJ_sJ_1, mJ_sJ_2, mJ_sJ_3, mJ_nW_1, mJ_nW_2]
            rw [hcur, hlfs, hg]; rfl
          have hyes : gsel can np n c (Sq can np n c) k = true → H_X12_seats_247 l q (nI n) (nI (Sq can np n c)) (nI c) (nI k - 1) (sI N1 114 c (nI k)) := fun hg => by
            refine ihk (by omega) _ (Sm_t hN1 (Sm_sI _ rfl _)) (fun a b ha hb => by simp (disch := omega) only [true_and, mI_sI_1, mI_sI_2, mI_sI_3, mI_nW_1, mI_nW_2, mI_sR, mI_sJ, mI_sA_1, mI_sA_2, mR_sI, mR_sJ, mR_sA, mR_sR_1, mR_sR_2, mR_sR_3, mR_nW_1, mR_nW_2, mN_sI, mN_sJ, mN_sR, mN_sA, mN_nW_1, mN_nW_2, mJ_sI, mJ_sR, mJ_sA, mJ_sJ_1, mJ_sJ_2, mJ_sJ_3, mJ_nW_1, mJ_nW_2]; exact hcan a b ha hb) (fun a S ha hS => by simp (disch := omega) only [true_and, mI_sI_1, mI_sI_2, mI_sI_3, mI_nW_1, mI_nW_2, mI_sR, mI_sJ, mI_sA_1, mI_sA_2, mR_sI, mR_sJ, mR_sA, mR_sR_1, mR_sR_2, mR_sR_3, mR_nW_1, mR_nW_2, mN_sI, mN_sJ, mN_sR, mN_sA, mN_nW_1, mN_nW_2, mJ_sI, mJ_sR, mJ_sA, mJ_sJ_1, mJ_sJ_2, mJ_sJ_3, mJ_nW_1, mJ_nW_2]; exact hfl a S ha hS) (fun j hj => by simp (disch := omega) only [true_and, mI_sI_1, mI_sI_2, mI_sI_3, mI_nW_1, mI_nW_2, mI_sR, mI_sJ, mI_sA_1, mI_sA_2, mR_sI, mR_sJ, mR_sA, mR_sR_1, mR_sR_2, mR_sR_3, mR_nW_1, mR_nW_2, mN_sI, mN_sJ, mN_sR, mN_sA, mN_nW_1, mN_nW_2, mJ_sI, mJ_sR, mJ_sA, mJ_sJ_1, mJ_sJ_2, mJ_sJ_3, mJ_nW_1, mJ_nW_2]; exact hfd j hj) ?_
            simp (disch := omega) only [true_and, mI_sI_1, mI_sI_2, mI_sI_3, mI_nW_1, mI_nW_2, mI_sR, mI_sJ, mI_sA_1, mI_sA_2, mR_sI, mR_sJ, mR_sA, mR_sR_1, mR_sR_2, mR_sR_3, mR_nW_1, mR_nW_2, mN_sI, mN_sJ, mN_sR, mN_sA, mN_nW_1, mN_nW_2, mJ_sI, mJ_sR, mJ_sA, mJ_sJ_1, mJ_sJ_2, mJ_sJ_3, mJ_nW_1, mJ_nW_2]
            rw [hlfs, hg]; rfl
          refine w_X12_seats_247 l q _ _ _ _ N1 ⟨fun z => ?_, fun _ => ⟨wr53 wN1, c12_choice wN1 (P := np) (m := n - c - 1) (can := can) (by omega) hS (by omega) hnp (hcan c k hcl (by omega)) (fun S hS => by have := hfl (c + 1) S (by omega) hS; rw [show n - (c + 1) = n - c - 1 by omega] at this; exact this) _ (fun hb => ?_) (fun hb => ?_)⟩⟩
          · (simp (disch := omega) only [ile, ilt, ieq, nI_toInt, Int32.reduceToInt] at z; omega)
          · rw [hix, wn52 wN1, nI_clamp (by omega), nI_clamp (by omega), hcurf, wn53 wN1, em2]
            refine ⟨wr52 wN1, vin (by omega) (by decide), fun _ => ⟨wr53 wN1, vin (by omega) (by decide), vin (by omega) (by decide), hno ?_⟩, fun y => absurd y.symm (nI_ne1 (by omega))⟩
            unfold gsel; rw [hb]; rfl
          · have hfb2 := fl_m can np (n - c - 1) (c + 1) (bs (Sq can np n c) k)
            rw [hix, wn52 wN1, nI_clamp (by omega), nI_clamp (by omega), hcurf, wn53 wN1, em2]
            refine ⟨wr52 wN1, vin (by omega) (by decide), fun y => ⟨wr53 wN1, vin (by omega) (by decide), vin (by omega) (by decide), hno ?_⟩, fun y => ⟨vin (by omega) (by decide), hyes ?_⟩⟩
            · unfold gsel; rw [hb]
              have : ¬ 1 + fl can np (n - c - 1) (c + 1) (bs (Sq can np n c) k) = fl can np (n - c) c (Sq can np n c) := fun e => y (by rw [e])
              simp [this]
            · unfold gsel; rw [hb]
              have : 1 + fl can np (n - c - 1) (c + 1) (bs (Sq can np n c) k) = fl can np (n - c) c (Sq can np n c) := nI_inj (by omega) (by omega) y
              simp [this]
      refine w_X12_seats_225 l q _ _ _ N ⟨fun z => ?_, fun _ => ?_⟩
      · rw [nI_leI (by omega) (by omega)] at z; omega
      rw [wn53 wN, nI_clamp (by omega)]
      have e7 : mI (sI N 114 c (-1)) 60 7 = nI np := by simp (disch := omega) only [true_and, mI_sI_1, mI_sI_2, mI_sI_3, mI_nW_1, mI_nW_2, mI_sR, mI_sJ, mI_sA_1, mI_sA_2, mR_sI, mR_sJ, mR_sA, mR_sR_1, mR_sR_2, mR_sR_3, mR_nW_1, mR_nW_2, mN_sI, mN_sJ, mN_sR, mN_sA, mN_nW_1, mN_nW_2, mJ_sI, mJ_sR, mJ_sA, mJ_sJ_1, mJ_sJ_2, mJ_sJ_3, mJ_nW_1, mJ_nW_2]; exact (Rel_Sm hN r).2.2.1.2.1.2.2
      rw [e7]
      refine ⟨wr53 wN, vin (by omega) (by decide), scan np (Nat.le_refl _) _ (Sm_t hN (Sm_sI _ rfl _)) (fun a b ha hb => by simp (disch := omega) only [true_and, mI_sI_1, mI_sI_2, mI_sI_3, mI_nW_1, mI_nW_2, mI_sR, mI_sJ, mI_sA_1, mI_sA_2, mR_sI, mR_sJ, mR_sA, mR_sR_1, mR_sR_2, mR_sR_3, mR_nW_1, mR_nW_2, mN_sI, mN_sJ, mN_sR, mN_sA, mN_nW_1, mN_nW_2, mJ_sI, mJ_sR, mJ_sA, mJ_sJ_1, mJ_sJ_2, mJ_sJ_3, mJ_nW_1, mJ_nW_2]; exact hcan a b ha hb) (fun a S ha hS => by simp (disch := omega) only [true_and, mI_sI_1, mI_sI_2, mI_sI_3, mI_nW_1, mI_nW_2, mI_sR, mI_sJ, mI_sA_1, mI_sA_2, mR_sI, mR_sJ, mR_sA, mR_sR_1, mR_sR_2, mR_sR_3, mR_nW_1, mR_nW_2, mN_sI, mN_sJ, mN_sR, mN_sA, mN_nW_1, mN_nW_2, mJ_sI, mJ_sR, mJ_sA, mJ_sJ_1, mJ_sJ_2, mJ_sJ_3, mJ_nW_1, mJ_nW_2]; exact hfl a S ha hS) (fun j hj => by simp (disch := omega) only [true_and, mI_sI_1, mI_sI_2, mI_sI_3, mI_nW_1, mI_nW_2, mI_sR, mI_sJ, mI_sA_1, mI_sA_2, mR_sI, mR_sJ, mR_sA, mR_sR_1, mR_sR_2, mR_sR_3, mR_nW_1, mR_nW_2, mN_sI, mN_sJ, mN_sR, mN_sA, mN_nW_1, mN_nW_2, mJ_sI, mJ_sR, mJ_sA, mJ_sJ_1, mJ_sJ_2, mJ_sJ_3, mJ_nW_1, mJ_nW_2]; exact hfd j hj) ?_⟩
      simp (disch := omega) only [true_and, mI_sI_1, mI_sI_2, mI_sI_3, mI_nW_1, mI_nW_2, mI_sR, mI_sJ, mI_sA_1, mI_sA_2, mR_sI, mR_sJ, mR_sA, mR_sR_1, mR_sR_2, mR_sR_3, mR_nW_1, mR_nW_2, mN_sI, mN_sJ, mN_sR, mN_sA, mN_nW_1, mN_nW_2, mJ_sI, mJ_sR, mJ_sA, mJ_sJ_1, mJ_sJ_2, mJ_sJ_3, mJ_nW_1, mJ_nW_2]
      rw [Nat.sub_self]; rfl
  -- filling the table
  have fill : ∀ k, k ≤ n + 1 → ∀ N, Sm M N → (∀ c p, c < n → p < np → mI N 112 (10 * c + p) = b2 (can c p)) → (∀ c S, k ≤ c → c ≤ n → S < 1024 → mI N 113 (1024 * c + S) = nI (fl can np (n - c) c S)) → H_X12_seats_73 l q (nI n) (nI k - 1) N := by
    intro k
    induction k with
    | zero =>
      intro hk N hN hcan hfl
      have em : nI 0 - 1 = (-1 : Int32) := by decide
      rw [em]
      exact w_X12_seats_73 l q _ _ N ⟨fun _ => look n 0 (by omega) N hN hcan (fun c S hc hS => hfl c S (Nat.zero_le _) hc hS) (by show (0 : Nat) < 1024; decide) (fun k hk => by omega), fun z => absurd (by decide) z⟩
    | succ c ihc =>
      intro hk N hN hcan hfl
      have em : nI (c + 1) - 1 = nI c := pk_sub (a := c + 1) (b := 1) (by omega)
      have em2 : nI c + -1 = nI c - 1 := by grind
      rw [em]
      have sets : ∀ m S, S + m = 1024 → ∀ N, Sm M N → (∀ c p, c < n → p < np → mI N 112 (10 * c + p) = b2 (can c p)) → (∀ a S', c + 1 ≤ a → a ≤ n → S' < 1024 → mI N 113 (1024 * a + S') = nI (fl can np (n - a) a S')) → (∀ S', S' < S → mI N 113 (1024 * c + S') = nI (fl can np (n - c) c S')) → H_X12_seats_80 l q (nI n) (nI c) (nI S) N := by
        intro m
        induction m with
        | zero =>
          intro S hS N hN hcan hfl hrow
          have : S = 1024 := by omega
          subst this
          refine w_X12_seats_80 l q _ _ _ N ⟨fun _ => ?_, fun z => absurd (by decide) z⟩
          rw [em2]
          refine ihc (by omega) N hN hcan (fun a S' ha1 ha2 hS' => ?_)
          by_cases hac : a = c
          · subst hac; exact hrow S' hS'
          · exact hfl a S' (by omega) ha2 hS'
        | succ m ihm =>
          intro S hS N hN hcan hfl hrow
          have wN := Sm_wM hN r.1
          have hS4 : S < 1024 := by omega
          have hix1 : (1024 : Int32) * (nI c + 1) + nI S = nI (1024 * (c + 1) + S) := by rw [n1]; exact ixm 1024 (c + 1) S rfl
          have hix : (1024 : Int32) * nI c + nI S = nI (1024 * c + S) := ixm 1024 c S rfl
          have next : ∀ N1, Sm M N1 → (∀ c p, c < n → p < np → mI N1 112 (10 * c + p) = b2 (can c p)) → (∀ a S', c + 1 ≤ a → a ≤ n → S' < 1024 → mI N1 113 (1024 * a + S') = nI (fl can np (n - a) a S')) → (∀ S', S' < S → mI N1 113 (1024 * c + S') = nI (fl can np (n - c) c S')) → mI N1 113 (1024 * c + S) = nI (fl can np (n - c) c S) → H_X12_seats_80 l q (nI n) (nI c) (nI (S + 1)) N1 := fun N1 hN1 hcan1 hfl1 hrow1 hcell => ihm (S + 1) (by omega) N1 hN1 hcan1 hfl1 (fun S' hS' => by
            by_cases hSS : S' = S
            · subst hSS; exact hcell
            · exact hrow1 S' (by omega))
          refine w_X12_seats_80 l q _ _ _ N ⟨fun z => ?_, fun _ => ⟨wr52 wN, fun z => ?_, fun z => ?_⟩⟩
          · (simp (disch := omega) only [ile, ilt, ieq, nI_toInt, Int32.reduceToInt] at z; omega)
          · have hcn : c < n := by
              have : ¬ c = n := fun e => z (by rw [e])
              omega
            have hini := hfl (c + 1) S (Nat.le_refl _) (by omega) hS4
            rw [show n - (c + 1) = n - c - 1 by omega] at hini
            have players : ∀ mm p, p + mm = np → ∀ N1, Sm M N1 → (∀ c p, c < n → p < np → mI N1 112 (10 * c + p) = b2 (can c p)) → (∀ a S', c + 1 ≤ a → a ≤ n → S' < 1024 → mI N1 113 (1024 * a + S') = nI (fl can np (n - a) a S')) → (∀ S', S' < S → mI N1 113 (1024 * c + S') = nI (fl can np (n - c) c S')) → mI N1 113 (1024 * c + S) = nI (lp (fun p a => if can c p && !S.testBit p then (if a < 1 + fl can np (n - c - 1) (c + 1) (bs S p) then 1 + fl can np (n - c - 1) (c + 1) (bs S p) else a) else a) (fl can np (n - c - 1) (c + 1) S) p) → H_X12_seats_128 l q (nI n) (nI c) (nI S) (nI p) N1 := by
              intro mm
              induction mm with
              | zero =>
                intro p hp N1 hN1 hcan1 hfl1 hrow1 hcell
                have rN1 := Rel_Sm hN1 r
                have : p = np := by omega
                subst this
                refine w_X12_seats_128 l q _ _ _ _ N1 ⟨fun _ => ?_, fun y => absurd (by rw [rN1.2.2.1.2.1.2.2]; exact nI_le (Nat.le_refl _) (by omega)) y⟩
                rw [n1]
                refine next N1 hN1 hcan1 hfl1 hrow1 ?_
                rw [hcell, ← fl_lp, show n - c - 1 + 1 = n - c by omega]
              | succ mm ihp =>
                intro p hp N1 hN1 hcan1 hfl1 hrow1 hcell
                have rN1 := Rel_Sm hN1 r
                have wN1 := rN1.1
                have ihp := ihp (p + 1) (by omega)
                simp only [lp] at ihp
                have hbd := lp_bd (can := can) (P := np) (m := n - c - 1) (c := c) (S := S) p
                have hfb := fl_m can np (n - c - 1) (c + 1) (bs S p)
                generalize hA : lp (fun p a => if can c p && !S.testBit p then (if a < 1 + fl can np (n - c - 1) (c + 1) (bs S p) then 1 + fl can np (n - c - 1) (c + 1) (bs S p) else a) else a) (fl can np (n - c - 1) (c + 1) S) p = A at *
                refine w_X12_seats_128 l q _ _ _ _ N1 ⟨fun y => ?_, fun _ => ⟨fun y => ?_, fun _ => ?_⟩⟩
                · rw [rN1.2.2.1.2.1.2.2, nI_leI (by omega) (by omega)] at y; omega
                · rw [nI_leI (by omega) (by omega)] at y; omega
                rw [hix, nI_clamp (by omega), n1 p]
                have keep : ∀ x, (if (can c p && !S.testBit p) = true then (if A < 1 + fl can np (n - c - 1) (c + 1) (bs S p) then 1 + fl can np (n - c - 1) (c + 1) (bs S p) else A) else A) = x → H_X12_seats_128 l q (nI n) (nI c) (nI S) (nI (p + 1)) (sI N1 113 (1024 * c + S) (nI x)) := fun x hx => by
                  refine ihp _ (Sm_t hN1 (Sm_sI _ rfl _)) (fun a b ha hb => by simp (disch := omega) only [true_and, mI_sI_1, mI_sI_2, mI_sI_3, mI_nW_1, mI_nW_2, mI_sR, mI_sJ, mI_sA_1, mI_sA_2, mR_sI, mR_sJ, mR_sA, mR_sR_1, mR_sR_2, mR_sR_3, mR_nW_1, mR_nW_2, mN_sI, mN_sJ, mN_sR, mN_sA, mN_nW_1, mN_nW_2, mJ_sI, mJ_sR, mJ_sA, mJ_sJ_1, mJ_sJ_2, mJ_sJ_3, mJ_nW_1, mJ_nW_2]; exact hcan1 a b ha hb) (fun a S' ha1 ha2 hS' => by simp (disch := omega) only [true_and, mI_sI_1, mI_sI_2, mI_sI_3, mI_nW_1, mI_nW_2, mI_sR, mI_sJ, mI_sA_1, mI_sA_2, mR_sI, mR_sJ, mR_sA, mR_sR_1, mR_sR_2, mR_sR_3, mR_nW_1, mR_nW_2, mN_sI, mN_sJ, mN_sR, mN_sA, mN_nW_1, mN_nW_2, mJ_sI, mJ_sR, mJ_sA, mJ_sJ_1, mJ_sJ_2, mJ_sJ_3, mJ_nW_1, mJ_nW_2]; exact hfl1 a S' ha1 ha2 hS') (fun S' hS' => by simp (disch := omega) only [true_and, mI_sI_1, mI_sI_2, mI_sI_3, mI_nW_1, mI_nW_2, mI_sR, mI_sJ, mI_sA_1, mI_sA_2, mR_sI, mR_sJ, mR_sA, mR_sR_1, mR_sR_2, mR_sR_3, mR_nW_1, mR_nW_2, mN_sI, mN_sJ, mN_sR, mN_sA, mN_nW_1, mN_nW_2, mJ_sI, mJ_sR, mJ_sA, mJ_sJ_1, mJ_sJ_2, mJ_sJ_3, mJ_nW_1, mJ_nW_2]; exact hrow1 S' hS') ?_
                  simp (disch := omega) only [true_and, mI_sI_1, mI_sI_2, mI_sI_3, mI_nW_1, mI_nW_2, mI_sR, mI_sJ, mI_sA_1, mI_sA_2, mR_sI, mR_sJ, mR_sA, mR_sR_1, mR_sR_2, mR_sR_3, mR_nW_1, mR_nW_2, mN_sI, mN_sJ, mN_sR, mN_sA, mN_nW_1, mN_nW_2, mJ_sI, mJ_sR, mJ_sA, mJ_sJ_1, mJ_sJ_2, mJ_sJ_3, mJ_nW_1, mJ_nW_2]; rw [hx]
                refine c12_choice wN1 (P := np) (m := n - c - 1) (can := can) (by omega) hS4 (by omega) hnp (hcan1 c p hcn (by omega)) (fun S' hS' => by have := hfl1 (c + 1) S' (Nat.le_refl _) (by omega) hS'; rw [show n - (c + 1) = n - c - 1 by omega] at this; exact this) _ (fun hb => ?_) (fun hb => ?_)
                · rw [wn52 wN1, hcell]
                  refine ⟨wr52 wN1, wr52 wN1, vin (by omega) (by decide), fun _ => ⟨wr52 wN1, vin (by omega) (by decide), vin (by omega) (by decide), keep A (by rw [hb]; rfl)⟩, fun y => ?_⟩
                  exfalso; apply y
                  rw [ile, nI_toInt (by omega)]
                  have : (-1 : Int32).toInt = -1 := by decide
                  omega
                · rw [wn52 wN1, hcell, nI_leI (by omega) (by omega)]
                  refine ⟨wr52 wN1, wr52 wN1, vin (by omega) (by decide), fun y => ⟨wr52 wN1, vin (by omega) (by decide), vin (by omega) (by decide), keep A (by rw [if_pos hb, if_neg (by omega)])⟩, fun y => ⟨vin (by omega) (by decide), keep _ (by rw [if_pos hb, if_pos (by omega)])⟩⟩
            rw [hix, hix1, wn52 wN, nI_clamp (by omega), nI_clamp (by omega), hini]
            refine ⟨wr52 wN, vin (by omega) (by decide), vin (by omega) (by decide), players np 0 (by omega) _ (Sm_t hN (Sm_sI _ rfl _)) (fun a b ha hb => by simp (disch := omega) only [true_and, mI_sI_1, mI_sI_2, mI_sI_3, mI_nW_1, mI_nW_2, mI_sR, mI_sJ, mI_sA_1, mI_sA_2, mR_sI, mR_sJ, mR_sA, mR_sR_1, mR_sR_2, mR_sR_3, mR_nW_1, mR_nW_2, mN_sI, mN_sJ, mN_sR, mN_sA, mN_nW_1, mN_nW_2, mJ_sI, mJ_sR, mJ_sA, mJ_sJ_1, mJ_sJ_2, mJ_sJ_3, mJ_nW_1, mJ_nW_2]; exact hcan a b ha hb) (fun a S' ha1 ha2 hS' => by simp (disch := omega) only [true_and, mI_sI_1, mI_sI_2, mI_sI_3, mI_nW_1, mI_nW_2, mI_sR, mI_sJ, mI_sA_1, mI_sA_2, mR_sI, mR_sJ, mR_sA, mR_sR_1, mR_sR_2, mR_sR_3, mR_nW_1, mR_nW_2, mN_sI, mN_sJ, mN_sR, mN_sA, mN_nW_1, mN_nW_2, mJ_sI, mJ_sR, mJ_sA, mJ_sJ_1, mJ_sJ_2, mJ_sJ_3, mJ_nW_1, mJ_nW_2]; exact hfl a S' ha1 ha2 hS') (fun S' hS' => by simp (disch := omega) only [true_and, mI_sI_1, mI_sI_2, mI_sI_3, mI_nW_1, mI_nW_2, mI_sR, mI_sJ, mI_sA_1, mI_sA_2, mR_sI, mR_sJ, mR_sA, mR_sR_1, mR_sR_2, mR_sR_3, mR_nW_1, mR_nW_2, mN_sI, mN_sJ, mN_sR, mN_sA, mN_nW_1, mN_nW_2, mJ_sI, mJ_sR, mJ_sA, mJ_sJ_1, mJ_sJ_2, mJ_sJ_3, mJ_nW_1, mJ_nW_2]; exact hrow S' hS') (by simp (disch := omega) only [true_and, mI_sI_1, mI_sI_2, mI_sI_3, mI_nW_1, mI_nW_2, mI_sR, mI_sJ, mI_sA_1, mI_sA_2, mR_sI, mR_sJ, mR_sA, mR_sR_1, mR_sR_2, mR_sR_3, mR_nW_1, mR_nW_2, mN_sI, mN_sJ, mN_sR, mN_sA, mN_nW_1, mN_nW_2, mJ_sI, mJ_sR, mJ_sA, mJ_sJ_1, mJ_sJ_2, mJ_sJ_3, mJ_nW_1, mJ_nW_2]; rfl)⟩
          · have hcn : c = n := nI_inj (by omega) (by omega) z
            subst hcn
            rw [hix, wn52 wN, nI_clamp (by omega)]
            refine ⟨vin (by omega) (by decide), ?_⟩
            have hN1 : Sm M (sI N 113 (1024 * c + S) 0) := Sm_t hN (Sm_sI _ rfl _)
            have rN1 := Rel_Sm hN1 r
            have hnx := next _ hN1 (fun a b ha hb => by simp (disch := omega) only [true_and, mI_sI_1, mI_sI_2, mI_sI_3, mI_nW_1, mI_nW_2, mI_sR, mI_sJ, mI_sA_1, mI_sA_2, mR_sI, mR_sJ, mR_sA, mR_sR_1, mR_sR_2, mR_sR_3, mR_nW_1, mR_nW_2, mN_sI, mN_sJ, mN_sR, mN_sA, mN_nW_1, mN_nW_2, mJ_sI, mJ_sR, mJ_sA, mJ_sJ_1, mJ_sJ_2, mJ_sJ_3, mJ_nW_1, mJ_nW_2]; exact hcan a b ha hb) (fun a S' ha1 ha2 hS' => by omega) (fun S' hS' => by simp (disch := omega) only [true_and, mI_sI_1, mI_sI_2, mI_sI_3, mI_nW_1, mI_nW_2, mI_sR, mI_sJ, mI_sA_1, mI_sA_2, mR_sI, mR_sJ, mR_sA, mR_sR_1, mR_sR_2, mR_sR_3, mR_nW_1, mR_nW_2, mN_sI, mN_sJ, mN_sR, mN_sA, mN_nW_1, mN_nW_2, mJ_sI, mJ_sR, mJ_sA, mJ_sJ_1, mJ_sJ_2, mJ_sJ_3, mJ_nW_1, mJ_nW_2]; exact hrow S' hS') (by simp (disch := omega) only [true_and, mI_sI_1, mI_sI_2, mI_sI_3, mI_nW_1, mI_nW_2, mI_sR, mI_sJ, mI_sA_1, mI_sA_2, mR_sI, mR_sJ, mR_sA, mR_sR_1, mR_sR_2, mR_sR_3, mR_nW_1, mR_nW_2, mN_sI, mN_sJ, mN_sR, mN_sA, mN_nW_1, mN_nW_2, mJ_sI, mJ_sR, mJ_sA, mJ_sJ_1, mJ_sJ_2, mJ_sJ_3, mJ_nW_1, mJ_nW_2]; rw [Nat.sub_self]; rfl)
            refine w_X12_seats_128 l q _ _ _ _ _ ⟨fun _ => ?_, fun _ => ⟨fun _ => ?_, fun y => absurd (nI_le (Nat.le_refl _) (by omega)) y⟩⟩
            · rw [n1]; exact hnx
            · rw [n1]; exact hnx
      refine w_X12_seats_73 l q _ _ N ⟨fun z => ?_, fun _ => sets 1024 0 (by omega) N hN hcan (fun a S' h1 h2 h3 => hfl a S' h1 h2 h3) (fun S' hS' => by omega)⟩
      (simp (disch := omega) only [ile, ilt, ieq, nI_toInt, Int32.reduceToInt] at z; omega)
  -- who can
  have cans : ∀ m c, c + m = n → ∀ N, Sm M N → (∀ a p, a < c → p < np → mI N 112 (10 * a + p) = b2 (can a p)) → H_X12_seats_9 l q (nI s) (nI n) (nI c) N := by
    intro m
    induction m with
    | zero =>
      intro c hc N hN hcan
      have : c = n := by omega
      subst this
      refine w_X12_seats_9 l q _ _ _ N ⟨fun _ => ?_, fun z => absurd (nI_le (Nat.le_refl _) (by omega)) z⟩
      have e1 : nI c = nI (c + 1) - 1 := (pk_sub (a := c + 1) (b := 1) (by omega)).symm
      have := fill (c + 1) (Nat.le_refl _) N hN hcan (fun a S h1 h2 => by omega)
      rw [← e1] at this; exact this
    | succ m ih =>
      intro c hc N hN hcan
      have players : ∀ mm p, p + mm = np → ∀ N1, Sm M N1 → (∀ a p, a < c → p < np → mI N1 112 (10 * a + p) = b2 (can a p)) → (∀ p', p' < p → mI N1 112 (10 * c + p') = b2 (can c p')) → H_X12_seats_17 l q (nI s) (nI n) (nI c) (nI p) N1 := by
        intro mm
        induction mm with
        | zero =>
          intro p hp N1 hN1 hcan1 hrow
          have rN1 := Rel_Sm hN1 r
          have : p = np := by omega
          subst this
          refine w_X12_seats_17 l q _ _ _ _ N1 ⟨fun _ => ?_, fun y => absurd (by rw [rN1.2.2.1.2.1.2.2]; exact nI_le (Nat.le_refl _) (by omega)) y⟩
          rw [n1]
          refine ih (c + 1) (by omega) N1 hN1 (fun a p' ha hp' => ?_)
          by_cases hac : a = c
          · subst hac; exact hrow p' hp'
          · exact hcan1 a p' (by omega) hp'
        | succ mm ihp =>
          intro p hp N1 hN1 hcan1 hrow
          have rN1 := Rel_Sm hN1 r
          have hix : (10 : Int32) * nI c + nI p = nI (10 * c + p) := ixm 10 c p rfl
          refine w_X12_seats_17 l q _ _ _ _ N1 ⟨fun y => ?_, fun _ => ⟨wr51 rN1.1, c12_instrumentOf rN1.1 (by omega) (okS_of rN1 hs) (by rw [fr_cs hN1, hn]; omega) _ (c12_hinders rN1 hs (by omega) _ _ (fun N2 hN2 => ?_))⟩⟩
          · rw [rN1.2.2.1.2.1.2.2, nI_leI (by omega) (by omega)] at y; omega
          have hN3 := Sm_t hN1 hN2.1
          have wN2 := Sm_wM hN3 r.1
          have b0 : vp_nar .boolean 0 = (0 : Int32) := by decide
          have b1 : vp_nar .boolean 1 = (1 : Int32) := by decide
          have hcv := hcanv c p (by omega)
          rw [fr_hinders hN1, fr_inst hN1, hix, wn51 wN2, nI_clamp (by omega), n1, b0, b1]
          have go : ∀ x, x = b2 (can c p) → H_X12_seats_17 l q (nI s) (nI n) (nI c) (nI (p + 1)) (sI N2 112 (10 * c + p) x) := fun x hx => by
            refine ihp (p + 1) (by omega) _ (Sm_t hN3 (Sm_sI _ rfl _)) (fun a p' ha hp' => by simp (disch := omega) only [true_and, mI_sI_1, mI_sI_2, mI_sI_3, mI_nW_1, mI_nW_2, mI_sR, mI_sJ, mI_sA_1, mI_sA_2, mR_sI, mR_sJ, mR_sA, mR_sR_1, mR_sR_2, mR_sR_3, mR_nW_1, mR_nW_2, mN_sI, mN_sJ, mN_sR, mN_sA, mN_nW_1, mN_nW_2, mJ_sI, mJ_sR, mJ_sA, mJ_sJ_1, mJ_sJ_2, mJ_sJ_3, mJ_nW_1, mJ_nW_2]; rw [hN2.2]; exact hcan1 a p' ha hp') (fun p' hp' => ?_)
            by_cases hpp : p' = p
            · subst hpp; simp (disch := omega) only [true_and, mI_sI_1, mI_sI_2, mI_sI_3, mI_nW_1, mI_nW_2, mI_sR, mI_sJ, mI_sA_1, mI_sA_2, mR_sI, mR_sJ, mR_sA, mR_sR_1, mR_sR_2, mR_sR_3, mR_nW_1, mR_nW_2, mN_sI, mN_sJ, mN_sR, mN_sA, mN_nW_1, mN_nW_2, mJ_sI, mJ_sR, mJ_sA, mJ_sJ_1, mJ_sJ_2, mJ_sJ_3, mJ_nW_1, mJ_nW_2]; exact hx
            · simp (disch := omega) only [true_and, mI_sI_1, mI_sI_2, mI_sI_3, mI_nW_1, mI_nW_2, mI_sR, mI_sJ, mI_sA_1, mI_sA_2, mR_sI, mR_sJ, mR_sA, mR_sR_1, mR_sR_2, mR_sR_3, mR_nW_1, mR_nW_2, mN_sI, mN_sJ, mN_sR, mN_sA, mN_nW_1, mN_nW_2, mJ_sI, mJ_sR, mJ_sA, mJ_sJ_1, mJ_sJ_2, mJ_sJ_3, mJ_nW_1, mJ_nW_2]; rw [hN2.2]; exact hrow p' (by omega)
          refine ⟨fun z => ⟨vin (by omega) (by decide), go 0 ?_⟩, fun z => ⟨vin (by omega) (by decide), go 1 ?_⟩⟩
          · rw [hcv]; have : (f_hinders (mI M) ns nt s p (nI (f_inst (mI M) s c)) == 0) = false := by simp [z]
            rw [this]; rfl
          · rw [hcv]; have : (f_hinders (mI M) ns nt s p (nI (f_inst (mI M) s c)) == 0) = true := by simp [z]
            rw [this]; rfl
      refine w_X12_seats_9 l q _ _ _ N ⟨fun z => ?_, fun _ => players np 0 (by omega) N hN hcan (fun p' hp' => by omega)⟩
      rw [nI_leI (by omega) (by omega)] at z; omega
  refine w_X12_seats l _ M q (c12_chairs r.1 (by omega) (okS_of r hs) none (fun _ e => by cases e) _ ?_)
  rw [en']
  exact cans n 0 (by omega) M (Sm_r M) (fun a p ha => by omega)
end S66
