/-! programme: the model, the pair -/
section S60
variable {l : Launch} {M : o_M} {nw np ns nt T : Nat}
def tb (a : Nat) : Nat → Bool := fun i => a.testBit i
theorem tb_hi {a n : Nat} (h : a < 2 ^ n) : ∀ k, n ≤ k → tb a k = false := fun k hk => Nat.testBit_lt_two_pow (Nat.lt_of_lt_of_le h (Nat.pow_le_pow_right (by decide) hk))
def canB (v : o_v) (d : Int32) (np a n : Nat) : Bool := (List.range n).all fun k => !tb a k || elg v d np k
theorem canB_s (v : o_v) (d : Int32) (np a n : Nat) : canB v d np a (n + 1) = (canB v d np a n && (!tb a n || elg v d np n)) := by
  unfold canB; rw [List.range_succ, List.all_append]; simp
def okp (v : o_v) (d : Int32) (np nw : Nat) (low high : Int32) (a : Nat) : Bool := canB v d np a nw && rng (nI (sm (tb a) (mnI v) nw).toNat) low high
theorem fr_away {N : o_M} (h : Sm M N) : f_away (mI N) = f_away (mI M) := by rw [← p_away, ← p_away, h.1]
theorem fr_played {N : o_M} (h : Sm M N) : f_played (mI N) = f_played (mI M) := by rw [← p_played, ← p_played, h.1]
theorem sumb (r : Rel M nw np ns nt T) (f : Nat → Bool) {n : Nat} (hn : n ≤ nw) : 0 ≤ sm f (mnI (mI M)) n ∧ sm f (mnI (mI M)) n ≤ 1080 := by
  have hnw := r.2.2.1.1.1
  have h1 := sm_nn (f := f) (x := mnI (mI M)) n (fun k hk => by unfold mnI; omega)
  have h2 := sm_le (f := f) (x := mnI (mI M)) (b := 90) n (fun k hk => ⟨by unfold mnI; omega, by have := (min_of r (w := k) (by omega)).1; unfold mnI; omega⟩)
  omega
theorem c12_isProgramme (r : Rel M nw np ns nt T) {a : Nat} (ha : a < 4096) (d low high : Int32) (h118 : ∀ i, i < 6 → mI M 118 i = nI (pst (mI M) d np i)) (q : Int32 → o_M → Prop) (h : q (b2 (okp (mI M) d np nw low high a)) M) : K_X12_isProgramme l [rV (some 60), iV (nI a), iV d, iV low, iV high] M q := by
  have ⟨r1, r2, r3, r4, r5, r6, r7, r8, r9, r10, r11⟩ := r
  obtain ⟨hnw, e16, e60⟩ := r3.1
  have hnp := r3.2.1.1
  have key : ∀ m w, w + m = nw → H_X12_isProgramme_9 l q (nI a) d low high (nI (sm (tb a) (mnI (mI M)) w).toNat) (b2 (canB (mI M) d np a w)) (nI w) M := by
    intro m
    induction m with
    | zero =>
      intro w hw
      have : w = nw := by omega
      subst this
      refine w_X12_isProgramme_9 l q _ _ _ _ _ _ _ M ⟨fun _ => ⟨fun z => ?_, fun z => c12_in _ _ _ _ ⟨fun z2 => ?_, fun z2 => ?_⟩⟩, fun z => absurd (by rw [e60]; exact nI_le (Nat.le_refl _) (by omega)) z⟩
      · have : okp (mI M) d np w low high a = false := by unfold okp; rw [b2_0.mp z]; rfl
        rw [this] at h; exact h
      · have : okp (mI M) d np w low high a = false := by unfold okp; rw [b2_0.mp z2, Bool.and_false]
        rw [this] at h; exact h
      · have : okp (mI M) d np w low high a = true := by unfold okp; rw [b2_n0.mp z, b2_n0.mp z2]; rfl
        rw [this] at h; exact h
    | succ m ih =>
      intro w hw
      have e := ih (w + 1) (by omega)
      rw [canB_s] at e
      have hsm : sm (tb a) (mnI (mI M)) (w + 1) = sm (tb a) (mnI (mI M)) w + (if tb a w then mnI (mI M) w else 0) := rfl
      have hsb := sumb r (tb a) (n := w) (by omega)
      rw [hsm] at e
      refine w_X12_isProgramme_9 l q _ _ _ _ _ _ _ M ⟨fun z => ?_, fun _ => ⟨fun z => ?_, fun z => ?_⟩⟩
      · rw [e60, nI_leI (by omega) (by omega)] at z; omega
      · have hb : tb a w = false := by
          unfold tb
          cases hb : a.testBit w with
          | false => rfl
          | true => exact absurd ((bit_iff (by omega) (by omega)).mpr hb) z
        rw [hb] at e
        rw [n1]
        simpa using e
      · have hb : tb a w = true := (bit_iff (by omega) (by omega)).mp z
        rw [hb] at e
        simp only [if_true, Bool.not_true, Bool.false_or] at e
        obtain ⟨hm90, hme⟩ := min_of r (w := w) (by omega)
        rw [wn1 r1, nI_clamp (by omega), hme, nI_add]
        have hsum : (sm (tb a) (mnI (mI M)) w).toNat + (mI M 62 w).toNatClampNeg = (sm (tb a) (mnI (mI M)) w + mnI (mI M) w).toNat := by unfold mnI at *; omega
        rw [hsum]
        generalize (sm (tb a) (mnI (mI M)) w + mnI (mI M) w).toNat = sN at *
        have inner : ∀ m i, i + m = 6 → ∀ c : Bool, (c = (canB (mI M) d np a w && f_played (mI M) w d && (List.range i).all (fun j => decide (ndo (mI M) w j ≤ pst (mI M) d np j)))) → H_X12_isProgramme_65 l q (nI a) d low high (nI sN) (b2 c) (nI w) (nI i) M := by
          intro m
          induction m with
          | zero =>
            intro i hi c hc
            have : i = 6 := by omega
            subst this
            refine w_X12_isProgramme_65 l q _ _ _ _ _ _ _ _ M ⟨fun _ => ?_, fun z => absurd (by decide) z⟩
            rw [n1, hc]
            unfold elg at e
            rw [← Bool.and_assoc] at e
            exact e
          | succ m ihm =>
            intro i hi c hc
            obtain ⟨d3, de⟩ := ndo_eq (mI M) w i
            have hpb := pst_le (mI M) d i np
            have hall : (List.range (i + 1)).all (fun j => decide (ndo (mI M) w j ≤ pst (mI M) d np j)) = ((List.range i).all (fun j => decide (ndo (mI M) w j ≤ pst (mI M) d np j)) && decide (ndo (mI M) w i ≤ pst (mI M) d np i)) := by
              rw [List.range_succ, List.all_append]; simp
            have hcont : ∀ c' : Bool, c' = (c && decide (ndo (mI M) w i ≤ pst (mI M) d np i)) → H_X12_isProgramme_65 l q (nI a) d low high (nI sN) (b2 c') (nI w) (nI (i + 1)) M := fun c' hc' => by
              have hc2 : c' = (canB (mI M) d np a w && f_played (mI M) w d && (List.range (i + 1)).all (fun j => decide (ndo (mI M) w j ≤ pst (mI M) d np j))) := by rw [hc', hc, hall, Bool.and_assoc]
              exact ihm (i + 1) (by omega) c' hc2
            refine w_X12_isProgramme_65 l q _ _ _ _ _ _ _ _ M ⟨fun z => ?_, fun _ => ⟨fun z => ?_, fun z => c12_needOf r1 (by omega) i _ ?_⟩⟩
            · (simp (disch := omega) only [ile, ilt, ieq, nI_toInt, Int32.reduceToInt] at z; omega)
            · rw [n1]; exact hcont false (by rw [b2_0.mp z]; rfl)
            · rw [de, wn57 r1, nI_clamp (by omega), h118 i (by omega), n1, nI_ltI (by omega) (by omega)]
              refine ⟨wr57 r1, vin (by omega) (by decide), fun z2 => hcont false ?_, fun z2 => hcont true ?_⟩
              · rw [b2_n0.mp z]
                have : decide (ndo (mI M) w i ≤ pst (mI M) d np i) = false := by simp; omega
                rw [this]; rfl
              · rw [b2_n0.mp z]
                have : decide (ndo (mI M) w i ≤ pst (mI M) d np i) = true := by simp; omega
                rw [this]; rfl
        refine ⟨wr1 r1, vin (by omega) (by decide), fun z2 => inner 6 0 (by omega) false (by rw [b2_0.mp z2]; rfl), fun z2 => c12_isPlayed r1 (by omega) d _ ⟨fun z3 => inner 6 0 (by omega) false (by rw [b2_0.mp z3]; simp), fun z3 => inner 6 0 (by omega) true (by rw [b2_n0.mp z2, b2_n0.mp z3]; rfl)⟩⟩
  exact w_X12_isProgramme l _ _ _ _ M q (key nw 0 (by omega))
/-- the price as a number -/
theorem price_sm (r : Rel M nw np ns nt T) {a : Nat} (ha : a < 4096) : ∀ n, n ≤ nw → (lp (f_prS (mI M) (nI a)) 0 n).toInt = sm (tb a) (prI (mI M)) n ∧ sm (tb a) (prI (mI M)) n ≤ 1000 * n ∧ 0 ≤ sm (tb a) (prI (mI M)) n := by
  intro n
  have hnw := r.2.2.1.1.1
  induction n with
  | zero => intro _; exact ⟨rfl, by simp [sm], by simp [sm]⟩
  | succ n ih =>
    intro hn
    obtain ⟨h1, h2, h3⟩ := ih (by omega)
    obtain ⟨hp, hpe⟩ := price_of r (w := n) (by omega)
    have e : lp (f_prS (mI M) (nI a)) 0 (n + 1) = f_prS (mI M) (nI a) n (lp (f_prS (mI M) (nI a)) 0 n) := rfl
    rw [e]
    unfold f_prS
    simp only [sm]
    cases hb : tb a n with
    | false =>
      rw [if_neg (fun z => by rw [bit_iff (by omega) (by omega)] at z; unfold tb at hb; rw [hb] at z; cases z)]
      simp only [Bool.false_eq_true, if_false]
      have : (fun s => f_prS (mI M) (nI a) s) = f_prS (mI M) (nI a) := rfl
      refine ⟨?_, by omega, by omega⟩
      rw [Int.add_zero]; exact h1
    | true =>
      rw [if_pos ((bit_iff (by omega) (by omega)).mpr hb)]
      simp only [if_true]
      have hv : (mI M 63 n).toInt = prI (mI M) n := by rw [hpe, nI_toInt (by omega)]; rfl
      have hpi : 0 ≤ prI (mI M) n ∧ prI (mI M) n ≤ 1000 := by unfold prI; omega
      have h1 : (lp (f_prS (mI M) (nI a)) 0 n).toInt = sm (tb a) (prI (mI M)) n := h1
      refine ⟨?_, by omega, by omega⟩
      have hh := i_add (x := lp (f_prS (mI M) (nI a)) 0 n) (y := mI M 63 n) (by rw [h1, hv]; omega) (by rw [h1, hv]; omega)
      rw [h1, hv] at hh
      exact hh
theorem c12_isBefore (r : Rel M nw np ns nt T) {a b : Nat} (ha : a < 2 ^ nw) (hb : b < 2 ^ nw) (q : Int32 → o_M → Prop) (h : q (b2 (decide (rk (tb a) (prI (mI M)) nw < rk (tb b) (prI (mI M)) nw))) M) : K_X12_isBefore l [rV (some 60), iV (nI a), iV (nI b)] M q := by
  obtain ⟨hnw, _, e60⟩ := r.2.2.1.1
  have hp : 2 ^ nw ≤ 4096 := Nat.le_trans (Nat.pow_le_pow_right (n := 2) (by decide) hnw) (by decide)
  have ha' : a < 4096 := by omega
  have hb' : b < 4096 := by omega
  have pa := (price_sm r ha' nw (Nat.le_refl _)).1
  have pb := (price_sm r hb' nw (Nat.le_refl _)).1
  have hlt := rk_lt (pr := prI (mI M)) hnw (tb_hi ha) (tb_hi hb)
  have hlow : ¬ ((nI a &&& (nI a ^^^ nI b)) &&& (-(nI a ^^^ nI b))) = 0 ↔ lexT (tb a) (tb b) 12 0 = true := low_bit ha' hb'
  have hr : K_X12_priceOf l [rV (some 60), iV (nI a)] M = K_X12_priceOf l [rV (some 60), iV (nI a)] M := rfl
  refine w_X12_isBefore l _ _ M q (c12_priceOf r.1 hnw e60 _ _ (c12_priceOf r.1 hnw e60 _ _ ⟨fun z => ?_, fun z => c12_priceOf r.1 hnw e60 _ _ (c12_priceOf r.1 hnw e60 _ _ ⟨fun z2 => ?_, fun z2 => ⟨fun z3 => ?_, fun z3 => ?_⟩⟩)⟩))
  · have z : sm (tb a) (prI (mI M)) nw < sm (tb b) (prI (mI M)) nw := by rw [← pa, ← pb]; exact ilt.mp z
    rw [decide_eq_true (hlt.mpr (Or.inl z))] at h; exact h
  · have z : ¬ sm (tb a) (prI (mI M)) nw < sm (tb b) (prI (mI M)) nw := by rw [← pa, ← pb]; exact fun y => z (ilt.mpr y)
    have z2 : ¬ sm (tb a) (prI (mI M)) nw = sm (tb b) (prI (mI M)) nw := by rw [← pa, ← pb]; exact fun y => z2 (ieq.mpr y)
    rw [decide_eq_false (fun y => by rcases hlt.mp y with y | y; exact z y; exact z2 y.1)] at h; exact h
  · have z : ¬ sm (tb a) (prI (mI M)) nw < sm (tb b) (prI (mI M)) nw := by rw [← pa, ← pb]; exact fun y => z (ilt.mpr y)
    rw [decide_eq_false (fun y => by rcases hlt.mp y with y | y; exact z y; exact (hlow.mpr y.2) z3)] at h; exact h
  · have z2 : sm (tb a) (prI (mI M)) nw = sm (tb b) (prI (mI M)) nw := by rw [← pa, ← pb]; exact ieq.mp z2
    rw [decide_eq_true (hlt.mpr (Or.inr ⟨z2, hlow.mp z3⟩))] at h; exact h
/-- the best set so far -/
def BO (v : o_v) (d : Int32) (np nw : Nat) (low high : Int32) (a : Nat) (best : Int32) : Prop := (best = -1 ∧ ∀ c, c < a → okp v d np nw low high c = false) ∨ ∃ b, b < a ∧ best = nI b ∧ okp v d np nw low high b = true ∧ ∀ c, c < a → okp v d np nw low high c = true → rk (tb b) (prI v) nw ≤ rk (tb c) (prI v) nw
theorem c12_programme (r : Rel M nw np ns nt T) (d low high : Int32) (hd : rng d 0 400 = true) (q : Int32 → o_M → Prop) (h : ∀ N best, Sm M N → BO (mI M) d np nw low high (2 ^ nw) best → q best N) : K_X12_programme l [rV (some 60), iV d, iV low, iV high] M q := by
  obtain ⟨hnw, _, e60⟩ := r.2.2.1.1
  obtain ⟨hnp, _, e7⟩ := r.2.2.1.2.1
  have hp : 2 ^ nw ≤ 4096 := Nat.le_trans (Nat.pow_le_pow_right (n := 2) (by decide) hnw) (by decide)
  have search : ∀ m a, a + m = 2 ^ nw → ∀ N best, Sm M N → (∀ i, i < 6 → mI N 118 i = nI (pst (mI M) d np i)) → BO (mI M) d np nw low high a best → H_X12_programme_88 l q d low high best (nI a) N := by
    intro m
    induction m with
    | zero =>
      intro a ha N best hN h118 hBO
      have rN := Rel_Sm hN r
      have : a = 2 ^ nw := by omega
      subst this
      refine w_X12_programme_88 l q _ _ _ _ _ N ⟨fun _ => h N best hN hBO, fun z => absurd ?_ z⟩
      rw [rN.2.2.1.1.2.2, bitp nw (by omega)]; exact nI_le (Nat.le_refl _) (by omega)
    | succ m ih =>
      intro a ha N best hN h118 hBO
      have rN := Rel_Sm hN r
      have ih := ih (a + 1) (by omega)
      have hel : okp (mI N) = okp (mI M) := by
        funext d np nw low high a
        unfold okp canB; rw [fr_elg hN, fr_mnI hN]
      refine w_X12_programme_88 l q _ _ _ _ _ N ⟨fun z => ?_, fun _ => c12_isProgramme rN (by omega) d low high (fun i hi => by rw [fr_pst hN]; exact h118 i hi) _ ?_⟩
      · rw [rN.2.2.1.1.2.2, bitp nw (by omega), nI_leI (by omega) (by omega)] at z; omega
      rw [hel, n1]
      refine ⟨fun z => ?_, fun z => ⟨fun z2 => ?_, fun z2 => ?_⟩⟩
      · have hf := b2_0.mp z
        refine ih N best hN h118 ?_
        rcases hBO with ⟨h1, h2⟩ | ⟨b, h1, h2, h3, h4⟩
        · refine Or.inl ⟨h1, fun c hc => ?_⟩
          by_cases hca : c = a
          · subst hca; exact hf
          · exact h2 c (by omega)
        · refine Or.inr ⟨b, by omega, h2, h3, fun c hc hok => ?_⟩
          by_cases hca : c = a
          · subst hca; rw [hf] at hok; cases hok
          · exact h4 c (by omega) hok
      · refine ih N (nI a) hN h118 (Or.inr ⟨a, by omega, rfl, b2_n0.mp z, fun c hc hok => ?_⟩)
        rcases hBO with ⟨h1, h2⟩ | ⟨b, h1, h2, _⟩
        · by_cases hca : c = a
          · subst hca; exact Int.le_refl _
          · rw [h2 c (by omega)] at hok; cases hok
        · rw [h2] at z2; exact absurd z2 (nI_ne1 (by omega))
      · rcases hBO with ⟨h1, h2⟩ | ⟨b, h1, h2, h3, h4⟩
        · exact absurd h1 z2
        · rw [h2]
          refine c12_isBefore rN (by omega) (by omega) _ ?_
          rw [fr_prI hN]
          refine ⟨fun z3 => ?_, fun z3 => ?_⟩
          · have hge := of_decide_eq_false (b2_0.mp z3)
            rw [← h2]
            refine ih N best hN h118 (Or.inr ⟨b, by omega, h2, h3, fun c hc hok => ?_⟩)
            by_cases hca : c = a
            · subst hca; omega
            · exact h4 c (by omega) hok
          · have hlt := of_decide_eq_true (b2_n0.mp z3)
            refine ih N (nI a) hN h118 (Or.inr ⟨a, by omega, rfl, b2_n0.mp z, fun c hc hok => ?_⟩)
            by_cases hca : c = a
            · subst hca; exact Int.le_refl _
            · have := h4 c (by omega) hok; omega
  have posts : ∀ m p, p + m = np → ∀ N, Sm M N → (∀ i, i < 6 → mI N 118 i = nI (pst (mI M) d p i)) → H_X12_programme_37 l q d low high (nI p) N := by
    intro m
    induction m with
    | zero =>
      intro p hp' N hN h118
      have rN := Rel_Sm hN r
      have : p = np := by omega
      subst this
      refine w_X12_programme_37 l q _ _ _ _ N ⟨fun _ => search (2 ^ nw) 0 (by omega) N (-1) hN h118 (Or.inl ⟨rfl, fun c hc => by omega⟩), fun z => absurd (by rw [rN.2.2.1.2.1.2.2]; exact nI_le (Nat.le_refl _) (by omega)) z⟩
    | succ m ih =>
      intro p hp' N hN h118
      have rN := Rel_Sm hN r
      obtain ⟨a, ha6, ea⟩ := (r.2.2.2.2.2.1.1 p (by omega)).2.2.2.2.2.2.2.2.2.1
      have eaN : mI N 69 p = nI a := by rw [Sm_i hN rfl]; exact ea
      have ih := ih (p + 1) (by omega)
      have hst : pst (mI M) d (p + 1) = if f_away (mI M) p d then pst (mI M) d p else fuN (pst (mI M) d p) a (pst (mI M) d p a + 1) := by
        show (if f_away (mI M) p d then pst (mI M) d p else fuN (pst (mI M) d p) (mI M 69 p).toNatClampNeg (pst (mI M) d p (mI M 69 p).toNatClampNeg + 1)) = _
        rw [ea, nI_clamp (by omega)]
      rw [hst] at ih
      refine w_X12_programme_37 l q _ _ _ _ N ⟨fun z => ?_, fun _ => ?_⟩
      · rw [rN.2.2.1.2.1.2.2, nI_leI (by omega) (by omega)] at z; omega
      rw [nI_clamp (by omega), eaN, nI_clamp (by omega), wn8 rN.1, wn57 rN.1, h118 a ha6, n1 p]
      refine ⟨wr57 rN.1, wr8 rN.1, vin (by omega) (by decide), vin ha6 (by decide), k12_isAway rN (by omega) d _ ?_⟩
      rw [fr_away hN, wn57 rN.1]
      refine ⟨fun z => ⟨vin ha6 (by decide), ?_⟩, fun z => ⟨vin ha6 (by decide), ?_⟩⟩
      · rw [b2_0.mp z] at ih
        rw [n1]
        refine ih _ (Sm_t hN (Sm_sI _ rfl _)) (fun i hi => ?_)
        simp only [Bool.false_eq_true, if_false]
        unfold fuN
        by_cases hia : i = a
        · subst hia; simp (disch := omega) only [true_and, mI_sI_1, mI_sI_2, mI_sI_3, mI_nW_1, mI_nW_2, mI_sR, mI_sJ, mI_sA_1, mI_sA_2, mR_sI, mR_sJ, mR_sA, mR_sR_1, mR_sR_2, mR_sR_3, mR_nW_1, mR_nW_2, mN_sI, mN_sJ, mN_sR, mN_sA, mN_nW_1, mN_nW_2, mJ_sI, mJ_sR, mJ_sA, mJ_sJ_1, mJ_sJ_2, mJ_sJ_3, mJ_nW_1, mJ_nW_2, if_true]
        · rw [if_neg hia]; simp (disch := omega) only [true_and, mI_sI_1, mI_sI_2, mI_sI_3, mI_nW_1, mI_nW_2, mI_sR, mI_sJ, mI_sA_1, mI_sA_2, mR_sI, mR_sJ, mR_sA, mR_sR_1, mR_sR_2, mR_sR_3, mR_nW_1, mR_nW_2, mN_sI, mN_sJ, mN_sR, mN_sA, mN_nW_1, mN_nW_2, mJ_sI, mJ_sR, mJ_sA, mJ_sJ_1, mJ_sJ_2, mJ_sJ_3, mJ_nW_1, mJ_nW_2]; exact h118 i hi
      · rw [b2_n0.mp z] at ih
        rw [Int32.add_zero]
        refine ih _ (Sm_t hN (Sm_sI _ rfl _)) (fun i hi => ?_)
        simp only [if_true]
        by_cases hia : i = a
        · subst hia; simp (disch := omega) only [true_and, mI_sI_1, mI_sI_2, mI_sI_3, mI_nW_1, mI_nW_2, mI_sR, mI_sJ, mI_sA_1, mI_sA_2, mR_sI, mR_sJ, mR_sA, mR_sR_1, mR_sR_2, mR_sR_3, mR_nW_1, mR_nW_2, mN_sI, mN_sJ, mN_sR, mN_sA, mN_nW_1, mN_nW_2, mJ_sI, mJ_sR, mJ_sA, mJ_sJ_1, mJ_sJ_2, mJ_sJ_3, mJ_nW_1, mJ_nW_2]
        · simp (disch := omega) only [true_and, mI_sI_1, mI_sI_2, mI_sI_3, mI_nW_1, mI_nW_2, mI_sR, mI_sJ, mI_sA_1, mI_sA_2, mR_sI, mR_sJ, mR_sA, mR_sR_1, mR_sR_2, mR_sR_3, mR_nW_1, mR_nW_2, mN_sI, mN_sJ, mN_sR, mN_sA, mN_nW_1, mN_nW_2, mJ_sI, mJ_sR, mJ_sA, mJ_sJ_1, mJ_sJ_2, mJ_sJ_3, mJ_nW_1, mJ_nW_2]; exact h118 i hi
  have zeros : ∀ m i, i + m = 6 → ∀ N, Sm M N → (∀ j, j < i → mI N 118 j = 0) → H_X12_programme_13 l q d low high (nI i) N := by
    intro m
    induction m with
    | zero =>
      intro i hi N hN h0
      have : i = 6 := by omega
      subst this
      exact w_X12_programme_13 l q _ _ _ _ N ⟨fun _ => posts np 0 (by omega) N hN (fun j hj => h0 j hj), fun z => absurd (by decide) z⟩
    | succ m ih =>
      intro i hi N hN h0
      have wN := Sm_wM hN r.1
      refine w_X12_programme_13 l q _ _ _ _ N ⟨fun z => ?_, fun _ => ?_⟩
      · (simp (disch := omega) only [ile, ilt, ieq, nI_toInt, Int32.reduceToInt] at z; omega)
      rw [wn57 wN, nI_clamp (by omega), n1]
      refine ⟨wr57 wN, vin (by omega) (by decide), ih (i + 1) (by omega) _ (Sm_t hN (Sm_sI _ rfl _)) (fun j hj => ?_)⟩
      by_cases hji : j = i
      · subst hji; simp (disch := omega) only [true_and, mI_sI_1, mI_sI_2, mI_sI_3, mI_nW_1, mI_nW_2, mI_sR, mI_sJ, mI_sA_1, mI_sA_2, mR_sI, mR_sJ, mR_sA, mR_sR_1, mR_sR_2, mR_sR_3, mR_nW_1, mR_nW_2, mN_sI, mN_sJ, mN_sR, mN_sA, mN_nW_1, mN_nW_2, mJ_sI, mJ_sR, mJ_sA, mJ_sJ_1, mJ_sJ_2, mJ_sJ_3, mJ_nW_1, mJ_nW_2]
      · simp (disch := omega) only [true_and, mI_sI_1, mI_sI_2, mI_sI_3, mI_nW_1, mI_nW_2, mI_sR, mI_sJ, mI_sA_1, mI_sA_2, mR_sI, mR_sJ, mR_sA, mR_sR_1, mR_sR_2, mR_sR_3, mR_nW_1, mR_nW_2, mN_sI, mN_sJ, mN_sR, mN_sA, mN_nW_1, mN_nW_2, mJ_sI, mJ_sR, mJ_sA, mJ_sJ_1, mJ_sJ_2, mJ_sJ_3, mJ_nW_1, mJ_nW_2]; exact h0 j (by omega)
  exact w_X12_programme l _ _ _ M q (c12_isDay _ _ (by rw [hd]; exact ⟨fun _ => zeros 6 0 (by omega) M (Sm_r M) (fun j hj => by omega), fun y => absurd y (by decide)⟩))
theorem P_programme (r : Rel M nw np ns nt T) (d low high : Int32) : K_X11_programme l [rV (some 16), iV d, iV low, iV high] M (fun r1 M1 => K_X12_programme l [rV (some 60), iV d, iV low, iV high] M1 (fun r2 M2 => r1 = r2 ∧ Nx T M2)) := by
  have hs : Nx T M := Nx_s r
  obtain ⟨hnw, e16, e60⟩ := r.2.2.1.1
  obtain ⟨hnp, e16p, e7⟩ := r.2.2.1.2.1
  have hp12 : 2 ^ nw ≤ 4096 := Nat.le_trans (Nat.pow_le_pow_right (n := 2) (by decide) hnw) (by decide)
  refine w_X11_programme l _ _ _ M _ (c11_isDay _ _ ⟨fun z => ⟨xo10 r.2.1, c0_begin r.2.1 _ (fun N0 hN0 h39 h40 h38 => ?_)⟩, fun z => ?_⟩)
  · have hdd := b2_n0.mp z
    -- at the end: the choice
    have fin : ∀ N Tb, Sm M N → CH N d np nw Tb → K_X0_choose l [rV (some 38), iV low, iV high] N (fun r25 M24 => K_X12_programme l [rV (some 60), iV d, iV low, iV high] M24 (fun r2 M2 => r25 = r2 ∧ Nx T M2)) := by
      intro N Tb hN hC
      have rN := Rel_Sm hN r
      have hTab := hC.1
      have hbd : ∀ m x, Tb m = some x → -4096 ≤ x ∧ x ≤ 49152000 := fun m x hm => by
        obtain ⟨f, h1, h2, h3⟩ := hTab.2 m x hm
        rw [← h3]
        exact rk_bd hnw (fun k hk => ⟨by unfold prI; omega, by have := (price_of rN (w := k) (by omega)).1; unfold prI; omega⟩) (fun k hk => by
          cases hf : f k with
          | false => rfl
          | true => have := (h1 k hf).1; omega)
      refine c0_choose (Sm_wX hN r.2.1) hC (sumb rN _ (Nat.le_refl _)) (fun m x hm => by have := hbd m x hm; omega) _ (fun x o hx ho hLR => ?_)
      -- a set that is allowed has an entry in the table
      have hok1 : ∀ a, a < 2 ^ nw → okp (mI N) d np nw low high a = true → ∃ r0, o = some r0 ∧ r0 ≤ rk (tb a) (prI (mI N)) nw := fun a ha hok => by
        unfold okp canB at hok
        rw [Bool.and_eq_true, List.all_eq_true] at hok
        obtain ⟨h1, h2⟩ := hok
        obtain ⟨rr, g1, g2⟩ := hTab.1 (tb a) (fun k hk => by
          have hkn : k < nw := by
            by_cases hc : k < nw
            · exact hc
            · rw [tb_hi ha k (by omega)] at hk; cases hk
          have := h1 k (List.mem_range.mpr hkn)
          rw [hk] at this
          exact ⟨hkn, by simpa using this⟩)
        have hsb := sumb rN (tb a) (Nat.le_refl _)
        unfold rng at h2
        rw [decide_eq_true_eq, nI_toInt (by omega)] at h2
        obtain ⟨r0, e0, hle⟩ := hLR.1 _ rr (by omega) (by omega) g1
        exact ⟨r0, e0, by omega⟩
      cases o with
      | none =>
        have hx : x = 1073741824 := by rw [ieq, hx]; decide
        refine ⟨fun y => absurd hx y, fun _ => c12_programme rN d low high hdd _ (fun N2 best hN2 hBO => ⟨?_, Nx_Sm (Sm_t hN hN2) r⟩)⟩
        rcases hBO with ⟨h1, _⟩ | ⟨b, h1, h2, h3, _⟩
        · exact h1.symm
        · obtain ⟨r0, e0, _⟩ := hok1 b h1 h3
          cases e0
      | some r0 =>
        have hxr : x.toInt = r0 := hx
        obtain ⟨m, g1, g2, g3⟩ := hLR.2 r0 rfl
        have hb0 := hbd m r0 g3
        obtain ⟨f, k1, k2, k3⟩ := hTab.2 m r0 g3
        have hf0 : ∀ k, nw ≤ k → f k = false := fun k hk => by
          cases hf : f k with
          | false => rfl
          | true => have := (k1 k hf).1; omega
        have hxne : ¬ x = 1073741824 := fun y => by
          rw [y] at hxr
          have : (1073741824 : Int32).toInt = 1073741824 := by decide
          omega
        refine ⟨fun _ => ?_, fun y => absurd y hxne⟩
        have hrv := rvT_lt f 12 0
        have e12 : (2 : Nat) ^ 12 = 4096 := rfl
        have hneg : (-x).toInt = ((rvT f 12 0 : Nat) : Int) - 4096 * sm f (prI (mI N)) nw := by
          rw [Int32.toInt_neg, bm (by omega) (by omega), hxr, ← k3, rk_eq hnw hf0]; omega
        refine c0_setOf x (R := rvT f 12 0) (by omega) (and4095 (by omega) hneg) _ (c12_programme rN d low high hdd _ (fun N2 best hN2 hBO => ⟨?_, Nx_Sm (Sm_t hN hN2) r⟩))
        -- the set S of f
        have hS : ∀ i, (setN (fun i => (rvT f 12 0).testBit (11 - i)) 12).testBit i = f i := fun i => by
          rw [setN_t]
          by_cases hi : i < 12
          · have := rvT_bit f 12 0 i (by omega) (by omega)
            rw [show 0 + 12 - 1 - i = 11 - i by omega] at this
            simp only [hi, decide_true, Bool.true_and]; exact this
          · simp only [hi, decide_false, Bool.false_and]; exact (hf0 i (by omega)).symm
        generalize setN (fun i => (rvT f 12 0).testBit (11 - i)) 12 = S at *
        have hStb : tb S = f := funext hS
        have hSlt : S < 2 ^ nw := by
          apply Nat.lt_pow_two_of_testBit
          intro i hi; rw [hS]; exact hf0 i hi
        have hSok : okp (mI N) d np nw low high S = true := by
          unfold okp canB
          rw [hStb, Bool.and_eq_true, List.all_eq_true]
          refine ⟨fun k hk => ?_, ?_⟩
          · cases hf : f k with
            | false => rfl
            | true => rw [(k1 k hf).2]; rfl
          · have hsb := sumb rN f (Nat.le_refl _)
            unfold rng
            rw [decide_eq_true_eq, nI_toInt (by omega)]
            omega
        rcases hBO with ⟨h1, h2⟩ | ⟨b, h1, h2, h3, h4⟩
        · rw [h2 S hSlt] at hSok; cases hSok
        · rw [h2]
          have c1 := h4 S hSlt hSok
          obtain ⟨r0', e0, c2⟩ := hok1 b h1 h3
          cases e0
          rw [hStb] at c1
          have heq : rk (tb b) (prI (mI N)) nw = rk f (prI (mI N)) nw := by omega
          have hall := rk_inj hnw (tb_hi h1) hf0 heq
          have : S = b := by
            apply Nat.eq_of_testBit_eq
            intro i; rw [hS]; exact (hall i).symm
          rw [this]
    have works : ∀ m w, w + m = nw → ∀ N Tb, Sm M N → CH N d np w Tb → H_X11_programme_69 l (fun r25 M24 => K_X12_programme l [rV (some 60), iV d, iV low, iV high] M24 (fun r2 M2 => r25 = r2 ∧ Nx T M2)) d low high (nI w) N := by
      intro m
      induction m with
      | zero =>
        intro w hw N Tb hN hC
        have rN := Rel_Sm hN r
        have : w = nw := by omega
        subst this
        exact w_X11_programme_69 l _ _ _ _ _ N ⟨fun _ => ⟨xo10 rN.2.1, fin N Tb hN hC⟩, fun z => absurd (by rw [rN.2.2.1.1.2.1]; exact nI_le (Nat.le_refl _) (by omega)) z⟩
      | succ m ih =>
        intro w hw N Tb hN hC
        have rN := Rel_Sm hN r
        have hwn : w < nw := by omega
        obtain ⟨w0, _, _, _, p3, p4, p5, _⟩ := rN.2.2.2.2.1 w hwn
        have hpl : (mI N (43 + 128 * w) 3 == 0 || (mI N (43 + 128 * w) 3 == 1 && rng d (mI N (43 + 128 * w) 4) (mI N (43 + 128 * w) 5))) = f_played (mI N) w d := by
          unfold f_played
          rw [p3, p4, p5]
          by_cases h1 : mI N 65 w = 1
          · rw [if_pos h1, if_pos h1]
          · have : (mI N 65 w == 1) = false := by simp [h1]
            rw [this]; simp
        refine w_X11_programme_69 l _ _ _ _ _ N ⟨fun z => ?_, fun _ => ?_⟩
        · rw [rN.2.2.1.1.2.1, nI_leI (by omega) (by omega)] at z; omega
        rw [xn17 rN.2.1, nI_clamp (by omega), w0, n1]
        refine ⟨xr16_0 rN.2.1, vin (by omega) (by decide), _, rfl, ty43 w, c10_canBePlayed (ty43 w) d _ ?_⟩
        rw [hpl]
        refine ⟨fun z2 => ?_, fun z2 => ?_⟩
        · have hel : elg (mI N) d np w = false := by unfold elg; rw [b2_0.mp z2]; rfl
          obtain ⟨c1, c2, c3, c4, c5⟩ := hC
          have hl : lgst (mI N) d np (w + 1) = lgst (mI N) d np w := by
            show lgst (mI N) d np w + (if elg (mI N) d np w then mnI (mI N) w else 0) = _
            rw [hel]; simp
          exact ih (w + 1) (by omega) N Tb hN ⟨Tab_no c1 hel, c2, by rw [hl]; exact c3, by rw [hl]; exact c4, c5⟩
        · rw [xn17 rN.2.1, w0]
          exact ⟨xo10 rN.2.1, xr16_0 rN.2.1, vin (by omega) (by decide), _, rfl, ty43 w, c0_addWork rN hwn (b2_n0.mp z2) hC _ (fun N' Tb' hN' hC' => ih (w + 1) (by omega) N' Tb' (Sm_t hN hN') hC')⟩
    have posts : ∀ m p, p + m = np → ∀ N, Sm M N → (∀ i, i < 6 → mI N 39 i = nI (pst (mI M) d p i)) → (∀ m, m ≤ 1080 → mI N 40 m = if m = 0 then 0 else 1073741824) → mI N 38 2 = 0 → H_X11_programme_20 l (fun r25 M24 => K_X12_programme l [rV (some 60), iV d, iV low, iV high] M24 (fun r2 M2 => r25 = r2 ∧ Nx T M2)) d low high (nI p) N := by
      intro m
      induction m with
      | zero =>
        intro p hp N hN h39 h40 h38
        have rN := Rel_Sm hN r
        have : p = np := by omega
        subst this
        refine w_X11_programme_20 l _ _ _ _ _ N ⟨fun _ => works nw 0 (by omega) N (fun m => if m = 0 then some 0 else none) hN ⟨Tab_0 _ _ _, fun m hm => ?_, ?_, ?_, ?_⟩, fun z => absurd (by rw [rN.2.2.1.2.1.2.1]; exact nI_le (Nat.le_refl _) (by omega)) z⟩
        · rw [h40 m hm]
          by_cases hm0 : m = 0
          · subst hm0; rfl
          · rw [if_neg hm0]
            show (1073741824 : Int32).toInt = tv (if (m : Int) = 0 then some 0 else none)
            rw [if_neg (by omega)]; decide
        · rw [h38]; rfl
        · intro m x hm
          have hm : (if m = 0 then some 0 else none) = some x := hm
          by_cases hm0 : m = 0
          · rw [hm0]; exact ⟨Int.le_refl _, Int.le_refl _⟩
          · rw [if_neg hm0] at hm; cases hm
        · intro i hi; rw [fr_pst hN]; exact h39 i hi
      | succ m ih =>
        intro p hp N hN h39 h40 h38
        have rN := Rel_Sm hN r
        have hpn : p < np := by omega
        obtain ⟨a, ha6, ea⟩ := (r.2.2.2.2.2.1.1 p hpn).2.2.2.2.2.2.2.2.2.1
        have eaN : mI N (44 + 128 * p) 0 = nI a := by
          rw [(rN.2.2.2.2.2.1.1 p hpn).2.2.2.2.2.1, Sm_i hN rfl]; exact ea
        have pR := (rN.2.2.2.2.2.1.1 p hpn).1
        have ih := ih (p + 1) (by omega)
        have hst : pst (mI M) d (p + 1) = if f_away (mI M) p d then pst (mI M) d p else fuN (pst (mI M) d p) a (pst (mI M) d p a + 1) := by
          show (if f_away (mI M) p d then pst (mI M) d p else fuN (pst (mI M) d p) (mI M 69 p).toNatClampNeg (pst (mI M) d p (mI M 69 p).toNatClampNeg + 1)) = _
          rw [ea, nI_clamp (by omega)]
        rw [hst] at ih
        refine w_X11_programme_20 l _ _ _ _ _ N ⟨fun z => ?_, fun _ => ?_⟩
        · rw [rN.2.2.1.2.1.2.1, nI_leI (by omega) (by omega)] at z; omega
        rw [xn18 rN.2.1, nI_clamp (by omega), pR, n1]
        refine ⟨xr16_1 rN.2.1, vin (by omega) (by decide), _, rfl, ty44 p, k2_hasLeave rN hpn d _ ?_⟩
        rw [fr_away hN]
        refine ⟨fun z => ?_, fun z => ?_⟩
        · rw [b2_n0.mp z] at ih
          exact ih N hN h39 h40 h38
        · rw [b2_0.mp z] at ih
          rw [xn18 rN.2.1, pR]
          refine ⟨xo10 rN.2.1, xr16_1 rN.2.1, vin (by omega) (by decide), _, rfl, ty44 p, w_X0_addPost l _ N _ ?_⟩
          rw [eaN, xn39 rN.2.1, nI_clamp (by omega), h39 a ha6, n1]
          refine ⟨xr38_0 rN.2.1, vin ha6 (by decide), vin ha6 (by decide), ih _ (Sm_t hN (Sm_sI _ rfl _)) (fun i hi => ?_) (fun m hm => by simp (disch := omega) only [true_and, mI_sI_1, mI_sI_2, mI_sI_3, mI_nW_1, mI_nW_2, mI_sR, mI_sJ, mI_sA_1, mI_sA_2, mR_sI, mR_sJ, mR_sA, mR_sR_1, mR_sR_2, mR_sR_3, mR_nW_1, mR_nW_2, mN_sI, mN_sJ, mN_sR, mN_sA, mN_nW_1, mN_nW_2, mJ_sI, mJ_sR, mJ_sA, mJ_sJ_1, mJ_sJ_2, mJ_sJ_3, mJ_nW_1, mJ_nW_2]; exact h40 m hm) (by simp (disch := omega) only [true_and, mI_sI_1, mI_sI_2, mI_sI_3, mI_nW_1, mI_nW_2, mI_sR, mI_sJ, mI_sA_1, mI_sA_2, mR_sI, mR_sJ, mR_sA, mR_sR_1, mR_sR_2, mR_sR_3, mR_nW_1, mR_nW_2, mN_sI, mN_sJ, mN_sR, mN_sA, mN_nW_1, mN_nW_2, mJ_sI, mJ_sR, mJ_sA, mJ_sJ_1, mJ_sJ_2, mJ_sJ_3, mJ_nW_1, mJ_nW_2]; exact h38)⟩
          simp only [Bool.false_eq_true, if_false]
          unfold fuN
          by_cases hia : i = a
          · subst hia; simp (disch := omega) only [true_and, mI_sI_1, mI_sI_2, mI_sI_3, mI_nW_1, mI_nW_2, mI_sR, mI_sJ, mI_sA_1, mI_sA_2, mR_sI, mR_sJ, mR_sA, mR_sR_1, mR_sR_2, mR_sR_3, mR_nW_1, mR_nW_2, mN_sI, mN_sJ, mN_sR, mN_sA, mN_nW_1, mN_nW_2, mJ_sI, mJ_sR, mJ_sA, mJ_sJ_1, mJ_sJ_2, mJ_sJ_3, mJ_nW_1, mJ_nW_2, if_true]
          · rw [if_neg hia]; simp (disch := omega) only [true_and, mI_sI_1, mI_sI_2, mI_sI_3, mI_nW_1, mI_nW_2, mI_sR, mI_sJ, mI_sA_1, mI_sA_2, mR_sI, mR_sJ, mR_sA, mR_sR_1, mR_sR_2, mR_sR_3, mR_nW_1, mR_nW_2, mN_sI, mN_sJ, mN_sR, mN_sA, mN_nW_1, mN_nW_2, mJ_sI, mJ_sR, mJ_sA, mJ_sJ_1, mJ_sJ_2, mJ_sJ_3, mJ_nW_1, mJ_nW_2]; exact h39 i hi
    exact posts np 0 (by omega) N0 hN0 (fun i hi => h39 i hi) h40 h38
  · exact w_X12_programme l _ _ _ M _ (c12_isDay _ _ ⟨fun y => absurd z y, fun _ => ⟨rfl, hs⟩⟩)
end S60
