/-! the class's chooser -/
section S58
variable {l : Launch} {M : o_M} {nw np ns nt T : Nat}
/-- how many players have a post and are there -/
def pst (v : o_v) (d : Int32) (n : Nat) : Nat → Nat := lp (fun p a => if f_away v p d then a else fuN a (v 69 p).toNatClampNeg (a (v 69 p).toNatClampNeg + 1)) (fun _ => 0) n
theorem pst_le (v : o_v) (d : Int32) (i : Nat) : ∀ n, pst v d n i ≤ n
  | 0 => Nat.le_refl _
  | n + 1 => by
    have h := pst_le v d i n
    show (if f_away v n d then pst v d n else fuN (pst v d n) (v 69 n).toNatClampNeg (pst v d n (v 69 n).toNatClampNeg + 1)) i ≤ n + 1
    split
    · omega
    · unfold fuN
      split
      · rename_i h2; rw [← h2]; omega
      · omega
/-- which works can be in a programme -/
def elg (v : o_v) (d : Int32) (np w : Nat) : Bool := f_played v w d && (List.range 6).all fun i => decide (ndo v w i ≤ pst v d np i)
def mnI (v : o_v) (w : Nat) : Int := ((v 62 w).toNatClampNeg : Int)
def prI (v : o_v) (w : Nat) : Int := ((v 63 w).toNatClampNeg : Int)
/-- the most minutes of works that can be taken -/
def lgst (v : o_v) (d : Int32) (np : Nat) (n : Nat) : Int := sm (elg v d np) (mnI v) n
def tv (o : Option Int) : Int := o.getD 1073741824
theorem price_of (r : Rel M nw np ns nt T) {w : Nat} (hw : w < nw) : (mI M 63 w).toNatClampNeg ≤ 1000 ∧ mI M 63 w = nI (mI M 63 w).toNatClampNeg := by
  obtain ⟨m, h2, e⟩ := (r.2.2.2.2.1 w hw).2.2.2.2.2.2.2.2.1
  rw [e, nI_clamp (by omega)]; exact ⟨h2, rfl⟩
theorem sm_sub_le {f g : Nat → Bool} {x : Nat → Int} (n : Nat) (h : ∀ k, k < n → f k = true → g k = true) (hx : ∀ k, k < n → 0 ≤ x k) : sm f x n ≤ sm g x n := by
  induction n with
  | zero => exact Int.le_refl _
  | succ n ih =>
    have e := ih (fun k hk => h k (by omega)) (fun k hk => hx k (by omega))
    have h1 := h n (by omega)
    have h2 := hx n (by omega)
    simp only [sm]
    cases hf : f n with
    | false => simp; split <;> omega
    | true => rw [h1 hf]; simp; omega
theorem rk_bd {f : Nat → Bool} {pr : Nat → Int} {n : Nat} (hn : n ≤ 12) (h : ∀ k, k < n → 0 ≤ pr k ∧ pr k ≤ 1000) (h0 : ∀ k, n ≤ k → f k = false) : -4096 ≤ rk f pr n ∧ rk f pr n ≤ 49152000 := by
  rw [rk_eq hn h0]
  have b1 := rvT_lt f 12 0
  have b2 := sm_nn (f := f) n (fun k hk => (h k hk).1)
  have b3 := sm_le (f := f) n h
  have : (2 : Nat) ^ 12 = 4096 := rfl
  omega
/-- the state of the chooser after the first n works -/
def CH (N : o_M) (d : Int32) (np n : Nat) (Tb : Int → Option Int) : Prop := Tab (elg (mI N) d np) (mnI (mI N)) (prI (mI N)) n Tb ∧ (∀ m, m ≤ 1080 → (mI N 40 m).toInt = tv (Tb (m : Int))) ∧ (mI N 38 2).toInt = lgst (mI N) d np n ∧ (∀ m x, Tb m = some x → 0 ≤ m ∧ m ≤ lgst (mI N) d np n) ∧ ∀ i, i < 6 → mI N 39 i = nI (pst (mI N) d np i)
theorem p_elg (M : o_M) : elg (pv M) = elg (mI M) := by
  funext d np w
  unfold elg pst
  rfl
theorem fr_elg {N : o_M} (h : Sm M N) : elg (mI N) = elg (mI M) := by rw [← p_elg, ← p_elg, h.1]
theorem fr_mnI {N : o_M} (h : Sm M N) : mnI (mI N) = mnI (mI M) := by funext w; unfold mnI; rw [Sm_i h (id := 62) (j := w) rfl]
theorem fr_prI {N : o_M} (h : Sm M N) : prI (mI N) = prI (mI M) := by funext w; unfold prI; rw [Sm_i h (id := 63) (j := w) rfl]
theorem fr_pst {N : o_M} (h : Sm M N) : pst (mI N) = pst (mI M) := by
  have : pst (pv N) = pst (pv M) := by rw [h.1]
  exact this
theorem fr_lgst {N : o_M} (h : Sm M N) : lgst (mI N) = lgst (mI M) := by funext d np n; unfold lgst; rw [fr_elg h, fr_mnI h]
theorem Wr_Sm {N N' : o_M} {c t n : Nat} {f : Nat → Int32} (h : Wr N N' c t n f) (hs : ∀ j, scr c j = true) : Sm N N' := by
  refine ⟨?_, ?_, h.2.2.1, h.2.2.2.1, h.2.2.2.2⟩
  · funext a b
    unfold pv
    by_cases ha : a = c
    · subst ha; rw [if_pos (hs b), if_pos (hs b)]
    · rw [Wr_o h ha]
  · unfold pj; rw [h.2.1]
theorem ty39 : o_ty 39 = .inr .int := rfl
theorem ty40 : o_ty 40 = .inr .int := rfl
/-- one work more: the chooser's table -/
theorem c0_addWork (r : Rel M nw np ns nt T) {d : Int32} {n : Nat} {Tb : Int → Option Int} (hn : n < nw) (hpl : f_played (mI M) n d = true) (hC : CH M d np n Tb) (q : o_M → Prop) (h : ∀ N Tb', Sm M N → CH N d np (n + 1) Tb' → q N) : K_X0_addWork l [rV (some 38), iV (nI n), rV (some (43 + 128 * n))] M q := by
  have ⟨r1, r2, r3, r4, r5, r6, r7, r8, r9, r10, r11⟩ := r
  have hnw := r3.1.1
  obtain ⟨hTab, hrow, hlg, hrng, hpo⟩ := hC
  obtain ⟨w1, w2⟩ := r5 n hn
  have e0 : mI M (43 + 128 * n) 0 = nI (mI M 62 n).toNatClampNeg := by rw [w2.1]; exact (min_of r hn).2
  have e1 : mI M (43 + 128 * n) 1 = nI (mI M 63 n).toNatClampNeg := by rw [w2.2.1]; exact (price_of r hn).2
  have hmn := (min_of r hn).1
  have hpr := (price_of r hn).1
  have hlgb : 0 ≤ lgst (mI M) d np n ∧ lgst (mI M) d np n ≤ 90 * n := ⟨sm_nn n (fun k hk => by unfold mnI; omega), sm_le n (fun k hk => ⟨by unfold mnI; omega, by have := (min_of r (w := k) (by omega)).1; unfold mnI; omega⟩)⟩
  have hlgs : lgst (mI M) d np (n + 1) = lgst (mI M) d np n + (if elg (mI M) d np n then mnI (mI M) n else 0) := rfl
  -- the test of the needs
  have tst : ∀ m i, i + m = 6 → (∀ j, j < i → ndo (mI M) n j ≤ pst (mI M) d np j) → (elg (mI M) d np n = true → K_X0_bitOf l [iV (nI n)] M (fun r3 M2 => (mR M2 38 1 = some 40 ∧ K_J9_min_7cf53 l [iV ((mI M2 38 2) + (mI M2 (43 + 128 * n) 0)), iV ((Int32.ofNat (mN M2 40)) - 1)] M2 (fun r6 M5 => H_X0_addWork_72 l q (43 + 128 * n) (((mI M (43 + 128 * n) 1) * 4096) - r3) (mI (sI M5 38 2 r6) 38 2) (sI M5 38 2 r6))))) → H_X0_addWork_2 l q (43 + 128 * n) (nI n) (nI i) M := by
    intro m
    induction m with
    | zero =>
      intro i hi hall hgo
      have : i = 6 := by omega
      subst this
      refine w_X0_addWork_2 l q _ (ty43 n) _ _ M ⟨fun _ => hgo ?_, fun z => absurd (by decide) z⟩
      unfold elg
      rw [hpl, Bool.true_and, List.all_eq_true]
      intro j hj
      exact decide_eq_true (hall j (List.mem_range.mp hj))
    | succ m ih =>
      intro i hi hall hgo
      obtain ⟨d3, de⟩ := ndo_eq (mI M) n i
      have hw2 : (mI M (43 + 128 * n) 2 >>> ((2 * nI i) &&& 31)) &&& 3 = nI (ndo (mI M) n i) := by rw [w2.2.2.1, ← de]; rfl
      have hpb := pst_le (mI M) d i np
      have hnp := r3.2.1.1
      refine w_X0_addWork_2 l q _ (ty43 n) _ _ M ⟨fun z => ?_, fun _ => c10_needOf (ty43 n) _ _ ?_⟩
      · (simp (disch := omega) only [ile, ilt, ieq, nI_toInt, Int32.reduceToInt] at z; omega)
      rw [hw2, xn39 r2, nI_clamp (by omega), hpo i (by omega), n1, nI_leI (by omega) (by omega)]
      refine ⟨xr38_0 r2, vin (by omega) (by decide), fun z => ih (i + 1) (by omega) (fun j hj => ?_) hgo, fun z => ?_⟩
      · by_cases hji : j = i
        · subst hji; exact z
        · exact hall j (by omega)
      · have hel : elg (mI M) d np n = false := by
          unfold elg
          have : (List.range 6).all (fun i => decide (ndo (mI M) n i ≤ pst (mI M) d np i)) = false := by
            rw [List.all_eq_false]
            exact ⟨i, List.mem_range.mpr (by omega), by simp; omega⟩
          rw [this, Bool.and_false]
        refine h M Tb (Sm_r M) ⟨Tab_no hTab hel, hrow, ?_, ?_, hpo⟩
        · rw [hlgs, hel, hlg]; simp
        · intro m x hm
          rw [hlgs, hel]
          have := hrng m x hm
          simp; exact this
  refine w_X0_addWork l _ _ (ty43 n) M q (tst 6 0 (by omega) (fun j hj => by omega) (fun hel => w_X0_bitOf l _ M _ ⟨xr38_1 r2, cJ_min _ _ _ ?_⟩))
  rw [xn40 r2, e0, e1, bitr n (by omega)]
  have hc40 : (Int32.ofNat 1081 - 1 : Int32) = nI 1080 := by decide
  have hlN : mI M 38 2 = nI (lgst (mI M) d np n).toNat := by rw [ieq, nI_toInt (by omega), hlg]; omega
  rw [hc40, hlN, nI_add, ite_nI (by omega) (by omega), if_pos (by omega)]
  simp (disch := omega) only [true_and, mI_sI_1, mI_sI_2, mI_sI_3, mI_nW_1, mI_nW_2, mI_sR, mI_sJ, mI_sA_1, mI_sA_2, mR_sI, mR_sJ, mR_sA, mR_sR_1, mR_sR_2, mR_sR_3, mR_nW_1, mR_nW_2, mN_sI, mN_sJ, mN_sR, mN_sA, mN_nW_1, mN_nW_2, mJ_sI, mJ_sR, mJ_sA, mJ_sJ_1, mJ_sJ_2, mJ_sJ_3, mJ_nW_1, mJ_nW_2]
  have hrk : (nI (mI M 63 n).toNatClampNeg * 4096 - nI (2 ^ (11 - n))).toInt = 4096 * prI (mI M) n - ((2 ^ (11 - n) : Nat) : Int) := by
    have hp2 : ∀ n, n < 12 → 2 ^ (11 - n) < 2 ^ 30 := by decide
    rw [show (4096 : Int32) = nI 4096 from rfl, pk_mul, pk_sub_toInt (by omega) (hp2 n (by omega))]
    unfold prI; omega
  generalize hrank : nI (mI M 63 n).toNatClampNeg * 4096 - nI (2 ^ (11 - n)) = rank at *
  have hlgn : lgst (mI M) d np (n + 1) = ((lgst (mI M) d np n).toNat + (mI M 62 n).toNatClampNeg : Nat) := by rw [hlgs, hel]; unfold mnI; simp; omega
  -- ranks are small
  have hbd : ∀ m x, Tb m = some x → -4096 ≤ x ∧ x ≤ 49152000 := fun m x hm => by
    obtain ⟨f, h1, h2, h3⟩ := hTab.2 m x hm
    rw [← h3]
    exact rk_bd (by omega) (fun k hk => ⟨by unfold prI; omega, by have := (price_of r (w := k) (by omega)).1; unfold prI; omega⟩) (fun k hk => by
      cases hf : f k with
      | false => rfl
      | true => have := (h1 k hf).1; omega)
  have hrb : -4096 ≤ rank.toInt ∧ rank.toInt ≤ 4096000 := by
    have hp2 : ∀ n, n < 12 → 2 ^ (11 - n) ≤ 2048 := by decide
    have hp3 : ∀ n, n < 12 → 1 ≤ 2 ^ (11 - n) := by decide
    have := hp2 n (by omega)
    have := hp3 n (by omega)
    rw [hrk]; unfold prI; omega
  let Tb' : Int → Option Int := fun m => omin (Tb m) ((Tb (m - mnI (mI M) n)).map fun r => r + (4096 * prI (mI M) n - ((2 ^ (11 - n) : Nat) : Int)))
  have loop : ∀ k N, k ≤ (lgst (mI M) d np n).toNat + (mI M 62 n).toNatClampNeg → Sm M N → (∀ m, m ≤ 1080 → (mI N 40 m).toInt = tv (if m ≤ k then Tb (m : Int) else Tb' (m : Int))) → (∀ j, mI N 38 j = if j = 2 then nI ((lgst (mI M) d np n).toNat + (mI M 62 n).toNatClampNeg) else mI M 38 j) → (∀ j, mI N 39 j = mI M 39 j) → H_X0_addWork_72 l q (43 + 128 * n) rank (nI k) N := by
    intro k
    have fin : ∀ k N, k < (mI M 62 n).toNatClampNeg → Sm M N → (∀ m, m ≤ 1080 → (mI N 40 m).toInt = tv (if m ≤ k then Tb (m : Int) else Tb' (m : Int))) → (∀ j, mI N 38 j = if j = 2 then nI ((lgst (mI M) d np n).toNat + (mI M 62 n).toNatClampNeg) else mI M 38 j) → (∀ j, mI N 39 j = mI M 39 j) → q N := by
      intro k N hk hN hr h38 h39
      refine h N Tb' hN ⟨?_, fun m hm => ?_, ?_, ?_, ?_⟩
      · rw [fr_elg hN, fr_mnI hN, fr_prI hN]; exact Tab_yes hTab hel
      · rw [hr m hm]
        by_cases hmk : m ≤ k
        · rw [if_pos hmk]
          congr 1
          show Tb m = omin (Tb m) ((Tb (m - mnI (mI M) n)).map _)
          have : Tb ((m : Int) - mnI (mI M) n) = none := by
            cases ht : Tb ((m : Int) - mnI (mI M) n) with
            | none => rfl
            | some x => have := (hrng _ x ht).1; unfold mnI at this; omega
          rw [this]
          cases Tb (m : Int) <;> rfl
        · rw [if_neg hmk]
      · rw [h38, if_pos rfl, fr_lgst hN, hlgn, nI_toInt (by omega)]
      · intro m x hm
        rw [fr_lgst hN, hlgn]
        have hm : omin (Tb m) ((Tb (m - mnI (mI M) n)).map fun r => r + (4096 * prI (mI M) n - ((2 ^ (11 - n) : Nat) : Int))) = some x := hm
        cases h1 : Tb m with
        | some y => have := hrng m y h1; omega
        | none =>
          rw [h1] at hm
          cases h2 : Tb (m - mnI (mI M) n) with
          | none => rw [h2] at hm; cases hm
          | some y => have := hrng _ y h2; unfold mnI at this; omega
      · intro i hi; rw [h39, fr_pst hN]; exact hpo i hi
    induction k with
    | zero =>
      intro N hk hN hr h38 h39
      have hmn1 : 1 ≤ (mI M 62 n).toNatClampNeg := by
        obtain ⟨m, h1, h2, e⟩ := w2.2.2.2.2.2.2.1
        rw [e, nI_clamp (by omega)]; exact h1
      have e0N : mI N (43 + 128 * n) 0 = nI (mI M 62 n).toNatClampNeg := by rw [Sm_i hN (scr_o (by omega) (by omega))]; exact e0
      refine w_X0_addWork_72 l q _ (ty43 n) _ _ N ⟨fun _ => fin 0 N (by omega) hN hr h38 h39, fun z => absurd ?_ z⟩
      rw [e0N, nI_ltI (by omega) (by omega)]; omega
    | succ k ih =>
      intro N hk hN hr h38 h39
      have e0N : mI N (43 + 128 * n) 0 = nI (mI M 62 n).toNatClampNeg := by rw [Sm_i hN (scr_o (by omega) (by omega))]; exact e0
      have hX := Sm_wX hN r2
      refine w_X0_addWork_72 l q _ (ty43 n) _ _ N ⟨fun z => ?_, fun z => ?_⟩
      · rw [e0N, nI_ltI (by omega) (by omega)] at z
        exact fin (k + 1) N z hN hr h38 h39
      · rw [e0N, nI_ltI (by omega) (by omega)] at z
        rw [e0N, pk_sub (by omega), nI_clamp (by omega), nI_clamp (by omega), xn40 hX, pk_m1]
        have hbef := hr (k + 1 - (mI M 62 n).toNatClampNeg) (by omega)
        rw [if_pos (by omega)] at hbef
        have hcur := hr (k + 1) (by omega)
        rw [if_pos (Nat.le_refl _)] at hcur
        have hmi : ((k + 1 - (mI M 62 n).toNatClampNeg : Nat) : Int) = ((k + 1 : Nat) : Int) - mnI (mI M) n := by unfold mnI; omega
        rw [hmi] at hbef
        refine ⟨xr38_1 hX, vin (by omega) (by decide), fun y => ?_, fun y => ⟨xr38_1 hX, xr38_1 hX, vin (by omega) (by decide), cJ_min _ _ _ ⟨by rw [xn40 hX]; exact vin (by omega) (by decide), ?_⟩⟩⟩
        · refine ih N (by omega) hN (fun m hm => ?_) h38 h39
          rw [hr m hm]
          by_cases hmk : m ≤ k
          · rw [if_pos (by omega), if_pos hmk]
          · by_cases hmk1 : m = k + 1
            · subst hmk1
              rw [if_pos (Nat.le_refl _), if_neg hmk]
              congr 1
              show _ = omin (Tb _) ((Tb (_ - mnI (mI M) n)).map _)
              have : Tb (((k + 1 : Nat) : Int) - mnI (mI M) n) = none := by
                cases ht : Tb (((k + 1 : Nat) : Int) - mnI (mI M) n) with
                | none => rfl
                | some x =>
                  rw [ht, y] at hbef
                  have := hbd _ x ht
                  have e : (1073741824 : Int32).toInt = 1073741824 := by decide
                  have : tv (some x) = x := rfl
                  omega
              rw [this]
              cases Tb (((k + 1 : Nat) : Int)) <;> rfl
            · rw [if_neg (by omega), if_neg (by omega)]
        · have hsome : ∃ x, Tb (((k + 1 : Nat) : Int) - mnI (mI M) n) = some x := by
            cases ht : Tb (((k + 1 : Nat) : Int) - mnI (mI M) n) with
            | some x => exact ⟨x, rfl⟩
            | none =>
              rw [ht] at hbef
              exfalso; apply y
              rw [ieq]; exact hbef
          obtain ⟨x, hx⟩ := hsome
          have hxb := hbd _ x hx
          rw [hx] at hbef
          have hbef : (mI N 40 (k + 1 - (mI M 62 n).toNatClampNeg)).toInt = x := hbef
          have hsum : (mI N 40 (k + 1 - (mI M 62 n).toNatClampNeg) + rank).toInt = x + rank.toInt := by rw [i_add (by rw [hbef]; omega) (by rw [hbef]; omega), hbef]
          refine ih _ (by omega) (Sm_t hN (Sm_sI _ rfl _)) (fun m hm => ?_) (fun j => by simp (disch := omega) only [true_and, mI_sI_1, mI_sI_2, mI_sI_3, mI_nW_1, mI_nW_2, mI_sR, mI_sJ, mI_sA_1, mI_sA_2, mR_sI, mR_sJ, mR_sA, mR_sR_1, mR_sR_2, mR_sR_3, mR_nW_1, mR_nW_2, mN_sI, mN_sJ, mN_sR, mN_sA, mN_nW_1, mN_nW_2, mJ_sI, mJ_sR, mJ_sA, mJ_sJ_1, mJ_sJ_2, mJ_sJ_3, mJ_nW_1, mJ_nW_2]; exact h38 j) (fun j => by simp (disch := omega) only [true_and, mI_sI_1, mI_sI_2, mI_sI_3, mI_nW_1, mI_nW_2, mI_sR, mI_sJ, mI_sA_1, mI_sA_2, mR_sI, mR_sJ, mR_sA, mR_sR_1, mR_sR_2, mR_sR_3, mR_nW_1, mR_nW_2, mN_sI, mN_sJ, mN_sR, mN_sA, mN_nW_1, mN_nW_2, mJ_sI, mJ_sR, mJ_sA, mJ_sJ_1, mJ_sJ_2, mJ_sJ_3, mJ_nW_1, mJ_nW_2]; exact h39 j)
          by_cases hmk1 : m = k + 1
          · subst hmk1
            have hk1 : ¬ (k + 1 ≤ k) := by omega
            simp (disch := omega) only [true_and, mI_sI_1, mI_sI_2, mI_sI_3, mI_nW_1, mI_nW_2, mI_sR, mI_sJ, mI_sA_1, mI_sA_2, mR_sI, mR_sJ, mR_sA, mR_sR_1, mR_sR_2, mR_sR_3, mR_nW_1, mR_nW_2, mN_sI, mN_sJ, mN_sR, mN_sA, mN_nW_1, mN_nW_2, mJ_sI, mJ_sR, mJ_sA, mJ_sJ_1, mJ_sJ_2, mJ_sJ_3, mJ_nW_1, mJ_nW_2]
            rw [if_neg hk1]
            show _ = tv (omin (Tb _) ((Tb (_ - mnI (mI M) n)).map _))
            rw [hx]
            cases ht : Tb ((k + 1 : Nat) : Int) with
            | none =>
              rw [ht] at hcur
              have hcur : (mI N 40 (k + 1)).toInt = 1073741824 := hcur
              rw [if_neg (by rw [ile]; omega)]
              show _ = x + (4096 * prI (mI M) n - ((2 ^ (11 - n) : Nat) : Int))
              rw [hsum, hrk]
            | some y2 =>
              rw [ht] at hcur
              have hcur : (mI N 40 (k + 1)).toInt = y2 := hcur
              show _ = (if y2 ≤ x + (4096 * prI (mI M) n - ((2 ^ (11 - n) : Nat) : Int)) then y2 else x + (4096 * prI (mI M) n - ((2 ^ (11 - n) : Nat) : Int)))
              by_cases hle : y2 ≤ x + (4096 * prI (mI M) n - ((2 ^ (11 - n) : Nat) : Int))
              · rw [if_pos hle, if_pos (by rw [ile, hsum, hcur, hrk]; exact hle), hcur]
              · rw [if_neg hle, if_neg (by rw [ile, hsum, hcur, hrk]; exact hle), hsum, hrk]
          · simp (disch := omega) only [true_and, mI_sI_1, mI_sI_2, mI_sI_3, mI_nW_1, mI_nW_2, mI_sR, mI_sJ, mI_sA_1, mI_sA_2, mR_sI, mR_sJ, mR_sA, mR_sR_1, mR_sR_2, mR_sR_3, mR_nW_1, mR_nW_2, mN_sI, mN_sJ, mN_sR, mN_sA, mN_nW_1, mN_nW_2, mJ_sI, mJ_sR, mJ_sA, mJ_sJ_1, mJ_sJ_2, mJ_sJ_3, mJ_nW_1, mJ_nW_2]
            rw [hr m hm]
            by_cases hmk : m ≤ k
            · rw [if_pos (by omega), if_pos hmk]
            · rw [if_neg (by omega), if_neg hmk]
  refine loop _ (sI M 38 2 (nI ((lgst (mI M) d np n).toNat + (mI M 62 n).toNatClampNeg))) (Nat.le_refl _) (Sm_sI _ rfl _) (fun m hm => ?_) (fun j => ?_) (fun j => by simp (disch := omega) only [true_and, mI_sI_1, mI_sI_2, mI_sI_3, mI_nW_1, mI_nW_2, mI_sR, mI_sJ, mI_sA_1, mI_sA_2, mR_sI, mR_sJ, mR_sA, mR_sR_1, mR_sR_2, mR_sR_3, mR_nW_1, mR_nW_2, mN_sI, mN_sJ, mN_sR, mN_sA, mN_nW_1, mN_nW_2, mJ_sI, mJ_sR, mJ_sA, mJ_sJ_1, mJ_sJ_2, mJ_sJ_3, mJ_nW_1, mJ_nW_2])
  · simp (disch := omega) only [true_and, mI_sI_1, mI_sI_2, mI_sI_3, mI_nW_1, mI_nW_2, mI_sR, mI_sJ, mI_sA_1, mI_sA_2, mR_sI, mR_sJ, mR_sA, mR_sR_1, mR_sR_2, mR_sR_3, mR_nW_1, mR_nW_2, mN_sI, mN_sJ, mN_sR, mN_sA, mN_nW_1, mN_nW_2, mJ_sI, mJ_sR, mJ_sA, mJ_sJ_1, mJ_sJ_2, mJ_sJ_3, mJ_nW_1, mJ_nW_2]
    rw [hrow m hm]
    by_cases hmk : m ≤ (lgst (mI M) d np n).toNat + (mI M 62 n).toNatClampNeg
    · rw [if_pos hmk]
    · rw [if_neg hmk]
      congr 1
      have h1 : Tb (m : Int) = none := by
        cases ht : Tb (m : Int) with
        | none => rfl
        | some x => have := (hrng _ x ht).2; omega
      have h2 : Tb ((m : Int) - mnI (mI M) n) = none := by
        cases ht : Tb ((m : Int) - mnI (mI M) n) with
        | none => rfl
        | some x => have := (hrng _ x ht).2; unfold mnI at this; omega
      show _ = omin (Tb _) ((Tb (_ - mnI (mI M) n)).map _)
      rw [h1, h2]; rfl
  · by_cases hj : j = 2
    · subst hj; simp (disch := omega) only [true_and, mI_sI_1, mI_sI_2, mI_sI_3, mI_nW_1, mI_nW_2, mI_sR, mI_sJ, mI_sA_1, mI_sA_2, mR_sI, mR_sJ, mR_sA, mR_sR_1, mR_sR_2, mR_sR_3, mR_nW_1, mR_nW_2, mN_sI, mN_sJ, mN_sR, mN_sA, mN_nW_1, mN_nW_2, mJ_sI, mJ_sR, mJ_sA, mJ_sJ_1, mJ_sJ_2, mJ_sJ_3, mJ_nW_1, mJ_nW_2, if_true]
    · rw [if_neg hj]; simp (disch := omega) only [true_and, mI_sI_1, mI_sI_2, mI_sI_3, mI_nW_1, mI_nW_2, mI_sR, mI_sJ, mI_sA_1, mI_sA_2, mR_sI, mR_sJ, mR_sA, mR_sR_1, mR_sR_2, mR_sR_3, mR_nW_1, mR_nW_2, mN_sI, mN_sJ, mN_sR, mN_sA, mN_nW_1, mN_nW_2, mJ_sI, mJ_sR, mJ_sA, mJ_sJ_1, mJ_sJ_2, mJ_sJ_3, mJ_nW_1, mJ_nW_2]
end S58
