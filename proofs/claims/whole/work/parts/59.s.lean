/-! programme -/
section S59
variable {l : Launch} {M : o_M} {nw np ns nt T : Nat}
def setN (f : Nat → Bool) (n : Nat) : Nat := lp (fun i s => if f i then s ||| 2 ^ i else s) 0 n
theorem setN_t (f : Nat → Bool) : ∀ n i, (setN f n).testBit i = (decide (i < n) && f i)
  | 0, i => by simp [setN, lp]
  | n + 1, i => by
    have h := setN_t f n i
    show (if f n then setN f n ||| 2 ^ n else setN f n).testBit i = _
    cases hf : f n with
    | true =>
      simp only [if_true]
      rw [Nat.testBit_or, h, Nat.testBit_two_pow]
      by_cases hi : i = n
      · subst hi; simp [hf]
      · have : decide (n = i) = false := by simp; omega
        rw [this, Bool.or_false]
        have : decide (i < n + 1) = decide (i < n) := decide_eq_decide.mpr (by omega)
        rw [this]
    | false =>
      simp only [Bool.false_eq_true, if_false]
      rw [h]
      by_cases hi : i = n
      · subst hi; simp [hf]
      · have : decide (i < n + 1) = decide (i < n) := decide_eq_decide.mpr (by omega)
        rw [this]
theorem and4095 {y : Int32} {R : Nat} {P : Int} (hR : R < 4096) (h : y.toInt = (R : Int) - 4096 * P) : y &&& 4095 = nI R := by
  apply Int32.toBitVec_inj.mp
  apply BitVec.eq_of_toNat_eq
  show (y.toBitVec &&& 4095#32).toNat = (BitVec.ofNat 32 R).toNat
  have e0 : (BitVec.ofNat 32 R).toNat = R := by rw [BitVec.toNat_ofNat, Nat.mod_eq_of_lt (by omega)]
  have e1 : (4095#32).toNat = 2 ^ 12 - 1 := by decide
  rw [BitVec.toNat_and, e0, e1, Nat.and_two_pow_sub_one_eq_mod]
  have e2 : y.toInt = y.toBitVec.toInt := rfl
  rw [e2, BitVec.toInt_eq_toNat_cond] at h
  have := y.toBitVec.isLt
  have e3 : (2 : Nat) ^ 12 = 4096 := rfl
  rw [e3]
  split at h <;> omega
theorem and_pow (R j : Nat) : R &&& 2 ^ j = (R.testBit j).toNat * 2 ^ j := by
  apply Nat.eq_of_testBit_eq
  intro i
  rw [Nat.testBit_and, Nat.testBit_two_pow]
  cases hb : R.testBit j with
  | true =>
    rw [Bool.toNat_true, Nat.one_mul, Nat.testBit_two_pow]
    by_cases hij : j = i
    · subst hij; simp [hb]
    · simp [hij]
  | false =>
    rw [Bool.toNat_false, Nat.zero_mul, Nat.zero_testBit]
    by_cases hij : j = i
    · subst hij; simp [hb]
    · simp [hij]
theorem c0_setOf (x : Int32) {R : Nat} (hR : R < 4096) (hx : (-x) &&& 4095 = nI R) (q : Int32 → o_M → Prop) (h : q (nI (setN (fun i => R.testBit (11 - i)) 12)) M) : K_X0_setOf l [iV x] M q := by
  have key : ∀ m i, i + m = 12 → H_X0_setOf_11 l q (nI R) (nI (setN (fun i => R.testBit (11 - i)) i)) (nI i) M := by
    intro m
    induction m with
    | zero =>
      intro i hi
      have : i = 12 := by omega
      subst this
      exact w_X0_setOf_11 l q _ _ _ M ⟨fun _ => h, fun z => absurd (by decide) z⟩
    | succ m ih =>
      intro i hi
      have e : H_X0_setOf_11 l q (nI R) (nI (if R.testBit (11 - i) then setN (fun i => R.testBit (11 - i)) i ||| 2 ^ i else setN (fun i => R.testBit (11 - i)) i)) (nI (i + 1)) M := ih (i + 1) (by omega)
      refine w_X0_setOf_11 l q _ _ _ M ⟨fun z => ?_, fun _ => w_X0_bitOf l _ M _ ?_⟩
      · (simp (disch := omega) only [ile, ilt, ieq, nI_toInt, Int32.reduceToInt] at z; omega)
      rw [bitr i (by omega), nI_and, n1, bitp i (by omega), nI_or, and_pow]
      have hp : ∀ i, i < 12 → 2 ^ (11 - i) < 2 ^ 31 ∧ 0 < 2 ^ (11 - i) := by decide
      obtain ⟨hp1, hp2⟩ := hp i (by omega)
      cases hb : R.testBit (11 - i) with
      | false =>
        rw [hb] at e
        exact ⟨fun _ => e, fun z => absurd (by simp; rfl) z⟩
      | true =>
        rw [hb] at e
        refine ⟨fun z => ?_, fun _ => e⟩
        simp only [Bool.toNat_true, Nat.one_mul] at z
        have := nI_inj hp1 (by omega) (z.trans (show (0 : Int32) = nI 0 from rfl))
        omega
  refine w_X0_setOf l x M q ?_
  rw [hx]
  exact key 12 0 (by omega)
/-- the least rank of the table between two sums of minutes -/
def LR (Tb : Int → Option Int) (a b : Int) (o : Option Int) : Prop := (∀ m r, a ≤ m → m < b → Tb m = some r → ∃ r0, o = some r0 ∧ r0 ≤ r) ∧ ∀ r0, o = some r0 → ∃ m, a ≤ m ∧ m < b ∧ Tb m = some r0
theorem LR_0 (Tb : Int → Option Int) (a : Int) : LR Tb a a none := ⟨fun m r h1 h2 => by omega, fun r0 h => by cases h⟩
theorem LR_s {Tb : Int → Option Int} {a b : Int} {o : Option Int} (hab : a ≤ b) (h : LR Tb a b o) : LR Tb a (b + 1) (omin o (Tb b)) := by
  constructor
  · intro m r h1 h2 h3
    by_cases hmb : m = b
    · subst hmb
      rw [h3]
      cases o with
      | none => exact ⟨r, rfl, Int.le_refl _⟩
      | some x => exact ⟨_, rfl, by split <;> omega⟩
    · obtain ⟨r0, e, hle⟩ := h.1 m r h1 (by omega) h3
      rw [e]
      cases Tb b with
      | none => exact ⟨r0, rfl, hle⟩
      | some y => exact ⟨_, rfl, by split <;> omega⟩
  · intro r0 h3
    cases ho : o with
    | none =>
      rw [ho] at h3
      exact ⟨b, hab, by omega, h3⟩
    | some x =>
      rw [ho] at h3
      obtain ⟨m, h4, h5, h6⟩ := h.2 x ho
      cases ht : Tb b with
      | none => rw [ht] at h3; cases h3; exact ⟨m, h4, by omega, h6⟩
      | some y =>
        rw [ht] at h3
        have h3 : (if x ≤ y then x else y) = r0 := Option.some.inj h3
        by_cases hxy : x ≤ y
        · rw [if_pos hxy] at h3; subst h3; exact ⟨m, h4, by omega, h6⟩
        · rw [if_neg hxy] at h3; subst h3; exact ⟨b, hab, by omega, ht⟩
theorem tv_min {x y : Int32} {o p : Option Int} (hx : x.toInt = tv o) (hy : y.toInt = tv p) (ho : ∀ r, o = some r → r < 1073741824) (hp : ∀ r, p = some r → r < 1073741824) : (if x ≤ y then x else y).toInt = tv (omin o p) := by
  have e : (if x ≤ y then x else y).toInt = if x.toInt ≤ y.toInt then x.toInt else y.toInt := by
    by_cases h : x ≤ y
    · rw [if_pos h, if_pos (ile.mp h)]
    · rw [if_neg h, if_neg (fun z => h (ile.mpr z))]
  rw [e, hx, hy]
  cases o with
  | none =>
    cases p with
    | none => rfl
    | some b =>
      have := hp b rfl
      show (if (1073741824 : Int) ≤ b then 1073741824 else b) = b
      rw [if_neg (by omega)]
  | some a =>
    have := ho a rfl
    cases p with
    | none =>
      show (if a ≤ (1073741824 : Int) then a else 1073741824) = a
      rw [if_pos (by omega)]
    | some b => rfl
/-- the class's choice -/
theorem c0_choose (hX : wX M) {d low high : Int32} {np n : Nat} {Tb : Int → Option Int} (hC : CH M d np n Tb) (hlg : 0 ≤ lgst (mI M) d np n ∧ lgst (mI M) d np n ≤ 1080) (hbd : ∀ m x, Tb m = some x → x < 1073741824) (q : Int32 → o_M → Prop) (h : ∀ x o, x.toInt = tv o → (∀ r0, o = some r0 → r0 < 1073741824) → ((∀ m r, low.toInt ≤ m → m ≤ high.toInt → Tb m = some r → ∃ r0, o = some r0 ∧ r0 ≤ r) ∧ ∀ r0, o = some r0 → ∃ m, low.toInt ≤ m ∧ m ≤ high.toInt ∧ Tb m = some r0) → (¬ x = 1073741824 → K_X0_setOf l [iV x] M (fun r8 M7 => q r8 M7)) ∧ (x = 1073741824 → q (-1) M)) : K_X0_choose l [rV (some 38), iV low, iV high] M q := by
  obtain ⟨hTab, hrow, hl2, hrng, hpo⟩ := hC
  refine w_X0_choose l low high M q (cJ_min _ _ _ (cJ_max _ _ _ ?_))
  have elast : (if high ≤ mI M 38 2 then high else mI M 38 2).toInt = if high.toInt ≤ lgst (mI M) d np n then high.toInt else lgst (mI M) d np n := by
    by_cases hc : high ≤ mI M 38 2
    · rw [if_pos hc, if_pos (by rw [← hl2]; exact ile.mp hc)]
    · rw [if_neg hc, if_neg (by rw [← hl2]; exact fun z => hc (ile.mpr z)), hl2]
  generalize (if high ≤ mI M 38 2 then high else mI M 38 2) = last at *
  have e0 : (0 : Int32).toInt = 0 := by decide
  have ef : (if low ≤ 0 then (0 : Int32) else low).toInt = if low.toInt ≤ 0 then 0 else low.toInt := by
    by_cases hc : low ≤ 0
    · rw [if_pos hc, if_pos (by rw [ile, e0] at hc; exact hc)]; rfl
    · rw [if_neg hc, if_neg (by intro z; exact hc (by rw [ile, e0]; exact z))]
  generalize (if low ≤ 0 then (0 : Int32) else low) = first at *
  have hl30 : last.toInt ≤ 1080 := by rw [elast]; split <;> omega
  have key : ∀ m : Nat, ∀ x v o, (last.toInt + 1 - v.toInt).toNat = m → first.toInt ≤ v.toInt → (v.toInt ≤ last.toInt + 1 ∨ v.toInt = first.toInt) → 0 ≤ v.toInt → x.toInt = tv o → (∀ r0, o = some r0 → r0 < 1073741824) → LR Tb first.toInt v.toInt o → H_X0_choose_20 l q x last v M := by
    intro m
    induction m with
    | zero =>
      intro x v o hm hfv hvl hv0 hx ho hLR
      refine w_X0_choose_20 l q _ _ _ M ⟨fun _ => h x o hx ho ⟨fun m r h1 h2 h3 => ?_, fun r0 h3 => ?_⟩, fun z => ?_⟩
      · have := hrng m r h3
        refine hLR.1 m r ?_ ?_ h3
        · rw [ef]; split <;> omega
        · split at elast <;> omega
      · obtain ⟨m, g1, g2, g3⟩ := hLR.2 r0 h3
        refine ⟨m, ?_, ?_, g3⟩
        · rw [ef] at g1; split at g1 <;> omega
        · split at elast <;> omega
      · rw [ilt] at z; omega
    | succ m ih =>
      intro x v o hm hfv hvl hv0 hx ho hLR
      refine w_X0_choose_20 l q _ _ _ M ⟨fun z => ?_, fun z => ?_⟩
      · rw [ilt] at z; omega
      · have hvN : v = nI v.toInt.toNat := by rw [ieq, nI_toInt (by omega)]; omega
        have hv1 : (v + 1).toInt = v.toInt + 1 := by
          have e1 : (1 : Int32).toInt = 1 := by decide
          rw [i_add (by rw [e1]; omega) (by rw [e1]; omega), e1]
        have hr := hrow v.toInt.toNat (by omega)
        rw [show ((v.toInt.toNat : Nat) : Int) = v.toInt by omega] at hr
        have hcl : v.toNatClampNeg = v.toInt.toNat := rfl
        rw [xn40 hX, hcl]
        refine ⟨xr38_1 hX, by rw [hvN]; exact vin (by omega) (by decide), cJ_min _ _ _ ?_⟩
        refine ih _ (v + 1) (omin o (Tb v.toInt)) (by rw [hv1]; omega) (by rw [hv1]; omega) (by rw [hv1]; omega) (by rw [hv1]; omega) (tv_min hx hr ho (fun r hr => hbd _ r hr)) (fun r0 h3 => ?_) (by rw [hv1]; exact LR_s hfv hLR)
        cases o with
        | none => exact hbd _ r0 h3
        | some a =>
          cases ht : Tb v.toInt with
          | none => rw [ht] at h3; cases h3; exact ho _ rfl
          | some b =>
            rw [ht] at h3
            have h3 : (if a ≤ b then a else b) = r0 := Option.some.inj h3
            have h1 := ho a rfl
            have h2 := hbd _ b ht
            split at h3 <;> omega
  exact key _ 1073741824 first none rfl (Int.le_refl _) (Or.inr rfl) (by rw [ef]; split <;> omega) (by decide) (fun r0 h => by cases h) (LR_0 _ _)
theorem c0_begin (hX : wX M) (q : o_M → Prop) (h : ∀ N, Sm M N → (∀ i, i < 6 → mI N 39 i = 0) → (∀ m, m ≤ 1080 → mI N 40 m = if m = 0 then 0 else 1073741824) → mI N 38 2 = 0 → q N) : K_X0_begin l [rV (some 38)] M q := by
  refine w_X0_begin l M q ⟨xr38_0 hX, c7_fill ty39 (xn39 hX) (by decide) _ _ (fun N1 h1 => ?_)⟩
  have s1 := Wr_Sm h1 (fun _ => rfl)
  refine ⟨xr38_1 (Sm_wX s1 hX), c7_fill ty40 (xn40 (Sm_wX s1 hX)) (by decide) _ _ (fun N2 h2 => ?_)⟩
  have s2 := Sm_t s1 (Wr_Sm h2 (fun _ => rfl))
  have t0 : (0 : Int32).toNatClampNeg = 0 := by decide
  rw [t0]
  refine ⟨xr38_1 (Sm_wX s2 hX), by rw [xn40 (Sm_wX s2 hX)]; exact vin (j := 0) (by decide) (by decide), h _ (Sm_t s2 (Sm_t (Sm_sI _ rfl _) (Sm_sI _ rfl _))) (fun i hi => ?_) (fun m hm => ?_) ?_⟩
  · simp (disch := omega) only [true_and, mI_sI_1, mI_sI_2, mI_sI_3, mI_nW_1, mI_nW_2, mI_sR, mI_sJ, mI_sA_1, mI_sA_2, mR_sI, mR_sJ, mR_sA, mR_sR_1, mR_sR_2, mR_sR_3, mR_nW_1, mR_nW_2, mN_sI, mN_sJ, mN_sR, mN_sA, mN_nW_1, mN_nW_2, mJ_sI, mJ_sR, mJ_sA, mJ_sJ_1, mJ_sJ_2, mJ_sJ_3, mJ_nW_1, mJ_nW_2]; rw [Wr_o h2 (by decide), h1.1, if_pos (by omega)]
  · simp (disch := omega) only [true_and, mI_sI_1, mI_sI_2, mI_sI_3, mI_nW_1, mI_nW_2, mI_sR, mI_sJ, mI_sA_1, mI_sA_2, mR_sI, mR_sJ, mR_sA, mR_sR_1, mR_sR_2, mR_sR_3, mR_nW_1, mR_nW_2, mN_sI, mN_sJ, mN_sR, mN_sA, mN_nW_1, mN_nW_2, mJ_sI, mJ_sR, mJ_sA, mJ_sJ_1, mJ_sJ_2, mJ_sJ_3, mJ_nW_1, mJ_nW_2]
    by_cases hm0 : m = 0
    · subst hm0; simp (disch := omega) only [true_and, mI_sI_1, mI_sI_2, mI_sI_3, mI_nW_1, mI_nW_2, mI_sR, mI_sJ, mI_sA_1, mI_sA_2, mR_sI, mR_sJ, mR_sA, mR_sR_1, mR_sR_2, mR_sR_3, mR_nW_1, mR_nW_2, mN_sI, mN_sJ, mN_sR, mN_sA, mN_nW_1, mN_nW_2, mJ_sI, mJ_sR, mJ_sA, mJ_sJ_1, mJ_sJ_2, mJ_sJ_3, mJ_nW_1, mJ_nW_2, if_true]
    · rw [if_neg hm0]; simp (disch := omega) only [true_and, mI_sI_1, mI_sI_2, mI_sI_3, mI_nW_1, mI_nW_2, mI_sR, mI_sJ, mI_sA_1, mI_sA_2, mR_sI, mR_sJ, mR_sA, mR_sR_1, mR_sR_2, mR_sR_3, mR_nW_1, mR_nW_2, mN_sI, mN_sJ, mN_sR, mN_sA, mN_nW_1, mN_nW_2, mJ_sI, mJ_sR, mJ_sA, mJ_sJ_1, mJ_sJ_2, mJ_sJ_3, mJ_nW_1, mJ_nW_2]; rw [h2.1, if_pos (by omega)]
  · simp (disch := omega) only [true_and, mI_sI_1, mI_sI_2, mI_sI_3, mI_nW_1, mI_nW_2, mI_sR, mI_sJ, mI_sA_1, mI_sA_2, mR_sI, mR_sJ, mR_sA, mR_sR_1, mR_sR_2, mR_sR_3, mR_nW_1, mR_nW_2, mN_sI, mN_sJ, mN_sR, mN_sA, mN_nW_1, mN_nW_2, mJ_sI, mJ_sR, mJ_sA, mJ_sJ_1, mJ_sJ_2, mJ_sJ_3, mJ_nW_1, mJ_nW_2]
end S59
