/-! bits and sums; filling -/
section S57
variable {l : Launch} {M : o_M} {nw np ns nt T : Nat}
theorem bm {x : Int} (h1 : -2147483648 ≤ x) (h2 : x < 2147483648) : x.bmod (2 ^ 32) = x := by
  rw [Int.bmod_def]; omega
theorem i_add {x y : Int32} (h1 : -2147483648 ≤ x.toInt + y.toInt) (h2 : x.toInt + y.toInt < 2147483648) : (x + y).toInt = x.toInt + y.toInt := by
  rw [Int32.toInt_add, bm h1 h2]
theorem nI_or (a b : Nat) : nI a ||| nI b = nI (a ||| b) := by
  apply Int32.toBitVec_inj.mp
  exact (BitVec.ofNat_or (w := 32) (x := a) (y := b)).symm
theorem nI_and (a b : Nat) : nI a &&& nI b = nI (a &&& b) := by
  apply Int32.toBitVec_inj.mp
  exact (BitVec.ofNat_and (w := 32) (x := a) (y := b)).symm
theorem nI_xor (a b : Nat) : nI a ^^^ nI b = nI (a ^^^ b) := by
  apply Int32.toBitVec_inj.mp
  exact (BitVec.ofNat_xor (w := 32) (x := a) (y := b)).symm
theorem bitp : ∀ i, i < 32 → (1 : Int32) <<< (nI i &&& 31) = nI (2 ^ i) := by decide
theorem bitr : ∀ i, i < 12 → (1 : Int32) <<< ((11 - nI i) &&& 31) = nI (2 ^ (11 - i)) := by decide
theorem shr_bit {a i : Nat} (ha : a < 2 ^ 31) (hi : i < 31) : (nI a >>> (nI i &&& 31)) &&& 1 = nI ((a >>> i) % 2) := by
  have hs : ∀ i, i < 31 → ((nI i &&& 31).toBitVec.smod 32).toNat = i := by decide
  have e1 : (nI a >>> (nI i &&& 31)) = nI (a >>> i) := by
    rw [ieq, pk_shr _ _ i (hs i hi), nI_toInt ha, nI_toInt (Nat.lt_of_le_of_lt (Nat.shiftRight_le a i) ha)]
    rfl
  rw [e1, show (1 : Int32) = nI 1 from rfl, nI_and, Nat.and_one_is_mod]
theorem bit_iff {a i : Nat} (ha : a < 2 ^ 31) (hi : i < 31) : (nI a >>> (nI i &&& 31)) &&& 1 = 1 ↔ a.testBit i = true := by
  rw [shr_bit ha hi, Nat.testBit_eq_decide_div_mod_eq, Nat.shiftRight_eq_div_pow]
  simp only [decide_eq_true_eq]
  constructor
  · intro h; exact nI_inj (by omega) (by omega) h
  · intro h; rw [h]; rfl
theorem bit_iff0 {a i : Nat} (ha : a < 2 ^ 31) (hi : i < 31) : (nI a >>> (nI i &&& 31)) &&& 1 = 0 ↔ a.testBit i = false := by
  rw [shr_bit ha hi, Nat.testBit_eq_decide_div_mod_eq, Nat.shiftRight_eq_div_pow]
  simp only [decide_eq_false_iff_not]
  constructor
  · intro h
    have : a / 2 ^ i % 2 = 0 := nI_inj (by omega) (by omega) h
    omega
  · intro h
    have : a / 2 ^ i % 2 = 0 := by omega
    rw [this]; rfl
theorem c7_fill {N : o_M} {id n : Nat} (ht : o_ty id = .inr .int) (hn : mN N id = n) (hb : n < 2 ^ 31) (x : Int32) (q : o_M → Prop) (h : ∀ N', Wr N N' id 0 n (fun _ => x) → q N') : K_J7_fill_53178 l [rV (some id), iV x] N q := by
  have key : ∀ m k, k + m = n → ∀ N', Wr N N' id 0 k (fun _ => x) → H_J7_fill_53178_5 l q id x (nI k) (nI n) N' := by
    intro m
    induction m with
    | zero =>
      intro k hk N' hN
      have : k = n := by omega
      subst this
      exact w_J7_fill_53178_5 l q _ ht _ _ _ N' ⟨fun _ => h N' hN, fun z => absurd (nI_le (Nat.le_refl _) hb) z⟩
    | succ m ih =>
      intro k hk N' hN
      refine w_J7_fill_53178_5 l q _ ht _ _ _ N' ⟨fun z => ?_, fun _ => ?_⟩
      · rw [nI_leI (by omega) (by omega)] at z; omega
      rw [hN.2.2.2.1, hn, nI_clamp (by omega), n1]
      have e := ih (k + 1) (by omega) _ (Wr_s hN)
      rw [Nat.zero_add] at e
      exact ⟨vin (by omega) hb, e⟩
  refine w_J7_fill_53178 l _ _ ht N q ?_
  rw [hn]
  exact key n 0 (by omega) N (Wr_0 _ _ _ _)
/-- the lowest bit in which two sets differ lies in the first -/
theorem low_bit {a b : Nat} (ha : a < 4096) (hb : b < 4096) : ¬ ((nI a &&& (nI a ^^^ nI b)) &&& (-(nI a ^^^ nI b))) = 0 ↔ lexT (fun i => a.testBit i) (fun i => b.testBit i) 12 0 = true := by
  rw [lexT_ex]
  have hbits : ∀ i, (((nI a &&& (nI a ^^^ nI b)) &&& (-(nI a ^^^ nI b))).toBitVec).getLsbD i = (decide (i < 32) && (a.testBit i && (a.testBit i != b.testBit i) && !decide (∃ j, j < i ∧ (a.testBit j != b.testBit j) = true))) := by
    intro i
    have e : ((nI a &&& (nI a ^^^ nI b)) &&& (-(nI a ^^^ nI b))).toBitVec = (BitVec.ofNat 32 a &&& (BitVec.ofNat 32 a ^^^ BitVec.ofNat 32 b)) &&& (-(BitVec.ofNat 32 a ^^^ BitVec.ofNat 32 b)) := rfl
    rw [e, BitVec.getLsbD_and, BitVec.getLsbD_and, BitVec.getLsbD_neg, BitVec.getLsbD_xor, BitVec.getLsbD_ofNat, BitVec.getLsbD_ofNat]
    by_cases hi : i < 32
    · have hx : (∃ j, j < i ∧ (BitVec.ofNat 32 a ^^^ BitVec.ofNat 32 b).getLsbD j = true) ↔ ∃ j, j < i ∧ (a.testBit j != b.testBit j) = true := by
        constructor <;> rintro ⟨j, h1, h2⟩ <;> refine ⟨j, h1, ?_⟩
        · rw [BitVec.getLsbD_xor, BitVec.getLsbD_ofNat, BitVec.getLsbD_ofNat] at h2
          simp only [show j < 32 from by omega, decide_true, Bool.true_and] at h2
          simpa using h2
        · rw [BitVec.getLsbD_xor, BitVec.getLsbD_ofNat, BitVec.getLsbD_ofNat]
          simp only [show j < 32 from by omega, decide_true, Bool.true_and]
          simpa using h2
      have hx' : decide (∃ j, j < i ∧ (BitVec.ofNat 32 a ^^^ BitVec.ofNat 32 b).getLsbD j = true) = decide (∃ j, j < i ∧ (a.testBit j != b.testBit j) = true) := decide_eq_decide.mpr hx
      rw [hx']
      simp only [hi, decide_true, Bool.true_and]
      cases a.testBit i <;> cases b.testBit i <;> cases decide (∃ j, j < i ∧ (a.testBit j != b.testBit j) = true) <;> rfl
    · simp [hi]
  have hz : ((nI a &&& (nI a ^^^ nI b)) &&& (-(nI a ^^^ nI b))) = 0 ↔ ∀ i, (((nI a &&& (nI a ^^^ nI b)) &&& (-(nI a ^^^ nI b))).toBitVec).getLsbD i = false := by
    constructor
    · intro h i; rw [h]; exact BitVec.getLsbD_zero
    · intro h
      apply Int32.toBitVec_inj.mp
      apply BitVec.eq_of_getLsbD_eq
      intro i _
      rw [h i]; exact (BitVec.getLsbD_zero).symm
  have h12 : ∀ i, 12 ≤ i → a.testBit i = false ∧ b.testBit i = false := fun i hi => ⟨Nat.testBit_lt_two_pow (Nat.lt_of_lt_of_le ha (Nat.le_trans (by decide : 4096 ≤ 2 ^ 12) (Nat.pow_le_pow_right (n := 2) (by decide) hi))), Nat.testBit_lt_two_pow (Nat.lt_of_lt_of_le hb (Nat.le_trans (by decide : 4096 ≤ 2 ^ 12) (Nat.pow_le_pow_right (n := 2) (by decide) hi)))⟩
  rw [hz]
  constructor
  · intro h
    have ⟨i, hi⟩ := Classical.not_forall.mp h
    rw [hbits] at hi
    simp only [Bool.not_eq_false, Bool.and_eq_true, decide_eq_true_eq, Bool.not_eq_true', decide_eq_false_iff_not] at hi
    obtain ⟨h1, ⟨h2, h3⟩, h4⟩ := hi
    have hi12 : i < 12 := by
      by_cases hc : i < 12
      · exact hc
      · rw [(h12 i (by omega)).1] at h2; cases h2
    refine ⟨i, Nat.zero_le _, by omega, h2, ?_, fun j _ hj => ?_⟩
    · rw [h2] at h3
      cases hbb : b.testBit i with
      | false => rfl
      | true => rw [hbb] at h3; simp at h3
    · by_cases hc : a.testBit j = b.testBit j
      · exact hc
      · exact absurd ⟨j, hj, by simp [hc]⟩ h4
  · rintro ⟨i, _, h2, h3, h4, h5⟩ h
    have := h i
    rw [hbits] at this
    have e4 : decide (∃ j, j < i ∧ (a.testBit j != b.testBit j) = true) = false := by
      rw [decide_eq_false_iff_not]
      rintro ⟨j, hj, hne⟩
      rw [h5 j (Nat.zero_le _) hj] at hne
      simp at hne
    rw [e4, h3, h4] at this
    simp only [show i < 32 from by omega, decide_true] at this
    simp at this
end S57
