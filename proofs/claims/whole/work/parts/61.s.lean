/-! the class's seater: moving along, one more -/
section S61
variable {l : Launch} {M : o_M} {nw np ns nt T : Nat}
theorem nI_andn {a b : Nat} (ha : a < 1024) : nI a &&& (nI b ^^^ (-1)) = nI (a &&& (b ^^^ 1023)) := by
  apply Int32.toBitVec_inj.mp
  apply BitVec.eq_of_getLsbD_eq
  intro i hi
  have e : (nI a &&& (nI b ^^^ (-1))).toBitVec = BitVec.ofNat 32 a &&& (BitVec.ofNat 32 b ^^^ BitVec.allOnes 32) := rfl
  have e2 : (nI (a &&& (b ^^^ 1023))).toBitVec = BitVec.ofNat 32 (a &&& (b ^^^ 1023)) := rfl
  rw [e, e2, BitVec.getLsbD_and, BitVec.getLsbD_xor, BitVec.getLsbD_ofNat, BitVec.getLsbD_ofNat, BitVec.getLsbD_ofNat, BitVec.getLsbD_allOnes, Nat.testBit_and, Nat.testBit_xor]
  simp only [hi, decide_true, Bool.true_and]
  by_cases h10 : i < 10
  · have : ∀ i, i < 10 → Nat.testBit 1023 i = true := by decide
    rw [this i h10]
  · have : a.testBit i = false := Nat.testBit_lt_two_pow (Nat.lt_of_lt_of_le ha (Nat.le_trans (by decide : 1024 ≤ 2 ^ 10) (Nat.pow_le_pow_right (n := 2) (by decide) (by omega))))
    rw [this]; simp
theorem andn_t (a b i : Nat) (ha : a < 1024) : (a &&& (b ^^^ 1023)).testBit i = (a.testBit i && !b.testBit i) := by
  rw [Nat.testBit_and, Nat.testBit_xor]
  by_cases h10 : i < 10
  · have : ∀ i, i < 10 → Nat.testBit 1023 i = true := by decide
    rw [this i h10]; simp
  · have : a.testBit i = false := Nat.testBit_lt_two_pow (Nat.lt_of_lt_of_le ha (Nat.le_trans (by decide : 1024 ≤ 2 ^ 10) (Nat.pow_le_pow_right (n := 2) (by decide) (by omega))))
    rw [this]; simp
theorem andn_lt {a b : Nat} (ha : a < 1024) : a &&& (b ^^^ 1023) < 1024 := Nat.lt_of_le_of_lt Nat.and_le_left ha
/-- injective rows: how many values -/
theorem pig {Q : Nat → Nat} {n : Nat} : ∀ z, (∀ j, j < z → Q j < n) → (∀ i j, i < z → j < z → Q i = Q j → i = j) → cn (fun c => (List.range z).any fun j => Q j == c) n = z
  | 0 => fun _ _ => cn_0 n fun k _ => rfl
  | z + 1 => fun h1 h2 => by
    have e := pig z (fun j hj => h1 j (by omega)) (fun i j hi hj => h2 i j (by omega) (by omega))
    refine Eq.trans (cn_one (f := fun c => (List.range z).any fun j => Q j == c) (a := Q z) (h1 z (by omega)) ?_ ?_ ?_) (by rw [e])
    · rw [List.any_eq_false]
      intro j hj hc
      have hj := List.mem_range.mp hj
      have := h2 j z (by omega) (by omega) (by simpa using hc)
      omega
    · rw [any_s]; simp
    · intro k _ hk
      rw [any_s]
      have : (Q z == k) = false := by simp; omega
      rw [this, Bool.or_false]
theorem pig_lt {Q : Nat → Nat} {n z k : Nat} (h1 : ∀ j, j < z → Q j < n) (h2 : ∀ i j, i < z → j < z → Q i = Q j → i = j) (hk : k < n) (h3 : ∀ j, j < z → Q j ≠ k) : z < n := by
  have e := pig z h1 h2
  have := cn_lt (f := fun c => (List.range z).any fun j => Q j == c) hk (by
    rw [List.any_eq_false]
    intro j hj hc
    exact h3 j (List.mem_range.mp hj) (by simpa using hc))
  omega
def cnf (fm : Nat → Nat) (c p : Nat) : Bool := (fm c).testBit p
/-- the rows of the seater -/
def SR (N : o_M) (n S : Nat) (fm : Nat → Nat) (h g : Nat → Option Nat) : Prop := mI N 29 5 = nI n ∧ mI N 29 6 = nI S ∧ (∀ c, c < n → mI N 30 c = nI (fm c)) ∧ (∀ c, c < 12 → mI N 31 c = oI (h c)) ∧ ∀ p, p < 10 → mI N 32 p = oI (g p)
/-- a seating with one more -/
def Aug (can : Nat → Nat → Bool) (P n first S : Nat) (h0 h g : Nat → Option Nat) : Prop := Mt can P n h g ∧ (∀ k, k < first → h k = h0 k) ∧ (∀ k p, first ≤ k → h k = some p → S.testBit p = false) ∧ ∃ root, first ≤ root ∧ root < n ∧ h0 root = none ∧ ∀ k, (h k).isSome = ((h0 k).isSome || decide (k = root))
def fo (f : Nat → Option Nat) (k : Nat) (x : Option Nat) : Nat → Option Nat := fun j => if j = k then x else f j
theorem oI_n1 {o : Option Nat} (h : ∀ p, o = some p → p < 2 ^ 31) : oI o = -1 ↔ o = none := by
  cases o with
  | none => exact ⟨fun _ => rfl, fun _ => rfl⟩
  | some p => exact ⟨fun z => absurd z (nI_ne1 (h p rfl)), fun z => by cases z⟩
theorem c5_moveAlong (hX : wX M) {P n first S F z : Nat} {fm : Nat → Nat} {h0 : Nat → Option Nat} {Q : Nat → Nat} (hP : P ≤ 10) (hn : n ≤ 12) (hQn : ∀ j, j < z → first ≤ Q j ∧ Q j < n) (hQi : ∀ i j, i < z → j < z → Q i = Q j → i = j) (hfree : ∀ j, j < F → j < z → h0 (Q j) = none) (hch : ∀ j, F ≤ j → j < z → ∃ y j', h0 (Q j) = some y ∧ j' < j ∧ mI M 34 y = nI (Q j') ∧ cnf fm (Q j') y = true) (q : o_M → Prop)
    (hq : ∀ N' h g, Sm M N' → SR N' n S fm h g → Aug (cnf fm) P n first S h0 h g → q N') : ∀ i y h g it N, i < z → y < P → S.testBit y = false → mI M 34 y = nI (Q i) → cnf fm (Q i) y = true → (∀ k p, p ≠ y → (h k = some p ↔ g p = some k)) → (∀ k, h k ≠ some y) → (∀ k p, h k = some p → k < n ∧ p < P ∧ cnf fm k p = true) → (∀ k, (h k).isSome = (h0 k).isSome) → (∀ k, k < first → h k = h0 k) → (∀ k p, first ≤ k → h k = some p → S.testBit p = false) → (∀ j, j ≤ i → h (Q j) = h0 (Q j)) → it + (i + 1 - F) + 1 ≤ 10 → Sm M N → (∀ j, mI N 34 j = mI M 34 j) → SR N n S fm h g → H_X5_moveAlong_4 l q (nI y) (nI it) N := by
  intro i
  induction i using Nat.strongRecOn with
  | _ i ih =>
    intro y h g it N hiz hyP hyS hy34 hcan hinv hfl hok hsome hlow hnS hsame hit hN h34 hSR
    have hX' := Sm_wX hN hX
    obtain ⟨g1, g2, g3, g4, g5⟩ := hSR
    obtain ⟨hq1, hq2⟩ := hQn i hiz
    refine w_X5_moveAlong_4 l q _ _ N ⟨fun z => ?_, fun _ => ⟨fun z => absurd z (nI_ne1 (by omega)), fun _ => ?_⟩⟩
    · (simp (disch := omega) only [ile, ilt, ieq, nI_toInt, Int32.reduceToInt] at z; omega)
    rw [nI_clamp (by omega), h34, hy34, nI_clamp (by omega), g4 _ (by omega), n1]
    simp (disch := omega) only [true_and, mI_sI_1, mI_sI_2, mI_sI_3, mI_nW_1, mI_nW_2, mI_sR, mI_sJ, mI_sA_1, mI_sA_2, mR_sI, mR_sJ, mR_sA, mR_sR_1, mR_sR_2, mR_sR_3, mR_nW_1, mR_nW_2, mN_sI, mN_sJ, mN_sR, mN_sA, mN_nW_1, mN_nW_2, mJ_sI, mJ_sR, mJ_sA, mJ_sJ_1, mJ_sJ_2, mJ_sJ_3, mJ_nW_1, mJ_nW_2, xr29_4 hX', xr29_1 hX', xr29_2 hX', xn34 hX', xn31 hX', xn32 hX']
    refine ⟨vin (by omega) (by decide), vin (by omega) (by decide), vin (by omega) (by decide), vin (by omega) (by decide), ?_⟩
    have hSR' : SR (sI (sI N 31 (Q i) (nI y)) 32 y (nI (Q i))) n S fm (fo h (Q i) (some y)) (fo g y (some (Q i))) := by
      refine ⟨by simp (disch := omega) only [true_and, mI_sI_1, mI_sI_2, mI_sI_3, mI_nW_1, mI_nW_2, mI_sR, mI_sJ, mI_sA_1, mI_sA_2, mR_sI, mR_sJ, mR_sA, mR_sR_1, mR_sR_2, mR_sR_3, mR_nW_1, mR_nW_2, mN_sI, mN_sJ, mN_sR, mN_sA, mN_nW_1, mN_nW_2, mJ_sI, mJ_sR, mJ_sA, mJ_sJ_1, mJ_sJ_2, mJ_sJ_3, mJ_nW_1, mJ_nW_2]; exact g1, by simp (disch := omega) only [true_and, mI_sI_1, mI_sI_2, mI_sI_3, mI_nW_1, mI_nW_2, mI_sR, mI_sJ, mI_sA_1, mI_sA_2, mR_sI, mR_sJ, mR_sA, mR_sR_1, mR_sR_2, mR_sR_3, mR_nW_1, mR_nW_2, mN_sI, mN_sJ, mN_sR, mN_sA, mN_nW_1, mN_nW_2, mJ_sI, mJ_sR, mJ_sA, mJ_sJ_1, mJ_sJ_2, mJ_sJ_3, mJ_nW_1, mJ_nW_2]; exact g2, fun c hc => by simp (disch := omega) only [true_and, mI_sI_1, mI_sI_2, mI_sI_3, mI_nW_1, mI_nW_2, mI_sR, mI_sJ, mI_sA_1, mI_sA_2, mR_sI, mR_sJ, mR_sA, mR_sR_1, mR_sR_2, mR_sR_3, mR_nW_1, mR_nW_2, mN_sI, mN_sJ, mN_sR, mN_sA, mN_nW_1, mN_nW_2, mJ_sI, mJ_sR, mJ_sA, mJ_sJ_1, mJ_sJ_2, mJ_sJ_3, mJ_nW_1, mJ_nW_2]; exact g3 c hc, fun c hc => ?_, fun p hp => ?_⟩
      · unfold fo
        by_cases hcq : c = Q i
        · subst hcq; simp (disch := omega) only [true_and, mI_sI_1, mI_sI_2, mI_sI_3, mI_nW_1, mI_nW_2, mI_sR, mI_sJ, mI_sA_1, mI_sA_2, mR_sI, mR_sJ, mR_sA, mR_sR_1, mR_sR_2, mR_sR_3, mR_nW_1, mR_nW_2, mN_sI, mN_sJ, mN_sR, mN_sA, mN_nW_1, mN_nW_2, mJ_sI, mJ_sR, mJ_sA, mJ_sJ_1, mJ_sJ_2, mJ_sJ_3, mJ_nW_1, mJ_nW_2, if_true]; rfl
        · rw [if_neg hcq]; simp (disch := omega) only [true_and, mI_sI_1, mI_sI_2, mI_sI_3, mI_nW_1, mI_nW_2, mI_sR, mI_sJ, mI_sA_1, mI_sA_2, mR_sI, mR_sJ, mR_sA, mR_sR_1, mR_sR_2, mR_sR_3, mR_nW_1, mR_nW_2, mN_sI, mN_sJ, mN_sR, mN_sA, mN_nW_1, mN_nW_2, mJ_sI, mJ_sR, mJ_sA, mJ_sJ_1, mJ_sJ_2, mJ_sJ_3, mJ_nW_1, mJ_nW_2]; exact g4 c hc
      · unfold fo
        by_cases hcq : p = y
        · subst hcq; simp (disch := omega) only [true_and, mI_sI_1, mI_sI_2, mI_sI_3, mI_nW_1, mI_nW_2, mI_sR, mI_sJ, mI_sA_1, mI_sA_2, mR_sI, mR_sJ, mR_sA, mR_sR_1, mR_sR_2, mR_sR_3, mR_nW_1, mR_nW_2, mN_sI, mN_sJ, mN_sR, mN_sA, mN_nW_1, mN_nW_2, mJ_sI, mJ_sR, mJ_sA, mJ_sJ_1, mJ_sJ_2, mJ_sJ_3, mJ_nW_1, mJ_nW_2, if_true]; rfl
        · rw [if_neg hcq]; simp (disch := omega) only [true_and, mI_sI_1, mI_sI_2, mI_sI_3, mI_nW_1, mI_nW_2, mI_sR, mI_sJ, mI_sA_1, mI_sA_2, mR_sI, mR_sJ, mR_sA, mR_sR_1, mR_sR_2, mR_sR_3, mR_nW_1, mR_nW_2, mN_sI, mN_sJ, mN_sR, mN_sA, mN_nW_1, mN_nW_2, mJ_sI, mJ_sR, mJ_sA, mJ_sJ_1, mJ_sJ_2, mJ_sJ_3, mJ_nW_1, mJ_nW_2]; exact g5 p hp
    have hN' : Sm M (sI (sI N 31 (Q i) (nI y)) 32 y (nI (Q i))) := Sm_t hN (Sm_t (Sm_sI _ rfl _) (Sm_sI _ rfl _))
    rw [hsame i (Nat.le_refl _)]
    by_cases hiF : i < F
    · -- a free chair: done
      rw [hfree i hiF hiz]
      have hfin := hq _ (fo h (Q i) (some y)) (fo g y (some (Q i))) hN' hSR' (by
        refine ⟨⟨fun c p => ?_, fun c p hcp => ?_⟩, fun k hk => ?_, fun k p hk hkp => ?_, Q i, hq1, hq2, hfree i hiF hiz, fun k => ?_⟩
        · unfold fo
          by_cases hc : c = Q i
          · subst hc
            rw [if_pos rfl]
            by_cases hp : p = y
            · subst hp; rw [if_pos rfl]; exact ⟨fun _ => rfl, fun _ => rfl⟩
            · rw [if_neg hp, ← hinv _ p hp, hsame i (Nat.le_refl _), hfree i hiF hiz]
              exact ⟨fun z => absurd (Option.some.inj z).symm hp, fun z => by cases z⟩
          · rw [if_neg hc]
            by_cases hp : p = y
            · subst hp; rw [if_pos rfl]
              exact ⟨fun z => absurd z (hfl c), fun z => absurd (Option.some.inj z).symm hc⟩
            · rw [if_neg hp]; exact hinv c p hp
        · unfold fo at hcp
          by_cases hc : c = Q i
          · subst hc; rw [if_pos rfl] at hcp; cases hcp; exact ⟨hq2, hyP, hcan⟩
          · rw [if_neg hc] at hcp; exact hok c p hcp
        · unfold fo; rw [if_neg (by omega)]; exact hlow k hk
        · unfold fo at hkp
          by_cases hc : k = Q i
          · rw [if_pos hc] at hkp; cases hkp; exact hyS
          · rw [if_neg hc] at hkp; exact hnS k p hk hkp
        · unfold fo
          by_cases hc : k = Q i
          · rw [if_pos hc]; simp [hc]
          · rw [if_neg hc, hsome k]; simp [hc])
      exact w_X5_moveAlong_4 l q _ _ _ ⟨fun _ => hfin, fun _ => ⟨fun _ => hfin, fun z => absurd rfl z⟩⟩
    · obtain ⟨x, j', hx, hj', hx34, hxc⟩ := hch i (by omega) hiz
      have hhx : h (Q i) = some x := by rw [hsame i (Nat.le_refl _)]; exact hx
      have hxP := (hok _ x hhx).2.1
      have hxy : x ≠ y := fun e => hfl (Q i) (by rw [← e]; exact hhx)
      rw [hx]
      refine ih j' hj' x (fo h (Q i) (some y)) (fo g y (some (Q i))) (it + 1) _ (by omega) hxP (hnS _ x hq1 hhx) hx34 hxc (fun k p hp => ?_) (fun k hk => ?_) (fun k p hkp => ?_) (fun k => ?_) (fun k hk => ?_) (fun k p hk hkp => ?_) (fun j hj => ?_) (by omega) hN' (fun j => by simp (disch := omega) only [true_and, mI_sI_1, mI_sI_2, mI_sI_3, mI_nW_1, mI_nW_2, mI_sR, mI_sJ, mI_sA_1, mI_sA_2, mR_sI, mR_sJ, mR_sA, mR_sR_1, mR_sR_2, mR_sR_3, mR_nW_1, mR_nW_2, mN_sI, mN_sJ, mN_sR, mN_sA, mN_nW_1, mN_nW_2, mJ_sI, mJ_sR, mJ_sA, mJ_sJ_1, mJ_sJ_2, mJ_sJ_3, mJ_nW_1, mJ_nW_2]; exact h34 j) hSR'
      · unfold fo
        by_cases hc : k = Q i
        · subst hc
          rw [if_pos rfl]
          by_cases hpy : p = y
          · subst hpy; rw [if_pos rfl]; exact ⟨fun _ => rfl, fun _ => rfl⟩
          · rw [if_neg hpy, ← hinv _ p hpy, hhx]
            exact ⟨fun z => absurd (Option.some.inj z).symm hpy, fun z => absurd (Option.some.inj z).symm hp⟩
        · rw [if_neg hc]
          by_cases hpy : p = y
          · subst hpy; rw [if_pos rfl]
            exact ⟨fun z => absurd z (hfl k), fun z => absurd (Option.some.inj z).symm hc⟩
          · rw [if_neg hpy]; exact hinv k p hpy
      · unfold fo at hk
        by_cases hc : k = Q i
        · rw [if_pos hc] at hk; exact hxy (Option.some.inj hk).symm
        · rw [if_neg hc] at hk
          have e1 := (hinv k x hxy).mp hk
          have e2 := (hinv (Q i) x hxy).mp hhx
          rw [e1] at e2
          exact hc (Option.some.inj e2)
      · unfold fo at hkp
        by_cases hc : k = Q i
        · subst hc; rw [if_pos rfl] at hkp; cases hkp; exact ⟨hq2, hyP, hcan⟩
        · rw [if_neg hc] at hkp; exact hok k p hkp
      · unfold fo
        by_cases hc : k = Q i
        · subst hc; rw [if_pos rfl, ← hsome, hhx]; rfl
        · rw [if_neg hc]; exact hsome k
      · unfold fo; rw [if_neg (by omega)]; exact hlow k hk
      · unfold fo at hkp
        by_cases hc : k = Q i
        · rw [if_pos hc] at hkp; cases hkp; exact hyS
        · rw [if_neg hc] at hkp; exact hnS k p hk hkp
      · unfold fo
        rw [if_neg (fun e => by have := hQi j i (by omega) hiz e; omega)]
        exact hsame j (by omega)
end S61
