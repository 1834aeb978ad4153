/-! the class's seater: one more -/
section S62
variable {l : Launch} {M : o_M} {nw np ns nt T : Nat}
theorem cf_compl (f : Nat → Bool) (c : Nat) : ∀ a, cf f c a + cf (fun k => !f k) c a = a - c
  | 0 => by simp [cf, cn]
  | a + 1 => by
    have h := cf_compl f c a
    have e1 : ∀ g : Nat → Bool, cf g c (a + 1) = cf g c a + (decide (c ≤ a) && g a).toNat := fun _ => rfl
    rw [e1, e1]
    by_cases hc : c ≤ a
    · simp only [hc, decide_true, Bool.true_and]
      cases f a <;> simp <;> omega
    · simp only [hc, decide_false, Bool.false_and, Bool.toNat_false]; omega
/-- no seating of more chairs than these: the search that finds none -/
theorem no_more {can : Nat → Nat → Bool} {P n first S z F : Nat} {h g : Nat → Option Nat} {Q : Nat → Nat} {E : Nat} (hM : Mt can P n h g) (hfn : first ≤ n) (hQn : ∀ j, j < z → first ≤ Q j ∧ Q j < n) (hQi : ∀ i j, i < z → j < z → Q i = Q j → i = j) (hF : F ≤ z) (hfree : ∀ j, j < F → h (Q j) = none) (hfull : ∀ j, F ≤ j → j < z → ∃ y, h (Q j) = some y ∧ E.testBit y = true ∧ S.testBit y = false) (hall : ∀ k, first ≤ k → k < n → h k = none → ∃ j, j < F ∧ Q j = k) (hseen : ∀ p, p < P → E.testBit p = true → S.testBit p = false → ∃ k j, g p = some k ∧ F ≤ j ∧ j < z ∧ Q j = k) (hcl : ∀ j p, j < z → p < P → can (Q j) p = true → E.testBit p = true) : fl can P (n - first) first S ≤ sz h first n := by
  have hc := fl_cover (can := can) (P := P) (n := n) (fun c => (List.range z).any fun j => Q j == c) (fun p => E.testBit p && !S.testBit p) (n - first) first S (by omega) (fun k p hk hkn hq hp hcan => by
    rw [List.any_eq_true] at hq
    obtain ⟨j, hj, e⟩ := hq
    have e : Q j = k := by simpa using e
    subst e
    have := hcl j p (List.mem_range.mp hj) hp hcan
    cases hS : S.testBit p with
    | true => left; rfl
    | false => right; rw [this]; rfl)
  -- the seen players are as many as the full chairs of the row
  have hY : cn (fun p => (E.testBit p && !S.testBit p) && !S.testBit p) P = z - F := by
    have hz : ∀ j, j < z - F → ∃ y, h (Q (F + j)) = some y ∧ E.testBit y = true ∧ S.testBit y = false := fun j hj => hfull (F + j) (by omega) (by omega)
    let R : Nat → Nat := fun j => (h (Q (F + j))).getD 0
    have hR : ∀ j, j < z - F → h (Q (F + j)) = some (R j) := fun j hj => by
      obtain ⟨y, e, _⟩ := hz j hj
      show h (Q (F + j)) = some ((h (Q (F + j))).getD 0)
      rw [e]; rfl
    have hRi : ∀ i j, i < z - F → j < z - F → R i = R j → i = j := fun i j hi hj e => by
      have h1 := (hM.1 _ _).mp (hR i hi)
      have h2 := (hM.1 _ _).mp (hR j hj)
      rw [e, h2] at h1
      have := hQi _ _ (by omega) (by omega) (Option.some.inj h1)
      omega
    have hp := pig (Q := R) (n := P) (z - F) (fun j hj => (hM.2 _ _ (hR j hj)).2.1) hRi
    refine Eq.trans ?_ hp
    apply cn_cong
    intro p hp'
    apply Bool.eq_iff_iff.mpr
    rw [List.any_eq_true]
    constructor
    · intro hh
      simp only [Bool.and_eq_true, Bool.not_eq_true'] at hh
      obtain ⟨k, j, e1, e2, e3, e4⟩ := hseen p hp' hh.1.1 hh.2
      refine ⟨j - F, List.mem_range.mpr (by omega), ?_⟩
      have := hR (j - F) (by omega)
      rw [show F + (j - F) = j by omega, e4, (hM.1 k p).mpr e1] at this
      have := Option.some.inj this
      simp [this]
    · rintro ⟨j, hj, e⟩
      have e : R j = p := by simpa using e
      obtain ⟨y, e1, e2, e3⟩ := hz j (List.mem_range.mp hj)
      rw [hR j (List.mem_range.mp hj), e] at e1
      cases e1
      simp [e2, e3]
  -- chairs out of the row are filled, those in it as many as the full ones
  have hQ := cf_compl (fun k => (List.range z).any fun j => Q j == k) first n
  have hQ2 : cf (fun k => (List.range z).any fun j => Q j == k) first n = z := by
    refine Eq.trans ?_ (pig z (fun j hj => (hQn j hj).2) hQi)
    unfold cf
    apply cn_cong
    intro k hk
    by_cases hfk : first ≤ k
    · simp [hfk]
    · have : ((List.range z).any fun j => Q j == k) = false := by
        rw [List.any_eq_false]
        intro j hj e
        have := (hQn j (List.mem_range.mp hj)).1
        have e : Q j = k := by simpa using e
        omega
      show (decide (first ≤ k) && ((List.range z).any fun j => Q j == k)) = ((List.range z).any fun j => Q j == k)
      rw [this, Bool.and_false]
  have hfr := cf_compl (fun k => (h k).isSome) first n
  have hfr2 : cf (fun k => !(h k).isSome) first n = F := by
    refine Eq.trans ?_ (pig (Q := Q) (n := n) F (fun j hj => (hQn j (by omega)).2) (fun i j hi hj => hQi i j (by omega) (by omega)))
    unfold cf
    apply cn_cong
    intro k hk
    apply Bool.eq_iff_iff.mpr
    rw [List.any_eq_true]
    constructor
    · intro hh
      simp only [Bool.and_eq_true, decide_eq_true_eq, Bool.not_eq_true', Option.isSome_eq_false_iff, Option.isNone_iff_eq_none] at hh
      obtain ⟨j, hj, e⟩ := hall k hh.1 hk hh.2
      exact ⟨j, List.mem_range.mpr hj, by simp [e]⟩
    · rintro ⟨j, hj, e⟩
      have e : Q j = k := by simpa using e
      have hj := List.mem_range.mp hj
      have := hQn j (by omega)
      show (decide (first ≤ k) && !(h k).isSome) = true
      rw [← e, hfree j hj]
      simp; omega
  unfold sz
  rw [hY] at hc
  omega
theorem sz_aug {can : Nat → Nat → Bool} {P n first S : Nat} {h0 h g : Nat → Option Nat} (hA : Aug can P n first S h0 h g) : sz h first n = sz h0 first n + 1 := by
  obtain ⟨_, _, _, root, r1, r2, r3, r4⟩ := hA
  unfold sz cf
  refine cn_one (a := root) r2 ?_ ?_ ?_
  · show (decide (first ≤ root) && (h0 root).isSome) = false
    rw [r3]; simp
  · show (decide (first ≤ root) && (h root).isSome) = true
    rw [r4]; simp [r1]
  · intro k _ hk
    show (decide (first ≤ k) && (h0 k).isSome) = (decide (first ≤ k) && (h k).isSome)
    rw [r4]
    have : decide (k = root) = false := by simp [hk]
    rw [this, Bool.or_false]
/-- one more, if it can be: the search by rows -/
theorem c5_seatOneMore (hX : wX M) {P n first S : Nat} {fm : Nat → Nat} {h g : Nat → Option Nat} (hP : P ≤ 10) (hn : n ≤ 12) (hfn : first ≤ n) (hS : S < 1024) (hfm : ∀ c, c < n → fm c < 1024 ∧ ∀ p, (fm c).testBit p = true → p < P) (hM : Mt (cnf fm) P n h g) (hlow : ∀ k p, k < first → h k = some p → S.testBit p = true) (hhi : ∀ k p, first ≤ k → h k = some p → S.testBit p = false) (hSR : SR M n S fm h g) (q : Int32 → o_M → Prop)
    (h1 : ∀ N' h' g', Sm M N' → SR N' n S fm h' g' → Aug (cnf fm) P n first S h h' g' → q 1 N') (h0 : ∀ N', Sm M N' → SR N' n S fm h g → fl (cnf fm) P (n - first) first S ≤ sz h first n → q 0 N') : K_X5_seatOneMore l [rV (some 29), iV (nI first)] M q := by
  obtain ⟨s1, s2, s3, s4, s5⟩ := hSR
  have hhb : ∀ k p, h k = some p → p < 2 ^ 31 := fun k p e => by have := (hM.2 k p e).2.1; omega
  have hgb : ∀ p k, g p = some k → k < 2 ^ 31 := fun p k e => by have := (hM.2 k p ((hM.1 k p).mpr e)).1; omega
  -- the rows of the search
  have hSRk : ∀ N, Sm M N → (∀ a j, a ≠ 33 → a ≠ 34 → mI N a j = mI M a j) → SR N n S fm h g := fun N _ hI => ⟨by rw [hI 29 5 (by decide) (by decide)]; exact s1, by rw [hI 29 6 (by decide) (by decide)]; exact s2, fun c hc => by rw [hI 30 c (by decide) (by decide)]; exact s3 c hc, fun c hc => by rw [hI 31 c (by decide) (by decide)]; exact s4 c hc, fun p hp => by rw [hI 32 p (by decide) (by decide)]; exact s5 p hp⟩
  -- the state of the search at a player: index i of the row, seen E, still open O from p on
  have inner : ∀ F (Q : Nat → Nat) i, (∀ j, j < F → h (Q j) = none) → (∀ k, first ≤ k → k < n → h k = none → ∃ j, j < F ∧ Q j = k) →
      (∀ (E z : Nat) (N : o_M) (Q' : Nat → Nat), i + 1 ≤ z → (∀ j, j < F → Q' j = Q j) → F ≤ z → E < 1024 → Sm M N → (∀ a j, a ≠ 33 → a ≠ 34 → mI N a j = mI M a j) → (∀ j, j < z → first ≤ Q' j ∧ Q' j < n ∧ mI N 33 j = nI (Q' j)) → (∀ a b, a < z → b < z → Q' a = Q' b → a = b) → (∀ j, F ≤ j → j < z → ∃ y j', h (Q' j) = some y ∧ j' < j ∧ mI N 34 y = nI (Q' j') ∧ cnf fm (Q' j') y = true ∧ E.testBit y = true ∧ S.testBit y = false) → (∀ p, p < P → E.testBit p = true → S.testBit p = false → ∃ k j, g p = some k ∧ F ≤ j ∧ j < z ∧ Q' j = k) → (∀ j p, j < i + 1 → p < P → cnf fm (Q' j) p = true → E.testBit p = true) → (∀ p, S.testBit p = true → E.testBit p = true) → H_X5_seatOneMore_50 l q (nI E) (nI z) (nI (i + 1)) N) →
      ∀ m p (E O z : Nat) (N : o_M) (Q' : Nat → Nat), p + m = 10 → i < z → (∀ j, j < F → Q' j = Q j) → F ≤ z → E < 1024 → O < 1024 → Sm M N → (∀ a j, a ≠ 33 → a ≠ 34 → mI N a j = mI M a j) → (∀ j, j < z → first ≤ Q' j ∧ Q' j < n ∧ mI N 33 j = nI (Q' j)) → (∀ a b, a < z → b < z → Q' a = Q' b → a = b) → (∀ j, F ≤ j → j < z → ∃ y j', h (Q' j) = some y ∧ j' < j ∧ mI N 34 y = nI (Q' j') ∧ cnf fm (Q' j') y = true ∧ E.testBit y = true ∧ S.testBit y = false ∧ ¬ (O.testBit y = true ∧ p ≤ y)) → (∀ y, y < P → E.testBit y = true → S.testBit y = false → ¬ (O.testBit y = true ∧ p ≤ y) → ∃ k j, g y = some k ∧ F ≤ j ∧ j < z ∧ Q' j = k) → (∀ j y, j < i + 1 → y < P → cnf fm (Q' j) y = true → E.testBit y = true) → (∀ y, S.testBit y = true → E.testBit y = true) → (∀ y, O.testBit y = true → cnf fm (Q' i) y = true ∧ S.testBit y = false ∧ E.testBit y = true) → H_X5_seatOneMore_82 l q (nI E) (nI z) (nI i) (nI O) (nI p) N := by
    intro F Q i hfree hall hout m
    induction m with
    | zero =>
      intro p E O z N Q' hp hiz hQF hFz hE hO hN hI hQ hQi hfull hseen hcl hSE hOo
      have : p = 10 := by omega
      subst this
      refine w_X5_seatOneMore_82 l q _ _ _ _ _ N ⟨fun _ => ?_, fun z => absurd (by decide) z⟩
      rw [n1]
      exact hout E z N Q' (by omega) hQF hFz hE hN hI hQ hQi (fun j h1 h2 => by obtain ⟨y, j', a, b, c, d, e, f, _⟩ := hfull j h1 h2; exact ⟨y, j', a, b, c, d, e, f⟩) (fun y hy h1 h2 => hseen y hy h1 h2 (fun z => by omega)) hcl hSE
    | succ m ih =>
      intro p E O z N Q' hp hiz hQF hFz hE hO hN hI hQ hQi hfull hseen hcl hSE hOo
      have hX' := Sm_wX hN hX
      have hp10 : p < 10 := by omega
      have hzn : z ≤ n := by
        have a1 := pig z (fun j hj => (hQ j hj).2.1) hQi
        have a2 := cn_le (fun c => (List.range z).any fun j => Q' j == c) n
        omega
      refine w_X5_seatOneMore_82 l q _ _ _ _ _ N ⟨fun z => ?_, fun _ => ⟨fun hb => ?_, fun hb => ?_⟩⟩
      · (simp (disch := omega) only [ile, ilt, ieq, nI_toInt, Int32.reduceToInt] at z; omega)
      · -- the player is open
        have hOp : O.testBit p = true := by
          cases hc : O.testBit p with
          | true => rfl
          | false => exact absurd ((bit_iff0 (by omega) (by omega)).mpr hc) hb
        obtain ⟨hcan, hpS, hpE⟩ := hOo p hOp
        obtain ⟨q1, q2, q3⟩ := hQ i hiz
        have hpP : p < P := (hfm _ q2).2 p hcan
        rw [nI_clamp (by omega), nI_clamp (by omega), q3, n1]
        simp (disch := omega) only [true_and, mI_sI_1, mI_sI_2, mI_sI_3, mI_nW_1, mI_nW_2, mI_sR, mI_sJ, mI_sA_1, mI_sA_2, mR_sI, mR_sJ, mR_sA, mR_sR_1, mR_sR_2, mR_sR_3, mR_nW_1, mR_nW_2, mN_sI, mN_sJ, mN_sR, mN_sA, mN_nW_1, mN_nW_2, mJ_sI, mJ_sR, mJ_sA, mJ_sJ_1, mJ_sJ_2, mJ_sJ_3, mJ_nW_1, mJ_nW_2, xr29_4 hX', xr29_3 hX', xr29_2 hX', xn33 hX', xn34 hX', xn32 hX', hI, s5]
        have hN1 : Sm M (sI N 34 p (nI (Q' i))) := Sm_t hN (Sm_sI _ rfl _)
        refine ⟨vin (by omega) (by decide), vin hp10 (by decide), vin hp10 (by decide), fun hg => ?_, fun hg => ?_⟩
        · -- held: its chair comes into the row
          have hgs : ∃ k, g p = some k := by
            cases hc : g p with
            | none => rw [hc] at hg; exact absurd rfl hg
            | some k => exact ⟨k, rfl⟩
          obtain ⟨k, hk⟩ := hgs
          have hhk := (hM.1 k p).mpr hk
          obtain ⟨k1, k2, k3⟩ := hM.2 k p hhk
          have hkf : first ≤ k := by
            by_cases hc : first ≤ k
            · exact hc
            · rw [hlow k p (by omega) hhk] at hpS; cases hpS
          have hknew : ∀ j, j < z → Q' j ≠ k := fun j hj e => by
            by_cases hjF : j < F
            · have := hfree j hjF
              rw [← hQF j hjF, e, hhk] at this; cases this
            · obtain ⟨y, j', a, _, _, _, _, _, b⟩ := hfull j (by omega) hj
              rw [e, hhk] at a; cases a
              exact b ⟨hOp, Nat.le_refl _⟩
          have hz12 : z < n := pig_lt (fun j hj => (hQ j hj).2.1) hQi k1 hknew
          refine ⟨fun y => ?_, fun _ => ?_⟩
          · (simp (disch := omega) only [ile, ilt, ieq, nI_toInt, Int32.reduceToInt] at y; omega)
          rw [hk, nI_clamp (by omega), n1]
          refine ⟨vin hp10 (by decide), vin (by omega) (by decide), ?_⟩
          refine ih (p + 1) E O (z + 1) (sI (sI N 34 p (nI (Q' i))) 33 z (nI k)) (fun j => if j = z then k else Q' j) (by omega) (by omega) (fun j hj => by rw [if_neg (by omega)]; exact hQF j hj) (by omega) hE hO (Sm_t hN1 (Sm_sI _ rfl _)) (fun a j ha hb => by simp (disch := omega) only [true_and, mI_sI_1, mI_sI_2, mI_sI_3, mI_nW_1, mI_nW_2, mI_sR, mI_sJ, mI_sA_1, mI_sA_2, mR_sI, mR_sJ, mR_sA, mR_sR_1, mR_sR_2, mR_sR_3, mR_nW_1, mR_nW_2, mN_sI, mN_sJ, mN_sR, mN_sA, mN_nW_1, mN_nW_2, mJ_sI, mJ_sR, mJ_sA, mJ_sJ_1, mJ_sJ_2, mJ_sJ_3, mJ_nW_1, mJ_nW_2]; exact hI a j ha hb) (fun j hj => ?_) (fun a b ha hb hab => ?_) (fun j hj1 hj2 => ?_) (fun y hy hyE hyS hyO => ?_) (fun j y hj hy hc => ?_) hSE (fun y hy => ?_)
          · by_cases hjz : j = z
            · subst hjz; simp (disch := omega) only [true_and, mI_sI_1, mI_sI_2, mI_sI_3, mI_nW_1, mI_nW_2, mI_sR, mI_sJ, mI_sA_1, mI_sA_2, mR_sI, mR_sJ, mR_sA, mR_sR_1, mR_sR_2, mR_sR_3, mR_nW_1, mR_nW_2, mN_sI, mN_sJ, mN_sR, mN_sA, mN_nW_1, mN_nW_2, mJ_sI, mJ_sR, mJ_sA, mJ_sJ_1, mJ_sJ_2, mJ_sJ_3, mJ_nW_1, mJ_nW_2, if_true]; exact ⟨hkf, k1, trivial⟩
            · rw [if_neg hjz]; simp (disch := omega) only [true_and, mI_sI_1, mI_sI_2, mI_sI_3, mI_nW_1, mI_nW_2, mI_sR, mI_sJ, mI_sA_1, mI_sA_2, mR_sI, mR_sJ, mR_sA, mR_sR_1, mR_sR_2, mR_sR_3, mR_nW_1, mR_nW_2, mN_sI, mN_sJ, mN_sR, mN_sA, mN_nW_1, mN_nW_2, mJ_sI, mJ_sR, mJ_sA, mJ_sJ_1, mJ_sJ_2, mJ_sJ_3, mJ_nW_1, mJ_nW_2]; exact hQ j (by omega)
          · by_cases haz : a = z
            · by_cases hbz : b = z
              · omega
              · rw [if_pos haz, if_neg hbz] at hab
                exact absurd hab.symm (hknew b (by omega))
            · by_cases hbz : b = z
              · rw [if_neg haz, if_pos hbz] at hab
                exact absurd hab (hknew a (by omega))
              · rw [if_neg haz, if_neg hbz] at hab
                exact hQi a b (by omega) (by omega) hab
          · by_cases hjz : j = z
            · subst hjz
              refine ⟨p, i, by rw [if_pos rfl]; exact hhk, hiz, ?_, ?_, hpE, hpS, fun y => by omega⟩
              · rw [if_neg (by omega)]; simp (disch := omega) only [true_and, mI_sI_1, mI_sI_2, mI_sI_3, mI_nW_1, mI_nW_2, mI_sR, mI_sJ, mI_sA_1, mI_sA_2, mR_sI, mR_sJ, mR_sA, mR_sR_1, mR_sR_2, mR_sR_3, mR_nW_1, mR_nW_2, mN_sI, mN_sJ, mN_sR, mN_sA, mN_nW_1, mN_nW_2, mJ_sI, mJ_sR, mJ_sA, mJ_sJ_1, mJ_sJ_2, mJ_sJ_3, mJ_nW_1, mJ_nW_2]
              · rw [if_neg (by omega)]; exact hcan
            · obtain ⟨y, j', a, b, c, d, e, f, o⟩ := hfull j hj1 (by omega)
              have hyp : y ≠ p := fun e => o ⟨by rw [e]; exact hOp, by omega⟩
              refine ⟨y, j', by rw [if_neg hjz]; exact a, b, ?_, by rw [if_neg (by omega)]; exact d, e, f, fun w => o ⟨w.1, by omega⟩⟩
              rw [if_neg (by omega)]; simp (disch := omega) only [true_and, mI_sI_1, mI_sI_2, mI_sI_3, mI_nW_1, mI_nW_2, mI_sR, mI_sJ, mI_sA_1, mI_sA_2, mR_sI, mR_sJ, mR_sA, mR_sR_1, mR_sR_2, mR_sR_3, mR_nW_1, mR_nW_2, mN_sI, mN_sJ, mN_sR, mN_sA, mN_nW_1, mN_nW_2, mJ_sI, mJ_sR, mJ_sA, mJ_sJ_1, mJ_sJ_2, mJ_sJ_3, mJ_nW_1, mJ_nW_2]; exact c
          · by_cases hyp : y = p
            · subst hyp
              exact ⟨k, z, hk, hFz, by omega, by rw [if_pos rfl]⟩
            · obtain ⟨k', j, a, b, c, d⟩ := hseen y hy hyE hyS (fun w => hyO ⟨w.1, by omega⟩)
              exact ⟨k', j, a, b, by omega, by rw [if_neg (by omega)]; exact d⟩
          · rw [if_neg (by omega)] at hc; exact hcl j y hj hy hc
          · rw [if_neg (by omega)]; exact hOo y hy
        · -- free: moving along
          have hgn : g p = none := by rw [oI_n1 (fun k hk => hgb p k hk)] at hg; exact hg
          -- less than ten full chairs in the row
          have hlt : z - F < P := by
            let R : Nat → Nat := fun j => (h (Q' (F + j))).getD 0
            have hR : ∀ j, j < z - F → h (Q' (F + j)) = some (R j) := fun j hj => by
              obtain ⟨y, _, e, _⟩ := hfull (F + j) (by omega) (by omega)
              show h (Q' (F + j)) = some ((h (Q' (F + j))).getD 0)
              rw [e]; rfl
            refine pig_lt (Q := R) (k := p) (fun j hj => (hM.2 _ _ (hR j hj)).2.1) (fun a b ha hb e => ?_) hpP (fun j hj e => ?_)
            · have e1 := (hM.1 _ _).mp (hR a ha)
              have e2 := (hM.1 _ _).mp (hR b hb)
              rw [e, e2] at e1
              have := hQi _ _ (by omega) (by omega) (Option.some.inj e1)
              omega
            · have e1 := (hM.1 _ _).mp (hR j hj)
              rw [e, hgn] at e1; cases e1
          refine w_X5_moveAlong l _ _ _ (c5_moveAlong (M := sI N 34 p (nI (Q' i))) (Sm_wX hN1 hX) (P := P) (n := n) (first := first) (S := S) (F := F) (z := z) (fm := fm) (h0 := h) (Q := Q') hP hn (fun j hj => ⟨(hQ j hj).1, (hQ j hj).2.1⟩) hQi (fun j hj _ => by rw [hQF j hj]; exact hfree j hj) (fun j hj1 hj2 => ?_) (fun M26 => q 1 M26) (fun N' h' g' hN' hSR' hA => h1 N' h' g' (Sm_t hN1 hN') hSR' hA) i p h g 0 _ hiz hpP hpS (by simp (disch := omega) only [true_and, mI_sI_1, mI_sI_2, mI_sI_3, mI_nW_1, mI_nW_2, mI_sR, mI_sJ, mI_sA_1, mI_sA_2, mR_sI, mR_sJ, mR_sA, mR_sR_1, mR_sR_2, mR_sR_3, mR_nW_1, mR_nW_2, mN_sI, mN_sJ, mN_sR, mN_sA, mN_nW_1, mN_nW_2, mJ_sI, mJ_sR, mJ_sA, mJ_sJ_1, mJ_sJ_2, mJ_sJ_3, mJ_nW_1, mJ_nW_2]) hcan (fun k y _ => hM.1 k y) (fun k e => ?_) hM.2 (fun _ => rfl) (fun _ _ => rfl) hhi (fun _ _ => rfl) (by omega) (Sm_r _) (fun _ => rfl) (hSRk _ hN1 (fun a j ha hb => by simp (disch := omega) only [true_and, mI_sI_1, mI_sI_2, mI_sI_3, mI_nW_1, mI_nW_2, mI_sR, mI_sJ, mI_sA_1, mI_sA_2, mR_sI, mR_sJ, mR_sA, mR_sR_1, mR_sR_2, mR_sR_3, mR_nW_1, mR_nW_2, mN_sI, mN_sJ, mN_sR, mN_sA, mN_nW_1, mN_nW_2, mJ_sI, mJ_sR, mJ_sA, mJ_sJ_1, mJ_sJ_2, mJ_sJ_3, mJ_nW_1, mJ_nW_2]; exact hI a j ha hb)))
          · obtain ⟨y, j', a, b, c, d, e, f, o⟩ := hfull j hj1 hj2
            have hyp : y ≠ p := fun e => o ⟨by rw [e]; exact hOp, by omega⟩
            exact ⟨y, j', a, b, by simp (disch := omega) only [true_and, mI_sI_1, mI_sI_2, mI_sI_3, mI_nW_1, mI_nW_2, mI_sR, mI_sJ, mI_sA_1, mI_sA_2, mR_sI, mR_sJ, mR_sA, mR_sR_1, mR_sR_2, mR_sR_3, mR_nW_1, mR_nW_2, mN_sI, mN_sJ, mN_sR, mN_sA, mN_nW_1, mN_nW_2, mJ_sI, mJ_sR, mJ_sA, mJ_sJ_1, mJ_sJ_2, mJ_sJ_3, mJ_nW_1, mJ_nW_2]; exact c, d⟩
          · have := (hM.1 k p).mp e
            rw [hgn] at this; cases this
      · -- not open
        have hOp : O.testBit p = false := (bit_iff0 (by omega) (by omega)).mp hb
        rw [n1]
        exact ih (p + 1) E O z N Q' (by omega) hiz hQF hFz hE hO hN hI hQ hQi (fun j h1 h2 => by obtain ⟨y, j', a, b, c, d, e, f, o⟩ := hfull j h1 h2; exact ⟨y, j', a, b, c, d, e, f, fun w => o ⟨w.1, by omega⟩⟩) (fun y hy h1 h2 h3 => hseen y hy h1 h2 (fun w => h3 ⟨w.1, by
          by_cases hyp : y = p
          · subst hyp; rw [hOp] at w; exact absurd w.1 (by decide)
          · omega⟩)) hcl hSE hOo
  -- the search
  have outer : ∀ F (Q : Nat → Nat), (∀ j, j < F → h (Q j) = none) → (∀ k, first ≤ k → k < n → h k = none → ∃ j, j < F ∧ Q j = k) → ∀ m i, i + m = 12 → ∀ (E z : Nat) (N : o_M) (Q' : Nat → Nat), i ≤ z → (∀ j, j < F → Q' j = Q j) → F ≤ z → E < 1024 → Sm M N → (∀ a j, a ≠ 33 → a ≠ 34 → mI N a j = mI M a j) → (∀ j, j < z → first ≤ Q' j ∧ Q' j < n ∧ mI N 33 j = nI (Q' j)) → (∀ a b, a < z → b < z → Q' a = Q' b → a = b) → (∀ j, F ≤ j → j < z → ∃ y j', h (Q' j) = some y ∧ j' < j ∧ mI N 34 y = nI (Q' j') ∧ cnf fm (Q' j') y = true ∧ E.testBit y = true ∧ S.testBit y = false) → (∀ p, p < P → E.testBit p = true → S.testBit p = false → ∃ k j, g p = some k ∧ F ≤ j ∧ j < z ∧ Q' j = k) → (∀ j p, j < i → p < P → cnf fm (Q' j) p = true → E.testBit p = true) → (∀ p, S.testBit p = true → E.testBit p = true) → H_X5_seatOneMore_50 l q (nI E) (nI z) (nI i) N := by
    intro F Q hfree hall m
    have stop : ∀ i (E z : Nat) (N : o_M) (Q' : Nat → Nat), z ≤ i → i ≤ z → (∀ j, j < F → Q' j = Q j) → F ≤ z → Sm M N → (∀ a j, a ≠ 33 → a ≠ 34 → mI N a j = mI M a j) → (∀ j, j < z → first ≤ Q' j ∧ Q' j < n ∧ mI N 33 j = nI (Q' j)) → (∀ a b, a < z → b < z → Q' a = Q' b → a = b) → (∀ j, F ≤ j → j < z → ∃ y j', h (Q' j) = some y ∧ j' < j ∧ mI N 34 y = nI (Q' j') ∧ cnf fm (Q' j') y = true ∧ E.testBit y = true ∧ S.testBit y = false) → (∀ p, p < P → E.testBit p = true → S.testBit p = false → ∃ k j, g p = some k ∧ F ≤ j ∧ j < z ∧ Q' j = k) → (∀ j p, j < i → p < P → cnf fm (Q' j) p = true → E.testBit p = true) → q 0 N := by
      intro i E z N Q' hzi hiz hQF hFz hN hI hQ hQi hfull hseen hcl
      refine h0 N hN (hSRk N hN hI) (no_more hM hfn (fun j hj => ⟨(hQ j hj).1, (hQ j hj).2.1⟩) hQi hFz (fun j hj => by rw [hQF j hj]; exact hfree j hj) (fun j h1 h2 => by obtain ⟨y, j', a, b, c, d, e, f⟩ := hfull j h1 h2; exact ⟨y, a, e, f⟩) (fun k h1 h2 h3 => by obtain ⟨j, a, b⟩ := hall k h1 h2 h3; exact ⟨j, a, by rw [hQF j a]; exact b⟩) hseen (fun j p hj hp hc => hcl j p (by omega) hp hc))
    induction m with
    | zero =>
      intro i hi E z N Q' hiz hQF hFz hE hN hI hQ hQi hfull hseen hcl hSE
      have hzn : z ≤ n := by
        have a1 := pig z (fun j hj => (hQ j hj).2.1) hQi
        have a2 := cn_le (fun c => (List.range z).any fun j => Q' j == c) n
        omega
      exact w_X5_seatOneMore_50 l q _ _ _ N ⟨fun _ => stop i E z N Q' (by omega) hiz hQF hFz hN hI hQ hQi hfull hseen hcl, fun y => absurd (nI_le (by omega) (by omega)) y⟩
    | succ m ih =>
      intro i hi E z N Q' hiz hQF hFz hE hN hI hQ hQi hfull hseen hcl hSE
      have hX' := Sm_wX hN hX
      have hzn : z ≤ n := by
        have a1 := pig z (fun j hj => (hQ j hj).2.1) hQi
        have a2 := cn_le (fun c => (List.range z).any fun j => Q' j == c) n
        omega
      refine w_X5_seatOneMore_50 l q _ _ _ N ⟨fun y => ?_, fun y => ?_⟩
      · rw [nI_leI (by omega) (by omega)] at y
        exact stop i E z N Q' y hiz hQF hFz hN hI hQ hQi hfull hseen hcl
      · rw [nI_leI (by omega) (by omega)] at y
        have hiz' : i < z := by omega
        obtain ⟨q1, q2, q3⟩ := hQ i hiz'
        obtain ⟨f1, f2⟩ := hfm _ q2
        have hO := andn_lt (a := fm (Q' i)) (b := E) f1
        have hOt := fun y => andn_t (fm (Q' i)) E y f1
        rw [nI_clamp (by omega), q3, nI_clamp (by omega), hI 30 _ (by decide) (by decide), s3 _ q2, nI_andn f1, nI_or, xn33 hX', xn30 hX']
        generalize fm (Q' i) &&& (E ^^^ 1023) = O at *
        have hE' : E ||| O < 1024 := Nat.or_lt_two_pow (n := 10) hE hO
        have hEt : ∀ y, (E ||| O).testBit y = (E.testBit y || O.testBit y) := fun y => Nat.testBit_or _ _ _
        refine ⟨xr29_0 hX', xr29_3 hX', vin (by omega) (by decide), vin (by omega) (by decide), ?_⟩
        refine inner F Q i hfree hall (fun E z N Q' => ih (i + 1) (by omega) E z N Q') 10 0 (E ||| O) O z N Q' (by omega) hiz' hQF hFz hE' hO hN hI hQ hQi (fun j h1 h2 => ?_) (fun p hp h1 h2 h3 => ?_) (fun j p hj hp hc => ?_) (fun p hp => by rw [hEt, hSE p hp]; rfl) (fun p hp => ?_)
        · obtain ⟨y, j', a, b, c, d, e, f⟩ := hfull j h1 h2
          refine ⟨y, j', a, b, c, d, by rw [hEt, e]; rfl, f, fun w => ?_⟩
          have := w.1
          rw [hOt, e] at this; simp at this
        · have hOp : O.testBit p = false := by
            cases hc : O.testBit p with
            | false => rfl
            | true => exact absurd ⟨hc, Nat.zero_le _⟩ h3
          rw [hEt, hOp, Bool.or_false] at h1
          exact hseen p hp h1 h2
        · rw [hEt]
          by_cases hji : j = i
          · subst hji
            rw [hOt]
            have hc : (fm (Q' j)).testBit p = true := hc
            rw [hc]
            cases E.testBit p <;> rfl
          · rw [hcl j p (by omega) hp hc]; rfl
        · have hp' := hp
          rw [hOt, Bool.and_eq_true, Bool.not_eq_true'] at hp'
          refine ⟨hp'.1, ?_, by rw [hEt, hp, Bool.or_true]⟩
          cases hc : S.testBit p with
          | false => rfl
          | true => rw [hSE p hc] at hp'; exact absurd hp'.2 (by decide)
  -- the free chairs
  have frees : ∀ m c, c + m = n → first ≤ c → ∀ (z : Nat) (N : o_M) (Q : Nat → Nat), z ≤ c → Sm M N → (∀ a j, a ≠ 33 → a ≠ 34 → mI N a j = mI M a j) → (∀ j, j < z → first ≤ Q j ∧ Q j < c ∧ mI N 33 j = nI (Q j) ∧ h (Q j) = none) → (∀ a b, a < z → b < z → Q a = Q b → a = b) → (∀ k, first ≤ k → k < c → h k = none → ∃ j, j < z ∧ Q j = k) → H_X5_seatOneMore_10 l q (nI S) (nI z) (nI c) N := by
    intro m
    induction m with
    | zero =>
      intro c hc hfc z N Q hz hN hI hQ hQi hall
      have : c = n := by omega
      subst this
      refine w_X5_seatOneMore_10 l q _ _ _ N ⟨fun _ => ?_, fun y => absurd (by rw [hI 29 5 (by decide) (by decide), s1]; exact nI_le (Nat.le_refl _) (by omega)) y⟩
      exact outer z Q (fun j hj => (hQ j hj).2.2.2) hall 12 0 (by omega) S z N Q (by omega) (fun _ _ => rfl) (Nat.le_refl _) hS hN hI (fun j hj => ⟨(hQ j hj).1, (hQ j hj).2.1, (hQ j hj).2.2.1⟩) hQi (fun j h1 h2 => by omega) (fun p _ h1 h2 => by rw [h1] at h2; cases h2) (fun j p hj => by omega) (fun p hp => hp)
    | succ m ih =>
      intro c hc hfc z N Q hz hN hI hQ hQi hall
      have hX' := Sm_wX hN hX
      refine w_X5_seatOneMore_10 l q _ _ _ N ⟨fun y => ?_, fun _ => ?_⟩
      · rw [hI 29 5 (by decide) (by decide), s1, nI_leI (by omega) (by omega)] at y; omega
      rw [nI_clamp (by omega), hI 31 c (by decide) (by decide), s4 c (by omega), xn31 hX', n1]
      refine ⟨xr29_1 hX', vin (by omega) (by decide), fun y => ?_, fun y => ?_⟩
      · have hne : ¬ h c = none := fun e => y (by rw [e]; rfl)
        refine ih (c + 1) (by omega) (by omega) z N Q (by omega) hN hI (fun j hj => ?_) hQi (fun k h1 h2 h3 => ?_)
        · obtain ⟨a, b, d, e⟩ := hQ j hj; exact ⟨a, by omega, d, e⟩
        · by_cases hkc : k = c
          · subst hkc; exact absurd h3 hne
          · exact hall k h1 (by omega) h3
      · have hcn : h c = none := (oI_n1 (fun p hp => hhb c p hp)).mp y
        rw [xn33 hX', nI_clamp (by omega), n1]
        refine ⟨xr29_3 hX', vin (by omega) (by decide), ih (c + 1) (by omega) (by omega) (z + 1) _ (fun j => if j = z then c else Q j) (by omega) (Sm_t hN (Sm_sI _ rfl _)) (fun a j ha hb => by simp (disch := omega) only [true_and, mI_sI_1, mI_sI_2, mI_sI_3, mI_nW_1, mI_nW_2, mI_sR, mI_sJ, mI_sA_1, mI_sA_2, mR_sI, mR_sJ, mR_sA, mR_sR_1, mR_sR_2, mR_sR_3, mR_nW_1, mR_nW_2, mN_sI, mN_sJ, mN_sR, mN_sA, mN_nW_1, mN_nW_2, mJ_sI, mJ_sR, mJ_sA, mJ_sJ_1, mJ_sJ_2, mJ_sJ_3, mJ_nW_1, mJ_nW_2]; exact hI a j ha hb) (fun j hj => ?_) (fun a b ha hb hab => ?_) (fun k h1 h2 h3 => ?_)⟩
        · by_cases hjz : j = z
          · subst hjz; simp (disch := omega) only [true_and, mI_sI_1, mI_sI_2, mI_sI_3, mI_nW_1, mI_nW_2, mI_sR, mI_sJ, mI_sA_1, mI_sA_2, mR_sI, mR_sJ, mR_sA, mR_sR_1, mR_sR_2, mR_sR_3, mR_nW_1, mR_nW_2, mN_sI, mN_sJ, mN_sR, mN_sA, mN_nW_1, mN_nW_2, mJ_sI, mJ_sR, mJ_sA, mJ_sJ_1, mJ_sJ_2, mJ_sJ_3, mJ_nW_1, mJ_nW_2, if_true]; exact ⟨hfc, by omega, hcn⟩
          · rw [if_neg hjz]; simp (disch := omega) only [true_and, mI_sI_1, mI_sI_2, mI_sI_3, mI_nW_1, mI_nW_2, mI_sR, mI_sJ, mI_sA_1, mI_sA_2, mR_sI, mR_sJ, mR_sA, mR_sR_1, mR_sR_2, mR_sR_3, mR_nW_1, mR_nW_2, mN_sI, mN_sJ, mN_sR, mN_sA, mN_nW_1, mN_nW_2, mJ_sI, mJ_sR, mJ_sA, mJ_sJ_1, mJ_sJ_2, mJ_sJ_3, mJ_nW_1, mJ_nW_2]
            obtain ⟨a, b, d, e⟩ := hQ j (by omega); exact ⟨a, by omega, d, e⟩
        · by_cases haz : a = z
          · by_cases hbz : b = z
            · omega
            · rw [if_pos haz, if_neg hbz] at hab
              have := (hQ b (by omega)).2.1; omega
          · by_cases hbz : b = z
            · rw [if_neg haz, if_pos hbz] at hab
              have := (hQ a (by omega)).2.1; omega
            · rw [if_neg haz, if_neg hbz] at hab
              exact hQi a b (by omega) (by omega) hab
        · by_cases hkc : k = c
          · exact ⟨z, by omega, by rw [if_pos rfl]; exact hkc.symm⟩
          · obtain ⟨j, a, b⟩ := hall k h1 (by omega) h3
            exact ⟨j, by omega, by rw [if_neg (by omega)]; exact b⟩
  refine w_X5_seatOneMore l _ M q ?_
  rw [s2]
  exact frees (n - first) first (by omega) (Nat.le_refl _) 0 M (fun _ => 0) (by omega) (Sm_r M) (fun _ _ _ _ => rfl) (fun j hj => by omega) (fun a b ha => by omega) (fun k h1 h2 => by omega)
end S62
