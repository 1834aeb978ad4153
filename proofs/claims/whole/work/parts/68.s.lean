/-! gaps, chair, seat -/
section S68
variable {l : Launch} {M : o_M} {nw np ns nt T : Nat}
theorem P_gaps (r : Rel M nw np ns nt T) (hT : T < 2 ^ 30) (a : Int32) : K_X11_gaps l [rV (some 16), iV a] M (fun r1 M1 => K_X12_gaps l [rV (some 60), iV a] M1 (fun r2 M2 => r1 = r2 ∧ Nx T M2)) := by
  have hs : Nx T M := Nx_s r
  have hns := r.2.2.1.2.2.1.1
  have hnp := r.2.2.1.2.1.1
  refine w_X11_gaps l a M _ (c11_findService r a _ (fun z => ⟨fun _ => ?_, fun b3 e => (by cases e)⟩) (fun s hs' e => ⟨fun e => (by cases e), fun b3 e => ?_⟩))
  · exact w_X12_gaps l a M _ (k12_isService r a _ ⟨fun _ => ⟨rfl, hs⟩, fun y => absurd (b2_0.mpr z) y⟩)
  · subst a
    obtain rfl := Option.some.inj e
    have hrs : ¬ b2 (rng (nI s) 0 (nI ns - 1)) = 0 := by rw [rng_ix1 (by omega) hs']; decide
    obtain ⟨n', hn', en'⟩ := chairs_of r hs'
    have h18 := cs_le (mI M) s 6
    have hnn : n' = cs (mI M) s 6 := nI_inj (by omega) (by omega) (en'.symm.trans (chairs_cs _ _))
    refine ⟨ty47 s, c11_findSeating r hT hs' _ (fun N h g S hN hSR hM hfd hsz => ⟨xo8 (Sm_wX hN r.2.1), c5_countGaps (Sm_wX hN r.2.1) hnp (by omega) hM hSR _ ?_⟩)⟩
    have rN := Rel_Sm hN r
    refine w_X12_gaps l _ N _ (k12_isService rN _ _ ⟨fun y => absurd y hrs, fun _ => c12_seats rN hs' _ (fun N2 hN2 _ => ⟨?_, Nx_Sm (Sm_t hN hN2) r⟩)⟩)
    rw [fr_fm hN, fr_cs hN, hsz]
theorem P_chair (r : Rel M nw np ns nt T) (hT : T < 2 ^ 30) (a b d : Int32) : K_X11_chair l [rV (some 16), iV a, iV b, iV d] M (fun r1 M1 => K_X12_chair l [rV (some 60), iV a, iV b, iV d] M1 (fun r2 M2 => r1 = r2 ∧ Nx T M2)) := by
  have hs : Nx T M := Nx_s r
  have hns := r.2.2.1.2.2.1.1
  have hnp := r.2.2.1.2.1.1
  refine w_X11_chair l a b d M _ (c11_findService r a _ (fun z => ⟨fun _ => ?_, fun b3 e => (by cases e)⟩) (fun s hs' e => ⟨fun e => (by cases e), fun b3 e => ?_⟩))
  · exact w_X12_chair l a b d M _ (k12_isService r a _ ⟨fun _ => ⟨rfl, hs⟩, fun y => absurd (b2_0.mpr z) y⟩)
  · subst a
    obtain rfl := Option.some.inj e
    have hrs : ¬ b2 (rng (nI s) 0 (nI ns - 1)) = 0 := by rw [rng_ix1 (by omega) hs']; decide
    have hsc : (nI s).toNatClampNeg = s := nI_clamp (by omega)
    have v40 : vp_in (nI s) 40 := vin (by omega) (by decide)
    obtain ⟨⟨_, _, _, g6, _, _, l6⟩, _, _, ⟨_, chc, m12, hm12, em, e11, q7, _⟩⟩ := r.2.2.2.2.2.2.1.1 s hs'
    have h18 := cs_le (mI M) s 6
    have hmc : m12 = cs (mI M) s 6 := nI_inj (by omega) (by omega) (em.symm.trans (chairs_cs _ _))
    subst hmc
    refine ⟨ty47 s, c11_isWithin _ _ _ _ ?_⟩
    rw [chc, em]
    refine ⟨fun z => ⟨fun z2 => c11_findSeating r hT hs' _ (fun N h g S hN hSR hM hfd hsz => ?_), fun z2 => ⟨fun z3 => ?_, fun z3 => ?_⟩⟩, fun z => ?_⟩
    · obtain ⟨c, hc, rfl⟩ := rng_ix (by omega) (b2_n0.mp z)
      have rN := Rel_Sm hN r
      rw [xn31 rN.2.1, nI_clamp (by omega), hSR.2.2.2.1 c (by omega), hfd c hc]
      refine ⟨xo8 rN.2.1, xr29_1 rN.2.1, vin (by omega) (by decide), ?_⟩
      refine w_X12_chair l _ _ _ N _ (k12_isService rN _ _ ⟨fun y => absurd y hrs, fun _ => c12_chairs rN.1 (by omega) (okS_of rN hs') none (fun _ e => by cases e) _ (c12_in _ _ _ _ ?_)⟩)
      rw [chairs_cs, fr_cs hN]
      refine ⟨fun _ => ⟨fun _ => c12_seats rN hs' _ (fun N2 hN2 hfd2 => ?_), fun y => absurd z2 y⟩, fun y => absurd y z⟩
      have wN2 := Sm_wM (Sm_t hN hN2) r.1
      rw [fr_fm hN, fr_cs hN] at hfd2
      rw [fr_fm hN, fr_cs hN, wn53 wN2, nI_clamp (by omega), hfd2 c hc]
      refine ⟨fun _ => ⟨wr53 wN2, vin (by omega) (by decide), rfl, Nx_Sm (Sm_t hN hN2) r⟩, fun y => ?_⟩
      (simp (disch := omega) only [ile, ilt, ieq, nI_toInt, Int32.reduceToInt] at y; omega)
    · obtain ⟨c, hc, rfl⟩ := rng_ix (by omega) (b2_n0.mp z)
      refine w_X12_chair l _ _ _ M _ (k12_isService r _ _ ⟨fun y => absurd y hrs, fun _ => c12_chairs r.1 (by omega) (okS_of r hs') none (fun _ e => by cases e) _ (c12_in _ _ _ _ ?_)⟩)
      rw [chairs_cs, hsc, wn22 r.1]
      exact ⟨fun _ => ⟨fun y => absurd y z2, fun _ => ⟨wr22 r.1, v40, fun _ => ⟨rfl, hs⟩, fun y => absurd (e11.symm.trans z3) y⟩⟩, fun y => absurd y z⟩
    · obtain ⟨c, hc, rfl⟩ := rng_ix (by omega) (b2_n0.mp z)
      rw [show 47 + 128 * s + 3 = 50 + 128 * s by omega, l6, nI_clamp (by omega)]
      refine ⟨g6, vin (by omega) (by decide), ?_⟩
      rw [e11] at z3
      have hix : (12 : Int32) * nI s + nI c = nI (12 * s + c) := ixm 12 s c rfl
      refine w_X12_chair l _ _ _ M _ (k12_isService r _ _ ⟨fun y => absurd y hrs, fun _ => c12_chairs r.1 (by omega) (okS_of r hs') none (fun _ e => by cases e) _ (c12_in _ _ _ _ ?_)⟩)
      rw [chairs_cs, hsc, wn22 r.1, hix, wn21 r.1, nI_clamp (by omega)]
      refine ⟨fun _ => ⟨fun y => absurd y z2, fun _ => ⟨wr22 r.1, v40, fun y => absurd y z3, fun _ => ⟨wr21 r.1, vin (by omega) (by decide), ?_, hs⟩⟩⟩, fun y => absurd y z⟩
      rcases q7 with q7 | ⟨_, g1, _, _⟩
      · exact absurd q7 z3
      · rw [nI_clamp (by omega)]; exact g1 c hc
    · refine w_X12_chair l _ _ _ M _ (k12_isService r _ _ ⟨fun y => absurd y hrs, fun _ => c12_chairs r.1 (by omega) (okS_of r hs') none (fun _ e => by cases e) _ (c12_in _ _ _ _ ?_)⟩)
      rw [chairs_cs]
      exact ⟨fun y => absurd z y, fun _ => ⟨rfl, hs⟩⟩
/-- bits of those that sit -/
def sb (h : Nat → Option Nat) (n : Nat) : Nat := lp (fun c B => match h c with | none => B | some p => B ||| 2 ^ p) 0 n
theorem sb_t {h : Nat → Option Nat} : ∀ n p, (sb h n).testBit p = true ↔ ∃ c, c < n ∧ h c = some p
  | 0, p => by simp [sb, lp]
  | n + 1, p => by
    have ih := sb_t (h := h) n p
    have e : sb h (n + 1) = match h n with | none => sb h n | some x => sb h n ||| 2 ^ x := rfl
    rw [e]
    cases hn : h n with
    | none =>
      simp only
      rw [ih]
      constructor
      · rintro ⟨c, h1, h2⟩; exact ⟨c, by omega, h2⟩
      · rintro ⟨c, h1, h2⟩
        refine ⟨c, ?_, h2⟩
        have : c ≠ n := fun e => by rw [e, hn] at h2; cases h2
        omega
    | some x =>
      simp only
      rw [Nat.testBit_or, Nat.testBit_two_pow, Bool.or_eq_true, ih, decide_eq_true_eq]
      constructor
      · rintro (⟨c, h1, h2⟩ | h1)
        · exact ⟨c, by omega, h2⟩
        · exact ⟨n, by omega, by rw [hn, h1]⟩
      · rintro ⟨c, h1, h2⟩
        by_cases hc : c = n
        · right; rw [hc, hn] at h2; exact Option.some.inj h2
        · left; exact ⟨c, by omega, h2⟩
theorem sb_lt {h : Nat → Option Nat} (hb : ∀ c p, h c = some p → p < 10) (n : Nat) : sb h n < 1024 := by
  apply Nat.lt_pow_two_of_testBit (n := 10)
  intro p hp
  cases hc : (sb h n).testBit p with
  | false => rfl
  | true =>
    obtain ⟨c, _, h2⟩ := (sb_t n p).mp hc
    have := hb c p h2; omega
theorem gaps_cn {v : o_v} {s : Nat} {h : Nat → Option Nat} (hb : ∀ c p, h c = some p → p < 10) : ∀ n, (∀ c, c < n → v 82 (12 * s + c) = oI (h c)) → f_gapsIn v s n = nI (n - cn (fun k => (h k).isSome) n)
  | 0 => fun _ => rfl
  | n + 1 => fun hv => by
    have ih := gaps_cn hb n (fun c hc => hv c (by omega))
    have hle := cn_le (fun k => (h k).isSome) n
    unfold f_gapsIn at *
    simp only [lp, cn]
    rw [ih]
    unfold f_gpS
    rw [hv n (by omega)]
    cases hn : h n with
    | none =>
      rw [if_pos (show oI none = -1 from rfl), n1]
      congr 1
      simp; omega
    | some p =>
      rw [if_neg (show ¬ oI (some p) = -1 from nI_ne1 (by have := hb n p hn; omega))]
      congr 1
      simp
theorem P_seat (r : Rel M nw np ns nt T) (hT : T < 2 ^ 30) (a : Int32) : K_X11_seat l [rV (some 16), iV a] M (fun r1 M1 => K_X12_seat l [rV (some 60), iV a] M1 (fun r2 M2 => r1 = r2 ∧ Nx T M2)) := by
  have hs : Nx T M := Nx_s r
  have hns := r.2.2.1.2.2.1.1
  have hnp := r.2.2.1.2.1.1
  have hnw := r.2.2.1.1.1
  refine w_X11_seat l a M _ (c11_findService r a _ (fun z => ⟨fun _ => ?_, fun b3 e => (by cases e)⟩) (fun s hs' e => ⟨fun e => (by cases e), fun b3 e => ?_⟩))
  · exact w_X12_seat l a M _ (k12_isService r a _ ⟨fun y => absurd (b2_0.mpr z) y, fun _ => ⟨rfl, hs⟩⟩)
  · subst a
    obtain rfl := Option.some.inj e
    have hrs : ¬ b2 (rng (nI s) 0 (nI ns - 1)) = 0 := by rw [rng_ix1 (by omega) hs']; decide
    have hsc : (nI s).toNatClampNeg = s := nI_clamp (by omega)
    have v40 : vp_in (nI s) 40 := vin (by omega) (by decide)
    refine ⟨ty47 s, c11_findSeating r hT hs' _ (fun N h g S hN hSR hM hfd hsz => ?_)⟩
    have rN := Rel_Sm hN r
    have hX := rN.2.1
    have hfm := fr_fm hN
    have hcsN := fr_cs hN s 6
    obtain ⟨r1, r2, r3, r4, r5, r6, r7, r8, r9, r10, r11⟩ := rN
    obtain ⟨sv1, sv2', sv3, ⟨nds, chc, m12, hm12, em, e11, q7, q8⟩⟩ := r7.1 s hs'
    have h18 := cs_le (mI M) s 6
    have hmc : m12 = cs (mI M) s 6 := nI_inj (by omega) (by omega) (em.symm.trans (by rw [chairs_cs, hcsN]))
    subst hmc
    generalize hn : cs (mI M) s 6 = n at *
    generalize hcn : cnf (fmC (mI M) ns nt np s) = can at *
    have hhb : ∀ c p, h c = some p → p < 10 := fun c p e => by have := (hM.2 c p e).2.1; omega
    have hh31 := hSR.2.2.2.1
    refine ⟨xo8 hX, xr29_1 hX, xo8 hX, c5_countGaps hX hnp (by omega) hM hSR _ ?_⟩
    generalize hG : n - sz h 0 n = G at *
    -- the class writes
    have sit : ∀ m c, c + m = n → ∀ N1, (∀ a j, a ≠ 50 + 128 * s → ¬ (a = 47 + 128 * s ∧ j = 10) → mI N1 a j = mI N a j) → (∀ k, k < c → mI N1 (50 + 128 * s) k = oI (h k)) → mI N1 (47 + 128 * s) 10 = nI (sb h c) → mJ N1 = mJ N → mR N1 = mR N → mN N1 = mN N → mL N1 = mL N → H_X6_sitDown_7 l (fun M12 => K_X12_seat l [rV (some 60), iV (nI s)] M12 (fun r2 M2 => mI M12 (47 + 128 * s) 9 = r2 ∧ Nx T M2)) (47 + 128 * s) (nI G) (nI c) N1 := by
      intro m
      induction m with
      | zero =>
        intro c hc N1 hI h50 h10 hJ hR hNN hL
        have : c = n := by omega
        subst this
        refine w_X6_sitDown_7 l _ _ (ty47 s) _ _ N1 ⟨fun _ => ?_, fun y => absurd (by rw [hI _ 8 (by omega) (by omega), chc, em]; exact nI_le (Nat.le_refl _) (by omega)) y⟩
        generalize hN2 : sI (sI N1 (47 + 128 * s) 9 (nI G)) (47 + 128 * s) 11 1 = N2
        have hI2 : ∀ a j, a ≠ 50 + 128 * s → ¬ (a = 47 + 128 * s ∧ (j = 9 ∨ j = 10 ∨ j = 11)) → mI N2 a j = mI N a j := fun a j h1 h2 => by
          rw [← hN2, mI_sI, if_neg (by omega), mI_sI, if_neg (by omega)]
          exact hI a j h1 (by omega)
        have hrow : ∀ a, a ≠ 50 + 128 * s → a ≠ 47 + 128 * s → mI N2 a = mI N a := fun a h1 h2 => funext fun j => hI2 a j h1 (by omega)
        have h50' : ∀ k, k < c → mI N2 (50 + 128 * s) k = oI (h k) := fun k hk => by rw [← hN2]; simp (disch := omega) only [true_and, mI_sI_1, mI_sI_2, mI_sI_3, mI_nW_1, mI_nW_2, mI_sR, mI_sJ, mI_sA_1, mI_sA_2, mR_sI, mR_sJ, mR_sA, mR_sR_1, mR_sR_2, mR_sR_3, mR_nW_1, mR_nW_2, mN_sI, mN_sJ, mN_sR, mN_sA, mN_nW_1, mN_nW_2, mJ_sI, mJ_sR, mJ_sA, mJ_sJ_1, mJ_sJ_2, mJ_sJ_3, mJ_nW_1, mJ_nW_2]; exact h50 k hk
        have h10' : mI N2 (47 + 128 * s) 10 = nI (sb h c) := by rw [← hN2]; simp (disch := omega) only [true_and, mI_sI_1, mI_sI_2, mI_sI_3, mI_nW_1, mI_nW_2, mI_sR, mI_sJ, mI_sA_1, mI_sA_2, mR_sI, mR_sJ, mR_sA, mR_sR_1, mR_sR_2, mR_sR_3, mR_nW_1, mR_nW_2, mN_sI, mN_sJ, mN_sR, mN_sA, mN_nW_1, mN_nW_2, mJ_sI, mJ_sR, mJ_sA, mJ_sJ_1, mJ_sJ_2, mJ_sJ_3, mJ_nW_1, mJ_nW_2]; exact h10
        have h9' : mI N2 (47 + 128 * s) 9 = nI G := by rw [← hN2]; simp (disch := omega) only [true_and, mI_sI_1, mI_sI_2, mI_sI_3, mI_nW_1, mI_nW_2, mI_sR, mI_sJ, mI_sA_1, mI_sA_2, mR_sI, mR_sJ, mR_sA, mR_sR_1, mR_sR_2, mR_sR_3, mR_nW_1, mR_nW_2, mN_sI, mN_sJ, mN_sR, mN_sA, mN_nW_1, mN_nW_2, mJ_sI, mJ_sR, mJ_sA, mJ_sJ_1, mJ_sJ_2, mJ_sJ_3, mJ_nW_1, mJ_nW_2]
        have h11' : mI N2 (47 + 128 * s) 11 = 1 := by rw [← hN2]; simp (disch := omega) only [true_and, mI_sI_1, mI_sI_2, mI_sI_3, mI_nW_1, mI_nW_2, mI_sR, mI_sJ, mI_sA_1, mI_sA_2, mR_sI, mR_sJ, mR_sA, mR_sR_1, mR_sR_2, mR_sR_3, mR_nW_1, mR_nW_2, mN_sI, mN_sJ, mN_sR, mN_sA, mN_nW_1, mN_nW_2, mJ_sI, mJ_sR, mJ_sA, mJ_sJ_1, mJ_sJ_2, mJ_sJ_3, mJ_nW_1, mJ_nW_2]
        have hJ2 : mJ N2 = mJ N := by rw [← hN2]; exact hJ
        have hR2 : mR N2 = mR N := by rw [← hN2]; exact hR
        have hNN2 : mN N2 = mN N := by rw [← hN2]; exact hNN
        have hL2 : mL N2 = mL N := by rw [← hN2]; exact hL
        rw [h9']
        have hFr : ∀ {F : Nat → Prop}, ¬ F (47 + 128 * s) → ¬ F (50 + 128 * s) → Fr F N N2 := fun f1 f2 id hi => ⟨hrow id (fun e => f2 (by rw [← e]; exact hi)) (fun e => f1 (by rw [← e]; exact hi)), by rw [hJ2], by rw [hR2], by rw [hNN2]⟩
        have e64 := hrow 64 (by omega) (by omega)
        have e76 := hrow 76 (by omega) (by omega)
        have e80 := hrow 80 (by omega) (by omega)
        have e81 := hrow 81 (by omega) (by omega)
        have e82 := hrow 82 (by omega) (by omega)
        have e83 := hrow 83 (by omega) (by omega)
        have hneed := f_need_e e64 e81 e76 e80
        have hchs := f_chairs_e hneed
        have w1 : wM N2 := by unfold wM; rw [hR2, hNN2]; exact r1
        have w2 : wX N2 := by unfold wX; rw [hR2, hNN2]; exact r2
        have relW : RelW N2 nw np ns nt T := by
          refine ⟨w1, w2, ?_, ?_, RW_fr (hFr (by unfold FW; omega) (by unfold FW; omega)) r5, RP_fr (hFr (by unfold FP; omega) (by unfold FP; omega)) r6, ⟨fun s' hs2 => ?_, trivial⟩, RT_fr (hFr (by unfold FT; omega) (by unfold FT; omega)) r8, RY_fr (hFr (by unfold FY; omega) (by unfold FY; omega)) r9, ?_, ?_⟩
          · unfold RC; rw [hrow 16 (by omega) (by omega), hrow 60 (by omega) (by omega)]; exact r3
          · unfold RLv; rw [hL2]; exact r4
          · obtain ⟨t1, t2, t3, t4⟩ := r7.1 s' hs2
            refine ⟨?_, ?_, ?_, ?_⟩
            · unfold SV1 at *; rw [hR2, hNN2]; exact t1
            · unfold SV2 at *
              rw [hI2 (47 + 128 * s') 0 (by omega) (by omega), hI2 (47 + 128 * s') 1 (by omega) (by omega), hI2 (47 + 128 * s') 2 (by omega) (by omega), hI2 (47 + 128 * s') 3 (by omega) (by omega), e76, hrow 77 (by omega) (by omega), hrow 78 (by omega) (by omega), hrow 79 (by omega) (by omega)]
              exact t2
            · unfold SV3 at *
              rw [hI2 (47 + 128 * s') 7 (by omega) (by omega), e80, e81, hrow (48 + 128 * s') (by omega) (by omega)]
              exact t3
            · obtain ⟨_, _, m, hm, em', _⟩ := t4
              exact ⟨m, hm, by rw [hchs]; exact em'⟩
          · exact RZ_k (hI2 16 15 (by omega) (by omega)) (hI2 60 24 (by omega) (by omega)) (fun j => hI2 22 j (by omega) (by omega)) (fun j => hI2 84 j (by omega) (by omega)) r10
          · exact RD_k (fun j => hI2 102 j (by omega) (by omega)) r11
        have hcv : cv N2 = cv N := by
          funext id j
          unfold cv
          by_cases hc : (decide (60 ≤ id) && decide (id ≤ 118)) = true
          · rw [if_pos hc, if_pos hc]
            simp only [Bool.and_eq_true, decide_eq_true_eq] at hc
            rw [hrow id (by omega) (by omega)]
          · rw [if_neg hc, if_neg hc]
        have hfm2 : fmC (mI N2) = fmC (mI N) := by
          funext a b d e f
          unfold fmC fit
          rw [← cp_hinders, ← cp_hinders, ← cp_inst, ← cp_inst, hcv]
        have hcs2 : cs (mI N2) s 6 = c := by rw [← cp_cs, hcv, cp_cs, hcsN]
        refine w_X12_seat l _ N2 _ (c12_isService _ _ ?_)
        rw [hI2 60 14 (by omega) (by omega), r3.2.2.1.2.2]
        refine ⟨fun _ => wc12_seats relW hs' _ (fun N3 hN3 hfd3 => ?_), fun y => absurd y hrs⟩
        rw [hfm2, hfm, hcs2, hcn] at hfd3 ⊢
        rw [show c - fl can np c 0 0 = G by rw [← hsz]; exact hG]
        have hR3 : mR N3 = mR N2 := hN3.2.2.1
        have hfin : ∀ m k, k + m = 12 → ∀ N4, Wr N3 N4 82 (12 * s) k (fun k => if k < c then oI (h k) else -1) → H_X12_seat_19 l (fun r2 M2 => nI G = r2 ∧ Nx T M2) (nI s) (nI G) (nI k) N4 := by
          intro m
          induction m with
          | zero =>
            intro k hk N4 hN4
            have hk12 : k = 12 := by omega
            subst hk12
            have w4 : wM N4 := by unfold wM; rw [hN4.2.2.1, hN4.2.2.2.1]; exact Sm_wM hN3 w1
            refine w_X12_seat_19 l _ _ _ _ N4 ⟨fun _ => ?_, fun y => absurd (by decide) y⟩
            rw [hsc, wn22 w4, show vp_nar .boolean 1 = (1 : Int32) from by decide]
            refine ⟨wr22 w4, v40, rfl, Nx_s (nw := nw) (np := np) (ns := ns) (nt := nt) ?_⟩
            have hF5 : ∀ {F : Nat → Prop}, (∀ id, F id → (∀ j, scr id j = false) ∧ ¬ (id = 27 ∨ id = 28 ∨ id = 111)) → ¬ F (47 + 128 * s) → ¬ F (50 + 128 * s) → ¬ F 82 → ¬ F 83 → Fr F N (sI N4 83 s 1) := fun f0 f1 f2 f3 f4 => Fr_sI (Fr_t (Fr_t (hFr f1 f2) (Fr_Sm hN3 f0)) (Wr_fr hN4 f3)) f4 _ _
            generalize hN5 : sI N4 83 s 1 = N5 at *
            have hI5 : ∀ a j, a ≠ 82 → a ≠ 83 → scr a j = false → mI N5 a j = mI N2 a j := fun a j h1 h2 h3 => by
              rw [← hN5, mI_sI, if_neg (by omega), Wr_o hN4 h1, Sm_i hN3 h3]
            have hrow5 : ∀ a, a ≠ 82 → a ≠ 83 → (∀ j, scr a j = false) → mI N5 a = mI N2 a := fun a h1 h2 h3 => funext fun j => hI5 a j h1 h2 (h3 j)
            have hR5 : mR N5 = mR N := by rw [← hN5]; exact (hN4.2.2.1.trans hN3.2.2.1).trans hR2
            have hNN5 : mN N5 = mN N := by rw [← hN5]; exact (hN4.2.2.2.1.trans hN3.2.2.2.1).trans hNN2
            have hL5 : mL N5 = mL N := by rw [← hN5]; exact (hN4.2.2.2.2.trans hN3.2.2.2.2).trans hL2
            have h82 : ∀ k, mI N5 82 k = if 12 * s ≤ k ∧ k < 12 * s + 12 then (if k - 12 * s < c then oI (h (k - 12 * s)) else -1) else mI N 82 k := fun k => by
              rw [← hN5, mI_sI, if_neg (by omega), hN4.1]
              by_cases hk : 12 * s ≤ k ∧ k < 12 * s + 12
              · rw [if_pos ⟨rfl, hk⟩, if_pos hk]
              · rw [if_neg (fun z => hk z.2), if_neg hk, Sm_i hN3 rfl, e82]
            have h83 : ∀ k, mI N5 83 k = if k = s then 1 else mI N 83 k := fun k => by
              rw [← hN5, mI_sI]
              by_cases hk : k = s
              · rw [if_pos ⟨rfl, hk⟩, if_pos hk]
              · rw [if_neg (fun z => hk z.2), if_neg hk, Wr_o hN4 (by decide), Sm_i hN3 rfl, e83]
            have q64 : mI N5 64 = mI N 64 := (hrow5 64 (by omega) (by omega) (fun _ => rfl)).trans e64
            have q76 : mI N5 76 = mI N 76 := (hrow5 76 (by omega) (by omega) (fun _ => rfl)).trans e76
            have q80 : mI N5 80 = mI N 80 := (hrow5 80 (by omega) (by omega) (fun _ => rfl)).trans e80
            have q81 : mI N5 81 = mI N 81 := (hrow5 81 (by omega) (by omega) (fun _ => rfl)).trans e81
            have hrow5' : ∀ a, a ≠ 82 → a ≠ 83 → (∀ j, scr a j = false) → a ≠ 47 + 128 * s → a ≠ 50 + 128 * s → mI N5 a = mI N a := fun a h1 h2 h3 h4 h5 => (hrow5 a h1 h2 h3).trans (hrow a h5 h4)
            refine ⟨by unfold wM; rw [hR5, hNN5]; exact r1, by unfold wX; rw [hR5, hNN5]; exact r2, ?_, by unfold RLv; rw [hL5]; exact r4, RW_fr (hF5 (fun x hx => scr_F (Or.inl hx)) (by unfold FW; omega) (by unfold FW; omega) (by unfold FW; omega) (by unfold FW; omega)) r5, RP_fr (hF5 (fun x hx => scr_F (Or.inr (Or.inl hx))) (by unfold FP; omega) (by unfold FP; omega) (by unfold FP; omega) (by unfold FP; omega)) r6, ⟨fun s' hs2 => ?_, fun s' g1 g2 => ?_⟩, RT_fr (hF5 (fun x hx => scr_F (Or.inr (Or.inr (Or.inr (Or.inl hx))))) (by unfold FT; omega) (by unfold FT; omega) (by unfold FT; omega) (by unfold FT; omega)) r8, RY_fr (hF5 (fun x hx => scr_F (Or.inr (Or.inr (Or.inr (Or.inr (Or.inl hx)))))) (by unfold FY; omega) (by unfold FY; omega) (by unfold FY; omega) (by unfold FY; omega)) r9, ?_, ?_⟩
            · have e60 : ∀ j, scr 60 j = false → mI N5 60 j = mI N 60 j := fun j hj => (hI5 60 j (by omega) (by omega) hj).trans (hI2 60 j (by omega) (by omega))
              unfold RC
              rw [hrow5' 16 (by omega) (by omega) (fun _ => rfl) (by omega) (by omega), e60 0 rfl, e60 7 rfl, e60 14 rfl, e60 25 rfl, e60 34 rfl, e60 39 rfl]
              exact r3
            · by_cases hss : s' = s
              · subst hss
                have hsn5 := f_need_e q64 q81 q76 q80
                have hsc5 := f_chairs_e hsn5
                have h47 : ∀ j, j ≠ 9 → j ≠ 10 → j ≠ 11 → mI N5 (47 + 128 * s') j = mI N (47 + 128 * s') j := fun j h1 h2 h3 => (hI5 _ j (by omega) (by omega) (scr_o (by omega) (by omega))).trans (hI2 _ j (by omega) (by omega))
                have h47b : ∀ j, mI N5 (47 + 128 * s') j = mI N2 (47 + 128 * s') j := fun j => hI5 _ j (by omega) (by omega) (scr_o (by omega) (by omega))
                have q82 : ∀ k, k < 12 → mI N5 82 (12 * s' + k) = if k < c then oI (h k) else -1 := fun k hk => by
                  rw [h82, if_pos (by omega), show 12 * s' + k - 12 * s' = k by omega]
                have q83 : mI N5 83 s' = 1 := by rw [h83, if_pos rfl]
                refine ⟨by unfold SV1 at *; rw [hR5, hNN5]; exact sv1, ?_, ?_, ⟨fun i hi => ?_, ?_, c, hm12, ?_, ?_, Or.inr ⟨q83, fun k hk => ?_, fun k g1 g2 => ?_, ?_⟩, fun p hp => ?_⟩⟩
                · unfold SV2 at *
                  rw [h47 0 (by omega) (by omega) (by omega), h47 1 (by omega) (by omega) (by omega), h47 2 (by omega) (by omega) (by omega), h47 3 (by omega) (by omega) (by omega), q76, hrow5' 77 (by omega) (by omega) (fun _ => rfl) (by omega) (by omega), hrow5' 78 (by omega) (by omega) (fun _ => rfl) (by omega) (by omega), hrow5' 79 (by omega) (by omega) (fun _ => rfl) (by omega) (by omega)]
                  exact sv2'
                · unfold SV3 at *
                  rw [h47 7 (by omega) (by omega) (by omega), q80, q81, hrow5' (48 + 128 * s') (by omega) (by omega) (fun _ => scr_o (by omega) (by omega)) (by omega) (by omega)]
                  exact sv3
                · rw [hsn5, hrow5' (49 + 128 * s') (by omega) (by omega) (fun _ => scr_o (by omega) (by omega)) (by omega) (by omega)]; exact nds i hi
                · rw [hsc5, h47 8 (by omega) (by omega) (by omega)]; exact chc
                · rw [hsc5]; exact em
                · rw [q83, h47b]; exact h11'
                · rw [q82 k (by omega), if_pos hk, hI5 (50 + 128 * s') k (by omega) (by omega) (scr_o (by omega) (by omega))]; exact h50' k hk
                · rw [q82 k g2, if_neg (by omega)]
                · rw [h47b, h9', gaps_cn hhb c (fun k hk => by rw [q82 k (by omega), if_pos hk])]
                  rw [← hG]
                  unfold sz
                  rw [cf_0]
                · rw [h47b, h10']
                  have hsbl := sb_lt hhb c
                  have hb := bit_iff (a := sb h c) (i := p) (by omega) (by omega)
                  apply Bool.eq_iff_iff.mpr
                  rw [beq_iff_eq, hb, sb_t]
                  unfold f_chairOf
                  rw [q83, if_neg (by decide)]
                  rcases chairN_spec (mI N5) s' (nI p) 12 0 with ⟨c1, c2⟩ | ⟨k, _, c2, c3, c4, _⟩
                  · rw [c1]
                    constructor
                    · rintro ⟨k, hk, hkp⟩
                      have := c2 k (Nat.zero_le _) (by omega)
                      rw [q82 k (by omega), if_pos hk, hkp] at this
                      exact absurd rfl this
                    · intro y; exact absurd y (by decide)
                  · rw [c3]
                    constructor
                    · intro _
                      have : (nI k == -1) = false := by rw [beq_eq_false_iff_ne]; exact nI_ne1 (by omega)
                      rw [this]; rfl
                    · intro _
                      rw [q82 k (by omega)] at c4
                      by_cases hkc : k < c
                      · rw [if_pos hkc] at c4
                        refine ⟨k, hkc, ?_⟩
                        cases hh : h k with
                        | none => rw [hh] at c4; exact absurd c4.symm (nI_ne1 (by omega))
                        | some x =>
                          rw [hh] at c4
                          have hx10 := hhb k x hh
                          rw [nI_inj (by omega) (by omega) c4]
                      · rw [if_neg hkc] at c4; exact absurd c4.symm (nI_ne1 (by omega))
              · refine SV_s hnw (Nat.le_refl _) (by rw [hR5]) (fun t h1 h2 => ⟨fun j => ?_, fun j => by rw [hR5], by rw [hNN5]⟩) (by rw [q76]) (by rw [hrow5' 77 (by omega) (by omega) (fun _ => rfl) (by omega) (by omega)]) (by rw [hrow5' 78 (by omega) (by omega) (fun _ => rfl) (by omega) (by omega)]) (by rw [hrow5' 79 (by omega) (by omega) (fun _ => rfl) (by omega) (by omega)]) (by rw [q80]) (by rw [h83, if_neg hss]) (fun k _ => by rw [q81]) (fun k hk => by rw [h82, if_neg (by omega)]) (fun i _ => by rw [q64]) (r7.1 s' hs2)
                rw [hrow5' (t + 128 * s') (by omega) (by omega) (fun _ => scr_o (by omega) (by omega)) (by omega) (by omega)]
            · rw [q80, h83, if_neg (by omega)]; exact r7.2 s' g1 g2
            · exact RZ_k (by rw [hrow5' 16 (by omega) (by omega) (fun _ => rfl) (by omega) (by omega)]) ((hI5 60 24 (by omega) (by omega) rfl).trans (hI2 60 24 (by omega) (by omega))) (fun j => by rw [hrow5' 22 (by omega) (by omega) (fun _ => rfl) (by omega) (by omega)]) (fun j => by rw [hrow5' 84 (by omega) (by omega) (fun _ => rfl) (by omega) (by omega)]) r10
            · exact RD_k (fun j => by rw [hrow5' 102 (by omega) (by omega) (fun _ => rfl) (by omega) (by omega)]) r11
          | succ m ihm =>
            intro k hk N4 hN4
            have w4 : wM N4 := by unfold wM; rw [hN4.2.2.1, hN4.2.2.2.1]; exact Sm_wM hN3 w1
            have rr : ∀ a, a ≠ 82 → (∀ j, scr a j = false) → mI N4 a = mI N2 a := fun a h1 h2 => funext fun j => by rw [Wr_o hN4 h1, Sm_i hN3 (h2 j)]
            have ok4 : okS N4 s := by
              unfold okS
              rw [rr 80 (by omega) (fun _ => rfl), rr 81 (by omega) (fun _ => rfl)]
              exact wokS_of relW hs'
            have hch4 : f_chairs (mI N4) s none = nI c := by
              rw [f_chairs_e (f_need_e (rr 64 (by omega) (fun _ => rfl)) (rr 81 (by omega) (fun _ => rfl)) (rr 76 (by omega) (fun _ => rfl)) (rr 80 (by omega) (fun _ => rfl))), chairs_cs, hcs2]
            have hix : (12 : Int32) * nI s + nI k = nI (12 * s + k) := ixm 12 s k rfl
            refine w_X12_seat_19 l _ _ _ _ N4 ⟨fun y => ?_, fun _ => ⟨wr21 w4, c12_chairs w4 (by omega) ok4 none (fun _ e => by cases e) _ ?_⟩⟩
            · (simp (disch := omega) only [ile, ilt, ieq, nI_toInt, Int32.reduceToInt] at y; omega)
            rw [hch4, hix, wn21 w4, nI_clamp (by omega), nI_clamp (by omega), n1, wn53 w4]
            refine ⟨fun y => ⟨vin (by omega) (by decide), ?_⟩, fun y => ⟨wr53 w4, vin (by omega) (by decide), vin (by omega) (by decide), ?_⟩⟩
            · rw [nI_leI (by omega) (by omega)] at y
              have := ihm (k + 1) (by omega) _ (Wr_s hN4)
              rw [if_neg (by omega)] at this
              exact this
            · rw [nI_leI (by omega) (by omega)] at y
              have := ihm (k + 1) (by omega) _ (Wr_s hN4)
              rw [if_pos (by omega)] at this
              have e114 : mI N4 114 k = oI (h k) := by rw [Wr_o hN4 (by decide), hfd3 k (by omega), hfd k (by omega)]
              rw [e114]; exact this
        exact hfin 12 0 (by omega) N3 (Wr_0 _ _ _ _)
      | succ m ih =>
        intro c hc N1 hI h50 h10 hJ hR hNN hL
        obtain ⟨_, _, _, g6, _, _, l6⟩ := sv1
        refine w_X6_sitDown_7 l _ _ (ty47 s) _ _ N1 ⟨fun y => ?_, fun _ => ?_⟩
        · rw [hI _ 8 (by omega) (by omega), chc, em, nI_leI (by omega) (by omega)] at y; omega
        have e31 : mI N1 31 c = oI (h c) := by rw [hI 31 c (by omega) (by omega)]; exact hh31 c (by omega)
        rw [show 47 + 128 * s + 3 = 50 + 128 * s by omega, nI_clamp (by omega), e31, n1]
        simp (disch := omega) only [true_and, mI_sI_1, mI_sI_2, mI_sI_3, mI_nW_1, mI_nW_2, mI_sR, mI_sJ, mI_sA_1, mI_sA_2, mR_sI, mR_sJ, mR_sA, mR_sR_1, mR_sR_2, mR_sR_3, mR_nW_1, mR_nW_2, mN_sI, mN_sJ, mN_sR, mN_sA, mN_nW_1, mN_nW_2, mJ_sI, mJ_sR, mJ_sA, mJ_sJ_1, mJ_sJ_2, mJ_sJ_3, mJ_nW_1, mJ_nW_2, hR, hNN, xn31 hX, l6, g6, e31, h10]
        have hsb : sb h (c + 1) = match h c with | none => sb h c | some p => sb h c ||| 2 ^ p := rfl
        refine ⟨vin (by omega) (by decide), vin (by omega) (by decide), vin (by omega) (by decide), fun y => ?_, fun y => ⟨vin (by omega) (by decide), ?_⟩⟩
        · have hc0 : h c = none := (oI_n1 (fun p hp => by have := hhb c p hp; omega)).mp y
          refine ih (c + 1) (by omega) _ (fun a j h1 h2 => by simp (disch := omega) only [true_and, mI_sI_1, mI_sI_2, mI_sI_3, mI_nW_1, mI_nW_2, mI_sR, mI_sJ, mI_sA_1, mI_sA_2, mR_sI, mR_sJ, mR_sA, mR_sR_1, mR_sR_2, mR_sR_3, mR_nW_1, mR_nW_2, mN_sI, mN_sJ, mN_sR, mN_sA, mN_nW_1, mN_nW_2, mJ_sI, mJ_sR, mJ_sA, mJ_sJ_1, mJ_sJ_2, mJ_sJ_3, mJ_nW_1, mJ_nW_2]; exact hI a j h1 h2) (fun k hk => ?_) ?_ hJ hR hNN hL
          · by_cases hkc : k = c
            · subst hkc; simp (disch := omega) only [true_and, mI_sI_1, mI_sI_2, mI_sI_3, mI_nW_1, mI_nW_2, mI_sR, mI_sJ, mI_sA_1, mI_sA_2, mR_sI, mR_sJ, mR_sA, mR_sR_1, mR_sR_2, mR_sR_3, mR_nW_1, mR_nW_2, mN_sI, mN_sJ, mN_sR, mN_sA, mN_nW_1, mN_nW_2, mJ_sI, mJ_sR, mJ_sA, mJ_sJ_1, mJ_sJ_2, mJ_sJ_3, mJ_nW_1, mJ_nW_2]
            · simp (disch := omega) only [true_and, mI_sI_1, mI_sI_2, mI_sI_3, mI_nW_1, mI_nW_2, mI_sR, mI_sJ, mI_sA_1, mI_sA_2, mR_sI, mR_sJ, mR_sA, mR_sR_1, mR_sR_2, mR_sR_3, mR_nW_1, mR_nW_2, mN_sI, mN_sJ, mN_sR, mN_sA, mN_nW_1, mN_nW_2, mJ_sI, mJ_sR, mJ_sA, mJ_sJ_1, mJ_sJ_2, mJ_sJ_3, mJ_nW_1, mJ_nW_2]; exact h50 k (by omega)
          · simp (disch := omega) only [true_and, mI_sI_1, mI_sI_2, mI_sI_3, mI_nW_1, mI_nW_2, mI_sR, mI_sJ, mI_sA_1, mI_sA_2, mR_sI, mR_sJ, mR_sA, mR_sR_1, mR_sR_2, mR_sR_3, mR_nW_1, mR_nW_2, mN_sI, mN_sJ, mN_sR, mN_sA, mN_nW_1, mN_nW_2, mJ_sI, mJ_sR, mJ_sA, mJ_sJ_1, mJ_sJ_2, mJ_sJ_3, mJ_nW_1, mJ_nW_2]; rw [h10, hsb, hc0]
        · have hcs : ∃ p, h c = some p := by
            cases hcc : h c with
            | none => rw [hcc] at y; exact absurd rfl y
            | some p => exact ⟨p, rfl⟩
          obtain ⟨p, hp⟩ := hcs
          have hp10 := hhb c p hp
          rw [hp]
          have hoI : oI (some p) = nI p := rfl
          rw [hoI, bitp p (by omega), nI_or]
          refine ih (c + 1) (by omega) _ (fun a j h1 h2 => ?_) (fun k hk => ?_) ?_ hJ hR hNN hL
          · rw [mI_sI, if_neg (by omega)]; simp (disch := omega) only [true_and, mI_sI_1, mI_sI_2, mI_sI_3, mI_nW_1, mI_nW_2, mI_sR, mI_sJ, mI_sA_1, mI_sA_2, mR_sI, mR_sJ, mR_sA, mR_sR_1, mR_sR_2, mR_sR_3, mR_nW_1, mR_nW_2, mN_sI, mN_sJ, mN_sR, mN_sA, mN_nW_1, mN_nW_2, mJ_sI, mJ_sR, mJ_sA, mJ_sJ_1, mJ_sJ_2, mJ_sJ_3, mJ_nW_1, mJ_nW_2]; exact hI a j h1 h2
          · by_cases hkc : k = c
            · subst hkc; simp (disch := omega) only [true_and, mI_sI_1, mI_sI_2, mI_sI_3, mI_nW_1, mI_nW_2, mI_sR, mI_sJ, mI_sA_1, mI_sA_2, mR_sI, mR_sJ, mR_sA, mR_sR_1, mR_sR_2, mR_sR_3, mR_nW_1, mR_nW_2, mN_sI, mN_sJ, mN_sR, mN_sA, mN_nW_1, mN_nW_2, mJ_sI, mJ_sR, mJ_sA, mJ_sJ_1, mJ_sJ_2, mJ_sJ_3, mJ_nW_1, mJ_nW_2]; rw [hp]; rfl
            · simp (disch := omega) only [true_and, mI_sI_1, mI_sI_2, mI_sI_3, mI_nW_1, mI_nW_2, mI_sR, mI_sJ, mI_sA_1, mI_sA_2, mR_sI, mR_sJ, mR_sA, mR_sR_1, mR_sR_2, mR_sR_3, mR_nW_1, mR_nW_2, mN_sI, mN_sJ, mN_sR, mN_sA, mN_nW_1, mN_nW_2, mJ_sI, mJ_sR, mJ_sA, mJ_sJ_1, mJ_sJ_2, mJ_sJ_3, mJ_nW_1, mJ_nW_2]; exact h50 k (by omega)
          · simp (disch := omega) only [true_and, mI_sI_1, mI_sI_2, mI_sI_3, mI_nW_1, mI_nW_2, mI_sR, mI_sJ, mI_sA_1, mI_sA_2, mR_sI, mR_sJ, mR_sA, mR_sR_1, mR_sR_2, mR_sR_3, mR_nW_1, mR_nW_2, mN_sI, mN_sJ, mN_sR, mN_sA, mN_nW_1, mN_nW_2, mJ_sI, mJ_sR, mJ_sA, mJ_sJ_1, mJ_sJ_2, mJ_sJ_3, mJ_nW_1, mJ_nW_2]; rw [hsb, hp]
    have := sit n 0 (by omega) (sI N (47 + 128 * s) 10 0) (fun a j h1 h2 => by rw [mI_sI, if_neg h2]) (fun k hk => by omega) (by simp (disch := omega) only [true_and, mI_sI_1, mI_sI_2, mI_sI_3, mI_nW_1, mI_nW_2, mI_sR, mI_sJ, mI_sA_1, mI_sA_2, mR_sI, mR_sJ, mR_sA, mR_sR_1, mR_sR_2, mR_sR_3, mR_nW_1, mR_nW_2, mN_sI, mN_sJ, mN_sR, mN_sA, mN_nW_1, mN_nW_2, mJ_sI, mJ_sR, mJ_sA, mJ_sJ_1, mJ_sJ_2, mJ_sJ_3, mJ_nW_1, mJ_nW_2]; rfl) rfl rfl rfl rfl
    exact w_X6_sitDown l _ _ (ty47 s) N _ this
end S68
