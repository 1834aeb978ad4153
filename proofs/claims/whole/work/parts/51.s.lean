/-! may, worth -/
section S51
variable {l : Launch} {M : o_M} {nw np ns nt T : Nat}
theorem and1 (y : Int32) : y &&& 1 = 0 ∨ y &&& 1 = 1 := by
  have h : (y &&& 1).toBitVec.toNat ≤ 1 := by
    show (y.toBitVec &&& 1#32).toNat ≤ 1
    rw [BitVec.toNat_and]; exact Nat.and_le_right
  have h2 : (y &&& 1).toBitVec.toNat = 0 ∨ (y &&& 1).toBitVec.toNat = 1 := by omega
  rcases h2 with h2 | h2
  · left; apply Int32.toBitVec_inj.mp; apply BitVec.eq_of_toNat_eq; rw [h2]; rfl
  · right; apply Int32.toBitVec_inj.mp; apply BitVec.eq_of_toNat_eq; rw [h2]; rfl
theorem c6_meets (r : Rel M nw np ns nt T) {a b : Nat} (ha : a < ns) (hb : b < ns) (q : Int32 → o_M → Prop) (h0 : f_ends (mI M) a ≤ f_begins (mI M) b ∨ f_ends (mI M) b ≤ f_begins (mI M) a → q 0 M) (h1 : ¬ f_ends (mI M) a ≤ f_begins (mI M) b → ¬ f_ends (mI M) b ≤ f_begins (mI M) a → q 1 M) : K_X6_meets l [rV (some (47 + 128 * a)), rV (some (47 + 128 * b))] M q :=
  w_X6_meets l _ _ (ty47 a) (ty47 b) M q (k6_ends r ha _ (k6_begins r hb _ ⟨fun z => h0 (Or.inl z), fun z => k6_ends r hb _ (k6_begins r ha _ ⟨fun z2 => h0 (Or.inr z2), fun z2 => h1 z z2⟩)⟩))
theorem c11_sitsInMeeting (r : Rel M nw np ns nt T) {s p : Nat} (hs : s < ns) (hp : p < np) (q : Int32 → o_M → Prop) (h : q (b2 ((List.range ns).any (f_meet (mI M) s (nI p)))) M) : K_X11_sitsInMeeting l [rV (some 16), rV (some (47 + 128 * s)), iV (nI p)] M q := by
  have ⟨r1, r2, r3, r4, r5, r6, r7, r8, r9, r10, r11⟩ := r
  obtain ⟨hn, e16, e60⟩ := r3.2.2.1
  have hnp := r3.2.1.1
  have key : ∀ m k : Nat, k + m = ns → (List.range k).any (f_meet (mI M) s (nI p)) = false → H_X11_sitsInMeeting_2 l q (47 + 128 * s) (nI p) (nI k) M := by
    intro m
    induction m with
    | zero =>
      intro k hk hno
      have : k = ns := by omega
      subst this
      rw [hno] at h
      exact w_X11_sitsInMeeting_2 l q _ (ty47 s) _ _ M ⟨fun _ => h, fun z => absurd (by rw [e16]; exact nI_le (Nat.le_refl _) (by omega)) z⟩
    | succ m ih =>
      intro k hk hno
      have hk' : k < ns := by omega
      have hcont : f_meet (mI M) s (nI p) k = false → H_X11_sitsInMeeting_2 l q (47 + 128 * s) (nI p) (nI (k + 1)) M := fun hf => ih (k + 1) (by omega) (by rw [any_s, hno, hf]; rfl)
      refine w_X11_sitsInMeeting_2 l q _ (ty47 s) _ _ M ⟨fun z => ?_, fun _ => ?_⟩
      · rw [e16, nI_leI (by omega) (by omega)] at z; omega
      rw [xn19 r2, nI_clamp (by omega), svR r hk', n1]
      refine ⟨xr16_2 r2, vin (by omega) (by decide), _, rfl, ty47 k, fun z => ?_, fun z => c11_sits r hk' (by omega) _ (fun z2 => ⟨fun _ => ?_, fun y => absurd rfl y⟩) (fun z2 => ⟨fun y => absurd y (by decide), fun _ => c6_meets r hk' hs _ (fun z3 => ⟨fun _ => ?_, fun y => absurd rfl y⟩) (fun z3 z4 => ⟨fun y => absurd y (by decide), fun _ => ?_⟩)⟩)⟩
      · have : k = s := by omega
        exact hcont (by unfold f_meet; simp [this])
      · exact hcont (by unfold f_meet; simp [z2])
      · rcases z3 with z3 | z3
        · exact hcont (by unfold f_meet; simp [z3])
        · exact hcont (by unfold f_meet; simp [z3])
      · have hks : ¬ k = s := fun y => z (by rw [y])
        have : f_meet (mI M) s (nI p) k = true := by unfold f_meet; simp [hks, z2, z3, z4]
        rw [any_m hk' this] at h
        exact h
  exact w_X11_sitsInMeeting l _ _ (ty47 s) M q (key ns 0 (by omega) rfl)
theorem c11_findHindrance (r : Rel M nw np ns nt T) (hT : T < 2 ^ 30) {s p : Nat} (hs : s < ns) (hp : p < np) (i : Int32) (q : Int32 → o_M → Prop) (h : ∀ N, Sk M N → q (f_hinders (mI M) ns nt s p i) N) : K_X11_findHindrance l [rV (some 16), rV (some (47 + 128 * s)), iV (nI p), iV i] M q := by
  have ⟨r1, r2, r3, r4, r5, r6, r7, r8, r9, r10, r11⟩ := r
  have hnp := r3.2.1.1
  have hM := h M (Sk_r M)
  unfold f_hinders at h hM
  obtain ⟨t, ht, et⟩ := textOn_lt r (mI M 77 s)
  have hnt := r3.2.2.2.1.2.1
  have ett : f_txt (mI M) nt s = t := by unfold f_txt; rw [et]; exact nI_clamp (by omega)
  obtain ⟨b, cl, e, hb8, _, _, hbc, hb, _⟩ := (r8 t ht).2.2.2.2.2.1
  rw [ett, hb, nI_clamp (by omega)] at h hM
  obtain ⟨s0, s1, s2, s3⟩ := sv2 r hs
  obtain ⟨pR, _, _, _, _, p0, p1, p2, _⟩ := r6.1 p hp
  have hc1 : (!(mI M 69 p == i) && ((mI M 70 p >>> (i &&& 31)) &&& 1) == 0) = !(i == mI M (44 + 128 * p) 0 || ((mI M (44 + 128 * p) 1 >>> (i &&& 31)) &&& 1) == 1) := by
    rw [p0, p1]
    have hsy : (mI M 69 p == i) = (i == mI M 69 p) := by rw [Bool.eq_iff_iff, beq_iff_eq, beq_iff_eq]; exact eq_comm
    rw [hsy, Bool.not_or]
    congr 1
    rcases and1 (mI M 70 p >>> (i &&& 31)) with h | h <;> rw [h] <;> decide
  rw [hc1] at h hM
  refine w_X11_findHindrance l _ _ _ (ty47 s) M q ?_
  rw [xn18 r2, nI_clamp (by omega), pR]
  refine ⟨xr16_1 r2, vin (by omega) (by decide), _, rfl, ty44 p, c2_plays (ty44 p) _ _ ⟨fun z => ?_, fun z => ?_⟩⟩
  · rw [b2_n0.mp z] at h hM
    simp only [Bool.not_true, Bool.false_eq_true, if_false] at h hM
    rw [s1]
    refine k2_hasLeave r hp _ _ ⟨fun z2 => ?_, fun z2 => ?_⟩
    · rw [b2_0.mp z2] at h hM
      simp only [Bool.false_eq_true, if_false] at h hM
      refine c11_sitsInMeeting r hs hp _ ⟨fun z3 => ?_, fun z3 => ?_⟩
      · rw [b2_0.mp z3] at h hM
        simp only [Bool.false_eq_true, if_false] at h hM
        rw [s1]
        refine ⟨xr16_3 r2, c11_findInForce r hT _ _ ?_⟩
        rw [et, xn20 r2, nI_clamp (by omega), txR r ht]
        refine ⟨vin (by omega) (by decide), _, rfl, ty51 t, c11_learn r hs hp i _ (fun N hN hL => ?_)⟩
        have barL : ∀ m k : Nat, k + m = b → ∀ N, Sk M N → (∀ k, k < 10 → mJ N 27 k = (f_named (mI M) ns (nI k) s p i).toInt64) → (∀ N', Sk M N' → q (f_bar (mI M) ns t s p i m k) N') → H_X11_findHindrance_69 l q (51 + 128 * t) (nI k) N := by
          intro m
          induction m with
          | zero =>
            intro k hk N hN hL hq
            refine w_X11_findHindrance_69 l q _ _ (ty51 t) N ?_
            rw [Sm_i hN.1 (scr_o (by omega) (by omega)), hbc]
            exact ⟨fun _ => hq N hN, fun z => absurd (nI_le (by omega) (by omega)) z⟩
          | succ m ih =>
            intro k hk N hN hL hq
            have rN := Rel_Sm hN.1 r
            refine w_X11_findHindrance_69 l q _ _ (ty51 t) N ?_
            rw [Sm_i hN.1 (scr_o (by omega) (by omega)), hbc, n1]
            refine ⟨fun z => ?_, fun _ => ⟨xo7 rN.2.1, c4_reckon rN (j := k) (s := s) (p := p) (i := i) ht (by rw [Sm_i hN.1 (id := 91) (j := t) rfl, hb]) hb8 (by omega) (fun a ha => by rw [fr_named hN.1]; exact hL a ha) _ (fun N' hN' h27 => ?_)⟩⟩
            · rw [nI_leI (by omega) (by omega)] at z; omega
            rw [fr_worth hN.1]
            unfold f_bar at hq
            refine ⟨fun z => ?_, fun z => ?_⟩
            · rw [if_pos z] at hq; exact ih (k + 1) (by omega) N' (Sk_t hN hN') (fun a ha => by rw [h27]; exact hL a ha) hq
            · rw [if_neg z] at hq; exact hq N' (Sk_t hN hN')
        exact barL b 0 (by omega) N hN hL h
      · rw [b2_n0.mp z3] at hM; exact hM
    · rw [b2_n0.mp z2] at hM; exact hM
  · rw [b2_0.mp z] at hM; exact hM
theorem P_may (r : Rel M nw np ns nt T) (hT : T < 2 ^ 30) (a b c : Int32) : K_X11_may l [rV (some 16), iV a, iV b, iV c] M (fun r1 M1 => K_X12_may l [rV (some 60), iV a, iV b, iV c] M1 (fun r2 M2 => r1 = r2 ∧ Nx T M2)) := by
  have hs : Nx T M := Nx_s r
  have hns := r.2.2.1.2.2.1.1
  have hnp := r.2.2.1.2.1.1
  refine w_X11_may l a b c M _ (c11_findService r a _ (fun z => ⟨fun _ => ?_, fun b3 e => (by cases e)⟩) (fun s hs' e => ⟨fun e => (by cases e), fun b3 e => ?_⟩))
  · exact w_X12_may l a b c M _ (k12_isService r a _ ⟨fun _ => ⟨rfl, hs⟩, fun y => absurd (b2_0.mpr z) y⟩)
  · subst a
    obtain rfl := Option.some.inj e
    have hrs : ¬ b2 (rng (nI s) 0 (nI ns - 1)) = 0 := by rw [rng_ix1 (by omega) hs']; decide
    refine ⟨ty47 s, c11_findPlayer r b _ (fun z => ⟨fun _ => ?_, fun b3 e => (by cases e)⟩) (fun p hp e => ⟨fun e => (by cases e), fun b3 e => ?_⟩)⟩
    · exact w_X12_may l _ b c M _ (k12_isService r _ _ ⟨fun y => absurd y hrs, fun _ => k12_isPlayer r _ _ ⟨fun _ => ⟨rfl, hs⟩, fun y => absurd (b2_0.mpr z) y⟩⟩)
    · subst b
      obtain rfl := Option.some.inj e
      have hrp : ¬ b2 (rng (nI p) 0 (nI np - 1)) = 0 := by rw [rng_ix1 (by omega) hp]; decide
      refine ⟨ty44 p, c11_isInstrument c _ ⟨fun z => c11_findHindrance r hT hs' hp c _ (fun N hN => ?_), fun z => ?_⟩⟩
      · have hN := hN.1
        have rN := Rel_Sm hN r
        refine w_X12_may l _ _ c N _ (k12_isService rN _ _ ⟨fun y => absurd y hrs, fun _ => k12_isPlayer rN _ _ ⟨fun y => absurd y hrp, fun _ => c12_isInstrument c _ ⟨fun y => absurd y z, fun _ => c12_hinders rN hs' hp c _ (fun N' hN' => ?_)⟩⟩⟩)
        rw [fr_hinders hN]
        exact ⟨rfl, Nx_Sm (Sm_t hN hN'.1) r⟩
      · exact w_X12_may l _ _ c M _ (k12_isService r _ _ ⟨fun y => absurd y hrs, fun _ => k12_isPlayer r _ _ ⟨fun y => absurd y hrp, fun _ => c12_isInstrument c _ ⟨fun y => ⟨rfl, hs⟩, fun y => absurd z y⟩⟩⟩)
theorem P_worth (r : Rel M nw np ns nt T) (hT : T < 2 ^ 30) (a b c d : Int32) : K_X11_worth l [rV (some 16), iV a, iV b, iV c, iV d] M (fun r1 M1 => K_X12_worth l [rV (some 60), iV a, iV b, iV c, iV d] M1 (fun r2 M2 => r1 = r2 ∧ Nx T M2)) := by
  have hs : Nx T M := Nx_s r
  have ⟨r1, r2, r3, r4, r5, r6, r7, r8, r9, r10, r11⟩ := r
  have hns := r3.2.2.1.1
  have hnp := r3.2.1.1
  have hnt := r3.2.2.2.1.2.1
  refine w_X11_worth l a b c d M _ (c11_findService r a _ (fun z => ⟨fun _ => ?_, fun b3 e => (by cases e)⟩) (fun s hs' e => ⟨fun e => (by cases e), fun b3 e => ?_⟩))
  · exact w_X12_worth l a b c d M _ (k12_isService r a _ ⟨fun _ => ⟨rfl, hs⟩, fun y => absurd (b2_0.mpr z) y⟩)
  · subst a
    obtain rfl := Option.some.inj e
    have hrs : ¬ b2 (rng (nI s) 0 (nI ns - 1)) = 0 := by rw [rng_ix1 (by omega) hs']; decide
    refine ⟨ty47 s, c11_findPlayer r b _ (fun z => ⟨fun _ => ?_, fun b3 e => (by cases e)⟩) (fun p hp e => ⟨fun e => (by cases e), fun b3 e => ?_⟩)⟩
    · exact w_X12_worth l _ b c d M _ (k12_isService r _ _ ⟨fun y => absurd y hrs, fun _ => k12_isPlayer r _ _ ⟨fun _ => ⟨rfl, hs⟩, fun y => absurd (b2_0.mpr z) y⟩⟩)
    · subst b
      obtain rfl := Option.some.inj e
      have hrp : ¬ b2 (rng (nI p) 0 (nI np - 1)) = 0 := by rw [rng_ix1 (by omega) hp]; decide
      have hcs : (nI s).toNatClampNeg = s := nI_clamp (by omega)
      obtain ⟨s0, s1, s2, s3⟩ := sv2 r hs'
      obtain ⟨t, ht, et⟩ := textOn_lt r (mI M 77 s)
      have htc : (nI t).toNatClampNeg = t := nI_clamp (by omega)
      obtain ⟨k, cl, e, hb8, _, _, hbc, hb, _⟩ := (r8 t ht).2.2.2.2.2.1
      have v40 : vp_in (nI s) 40 := vin (by omega) (by decide)
      have v11 : vp_in (nI t) 11 := vin (by omega) (by decide)
      have ek1 : nI k + 1 = nI (k + 1) := n1 k
      have ek2 : 1 + nI k = nI (k + 1) := by rw [← ek1]; exact Int32.add_comm _ _
      refine ⟨ty44 p, c11_isInstrument c _ ⟨fun z => ?_, fun z => ?_⟩⟩
      · rw [s1]
        refine ⟨xr16_3 r2, c11_findInForce r hT _ _ ?_⟩
        rw [et, xn20 r2, htc, txR r ht]
        refine ⟨vin (by omega) (by decide), _, rfl, ty51 t, c11_isWithin _ _ _ _ ?_⟩
        rw [hbc, ek1]
        refine ⟨fun z2 => c11_learn r hs' hp c _ (fun N hN hL => ?_), fun z2 => ?_⟩
        · have hN := hN.1
          obtain ⟨j, _, hj, rfl⟩ := rng_nat 0 (k + 1) (by decide) (nI_toInt (by omega)) (b2_n0.mp z2)
          have rN := Rel_Sm hN r
          have e91 : mI N 91 t = nI k := by rw [Sm_i hN (id := 91) (j := t) rfl, hb]
          have hbcN : mI N (51 + 128 * t) 3 = nI k := by rw [Sm_i hN (scr_o (by omega) (by omega)), hbc]
          have hLN : ∀ a, a < 10 → mJ N 27 a = (f_named (mI N) ns (nI a) s p c).toInt64 := fun a ha => by rw [fr_named hN]; exact hL a ha
          refine ⟨xo7 rN.2.1, fun z3 => ?_, fun z3 => ?_⟩
          · have hj2 : 2 ≤ j := by (simp (disch := omega) only [ile, ilt, ieq, nI_toInt, Int32.reduceToInt] at z3; omega)
            have ej : nI j - 2 = nI (j - 2) := pk_sub (a := j) (b := 2) hj2
            rw [ej]
            refine c4_reckon rN ht e91 hb8 (by omega) hLN _ (fun N' hN' _ => ?_)
            have hN2 := Sm_t hN hN'.1
            have rN' := Rel_Sm hN2 r
            refine w_X12_worth l _ _ c _ N' _ (k12_isService rN' _ _ ⟨fun y => absurd y hrs, fun _ => k12_isPlayer rN' _ _ ⟨fun y => absurd y hrp, fun _ => c12_isInstrument c _ ⟨fun _ => ?_, fun y => absurd y z⟩⟩⟩)
            rw [hcs, wn16 rN'.1, Sm_i hN2 (id := 77) (j := s) rfl]
            refine ⟨wr16 rN'.1, v40, k12_textOn rN' _ _ ?_⟩
            have et' : f_textOn (mI N') (mI M 77 s) nt = nI t := by rw [← p_textOn, hN2.1, p_textOn]; exact et
            rw [et', htc, wn30 rN'.1]
            refine ⟨wr30 rN'.1, v11, c12_in _ _ _ _ ?_⟩
            rw [Sm_i hN2 (id := 91) (j := t) rfl, hb, ek2]
            refine ⟨fun _ => ⟨fun _ => ?_, fun y => absurd z3 y⟩, fun y => absurd y z2⟩
            rw [ej]
            refine c12_worthOf rN' ht (by rw [Sm_i hN2 (id := 91) (j := t) rfl, hb]) hb8 (by omega) hs' hp c _ (fun N3 hN3 => ⟨?_, Nx_Sm (Sm_t hN2 hN3.1) r⟩)
            rw [fr_worth hN, fr_worth hN2]
          · have hj2 : j < 2 := by (simp (disch := omega) only [ile, ilt, ieq, nI_toInt, Int32.reduceToInt] at z3; omega)
            rw [hbcN, nI_add]
            refine c4_reckon rN ht e91 hb8 (by omega) hLN _ (fun N' hN' _ => ?_)
            have hN2 := Sm_t hN hN'.1
            have rN' := Rel_Sm hN2 r
            refine w_X12_worth l _ _ c _ N' _ (k12_isService rN' _ _ ⟨fun y => absurd y hrs, fun _ => k12_isPlayer rN' _ _ ⟨fun y => absurd y hrp, fun _ => c12_isInstrument c _ ⟨fun _ => ?_, fun y => absurd y z⟩⟩⟩)
            rw [hcs, wn16 rN'.1, Sm_i hN2 (id := 77) (j := s) rfl]
            refine ⟨wr16 rN'.1, v40, k12_textOn rN' _ _ ?_⟩
            have et' : f_textOn (mI N') (mI M 77 s) nt = nI t := by rw [← p_textOn, hN2.1, p_textOn]; exact et
            rw [et', htc, wn30 rN'.1]
            refine ⟨wr30 rN'.1, v11, c12_in _ _ _ _ ?_⟩
            rw [Sm_i hN2 (id := 91) (j := t) rfl, hb, ek2]
            refine ⟨fun _ => ⟨fun y => absurd y z3, fun _ => ?_⟩, fun y => absurd y z2⟩
            rw [wn30 rN'.1, nI_add]
            refine ⟨wr30 rN'.1, v11, c12_worthOf rN' ht (by rw [Sm_i hN2 (id := 91) (j := t) rfl, hb]) hb8 (by omega) hs' hp c _ (fun N3 hN3 => ⟨?_, Nx_Sm (Sm_t hN2 hN3.1) r⟩)⟩
            rw [fr_worth hN, fr_worth hN2]
        · refine w_X12_worth l _ _ c _ M _ (k12_isService r _ _ ⟨fun y => absurd y hrs, fun _ => k12_isPlayer r _ _ ⟨fun y => absurd y hrp, fun _ => c12_isInstrument c _ ⟨fun _ => ?_, fun y => absurd y z⟩⟩⟩)
          rw [hcs, wn16 r1]
          refine ⟨wr16 r1, v40, k12_textOn r _ _ ?_⟩
          rw [et, htc, wn30 r1]
          refine ⟨wr30 r1, v11, c12_in _ _ _ _ ?_⟩
          rw [hb, ek2]
          exact ⟨fun y => absurd z2 y, fun _ => ⟨rfl, hs⟩⟩
      · exact w_X12_worth l _ _ c _ M _ (k12_isService r _ _ ⟨fun y => absurd y hrs, fun _ => k12_isPlayer r _ _ ⟨fun y => absurd y hrp, fun _ => c12_isInstrument c _ ⟨fun y => absurd z y, fun y => ⟨rfl, hs⟩⟩⟩⟩)
end S51
