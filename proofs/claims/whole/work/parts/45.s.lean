/-! serviceTold, count, price, status, force, inForce, rise -/
section S45
variable {l : Launch} {M : o_M} {nw np ns nt T : Nat}
theorem i_nat {p : Int32} (h : 0 ≤ p) : ∃ k, k < 2 ^ 31 ∧ p = nI k := by
  rw [ile] at h
  have e0 : (0 : Int32).toInt = 0 := by decide
  have := Int32.toInt_lt p
  refine ⟨p.toInt.toNat, by omega, ?_⟩
  rw [ieq, nI_toInt (by omega)]; omega
theorem P_serviceTold (r : Rel M nw np ns nt T) (a b : Int32) : K_X11_serviceTold l [rV (some 16), iV a, iV b] M (fun r1 M1 => K_X12_serviceTold l [rV (some 60), iV a, iV b] M1 (fun r2 M2 => r1 = r2 ∧ Nx T M2)) := by
  have hs : Nx T M := Nx_s r
  have ⟨r1, r2, r3, r4, r5, r6, r7, r8, r9, r10, r11⟩ := r
  have hns := r3.2.2.1.1
  refine w_X11_serviceTold l a b M _ (c11_findService r a _ (fun z => ⟨fun _ => ?_, fun b3 e => (by cases e)⟩) (fun i hi e => ⟨fun e => (by cases e), fun b3 e => ?_⟩))
  · exact w_X12_serviceTold l a b M _ (k12_isService r a _ ⟨fun _ => ⟨rfl, hs⟩, fun y => absurd (b2_0.mpr z) y⟩)
  · subst a
    obtain rfl := Option.some.inj e
    have hin : (nI i).toNatClampNeg = i := nI_clamp (by omega)
    have hrg : ¬ b2 (rng (nI i) 0 (nI ns - 1)) = 0 := by rw [rng_ix1 (by omega) hi]; decide
    have v40 : vp_in (nI i) 40 := vin (by omega) (by decide)
    have hok := okS_of r hi
    obtain ⟨⟨_, g1, _, _, g2, _⟩, ⟨p0, p1, p2, p3, _⟩, ⟨p4, n, hn5, en, hk, _⟩, ⟨_, p5, m, hm12, em, p6, p7, _⟩⟩ := r7.1 i hi
    refine ⟨ty47 i, fun z => ?_, fun z => ?_⟩
    · obtain ⟨k, hk31, rfl⟩ := i_nat z
      refine ⟨fun c => ?_, fun c => ?_, fun c => ?_, fun c => ?_, fun c => ?_, fun c => ?_, fun c => ?_, fun c => ⟨fun z2 => ?_, fun z2 => ?_⟩, fun c => ⟨fun z2 => ?_, fun z2 => ?_⟩⟩
      · have hk8 : 8 ≤ k := by rcases c with c | c <;> (simp (disch := omega) only [ile, ilt, ieq, nI_toInt, Int32.reduceToInt] at c; omega)
        have e8 : nI k - 8 = nI (k - 8) := pk_sub (a := k) (b := 8) hk8
        refine w_X6_workAt l _ _ (ty47 i) M _ (c11_isWithin _ _ _ _ ?_)
        rw [p4, en, e8]
        have hM : ∀ x : Int32, ((k - 8 < n → x = mI M (48 + 128 * i) (k - 8)) ∧ (¬ k - 8 < n → x = -1)) → K_X12_serviceTold l [rV (some 60), iV (nI i), iV (nI k)] M (fun r2 M2 => x = r2 ∧ Nx T M2) := by
          intro x hx
          refine w_X12_serviceTold l _ _ M _ (k12_isService r _ _ ⟨fun y => absurd y hrg, fun _ => ⟨fun _ => ⟨fun _ => ?_, fun y => ?_, fun y => ?_, fun y => ?_, fun y => ?_, fun y => ?_, fun y => ?_, fun y => ?_, fun y => ?_⟩, fun y => absurd z y⟩⟩)
          · rw [hin, wn19 r1, en, e8]
            refine ⟨wr19 r1, v40, fun y => ?_, fun y => ?_⟩
            · rw [nI_leI (by omega) (by omega)] at y
              exact ⟨hx.2 (by omega), hs⟩
            · rw [nI_leI (by omega) (by omega)] at y
              have hix : (5 : Int32) * nI i + nI k - 8 = nI (5 * i + (k - 8)) := by
                rw [show (5 : Int32) * nI i + nI k = nI (5 * i + k) from ixm 5 i k rfl, show (8 : Int32) = nI 8 from rfl, pk_sub (by omega)]
                congr 1; omega
              rw [hix, wn20 r1, nI_clamp (by omega)]
              obtain ⟨w, hw1, hw2, hw3⟩ := hk (k - 8) (by omega)
              exact ⟨wr20 r1, vin (by omega) (by decide), by rw [hw2, ← hw3]; exact hx.1 (by omega), hs⟩
          · exact absurd y (sw_ne (n := 7) (k := 0) c (by decide) (by decide))
          · exact absurd y (sw_ne (n := 7) (k := 1) c (by decide) (by decide))
          · exact absurd y (sw_ne (n := 7) (k := 2) c (by decide) (by decide))
          · exact absurd y (sw_ne (n := 7) (k := 3) c (by decide) (by decide))
          · exact absurd y (sw_ne (n := 7) (k := 4) c (by decide) (by decide))
          · exact absurd y (sw_ne (n := 7) (k := 5) c (by decide) (by decide))
          · exact absurd y (sw_ne (n := 7) (k := 6) c (by decide) (by decide))
          · exact absurd y (sw_ne (n := 7) (k := 7) c (by decide) (by decide))
        refine ⟨fun z2 => hM _ ⟨fun h => ?_, fun _ => rfl⟩, fun z2 => ?_⟩
        · rw [rng_ix1 (by omega) h] at z2; exact absurd z2 (by decide)
        · obtain ⟨j, hj, ej⟩ := rng_ix (by omega) (b2_n0.mp z2)
          have hj' : k - 8 = j := nI_inj (by omega) (by omega) ej
          subst hj'
          rw [nI_clamp (by omega)]
          rw [show 47 + 128 * i + 1 = 48 + 128 * i by omega, g1, g2]
          exact ⟨rfl, vin (by omega) (by decide), hM _ ⟨fun _ => rfl, fun h => absurd hj h⟩⟩
      all_goals
        refine w_X12_serviceTold l _ _ M _ (k12_isService r _ _ ⟨fun y => absurd y hrg, fun _ => ⟨fun _ => ?_, fun y => absurd z y⟩⟩)
        rw [c, hin, wn15 r1, wn16 r1, wn17 r1, wn18 r1, wn19 r1, wn22 r1]
      · exact ⟨fun y => absurd y (by decide), fun _ => ⟨wr15 r1, v40, p0, hs⟩, fun y => absurd y (by decide), fun y => absurd y (by decide), fun y => absurd y (by decide), fun y => absurd y (by decide), fun y => absurd y (by decide), fun y => absurd y (by decide), fun y => absurd y (by decide)⟩
      · exact ⟨fun y => absurd y (by decide), fun y => absurd y (by decide), fun _ => ⟨wr16 r1, v40, p1, hs⟩, fun y => absurd y (by decide), fun y => absurd y (by decide), fun y => absurd y (by decide), fun y => absurd y (by decide), fun y => absurd y (by decide), fun y => absurd y (by decide)⟩
      · exact ⟨fun y => absurd y (by decide), fun y => absurd y (by decide), fun y => absurd y (by decide), fun _ => ⟨wr17 r1, v40, p2, hs⟩, fun y => absurd y (by decide), fun y => absurd y (by decide), fun y => absurd y (by decide), fun y => absurd y (by decide), fun y => absurd y (by decide)⟩
      · exact ⟨fun y => absurd y (by decide), fun y => absurd y (by decide), fun y => absurd y (by decide), fun y => absurd y (by decide), fun _ => ⟨wr18 r1, v40, p3, hs⟩, fun y => absurd y (by decide), fun y => absurd y (by decide), fun y => absurd y (by decide), fun y => absurd y (by decide)⟩
      · exact ⟨fun y => absurd y (by decide), fun y => absurd y (by decide), fun y => absurd y (by decide), fun y => absurd y (by decide), fun y => absurd y (by decide), fun _ => ⟨wr19 r1, v40, p4, hs⟩, fun y => absurd y (by decide), fun y => absurd y (by decide), fun y => absurd y (by decide)⟩
      · exact ⟨fun y => absurd y (by decide), fun y => absurd y (by decide), fun y => absurd y (by decide), fun y => absurd y (by decide), fun y => absurd y (by decide), fun y => absurd y (by decide), fun _ => c12_chairs r1 (by omega) hok none (fun _ e => by cases e) _ ⟨p5, hs⟩, fun y => absurd y (by decide), fun y => absurd y (by decide)⟩
      · exact ⟨fun y => absurd y (by decide), fun y => absurd y (by decide), fun y => absurd y (by decide), fun y => absurd y (by decide), fun y => absurd y (by decide), fun y => absurd y (by decide), fun y => absurd y (by decide), fun _ => ⟨wr22 r1, v40, fun _ => ⟨rfl, hs⟩, fun y => absurd (p6.symm.trans z2) y⟩, fun y => absurd y (by decide)⟩
      · exact ⟨fun y => absurd y (by decide), fun y => absurd y (by decide), fun y => absurd y (by decide), fun y => absurd y (by decide), fun y => absurd y (by decide), fun y => absurd y (by decide), fun y => absurd y (by decide), fun _ => ⟨wr22 r1, v40, fun y => absurd (p6.trans y) z2, fun _ => ⟨rfl, hs⟩⟩, fun y => absurd y (by decide)⟩
      · exact ⟨fun y => absurd y (by decide), fun y => absurd y (by decide), fun y => absurd y (by decide), fun y => absurd y (by decide), fun y => absurd y (by decide), fun y => absurd y (by decide), fun y => absurd y (by decide), fun y => absurd y (by decide), fun _ => ⟨wr22 r1, v40, fun _ => ⟨rfl, hs⟩, fun y => absurd (p6.symm.trans z2) y⟩⟩
      · rw [p6] at z2
        have hg : mI M (47 + 128 * i) 9 = f_gapsIn (mI M) i m := by
          rcases p7 with p7 | ⟨_, _, _, p7⟩
          · exact absurd p7 z2
          · exact p7
        exact ⟨fun y => absurd y (by decide), fun y => absurd y (by decide), fun y => absurd y (by decide), fun y => absurd y (by decide), fun y => absurd y (by decide), fun y => absurd y (by decide), fun y => absurd y (by decide), fun y => absurd y (by decide), fun _ => ⟨wr22 r1, v40, fun y => absurd y z2, fun _ => c12_gapsIn r1 (by omega) hok em hm12 _ ⟨hg, hs⟩⟩⟩
    · exact w_X12_serviceTold l _ _ M _ (k12_isService r _ _ ⟨fun y => absurd y hrg, fun _ => ⟨fun y => absurd y z, fun _ => ⟨rfl, hs⟩⟩⟩)
/-- how many services are seated; their gaps -/
def f_sdS (v : o_v) (g : Bool) (s : Nat) (x : Int32) : Int32 := if v 83 s = 0 then x else if g then x + f_gapsIn v s (f_chairs v s none).toNatClampNeg else x + 1
theorem c12_countL (r : Rel M nw np ns nt T) (w : Int32) (q : Int32 → o_M → Prop) (h : q (lp (f_sdS (mI M) (!(w == 5))) 0 ns) M) : H_X12_count_71 l q w 0 0 M := by
  have ⟨r1, r2, r3, r4, r5, r6, r7, r8, r9, r10, r11⟩ := r
  obtain ⟨hn, e16, e60⟩ := r3.2.2.1
  have key : ∀ m s : Nat, s + m = ns → H_X12_count_71 l q w (lp (f_sdS (mI M) (!(w == 5))) 0 s) (nI s) M := by
    intro m
    induction m with
    | zero =>
      intro c hc
      have : c = ns := by omega
      subst this
      refine w_X12_count_71 l q _ _ _ M ?_
      rw [e60]
      exact ⟨fun _ => h, fun z => absurd (nI_le (Nat.le_refl _) (by omega)) z⟩
    | succ m ih =>
      intro s hsm
      have e := ih (s + 1) (by omega)
      simp only [lp] at e
      rw [f_sdS] at e
      obtain ⟨k, hk12, ek⟩ := chairs_of r (s := s) (by omega)
      refine w_X12_count_71 l q _ _ _ M ?_
      rw [e60, wn22 r1, nI_clamp (by omega), n1]
      refine ⟨fun z => ?_, fun _ => ⟨wr22 r1, vin (by omega) (by decide), fun z => ⟨fun z2 => c12_gapsIn r1 (by omega) (okS_of r (by omega)) ek hk12 _ ?_, fun z2 => ?_⟩, fun z => ?_⟩⟩
      · rw [nI_leI (by omega) (by omega)] at z; omega
      · have : (w == 5) = false := by simp [z2]
        rw [if_neg z, this, ek, nI_clamp (by omega)] at e; rw [this]; exact e
      · rw [if_neg z, z2] at e; rw [z2]; exact e
      · rw [if_pos z] at e; rw [Int32.add_zero]; exact e
  exact key ns 0 (by omega)
theorem seat_of (r : Rel M nw np ns nt T) {s : Nat} (hs : s < ns) : mI M (47 + 128 * s) 11 = mI M 83 s := (r.2.2.2.2.2.2.1.1 s hs).2.2.2.2.2.choose_spec.2.2.1
theorem gapc_of (r : Rel M nw np ns nt T) {s : Nat} (hs : s < ns) (h : ¬ mI M 83 s = 0) : mI M (47 + 128 * s) 9 = f_gapsIn (mI M) s (f_chairs (mI M) s none).toNatClampNeg := by
  obtain ⟨m, hm12, em, _, p7, _⟩ := (r.2.2.2.2.2.2.1.1 s hs).2.2.2.2.2
  rw [em, nI_clamp (by omega)]
  rcases p7 with p7 | ⟨_, _, _, p7⟩
  · exact absurd p7 h
  · exact p7
theorem c11_countSeated (r : Rel M nw np ns nt T) (q : Int32 → o_M → Prop) (h : q (lp (f_sdS (mI M) false) 0 ns) M) : K_X11_countSeated l [rV (some 16)] M q := by
  have ⟨r1, r2, r3, r4, r5, r6, r7, r8, r9, r10, r11⟩ := r
  obtain ⟨hn, e16, e60⟩ := r3.2.2.1
  have key : ∀ m s : Nat, s + m = ns → H_X11_countSeated_4 l q (lp (f_sdS (mI M) false) 0 s) (nI s) M := by
    intro m
    induction m with
    | zero =>
      intro c hc
      have : c = ns := by omega
      subst this
      refine w_X11_countSeated_4 l q _ _ M ?_
      rw [e16]
      exact ⟨fun _ => h, fun z => absurd (nI_le (Nat.le_refl _) (by omega)) z⟩
    | succ m ih =>
      intro s hsm
      have e := ih (s + 1) (by omega)
      simp only [lp] at e
      rw [f_sdS] at e
      refine w_X11_countSeated_4 l q _ _ M ?_
      rw [e16, xn19 r2, nI_clamp (by omega), svR r (by omega), n1]
      refine ⟨fun z => ?_, fun _ => ⟨xr16_2 r2, vin (by omega) (by decide), _, rfl, ty47 s, fun z => ?_, fun z => ?_⟩⟩
      · rw [nI_leI (by omega) (by omega)] at z; omega
      · rw [seat_of r (by omega)] at z; rw [if_pos z] at e; exact e
      · rw [seat_of r (by omega)] at z; rw [if_neg z] at e; exact e
  exact w_X11_countSeated l M q (key ns 0 (by omega))
theorem c11_countSeatedGaps (r : Rel M nw np ns nt T) (q : Int32 → o_M → Prop) (h : q (lp (f_sdS (mI M) true) 0 ns) M) : K_X11_countSeatedGaps l [rV (some 16)] M q := by
  have ⟨r1, r2, r3, r4, r5, r6, r7, r8, r9, r10, r11⟩ := r
  obtain ⟨hn, e16, e60⟩ := r3.2.2.1
  have key : ∀ m s : Nat, s + m = ns → H_X11_countSeatedGaps_4 l q (lp (f_sdS (mI M) true) 0 s) (nI s) M := by
    intro m
    induction m with
    | zero =>
      intro c hc
      have : c = ns := by omega
      subst this
      refine w_X11_countSeatedGaps_4 l q _ _ M ?_
      rw [e16]
      exact ⟨fun _ => h, fun z => absurd (nI_le (Nat.le_refl _) (by omega)) z⟩
    | succ m ih =>
      intro s hsm
      have e := ih (s + 1) (by omega)
      simp only [lp] at e
      rw [f_sdS] at e
      refine w_X11_countSeatedGaps_4 l q _ _ M ?_
      rw [e16, xn19 r2, nI_clamp (by omega), svR r (by omega), n1]
      refine ⟨fun z => ?_, fun _ => ⟨xr16_2 r2, vin (by omega) (by decide), _, rfl, ty47 s, fun z => ?_, fun z => ⟨xr16_2 r2, vin (by omega) (by decide), _, rfl, ty47 s, ?_⟩⟩⟩
      · rw [nI_leI (by omega) (by omega)] at z; omega
      · rw [seat_of r (by omega)] at z; rw [if_pos z] at e; exact e
      · rw [seat_of r (by omega)] at z; rw [if_neg z] at e; rw [gapc_of r (by omega) z]; exact e
  exact w_X11_countSeatedGaps l M q (key ns 0 (by omega))
theorem P_count (r : Rel M nw np ns nt T) (a : Int32) : K_X11_count l [rV (some 16), iV a] M (fun r1 M1 => K_X12_count l [rV (some 60), iV a] M1 (fun r2 M2 => r1 = r2 ∧ Nx T M2)) := by
  have hs : Nx T M := Nx_s r
  have ⟨r1, r2, r3, r4, r5, r6, r7, r8, r9, r10, r11⟩ := r
  obtain ⟨nz, _, z1, z2, _⟩ := r10
  obtain ⟨a1, a2, a3, a4, _⟩ := r3
  refine w_X11_count l a M _ ⟨fun c => ?_, fun c => ?_, fun c => ?_, fun c => ?_, fun c => ?_, fun c => ?_, fun c => c11_countSeated r _ ?_, fun c => c11_countSeatedGaps r _ ?_⟩
  · exact w_X12_count l a M _ ⟨fun _ => ⟨rfl, hs⟩, fun y => absurd y (sw_ne (n := 6) (k := 0) c (by decide) (by decide)), fun y => absurd y (sw_ne (n := 6) (k := 1) c (by decide) (by decide)), fun y => absurd y (sw_ne (n := 6) (k := 2) c (by decide) (by decide)), fun y => absurd y (sw_ne (n := 6) (k := 3) c (by decide) (by decide)), fun y => absurd y (sw_ne (n := 6) (k := 4) c (by decide) (by decide)), fun y => absurd y (sw_ne (n := 6) (k := 5) c (by decide) (by decide)), fun y => absurd y (sw_ne (n := 6) (k := 6) c (by decide) (by decide))⟩
  all_goals subst c
  · exact w_X12_count l _ M _ ⟨fun y => absurd y (by decide), fun _ => ⟨a1.2.1.trans a1.2.2.symm, hs⟩, fun y => absurd y (by decide), fun y => absurd y (by decide), fun y => absurd y (by decide), fun y => absurd y (by decide), fun y => absurd y (by decide), fun y => absurd y (by decide)⟩
  · exact w_X12_count l _ M _ ⟨fun y => absurd y (by decide), fun y => absurd y (by decide), fun _ => ⟨a2.2.1.trans a2.2.2.symm, hs⟩, fun y => absurd y (by decide), fun y => absurd y (by decide), fun y => absurd y (by decide), fun y => absurd y (by decide), fun y => absurd y (by decide)⟩
  · exact w_X12_count l _ M _ ⟨fun y => absurd y (by decide), fun y => absurd y (by decide), fun y => absurd y (by decide), fun _ => ⟨a3.2.1.trans a3.2.2.symm, hs⟩, fun y => absurd y (by decide), fun y => absurd y (by decide), fun y => absurd y (by decide), fun y => absurd y (by decide)⟩
  · exact w_X12_count l _ M _ ⟨fun y => absurd y (by decide), fun y => absurd y (by decide), fun y => absurd y (by decide), fun y => absurd y (by decide), fun _ => ⟨a4.2.2.1.trans a4.2.2.2.symm, hs⟩, fun y => absurd y (by decide), fun y => absurd y (by decide), fun y => absurd y (by decide)⟩
  · exact w_X12_count l _ M _ ⟨fun y => absurd y (by decide), fun y => absurd y (by decide), fun y => absurd y (by decide), fun y => absurd y (by decide), fun y => absurd y (by decide), fun _ => ⟨z1.trans z2.symm, hs⟩, fun y => absurd y (by decide), fun y => absurd y (by decide)⟩
  · exact w_X12_count l _ M _ ⟨fun y => absurd y (by decide), fun y => absurd y (by decide), fun y => absurd y (by decide), fun y => absurd y (by decide), fun y => absurd y (by decide), fun y => absurd y (by decide), fun _ => c12_countL r 5 _ ⟨rfl, hs⟩, fun y => absurd y (by decide)⟩
  · exact w_X12_count l _ M _ ⟨fun y => absurd y (by decide), fun y => absurd y (by decide), fun y => absurd y (by decide), fun y => absurd y (by decide), fun y => absurd y (by decide), fun y => absurd y (by decide), fun y => absurd y (by decide), fun _ => c12_countL r 6 _ ⟨rfl, hs⟩⟩
/-- the price of a set of works -/
def f_prS (v : o_v) (a : Int32) (w : Nat) (x : Int32) : Int32 := if (a >>> (nI w &&& 31)) &&& 1 = 1 then x + v 63 w else x
def f_price (v : o_v) (a : Int32) (n : Nat) : Int32 := lp (f_prS v a) 0 n
theorem c12_priceOf (r : wM M) {n : Nat} (hn : n ≤ 12) (e60 : mI M 60 0 = nI n) (a : Int32) (q : Int32 → o_M → Prop) (h : q (f_price (mI M) a n) M) : K_X12_priceOf l [rV (some 60), iV a] M q := by
  have key : ∀ m s : Nat, s + m = n → H_X12_priceOf_4 l q a (lp (f_prS (mI M) a) 0 s) (nI s) M := by
    intro m
    induction m with
    | zero =>
      intro c hc
      have : c = n := by omega
      subst this
      refine w_X12_priceOf_4 l q _ _ _ M ?_
      rw [e60]
      exact ⟨fun _ => h, fun z => absurd (nI_le (Nat.le_refl _) (by omega)) z⟩
    | succ m ih =>
      intro s hsm
      have e := ih (s + 1) (by omega)
      simp only [lp] at e
      rw [f_prS] at e
      refine w_X12_priceOf_4 l q _ _ _ M ?_
      rw [e60, wn2 r, nI_clamp (by omega), n1]
      refine ⟨fun z => ?_, fun _ => ⟨fun z => ?_, fun z => ⟨wr2 r, vin (by omega) (by decide), ?_⟩⟩⟩
      · rw [nI_leI (by omega) (by omega)] at z; omega
      · rw [if_neg z] at e; rw [Int32.add_zero]; exact e
      · rw [if_pos z] at e; exact e
  exact w_X12_priceOf l _ M q (key n 0 (by omega))
theorem P_price (r : Rel M nw np ns nt T) (a : Int32) : K_X11_price l [rV (some 16), iV a] M (fun r1 M1 => K_X12_price l [rV (some 60), iV a] M1 (fun r2 M2 => r1 = r2 ∧ Nx T M2)) := by
  have hs : Nx T M := Nx_s r
  have ⟨r1, r2, r3, r4, r5, r6, r7, r8, r9, r10, r11⟩ := r
  obtain ⟨hn, e16, e60⟩ := r3.1
  have key : ∀ m s : Nat, s + m = nw → (¬ b2 (rng a 0 (((1 : Int32) <<< (nI nw &&& 31)) - 1)) = 0) → H_X11_price_23 l (fun r1 M1 => K_X12_price l [rV (some 60), iV a] M1 (fun r2 M2 => r1 = r2 ∧ Nx T M2)) a (lp (f_prS (mI M) a) 0 s) (nI s) M := by
    intro m
    induction m with
    | zero =>
      intro c hc hz
      have : c = nw := by omega
      subst this
      refine w_X11_price_23 l _ _ _ _ M ?_
      rw [e16]
      refine ⟨fun _ => w_X12_price l _ M _ (c12_in _ _ _ _ ?_), fun z => absurd (nI_le (Nat.le_refl _) (by omega)) z⟩
      rw [e60]
      exact ⟨fun y => absurd y hz, fun _ => c12_priceOf r1 hn e60 _ _ ⟨rfl, hs⟩⟩
    | succ m ih =>
      intro s hsm hz
      have e := ih (s + 1) (by omega) hz
      simp only [lp] at e
      rw [f_prS] at e
      refine w_X11_price_23 l _ _ _ _ M ?_
      rw [e16, xn17 r2, nI_clamp (by omega), n1, (r5 s (by omega)).1]
      refine ⟨fun z => ?_, fun _ => ⟨fun z => ?_, fun z => ⟨xr16_0 r2, vin (by omega) (by decide), _, rfl, ty43 s, ?_⟩⟩⟩
      · rw [nI_leI (by omega) (by omega)] at z; omega
      · rw [if_neg z] at e; exact e
      · rw [if_pos z] at e; rw [(r5 s (by omega)).2.2.1]; exact e
  refine w_X11_price l a M _ (c11_isWithin _ _ _ _ ?_)
  rw [e16]
  refine ⟨fun z => key nw 0 (by omega) z, fun z => w_X12_price l _ M _ (c12_in _ _ _ _ ?_)⟩
  rw [e60]
  exact ⟨fun _ => ⟨rfl, hs⟩, fun y => absurd z y⟩
theorem P_status (r : Rel M nw np ns nt T) : K_X11_status l [rV (some 16)] M (fun r1 M1 => K_X12_status l [rV (some 60)] M1 (fun r2 M2 => r1 = r2 ∧ Nx T M2)) :=
  w_X11_status l M _ (w_X12_status l M _ ⟨r.2.2.1.2.2.2.2.2, Nx_s r⟩)
end S45
