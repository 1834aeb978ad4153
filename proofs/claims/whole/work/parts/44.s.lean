/-! what is told of works, players, services; counts, price, status -/
section S44
variable {l : Launch} {M : o_M} {nw np ns nt T : Nat}
theorem sw_ne {p : Int32} {n k : Nat} (c : p < 0 ∨ nI n < p) (hk : k ≤ n) (hn : n < 2 ^ 31) : ¬ p = nI k := fun e => by
  subst e
  rcases c with c | c <;> (simp (disch := omega) only [ile, ilt, ieq, nI_toInt, Int32.reduceToInt] at c; omega)
/-- one of a row by its number -/
def told (xs : List Int32) (d p : Int32) : Int32 := if p.toInt < 0 then d else xs.getD p.toInt.toNat d
theorem told_k (xs : List Int32) (d : Int32) {k : Nat} (hk : k < 2 ^ 31) : told xs d (nI k) = xs.getD k d := by
  unfold told
  rw [nI_toInt hk, if_neg (by omega)]; rfl
theorem told_o (xs : List Int32) (d : Int32) {p : Int32} {n : Nat} (hx : xs.length = n + 1) (hn : n < 2 ^ 31) (c : p < 0 ∨ nI n < p) : told xs d p = d := by
  unfold told
  rcases c with c | c
  · rw [ilt] at c
    rw [if_pos (by have : (0 : Int32).toInt = 0 := by decide
                   omega)]
  · rw [ilt, nI_toInt hn] at c
    rw [if_neg (by omega)]
    rw [List.getD_eq_getElem?_getD, List.getElem?_eq_none (by omega)]; rfl
theorem okS_of (r : Rel M nw np ns nt T) {s : Nat} (hs : s < ns) : okS M s := by
  obtain ⟨n, hn5, en, hk, _⟩ := (r.2.2.2.2.2.2.1.1 s hs).2.2.1.2
  have hnw := r.2.2.1.1.1
  exact ⟨n, hn5, en, fun k hk' => by obtain ⟨w, h1, h2, _⟩ := hk k hk'; exact ⟨w, by omega, h2⟩⟩
theorem chairs_of (r : Rel M nw np ns nt T) {s : Nat} (hs : s < ns) : ∃ n, n ≤ 12 ∧ f_chairs (mI M) s none = nI n := by
  obtain ⟨n, h1, h2, _⟩ := (r.2.2.2.2.2.2.1.1 s hs).2.2.2.2.2
  exact ⟨n, h1, h2⟩
theorem c12_gapsIn (hw : wM M) {s n : Nat} (hs : s < 40) (hok : okS M s) (hn : f_chairs (mI M) s none = nI n) (hn12 : n ≤ 12) (q : Int32 → o_M → Prop) (h : q (f_gapsIn (mI M) s n) M) : K_X12_gapsIn l [rV (some 60), iV (nI s)] M q := by
  have key : ∀ m c : Nat, c + m = n → H_X12_gapsIn_4 l q (nI s) (lp (f_gpS (mI M) s) 0 c) (nI c) M := by
    intro m
    induction m with
    | zero =>
      intro c hc
      have : c = n := by omega
      subst this
      refine w_X12_gapsIn_4 l q _ _ _ M (c12_chairs hw hs hok none (fun _ e => by cases e) _ ?_)
      rw [hn]
      exact ⟨fun _ => h, fun z => absurd (nI_le (Nat.le_refl _) (by omega)) z⟩
    | succ m ih =>
      intro c hc
      have e := ih (c + 1) (by omega)
      simp only [lp] at e
      rw [f_gpS] at e
      have hix : (12 : Int32) * nI s + nI c = nI (12 * s + c) := ixm 12 s c rfl
      have hcx : (nI (12 * s + c)).toNatClampNeg = 12 * s + c := nI_clamp (by omega)
      refine w_X12_gapsIn_4 l q _ _ _ M (c12_chairs hw hs hok none (fun _ e => by cases e) _ ?_)
      rw [hn, hix, wn21 hw, hcx, n1]
      refine ⟨fun z => ?_, fun _ => ⟨wr21 hw, vin (by omega) (by decide), fun z => ?_, fun z => ?_⟩⟩
      · rw [nI_leI (by omega) (by omega)] at z; omega
      · rw [if_neg z] at e; rw [Int32.add_zero]; exact e
      · rw [if_pos z] at e; exact e
  exact w_X12_gapsIn l _ M q (key n 0 (by omega))
theorem P_workTold (r : Rel M nw np ns nt T) (a b : Int32) : K_X11_workTold l [rV (some 16), iV a, iV b] M (fun r1 M1 => K_X12_workTold l [rV (some 60), iV a, iV b] M1 (fun r2 M2 => r1 = r2 ∧ Nx T M2)) := by
  have hs : Nx T M := Nx_s r
  have ⟨r1, r2, r3, r4, r5, r6, r7, r8, r9, r10, r11⟩ := r
  have hnw := r3.1.1
  refine w_X11_workTold l a b M _ (c11_findWork r a _ (fun z => ⟨fun _ => ?_, fun b3 e => (by cases e)⟩) (fun i hi e => ⟨fun e => (by cases e), fun b3 e => ?_⟩))
  · exact w_X12_workTold l a b M _ (k12_isWork r a _ ⟨fun _ => ⟨rfl, hs⟩, fun y => absurd (b2_0.mpr z) y⟩)
  · subst a
    obtain rfl := Option.some.inj e
    have hin : (nI i).toNatClampNeg = i := nI_clamp (by omega)
    have hrg : ¬ b2 (rng (nI i) 0 (nI nw - 1)) = 0 := by rw [rng_ix1 (by omega) hi]; decide
    have v12 : vp_in (nI i) 12 := vin (by omega) (by decide)
    obtain ⟨_, p0, p1, p2, p3, p4, p5, _⟩ := r5 i hi
    have hm : K_X12_workTold l [rV (some 60), iV (nI i), iV b] M (fun r2 M2 => told [mI M (43 + 128 * i) 0, mI M (43 + 128 * i) 1, mI M (43 + 128 * i) 2, mI M (43 + 128 * i) 3, mI M (43 + 128 * i) 4, mI M (43 + 128 * i) 5] (-2) b = r2 ∧ Nx T M2) := by
      rw [p0, p1, p2, p3, p4, p5]
      refine w_X12_workTold l _ b M _ (k12_isWork r _ _ ⟨fun y => absurd y hrg, fun _ => c12_in b 0 5 _ ⟨fun y => ?_, fun y => ?_⟩⟩)
      · obtain ⟨k, _, hk, rfl⟩ := rng_nat 0 5 (by decide) (by decide) (b2_n0.mp y)
        rw [hin, wn1 r1, wn2 r1, wn3 r1, wn4 r1, wn5 r1, wn6 r1]
        refine ⟨fun c => ?_, fun c => ?_, fun c => ?_, fun c => ?_, fun c => ?_, fun c => ?_⟩
        · have : k = 5 := by
            have h0 := sw_ne (n := 4) (k := 0) c (by omega) (by omega)
            rcases c with c | c <;> (simp (disch := omega) only [ile, ilt, ieq, nI_toInt, Int32.reduceToInt] at c; omega)
          subst this
          refine ⟨wr4 r1, v12, fun z => ⟨?_, hs⟩, fun z => ⟨wr6 r1, v12, ?_, hs⟩⟩
          · rw [told_k _ _ (by omega)]; simp [z]
          · rw [told_k _ _ (by omega)]; simp [z]
        · rw [c]; exact ⟨wr1 r1, v12, rfl, hs⟩
        · rw [c]; exact ⟨wr2 r1, v12, rfl, hs⟩
        · rw [c]; exact ⟨wr3 r1, v12, rfl, hs⟩
        · rw [c]; exact ⟨wr4 r1, v12, rfl, hs⟩
        · rw [c]
          refine ⟨wr4 r1, v12, fun z => ⟨?_, hs⟩, fun z => ⟨wr5 r1, v12, ?_, hs⟩⟩
          · show (if mI M 65 i = 1 then mI M 66 i else -1) = -1
            rw [if_neg z]
          · show (if mI M 65 i = 1 then mI M 66 i else -1) = _
            rw [if_pos z]
      · refine ⟨?_, hs⟩
        have hf := b2_0.mp y
        apply told_o _ _ (n := 5) rfl (by omega)
        unfold rng at hf
        simp only [decide_eq_false_iff_not] at hf
        rw [ilt, ilt]
        have e0 : (0 : Int32).toInt = 0 := by decide
        have e5 : (5 : Int32).toInt = 5 := by decide
        have e5' : (nI 5).toInt = 5 := by decide
        omega
    refine ⟨ty43 i, fun c => ?_, fun c => ?_, fun c => ?_, fun c => ?_, fun c => ?_, fun c => ?_, fun c => ?_⟩
    · rw [told_o _ _ (n := 5) rfl (by omega) c] at hm; exact hm
    all_goals subst c; exact hm
theorem P_played (r : Rel M nw np ns nt T) (a b : Int32) : K_X11_played l [rV (some 16), iV a, iV b] M (fun r1 M1 => K_X12_played l [rV (some 60), iV a, iV b] M1 (fun r2 M2 => r1 = r2 ∧ Nx T M2)) := by
  have hs : Nx T M := Nx_s r
  have ⟨r1, r2, r3, r4, r5, r6, r7, r8, r9, r10, r11⟩ := r
  have hnw := r3.1.1
  refine w_X11_played l a b M _ (c11_findWork r a _ (fun z => ⟨fun _ => ?_, fun b3 e => (by cases e)⟩) (fun i hi e => ⟨fun e => (by cases e), fun b3 e => ?_⟩))
  · exact w_X12_played l a b M _ (k12_isWork r a _ ⟨fun _ => ⟨rfl, hs⟩, fun y => absurd (b2_0.mpr z) y⟩)
  · subst a
    obtain rfl := Option.some.inj e
    have hrg : ¬ b2 (rng (nI i) 0 (nI nw - 1)) = 0 := by rw [rng_ix1 (by omega) hi]; decide
    obtain ⟨_, p0, p1, p2, p3, p4, p5, _⟩ := r5 i hi
    have hpl : (mI M (43 + 128 * i) 3 == 0 || (mI M (43 + 128 * i) 3 == 1 && rng b (mI M (43 + 128 * i) 4) (mI M (43 + 128 * i) 5))) = f_played (mI M) i b := by
      unfold f_played
      rw [p3, p4, p5]
      by_cases h1 : mI M 65 i = 1
      · rw [if_pos h1, if_pos h1]
      · have : (mI M 65 i == 1) = false := by simp [h1]
        rw [this]; simp
    refine ⟨ty43 i, c11_isDay b _ ⟨fun z => c10_canBePlayed (ty43 i) b _ ?_, fun z => ?_⟩⟩
    · rw [hpl]
      refine ⟨fun z2 => ?_, fun z2 => ?_⟩
      · exact w_X12_played l _ b M _ (k12_isWork r _ _ ⟨fun y => absurd y hrg, fun _ => c12_isDay b _ ⟨fun y => c12_isPlayed r1 (by omega) b _ ⟨fun _ => ⟨rfl, hs⟩, fun y => absurd z2 y⟩, fun y => absurd y z⟩⟩)
      · exact w_X12_played l _ b M _ (k12_isWork r _ _ ⟨fun y => absurd y hrg, fun _ => c12_isDay b _ ⟨fun y => c12_isPlayed r1 (by omega) b _ ⟨fun y => absurd y z2, fun y => ⟨rfl, hs⟩⟩, fun y => absurd y z⟩⟩)
    · exact w_X12_played l _ b M _ (k12_isWork r _ _ ⟨fun y => absurd y hrg, fun _ => c12_isDay b _ ⟨fun y => absurd z y, fun y => ⟨rfl, hs⟩⟩⟩)
/-- on how many services a player sits -/
def f_sitS (v : o_v) (p : Int32) (s : Nat) (x : Int32) : Int32 := if f_chairOf v s p = -1 then x else x + 1
theorem sits_of (r : Rel M nw np ns nt T) {s p : Nat} (hs : s < ns) (hp : p < 10) : (((mI M (47 + 128 * s) 10 >>> (nI p &&& 31)) &&& 1) == 1) = !(f_chairOf (mI M) s (nI p) == -1) := (r.2.2.2.2.2.2.1.1 s hs).2.2.2.2.2.choose_spec.2.2.2.2 p hp
theorem c11_sits (r : Rel M nw np ns nt T) {s p : Nat} (hs : s < ns) (hp : p < 10) (q : Int32 → o_M → Prop) (h0 : f_chairOf (mI M) s (nI p) = -1 → q 0 M) (h1 : ¬ f_chairOf (mI M) s (nI p) = -1 → q 1 M) : K_X6_sits l [rV (some (47 + 128 * s)), iV (nI p)] M q := by
  refine c6_sits (ty47 s) _ q ?_
  rw [sits_of r hs hp]
  by_cases h : f_chairOf (mI M) s (nI p) = -1
  · rw [h]; exact h0 h
  · have : (f_chairOf (mI M) s (nI p) == -1) = false := by simp [h]
    rw [this]; exact h1 h
theorem svR (r : Rel M nw np ns nt T) {s : Nat} (hs : s < ns) : mR M 19 s = some (47 + 128 * s) := (r.2.2.2.2.2.2.1.1 s hs).1.1
theorem c11_countSittings (r : Rel M nw np ns nt T) {p : Nat} (hp : p < 10) (q : Int32 → o_M → Prop) (h : q (lp (f_sitS (mI M) (nI p)) 0 ns) M) : K_X11_countSittings l [rV (some 16), iV (nI p)] M q := by
  have ⟨r1, r2, r3, r4, r5, r6, r7, r8, r9, r10, r11⟩ := r
  obtain ⟨hn, e16, e60⟩ := r3.2.2.1
  have key : ∀ m s : Nat, s + m = ns → H_X11_countSittings_4 l q (nI p) (lp (f_sitS (mI M) (nI p)) 0 s) (nI s) M := by
    intro m
    induction m with
    | zero =>
      intro c hc
      have : c = ns := by omega
      subst this
      refine w_X11_countSittings_4 l q _ _ _ M ?_
      rw [e16]
      exact ⟨fun _ => h, fun z => absurd (nI_le (Nat.le_refl _) (by omega)) z⟩
    | succ m ih =>
      intro s hsm
      have e := ih (s + 1) (by omega)
      simp only [lp] at e
      rw [f_sitS] at e
      refine w_X11_countSittings_4 l q _ _ _ M ?_
      rw [e16, xn19 r2, nI_clamp (by omega), svR r (by omega), n1]
      refine ⟨fun z => ?_, fun _ => ⟨xr16_2 r2, vin (by omega) (by decide), _, rfl, ty47 s, c11_sits r (by omega) hp _ (fun z => ⟨fun _ => ?_, fun y => absurd rfl y⟩) (fun z => ⟨fun y => absurd y (by decide), fun _ => ?_⟩)⟩⟩
      · rw [nI_leI (by omega) (by omega)] at z; omega
      · rw [if_pos z] at e; exact e
      · rw [if_neg z] at e; exact e
  exact w_X11_countSittings l _ M q (key ns 0 (by omega))
theorem P_playerTold (r : Rel M nw np ns nt T) (a b : Int32) : K_X11_playerTold l [rV (some 16), iV a, iV b] M (fun r1 M1 => K_X12_playerTold l [rV (some 60), iV a, iV b] M1 (fun r2 M2 => r1 = r2 ∧ Nx T M2)) := by
  have hs : Nx T M := Nx_s r
  have ⟨r1, r2, r3, r4, r5, r6, r7, r8, r9, r10, r11⟩ := r
  have hnp := r3.2.1.1
  obtain ⟨hn, e16, e60⟩ := r3.2.2.1
  refine w_X11_playerTold l a b M _ (c11_findPlayer r a _ (fun z => ⟨fun _ => ?_, fun b3 e => (by cases e)⟩) (fun i hi e => ⟨fun e => (by cases e), fun b3 e => ?_⟩))
  · exact w_X12_playerTold l a b M _ (k12_isPlayer r a _ ⟨fun _ => ⟨rfl, hs⟩, fun y => absurd (b2_0.mpr z) y⟩)
  · subst a
    obtain rfl := Option.some.inj e
    have hin : (nI i).toNatClampNeg = i := nI_clamp (by omega)
    have hrg : ¬ b2 (rng (nI i) 0 (nI np - 1)) = 0 := by rw [rng_ix1 (by omega) hi]; decide
    have v10 : vp_in (nI i) 10 := vin (by omega) (by decide)
    obtain ⟨_, _, _, _, _, p0, p1, p2, p3, _⟩ := r6.1 i hi
    have key : ∀ m s : Nat, s + m = ns → H_X12_playerTold_85 l (fun r2 M2 => lp (f_sitS (mI M) (nI i)) 0 ns = r2 ∧ Nx T M2) (nI i) (lp (f_sitS (mI M) (nI i)) 0 s) (nI s) M := by
      intro m
      induction m with
      | zero =>
        intro c hc
        have : c = ns := by omega
        subst this
        refine w_X12_playerTold_85 l _ _ _ _ M ?_
        rw [e60]
        exact ⟨fun _ => ⟨rfl, hs⟩, fun z => absurd (nI_le (Nat.le_refl _) (by omega)) z⟩
      | succ m ih =>
        intro s hsm
        have e := ih (s + 1) (by omega)
        simp only [lp] at e
        rw [f_sitS] at e
        refine w_X12_playerTold_85 l _ _ _ _ M ?_
        rw [e60, n1]
        refine ⟨fun z => ?_, fun _ => c12_chairOf r1 (by omega) _ _ ⟨fun z => ?_, fun z => ?_⟩⟩
        · rw [nI_leI (by omega) (by omega)] at z; omega
        · rw [if_pos z] at e; rw [Int32.add_zero]; exact e
        · rw [if_neg z] at e; exact e
    have hm : K_X12_playerTold l [rV (some 60), iV (nI i), iV b] M (fun r2 M2 => told [mI M (44 + 128 * i) 0, mI M (44 + 128 * i) 1, mI M (44 + 128 * i) 2, mI M (44 + 128 * i) 5, lp (f_sitS (mI M) (nI i)) 0 ns] (-2) b = r2 ∧ Nx T M2) := by
      rw [p0, p1, p2, p3]
      refine w_X12_playerTold l _ b M _ (k12_isPlayer r _ _ ⟨fun y => absurd y hrg, fun _ => c12_in b 0 4 _ ⟨fun y => ?_, fun y => ?_⟩⟩)
      · obtain ⟨k, _, hk, rfl⟩ := rng_nat 0 4 (by decide) (by decide) (b2_n0.mp y)
        rw [hin, wn8 r1, wn9 r1, wn10 r1, wn11 r1]
        refine ⟨fun c => ?_, fun c => ?_, fun c => ?_, fun c => ?_, fun c => ?_⟩
        · have : k = 4 := by
            rcases c with c | c <;> (simp (disch := omega) only [ile, ilt, ieq, nI_toInt, Int32.reduceToInt] at c; omega)
          subst this
          exact key ns 0 (by omega)
        · rw [c]; exact ⟨wr8 r1, v10, rfl, hs⟩
        · rw [c]; exact ⟨wr9 r1, v10, rfl, hs⟩
        · rw [c]; exact ⟨wr10 r1, v10, rfl, hs⟩
        · rw [c]; exact ⟨wr11 r1, v10, rfl, hs⟩
      · refine ⟨?_, hs⟩
        have hf := b2_0.mp y
        apply told_o _ _ (n := 4) rfl (by omega)
        unfold rng at hf
        simp only [decide_eq_false_iff_not] at hf
        rw [ilt, ilt]
        have e0 : (0 : Int32).toInt = 0 := by decide
        have e5 : (4 : Int32).toInt = 4 := by decide
        have e5' : (nI 4).toInt = 4 := by decide
        omega
    refine ⟨ty44 i, fun c => ?_, fun c => ?_, fun c => ?_, fun c => ?_, fun c => ?_, fun c => c11_countSittings r (by omega) _ ?_⟩
    · rw [told_o _ _ (n := 4) rfl (by omega) c] at hm; exact hm
    all_goals subst c; exact hm
end S44
