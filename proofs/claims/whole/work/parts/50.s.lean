/-! learning; who is hindered -/
section S50
variable {l : Launch} {M : o_M} {nw np ns nt T : Nat}
theorem sv2 (r : Rel M nw np ns nt T) {s : Nat} (hs : s < ns) : mI M (47 + 128 * s) 0 = mI M 76 s ∧ mI M (47 + 128 * s) 1 = mI M 77 s ∧ mI M (47 + 128 * s) 2 = mI M 78 s ∧ mI M (47 + 128 * s) 3 = mI M 79 s := by
  obtain ⟨a, b, c, d, _⟩ := (r.2.2.2.2.2.2.1.1 s hs).2.1
  exact ⟨a, b, c, d⟩
theorem k6_begins (r : Rel M nw np ns nt T) {s : Nat} (hs : s < ns) (q : Int32 → o_M → Prop) (h : q (f_begins (mI M) s) M) : K_X6_begins l [rV (some (47 + 128 * s))] M q := by
  obtain ⟨_, b, c, _⟩ := sv2 r hs
  exact c6_begins (ty47 s) q (by rw [b, c]; exact h)
theorem k6_ends (r : Rel M nw np ns nt T) {s : Nat} (hs : s < ns) (q : Int32 → o_M → Prop) (h : q (f_ends (mI M) s) M) : K_X6_ends l [rV (some (47 + 128 * s))] M q := by
  obtain ⟨_, b, c, d⟩ := sv2 r hs
  exact c6_ends (ty47 s) q (by rw [b, c, d]; exact h)
theorem c11_learn (r : Rel M nw np ns nt T) {s p : Nat} (hs : s < ns) (hp : p < np) (i : Int32) (q : o_M → Prop) (h : ∀ N, Sk M N → (∀ k, k < 10 → mJ N 27 k = (f_named (mI M) ns (nI k) s p i).toInt64) → q N) : K_X11_learn l [rV (some 16), rV (some (47 + 128 * s)), iV (nI p), iV i] M q := by
  have ⟨r1, r2, r3, r4, r5, r6, r7, r8, r9, r10, r11⟩ := r
  obtain ⟨hn, e16, e60⟩ := r3.2.2.1
  have hnp := r3.2.1.1
  obtain ⟨s0, s1, s2, s3⟩ := sv2 r hs
  obtain ⟨pR, _, _, _, _, p0, _, p2, _⟩ := r6.1 p hp
  have t0 : (0 : Int32).toNatClampNeg = 0 := by decide
  have t1 : (1 : Int32).toNatClampNeg = 1 := by decide
  have t2 : (2 : Int32).toNatClampNeg = 2 := by decide
  have t3 : (3 : Int32).toNatClampNeg = 3 := by decide
  have t4 : (4 : Int32).toNatClampNeg = 4 := by decide
  have t5 : (5 : Int32).toNatClampNeg = 5 := by decide
  have t6 : (6 : Int32).toNatClampNeg = 6 := by decide
  have t7 : (7 : Int32).toNatClampNeg = 7 := by decide
  have t8 : (8 : Int32).toNatClampNeg = 8 := by decide
  have t9 : (9 : Int32).toNatClampNeg = 9 := by decide
  have v10 : ∀ k : Nat, k < 10 → vp_in (nI k) 10 := fun k hk => vin hk (by decide)
  have key : ∀ m k : Nat, k + m = ns → H_X11_learn_10 l q (47 + 128 * s) (nI p) i (lp (f_wkS (mI M) s (nI p)) 0 k) (lp (f_rsS (mI M) s (nI p)) 99 k) (nI k) M := by
    intro m
    induction m with
    | zero =>
      intro k hk
      have : k = ns := by omega
      subst this
      refine w_X11_learn_10 l q _ (ty47 s) _ _ _ _ _ M ⟨fun _ => ?_, fun z => absurd (by rw [e16]; exact nI_le (Nat.le_refl _) (by omega)) z⟩
      refine ⟨xo7 r2, w_X4_learnService l _ (ty47 s) M _ ?_⟩
      simp (disch := omega) only [true_and, mI_sI_1, mI_sI_2, mI_sI_3, mI_nW_1, mI_nW_2, mI_sR, mI_sJ, mI_sA_1, mI_sA_2, mR_sI, mR_sJ, mR_sA, mR_sR_1, mR_sR_2, mR_sR_3, mR_nW_1, mR_nW_2, mN_sI, mN_sJ, mN_sR, mN_sA, mN_nW_1, mN_nW_2, mJ_sI, mJ_sR, mJ_sA, mJ_sJ_1, mJ_sJ_2, mJ_sJ_3, mJ_nW_1, mJ_nW_2, t0, t1, t2, t3, s0, s1, s2, s3, xr26_0 r2, xn27 r2]
      refine ⟨v10 0 (by omega), v10 1 (by omega), v10 2 (by omega), fun N1 hN1 => ?_⟩
      subst hN1
      simp (disch := omega) only [true_and, mI_sI_1, mI_sI_2, mI_sI_3, mI_nW_1, mI_nW_2, mI_sR, mI_sJ, mI_sA_1, mI_sA_2, mR_sI, mR_sJ, mR_sA, mR_sR_1, mR_sR_2, mR_sR_3, mR_nW_1, mR_nW_2, mN_sI, mN_sJ, mN_sR, mN_sA, mN_nW_1, mN_nW_2, mJ_sI, mJ_sR, mJ_sA, mJ_sJ_1, mJ_sJ_2, mJ_sJ_3, mJ_nW_1, mJ_nW_2, t0, t1, t2, t3, s0, s1, s2, s3, xr26_0 r2, xn27 r2, xo7 r2, xr16_1 r2, xn18 r2]
      rw [nI_clamp (by omega)]
      refine ⟨v10 3 (by omega), vin (by omega) (by decide), 44 + 128 * p, pR, ty44 p, w_X4_learnPlayer l _ _ (ty44 p) _ _ ?_⟩
      simp (disch := omega) only [true_and, mI_sI_1, mI_sI_2, mI_sI_3, mI_nW_1, mI_nW_2, mI_sR, mI_sJ, mI_sA_1, mI_sA_2, mR_sI, mR_sJ, mR_sA, mR_sR_1, mR_sR_2, mR_sR_3, mR_nW_1, mR_nW_2, mN_sI, mN_sJ, mN_sR, mN_sA, mN_nW_1, mN_nW_2, mJ_sI, mJ_sR, mJ_sA, mJ_sJ_1, mJ_sJ_2, mJ_sJ_3, mJ_nW_1, mJ_nW_2, t4, t5, t6, t7, p0, p2, xr26_0 r2, xn27 r2]
      have fin : ∀ dd : Int64, (i = mI M 69 p → dd = 0) → (¬ i = mI M 69 p → dd = 1) → K_X4_learnSittings l [rV (some 26), iV (lp (f_wkS (mI M) s (nI p)) 0 k), iV (lp (f_rsS (mI M) s (nI p)) 99 k)] (sJ (sJ (sJ (sJ (sJ (sJ (sJ (sJ M 27 0 (mI M 76 s).toInt64) 27 1 (mI M 77 s - mI M 77 s / 7 * 7).toInt64) 27 2 (mI M 78 s).toInt64) 27 3 (mI M 79 s).toInt64) 27 4 i.toInt64) 27 5 (mI M 69 p).toInt64) 27 6 dd) 27 7 (mI M 71 p).toInt64) (fun M12 => q M12) := by
        intro dd d0 d1
        refine w_X4_learnSittings l _ _ _ _ ?_
        simp (disch := omega) only [true_and, mI_sI_1, mI_sI_2, mI_sI_3, mI_nW_1, mI_nW_2, mI_sR, mI_sJ, mI_sA_1, mI_sA_2, mR_sI, mR_sJ, mR_sA, mR_sR_1, mR_sR_2, mR_sR_3, mR_nW_1, mR_nW_2, mN_sI, mN_sJ, mN_sR, mN_sA, mN_nW_1, mN_nW_2, mJ_sI, mJ_sR, mJ_sA, mJ_sJ_1, mJ_sJ_2, mJ_sJ_3, mJ_nW_1, mJ_nW_2, t8, t9, xr26_0 r2, xn27 r2]
        refine ⟨v10 8 (by omega), v10 9 (by omega), h _ ?_ ?_⟩
        · have g : ∀ (N : o_M) j x, Sk N (sJ N 27 j x) := fun N j x => ⟨Sm_sJ N (Or.inl rfl) j x, fun _ _ => rfl⟩
          exact Sk_t (Sk_t (Sk_t (Sk_t (Sk_t (Sk_t (Sk_t (Sk_t (Sk_t (g _ _ _) (g _ _ _)) (g _ _ _)) (g _ _ _)) (g _ _ _)) (g _ _ _)) (g _ _ _)) (g _ _ _)) (g _ _ _)) (g _ _ _)
        · intro a ha
          have ha : a = 0 ∨ a = 1 ∨ a = 2 ∨ a = 3 ∨ a = 4 ∨ a = 5 ∨ a = 6 ∨ a = 7 ∨ a = 8 ∨ a = 9 := by omega
          rcases ha with rfl | rfl | rfl | rfl | rfl | rfl | rfl | rfl | rfl | rfl
          all_goals simp (disch := omega) only [true_and, mI_sI_1, mI_sI_2, mI_sI_3, mI_nW_1, mI_nW_2, mI_sR, mI_sJ, mI_sA_1, mI_sA_2, mR_sI, mR_sJ, mR_sA, mR_sR_1, mR_sR_2, mR_sR_3, mR_nW_1, mR_nW_2, mN_sI, mN_sJ, mN_sR, mN_sA, mN_nW_1, mN_nW_2, mJ_sI, mJ_sR, mJ_sA, mJ_sJ_1, mJ_sJ_2, mJ_sJ_3, mJ_nW_1, mJ_nW_2]
          · rfl
          · rfl
          · rfl
          · rfl
          · rfl
          · rfl
          · show dd = (if i = mI M 69 p then (0 : Int32) else 1).toInt64
            by_cases hi : i = mI M 69 p
            · rw [if_pos hi, d0 hi]; rfl
            · rw [if_neg hi, d1 hi]; rfl
          · rfl
          · rfl
          · rfl
      refine ⟨v10 4 (by omega), v10 5 (by omega), fun c => ⟨v10 6 (by omega), v10 7 (by omega), fun N2 hN2 => ?_⟩, fun c => ⟨v10 6 (by omega), v10 7 (by omega), fun N2 hN2 => ?_⟩⟩
      · subst hN2
        refine ⟨by simp (disch := omega) only [true_and, mI_sI_1, mI_sI_2, mI_sI_3, mI_nW_1, mI_nW_2, mI_sR, mI_sJ, mI_sA_1, mI_sA_2, mR_sI, mR_sJ, mR_sA, mR_sR_1, mR_sR_2, mR_sR_3, mR_nW_1, mR_nW_2, mN_sI, mN_sJ, mN_sR, mN_sA, mN_nW_1, mN_nW_2, mJ_sI, mJ_sR, mJ_sA, mJ_sJ_1, mJ_sJ_2, mJ_sJ_3, mJ_nW_1, mJ_nW_2, xo7 r2], ?_⟩
        have := fin 1 (fun z => absurd z c) (fun _ => rfl)
        exact this
      · subst hN2
        refine ⟨by simp (disch := omega) only [true_and, mI_sI_1, mI_sI_2, mI_sI_3, mI_nW_1, mI_nW_2, mI_sR, mI_sJ, mI_sA_1, mI_sA_2, mR_sI, mR_sJ, mR_sA, mR_sR_1, mR_sR_2, mR_sR_3, mR_nW_1, mR_nW_2, mN_sI, mN_sJ, mN_sR, mN_sA, mN_nW_1, mN_nW_2, mJ_sI, mJ_sR, mJ_sA, mJ_sJ_1, mJ_sJ_2, mJ_sJ_3, mJ_nW_1, mJ_nW_2, xo7 r2], ?_⟩
        have := fin 0 (fun _ => rfl) (fun z => absurd c z)
        exact this
    | succ m ih =>
      intro k hk
      have e := ih (k + 1) (by omega)
      simp only [lp] at e
      rw [f_wkS, f_rsS] at e
      have hk' : k < ns := by omega
      obtain ⟨k0, k1, k2, k3⟩ := sv2 r hk'
      refine w_X11_learn_10 l q _ (ty47 s) _ _ _ _ _ M ⟨fun z => ?_, fun _ => ?_⟩
      · rw [e16, nI_leI (by omega) (by omega)] at z; omega
      rw [xn19 r2, nI_clamp (by omega), svR r hk', n1]
      refine ⟨xr16_2 r2, vin (by omega) (by decide), _, rfl, ty47 k, fun z => ?_, fun z => ?_⟩
      · have hks : k = s := by omega
        rw [if_pos hks, if_pos hks] at e; exact e
      · have hks : ¬ k = s := fun y => z (by rw [y])
        rw [if_neg hks, if_neg hks] at e
        refine c11_sits r hk' (by omega) _ (fun z => ⟨fun y => absurd rfl y, fun _ => ?_⟩) (fun z => ⟨fun _ => ?_, fun y => absurd y (by decide)⟩)
        rotate_left
        rw [k1, s1, k3]
        refine ⟨fun c => k6_ends r hk' _ (k6_begins r hs _ ⟨fun c2 => ?_, fun c2 => k6_begins r hs _ (k6_ends r hk' _ (cJ_min _ _ _ ?_))⟩), fun c => k6_ends r hk' _ (k6_begins r hs _ ⟨fun c2 => ?_, fun c2 => k6_begins r hs _ (k6_ends r hk' _ (cJ_min _ _ _ ?_))⟩)⟩
        rotate_left 4
        · rw [if_pos z, if_pos z] at e
          have e1 : (if mI M 77 k / 7 = mI M 77 s / 7 then lp (f_wkS (mI M) s (nI p)) 0 k else lp (f_wkS (mI M) s (nI p)) 0 k) = lp (f_wkS (mI M) s (nI p)) 0 k := by split <;> rfl
          have e2 : (if f_begins (mI M) s < f_ends (mI M) k then lp (f_rsS (mI M) s (nI p)) 99 k else lp (f_rsS (mI M) s (nI p)) 99 k) = lp (f_rsS (mI M) s (nI p)) 99 k := by split <;> rfl
          rw [e1, e2] at e; exact e
        · rw [if_neg c, if_pos c2] at e; exact e
        · rw [if_neg c, if_neg c2, if_neg z] at e; exact e
        · rw [if_pos c, if_pos c2, if_neg z] at e; exact e
        · rw [if_pos c, if_neg c2, if_neg z, if_neg z] at e; exact e
  exact w_X11_learn l _ _ _ (ty47 s) M q (key ns 0 (by omega))
/-- another service in which the player sits at that time -/
def f_meet (v : o_v) (s : Nat) (p : Int32) (k : Nat) : Bool := !(k == s) && !decide (f_ends v k ≤ f_begins v s) && !decide (f_ends v s ≤ f_begins v k) && !(f_chairOf v k p == -1)
/-- the first bar that holds -/
def f_bar (v : o_v) (n t s p : Nat) (i : Int32) : Nat → Nat → Int32
  | 0, _ => 0
  | m + 1, b => if lg_cmp (f_worth v n t b s p i) 0 = 0 then f_bar v n t s p i m (b + 1) else 4 + nI b
def f_txt (v : o_v) (nt s : Nat) : Nat := (f_textOn v (v 77 s) nt).toNatClampNeg
def f_hinders (v : o_v) (ns nt s p : Nat) (i : Int32) : Int32 :=
  if !(v 69 p == i) && ((v 70 p >>> (i &&& 31)) &&& 1) == 0 then 1 else if f_away v p (v 77 s) then 2 else if (List.range ns).any (f_meet v s (nI p)) then 3 else f_bar v ns (f_txt v nt s) s p i (v 91 (f_txt v nt s)).toNatClampNeg 0
theorem p_bar (M : o_M) (n t s p : Nat) (i : Int32) : ∀ m b, f_bar (pv M) n t s p i m b = f_bar (mI M) n t s p i m b
  | 0, _ => rfl
  | m + 1, b => by unfold f_bar; rw [p_worth, p_bar M n t s p i m (b + 1)]
theorem p_hinders (M : o_M) : f_hinders (pv M) = f_hinders (mI M) := by
  funext ns nt s p i
  unfold f_hinders
  have h1 : f_meet (pv M) s (nI p) = f_meet (mI M) s (nI p) := by funext k; unfold f_meet; rw [p_chairOf]; rfl
  rw [h1, p_bar]; rfl
theorem fr_hinders {N : o_M} (h : Sm M N) : f_hinders (mI N) = f_hinders (mI M) := by rw [← p_hinders, ← p_hinders, h.1]
theorem any_s (f : Nat → Bool) (n : Nat) : (List.range (n + 1)).any f = ((List.range n).any f || f n) := by simp [List.range_succ, List.any_append]
theorem any_m {f : Nat → Bool} {k n : Nat} (hk : k < n) (h : f k = true) : (List.range n).any f = true := List.any_eq_true.mpr ⟨k, List.mem_range.mpr hk, h⟩
theorem k12_isAway (r : Rel M nw np ns nt T) {p : Nat} (hp : p < np) (d : Int32) (q : Int32 → o_M → Prop) (h : q (b2 (f_away (mI M) p d)) M) : K_X12_isAway l [rV (some 60), iV (nI p), iV d] M q := by
  obtain ⟨n, hn6, e, _⟩ := (r.2.2.2.2.2.1.1 p hp).2.2.2.2.2.2.2.2.2.2.2
  have hnp := r.2.2.1.2.1.1
  exact c12_isAway r.1 (by omega) e hn6 d q h
theorem k2_hasLeave (r : Rel M nw np ns nt T) {p : Nat} (hp : p < np) (d : Int32) (q : Int32 → o_M → Prop) (h : q (b2 (f_away (mI M) p d)) M) : K_X2_hasLeave l [rV (some (44 + 128 * p)), iV d] M q := by
  obtain ⟨_, a1, a2, a3, a4, _, _, _, a5, _, _, n, hn6, e, hk⟩ := r.2.2.2.2.2.1.1 p hp
  refine c2_hasLeave (n := n) ⟨ty44 p, ?_, ?_, ?_, ?_⟩ (a5.trans e) hn6 d q ?_
  · rw [a1]; congr 1; omega
  · rw [a2]; congr 1; omega
  · rw [show 44 + 128 * p + 1 = 45 + 128 * p by omega]; exact a3
  · rw [show 44 + 128 * p + 2 = 46 + 128 * p by omega]; exact a4
  · have : g_awayN (mI M) (44 + 128 * p) d n = f_away (mI M) p d := by
      unfold f_away f_awayN g_awayN
      rw [e, nI_clamp (by omega), show 44 + 128 * p + 1 = 45 + 128 * p by omega, show 44 + 128 * p + 2 = 46 + 128 * p by omega]
      apply Bool.eq_iff_iff.mpr
      rw [List.any_eq_true, List.any_eq_true]
      constructor <;> rintro ⟨k, h1, h2⟩ <;> refine ⟨k, h1, ?_⟩ <;> obtain ⟨x, y⟩ := hk k (List.mem_range.mp h1)
      · rw [x, y] at h2; exact h2
      · rw [x, y]; exact h2
    rw [this]; exact h
theorem c12_hinders (r : Rel M nw np ns nt T) {s p : Nat} (hs : s < ns) (hp : p < np) (i : Int32) (q : Int32 → o_M → Prop) (h : ∀ N, Sl M N → q (f_hinders (mI M) ns nt s p i) N) : K_X12_hinders l [rV (some 60), iV (nI s), iV (nI p), iV i] M q := by
  have ⟨r1, r2, r3, r4, r5, r6, r7, r8, r9, r10, r11⟩ := r
  obtain ⟨hn, e16, e60⟩ := r3.2.2.1
  have hnp := r3.2.1.1
  have hcs : (nI s).toNatClampNeg = s := nI_clamp (by omega)
  have hcp : (nI p).toNatClampNeg = p := nI_clamp (by omega)
  have v40 : vp_in (nI s) 40 := vin (by omega) (by decide)
  have v10 : vp_in (nI p) 10 := vin (by omega) (by decide)
  have hM := h M (Sl_r M)
  unfold f_hinders at h hM
  obtain ⟨t, ht, et⟩ := textOn_lt r (mI M 77 s)
  have hnt := r3.2.2.2.1.2.1
  have ett : f_txt (mI M) nt s = t := by unfold f_txt; rw [et]; exact nI_clamp (by omega)
  obtain ⟨b, cl, e, hb8, _, _, _, hb, _⟩ := (r8 t ht).2.2.2.2.2.1
  rw [ett, hb, nI_clamp (by omega)] at h hM
  by_cases c1 : (!(mI M 69 p == i) && ((mI M 70 p >>> (i &&& 31)) &&& 1) == 0) = true
  · rw [if_pos c1] at hM
    simp only [Bool.and_eq_true, Bool.not_eq_true', beq_eq_false_iff_ne, ne_eq, beq_iff_eq] at c1
    refine w_X12_hinders l _ _ _ M q ?_
    rw [hcp, hcs, wn8 r1, wn9 r1]
    exact ⟨wr8 r1, v10, fun z => absurd z c1.1, fun _ => ⟨wr9 r1, v10, fun z => absurd c1.2 z, fun _ => hM⟩⟩
  rw [if_neg c1] at h hM
  by_cases c2 : f_away (mI M) p (mI M 77 s) = true
  · rw [if_pos c2] at hM
    have hA : K_X12_isAway l [rV (some 60), iV (nI p), iV (mI M 77 s)] M (fun r7 M6 => ((r7 = 0 → H_X12_hinders_44 l q (nI s) (nI p) i 0 M6) ∧ (¬ r7 = 0 → q 2 M6))) := k12_isAway r hp _ _ ⟨fun z => by rw [c2] at z; exact absurd z (by decide), fun _ => hM⟩
    refine w_X12_hinders l _ _ _ M q ?_
    rw [hcp, hcs, wn8 r1, wn9 r1, wn16 r1]
    refine ⟨wr8 r1, v10, fun z => ⟨wr16 r1, v40, hA⟩, fun z => ⟨wr9 r1, v10, fun z2 => ⟨wr16 r1, v40, hA⟩, fun z2 => absurd ?_ c1⟩⟩
    simp [z, z2]
  rw [if_neg c2] at h hM
  have c2 : f_away (mI M) p (mI M 77 s) = false := by simpa using c2
  have barL : ∀ m k : Nat, k + m = b → ∀ N, Sl M N → (∀ N', Sl M N' → q (f_bar (mI M) ns t s p i m k) N') → H_X12_hinders_121 l q (nI s) (nI p) i (nI t) (nI k) N := by
    intro m
    induction m with
    | zero =>
      intro k hk N hN hq
      have rN := Rel_Sm hN.1 r
      refine w_X12_hinders_121 l q _ _ _ _ _ N ?_
      rw [wn30 rN.1, nI_clamp (by omega), Sm_i hN.1 (id := 91) (j := t) rfl, hb]
      exact ⟨wr30 rN.1, vin (by omega) (by decide), fun _ => hq N hN, fun z => absurd (nI_le (by omega) (by omega)) z⟩
    | succ m ih =>
      intro k hk N hN hq
      have rN := Rel_Sm hN.1 r
      refine w_X12_hinders_121 l q _ _ _ _ _ N ?_
      rw [wn30 rN.1, nI_clamp (by omega), Sm_i hN.1 (id := 91) (j := t) rfl, hb, n1]
      refine ⟨wr30 rN.1, vin (by omega) (by decide), fun z => ?_, fun _ => c12_worthOf rN (j := k) ht (by rw [Sm_i hN.1 (id := 91) (j := t) rfl, hb]) hb8 (by omega) hs hp i _ (fun N' hN' => ?_)⟩
      · rw [nI_leI (by omega) (by omega)] at z; omega
      rw [fr_worth hN.1]
      unfold f_bar at hq
      refine ⟨fun z => ?_, fun z => ?_⟩
      · rw [if_pos z] at hq; exact ih (k + 1) (by omega) N' (Sl_t hN hN') hq
      · rw [if_neg z] at hq; exact hq N' (Sl_t hN hN')
  have meetL : ∀ m k : Nat, k + m = ns → (List.range k).any (f_meet (mI M) s (nI p)) = false → H_X12_hinders_44 l q (nI s) (nI p) i (nI k) M := by
    intro m
    induction m with
    | zero =>
      intro k hk hno
      have : k = ns := by omega
      subst this
      rw [hno] at h hM
      simp only [Bool.false_eq_true, if_false] at h hM
      refine w_X12_hinders_44 l q _ _ _ _ M ⟨fun _ => ?_, fun z => absurd (by rw [e60]; exact nI_le (Nat.le_refl _) (by omega)) z⟩
      rw [hcs, wn16 r1]
      refine ⟨wr16 r1, v40, k12_textOn r _ _ ?_⟩
      rw [et]
      exact barL b 0 (by omega) M (Sl_r M) h
    | succ m ih =>
      intro k hk hno
      have hks : k < 40 := by omega
      have hcont : f_meet (mI M) s (nI p) k = false → H_X12_hinders_44 l q (nI s) (nI p) i (nI (k + 1)) M := fun hf => ih (k + 1) (by omega) (by rw [any_s, hno, hf]; rfl)
      refine w_X12_hinders_44 l q _ _ _ _ M ⟨fun z => ?_, fun _ => ?_⟩
      · rw [e60, nI_leI (by omega) (by omega)] at z; omega
      rw [n1]
      refine ⟨fun z => ?_, fun z => c12_ends r1 hks _ (c12_begins r1 (by omega) _ ⟨fun z2 => ?_, fun z2 => c12_ends r1 (by omega) _ (c12_begins r1 hks _ ⟨fun z3 => ?_, fun z3 => c12_chairOf r1 hks _ _ ⟨fun z4 => ?_, fun z4 => ?_⟩⟩)⟩)⟩
      · have : k = s := nI_inj (by omega) (by omega) z
        exact hcont (by unfold f_meet; simp [this])
      · exact hcont (by unfold f_meet; simp [z2])
      · exact hcont (by unfold f_meet; simp [z3])
      · exact hcont (by unfold f_meet; simp [z4])
      · have hks' : ¬ k = s := fun y => z (by rw [y])
        have : f_meet (mI M) s (nI p) k = true := by unfold f_meet; simp [hks', z2, z3, z4]
        rw [any_m (by omega) this] at hM
        exact hM
  have hA : K_X12_isAway l [rV (some 60), iV (nI p), iV (mI M 77 s)] M (fun r7 M6 => ((r7 = 0 → H_X12_hinders_44 l q (nI s) (nI p) i 0 M6) ∧ (¬ r7 = 0 → q 2 M6))) := k12_isAway r hp _ _ ⟨fun _ => meetL ns 0 (by omega) rfl, fun z => by rw [c2] at z; exact absurd rfl z⟩
  refine w_X12_hinders l _ _ _ M q ?_
  rw [hcp, hcs, wn8 r1, wn9 r1, wn16 r1]
  refine ⟨wr8 r1, v10, fun z => ⟨wr16 r1, v40, hA⟩, fun z => ⟨wr9 r1, v10, fun z2 => ⟨wr16 r1, v40, hA⟩, fun z2 => absurd ?_ c1⟩⟩
  simp [z, z2]
end S50
