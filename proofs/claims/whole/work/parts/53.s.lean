/-! call -/
section S53
variable {l : Launch} {M : o_M} {nw np ns nt T : Nat}
theorem ite_nI {α : Type} {a b : Nat} (ha : a < 2 ^ 31) (hb : b < 2 ^ 31) (x y : α) : (if nI a ≤ nI b then x else y) = if a ≤ b then x else y := by
  by_cases h : a ≤ b
  · rw [if_pos h, if_pos ((nI_leI ha hb).mpr h)]
  · rw [if_neg h, if_neg (fun z => h ((nI_leI ha hb).mp z))]
def f_nw (kd x y : Int32) : Int32 := if x ≤ (if kd = 4 then (if 1 ≤ y then 1 else y) else (if 3 ≤ y then 3 else y)) then (if kd = 4 then (if 1 ≤ y then 1 else y) else (if 3 ≤ y then 3 else y)) else x
theorem mx_start (v : o_v) (s i : Nat) : ∀ k, ∃ m, m ≤ 3 ∧ f_mx v s i 0 k = nI m ∧ ∀ a, a ≤ 3 → f_mx v s i (nI a) k = nI (max a m)
  | 0 => ⟨0, by omega, rfl, fun a _ => by unfold f_mx; congr 1; omega⟩
  | k + 1 => by
    obtain ⟨m, h1, h2, h3⟩ := mx_start v s i k
    obtain ⟨y, hy, ey⟩ := needOf_nat v (f_wk v s k) i
    refine ⟨max m y, by omega, ?_, fun a ha => ?_⟩
    · unfold f_mx
      rw [h2, ey, ite_nI (by omega) (by omega)]
      split
      · congr 1; omega
      · congr 1; omega
    · unfold f_mx
      rw [h3 a ha, ey, ite_nI (by omega) (by omega)]
      split
      · congr 1; omega
      · congr 1; omega
theorem f_nw_nat (kd : Int32) {x y m : Nat} (hx : x ≤ 3) (hy : y ≤ 3) : f_nw kd (nI x) (nI y) = nI (max x (min (if kd = 4 then 1 else 3) y)) := by
  unfold f_nw
  have e1 : ((1 : Int32) ≤ nI y) ↔ 1 ≤ y := nI_leI (a := 1) (by omega) (by omega)
  have e3 : ((3 : Int32) ≤ nI y) ↔ 3 ≤ y := nI_leI (a := 3) (by omega) (by omega)
  have e4 : (1 : Int32) = nI 1 := rfl
  have e5 : (3 : Int32) = nI 3 := rfl
  by_cases hk : kd = 4
  · simp only [if_pos hk, e1]
    by_cases h1 : 1 ≤ y
    · simp only [if_pos h1]
      rw [e4, ite_nI (by omega) (by omega)]
      split <;> congr 1 <;> omega
    · simp only [if_neg h1]
      rw [ite_nI (by omega) (by omega)]
      split <;> congr 1 <;> omega
  · simp only [if_neg hk, e3]
    by_cases h1 : 3 ≤ y
    · simp only [if_pos h1]
      rw [e5, ite_nI (by omega) (by omega)]
      split <;> congr 1 <;> omega
    · simp only [if_neg h1]
      rw [ite_nI (by omega) (by omega)]
      split <;> congr 1 <;> omega
theorem f_cap_nat (kd : Int32) {x : Nat} (hx : x ≤ 3) : f_cap kd (nI x) = nI (min (if kd = 4 then 1 else 3) x) := by
  unfold f_cap
  by_cases hk : kd = 4
  · simp only [if_pos hk]
    have e1 : (nI x ≤ (1 : Int32)) ↔ x ≤ 1 := nI_leI (b := 1) (by omega) (by omega)
    simp only [e1]
    split
    · congr 1; omega
    · show nI 1 = _; congr 1; omega
  · simp only [if_neg hk]; congr 1; omega
theorem f_nw_eq (v : o_v) (s i w : Nat) : f_nw (v 76 s) (f_need v s i none) (f_needOf v w i) = f_need v s i (some w) := by
  obtain ⟨m, h1, h2, h3⟩ := mx_start v s i (v 80 s).toNatClampNeg
  obtain ⟨y, hy, ey⟩ := needOf_nat v w i
  unfold f_need
  simp only
  rw [h2, ey, h3 y hy, f_cap_nat _ h1, f_cap_nat _ (by omega), f_nw_nat (m := 0) _ (by split <;> omega) hy]
  congr 1
  split <;> omega
theorem c6_needWith {N : o_M} {s w i : Nat} (hi : i < 6) (h5 : mR N (47 + 128 * s) 5 = some (49 + 128 * s)) (hn : mN N (49 + 128 * s) = 6) (q : Int32 → o_M → Prop) (h : q (f_nw (mI N (47 + 128 * s) 0) (mI N (49 + 128 * s) i) ((mI N (43 + 128 * w) 2 >>> ((2 * nI i) &&& 31)) &&& 3)) N) : K_X6_needWith l [rV (some (47 + 128 * s)), rV (some (43 + 128 * w)), iV (nI i)] N q := by
  unfold f_nw at h
  refine w_X6_needWith l _ _ _ (ty47 s) (ty43 w) N q ?_
  rw [show 47 + 128 * s + 2 = 49 + 128 * s by omega, hn, nI_clamp (by omega)]
  refine ⟨fun z => ⟨h5, vin hi (by decide), c10_needOf (ty43 w) _ _ (cJ_min _ _ _ (cJ_max _ _ _ ?_))⟩, fun z => ⟨h5, vin hi (by decide), c10_needOf (ty43 w) _ _ (cJ_min _ _ _ (cJ_max _ _ _ ?_))⟩⟩
  · simp only [if_neg z] at h; exact h
  · simp only [if_pos z] at h; exact h
theorem c6_chairsWith {N : o_M} {s w : Nat} (h5 : mR N (47 + 128 * s) 5 = some (49 + 128 * s)) (hn : mN N (49 + 128 * s) = 6) (q : Int32 → o_M → Prop) (h : q (lp (fun i x => x + f_nw (mI N (47 + 128 * s) 0) (mI N (49 + 128 * s) i) ((mI N (43 + 128 * w) 2 >>> ((2 * nI i) &&& 31)) &&& 3)) 0 6) N) : K_X6_chairsWith l [rV (some (47 + 128 * s)), rV (some (43 + 128 * w))] N q := by
  have key : ∀ m i, i + m = 6 → H_X6_chairsWith_4 l q (47 + 128 * s) (43 + 128 * w) (lp (fun i x => x + f_nw (mI N (47 + 128 * s) 0) (mI N (49 + 128 * s) i) ((mI N (43 + 128 * w) 2 >>> ((2 * nI i) &&& 31)) &&& 3)) 0 i) (nI i) N := by
    intro m
    induction m with
    | zero =>
      intro i hi
      have : i = 6 := by omega
      subst this
      exact w_X6_chairsWith_4 l q _ _ (ty47 s) (ty43 w) _ _ N ⟨fun _ => h, fun z => absurd (by decide) z⟩
    | succ m ih =>
      intro i hi
      refine w_X6_chairsWith_4 l q _ _ (ty47 s) (ty43 w) _ _ N ⟨fun z => ?_, fun _ => c6_needWith (by omega) h5 hn _ ?_⟩
      · (simp (disch := omega) only [ile, ilt, ieq, nI_toInt, Int32.reduceToInt] at z; omega)
      · rw [n1]; exact ih (i + 1) (by omega)
  exact w_X6_chairsWith l _ _ (ty47 s) (ty43 w) N q (key 6 0 (by omega))
theorem chairs_more (v : o_v) (s w : Nat) : f_chairs v s (some w) = lp (fun i x => x + f_nw (v 76 s) (f_need v s i none) (f_needOf v w i)) 0 6 := by
  have : ∀ k, f_chN v s (some w) k = lp (fun i x => x + f_nw (v 76 s) (f_need v s i none) (f_needOf v w i)) 0 k := fun k => by
    induction k with
    | zero => rfl
    | succ k ih => simp only [f_chN, lp, ih, f_nw_eq]
  exact this 6
def f_has (v : o_v) (s : Nat) (w : Int32) (n : Nat) : Bool := (List.range n).any fun k => v 81 (5 * s + k) == w
theorem f_has_s (v : o_v) (s : Nat) (w : Int32) (n : Nat) : f_has v s w (n + 1) = (f_has v s w n || (v 81 (5 * s + n) == w)) := any_s _ n
theorem lp_cong {σ : Type} {f g : Nat → σ → σ} {s : σ} : ∀ n, (∀ k, k < n → ∀ x, f k x = g k x) → lp f s n = lp g s n
  | 0 => fun _ => rfl
  | n + 1 => fun h => by simp only [lp]; rw [lp_cong n (fun k hk => h k (by omega)), h n (by omega)]
theorem c6_hasWork (r : Rel M nw np ns nt T) {s n : Nat} (hs : s < ns) (hn : mI M 80 s = nI n) (hn5 : n ≤ 5) (w : Int32) (q : Int32 → o_M → Prop) (h : q (b2 (f_has (mI M) s w n)) M) : K_X6_hasWork l [rV (some (47 + 128 * s)), iV w] M q := by
  obtain ⟨⟨_, g4, _, _, l4, _⟩, _, ⟨e7, n', hn', en, hk, _⟩, _⟩ := r.2.2.2.2.2.2.1.1 s hs
  have hnn : n' = n := nI_inj (by omega) (by omega) (en.symm.trans hn)
  subst hnn
  have key : ∀ m k, k + m = n' → f_has (mI M) s w k = false → H_X6_hasWork_2 l q (47 + 128 * s) w (nI k) M := by
    intro m
    induction m with
    | zero =>
      intro k hkm hf
      have : k = n' := by omega
      subst this
      rw [hf] at h
      exact w_X6_hasWork_2 l q _ (ty47 s) _ _ M ⟨fun _ => h, fun z => absurd (by rw [e7, en]; exact nI_le (Nat.le_refl _) (by omega)) z⟩
    | succ m ih =>
      intro k hkm hf
      obtain ⟨x, _, h1, h2⟩ := hk k (by omega)
      refine w_X6_hasWork_2 l q _ (ty47 s) _ _ M ⟨fun z => ?_, fun _ => ?_⟩
      · rw [e7, en, nI_leI (by omega) (by omega)] at z; omega
      rw [show 47 + 128 * s + 1 = 48 + 128 * s by omega, l4, nI_clamp (by omega), h2, ← h1, n1]
      refine ⟨g4, vin (by omega) (by decide), fun z => ih (k + 1) (by omega) (by rw [f_has_s, hf]; simp [z]), fun z => ?_⟩
      have : f_has (mI M) s w n' = true := by unfold f_has; exact any_m (k := k) (by omega) (by simp [z])
      rw [this] at h; exact h
  exact w_X6_hasWork l _ _ (ty47 s) M q (key n' 0 (by omega) rfl)
theorem c12_call {N : o_M} (hw : wM N) {s w n : Nat} (hs : s < ns) (hns : ns ≤ 40) (hwn : w < nw) (hnw : nw ≤ 12) (e14 : mI N 60 14 = nI ns) (e0 : mI N 60 0 = nI nw) (hok : okS N s) (en : mI N 80 s = nI n) (hn5 : n ≤ 5) (q : Int32 → o_M → Prop) (h3 : ¬ mI N 83 s = 0 ∨ f_has (mI N) s (nI w) n = true ∨ ¬ f_chairs (mI N) s (some w) ≤ 12 → q (-3) N) (h4 : mI N 83 s = 0 → f_has (mI N) s (nI w) n = false → f_chairs (mI N) s (some w) ≤ 12 → n = 5 → q (-4) N) (h1 : mI N 83 s = 0 → f_has (mI N) s (nI w) n = false → f_chairs (mI N) s (some w) ≤ 12 → n < 5 → q (nI (n + 1)) (sI (sI N 81 (5 * s + n) (nI w)) 80 s (nI (n + 1)))) : K_X12_call l [rV (some 60), iV (nI s), iV (nI w)] N q := by
  have hrs : ¬ b2 (rng (nI s) 0 (nI ns - 1)) = 0 := by rw [rng_ix1 (by omega) hs]; decide
  have hrw : ¬ b2 (rng (nI w) 0 (nI nw - 1)) = 0 := by rw [rng_ix1 (by omega) hwn]; decide
  have hsc : (nI s).toNatClampNeg = s := nI_clamp (by omega)
  have v40 : vp_in (nI s) 40 := vin (by omega) (by decide)
  have key : ∀ m k, k + m = n → H_X12_call_24 l q (nI s) (nI w) (b2 (f_has (mI N) s (nI w) k)) (nI k) N := by
    intro m
    induction m with
    | zero =>
      intro k hkm
      have : k = n := by omega
      subst this
      refine w_X12_call_24 l _ _ _ _ _ N ?_
      rw [hsc, wn19 hw, wn22 hw, en]
      refine ⟨wr19 hw, v40, fun _ => ⟨wr22 hw, v40, fun c => h3 (Or.inl c), fun c => ⟨fun c2 => h3 (Or.inr (Or.inl (b2_n0.mp c2))), fun c2 => c12_chairs hw (by omega) hok (some w) (fun y e => by cases e; omega) _ ⟨fun c3 => ?_, fun c3 => h3 (Or.inr (Or.inr c3))⟩⟩⟩, fun z => absurd (nI_le (Nat.le_refl _) (by omega)) z⟩
      have hix : (5 : Int32) * nI s + nI k = nI (5 * s + k) := ixm 5 s k rfl
      rw [en, hix, nI_clamp (by omega)]
      simp (disch := omega) only [true_and, mI_sI_1, mI_sI_2, mI_sI_3, mI_nW_1, mI_nW_2, mI_sR, mI_sJ, mI_sA_1, mI_sA_2, mR_sI, mR_sJ, mR_sA, mR_sR_1, mR_sR_2, mR_sR_3, mR_nW_1, mR_nW_2, mN_sI, mN_sJ, mN_sR, mN_sA, mN_nW_1, mN_nW_2, mJ_sI, mJ_sR, mJ_sA, mJ_sJ_1, mJ_sJ_2, mJ_sJ_3, mJ_nW_1, mJ_nW_2, wr19 hw, wn19 hw, wr20 hw, wn20 hw, en, n1]
      refine ⟨v40, fun c4 => ?_, fun c4 => ?_⟩
      · have hlt : k < 5 := by
          have : ¬ k = 5 := fun y => c4 (by rw [y]; rfl)
          omega
        exact ⟨v40, vin (by omega) (by decide), v40, v40, v40, h1 c (b2_0.mp c2) c3 hlt⟩
      · exact h4 c (b2_0.mp c2) c3 (nI_inj (by omega) (by omega) c4)
    | succ m ih =>
      intro k hkm
      have e := ih (k + 1) (by omega)
      rw [f_has_s] at e
      have hix : (5 : Int32) * nI s + nI k = nI (5 * s + k) := ixm 5 s k rfl
      refine w_X12_call_24 l _ _ _ _ _ N ?_
      rw [hsc, wn19 hw, en, n1, hix, wn20 hw, nI_clamp (by omega)]
      refine ⟨wr19 hw, v40, fun z => ?_, fun _ => ⟨fun c => ?_, fun c => ⟨wr20 hw, vin (by omega) (by decide), fun c2 => ?_, fun c2 => ?_⟩⟩⟩
      · rw [nI_leI (by omega) (by omega)] at z; omega
      · rw [b2_n0.mp c] at e; exact e
      · have : (mI N 81 (5 * s + k) == nI w) = false := by simp [c2]
        rw [b2_0.mp c, this] at e; exact e
      · have : (mI N 81 (5 * s + k) == nI w) = true := by simp [c2]
        rw [b2_0.mp c, this] at e; exact e
  exact w_X12_call l _ _ N _ (c12_isService _ _ (by rw [e14]; exact ⟨fun y => absurd y hrs, fun _ => c12_isWork _ _ (by rw [e0]; exact ⟨fun _ => key n 0 (by omega), fun y => absurd y hrw⟩)⟩))
theorem need_add {v u : o_v} {s w n i nw : Nat} (hnw : nw ≤ 12) (hw : w < nw) (hn5 : n < 5) (en : v 80 s = nI n) (hk : ∀ j, j < n → ∃ a, a < nw ∧ v 81 (5 * s + j) = nI a) (h64 : u 64 = v 64) (h76 : u 76 s = v 76 s) (h80 : u 80 s = nI (n + 1)) (h81 : ∀ k, k < n → u 81 (5 * s + k) = v 81 (5 * s + k)) (hw81 : u 81 (5 * s + n) = nI w) : f_need u s i none = f_need v s i (some w) := by
  have hmx : ∀ k, k ≤ n → f_mx u s i 0 k = f_mx v s i 0 k := fun k => by
    induction k with
    | zero => intro _; rfl
    | succ k ih =>
      intro hkn
      have e : f_wk u s k = f_wk v s k := by unfold f_wk; rw [h81 k (by omega)]
      unfold f_mx
      rw [ih (by omega), e, f_needOf_e h64]
  obtain ⟨m, m1, m2, m3⟩ := mx_start v s i n
  obtain ⟨y, hy, ey⟩ := needOf_nat v w i
  unfold f_need
  simp only
  rw [h76, h80, en, nI_clamp (by omega), nI_clamp (by omega), ey, m3 y hy]
  unfold f_mx
  rw [hmx n (Nat.le_refl _), m2]
  have e : f_wk u s n = w := by unfold f_wk; rw [hw81]; exact nI_clamp (by omega)
  rw [e, f_needOf_e h64, ey, ite_nI (by omega) (by omega)]
  congr 1
  split <;> congr 1 <;> omega
theorem P_call (r : Rel M nw np ns nt T) (a b : Int32) : K_X11_call l [rV (some 16), iV a, iV b] M (fun r1 M1 => K_X12_call l [rV (some 60), iV a, iV b] M1 (fun r2 M2 => r1 = r2 ∧ Nx T M2)) := by
  have hs : Nx T M := Nx_s r
  have ⟨r1, r2, r3, r4, r5, r6, r7, r8, r9, r10, r11⟩ := r
  have hnw := r3.1.1
  have hns := r3.2.2.1.1
  refine w_X11_call l a b M _ (c11_findService r a _ (fun z => c11_findWork r b _ (fun z2 => ⟨fun _ => ?_, fun b3 e => (by cases e)⟩) (fun i hi e => ⟨fun _ => ?_, fun b3 e => (by cases e)⟩)) (fun s hs' e => c11_findWork r b _ (fun z2 => ⟨fun e => (by cases e), fun b3 e => ?_⟩) (fun w hw e2 => ⟨fun e => (by cases e), fun b3 e => ?_⟩)))
  · exact w_X12_call l a b M _ (k12_isService r a _ ⟨fun _ => ⟨rfl, hs⟩, fun y => absurd (b2_0.mpr z) y⟩)
  · exact w_X12_call l a b M _ (k12_isService r a _ ⟨fun _ => ⟨rfl, hs⟩, fun y => absurd (b2_0.mpr z) y⟩)
  · obtain rfl := Option.some.inj e
    subst a
    refine ⟨ty47 s, fun _ => ?_, fun b3 e => (by cases e)⟩
    refine w_X12_call l _ b M _ (k12_isService r _ _ ⟨fun _ => ⟨rfl, hs⟩, fun _ => k12_isWork r _ _ ⟨fun y => absurd (b2_0.mpr z2) y, fun _ => ⟨rfl, hs⟩⟩⟩)
  · obtain rfl := Option.some.inj e
    subst a b
    refine ⟨ty47 s, fun e => (by cases e), fun b8 e => ?_⟩
    obtain rfl := Option.some.inj e
    have hrs : ¬ b2 (rng (nI s) 0 (nI ns - 1)) = 0 := by rw [rng_ix1 (by omega) hs']; decide
    have hrw : ¬ b2 (rng (nI w) 0 (nI nw - 1)) = 0 := by rw [rng_ix1 (by omega) hw]; decide
    have hsc : (nI s).toNatClampNeg = s := nI_clamp (by omega)
    have v40 : vp_in (nI s) 40 := vin (by omega) (by decide)
    have hok := okS_of r hs'
    obtain ⟨⟨q0, g4, g5, g6, l4, l5, l6⟩, sv2', ⟨e7, n, hn5, en, hk, hd⟩, ⟨nds, chc, m12, hm12, em, e11, q7, q8⟩⟩ := r7.1 s hs'
    have s0 := sv2'.1
    have w2 : mI M (43 + 128 * w) 2 = mI M 64 w := (r5 w hw).2.2.2.1
    have hnn : (nI n).toNatClampNeg = n := nI_clamp (by omega)
    have hmore : lp (fun i x => x + f_nw (mI M (47 + 128 * s) 0) (mI M (49 + 128 * s) i) ((mI M (43 + 128 * w) 2 >>> ((2 * nI i) &&& 31)) &&& 3)) 0 6 = f_chairs (mI M) s (some w) := by
      rw [chairs_more]
      exact lp_cong 6 fun k hk x => by rw [s0, nds k hk, w2]; rfl
    have hcall : ∀ (x : Int32), (¬ mI M 83 s = 0 ∨ f_has (mI M) s (nI w) n = true ∨ ¬ f_chairs (mI M) s (some w) ≤ 12 → x = -3) → (mI M 83 s = 0 → f_has (mI M) s (nI w) n = false → f_chairs (mI M) s (some w) ≤ 12 → n = 5 ∧ x = -4) → K_X12_call l [rV (some 60), iV (nI s), iV (nI w)] M (fun r2 M2 => x = r2 ∧ Nx T M2) := fun x hx1 hx2 =>
      c12_call r1 hs' hns hw hnw r3.2.2.1.2.2 r3.1.2.2 hok en hn5 _ (fun y => ⟨hx1 y, hs⟩) (fun y1 y2 y3 _ => ⟨(hx2 y1 y2 y3).2, hs⟩) (fun y1 y2 y3 y4 => absurd (hx2 y1 y2 y3).1 (by omega))
    rw [e11]
    refine ⟨ty43 w, fun z => hcall _ (fun _ => rfl) (fun y => absurd y z), fun z => c6_hasWork r hs' en hn5 _ _ ⟨fun z2 => hcall _ (fun _ => rfl) (fun _ y => by rw [b2_n0.mp z2] at y; cases y), fun z2 => c6_chairsWith g5 l5 _ ?_⟩⟩
    rw [hmore, e7, en]
    refine ⟨fun z3 => ⟨fun z4 => ?_, fun z4 => ?_⟩, fun z3 => hcall _ (fun _ => rfl) (fun _ _ y => absurd y z3)⟩
    · have hlt : n < 5 := by (simp (disch := omega) only [ile, ilt, ieq, nI_toInt, Int32.reduceToInt] at z4; omega)
      refine w_X6_addWork l _ _ _ (ty47 s) (ty43 w) M _ ⟨fun _ => ?_, fun y => absurd (by rw [e7, en]; exact z4) y⟩
      rw [show 47 + 128 * s + 1 = 48 + 128 * s by omega, l4, e7, en, hnn]
      refine ⟨g4, vin hlt (by decide), ?_⟩
      simp (disch := omega) only [true_and, mI_sI_1, mI_sI_2, mI_sI_3, mI_nW_1, mI_nW_2, mI_sR, mI_sJ, mI_sA_1, mI_sA_2, mR_sI, mR_sJ, mR_sA, mR_sR_1, mR_sR_2, mR_sR_3, mR_nW_1, mR_nW_2, mN_sI, mN_sJ, mN_sR, mN_sA, mN_nW_1, mN_nW_2, mJ_sI, mJ_sR, mJ_sA, mJ_sJ_1, mJ_sJ_2, mJ_sJ_3, mJ_nW_1, mJ_nW_2, e7, en, n1]
      refine c6_chairsWith (by simp (disch := omega) only [true_and, mI_sI_1, mI_sI_2, mI_sI_3, mI_nW_1, mI_nW_2, mI_sR, mI_sJ, mI_sA_1, mI_sA_2, mR_sI, mR_sJ, mR_sA, mR_sR_1, mR_sR_2, mR_sR_3, mR_nW_1, mR_nW_2, mN_sI, mN_sJ, mN_sR, mN_sA, mN_nW_1, mN_nW_2, mJ_sI, mJ_sR, mJ_sA, mJ_sJ_1, mJ_sJ_2, mJ_sJ_3, mJ_nW_1, mJ_nW_2, g5]) (by simp (disch := omega) only [true_and, mI_sI_1, mI_sI_2, mI_sI_3, mI_nW_1, mI_nW_2, mI_sR, mI_sJ, mI_sA_1, mI_sA_2, mR_sI, mR_sJ, mR_sA, mR_sR_1, mR_sR_2, mR_sR_3, mR_nW_1, mR_nW_2, mN_sI, mN_sJ, mN_sR, mN_sA, mN_nW_1, mN_nW_2, mJ_sI, mJ_sR, mJ_sA, mJ_sJ_1, mJ_sJ_2, mJ_sJ_3, mJ_nW_1, mJ_nW_2, l5]) _ ?_
      have hmore2 : lp (fun i x => x + f_nw (mI (sI (sI M (48 + 128 * s) n (nI w)) (47 + 128 * s) 7 (nI (n + 1))) (47 + 128 * s) 0) (mI (sI (sI M (48 + 128 * s) n (nI w)) (47 + 128 * s) 7 (nI (n + 1))) (49 + 128 * s) i) ((mI (sI (sI M (48 + 128 * s) n (nI w)) (47 + 128 * s) 7 (nI (n + 1))) (43 + 128 * w) 2 >>> ((2 * nI i) &&& 31)) &&& 3)) 0 6 = f_chairs (mI M) s (some w) := by
        rw [← hmore]
        exact lp_cong 6 fun k hk x => by simp (disch := omega) only [true_and, mI_sI_1, mI_sI_2, mI_sI_3, mI_nW_1, mI_nW_2, mI_sR, mI_sJ, mI_sA_1, mI_sA_2, mR_sI, mR_sJ, mR_sA, mR_sR_1, mR_sR_2, mR_sR_3, mR_nW_1, mR_nW_2, mN_sI, mN_sJ, mN_sR, mN_sA, mN_nW_1, mN_nW_2, mJ_sI, mJ_sR, mJ_sA, mJ_sJ_1, mJ_sJ_2, mJ_sJ_3, mJ_nW_1, mJ_nW_2]
      rw [hmore2]
      have key : ∀ m i, i + m = 6 → ∀ N, Wr (sI (sI (sI M (48 + 128 * s) n (nI w)) (47 + 128 * s) 7 (nI (n + 1))) (47 + 128 * s) 8 (f_chairs (mI M) s (some w))) N (49 + 128 * s) 0 i (fun i => f_need (mI M) s i (some w)) → H_X6_addWork_40 l (fun M19 => K_X12_call l [rV (some 60), iV (nI s), iV (nI w)] M19 (fun r2 M2 => mI M19 (47 + 128 * s) 7 = r2 ∧ Nx T M2)) (47 + 128 * s) (43 + 128 * w) (nI i) N := by
        intro m
        induction m with
        | zero =>
          intro i hi N hN
          have hi6 : i = 6 := by omega
          subst hi6
          refine w_X6_addWork_40 l _ _ _ (ty47 s) (ty43 w) _ N ⟨fun _ => ?_, fun y => absurd (by decide) y⟩
          have hR : mR N = mR M := hN.2.2.1
          have hNN : mN N = mN M := hN.2.2.2.1
          have hI : ∀ a j, a ≠ 47 + 128 * s → a ≠ 48 + 128 * s → a ≠ 49 + 128 * s → mI N a j = mI M a j := fun a j f1 f2 f3 => by rw [Wr_o hN f3]; simp (disch := omega) only [true_and, mI_sI_1, mI_sI_2, mI_sI_3, mI_nW_1, mI_nW_2, mI_sR, mI_sJ, mI_sA_1, mI_sA_2, mR_sI, mR_sJ, mR_sA, mR_sR_1, mR_sR_2, mR_sR_3, mR_nW_1, mR_nW_2, mN_sI, mN_sJ, mN_sR, mN_sA, mN_nW_1, mN_nW_2, mJ_sI, mJ_sR, mJ_sA, mJ_sJ_1, mJ_sJ_2, mJ_sJ_3, mJ_nW_1, mJ_nW_2]
          have hrow : ∀ a, a ≠ 47 + 128 * s → a ≠ 48 + 128 * s → a ≠ 49 + 128 * s → mI N a = mI M a := fun a f1 f2 f3 => funext fun j => hI a j f1 f2 f3
          have e64 := hrow 64 (by omega) (by omega) (by omega)
          have e76 := hrow 76 (by omega) (by omega) (by omega)
          have e80 := hrow 80 (by omega) (by omega) (by omega)
          have e81 := hrow 81 (by omega) (by omega) (by omega)
          have e82 := hrow 82 (by omega) (by omega) (by omega)
          have e83 := hrow 83 (by omega) (by omega) (by omega)
          have wN : wM N := by unfold wM; rw [hR, hNN]; exact r1
          have okN : okS N s := by unfold okS; rw [e80, e81]; exact hok
          have hneedm : f_need (mI N) = f_need (mI M) := f_need_e e64 e81 e76 e80
          have hhas : f_has (mI N) s (nI w) n = f_has (mI M) s (nI w) n := by unfold f_has; rw [e81]
          have hchm : f_chairs (mI N) = f_chairs (mI M) := f_chairs_e hneedm
          refine c12_call wN hs' hns hw hnw (by rw [hI 60 14 (by omega) (by omega) (by omega)]; exact r3.2.2.1.2.2) (by rw [hI 60 0 (by omega) (by omega) (by omega)]; exact r3.1.2.2) okN (by rw [e80]; exact en) hn5 _ (fun y => ?_) (fun _ _ _ y => by omega) (fun y1 y2 y3 y4 => ⟨?_, ?_⟩)
          · rw [e83, hhas, hchm, b2_0.mp z2] at y
            rcases y with y | y | y
            · exact absurd z y
            · cases y
            · exact absurd z3 y
          · rw [Wr_o hN (by omega)]; simp (disch := omega) only [true_and, mI_sI_1, mI_sI_2, mI_sI_3, mI_nW_1, mI_nW_2, mI_sR, mI_sJ, mI_sA_1, mI_sA_2, mR_sI, mR_sJ, mR_sA, mR_sR_1, mR_sR_2, mR_sR_3, mR_nW_1, mR_nW_2, mN_sI, mN_sJ, mN_sR, mN_sA, mN_nW_1, mN_nW_2, mJ_sI, mJ_sR, mJ_sA, mJ_sJ_1, mJ_sJ_2, mJ_sJ_3, mJ_nW_1, mJ_nW_2]
          · refine Nx_s (nw := nw) (np := np) (ns := ns) (nt := nt) ?_
            have hF : ∀ {F : Nat → Prop}, ¬ F (47 + 128 * s) → ¬ F (48 + 128 * s) → ¬ F (49 + 128 * s) → ¬ F 80 → ¬ F 81 → Fr F M (sI (sI N 81 (5 * s + n) (nI w)) 80 s (nI (n + 1))) := fun f1 f2 f3 f4 f5 => Fr_sI (Fr_sI (Fr_t (Fr_sI (Fr_sI (Fr_sI (Fr_r _ _) f2 _ _) f1 _ _) f1 _ _) (Wr_fr hN f3)) f5 _ _) f4 _ _
            refine ⟨wM_k (fun k => by simp (disch := omega) only [true_and, mI_sI_1, mI_sI_2, mI_sI_3, mI_nW_1, mI_nW_2, mI_sR, mI_sJ, mI_sA_1, mI_sA_2, mR_sI, mR_sJ, mR_sA, mR_sR_1, mR_sR_2, mR_sR_3, mR_nW_1, mR_nW_2, mN_sI, mN_sJ, mN_sR, mN_sA, mN_nW_1, mN_nW_2, mJ_sI, mJ_sR, mJ_sA, mJ_sJ_1, mJ_sJ_2, mJ_sJ_3, mJ_nW_1, mJ_nW_2, hR]) (fun x _ _ => by simp (disch := omega) only [true_and, mI_sI_1, mI_sI_2, mI_sI_3, mI_nW_1, mI_nW_2, mI_sR, mI_sJ, mI_sA_1, mI_sA_2, mR_sI, mR_sJ, mR_sA, mR_sR_1, mR_sR_2, mR_sR_3, mR_nW_1, mR_nW_2, mN_sI, mN_sJ, mN_sR, mN_sA, mN_nW_1, mN_nW_2, mJ_sI, mJ_sR, mJ_sA, mJ_sJ_1, mJ_sJ_2, mJ_sJ_3, mJ_nW_1, mJ_nW_2, hNN]) r1, wX_k (fun x k hx => by simp (disch := omega) only [true_and, mI_sI_1, mI_sI_2, mI_sI_3, mI_nW_1, mI_nW_2, mI_sR, mI_sJ, mI_sA_1, mI_sA_2, mR_sI, mR_sJ, mR_sA, mR_sR_1, mR_sR_2, mR_sR_3, mR_nW_1, mR_nW_2, mN_sI, mN_sJ, mN_sR, mN_sA, mN_nW_1, mN_nW_2, mJ_sI, mJ_sR, mJ_sA, mJ_sJ_1, mJ_sJ_2, mJ_sJ_3, mJ_nW_1, mJ_nW_2, hR]) (fun x _ _ => by simp (disch := omega) only [true_and, mI_sI_1, mI_sI_2, mI_sI_3, mI_nW_1, mI_nW_2, mI_sR, mI_sJ, mI_sA_1, mI_sA_2, mR_sI, mR_sJ, mR_sA, mR_sR_1, mR_sR_2, mR_sR_3, mR_nW_1, mR_nW_2, mN_sI, mN_sJ, mN_sR, mN_sA, mN_nW_1, mN_nW_2, mJ_sI, mJ_sR, mJ_sA, mJ_sJ_1, mJ_sJ_2, mJ_sJ_3, mJ_nW_1, mJ_nW_2, hNN]) r2, ?_, ?_, RW_fr (hF (by unfold FW; omega) (by unfold FW; omega) (by unfold FW; omega) (by unfold FW; omega) (by unfold FW; omega)) r5, RP_fr (hF (by unfold FP; omega) (by unfold FP; omega) (by unfold FP; omega) (by unfold FP; omega) (by unfold FP; omega)) r6, ?_, RT_fr (hF (by unfold FT; omega) (by unfold FT; omega) (by unfold FT; omega) (by unfold FT; omega) (by unfold FT; omega)) r8, RY_fr (hF (by unfold FY; omega) (by unfold FY; omega) (by unfold FY; omega) (by unfold FY; omega) (by unfold FY; omega)) r9, ?_, ?_⟩
            · unfold RC
              simp (disch := omega) only [true_and, mI_sI_1, mI_sI_2, mI_sI_3, mI_nW_1, mI_nW_2, mI_sR, mI_sJ, mI_sA_1, mI_sA_2, mR_sI, mR_sJ, mR_sA, mR_sR_1, mR_sR_2, mR_sR_3, mR_nW_1, mR_nW_2, mN_sI, mN_sJ, mN_sR, mN_sA, mN_nW_1, mN_nW_2, mJ_sI, mJ_sR, mJ_sA, mJ_sJ_1, mJ_sJ_2, mJ_sJ_3, mJ_nW_1, mJ_nW_2]
              rw [hrow 16 (by omega) (by omega) (by omega), hrow 60 (by omega) (by omega) (by omega)]
              exact r3
            · intro x hx
              rw [mL_sI, mL_sI, hN.2.2.2.2] at hx
              exact r4 x hx
            · refine ⟨fun s' hs2 => ?_, fun s' h1 h2 => by simp (disch := omega) only [true_and, mI_sI_1, mI_sI_2, mI_sI_3, mI_nW_1, mI_nW_2, mI_sR, mI_sJ, mI_sA_1, mI_sA_2, mR_sI, mR_sJ, mR_sA, mR_sR_1, mR_sR_2, mR_sR_3, mR_nW_1, mR_nW_2, mN_sI, mN_sJ, mN_sR, mN_sA, mN_nW_1, mN_nW_2, mJ_sI, mJ_sR, mJ_sA, mJ_sJ_1, mJ_sJ_2, mJ_sJ_3, mJ_nW_1, mJ_nW_2]; rw [e80, e83]; exact r7.2 s' h1 h2⟩
              by_cases hss : s' = s
              · subst hss
                generalize hN2 : sI _ 80 s' _ = N2
                have r64 : mI N2 64 = mI M 64 := by subst hN2; funext j; simp (disch := omega) only [true_and, mI_sI_1, mI_sI_2, mI_sI_3, mI_nW_1, mI_nW_2, mI_sR, mI_sJ, mI_sA_1, mI_sA_2, mR_sI, mR_sJ, mR_sA, mR_sR_1, mR_sR_2, mR_sR_3, mR_nW_1, mR_nW_2, mN_sI, mN_sJ, mN_sR, mN_sA, mN_nW_1, mN_nW_2, mJ_sI, mJ_sR, mJ_sA, mJ_sJ_1, mJ_sJ_2, mJ_sJ_3, mJ_nW_1, mJ_nW_2]; rw [e64]
                have r76 : mI N2 76 s' = mI M 76 s' := by subst hN2; simp (disch := omega) only [true_and, mI_sI_1, mI_sI_2, mI_sI_3, mI_nW_1, mI_nW_2, mI_sR, mI_sJ, mI_sA_1, mI_sA_2, mR_sI, mR_sJ, mR_sA, mR_sR_1, mR_sR_2, mR_sR_3, mR_nW_1, mR_nW_2, mN_sI, mN_sJ, mN_sR, mN_sA, mN_nW_1, mN_nW_2, mJ_sI, mJ_sR, mJ_sA, mJ_sJ_1, mJ_sJ_2, mJ_sJ_3, mJ_nW_1, mJ_nW_2]; rw [e76]
                have r80 : mI N2 80 s' = nI (n + 1) := by subst hN2; simp (disch := omega) only [true_and, mI_sI_1, mI_sI_2, mI_sI_3, mI_nW_1, mI_nW_2, mI_sR, mI_sJ, mI_sA_1, mI_sA_2, mR_sI, mR_sJ, mR_sA, mR_sR_1, mR_sR_2, mR_sR_3, mR_nW_1, mR_nW_2, mN_sI, mN_sJ, mN_sR, mN_sA, mN_nW_1, mN_nW_2, mJ_sI, mJ_sR, mJ_sA, mJ_sJ_1, mJ_sJ_2, mJ_sJ_3, mJ_nW_1, mJ_nW_2]
                have r81 : ∀ k, k < n → mI N2 81 (5 * s' + k) = mI M 81 (5 * s' + k) := fun k hk => by subst hN2; simp (disch := omega) only [true_and, mI_sI_1, mI_sI_2, mI_sI_3, mI_nW_1, mI_nW_2, mI_sR, mI_sJ, mI_sA_1, mI_sA_2, mR_sI, mR_sJ, mR_sA, mR_sR_1, mR_sR_2, mR_sR_3, mR_nW_1, mR_nW_2, mN_sI, mN_sJ, mN_sR, mN_sA, mN_nW_1, mN_nW_2, mJ_sI, mJ_sR, mJ_sA, mJ_sJ_1, mJ_sJ_2, mJ_sJ_3, mJ_nW_1, mJ_nW_2]; rw [e81]
                have r81w : mI N2 81 (5 * s' + n) = nI w := by subst hN2; simp (disch := omega) only [true_and, mI_sI_1, mI_sI_2, mI_sI_3, mI_nW_1, mI_nW_2, mI_sR, mI_sJ, mI_sA_1, mI_sA_2, mR_sI, mR_sJ, mR_sA, mR_sR_1, mR_sR_2, mR_sR_3, mR_nW_1, mR_nW_2, mN_sI, mN_sJ, mN_sR, mN_sA, mN_nW_1, mN_nW_2, mJ_sI, mJ_sR, mJ_sA, mJ_sJ_1, mJ_sJ_2, mJ_sJ_3, mJ_nW_1, mJ_nW_2]
                have r82 : mI N2 82 = mI M 82 := by subst hN2; funext j; simp (disch := omega) only [true_and, mI_sI_1, mI_sI_2, mI_sI_3, mI_nW_1, mI_nW_2, mI_sR, mI_sJ, mI_sA_1, mI_sA_2, mR_sI, mR_sJ, mR_sA, mR_sR_1, mR_sR_2, mR_sR_3, mR_nW_1, mR_nW_2, mN_sI, mN_sJ, mN_sR, mN_sA, mN_nW_1, mN_nW_2, mJ_sI, mJ_sR, mJ_sA, mJ_sJ_1, mJ_sJ_2, mJ_sJ_3, mJ_nW_1, mJ_nW_2]; rw [e82]
                have r83 : mI N2 83 = mI M 83 := by subst hN2; funext j; simp (disch := omega) only [true_and, mI_sI_1, mI_sI_2, mI_sI_3, mI_nW_1, mI_nW_2, mI_sR, mI_sJ, mI_sA_1, mI_sA_2, mR_sI, mR_sJ, mR_sA, mR_sR_1, mR_sR_2, mR_sR_3, mR_nW_1, mR_nW_2, mN_sI, mN_sJ, mN_sR, mN_sA, mN_nW_1, mN_nW_2, mJ_sI, mJ_sR, mJ_sA, mJ_sJ_1, mJ_sJ_2, mJ_sJ_3, mJ_nW_1, mJ_nW_2]; rw [e83]
                have hadd : ∀ i, f_need (mI N2) s' i none = f_need (mI M) s' i (some w) := fun i => need_add hnw hw hlt en (fun j hj => by obtain ⟨a, h1, h2, _⟩ := hk j hj; exact ⟨a, h1, h2⟩) r64 r76 r80 r81 r81w
                have hcadd : f_chairs (mI N2) s' none = f_chairs (mI M) s' (some w) := by
                  have : ∀ k, f_chN (mI N2) s' none k = f_chN (mI M) s' (some w) k := fun k => by
                    induction k with
                    | zero => rfl
                    | succ k ih => simp only [f_chN, ih, hadd]
                  exact this 6
                have h47 : ∀ j, j ≠ 7 → j ≠ 8 → mI N2 (47 + 128 * s') j = mI M (47 + 128 * s') j := fun j f1 f2 => by subst hN2; simp (disch := omega) only [true_and, mI_sI_1, mI_sI_2, mI_sI_3, mI_nW_1, mI_nW_2, mI_sR, mI_sJ, mI_sA_1, mI_sA_2, mR_sI, mR_sJ, mR_sA, mR_sR_1, mR_sR_2, mR_sR_3, mR_nW_1, mR_nW_2, mN_sI, mN_sJ, mN_sR, mN_sA, mN_nW_1, mN_nW_2, mJ_sI, mJ_sR, mJ_sA, mJ_sJ_1, mJ_sJ_2, mJ_sJ_3, mJ_nW_1, mJ_nW_2]; rw [Wr_o hN (by omega)]; simp (disch := omega) only [true_and, mI_sI_1, mI_sI_2, mI_sI_3, mI_nW_1, mI_nW_2, mI_sR, mI_sJ, mI_sA_1, mI_sA_2, mR_sI, mR_sJ, mR_sA, mR_sR_1, mR_sR_2, mR_sR_3, mR_nW_1, mR_nW_2, mN_sI, mN_sJ, mN_sR, mN_sA, mN_nW_1, mN_nW_2, mJ_sI, mJ_sR, mJ_sA, mJ_sJ_1, mJ_sJ_2, mJ_sJ_3, mJ_nW_1, mJ_nW_2]
                refine ⟨?_, ?_, ⟨?_, n + 1, by omega, r80, fun k hk' => ?_, fun j k h1 h2 => ?_⟩, ⟨fun i hi => ?_, ?_, cs (mI N2) s' 6, ?_, chairs_cs _ _, ?_, Or.inl (by rw [r83]; exact z), fun p hp => ?_⟩⟩
                · subst hN2; unfold SV1; simp (disch := omega) only [true_and, mI_sI_1, mI_sI_2, mI_sI_3, mI_nW_1, mI_nW_2, mI_sR, mI_sJ, mI_sA_1, mI_sA_2, mR_sI, mR_sJ, mR_sA, mR_sR_1, mR_sR_2, mR_sR_3, mR_nW_1, mR_nW_2, mN_sI, mN_sJ, mN_sR, mN_sA, mN_nW_1, mN_nW_2, mJ_sI, mJ_sR, mJ_sA, mJ_sJ_1, mJ_sJ_2, mJ_sJ_3, mJ_nW_1, mJ_nW_2, hR, hNN]; exact ⟨q0, g4, g5, g6, l4, l5, l6⟩
                · unfold SV2 at *
                  rw [h47 0 (by omega) (by omega), h47 1 (by omega) (by omega), h47 2 (by omega) (by omega), h47 3 (by omega) (by omega), r76]
                  subst hN2; simp (disch := omega) only [true_and, mI_sI_1, mI_sI_2, mI_sI_3, mI_nW_1, mI_nW_2, mI_sR, mI_sJ, mI_sA_1, mI_sA_2, mR_sI, mR_sJ, mR_sA, mR_sR_1, mR_sR_2, mR_sR_3, mR_nW_1, mR_nW_2, mN_sI, mN_sJ, mN_sR, mN_sA, mN_nW_1, mN_nW_2, mJ_sI, mJ_sR, mJ_sA, mJ_sJ_1, mJ_sJ_2, mJ_sJ_3, mJ_nW_1, mJ_nW_2]; rw [hI 77 _ (by omega) (by omega) (by omega), hI 78 _ (by omega) (by omega) (by omega), hI 79 _ (by omega) (by omega) (by omega)]; exact sv2'
                · rw [r80]; subst hN2; simp (disch := omega) only [true_and, mI_sI_1, mI_sI_2, mI_sI_3, mI_nW_1, mI_nW_2, mI_sR, mI_sJ, mI_sA_1, mI_sA_2, mR_sI, mR_sJ, mR_sA, mR_sR_1, mR_sR_2, mR_sR_3, mR_nW_1, mR_nW_2, mN_sI, mN_sJ, mN_sR, mN_sA, mN_nW_1, mN_nW_2, mJ_sI, mJ_sR, mJ_sA, mJ_sJ_1, mJ_sJ_2, mJ_sJ_3, mJ_nW_1, mJ_nW_2]; rw [Wr_o hN (by omega)]; simp (disch := omega) only [true_and, mI_sI_1, mI_sI_2, mI_sI_3, mI_nW_1, mI_nW_2, mI_sR, mI_sJ, mI_sA_1, mI_sA_2, mR_sI, mR_sJ, mR_sA, mR_sR_1, mR_sR_2, mR_sR_3, mR_nW_1, mR_nW_2, mN_sI, mN_sJ, mN_sR, mN_sA, mN_nW_1, mN_nW_2, mJ_sI, mJ_sR, mJ_sA, mJ_sJ_1, mJ_sJ_2, mJ_sJ_3, mJ_nW_1, mJ_nW_2]
                · by_cases hkn : k = n
                  · subst hkn
                    refine ⟨w, hw, r81w, ?_⟩
                    subst hN2; simp (disch := omega) only [true_and, mI_sI_1, mI_sI_2, mI_sI_3, mI_nW_1, mI_nW_2, mI_sR, mI_sJ, mI_sA_1, mI_sA_2, mR_sI, mR_sJ, mR_sA, mR_sR_1, mR_sR_2, mR_sR_3, mR_nW_1, mR_nW_2, mN_sI, mN_sJ, mN_sR, mN_sA, mN_nW_1, mN_nW_2, mJ_sI, mJ_sR, mJ_sA, mJ_sJ_1, mJ_sJ_2, mJ_sJ_3, mJ_nW_1, mJ_nW_2]; rw [Wr_o hN (by omega)]; simp (disch := omega) only [true_and, mI_sI_1, mI_sI_2, mI_sI_3, mI_nW_1, mI_nW_2, mI_sR, mI_sJ, mI_sA_1, mI_sA_2, mR_sI, mR_sJ, mR_sA, mR_sR_1, mR_sR_2, mR_sR_3, mR_nW_1, mR_nW_2, mN_sI, mN_sJ, mN_sR, mN_sA, mN_nW_1, mN_nW_2, mJ_sI, mJ_sR, mJ_sA, mJ_sJ_1, mJ_sJ_2, mJ_sJ_3, mJ_nW_1, mJ_nW_2]
                  · obtain ⟨a, h1, h2, h3⟩ := hk k (by omega)
                    refine ⟨a, h1, by rw [r81 k (by omega)]; exact h2, ?_⟩
                    subst hN2; simp (disch := omega) only [true_and, mI_sI_1, mI_sI_2, mI_sI_3, mI_nW_1, mI_nW_2, mI_sR, mI_sJ, mI_sA_1, mI_sA_2, mR_sI, mR_sJ, mR_sA, mR_sR_1, mR_sR_2, mR_sR_3, mR_nW_1, mR_nW_2, mN_sI, mN_sJ, mN_sR, mN_sA, mN_nW_1, mN_nW_2, mJ_sI, mJ_sR, mJ_sA, mJ_sJ_1, mJ_sJ_2, mJ_sJ_3, mJ_nW_1, mJ_nW_2]; rw [Wr_o hN (by omega)]; simp (disch := omega) only [true_and, mI_sI_1, mI_sI_2, mI_sI_3, mI_nW_1, mI_nW_2, mI_sR, mI_sJ, mI_sA_1, mI_sA_2, mR_sI, mR_sJ, mR_sA, mR_sR_1, mR_sR_2, mR_sR_3, mR_nW_1, mR_nW_2, mN_sI, mN_sJ, mN_sR, mN_sA, mN_nW_1, mN_nW_2, mJ_sI, mJ_sR, mJ_sA, mJ_sJ_1, mJ_sJ_2, mJ_sJ_3, mJ_nW_1, mJ_nW_2]; exact h3
                · by_cases hkn : k = n
                  · subst hkn
                    rw [r81w, r81 j h1]
                    intro y
                    have : f_has (mI M) s' (nI w) k = true := any_m (k := j) h1 (by simp [y])
                    rw [b2_0.mp z2] at this; cases this
                  · rw [r81 j (by omega), r81 k (by omega)]; exact hd j k h1 (by omega)
                · rw [hadd]; subst hN2; simp (disch := omega) only [true_and, mI_sI_1, mI_sI_2, mI_sI_3, mI_nW_1, mI_nW_2, mI_sR, mI_sJ, mI_sA_1, mI_sA_2, mR_sI, mR_sJ, mR_sA, mR_sR_1, mR_sR_2, mR_sR_3, mR_nW_1, mR_nW_2, mN_sI, mN_sJ, mN_sR, mN_sA, mN_nW_1, mN_nW_2, mJ_sI, mJ_sR, mJ_sA, mJ_sJ_1, mJ_sJ_2, mJ_sJ_3, mJ_nW_1, mJ_nW_2]; rw [hN.1, if_pos (by omega)]; rfl
                · rw [hcadd]; subst hN2; simp (disch := omega) only [true_and, mI_sI_1, mI_sI_2, mI_sI_3, mI_nW_1, mI_nW_2, mI_sR, mI_sJ, mI_sA_1, mI_sA_2, mR_sI, mR_sJ, mR_sA, mR_sR_1, mR_sR_2, mR_sR_3, mR_nW_1, mR_nW_2, mN_sI, mN_sJ, mN_sR, mN_sA, mN_nW_1, mN_nW_2, mJ_sI, mJ_sR, mJ_sA, mJ_sJ_1, mJ_sJ_2, mJ_sJ_3, mJ_nW_1, mJ_nW_2]; rw [Wr_o hN (by omega)]; simp (disch := omega) only [true_and, mI_sI_1, mI_sI_2, mI_sI_3, mI_nW_1, mI_nW_2, mI_sR, mI_sJ, mI_sA_1, mI_sA_2, mR_sI, mR_sJ, mR_sA, mR_sR_1, mR_sR_2, mR_sR_3, mR_nW_1, mR_nW_2, mN_sI, mN_sJ, mN_sR, mN_sA, mN_nW_1, mN_nW_2, mJ_sI, mJ_sR, mJ_sA, mJ_sJ_1, mJ_sJ_2, mJ_sJ_3, mJ_nW_1, mJ_nW_2]
                · have h18 := cs_le (mI N2) s' 6
                  rw [← hcadd, chairs_cs] at z3
                  (simp (disch := omega) only [ile, ilt, ieq, nI_toInt, Int32.reduceToInt] at z3; omega)
                · rw [h47 11 (by omega) (by omega), r83]; exact e11
                · rw [h47 10 (by omega) (by omega), f_chairOf_e r82 r83]; exact q8 p hp
              · refine SV_s hnw (Nat.le_refl _) (by simp (disch := omega) only [true_and, mI_sI_1, mI_sI_2, mI_sI_3, mI_nW_1, mI_nW_2, mI_sR, mI_sJ, mI_sA_1, mI_sA_2, mR_sI, mR_sJ, mR_sA, mR_sR_1, mR_sR_2, mR_sR_3, mR_nW_1, mR_nW_2, mN_sI, mN_sJ, mN_sR, mN_sA, mN_nW_1, mN_nW_2, mJ_sI, mJ_sR, mJ_sA, mJ_sJ_1, mJ_sJ_2, mJ_sJ_3, mJ_nW_1, mJ_nW_2, hR]) (fun t h1 h2 => ⟨fun j => ?_, fun j => by simp (disch := omega) only [true_and, mI_sI_1, mI_sI_2, mI_sI_3, mI_nW_1, mI_nW_2, mI_sR, mI_sJ, mI_sA_1, mI_sA_2, mR_sI, mR_sJ, mR_sA, mR_sR_1, mR_sR_2, mR_sR_3, mR_nW_1, mR_nW_2, mN_sI, mN_sJ, mN_sR, mN_sA, mN_nW_1, mN_nW_2, mJ_sI, mJ_sR, mJ_sA, mJ_sJ_1, mJ_sJ_2, mJ_sJ_3, mJ_nW_1, mJ_nW_2, hR], by simp (disch := omega) only [true_and, mI_sI_1, mI_sI_2, mI_sI_3, mI_nW_1, mI_nW_2, mI_sR, mI_sJ, mI_sA_1, mI_sA_2, mR_sI, mR_sJ, mR_sA, mR_sR_1, mR_sR_2, mR_sR_3, mR_nW_1, mR_nW_2, mN_sI, mN_sJ, mN_sR, mN_sA, mN_nW_1, mN_nW_2, mJ_sI, mJ_sR, mJ_sA, mJ_sJ_1, mJ_sJ_2, mJ_sJ_3, mJ_nW_1, mJ_nW_2, hNN]⟩) (by simp (disch := omega) only [true_and, mI_sI_1, mI_sI_2, mI_sI_3, mI_nW_1, mI_nW_2, mI_sR, mI_sJ, mI_sA_1, mI_sA_2, mR_sI, mR_sJ, mR_sA, mR_sR_1, mR_sR_2, mR_sR_3, mR_nW_1, mR_nW_2, mN_sI, mN_sJ, mN_sR, mN_sA, mN_nW_1, mN_nW_2, mJ_sI, mJ_sR, mJ_sA, mJ_sJ_1, mJ_sJ_2, mJ_sJ_3, mJ_nW_1, mJ_nW_2]; rw [e76]) ?_ ?_ ?_ (by simp (disch := omega) only [true_and, mI_sI_1, mI_sI_2, mI_sI_3, mI_nW_1, mI_nW_2, mI_sR, mI_sJ, mI_sA_1, mI_sA_2, mR_sI, mR_sJ, mR_sA, mR_sR_1, mR_sR_2, mR_sR_3, mR_nW_1, mR_nW_2, mN_sI, mN_sJ, mN_sR, mN_sA, mN_nW_1, mN_nW_2, mJ_sI, mJ_sR, mJ_sA, mJ_sJ_1, mJ_sJ_2, mJ_sJ_3, mJ_nW_1, mJ_nW_2]; rw [e80]) (by simp (disch := omega) only [true_and, mI_sI_1, mI_sI_2, mI_sI_3, mI_nW_1, mI_nW_2, mI_sR, mI_sJ, mI_sA_1, mI_sA_2, mR_sI, mR_sJ, mR_sA, mR_sR_1, mR_sR_2, mR_sR_3, mR_nW_1, mR_nW_2, mN_sI, mN_sJ, mN_sR, mN_sA, mN_nW_1, mN_nW_2, mJ_sI, mJ_sR, mJ_sA, mJ_sJ_1, mJ_sJ_2, mJ_sJ_3, mJ_nW_1, mJ_nW_2]; rw [e83]) (fun k _ => by simp (disch := omega) only [true_and, mI_sI_1, mI_sI_2, mI_sI_3, mI_nW_1, mI_nW_2, mI_sR, mI_sJ, mI_sA_1, mI_sA_2, mR_sI, mR_sJ, mR_sA, mR_sR_1, mR_sR_2, mR_sR_3, mR_nW_1, mR_nW_2, mN_sI, mN_sJ, mN_sR, mN_sA, mN_nW_1, mN_nW_2, mJ_sI, mJ_sR, mJ_sA, mJ_sJ_1, mJ_sJ_2, mJ_sJ_3, mJ_nW_1, mJ_nW_2]; rw [e81]) (fun c _ => by simp (disch := omega) only [true_and, mI_sI_1, mI_sI_2, mI_sI_3, mI_nW_1, mI_nW_2, mI_sR, mI_sJ, mI_sA_1, mI_sA_2, mR_sI, mR_sJ, mR_sA, mR_sR_1, mR_sR_2, mR_sR_3, mR_nW_1, mR_nW_2, mN_sI, mN_sJ, mN_sR, mN_sA, mN_nW_1, mN_nW_2, mJ_sI, mJ_sR, mJ_sA, mJ_sJ_1, mJ_sJ_2, mJ_sJ_3, mJ_nW_1, mJ_nW_2]; rw [e82]) (fun i _ => by simp (disch := omega) only [true_and, mI_sI_1, mI_sI_2, mI_sI_3, mI_nW_1, mI_nW_2, mI_sR, mI_sJ, mI_sA_1, mI_sA_2, mR_sI, mR_sJ, mR_sA, mR_sR_1, mR_sR_2, mR_sR_3, mR_nW_1, mR_nW_2, mN_sI, mN_sJ, mN_sR, mN_sA, mN_nW_1, mN_nW_2, mJ_sI, mJ_sR, mJ_sA, mJ_sJ_1, mJ_sJ_2, mJ_sJ_3, mJ_nW_1, mJ_nW_2]; rw [e64]) (r7.1 s' hs2)
                · simp (disch := omega) only [true_and, mI_sI_1, mI_sI_2, mI_sI_3, mI_nW_1, mI_nW_2, mI_sR, mI_sJ, mI_sA_1, mI_sA_2, mR_sI, mR_sJ, mR_sA, mR_sR_1, mR_sR_2, mR_sR_3, mR_nW_1, mR_nW_2, mN_sI, mN_sJ, mN_sR, mN_sA, mN_nW_1, mN_nW_2, mJ_sI, mJ_sR, mJ_sA, mJ_sJ_1, mJ_sJ_2, mJ_sJ_3, mJ_nW_1, mJ_nW_2]; rw [hI _ _ (by omega) (by omega) (by omega)]
                · simp (disch := omega) only [true_and, mI_sI_1, mI_sI_2, mI_sI_3, mI_nW_1, mI_nW_2, mI_sR, mI_sJ, mI_sA_1, mI_sA_2, mR_sI, mR_sJ, mR_sA, mR_sR_1, mR_sR_2, mR_sR_3, mR_nW_1, mR_nW_2, mN_sI, mN_sJ, mN_sR, mN_sA, mN_nW_1, mN_nW_2, mJ_sI, mJ_sR, mJ_sA, mJ_sJ_1, mJ_sJ_2, mJ_sJ_3, mJ_nW_1, mJ_nW_2]; rw [hI _ _ (by omega) (by omega) (by omega)]
                · simp (disch := omega) only [true_and, mI_sI_1, mI_sI_2, mI_sI_3, mI_nW_1, mI_nW_2, mI_sR, mI_sJ, mI_sA_1, mI_sA_2, mR_sI, mR_sJ, mR_sA, mR_sR_1, mR_sR_2, mR_sR_3, mR_nW_1, mR_nW_2, mN_sI, mN_sJ, mN_sR, mN_sA, mN_nW_1, mN_nW_2, mJ_sI, mJ_sR, mJ_sA, mJ_sJ_1, mJ_sJ_2, mJ_sJ_3, mJ_nW_1, mJ_nW_2]; rw [hI _ _ (by omega) (by omega) (by omega)]
                · simp (disch := omega) only [true_and, mI_sI_1, mI_sI_2, mI_sI_3, mI_nW_1, mI_nW_2, mI_sR, mI_sJ, mI_sA_1, mI_sA_2, mR_sI, mR_sJ, mR_sA, mR_sR_1, mR_sR_2, mR_sR_3, mR_nW_1, mR_nW_2, mN_sI, mN_sJ, mN_sR, mN_sA, mN_nW_1, mN_nW_2, mJ_sI, mJ_sR, mJ_sA, mJ_sJ_1, mJ_sJ_2, mJ_sJ_3, mJ_nW_1, mJ_nW_2]; rw [hI _ _ (by omega) (by omega) (by omega)]
            · refine RZ_k ?_ ?_ (fun j => ?_) (fun j => ?_) r10
              · simp (disch := omega) only [true_and, mI_sI_1, mI_sI_2, mI_sI_3, mI_nW_1, mI_nW_2, mI_sR, mI_sJ, mI_sA_1, mI_sA_2, mR_sI, mR_sJ, mR_sA, mR_sR_1, mR_sR_2, mR_sR_3, mR_nW_1, mR_nW_2, mN_sI, mN_sJ, mN_sR, mN_sA, mN_nW_1, mN_nW_2, mJ_sI, mJ_sR, mJ_sA, mJ_sJ_1, mJ_sJ_2, mJ_sJ_3, mJ_nW_1, mJ_nW_2]; rw [hI _ _ (by omega) (by omega) (by omega)]
              · simp (disch := omega) only [true_and, mI_sI_1, mI_sI_2, mI_sI_3, mI_nW_1, mI_nW_2, mI_sR, mI_sJ, mI_sA_1, mI_sA_2, mR_sI, mR_sJ, mR_sA, mR_sR_1, mR_sR_2, mR_sR_3, mR_nW_1, mR_nW_2, mN_sI, mN_sJ, mN_sR, mN_sA, mN_nW_1, mN_nW_2, mJ_sI, mJ_sR, mJ_sA, mJ_sJ_1, mJ_sJ_2, mJ_sJ_3, mJ_nW_1, mJ_nW_2]; rw [hI _ _ (by omega) (by omega) (by omega)]
              · simp (disch := omega) only [true_and, mI_sI_1, mI_sI_2, mI_sI_3, mI_nW_1, mI_nW_2, mI_sR, mI_sJ, mI_sA_1, mI_sA_2, mR_sI, mR_sJ, mR_sA, mR_sR_1, mR_sR_2, mR_sR_3, mR_nW_1, mR_nW_2, mN_sI, mN_sJ, mN_sR, mN_sA, mN_nW_1, mN_nW_2, mJ_sI, mJ_sR, mJ_sA, mJ_sJ_1, mJ_sJ_2, mJ_sJ_3, mJ_nW_1, mJ_nW_2]; rw [hI _ _ (by omega) (by omega) (by omega)]
              · simp (disch := omega) only [true_and, mI_sI_1, mI_sI_2, mI_sI_3, mI_nW_1, mI_nW_2, mI_sR, mI_sJ, mI_sA_1, mI_sA_2, mR_sI, mR_sJ, mR_sA, mR_sR_1, mR_sR_2, mR_sR_3, mR_nW_1, mR_nW_2, mN_sI, mN_sJ, mN_sR, mN_sA, mN_nW_1, mN_nW_2, mJ_sI, mJ_sR, mJ_sA, mJ_sJ_1, mJ_sJ_2, mJ_sJ_3, mJ_nW_1, mJ_nW_2]; rw [hI _ _ (by omega) (by omega) (by omega)]
            · refine RD_k (fun j => ?_) r11
              simp (disch := omega) only [true_and, mI_sI_1, mI_sI_2, mI_sI_3, mI_nW_1, mI_nW_2, mI_sR, mI_sJ, mI_sA_1, mI_sA_2, mR_sI, mR_sJ, mR_sA, mR_sR_1, mR_sR_2, mR_sR_3, mR_nW_1, mR_nW_2, mN_sI, mN_sJ, mN_sR, mN_sA, mN_nW_1, mN_nW_2, mJ_sI, mJ_sR, mJ_sA, mJ_sJ_1, mJ_sJ_2, mJ_sJ_3, mJ_nW_1, mJ_nW_2]; rw [hI _ _ (by omega) (by omega) (by omega)]
        | succ m ih =>
          intro i hi N hN
          refine w_X6_addWork_40 l _ _ _ (ty47 s) (ty43 w) _ N ⟨fun y => ?_, fun _ => ⟨by rw [hN.2.2.1, show 47 + 128 * s + 2 = 49 + 128 * s by omega]; exact g5, c6_needWith (by omega) (by rw [hN.2.2.1]; exact g5) (by rw [hN.2.2.2.1]; exact l5) _ ⟨?_, ?_⟩⟩⟩
          · (simp (disch := omega) only [ile, ilt, ieq, nI_toInt, Int32.reduceToInt] at y; omega)
          · rw [show 47 + 128 * s + 2 = 49 + 128 * s by omega, hN.2.2.2.1]; exact (by have : mN M (49 + 128 * s) = 6 := l5; rw [show mN (sI (sI (sI M (48 + 128 * s) n (nI w)) (47 + 128 * s) 7 (nI (n + 1))) (47 + 128 * s) 8 (f_chairs (mI M) s (some w))) (49 + 128 * s) = mN M (49 + 128 * s) from rfl, this]; exact vin (by omega) (by decide))
          · have e := ih (i + 1) (by omega) _ (Wr_s hN)
            rw [n1, nI_clamp (by omega), show 47 + 128 * s + 2 = 49 + 128 * s by omega]
            have hv : f_nw (mI N (47 + 128 * s) 0) (mI N (49 + 128 * s) i) ((mI N (43 + 128 * w) 2 >>> ((2 * nI i) &&& 31)) &&& 3) = f_need (mI M) s i (some w) := by
              rw [Wr_o hN (by omega), hN.1, if_neg (by omega), Wr_o hN (by omega)]
              simp (disch := omega) only [true_and, mI_sI_1, mI_sI_2, mI_sI_3, mI_nW_1, mI_nW_2, mI_sR, mI_sJ, mI_sA_1, mI_sA_2, mR_sI, mR_sJ, mR_sA, mR_sR_1, mR_sR_2, mR_sR_3, mR_nW_1, mR_nW_2, mN_sI, mN_sJ, mN_sR, mN_sA, mN_nW_1, mN_nW_2, mJ_sI, mJ_sR, mJ_sA, mJ_sJ_1, mJ_sJ_2, mJ_sJ_3, mJ_nW_1, mJ_nW_2]
              rw [s0, nds i (by omega), w2]
              exact f_nw_eq (mI M) s i w
            rw [hv]
            rw [Nat.zero_add] at e
            exact e
      exact key 6 0 (by omega) _ (Wr_0 _ _ _ _)
    · have hlt : n = 5 := by (simp (disch := omega) only [ile, ilt, ieq, nI_toInt, Int32.reduceToInt] at z4; omega)
      exact hcall _ (fun y => by
        rcases y with y | y | y
        · exact absurd z y
        · rw [b2_0.mp z2] at y; cases y
        · exact absurd z3 y) (fun _ _ _ => ⟨hlt, rfl⟩)
end S53
