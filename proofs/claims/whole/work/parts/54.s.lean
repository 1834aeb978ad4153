/-! orders: sorting, waiting -/
section S54
variable {l : Launch} {M : o_M} {nw np ns nt T : Nat}
def fuN (f : Nat → Nat) (k x : Nat) : Nat → Nat := fun j => if j = k then x else f j
/-- putting a number into a sorted row, from a place downwards -/
def insP (x : Nat) : Nat → (Nat → Nat) → (Nat → Nat)
  | 0, a => fuN a 0 x
  | j + 1, a => if a j ≤ x then fuN a (j + 1) x else insP x j (fuN a (j + 1) (a j))
def srt (W : Nat → Nat) (n : Nat) : Nat → Nat := lp (fun k a => insP (W k) k a) (fun _ => 0) n
theorem insP_ok (x i : Nat) : ∀ j (a : Nat → Nat), j ≤ i → (∀ p q, p < q → q ≤ i → p ≠ j → q ≠ j → a p < a q) → (∀ q, j < q → q ≤ i → x < a q) → (∀ p, p ≤ i → p ≠ j → a p ≠ x) → (∀ p q, p < q → q ≤ i → insP x j a p < insP x j a q) ∧ ∀ p, p ≤ i → insP x j a p = x ∨ ∃ q, q ≤ i ∧ q ≠ j ∧ insP x j a p = a q
  | 0, a => fun hj h1 h2 h3 => by
    unfold insP fuN
    refine ⟨fun p q hpq hq => ?_, fun p hp => ?_⟩
    · by_cases hp0 : p = 0
      · rw [if_pos hp0, if_neg (by omega)]; exact h2 q (by omega) hq
      · rw [if_neg hp0, if_neg (by omega)]; exact h1 p q hpq hq hp0 (by omega)
    · by_cases hp0 : p = 0
      · left; rw [if_pos hp0]
      · right; exact ⟨p, hp, hp0, by rw [if_neg hp0]⟩
  | j + 1, a => fun hj h1 h2 h3 => by
    unfold insP
    by_cases hc : a j ≤ x
    · rw [if_pos hc]
      have hlt : a j < x := by have := h3 j (by omega) (by omega); omega
      unfold fuN
      refine ⟨fun p q hpq hq => ?_, fun p hp => ?_⟩
      · by_cases hp0 : p = j + 1
        · rw [if_pos hp0, if_neg (by omega)]; exact h2 q (by omega) hq
        · rw [if_neg hp0]
          by_cases hq0 : q = j + 1
          · rw [if_pos hq0]
            by_cases hpj : p = j
            · rw [hpj]; exact hlt
            · have := h1 p j (by omega) (by omega) hp0 (by omega); omega
          · rw [if_neg hq0]; exact h1 p q hpq hq hp0 hq0
      · by_cases hp0 : p = j + 1
        · left; rw [if_pos hp0]
        · right; exact ⟨p, hp, hp0, by rw [if_neg hp0]⟩
    · rw [if_neg hc]
      obtain ⟨g1, g2⟩ := insP_ok x i j (fuN a (j + 1) (a j)) (by omega) (fun p q hpq hq hp hq' => by
          unfold fuN
          by_cases hp0 : p = j + 1
          · rw [if_pos hp0, if_neg (by omega)]; exact h1 j q (by omega) hq (by omega) (by omega)
          · rw [if_neg hp0]
            by_cases hq0 : q = j + 1
            · rw [if_pos hq0]; exact h1 p j (by omega) (by omega) hp0 (by omega)
            · rw [if_neg hq0]; exact h1 p q hpq hq hp0 hq0) (fun q hq hqi => by
          unfold fuN
          by_cases hq0 : q = j + 1
          · rw [if_pos hq0]; omega
          · rw [if_neg hq0]; exact h2 q (by omega) hqi) (fun p hp hpj => by
          unfold fuN
          by_cases hp0 : p = j + 1
          · rw [if_pos hp0]; exact h3 j (by omega) (by omega)
          · rw [if_neg hp0]; exact h3 p hp hp0)
      refine ⟨g1, fun p hp => ?_⟩
      rcases g2 p hp with h | ⟨q, hq, hqj, h⟩
      · exact Or.inl h
      · right
        unfold fuN at h
        by_cases hq0 : q = j + 1
        · rw [if_pos hq0] at h; exact ⟨j, by omega, by omega, h⟩
        · rw [if_neg hq0] at h; exact ⟨q, hq, hq0, h⟩
theorem srt_ok (W : Nat → Nat) (n : Nat) (hd : ∀ j k, j < k → k < n → W j ≠ W k) : ∀ k, k ≤ n → (∀ p q, p < q → q < k → srt W k p < srt W k q) ∧ ∀ p, p < k → ∃ j, j < k ∧ srt W k p = W j
  | 0 => fun _ => ⟨fun p q _ hq => by omega, fun p hp => by omega⟩
  | k + 1 => fun hk => by
    obtain ⟨h1, h2⟩ := srt_ok W n hd k (by omega)
    have e : srt W (k + 1) = insP (W k) k (srt W k) := rfl
    obtain ⟨g1, g2⟩ := insP_ok (W k) k k (srt W k) (Nat.le_refl _) (fun p q hpq hq hp hq' => h1 p q hpq (by omega)) (fun q hq hq' => by omega) (fun p hp hpk => by
      obtain ⟨j, hj, ej⟩ := h2 p (by omega)
      rw [ej]; exact hd j k hj (by omega))
    rw [e]
    refine ⟨fun p q hpq hq => g1 p q hpq (by omega), fun p hp => ?_⟩
    rcases g2 p (by omega) with h | ⟨q, hq, hqk, h⟩
    · exact ⟨k, by omega, h⟩
    · obtain ⟨j, hj, ej⟩ := h2 q (by omega)
      exact ⟨j, by omega, by rw [h, ej]⟩
/-- minutes of works in a stretch that don't need the instrument -/
def sS (nb : Nat → Bool) (mn : Nat → Nat) (f a : Nat) : Nat := lp (fun j x => if decide (f ≤ j) && !nb j then x + mn j else x) 0 a
theorem sS_s (nb : Nat → Bool) (mn : Nat → Nat) (f a : Nat) : sS nb mn f (a + 1) = if decide (f ≤ a) && !nb a then sS nb mn f a + mn a else sS nb mn f a := rfl
theorem sS_0 (nb : Nat → Bool) (mn : Nat → Nat) (f : Nat) : ∀ a, a ≤ f → sS nb mn f a = 0
  | 0 => fun _ => rfl
  | a + 1 => fun h => by rw [sS_s, sS_0 nb mn f a (by omega)]; have : decide (f ≤ a) = false := by simp; omega
                         rw [this]; rfl
theorem sS_add (nb : Nat → Bool) (mn : Nat → Nat) {f t : Nat} (hft : f ≤ t) : ∀ k, t ≤ k → sS nb mn f t + sS nb mn t k = sS nb mn f k
  | 0 => fun h => by have : t = 0 := by omega
                     subst this; rfl
  | k + 1 => fun h => by
    by_cases ht : t = k + 1
    · subst ht; rw [sS_0 nb mn (k + 1) (k + 1) (Nat.le_refl _)]; rfl
    · have e := sS_add nb mn hft k (by omega)
      rw [sS_s, sS_s]
      have e1 : decide (t ≤ k) = true := by simp; omega
      have e2 : decide (f ≤ k) = true := by simp; omega
      rw [e1, e2]
      cases nb k <;> simp <;> omega
theorem sS_le (nb : Nat → Bool) (mn : Nat → Nat) (f : Nat) {b : Nat} : ∀ a, (∀ j, j < a → mn j ≤ b) → sS nb mn f a ≤ b * a
  | 0 => fun _ => by simp [sS, lp]
  | a + 1 => fun h => by
    have e := sS_le nb mn f a (fun j hj => h j (by omega))
    have := h a (by omega)
    rw [sS_s, Nat.mul_add]; split <;> omega
def ft (nb : Nat → Bool) (n : Nat) : Option (Nat × Nat) := lp (fun k o => if nb k then (match o with | none => some (k, k) | some (f, _) => some (f, k)) else o) none n
theorem ft_s (nb : Nat → Bool) (n : Nat) : ft nb (n + 1) = if nb n then (match ft nb n with | none => some (n, n) | some (f, _) => some (f, n)) else ft nb n := rfl
theorem ft_ok (nb : Nat → Bool) : ∀ n f t, ft nb n = some (f, t) → f ≤ t ∧ t < n ∧ nb t = true
  | 0 => fun f t h => by cases h
  | n + 1 => fun f t h => by
    rw [ft_s] at h
    cases hn : nb n with
    | false =>
      rw [hn] at h
      obtain ⟨h1, h2, h3⟩ := ft_ok nb n f t h
      exact ⟨h1, by omega, h3⟩
    | true =>
      rw [hn] at h
      simp only [if_true] at h
      cases ho : ft nb n with
      | none => rw [ho] at h; cases h; exact ⟨Nat.le_refl _, by omega, hn⟩
      | some x =>
        obtain ⟨f', t'⟩ := x
        have := ft_ok nb n f' t' ho
        rw [ho] at h
        cases h
        exact ⟨by omega, by omega, hn⟩
def bt (nb : Nat → Bool) (mn : Nat → Nat) (n : Nat) : Nat := match ft nb n with
  | none => 0
  | some (f, t) => sS nb mn f (t + 1)
def pd (nb : Nat → Bool) (mn : Nat → Nat) (n : Nat) : Nat := match ft nb n with
  | none => 0
  | some (_, t) => sS nb mn (t + 1) n
/-- one work more -/
theorem bt_s (nb : Nat → Bool) (mn : Nat → Nat) (n : Nat) : bt nb mn (n + 1) = (if nb n then bt nb mn n + pd nb mn n else bt nb mn n) ∧ pd nb mn (n + 1) = (if nb n then 0 else if (ft nb n).isSome then pd nb mn n + mn n else pd nb mn n) := by
  unfold bt pd
  rw [ft_s]
  cases hn : nb n with
  | false =>
    simp only [Bool.false_eq_true, if_false]
    refine ⟨by trivial, ?_⟩
    cases ho : ft nb n with
    | none => rfl
    | some x =>
      obtain ⟨f, t⟩ := x
      have := ft_ok nb n f t ho
      simp only [Option.isSome_some, if_true]
      rw [sS_s]
      have e1 : decide (t + 1 ≤ n) = true := by simp; omega
      rw [e1, hn]; rfl
  | true =>
    simp only [if_true]
    cases ho : ft nb n with
    | none =>
      simp only
      refine ⟨?_, sS_0 _ _ _ _ (Nat.le_refl _)⟩
      rw [sS_s, hn, sS_0 _ _ _ _ (Nat.le_refl _)]; simp
    | some x =>
      obtain ⟨f, t⟩ := x
      have := ft_ok nb n f t ho
      simp only
      refine ⟨?_, sS_0 _ _ _ _ (Nat.le_refl _)⟩
      rw [sS_add nb mn (by omega) n (by omega), sS_s, hn]; simp
/-- needs of a work, minutes, as numbers -/
def ndo (v : o_v) (w i : Nat) : Nat := (f_needOf v w i).toNatClampNeg
theorem ndo_eq (v : o_v) (w i : Nat) : ndo v w i ≤ 3 ∧ f_needOf v w i = nI (ndo v w i) := by
  obtain ⟨k, hk, e⟩ := needOf_nat v w i
  unfold ndo
  rw [e, nI_clamp (by omega)]
  exact ⟨hk, rfl⟩
def nbf (v : o_v) (row : Nat → Nat) (i k : Nat) : Bool := decide (0 < ndo v (row k) i)
def mnf (v : o_v) (row : Nat → Nat) (k : Nat) : Nat := (v 62 (row k)).toNatClampNeg
def waitN (v : o_v) (s n : Nat) (row : Nat → Nat) : Nat := lp (fun i x => x + nd v s i * bt (nbf v row i) (mnf v row) n) 0 6
theorem waitN_le {v : o_v} {s n : Nat} {row : Nat → Nat} (hn : n ≤ 5) (hm : ∀ k, k < n → mnf v row k ≤ 90) : waitN v s n row ≤ 8100 := by
  have hb : ∀ i, nd v s i * bt (nbf v row i) (mnf v row) n ≤ 1350 := fun i => by
    have h3 := (nd_eq v s i).1
    have h4 : bt (nbf v row i) (mnf v row) n ≤ 450 := by
      unfold bt
      cases ho : ft (nbf v row i) n with
      | none => simp
      | some x =>
        obtain ⟨f, t⟩ := x
        have := ft_ok _ n f t ho
        have := sS_le (nbf v row i) (mnf v row) f (b := 90) (t + 1) (fun j hj => hm j (by omega))
        simp only; omega
    calc nd v s i * bt (nbf v row i) (mnf v row) n ≤ 3 * 450 := Nat.mul_le_mul h3 h4
      _ = 1350 := rfl
  have : ∀ k, lp (fun i x => x + nd v s i * bt (nbf v row i) (mnf v row) n) 0 k ≤ 1350 * k := fun k => by
    induction k with
    | zero => simp [lp]
    | succ k ih => simp only [lp]; have := hb k; omega
  exact this 6
theorem min_of (r : Rel M nw np ns nt T) {w : Nat} (hw : w < nw) : (mI M 62 w).toNatClampNeg ≤ 90 ∧ mI M 62 w = nI (mI M 62 w).toNatClampNeg := by
  obtain ⟨m, h1, h2, e⟩ := (r.2.2.2.2.1 w hw).2.2.2.2.2.2.2.1
  rw [e, nI_clamp (by omega)]; exact ⟨h2, rfl⟩
/-- the class: minutes between -/
theorem c1_minutesBetween (r : Rel M nw np ns nt T) {n i : Nat} (hn : n ≤ 5) (hi : i < 6) {row : Nat → Nat} (hsz : mI M 35 2 = nI n) (hrow : ∀ k, k < n → mI M 36 k = nI (row k) ∧ row k < nw) (q : Int32 → o_M → Prop) (h : q (nI (bt (nbf (mI M) row i) (mnf (mI M) row) n)) M) : K_X1_minutesBetween l [rV (some 35), rV (some 17), iV (nI i)] M q := by
  have ⟨r1, r2, r3, r4, r5, r6, r7, r8, r9, r10, r11⟩ := r
  have hnw := r3.1.1
  have key : ∀ m k, k + m = n → H_X1_minutesBetween_11 l q (nI i) (b2 (ft (nbf (mI M) row i) k).isSome) (nI (bt (nbf (mI M) row i) (mnf (mI M) row) k)) (nI (pd (nbf (mI M) row i) (mnf (mI M) row) k)) (nI k) M := by
    intro m
    induction m with
    | zero =>
      intro k hk
      have : k = n := by omega
      subst this
      exact w_X1_minutesBetween_11 l q _ _ _ _ _ M ⟨fun _ => h, fun z => absurd (by rw [hsz]; exact nI_le (Nat.le_refl _) (by omega)) z⟩
    | succ m ih =>
      intro k hk
      obtain ⟨hr, hrn⟩ := hrow k (by omega)
      have e := ih (k + 1) (by omega)
      rw [(bt_s _ _ _).1, (bt_s _ _ _).2, ft_s] at e
      obtain ⟨n3, ne⟩ := ndo_eq (mI M) (row k) i
      have hw2 : (mI M (43 + 128 * row k) 2 >>> ((2 * nI i) &&& 31)) &&& 3 = nI (ndo (mI M) (row k) i) := by
        rw [(r5 (row k) hrn).2.2.2.1, ← ne]; rfl
      have hw0 : mI M (43 + 128 * row k) 0 = nI (mnf (mI M) row k) := by rw [(r5 (row k) hrn).2.1]; exact (min_of r hrn).2
      refine w_X1_minutesBetween_11 l q _ _ _ _ _ M ⟨fun z => ?_, fun _ => ?_⟩
      · rw [hsz, nI_leI (by omega) (by omega)] at z; omega
      rw [nI_clamp (by omega), hr, nI_clamp (by omega), xn36 r2, xn17 r2, (r5 (row k) hrn).1, n1]
      refine ⟨xr35_0 r2, vin (by omega) (by decide), vin (by omega) (by decide), _, rfl, ty43 _, c10_needOf (ty43 _) _ _ ?_⟩
      rw [hw2, hw0]
      have e0 : (nI (ndo (mI M) (row k) i) ≤ (0 : Int32)) ↔ ndo (mI M) (row k) i ≤ 0 := nI_leI (b := 0) (by omega) (by omega)
      rw [e0]
      refine ⟨fun z => ?_, fun z => ?_⟩
      · have hb : nbf (mI M) row i k = false := by unfold nbf; simp; omega
        rw [hb] at e
        simp only [Bool.false_eq_true, if_false] at e
        refine ⟨fun z2 => ?_, fun z2 => ?_⟩
        · rw [b2_0.mp z2] at e ⊢
          simp only [Bool.false_eq_true, if_false] at e; exact e
        · rw [b2_n0.mp z2] at e ⊢
          simp only [if_true] at e
          rw [nI_add]; exact e
      · have hb : nbf (mI M) row i k = true := by unfold nbf; simp; omega
        rw [hb] at e
        simp only [if_true] at e
        rw [nI_add]
        have hs1 : (match ft (nbf (mI M) row i) k with | none => some (k, k) | some (f, snd) => some (f, k)).isSome = true := by split <;> rfl
        rw [hs1] at e; exact e
  exact w_X1_minutesBetween l _ M q (key n 0 (by omega))
theorem c1_sumWait (r : Rel M nw np ns nt T) {s n : Nat} (hs : s < ns) (hn : n ≤ 5) {row : Nat → Nat} (hsz : mI M 35 2 = nI n) (hrow : ∀ k, k < n → mI M 36 k = nI (row k) ∧ row k < nw) (q : Int32 → o_M → Prop) (h : q (nI (waitN (mI M) s n row)) M) : K_X1_sumWait l [rV (some 35), rV (some (47 + 128 * s)), rV (some 17)] M q := by
  obtain ⟨⟨_, _, g5, _, _, l5, _⟩, _, _, ⟨nds, _⟩⟩ := r.2.2.2.2.2.2.1.1 s hs
  have key : ∀ m i, i + m = 6 → H_X1_sumWait_5 l q (47 + 128 * s) (nI (lp (fun i x => x + nd (mI M) s i * bt (nbf (mI M) row i) (mnf (mI M) row) n) 0 i)) (nI i) M := by
    intro m
    induction m with
    | zero =>
      intro i hi
      have : i = 6 := by omega
      subst this
      exact w_X1_sumWait_5 l q _ (ty47 s) _ _ M ⟨fun _ => h, fun z => absurd (by decide) z⟩
    | succ m ih =>
      intro i hi
      have e := ih (i + 1) (by omega)
      simp only [lp] at e
      obtain ⟨n3, ne⟩ := nd_eq (mI M) s i
      refine w_X1_sumWait_5 l q _ (ty47 s) _ _ M ⟨fun z => ?_, fun _ => ?_⟩
      · (simp (disch := omega) only [ile, ilt, ieq, nI_toInt, Int32.reduceToInt] at z; omega)
      rw [show 47 + 128 * s + 2 = 49 + 128 * s by omega, l5, nI_clamp (by omega), nds i (by omega), ne, n1]
      have e0 : (nI (nd (mI M) s i) ≤ (0 : Int32)) ↔ nd (mI M) s i ≤ 0 := nI_leI (b := 0) (by omega) (by omega)
      rw [e0]
      refine ⟨g5, vin (by omega) (by decide), fun z => ?_, fun z => ⟨g5, vin (by omega) (by decide), c1_minutesBetween r hn (by omega) hsz hrow _ ?_⟩⟩
      · have : nd (mI M) s i = 0 := by omega
        rw [this, Nat.zero_mul, Nat.add_zero] at e; exact e
      · rw [pk_mul, nI_add]; exact e
  exact w_X1_sumWait l _ (ty47 s) M q (key 6 0 (by omega))
/-- the model: the wait of an order -/
theorem c12_waitOf (r : Rel M nw np ns nt T) {s n : Nat} (hs : s < ns) (hn5 : n ≤ 5) (en : mI M 80 s = nI n) {row : Nat → Nat} (hrow : ∀ k, k < n → mI M 115 k = nI (row k) ∧ row k < nw) (q : Int32 → o_M → Prop) (h : q (nI (waitN (mI M) s n row)) M) : K_X12_waitOf l [rV (some 60), iV (nI s)] M q := by
  have ⟨r1, r2, r3, r4, r5, r6, r7, r8, r9, r10, r11⟩ := r
  have hnw := r3.1.1
  have hns := r3.2.2.1.1
  have hok := okS_of r hs
  have hsc : (nI s).toNatClampNeg = s := nI_clamp (by omega)
  have v40 : vp_in (nI s) 40 := vin (by omega) (by decide)
  have key : ∀ m i, i + m = 6 → H_X12_waitOf_4 l q (nI s) (nI (lp (fun i x => x + nd (mI M) s i * bt (nbf (mI M) row i) (mnf (mI M) row) n) 0 i)) (nI i) M := by
    intro m
    induction m with
    | zero =>
      intro i hi
      have : i = 6 := by omega
      subst this
      exact w_X12_waitOf_4 l q _ _ _ M ⟨fun _ => h, fun z => absurd (by decide) z⟩
    | succ m ih =>
      intro i hi
      have e := ih (i + 1) (by omega)
      simp only [lp] at e
      obtain ⟨n3, ne⟩ := nd_eq (mI M) s i
      generalize lp (fun i x => x + nd (mI M) s i * bt (nbf (mI M) row i) (mnf (mI M) row) n) 0 i = acc at *
      have sumL : ∀ f t, ft (nbf (mI M) row i) n = some (f, t) → ∀ m k, k + m = t + 1 → f ≤ k → H_X12_waitOf_74 l q (nI s) (nI (acc + nd (mI M) s i * sS (nbf (mI M) row i) (mnf (mI M) row) f k)) (nI i) (nI f) (nI t) (nI k) M := by
        intro f t hft m
        obtain ⟨hft1, hft2, _⟩ := ft_ok _ n f t hft
        induction m with
        | zero =>
          intro k hk hfk
          have : k = t + 1 := by omega
          subst this
          refine w_X12_waitOf_74 l q _ _ _ _ _ _ M ⟨fun z => absurd z (nI_ne1 (by omega)), fun _ => ⟨fun _ => ?_, fun z => ?_⟩⟩
          · rw [n1]
            unfold bt at e
            rw [hft] at e; exact e
          · rw [nI_ltI (by omega) (by omega)] at z; omega
        | succ m ihm =>
          intro k hk hfk
          obtain ⟨hr, hrn⟩ := hrow k (by omega)
          obtain ⟨d3, de⟩ := ndo_eq (mI M) (row k) i
          have e2 := ihm (k + 1) (by omega) (by omega)
          rw [sS_s] at e2
          have ef : decide (f ≤ k) = true := by simp; omega
          rw [ef] at e2
          refine w_X12_waitOf_74 l q _ _ _ _ _ _ M ⟨fun z => absurd z (nI_ne1 (by omega)), fun _ => ⟨fun z => ?_, fun _ => ?_⟩⟩
          · rw [nI_ltI (by omega) (by omega)] at z; omega
          rw [nI_clamp (by omega), wn54 r1, hr, n1]
          refine ⟨wr54 r1, vin (by omega) (by decide), c12_needOf r1 (by omega) i _ ?_⟩
          rw [de, hr, nI_clamp (by omega), wn54 r1, wn1 r1]
          refine ⟨fun z => ?_, fun z => ⟨wr1 r1, wr54 r1, vin (by omega) (by decide), vin (by omega) (by decide), c12_need r1 (by omega) hok i none (fun _ e => by cases e) _ ?_⟩⟩
          · have hb : nbf (mI M) row i k = true := by
              unfold nbf
              simp
              by_cases hz : ndo (mI M) (row k) i = 0
              · rw [hz] at z; exact absurd rfl z
              · omega
            rw [hb] at e2
            rw [Int32.add_zero]; exact e2
          · have hz : ndo (mI M) (row k) i = 0 := nI_inj (by omega) (by omega) z
            have hb : nbf (mI M) row i k = false := by unfold nbf; simp [hz]
            rw [hb] at e2
            simp only [Bool.not_false, Bool.and_self, if_true] at e2
            rw [ne, (min_of r hrn).2, pk_mul, nI_add]
            have : acc + nd (mI M) s i * sS (nbf (mI M) row i) (mnf (mI M) row) f k + (mI M 62 (row k)).toNatClampNeg * nd (mI M) s i = acc + nd (mI M) s i * (sS (nbf (mI M) row i) (mnf (mI M) row) f k + mnf (mI M) row k) := by
              unfold mnf; rw [Nat.mul_add, Nat.mul_comm (mI M 62 (row k)).toNatClampNeg]; omega
            rw [this]; exact e2
      have scanL : ∀ m k, k + m = n → ∀ f t : Int32, ((ft (nbf (mI M) row i) k = none ∧ f = -1 ∧ t = -1) ∨ ∃ a b, ft (nbf (mI M) row i) k = some (a, b) ∧ f = nI a ∧ t = nI b) → H_X12_waitOf_19 l q (nI s) (nI acc) (nI i) f t (nI k) M := by
        intro m
        induction m with
        | zero =>
          intro k hk f t hf
          have : k = n := by omega
          subst this
          refine w_X12_waitOf_19 l q _ _ _ _ _ _ M ?_
          rw [hsc, wn19 r1, en]
          refine ⟨wr19 r1, v40, fun _ => ?_, fun z => absurd (nI_le (Nat.le_refl _) (by omega)) z⟩
          rcases hf with ⟨h1, h2, h3⟩ | ⟨a, b, h1, h2, h3⟩
          · refine w_X12_waitOf_74 l q _ _ _ _ _ _ M ⟨fun _ => ?_, fun z => absurd h2 z⟩
            rw [n1]
            unfold bt at e
            rw [h1] at e; exact e
          · obtain ⟨g1, g2, _⟩ := ft_ok _ k a b h1
            have := sumL a b h1 (b + 1 - a) a (by omega) (Nat.le_refl _)
            rw [sS_0 _ _ _ _ (Nat.le_refl _)] at this
            rw [h2, h3]; exact this
        | succ m ihm =>
          intro k hk f t hf
          obtain ⟨hr, hrn⟩ := hrow k (by omega)
          obtain ⟨d3, de⟩ := ndo_eq (mI M) (row k) i
          have e2 := ihm (k + 1) (by omega)
          rw [ft_s] at e2
          refine w_X12_waitOf_19 l q _ _ _ _ _ _ M ?_
          rw [hsc, wn19 r1, en, nI_clamp (by omega), wn54 r1, hr, n1]
          refine ⟨wr19 r1, v40, fun z => ?_, fun _ => ⟨wr54 r1, vin (by omega) (by decide), c12_needOf r1 (by omega) i _ ?_⟩⟩
          · rw [nI_leI (by omega) (by omega)] at z; omega
          rw [de]
          have e0 : (nI (ndo (mI M) (row k) i) ≤ (0 : Int32)) ↔ ndo (mI M) (row k) i ≤ 0 := nI_leI (b := 0) (by omega) (by omega)
          rw [e0]
          refine ⟨fun z => ?_, fun z => ?_⟩
          · have hb : nbf (mI M) row i k = false := by unfold nbf; simp; omega
            rw [hb] at e2
            exact e2 f t hf
          · have hb : nbf (mI M) row i k = true := by unfold nbf; simp; omega
            rw [hb] at e2
            simp only [if_true] at e2
            rcases hf with ⟨h1, h2, h3⟩ | ⟨a, b, h1, h2, h3⟩
            · rw [h1] at e2
              refine ⟨fun y => absurd h2 y, fun _ => e2 _ _ (Or.inr ⟨k, k, rfl, rfl, rfl⟩)⟩
            · rw [h1] at e2
              obtain ⟨g1, g2, _⟩ := ft_ok _ k a b h1
              refine ⟨fun _ => e2 _ _ (Or.inr ⟨a, k, rfl, h2, rfl⟩), fun y => ?_⟩
              rw [h2] at y; exact absurd y (nI_ne1 (by omega))
      refine w_X12_waitOf_4 l q _ _ _ M ⟨fun z => ?_, fun _ => scanL n 0 (by omega) _ _ (Or.inl ⟨rfl, rfl, rfl⟩)⟩
      (simp (disch := omega) only [ile, ilt, ieq, nI_toInt, Int32.reduceToInt] at z; omega)
  exact w_X12_waitOf l _ M q (key 6 0 (by omega))
end S54
