/-! orders: the class's search -/
section S55
variable {l : Launch} {M : o_M} {nw np ns nt T : Nat}
def fb (w : List Nat → Nat) : List (List Nat) → Option (Nat × List Nat) → Option (Nat × List Nat)
  | [], o => o
  | x :: L, o => fb w L (match o with
    | none => some (w x, x)
    | some (b, y) => if b ≤ w x then some (b, y) else some (w x, x))
theorem lsN_get (n : Nat) (r : Nat → Nat) {k : Nat} (hk : k < n) : (lsN n r).getD k 0 = r k := by
  unfold lsN
  rw [List.getD_eq_getElem?_getD, List.getElem?_map, List.getElem?_range hk]; rfl
theorem c1_swap {N : o_M} (hX : wX N) {a b : Nat} (ha : a < 5) (hb : b < 5) (q : o_M → Prop) (h : q (sI (sI N 36 a (mI N 36 b)) 36 b (mI N 36 a))) : K_X1_swap l [rV (some 35), iV (nI a), iV (nI b)] N q := by
  refine w_X1_swap l _ _ N q ?_
  rw [nI_clamp (by omega), nI_clamp (by omega)]
  simp (disch := omega) only [true_and, mI_sI_1, mI_sI_2, mI_sI_3, mI_nW_1, mI_nW_2, mI_sR, mI_sJ, mI_sA_1, mI_sA_2, mR_sI, mR_sJ, mR_sA, mR_sR_1, mR_sR_2, mR_sR_3, mR_nW_1, mR_nW_2, mN_sI, mN_sJ, mN_sR, mN_sA, mN_nW_1, mN_nW_2, mJ_sI, mJ_sR, mJ_sA, mJ_sJ_1, mJ_sJ_2, mJ_sJ_3, mJ_nW_1, mJ_nW_2, xr35_0 hX, xn36 hX]
  exact ⟨vin ha (by decide), vin hb (by decide), vin ha (by decide), vin hb (by decide), h⟩
def NR (N N' : o_M) : Prop := Sm N N' ∧ (∀ j, mI N' 35 j = mI N 35 j) ∧ ∀ j, mI N' 37 j = mI N 37 j
theorem NR_sw {N N' : o_M} (h : NR N N') (a b : Nat) (x y : Int32) : NR N (sI (sI N' 36 a x) 36 b y) := ⟨Sm_t h.1 (Sm_t (Sm_sI _ rfl _) (Sm_sI _ rfl _)), fun j => by simp (disch := omega) only [true_and, mI_sI_1, mI_sI_2, mI_sI_3, mI_nW_1, mI_nW_2, mI_sR, mI_sJ, mI_sA_1, mI_sA_2, mR_sI, mR_sJ, mR_sA, mR_sR_1, mR_sR_2, mR_sR_3, mR_nW_1, mR_nW_2, mN_sI, mN_sJ, mN_sR, mN_sA, mN_nW_1, mN_nW_2, mJ_sI, mJ_sR, mJ_sA, mJ_sJ_1, mJ_sJ_2, mJ_sJ_3, mJ_nW_1, mJ_nW_2]; exact h.2.1 j, fun j => by simp (disch := omega) only [true_and, mI_sI_1, mI_sI_2, mI_sI_3, mI_nW_1, mI_nW_2, mI_sR, mI_sJ, mI_sA_1, mI_sA_2, mR_sI, mR_sJ, mR_sA, mR_sR_1, mR_sR_2, mR_sR_3, mR_nW_1, mR_nW_2, mN_sI, mN_sJ, mN_sR, mN_sA, mN_nW_1, mN_nW_2, mJ_sI, mJ_sR, mJ_sA, mJ_sJ_1, mJ_sJ_2, mJ_sJ_3, mJ_nW_1, mJ_nW_2]; exact h.2.2 j⟩
theorem row_sw {N : o_M} {g r : Nat → Nat} {n a b : Nat} (ha : a < n) (hb : b < n) (h : ∀ k, k < n → mI N 36 k = nI (g (r k))) : ∀ k, k < n → mI (sI (sI N 36 a (mI N 36 b)) 36 b (mI N 36 a)) 36 k = nI (g (sw r a b k)) := fun k hk => by
  unfold sw
  by_cases hkb : k = b
  · subst hkb; simp (disch := omega) only [true_and, mI_sI_1, mI_sI_2, mI_sI_3, mI_nW_1, mI_nW_2, mI_sR, mI_sJ, mI_sA_1, mI_sA_2, mR_sI, mR_sJ, mR_sA, mR_sR_1, mR_sR_2, mR_sR_3, mR_nW_1, mR_nW_2, mN_sI, mN_sJ, mN_sR, mN_sA, mN_nW_1, mN_nW_2, mJ_sI, mJ_sR, mJ_sA, mJ_sJ_1, mJ_sJ_2, mJ_sJ_3, mJ_nW_1, mJ_nW_2, if_true]; exact h a ha
  · rw [if_neg hkb]
    by_cases hka : k = a
    · subst hka; simp (disch := omega) only [true_and, mI_sI_1, mI_sI_2, mI_sI_3, mI_nW_1, mI_nW_2, mI_sR, mI_sJ, mI_sA_1, mI_sA_2, mR_sI, mR_sJ, mR_sA, mR_sR_1, mR_sR_2, mR_sR_3, mR_nW_1, mR_nW_2, mN_sI, mN_sJ, mN_sR, mN_sA, mN_nW_1, mN_nW_2, mJ_sI, mJ_sR, mJ_sA, mJ_sJ_1, mJ_sJ_2, mJ_sJ_3, mJ_nW_1, mJ_nW_2, if_true]; exact h b hb
    · rw [if_neg hka]; simp (disch := omega) only [true_and, mI_sI_1, mI_sI_2, mI_sI_3, mI_nW_1, mI_nW_2, mI_sR, mI_sJ, mI_sA_1, mI_sA_2, mR_sI, mR_sJ, mR_sA, mR_sR_1, mR_sR_2, mR_sR_3, mR_nW_1, mR_nW_2, mN_sI, mN_sJ, mN_sR, mN_sA, mN_nW_1, mN_nW_2, mJ_sI, mJ_sR, mJ_sA, mJ_sJ_1, mJ_sJ_2, mJ_sJ_3, mJ_nW_1, mJ_nW_2]; exact h k hk
theorem c1_nextOrder {N : o_M} (hX : wX N) {n : Nat} (hn : n ≤ 5) {g r : Nat → Nat} (hsz : mI N 35 2 = nI n) (hrow : ∀ k, k < n → mI N 36 k = nI (g (r k))) (hr : ∀ k, k < n → r k < n) (hg : ∀ p q, p < q → q < n → g p < g q) (hb : ∀ p, p < n → g p < 12) (q : Int32 → o_M → Prop) (h0 : nxt n r = none → q 0 N) (h1 : ∀ r', nxt n r = some r' → ∀ N', NR N N' → (∀ k, k < n → mI N' 36 k = nI (g (r' k))) → q 1 N') : K_X1_nextOrder l [rV (some 35)] N q := by
  have hle : ∀ a b, a < n → b < n → (mI N 36 a ≤ mI N 36 b ↔ r a ≤ r b) := fun a b ha hb' => by
    have h1 := hb _ (hr a ha)
    have h2 := hb _ (hr b hb')
    rw [hrow a ha, hrow b hb', nI_leI (by omega) (by omega)]
    constructor
    · intro z
      by_cases hc : r a ≤ r b
      · exact hc
      · have := hg (r b) (r a) (by omega) (hr a ha); omega
    · intro z
      by_cases hc : r a = r b
      · rw [hc]; exact Nat.le_refl _
      · have := hg (r a) (r b) (by omega) (hr b hb'); omega
  have rev : ∀ f a b r1 N1, a ≤ n → b < n → b - a ≤ 2 * f → NR N N1 → (∀ k, k < n → mI N1 36 k = nI (g (r1 k))) → (∀ N', NR N N' → (∀ k, k < n → mI N' 36 k = nI (g (rvs f r1 a b k))) → q 1 N') → H_X1_nextOrder_91 l q (nI a) (nI b) N1 := by
    intro f
    induction f with
    | zero =>
      intro a b r1 N1 ha hb hf hN hrow1 hq
      refine w_X1_nextOrder_91 l q _ _ N1 ⟨fun _ => hq N1 hN hrow1, fun z => ?_⟩
      rw [nI_leI (by omega) (by omega)] at z; omega
    | succ f ih =>
      intro a b r1 N1 ha hb hf hN hrow1 hq
      unfold rvs at hq
      refine w_X1_nextOrder_91 l q _ _ N1 ⟨fun z => ?_, fun z => ?_⟩
      · rw [nI_leI (by omega) (by omega)] at z
        rw [if_neg (by omega)] at hq
        exact hq N1 hN hrow1
      · rw [nI_leI (by omega) (by omega)] at z
        rw [if_pos (by omega)] at hq
        have em : nI b + -1 = nI (b - 1) := by
          have := pk_m1 (b - 1)
          rw [show b - 1 + 1 = b by omega] at this; exact this
        rw [n1, em]
        exact c1_swap (Sm_wX hN.1 hX) (by omega) (by omega) _ (ih (a + 1) (b - 1) _ _ (by omega) (by omega) (by omega) (NR_sw hN _ _ _ _) (row_sw (by omega) hb hrow1) hq)
  have N0 : NR N N := ⟨Sm_r N, fun _ => rfl, fun _ => rfl⟩
  have other : ∀ t, t + 1 < n → nxT r (n - 1) = t + 1 → ∀ k, k < n → nxO r t (n - 1) = nxO r t k → H_X1_nextOrder_47 l q (nI t) (nI k) N := by
    intro t ht hnx k
    have fin : ∀ k, k < n → nxO r t (n - 1) = k → K_X1_swap l [rV (some 35), iV (nI t), iV (nI k)] N (fun M10 => H_X1_nextOrder_91 l q (nI t + 1) ((mI M10 35 2) - 1) M10) := by
      intro k hk hko
      refine c1_swap hX (by omega) (by omega) _ ?_
      simp (disch := omega) only [true_and, mI_sI_1, mI_sI_2, mI_sI_3, mI_nW_1, mI_nW_2, mI_sR, mI_sJ, mI_sA_1, mI_sA_2, mR_sI, mR_sJ, mR_sA, mR_sR_1, mR_sR_2, mR_sR_3, mR_nW_1, mR_nW_2, mN_sI, mN_sJ, mN_sR, mN_sA, mN_nW_1, mN_nW_2, mJ_sI, mJ_sR, mJ_sA, mJ_sJ_1, mJ_sJ_2, mJ_sJ_3, mJ_nW_1, mJ_nW_2, hsz]
      have em : nI n - 1 = nI (n - 1) := pk_sub (a := n) (b := 1) (by omega)
      rw [n1, em]
      refine rev 5 (t + 1) (n - 1) (sw r t k) _ (by omega) (by omega) (by omega) (NR_sw N0 _ _ _ _) (row_sw (by omega) hk hrow) (fun N' hN' hr' => h1 _ ?_ N' hN' hr')
      unfold nxt
      rw [hnx]
      simp only
      rw [hko]
    induction k with
    | zero =>
      intro hk hko
      exact w_X1_nextOrder_47 l q _ _ N ⟨fun _ => fin 0 hk hko, fun z => absurd (nI_le (a := 0) (by omega) (by omega)) z⟩
    | succ k ih =>
      intro hk hko
      have em : nI (k + 1) + -1 = nI k := pk_m1 k
      refine w_X1_nextOrder_47 l q _ _ N ⟨fun z => ?_, fun z => ?_⟩
      · rw [nI_leI (by omega) (by omega)] at z
        rw [nxO, if_neg (by omega)] at hko
        exact fin (k + 1) hk hko
      · rw [nI_leI (by omega) (by omega)] at z
        rw [xn36 hX, nI_clamp (by omega), nI_clamp (by omega), hle t (k + 1) (by omega) hk, em]
        refine ⟨xr35_0 hX, vin (by omega) (by decide), xr35_0 hX, vin (by omega) (by decide), fun z2 => ?_, fun z2 => ?_⟩
        · rw [nxO, if_neg (by omega)] at hko
          exact fin (k + 1) hk hko
        · rw [nxO, if_pos (by omega)] at hko
          exact ih (by omega) hko
  have turn : ∀ k, k < n → nxT r (n - 1) = nxT r k → H_X1_nextOrder_7 l q (nI k - 1) N := by
    intro k
    induction k with
    | zero =>
      intro hk hko
      have e1 : nI 0 - 1 = (-1 : Int32) := by decide
      rw [e1]
      refine w_X1_nextOrder_7 l q _ N ⟨fun _ => ⟨fun z => absurd z (by decide), fun _ => h0 ?_⟩, fun z => absurd (by decide) z⟩
      unfold nxt
      rw [hko]; rfl
    | succ k ih =>
      intro hk hko
      have em : nI (k + 1) - 1 = nI k := pk_sub (a := k + 1) (b := 1) (by omega)
      have em2 : nI k + -1 = nI k - 1 := by grind
      rw [em]
      refine w_X1_nextOrder_7 l q _ N ⟨fun z => ?_, fun _ => ?_⟩
      · (simp (disch := omega) only [ile, ilt, ieq, nI_toInt, Int32.reduceToInt] at z; omega)
      rw [n1, xn36 hX, nI_clamp (by omega), nI_clamp (by omega), hle k (k + 1) (by omega) hk, em2]
      refine ⟨xr35_0 hX, vin (by omega) (by decide), xr35_0 hX, vin (by omega) (by decide), fun z => ⟨fun _ => ?_, fun y => ?_⟩, fun z => ?_⟩
      · rw [nxT, if_pos z] at hko
        have em3 : mI N 35 2 - 1 = nI (n - 1) := by rw [hsz]; exact pk_sub (a := n) (b := 1) (by omega)
        rw [em3]
        exact other k (by omega) hko (n - 1) (by omega) rfl
      · (simp (disch := omega) only [ile, ilt, ieq, nI_toInt, Int32.reduceToInt] at y; omega)
      · rw [nxT, if_neg z] at hko
        exact ih (by omega) hko
  refine w_X1_nextOrder l N q ?_
  rw [hsz]
  by_cases hn0 : n = 0
  · subst hn0
    have e1 : nI 0 - 2 = (-2 : Int32) := by decide
    rw [e1]
    exact w_X1_nextOrder_7 l q _ N ⟨fun _ => ⟨fun z => absurd z (by decide), fun _ => h0 rfl⟩, fun z => absurd (by decide) z⟩
  · have e2 : nI n - 2 = nI (n - 1) - 1 := by
      have : n = 1 ∨ n = 2 ∨ n = 3 ∨ n = 4 ∨ n = 5 := by omega
      rcases this with rfl | rfl | rfl | rfl | rfl <;> decide
    rw [e2]
    exact turn (n - 1) (by omega) rfl
/-- the class sorts -/
theorem c1_begin (r : Rel M nw np ns nt T) {s n : Nat} (hs : s < ns) (en : mI M 80 s = nI n) (hn : n ≤ 5) (W : Nat → Nat) (hW : ∀ k, k < n → mI M (48 + 128 * s) k = nI (W k) ∧ W k < 12) (hd : ∀ j k, j < k → k < n → W j ≠ W k) (q : o_M → Prop) (h : ∀ N, Sm M N → mI N 35 2 = nI n → (∀ k, k < n → mI N 36 k = nI (srt W n k)) → q N) : K_X1_begin l [rV (some 35), rV (some (47 + 128 * s))] M q := by
  obtain ⟨⟨_, g4, _, _, l4, _⟩, _, ⟨e7, _⟩, _⟩ := r.2.2.2.2.2.2.1.1 s hs
  have hX := r.2.1
  have outer : ∀ m i, i + m = n → ∀ N, Sm M N → mI N 35 2 = nI n → (∀ k, k < i → mI N 36 k = nI (srt W i k)) → H_X1_begin_10 l q (47 + 128 * s) (nI i) N := by
    intro m
    induction m with
    | zero =>
      intro i hi N hN hsz hrow
      have : i = n := by omega
      subst this
      exact w_X1_begin_10 l q _ (ty47 s) _ N ⟨fun _ => h N hN hsz hrow, fun z => absurd (by rw [hsz]; exact nI_le (Nat.le_refl _) (by omega)) z⟩
    | succ m ih =>
      intro i hi N hN hsz hrow
      have hnx := fun N' hN' hsz' => ih (i + 1) (by omega) N' hN' hsz'
      have inner : ∀ j (a : Nat → Nat) N1, j ≤ i → Sm M N1 → mI N1 35 2 = nI n → (∀ p, p ≤ i → p ≠ j → mI N1 36 p = nI (a p) ∧ a p < 12) → insP (W i) j a = srt W (i + 1) → H_X1_begin_23 l q (47 + 128 * s) (nI i) (nI j) (nI j) N1 := by
        intro j
        induction j with
        | zero =>
          intro a N1 hj hN1 hsz1 hst hins
          have hc : mI N1 (48 + 128 * s) i = nI (W i) := by rw [Sm_i hN1 (scr_o (by omega) (by omega))]; exact (hW i (by omega)).1
          refine w_X1_begin_23 l q _ (ty47 s) _ _ _ N1 ⟨fun _ => ?_, fun z => absurd (nI_le (b := 0) (Nat.le_refl _) (by omega)) z⟩
          rw [show 47 + 128 * s + 1 = 48 + 128 * s by omega, hN1.2.2.1, hN1.2.2.2.1, l4, xn36 hX, nI_clamp (by omega), nI_clamp (by omega), hc, n1]
          refine ⟨xr35_0 hX, g4, vin (by omega) (by decide), vin (by omega) (by decide), hnx _ (Sm_t hN1 (Sm_sI _ rfl _)) (by simp (disch := omega) only [true_and, mI_sI_1, mI_sI_2, mI_sI_3, mI_nW_1, mI_nW_2, mI_sR, mI_sJ, mI_sA_1, mI_sA_2, mR_sI, mR_sJ, mR_sA, mR_sR_1, mR_sR_2, mR_sR_3, mR_nW_1, mR_nW_2, mN_sI, mN_sJ, mN_sR, mN_sA, mN_nW_1, mN_nW_2, mJ_sI, mJ_sR, mJ_sA, mJ_sJ_1, mJ_sJ_2, mJ_sJ_3, mJ_nW_1, mJ_nW_2, hsz1]) (fun k hk => ?_)⟩
          rw [← hins]
          unfold insP fuN
          by_cases hk0 : k = 0
          · subst hk0; simp (disch := omega) only [true_and, mI_sI_1, mI_sI_2, mI_sI_3, mI_nW_1, mI_nW_2, mI_sR, mI_sJ, mI_sA_1, mI_sA_2, mR_sI, mR_sJ, mR_sA, mR_sR_1, mR_sR_2, mR_sR_3, mR_nW_1, mR_nW_2, mN_sI, mN_sJ, mN_sR, mN_sA, mN_nW_1, mN_nW_2, mJ_sI, mJ_sR, mJ_sA, mJ_sJ_1, mJ_sJ_2, mJ_sJ_3, mJ_nW_1, mJ_nW_2, if_true]
          · rw [if_neg hk0]; simp (disch := omega) only [true_and, mI_sI_1, mI_sI_2, mI_sI_3, mI_nW_1, mI_nW_2, mI_sR, mI_sJ, mI_sA_1, mI_sA_2, mR_sI, mR_sJ, mR_sA, mR_sR_1, mR_sR_2, mR_sR_3, mR_nW_1, mR_nW_2, mN_sI, mN_sJ, mN_sR, mN_sA, mN_nW_1, mN_nW_2, mJ_sI, mJ_sR, mJ_sA, mJ_sJ_1, mJ_sJ_2, mJ_sJ_3, mJ_nW_1, mJ_nW_2]; exact (hst k (by omega) hk0).1
        | succ j ihj =>
          intro a N1 hj hN1 hsz1 hst hins
          have hc : mI N1 (48 + 128 * s) i = nI (W i) := by rw [Sm_i hN1 (scr_o (by omega) (by omega))]; exact (hW i (by omega)).1
          have hWi := (hW i (by omega)).2
          obtain ⟨hj1, hj2⟩ := hst j (by omega) (by omega)
          have em : nI (j + 1) - 1 = nI j := pk_sub (a := j + 1) (b := 1) (by omega)
          have em2 : nI (j + 1) + -1 = nI j := pk_m1 j
          refine w_X1_begin_23 l q _ (ty47 s) _ _ _ N1 ⟨fun z => ?_, fun _ => ?_⟩
          · (simp (disch := omega) only [ile, ilt, ieq, nI_toInt, Int32.reduceToInt] at z; omega)
          rw [show 47 + 128 * s + 1 = 48 + 128 * s by omega, hN1.2.2.1, hN1.2.2.2.1, l4, xn36 hX, em, em2, nI_clamp (by omega), nI_clamp (by omega), nI_clamp (by omega), hc, hj1, nI_leI (by omega) (by omega), n1 i]
          refine ⟨xr35_0 hX, vin (by omega) (by decide), g4, vin (by omega) (by decide), fun z => ⟨xr35_0 hX, g4, vin (by omega) (by decide), vin (by omega) (by decide), hnx _ (Sm_t hN1 (Sm_sI _ rfl _)) (by simp (disch := omega) only [true_and, mI_sI_1, mI_sI_2, mI_sI_3, mI_nW_1, mI_nW_2, mI_sR, mI_sJ, mI_sA_1, mI_sA_2, mR_sI, mR_sJ, mR_sA, mR_sR_1, mR_sR_2, mR_sR_3, mR_nW_1, mR_nW_2, mN_sI, mN_sJ, mN_sR, mN_sA, mN_nW_1, mN_nW_2, mJ_sI, mJ_sR, mJ_sA, mJ_sJ_1, mJ_sJ_2, mJ_sJ_3, mJ_nW_1, mJ_nW_2, hsz1]) (fun k hk => ?_)⟩, fun z => ⟨xr35_0 hX, xr35_0 hX, vin (by omega) (by decide), vin (by omega) (by decide), ihj (fuN a (j + 1) (a j)) _ (by omega) (Sm_t hN1 (Sm_sI _ rfl _)) (by simp (disch := omega) only [true_and, mI_sI_1, mI_sI_2, mI_sI_3, mI_nW_1, mI_nW_2, mI_sR, mI_sJ, mI_sA_1, mI_sA_2, mR_sI, mR_sJ, mR_sA, mR_sR_1, mR_sR_2, mR_sR_3, mR_nW_1, mR_nW_2, mN_sI, mN_sJ, mN_sR, mN_sA, mN_nW_1, mN_nW_2, mJ_sI, mJ_sR, mJ_sA, mJ_sJ_1, mJ_sJ_2, mJ_sJ_3, mJ_nW_1, mJ_nW_2, hsz1]) (fun p hp hpj => ?_) ?_⟩⟩
          · rw [← hins]
            unfold insP
            rw [if_pos z]
            unfold fuN
            by_cases hk0 : k = j + 1
            · subst hk0; simp (disch := omega) only [true_and, mI_sI_1, mI_sI_2, mI_sI_3, mI_nW_1, mI_nW_2, mI_sR, mI_sJ, mI_sA_1, mI_sA_2, mR_sI, mR_sJ, mR_sA, mR_sR_1, mR_sR_2, mR_sR_3, mR_nW_1, mR_nW_2, mN_sI, mN_sJ, mN_sR, mN_sA, mN_nW_1, mN_nW_2, mJ_sI, mJ_sR, mJ_sA, mJ_sJ_1, mJ_sJ_2, mJ_sJ_3, mJ_nW_1, mJ_nW_2, if_true]
            · rw [if_neg hk0]; simp (disch := omega) only [true_and, mI_sI_1, mI_sI_2, mI_sI_3, mI_nW_1, mI_nW_2, mI_sR, mI_sJ, mI_sA_1, mI_sA_2, mR_sI, mR_sJ, mR_sA, mR_sR_1, mR_sR_2, mR_sR_3, mR_nW_1, mR_nW_2, mN_sI, mN_sJ, mN_sR, mN_sA, mN_nW_1, mN_nW_2, mJ_sI, mJ_sR, mJ_sA, mJ_sJ_1, mJ_sJ_2, mJ_sJ_3, mJ_nW_1, mJ_nW_2]; exact (hst k (by omega) hk0).1
          · unfold fuN
            by_cases hk0 : p = j + 1
            · subst hk0; simp (disch := omega) only [true_and, mI_sI_1, mI_sI_2, mI_sI_3, mI_nW_1, mI_nW_2, mI_sR, mI_sJ, mI_sA_1, mI_sA_2, mR_sI, mR_sJ, mR_sA, mR_sR_1, mR_sR_2, mR_sR_3, mR_nW_1, mR_nW_2, mN_sI, mN_sJ, mN_sR, mN_sA, mN_nW_1, mN_nW_2, mJ_sI, mJ_sR, mJ_sA, mJ_sJ_1, mJ_sJ_2, mJ_sJ_3, mJ_nW_1, mJ_nW_2, if_true]; exact hj2
            · rw [if_neg hk0]; simp (disch := omega) only [true_and, mI_sI_1, mI_sI_2, mI_sI_3, mI_nW_1, mI_nW_2, mI_sR, mI_sJ, mI_sA_1, mI_sA_2, mR_sI, mR_sJ, mR_sA, mR_sR_1, mR_sR_2, mR_sR_3, mR_nW_1, mR_nW_2, mN_sI, mN_sJ, mN_sR, mN_sA, mN_nW_1, mN_nW_2, mJ_sI, mJ_sR, mJ_sA, mJ_sJ_1, mJ_sJ_2, mJ_sJ_3, mJ_nW_1, mJ_nW_2]; exact hst p hp hk0
          · rw [← hins]
            conv => rhs; unfold insP
            rw [if_neg z]
      refine w_X1_begin_10 l q _ (ty47 s) _ N ⟨fun z => ?_, fun _ => ?_⟩
      · rw [hsz, nI_leI (by omega) (by omega)] at z; omega
      · refine inner i (srt W i) N (Nat.le_refl _) hN hsz (fun p hp hpi => ⟨hrow p (by omega), ?_⟩) rfl
        obtain ⟨j, hj, ej⟩ := (srt_ok W n hd i (by omega)).2 p (by omega)
        rw [ej]; exact (hW j (by omega)).2
  refine w_X1_begin l _ (ty47 s) M q ?_
  rw [e7, en]
  exact outer n 0 (by omega) _ (Sm_sI _ rfl _) (by simp (disch := omega) only [true_and, mI_sI_1, mI_sI_2, mI_sI_3, mI_nW_1, mI_nW_2, mI_sR, mI_sJ, mI_sA_1, mI_sA_2, mR_sI, mR_sJ, mR_sA, mR_sR_1, mR_sR_2, mR_sR_3, mR_nW_1, mR_nW_2, mN_sI, mN_sJ, mN_sR, mN_sA, mN_nW_1, mN_nW_2, mJ_sI, mJ_sR, mJ_sA, mJ_sJ_1, mJ_sJ_2, mJ_sJ_3, mJ_nW_1, mJ_nW_2]) (fun k hk => by omega)
/-- what the search has found so far -/
def FO (N : o_M) (n : Nat) (g : Nat → Nat) (o : Option (Nat × List Nat)) : Prop := match o with
  | none => mI N 35 3 = 1073741824
  | some (b, y) => b ≤ 8100 ∧ mI N 35 3 = nI b ∧ ∀ k, k < n → mI N 37 k = nI (g (y.getD k 0))
theorem p_waitN (M : o_M) : waitN (pv M) = waitN (mI M) := by
  funext s n row
  unfold waitN
  rw [p_nd]; rfl
theorem fr_waitN {N : o_M} (h : Sm M N) : waitN (mI N) = waitN (mI M) := by rw [← p_waitN, ← p_waitN, h.1]
theorem c1_findOrder (r : Rel M nw np ns nt T) {s n : Nat} (hs : s < ns) (en : mI M 80 s = nI n) (hn : n ≤ 5) (W : Nat → Nat) (hW : ∀ k, k < n → mI M (48 + 128 * s) k = nI (W k) ∧ W k < nw) (hd : ∀ j k, j < k → k < n → W j ≠ W k) (q : o_M → Prop) (h : ∀ N, Sm M N → FO N n (srt W n) (fb (fun x => waitN (mI M) s n (fun k => srt W n (x.getD k 0))) (ordL n) none) → q N) : K_X1_findOrder l [rV (some 35), rV (some (47 + 128 * s)), rV (some 17)] M q := by
  have hnw := r.2.2.1.1.1
  have hs1 := srt_ok W n hd n (Nat.le_refl _)
  have hg12 : ∀ p, p < n → srt W n p < nw := fun p hp => by
    obtain ⟨j, hj, ej⟩ := hs1.2 p hp
    rw [ej]; exact (hW j hj).2
  have key : ∀ f i x o N, i + f = 120 → (∀ y ∈ seqL n f x, y.length = n ∧ ∀ k, k < n → y.getD k 0 < n) → Sm M N → mI N 35 2 = nI n → (∀ k, k < n → mI N 36 k = nI (srt W n (x.getD k 0))) → FO N n (srt W n) o → (∀ N', Sm M N' → FO N' n (srt W n) (fb (fun x => waitN (mI M) s n (fun k => srt W n (x.getD k 0))) (seqL n f x) o) → q N') → H_X1_findOrder_16 l q (47 + 128 * s) 1 (nI i) N := by
    intro f
    induction f with
    | zero =>
      intro i x o N hi _ hN _ _ hFO hq
      have : i = 120 := by omega
      subst this
      exact w_X1_findOrder_16 l q _ (ty47 s) _ _ N ⟨fun _ => hq N hN hFO, fun z => absurd (by decide) z⟩
    | succ f ih =>
      intro i x o N hi hok hN hsz hrow hFO hq
      have rN := Rel_Sm hN r
      have hX := rN.2.1
      obtain ⟨hxl, hxn⟩ := hok x (by unfold seqL; exact List.mem_cons_self ..)
      have hwb : waitN (mI M) s n (fun k => srt W n (x.getD k 0)) ≤ 8100 := waitN_le hn (fun k hk => (min_of r (hg12 _ (hxn k hk))).1)
      -- going on after the wait was taken in
      have cont : ∀ o' N', Sm M N' → mI N' 35 2 = nI n → (∀ k, k < n → mI N' 36 k = nI (srt W n (x.getD k 0))) → FO N' n (srt W n) o' → (∀ L, fb (fun x => waitN (mI M) s n (fun k => srt W n (x.getD k 0))) (x :: L) o = fb (fun x => waitN (mI M) s n (fun k => srt W n (x.getD k 0))) L o') → K_X1_nextOrder l [rV (some 35)] N' (fun r8 M7 => H_X1_findOrder_16 l q (47 + 128 * s) r8 (nI (i + 1)) M7) := by
        intro o' N' hN' hsz' hrow' hFO' hfb
        refine c1_nextOrder (Sm_wX hN' r.2.1) hn (g := srt W n) (r := ofL x) hsz' hrow' (fun k hk => hxn k hk) hs1.1 (fun p hp => by have := hg12 p hp; omega) _ (fun hnx => ?_) (fun r' hnx N2 hN2 hrow2 => ?_)
        · have e1 : seqL n (f + 1) x = [x] := by
            rw [seqL]
            unfold nxtL; rw [hnx]; rfl
          rw [e1, hfb] at hq
          have hfin : q N' := hq N' hN' hFO'
          exact w_X1_findOrder_16 l q _ (ty47 s) _ _ N' ⟨fun _ => hfin, fun _ => ⟨fun _ => hfin, fun y => absurd rfl y⟩⟩
        · have e1 : seqL n (f + 1) x = x :: seqL n f (lsN n r') := by
            rw [seqL]
            unfold nxtL; rw [hnx]; rfl
          rw [e1] at hq hok
          refine ih (i + 1) (lsN n r') o' N2 (by omega) (fun y hy => hok y (List.mem_cons_of_mem _ hy)) (Sm_t hN' hN2.1) (by rw [hN2.2.1]; exact hsz') (fun k hk => by rw [hrow2 k hk, lsN_get n r' hk]) ?_ (fun N3 hN3 hFO3 => hq N3 hN3 (by rw [hfb]; exact hFO3))
          cases o' with
          | none => show mI N2 35 3 = _; rw [hN2.2.1]; exact hFO'
          | some bo =>
            obtain ⟨b, y⟩ := bo
            obtain ⟨f1, f2, f3⟩ := hFO'
            exact ⟨f1, by rw [hN2.2.1]; exact f2, fun k hk => by rw [hN2.2.2]; exact f3 k hk⟩
      refine w_X1_findOrder_16 l q _ (ty47 s) _ _ N ⟨fun z => ?_, fun _ => ⟨fun z => absurd z (by decide), fun _ => c1_sumWait rN hs hn hsz (row := fun k => srt W n (x.getD k 0)) (fun k hk => ⟨hrow k hk, hg12 _ (hxn k hk)⟩) _ ?_⟩⟩
      · (simp (disch := omega) only [ile, ilt, ieq, nI_toInt, Int32.reduceToInt] at z; omega)
      rw [fr_waitN hN, n1]
      -- taking it
      have take : ¬ mI N 35 3 ≤ nI (waitN (mI M) s n (fun k => srt W n (x.getD k 0))) → (∀ L, fb (fun x => waitN (mI M) s n (fun k => srt W n (x.getD k 0))) (x :: L) o = fb (fun x => waitN (mI M) s n (fun k => srt W n (x.getD k 0))) L (some (waitN (mI M) s n (fun k => srt W n (x.getD k 0)), x))) → (mR (sI N 35 3 (nI (waitN (mI M) s n (fun k => srt W n (x.getD k 0))))) 35 0 = some 36 ∧ (mR (sI N 35 3 (nI (waitN (mI M) s n (fun k => srt W n (x.getD k 0))))) 35 1 = some 37 ∧ (o_cpok 0 0 (mI (sI N 35 3 (nI (waitN (mI M) s n (fun k => srt W n (x.getD k 0))))) 35 2) (mN (sI N 35 3 (nI (waitN (mI M) s n (fun k => srt W n (x.getD k 0))))) 36) (mN (sI N 35 3 (nI (waitN (mI M) s n (fun k => srt W n (x.getD k 0))))) 37) ∧ K_X1_nextOrder l [rV (some 35)] (sA (sI N 35 3 (nI (waitN (mI M) s n (fun k => srt W n (x.getD k 0))))) 37 (va_cpy (mI (sI N 35 3 (nI (waitN (mI M) s n (fun k => srt W n (x.getD k 0))))) 36) (mI (sI N 35 3 (nI (waitN (mI M) s n (fun k => srt W n (x.getD k 0))))) 37) (0 : Int32).toNatClampNeg (0 : Int32).toNatClampNeg (mI (sI N 35 3 (nI (waitN (mI M) s n (fun k => srt W n (x.getD k 0))))) 35 2).toNatClampNeg)) (fun r13 M12 => H_X1_findOrder_16 l q (47 + 128 * s) r13 (nI (i + 1)) M12)))) := by
        intro _ hfb
        generalize hw : waitN (mI M) s n (fun k => srt W n (x.getD k 0)) = w at *
        have t0 : (0 : Int32).toNatClampNeg = 0 := by decide
        simp (disch := omega) only [true_and, mI_sI_1, mI_sI_2, mI_sI_3, mI_nW_1, mI_nW_2, mI_sR, mI_sJ, mI_sA_1, mI_sA_2, mR_sI, mR_sJ, mR_sA, mR_sR_1, mR_sR_2, mR_sR_3, mR_nW_1, mR_nW_2, mN_sI, mN_sJ, mN_sR, mN_sA, mN_nW_1, mN_nW_2, mJ_sI, mJ_sR, mJ_sA, mJ_sJ_1, mJ_sJ_2, mJ_sJ_3, mJ_nW_1, mJ_nW_2, xr35_0 hX, xr35_1 hX, xn36 hX, xn37 hX, hsz, t0]
        rw [nI_clamp (by omega)]
        refine ⟨⟨by decide, by decide, fun z => ?_, ?_, ?_⟩, ?_⟩
        · (simp (disch := omega) only [ile, ilt, ieq, nI_toInt, Int32.reduceToInt] at z; omega)
        · rw [t0, nI_clamp (by omega)]; omega
        · rw [t0, nI_clamp (by omega)]; omega
        · refine cont (some (w, x)) _ (Sm_t hN (Sm_t (Sm_sI _ rfl _) (Sm_sA _ (fun _ => rfl) _))) (by simp (disch := omega) only [true_and, mI_sI_1, mI_sI_2, mI_sI_3, mI_nW_1, mI_nW_2, mI_sR, mI_sJ, mI_sA_1, mI_sA_2, mR_sI, mR_sJ, mR_sA, mR_sR_1, mR_sR_2, mR_sR_3, mR_nW_1, mR_nW_2, mN_sI, mN_sJ, mN_sR, mN_sA, mN_nW_1, mN_nW_2, mJ_sI, mJ_sR, mJ_sA, mJ_sJ_1, mJ_sJ_2, mJ_sJ_3, mJ_nW_1, mJ_nW_2, hsz]) (fun k hk => by simp (disch := omega) only [true_and, mI_sI_1, mI_sI_2, mI_sI_3, mI_nW_1, mI_nW_2, mI_sR, mI_sJ, mI_sA_1, mI_sA_2, mR_sI, mR_sJ, mR_sA, mR_sR_1, mR_sR_2, mR_sR_3, mR_nW_1, mR_nW_2, mN_sI, mN_sJ, mN_sR, mN_sA, mN_nW_1, mN_nW_2, mJ_sI, mJ_sR, mJ_sA, mJ_sJ_1, mJ_sJ_2, mJ_sJ_3, mJ_nW_1, mJ_nW_2]; exact hrow k hk) ⟨hwb, by simp (disch := omega) only [true_and, mI_sI_1, mI_sI_2, mI_sI_3, mI_nW_1, mI_nW_2, mI_sR, mI_sJ, mI_sA_1, mI_sA_2, mR_sI, mR_sJ, mR_sA, mR_sR_1, mR_sR_2, mR_sR_3, mR_nW_1, mR_nW_2, mN_sI, mN_sJ, mN_sR, mN_sA, mN_nW_1, mN_nW_2, mJ_sI, mJ_sR, mJ_sA, mJ_sJ_1, mJ_sJ_2, mJ_sJ_3, mJ_nW_1, mJ_nW_2], fun k hk => ?_⟩ hfb
          simp (disch := omega) only [true_and, mI_sI_1, mI_sI_2, mI_sI_3, mI_nW_1, mI_nW_2, mI_sR, mI_sJ, mI_sA_1, mI_sA_2, mR_sI, mR_sJ, mR_sA, mR_sR_1, mR_sR_2, mR_sR_3, mR_nW_1, mR_nW_2, mN_sI, mN_sJ, mN_sR, mN_sA, mN_nW_1, mN_nW_2, mJ_sI, mJ_sR, mJ_sA, mJ_sJ_1, mJ_sJ_2, mJ_sJ_3, mJ_nW_1, mJ_nW_2]
          unfold va_cpy
          have hcond : 0 ≤ k ∧ k < 0 + n := by omega
          simp only [hcond, and_self, if_true]
          simp (disch := omega) only [true_and, mI_sI_1, mI_sI_2, mI_sI_3, mI_nW_1, mI_nW_2, mI_sR, mI_sJ, mI_sA_1, mI_sA_2, mR_sI, mR_sJ, mR_sA, mR_sR_1, mR_sR_2, mR_sR_3, mR_nW_1, mR_nW_2, mN_sI, mN_sJ, mN_sR, mN_sA, mN_nW_1, mN_nW_2, mJ_sI, mJ_sR, mJ_sA, mJ_sJ_1, mJ_sJ_2, mJ_sJ_3, mJ_nW_1, mJ_nW_2]
          rw [show 0 + (k - 0) = k by omega]; exact hrow k hk
      cases o with
      | none =>
        have hFO : mI N 35 3 = 1073741824 := hFO
        refine ⟨fun z => ?_, fun z => take z (fun L => rfl)⟩
        rw [hFO] at z; (simp (disch := omega) only [ile, ilt, ieq, nI_toInt, Int32.reduceToInt] at z; omega)
      | some bo =>
        obtain ⟨b, y⟩ := bo
        obtain ⟨f1, f2, f3⟩ := hFO
        refine ⟨fun z => ?_, fun z => take z (fun L => ?_)⟩
        · rw [f2, nI_leI (by omega) (by omega)] at z
          exact cont (some (b, y)) N hN hsz hrow ⟨f1, f2, f3⟩ (fun L => by rw [fb, if_pos z])
        · rw [f2, nI_leI (by omega) (by omega)] at z
          rw [fb, if_neg z]
  refine w_X1_findOrder l _ (ty47 s) M q (c1_begin r hs en hn W (fun k hk => ⟨(hW k hk).1, by have := (hW k hk).2; omega⟩) hd _ (fun N hN hsz hrow => ?_))
  have hord := ord_eq n (by omega)
  refine key 120 0 (List.range n) none _ (by omega) (fun y hy => ord_ok n (by omega) y (by rw [← hord]; exact hy)) (Sm_t hN (Sm_sI _ rfl _)) (by simp (disch := omega) only [true_and, mI_sI_1, mI_sI_2, mI_sI_3, mI_nW_1, mI_nW_2, mI_sR, mI_sJ, mI_sA_1, mI_sA_2, mR_sI, mR_sJ, mR_sA, mR_sR_1, mR_sR_2, mR_sR_3, mR_nW_1, mR_nW_2, mN_sI, mN_sJ, mN_sR, mN_sA, mN_nW_1, mN_nW_2, mJ_sI, mJ_sR, mJ_sA, mJ_sJ_1, mJ_sJ_2, mJ_sJ_3, mJ_nW_1, mJ_nW_2, hsz]) (fun k hk => ?_) (by show mI _ 35 3 = _; simp (disch := omega) only [true_and, mI_sI_1, mI_sI_2, mI_sI_3, mI_nW_1, mI_nW_2, mI_sR, mI_sJ, mI_sA_1, mI_sA_2, mR_sI, mR_sJ, mR_sA, mR_sR_1, mR_sR_2, mR_sR_3, mR_nW_1, mR_nW_2, mN_sI, mN_sJ, mN_sR, mN_sA, mN_nW_1, mN_nW_2, mJ_sI, mJ_sR, mJ_sA, mJ_sJ_1, mJ_sJ_2, mJ_sJ_3, mJ_nW_1, mJ_nW_2]) (fun N' hN' hFO => h N' hN' (by rw [← hord]; exact hFO))
  simp (disch := omega) only [true_and, mI_sI_1, mI_sI_2, mI_sI_3, mI_nW_1, mI_nW_2, mI_sR, mI_sJ, mI_sA_1, mI_sA_2, mR_sI, mR_sJ, mR_sA, mR_sR_1, mR_sR_2, mR_sR_3, mR_nW_1, mR_nW_2, mN_sI, mN_sJ, mN_sR, mN_sA, mN_nW_1, mN_nW_2, mJ_sI, mJ_sR, mJ_sA, mJ_sJ_1, mJ_sJ_2, mJ_sJ_3, mJ_nW_1, mJ_nW_2]
  rw [hrow k hk, List.getD_eq_getElem?_getD, List.getElem?_range hk]; rfl
end S55
