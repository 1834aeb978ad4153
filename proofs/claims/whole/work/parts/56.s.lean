/-! orders: the model's search; waits, order -/
section S56
variable {l : Launch} {M : o_M} {nw np ns nt T : Nat}
theorem or_bit : ∀ a, a < 32 → ∀ d, d < 5 → nI a ||| ((1 : Int32) <<< (nI d &&& 31)) = nI (a ||| 1 <<< d) ∧ a ||| 1 <<< d < 32 := by decide
theorem full_bit : ∀ n, n < 6 → ((1 : Int32) <<< (nI n &&& 31)) - 1 = nI (2 ^ n - 1) := by decide
theorem pow_le5 : ∀ n, n < 6 → ∀ k, k < 6 → n ^ k ≤ 3125 := by decide
/-- the digits of a number below n^k are below n -/
theorem dgs_get (n : Nat) : ∀ k x j, j < k → (dgs n k x).getD (j + 1) 0 = (dgs n (k - 1) (x % n ^ (k - 1))).getD j 0
  | 0 => fun x j h => by omega
  | k + 1 => fun x j h => by rw [dgs]; simp
theorem dgs_lt {n : Nat} : ∀ k x, x < n ^ k → ∀ j, j < k → (dgs n k x).getD j 0 < n
  | 0 => fun x h j hj => by omega
  | k + 1 => fun x h j hj => by
    rw [dgs]
    have hp : 0 < n ^ k := by
      rcases Nat.eq_zero_or_pos (n ^ k) with hz | hz
      · rw [Nat.pow_succ, hz] at h; omega
      · exact hz
    cases j with
    | zero =>
      show x / n ^ k < n
      rw [Nat.div_lt_iff_lt_mul hp, Nat.mul_comm, ← Nat.pow_succ]; exact h
    | succ j => exact dgs_lt k _ (Nat.mod_lt _ hp) j (by omega)
/-- the digits so far: the model's loop -/
theorem c12_isOrder (hw : wM M) {n : Nat} (hn : n ≤ 5) {g : Nat → Nat} (hg : ∀ k, k < n → mI M 117 k = nI (g k)) {x : Nat} (hx : x < n ^ n) (q : Int32 → o_M → Prop) (h : ∀ N, Sm M N → (∀ j, mI N 116 j = mI M 116 j) → (∀ j, mI N 117 j = mI M 117 j) → (∀ k, k < n → mI N 115 k = nI (g ((dgs n n x).getD k 0))) → q (b2 (isPm n (dgs n n x))) N) : K_X12_isOrder l [rV (some 60), iV (nI x), iV (nI n), iV (nI (n ^ n))] M q := by
  have key : ∀ m k rest seen N, k + m = n → rest < n ^ m → (∀ j, j < m → (dgs n m rest).getD j 0 = (dgs n n x).getD (k + j) 0) → seen < 32 → (dgs n m rest).foldl (fun a d => a ||| 1 <<< d) seen = (dgs n n x).foldl (fun a d => a ||| 1 <<< d) 0 → Sm M N → (∀ j, mI N 116 j = mI M 116 j) → (∀ j, mI N 117 j = mI M 117 j) → (∀ i, i < k → mI N 115 i = nI (g ((dgs n n x).getD i 0))) → H_X12_isOrder_12 l q (nI n) (nI (n ^ m)) (nI rest) (nI seen) (nI k) N := by
    intro m
    induction m with
    | zero =>
      intro k rest seen N hk _ _ hs32 hfold hN h116 h117 h115
      have hkn : k = n := by omega
      subst hkn
      have hq := h N hN h116 h117 h115
      have hpm : isPm k (dgs k k x) = decide (seen = 2 ^ k - 1) := by
        unfold isPm
        rw [← hfold]
        simp [dgs]
        rfl
      refine w_X12_isOrder_12 l q _ _ _ _ _ N ⟨fun _ => ?_, fun z => absurd (nI_le (Nat.le_refl _) (by omega)) z⟩
      rw [full_bit k (by omega)]
      have hb : 2 ^ k - 1 < 2 ^ 31 := by
        have : ∀ k, k < 6 → 2 ^ k - 1 < 2 ^ 31 := by decide
        exact this k (by omega)
      refine ⟨fun z => ?_, fun z => ?_⟩
      · have : ¬ seen = 2 ^ k - 1 := fun y => z (by rw [y])
        rw [hpm, decide_eq_false this] at hq; exact hq
      · have : seen = 2 ^ k - 1 := nI_inj (by omega) hb z
        rw [hpm, decide_eq_true this] at hq; exact hq
    | succ m ih =>
      intro k rest seen N hk hrest hdig hs32 hfold hN h116 h117 h115
      have wN := Sm_wM hN hw
      have hn0 : 0 < n := by omega
      have hpm : 0 < n ^ m := Nat.pow_pos hn0
      have hple := pow_le5 n (by omega) m (by omega)
      have hple1 := pow_le5 n (by omega) (m + 1) (by omega)
      have ed : nI (n ^ (m + 1)) / nI n = nI (n ^ m) := by
        rw [pk_div (by omega) hn0 (by omega), Nat.pow_succ, Nat.mul_div_cancel _ hn0]
      have edd : nI rest / nI (n ^ m) = nI (rest / n ^ m) := pk_div (by omega) hpm (by omega)
      have hd0 := hdig 0 (by omega)
      have hdv : (dgs n (m + 1) rest).getD 0 0 = rest / n ^ m := rfl
      have hdlt : rest / n ^ m < n := by
        have := dgs_lt (m + 1) rest hrest 0 (by omega)
        rw [hdv] at this; exact this
      have er : nI rest - nI (rest / n ^ m) * nI (n ^ m) = nI (rest % n ^ m) := by
        rw [pk_mul, pk_sub (Nat.div_mul_le_self _ _)]
        congr 1
        have := Nat.div_add_mod rest (n ^ m)
        rw [Nat.mul_comm] at this
        generalize rest % n ^ m = u at *
        generalize rest / n ^ m * n ^ m = w at *
        omega
      obtain ⟨ob1, ob2⟩ := or_bit seen hs32 (rest / n ^ m) (by omega)
      refine w_X12_isOrder_12 l q _ _ _ _ _ N ⟨fun z => ?_, fun _ => ?_⟩
      · rw [nI_leI (by omega) (by omega)] at z; omega
      rw [ed, edd, er, ob1, n1, nI_clamp (by omega), nI_clamp (by omega), h117, hg _ hdlt, wn56 wN, wn54 wN]
      have hne : ∀ a, a < 4000 → 0 < a → ¬ nI a = 0 := fun a ha h0 z => by (simp (disch := omega) only [ile, ilt, ieq, nI_toInt, Int32.reduceToInt] at z; omega)
      refine ⟨hne n (by omega) hn0, hne _ (by omega) hpm, hne _ (by omega) hpm, wr54 wN, wr56 wN, vin (by omega) (by decide), vin (by omega) (by decide), ?_⟩
      refine ih (k + 1) (rest % n ^ m) _ _ (by omega) (Nat.mod_lt _ hpm) (fun j hj => ?_) ob2 ?_ (Sm_t hN (Sm_sI _ rfl _)) (fun j => by simp (disch := omega) only [true_and, mI_sI_1, mI_sI_2, mI_sI_3, mI_nW_1, mI_nW_2, mI_sR, mI_sJ, mI_sA_1, mI_sA_2, mR_sI, mR_sJ, mR_sA, mR_sR_1, mR_sR_2, mR_sR_3, mR_nW_1, mR_nW_2, mN_sI, mN_sJ, mN_sR, mN_sA, mN_nW_1, mN_nW_2, mJ_sI, mJ_sR, mJ_sA, mJ_sJ_1, mJ_sJ_2, mJ_sJ_3, mJ_nW_1, mJ_nW_2]; exact h116 j) (fun j => by simp (disch := omega) only [true_and, mI_sI_1, mI_sI_2, mI_sI_3, mI_nW_1, mI_nW_2, mI_sR, mI_sJ, mI_sA_1, mI_sA_2, mR_sI, mR_sJ, mR_sA, mR_sR_1, mR_sR_2, mR_sR_3, mR_nW_1, mR_nW_2, mN_sI, mN_sJ, mN_sR, mN_sA, mN_nW_1, mN_nW_2, mJ_sI, mJ_sR, mJ_sA, mJ_sJ_1, mJ_sJ_2, mJ_sJ_3, mJ_nW_1, mJ_nW_2]; exact h117 j) (fun i hi => ?_)
      · have := hdig (j + 1) (by omega)
        rw [show k + (j + 1) = k + 1 + j by omega] at this
        rw [← this]; rfl
      · rw [← hfold]; rfl
      · by_cases hik : i = k
        · subst hik
          simp (disch := omega) only [true_and, mI_sI_1, mI_sI_2, mI_sI_3, mI_nW_1, mI_nW_2, mI_sR, mI_sJ, mI_sA_1, mI_sA_2, mR_sI, mR_sJ, mR_sA, mR_sR_1, mR_sR_2, mR_sR_3, mR_nW_1, mR_nW_2, mN_sI, mN_sJ, mN_sR, mN_sA, mN_nW_1, mN_nW_2, mJ_sI, mJ_sR, mJ_sA, mJ_sJ_1, mJ_sJ_2, mJ_sJ_3, mJ_nW_1, mJ_nW_2]
          rw [← hdv, hd0]; rfl
        · simp (disch := omega) only [true_and, mI_sI_1, mI_sI_2, mI_sI_3, mI_nW_1, mI_nW_2, mI_sR, mI_sJ, mI_sA_1, mI_sA_2, mR_sI, mR_sJ, mR_sA, mR_sR_1, mR_sR_2, mR_sR_3, mR_nW_1, mR_nW_2, mN_sI, mN_sJ, mN_sR, mN_sA, mN_nW_1, mN_nW_2, mJ_sI, mJ_sR, mJ_sA, mJ_sJ_1, mJ_sJ_2, mJ_sJ_3, mJ_nW_1, mJ_nW_2]; exact h115 i (by omega)
  exact w_X12_isOrder l _ _ _ M q (key n 0 x 0 M (by omega) hx (fun j _ => by rw [Nat.zero_add]) (by omega) rfl (Sm_r M) (fun _ => rfl) (fun _ => rfl) (fun i hi => by omega))
theorem fb_app (w : List Nat → Nat) : ∀ (A B : List (List Nat)) o, fb w (A ++ B) o = fb w B (fb w A o)
  | [], _, _ => rfl
  | x :: A, B, o => by
    have h : ∀ L, fb w (x :: L) o = fb w L (match o with
      | none => some (w x, x)
      | some (b, y) => if b ≤ w x then some (b, y) else some (w x, x)) := fun L => rfl
    rw [List.cons_append, h, h]; exact fb_app w A B _
def MO (N : o_M) (n : Nat) (g : Nat → Nat) (o : Option (Nat × List Nat)) (best : Int32) : Prop := match o with
  | none => best = -1
  | some (b, y) => b ≤ 8100 ∧ best = nI b ∧ ∀ k, k < n → mI N 116 k = nI (g (y.getD k 0))
theorem c12_orders (r : Rel M nw np ns nt T) {s n : Nat} (hs : s < ns) (en : mI M 80 s = nI n) (hn : n ≤ 5) (W : Nat → Nat) (hW : ∀ k, k < n → mI M 81 (5 * s + k) = nI (W k) ∧ W k < nw) (hd : ∀ j k, j < k → k < n → W j ≠ W k) (q : Int32 → o_M → Prop) (h : ∀ N best, Sm M N → MO N n (srt W n) (fb (fun x => waitN (mI M) s n (fun k => srt W n (x.getD k 0))) (ordL n) none) best → q best N) : K_X12_orders l [rV (some 60), iV (nI s)] M q := by
  have hnw := r.2.2.1.1.1
  have hns := r.2.2.1.2.2.1.1
  have hsc : (nI s).toNatClampNeg = s := nI_clamp (by omega)
  have v40 : vp_in (nI s) 40 := vin (by omega) (by decide)
  have hs1 := srt_ok W n hd n (Nat.le_refl _)
  have hg12 : ∀ p, p < n → srt W n p < nw := fun p hp => by
    obtain ⟨j, hj, ej⟩ := hs1.2 p hp
    rw [ej]; exact (hW j hj).2
  have hple := pow_le5 n (by omega) n (by omega)
  -- the search
  have search : ∀ m x, x + m = n ^ n → ∀ N best, Sm M N → (∀ k, k < n → mI N 117 k = nI (srt W n k)) → MO N n (srt W n) (fb (fun x => waitN (mI M) s n (fun k => srt W n (x.getD k 0))) (((List.range x).map (dgs n n)).filter (isPm n)) none) best → H_X12_orders_106 l q (nI s) (nI n) (nI (n ^ n)) best (nI x) N := by
    intro m
    induction m with
    | zero =>
      intro x hx N best hN h117 hMO
      have : x = n ^ n := by omega
      subst this
      exact w_X12_orders_106 l q _ _ _ _ _ N ⟨fun _ => h N best hN hMO, fun z => absurd (nI_le (Nat.le_refl _) (by omega)) z⟩
    | succ m ih =>
      intro x hx N best hN h117 hMO
      have rN := Rel_Sm hN r
      have hx' : x < n ^ n := by omega
      have hsplit : ((List.range (x + 1)).map (dgs n n)).filter (isPm n) = ((List.range x).map (dgs n n)).filter (isPm n) ++ (if isPm n (dgs n n x) then [dgs n n x] else []) := by
        rw [List.range_succ, List.map_append, List.filter_append]
        congr 1
        simp only [List.map_cons, List.map_nil, List.filter]
        cases isPm n (dgs n n x) <;> rfl
      have ih := ih (x + 1) (by omega)
      rw [hsplit, fb_app] at ih
      generalize fb (fun x => waitN (mI M) s n (fun k => srt W n (x.getD k 0))) (((List.range x).map (dgs n n)).filter (isPm n)) none = o at *
      refine w_X12_orders_106 l q _ _ _ _ _ N ⟨fun z => ?_, fun _ => c12_isOrder rN.1 hn h117 hx' _ (fun N1 hN1 h116' h117' hrow => ?_)⟩
      · rw [nI_leI (by omega) (by omega)] at z; omega
      have hN2 := Sm_t hN hN1
      have hMO1 : MO N1 n (srt W n) o best := by
        cases o with
        | none => exact hMO
        | some bo =>
          obtain ⟨b, y⟩ := bo
          obtain ⟨f1, f2, f3⟩ := hMO
          exact ⟨f1, f2, fun k hk => by rw [h116']; exact f3 k hk⟩
      rw [n1]
      refine ⟨fun z => ?_, fun z => ?_⟩
      · rw [b2_0.mp z] at ih
        exact ih N1 best hN2 (fun k hk => by rw [h117']; exact h117 k hk) hMO1
      · rw [b2_n0.mp z] at ih
        simp only [if_true] at ih
        have rN1 := Rel_Sm hN2 r
        have hdl := fun k hk => dgs_lt n x hx' k hk
        refine c12_waitOf rN1 hs hn (by rw [Sm_i hN2 rfl]; exact en) (row := fun k => srt W n ((dgs n n x).getD k 0)) (fun k hk => ⟨hrow k hk, hg12 _ (hdl k hk)⟩) _ ?_
        rw [fr_waitN hN2]
        have hwb : waitN (mI M) s n (fun k => srt W n ((dgs n n x).getD k 0)) ≤ 8100 := waitN_le hn (fun k hk => (min_of r (hg12 _ (hdl k hk))).1)
        generalize hw : waitN (mI M) s n (fun k => srt W n ((dgs n n x).getD k 0)) = w at *
        -- copying
        have copy : (best = -1 ∨ ¬ best ≤ nI w) → (∀ N3, Sm M N3 → (∀ k, k < n → mI N3 117 k = nI (srt W n k)) → (∀ k, k < n → mI N3 116 k = nI (srt W n ((dgs n n x).getD k 0))) → H_X12_orders_106 l q (nI s) (nI n) (nI (n ^ n)) (nI w) (nI (x + 1)) N3) → ∀ a k N3, k + a = n → Sm M N3 → (∀ k, k < n → mI N3 117 k = nI (srt W n k)) → (∀ k, k < n → mI N3 115 k = nI (srt W n ((dgs n n x).getD k 0))) → (∀ j, j < k → mI N3 116 j = nI (srt W n ((dgs n n x).getD j 0))) → H_X12_orders_133 l q (nI s) (nI n) (nI (n ^ n)) best (nI x) (nI w) (nI k) N3 := by
          intro hbest hnext a
          induction a with
          | zero =>
            intro k N3 hk hN3 h117 _ h116
            have : k = n := by omega
            subst this
            have hf := hnext N3 hN3 h117 h116
            refine w_X12_orders_133 l q _ _ _ _ _ _ _ N3 ⟨fun _ => ?_, fun z => absurd (nI_le (Nat.le_refl _) (by omega)) z⟩
            rw [n1]
            exact ⟨fun _ => hf, fun y => ⟨fun y2 => by
              rcases hbest with hb | hb
              · exact absurd hb y
              · exact absurd y2 hb, fun _ => hf⟩⟩
          | succ a iha =>
            intro k N3 hk hN3 h117 h115 h116
            have wN := Sm_wM hN3 r.1
            have hstep : H_X12_orders_133 l q (nI s) (nI n) (nI (n ^ n)) best (nI x) (nI w) (nI (k + 1)) (sI N3 116 k (mI N3 115 k)) := iha (k + 1) _ (by omega) (Sm_t hN3 (Sm_sI _ rfl _)) (fun j hj => by simp (disch := omega) only [true_and, mI_sI_1, mI_sI_2, mI_sI_3, mI_nW_1, mI_nW_2, mI_sR, mI_sJ, mI_sA_1, mI_sA_2, mR_sI, mR_sJ, mR_sA, mR_sR_1, mR_sR_2, mR_sR_3, mR_nW_1, mR_nW_2, mN_sI, mN_sJ, mN_sR, mN_sA, mN_nW_1, mN_nW_2, mJ_sI, mJ_sR, mJ_sA, mJ_sJ_1, mJ_sJ_2, mJ_sJ_3, mJ_nW_1, mJ_nW_2]; exact h117 j hj) (fun j hj => by simp (disch := omega) only [true_and, mI_sI_1, mI_sI_2, mI_sI_3, mI_nW_1, mI_nW_2, mI_sR, mI_sJ, mI_sA_1, mI_sA_2, mR_sI, mR_sJ, mR_sA, mR_sR_1, mR_sR_2, mR_sR_3, mR_nW_1, mR_nW_2, mN_sI, mN_sJ, mN_sR, mN_sA, mN_nW_1, mN_nW_2, mJ_sI, mJ_sR, mJ_sA, mJ_sJ_1, mJ_sJ_2, mJ_sJ_3, mJ_nW_1, mJ_nW_2]; exact h115 j hj) (fun j hj => by
              by_cases hjk : j = k
              · subst hjk; simp (disch := omega) only [true_and, mI_sI_1, mI_sI_2, mI_sI_3, mI_nW_1, mI_nW_2, mI_sR, mI_sJ, mI_sA_1, mI_sA_2, mR_sI, mR_sJ, mR_sA, mR_sR_1, mR_sR_2, mR_sR_3, mR_nW_1, mR_nW_2, mN_sI, mN_sJ, mN_sR, mN_sA, mN_nW_1, mN_nW_2, mJ_sI, mJ_sR, mJ_sA, mJ_sJ_1, mJ_sJ_2, mJ_sJ_3, mJ_nW_1, mJ_nW_2]; exact h115 j (by omega)
              · simp (disch := omega) only [true_and, mI_sI_1, mI_sI_2, mI_sI_3, mI_nW_1, mI_nW_2, mI_sR, mI_sJ, mI_sA_1, mI_sA_2, mR_sI, mR_sJ, mR_sA, mR_sR_1, mR_sR_2, mR_sR_3, mR_nW_1, mR_nW_2, mN_sI, mN_sJ, mN_sR, mN_sA, mN_nW_1, mN_nW_2, mJ_sI, mJ_sR, mJ_sA, mJ_sJ_1, mJ_sJ_2, mJ_sJ_3, mJ_nW_1, mJ_nW_2]; exact h116 j (by omega))
            refine w_X12_orders_133 l q _ _ _ _ _ _ _ N3 ⟨fun z => ?_, fun _ => ?_⟩
            · rw [nI_leI (by omega) (by omega)] at z; omega
            rw [n1 k, wn54 wN, wn55 wN, nI_clamp (by omega)]
            exact ⟨fun _ => ⟨wr55 wN, wr54 wN, vin (by omega) (by decide), vin (by omega) (by decide), hstep⟩, fun y => ⟨fun y2 => by
              rcases hbest with hb | hb
              · exact absurd hb y
              · exact absurd y2 hb, fun _ => ⟨wr55 wN, wr54 wN, vin (by omega) (by decide), vin (by omega) (by decide), hstep⟩⟩⟩
        have h117N1 : ∀ k, k < n → mI N1 117 k = nI (srt W n k) := fun k hk => by rw [h117']; exact h117 k hk
        have htake : (best = -1 ∨ ¬ best ≤ nI w) → (fb (fun x => waitN (mI M) s n (fun k => srt W n (x.getD k 0))) [dgs n n x] o = some (w, dgs n n x)) → H_X12_orders_133 l q (nI s) (nI n) (nI (n ^ n)) best (nI x) (nI w) 0 N1 := fun hb hf => copy hb (fun N3 hN3 h117 h116 => ih N3 (nI w) hN3 h117 (by rw [hf]; exact ⟨hwb, rfl, h116⟩)) n 0 N1 (by omega) hN2 h117N1 hrow (fun j hj => by omega)
        cases o with
        | none => exact htake (Or.inl hMO) (by show some (waitN (mI M) s n (fun k => srt W n ((dgs n n x).getD k 0)), dgs n n x) = _; rw [hw])
        | some bo =>
          obtain ⟨b, y⟩ := bo
          obtain ⟨f1, f2, f3⟩ := hMO1
          by_cases hc : b ≤ w
          · have hf : fb (fun x => waitN (mI M) s n (fun k => srt W n (x.getD k 0))) [dgs n n x] (some (b, y)) = some (b, y) := by rw [fb, fb, hw, if_pos hc]
            have hne : ¬ best = -1 := by rw [f2]; exact nI_ne1 (by omega)
            have hle : best ≤ nI w := by rw [f2, nI_leI (by omega) (by omega)]; exact hc
            have hfin := ih N1 best hN2 h117N1 (by rw [hf]; exact ⟨f1, f2, f3⟩)
            refine w_X12_orders_133 l q _ _ _ _ _ _ _ N1 ?_
            rw [n1 x]
            exact ⟨fun _ => ⟨fun y => absurd y hne, fun _ => ⟨fun _ => hfin, fun y => absurd hle y⟩⟩, fun _ => ⟨fun y => absurd y hne, fun _ => ⟨fun _ => ⟨fun y => absurd y hne, fun _ => ⟨fun _ => hfin, fun y => absurd hle y⟩⟩, fun y => absurd hle y⟩⟩⟩
          · exact htake (Or.inr (by rw [f2, nI_leI (by omega) (by omega)]; exact hc)) (by rw [fb, fb, hw, if_neg hc])
  -- the sorting
  have outer : ∀ m i, i + m = n → ∀ N, Sm M N → (∀ k, k < i → mI N 117 k = nI (srt W i k)) → H_X12_orders_12 l q (nI s) (nI n) (nI (n ^ i)) (nI i) N := by
    intro m
    induction m with
    | zero =>
      intro i hi N hN hrow
      have : i = n := by omega
      subst this
      refine w_X12_orders_12 l q _ _ _ _ N ⟨fun _ => search (i ^ i) 0 (by omega) N (-1) hN hrow rfl, fun z => absurd (nI_le (Nat.le_refl _) (by omega)) z⟩
    | succ m ih =>
      intro i hi N hN hrow
      have hnx := fun N' hN' => ih (i + 1) (by omega) N' hN'
      have inner : ∀ j (a : Nat → Nat) N1, j ≤ i → Sm M N1 → (∀ p, p ≤ i → p ≠ j → mI N1 117 p = nI (a p) ∧ a p < 12) → insP (W i) j a = srt W (i + 1) → H_X12_orders_22 l q (nI s) (nI n) (nI (n ^ i)) (nI i) (nI j) N1 := by
        intro j
        induction j with
        | zero =>
          intro a N1 hj hN1 hst hins
          have wN := Sm_wM hN1 r.1
          have hix : (5 : Int32) * nI s + nI i = nI (5 * s + i) := ixm 5 s i rfl
          have hc : mI N1 81 (5 * s + i) = nI (W i) := by rw [Sm_i hN1 rfl]; exact (hW i (by omega)).1
          refine w_X12_orders_22 l q _ _ _ _ _ N1 ⟨fun _ => ?_, fun z => absurd (nI_le (b := 0) (Nat.le_refl _) (by omega)) z⟩
          rw [hix, wn20 wN, wn56 wN, nI_clamp (by omega), nI_clamp (by omega), hc, n1, pk_mul, ← Nat.pow_succ]
          refine ⟨wr56 wN, wr20 wN, vin (by omega) (by decide), vin (by omega) (by decide), hnx _ (Sm_t hN1 (Sm_sI _ rfl _)) (fun k hk => ?_)⟩
          rw [← hins]
          unfold insP fuN
          by_cases hk0 : k = 0
          · subst hk0; simp (disch := omega) only [true_and, mI_sI_1, mI_sI_2, mI_sI_3, mI_nW_1, mI_nW_2, mI_sR, mI_sJ, mI_sA_1, mI_sA_2, mR_sI, mR_sJ, mR_sA, mR_sR_1, mR_sR_2, mR_sR_3, mR_nW_1, mR_nW_2, mN_sI, mN_sJ, mN_sR, mN_sA, mN_nW_1, mN_nW_2, mJ_sI, mJ_sR, mJ_sA, mJ_sJ_1, mJ_sJ_2, mJ_sJ_3, mJ_nW_1, mJ_nW_2, if_true]
          · rw [if_neg hk0]; simp (disch := omega) only [true_and, mI_sI_1, mI_sI_2, mI_sI_3, mI_nW_1, mI_nW_2, mI_sR, mI_sJ, mI_sA_1, mI_sA_2, mR_sI, mR_sJ, mR_sA, mR_sR_1, mR_sR_2, mR_sR_3, mR_nW_1, mR_nW_2, mN_sI, mN_sJ, mN_sR, mN_sA, mN_nW_1, mN_nW_2, mJ_sI, mJ_sR, mJ_sA, mJ_sJ_1, mJ_sJ_2, mJ_sJ_3, mJ_nW_1, mJ_nW_2]; exact (hst k (by omega) hk0).1
        | succ j ihj =>
          intro a N1 hj hN1 hst hins
          have wN := Sm_wM hN1 r.1
          have hix : (5 : Int32) * nI s + nI i = nI (5 * s + i) := ixm 5 s i rfl
          have hc : mI N1 81 (5 * s + i) = nI (W i) := by rw [Sm_i hN1 rfl]; exact (hW i (by omega)).1
          have hWi := (hW i (by omega)).2
          obtain ⟨hj1, hj2⟩ := hst j (by omega) (by omega)
          have em : nI (j + 1) - 1 = nI j := pk_sub (a := j + 1) (b := 1) (by omega)
          have em2 : nI (j + 1) + -1 = nI j := pk_m1 j
          refine w_X12_orders_22 l q _ _ _ _ _ N1 ⟨fun z => ?_, fun _ => ?_⟩
          · (simp (disch := omega) only [ile, ilt, ieq, nI_toInt, Int32.reduceToInt] at z; omega)
          rw [hix, em, em2, wn20 wN, wn56 wN, nI_clamp (by omega), nI_clamp (by omega), nI_clamp (by omega), hc, hj1, nI_leI (by omega) (by omega), n1 i, pk_mul, ← Nat.pow_succ]
          refine ⟨wr56 wN, vin (by omega) (by decide), wr20 wN, vin (by omega) (by decide), fun z => ⟨wr56 wN, wr20 wN, vin (by omega) (by decide), vin (by omega) (by decide), hnx _ (Sm_t hN1 (Sm_sI _ rfl _)) (fun k hk => ?_)⟩, fun z => ⟨wr56 wN, wr56 wN, vin (by omega) (by decide), vin (by omega) (by decide), ihj (fuN a (j + 1) (a j)) _ (by omega) (Sm_t hN1 (Sm_sI _ rfl _)) (fun p hp hpj => ?_) ?_⟩⟩
          · rw [← hins]
            unfold insP
            rw [if_pos z]
            unfold fuN
            by_cases hk0 : k = j + 1
            · subst hk0; simp (disch := omega) only [true_and, mI_sI_1, mI_sI_2, mI_sI_3, mI_nW_1, mI_nW_2, mI_sR, mI_sJ, mI_sA_1, mI_sA_2, mR_sI, mR_sJ, mR_sA, mR_sR_1, mR_sR_2, mR_sR_3, mR_nW_1, mR_nW_2, mN_sI, mN_sJ, mN_sR, mN_sA, mN_nW_1, mN_nW_2, mJ_sI, mJ_sR, mJ_sA, mJ_sJ_1, mJ_sJ_2, mJ_sJ_3, mJ_nW_1, mJ_nW_2, if_true]
            · rw [if_neg hk0]; simp (disch := omega) only [true_and, mI_sI_1, mI_sI_2, mI_sI_3, mI_nW_1, mI_nW_2, mI_sR, mI_sJ, mI_sA_1, mI_sA_2, mR_sI, mR_sJ, mR_sA, mR_sR_1, mR_sR_2, mR_sR_3, mR_nW_1, mR_nW_2, mN_sI, mN_sJ, mN_sR, mN_sA, mN_nW_1, mN_nW_2, mJ_sI, mJ_sR, mJ_sA, mJ_sJ_1, mJ_sJ_2, mJ_sJ_3, mJ_nW_1, mJ_nW_2]; exact (hst k (by omega) hk0).1
          · unfold fuN
            by_cases hk0 : p = j + 1
            · subst hk0; simp (disch := omega) only [true_and, mI_sI_1, mI_sI_2, mI_sI_3, mI_nW_1, mI_nW_2, mI_sR, mI_sJ, mI_sA_1, mI_sA_2, mR_sI, mR_sJ, mR_sA, mR_sR_1, mR_sR_2, mR_sR_3, mR_nW_1, mR_nW_2, mN_sI, mN_sJ, mN_sR, mN_sA, mN_nW_1, mN_nW_2, mJ_sI, mJ_sR, mJ_sA, mJ_sJ_1, mJ_sJ_2, mJ_sJ_3, mJ_nW_1, mJ_nW_2, if_true]; exact hj2
            · rw [if_neg hk0]; simp (disch := omega) only [true_and, mI_sI_1, mI_sI_2, mI_sI_3, mI_nW_1, mI_nW_2, mI_sR, mI_sJ, mI_sA_1, mI_sA_2, mR_sI, mR_sJ, mR_sA, mR_sR_1, mR_sR_2, mR_sR_3, mR_nW_1, mR_nW_2, mN_sI, mN_sJ, mN_sR, mN_sA, mN_nW_1, mN_nW_2, mJ_sI, mJ_sR, mJ_sA, mJ_sJ_1, mJ_sJ_2, mJ_sJ_3, mJ_nW_1, mJ_nW_2]; exact hst p hp hk0
          · rw [← hins]
            conv => rhs; unfold insP
            rw [if_neg z]
      refine w_X12_orders_12 l q _ _ _ _ N ⟨fun z => ?_, fun _ => ?_⟩
      · rw [nI_leI (by omega) (by omega)] at z; omega
      · refine inner i (srt W i) N (Nat.le_refl _) hN (fun p hp hpi => ⟨hrow p (by omega), ?_⟩) rfl
        obtain ⟨j, hj, ej⟩ := (srt_ok W n hd i (by omega)).2 p (by omega)
        rw [ej]; have := (hW j (by omega)).2; omega
  refine w_X12_orders l _ M q ?_
  rw [hsc, wn19 r.1, en]
  exact ⟨wr19 r.1, v40, outer n 0 (by omega) M (Sm_r M) (fun k hk => by omega)⟩
/-- the works of a service as numbers -/
theorem works_of (r : Rel M nw np ns nt T) {s : Nat} (hs : s < ns) : ∃ n, n ≤ 5 ∧ mI M 80 s = nI n ∧ mI M (47 + 128 * s) 7 = nI n ∧ ∃ W : Nat → Nat, (∀ k, k < n → mI M 81 (5 * s + k) = nI (W k) ∧ W k < nw) ∧ (∀ k, k < n → mI M (48 + 128 * s) k = nI (W k) ∧ W k < nw) ∧ ∀ j k, j < k → k < n → W j ≠ W k := by
  obtain ⟨e7, n, hn, en, hk, hd⟩ := (r.2.2.2.2.2.2.1.1 s hs).2.2.1
  have hnw := r.2.2.1.1.1
  have hc : ∀ k, k < n → (mI M 81 (5 * s + k)).toNatClampNeg < nw ∧ mI M 81 (5 * s + k) = nI (mI M 81 (5 * s + k)).toNatClampNeg := fun k hk' => by
    obtain ⟨w, h1, h2, _⟩ := hk k hk'
    rw [h2, nI_clamp (by omega)]; exact ⟨h1, rfl⟩
  refine ⟨n, hn, en, e7.trans en, fun k => (mI M 81 (5 * s + k)).toNatClampNeg, fun k hk' => ⟨(hc k hk').2, (hc k hk').1⟩, fun k hk' => ?_, fun j k h1 h2 z => ?_⟩
  · obtain ⟨w, h1, h2, h3⟩ := hk k hk'
    refine ⟨?_, (hc k hk').1⟩
    rw [h3, ← h2]; exact (hc k hk').2
  · apply hd j k h1 h2
    rw [(hc j (by omega)).2, (hc k h2).2]
    have z : (mI M 81 (5 * s + j)).toNatClampNeg = (mI M 81 (5 * s + k)).toNatClampNeg := z
    rw [z]
theorem fb_some (w : List Nat → Nat) : ∀ L o, (o ≠ none ∨ L ≠ []) → fb w L o ≠ none
  | [], o => fun h => by
    rcases h with h | h
    · exact h
    · exact absurd rfl h
  | x :: L, o => fun _ => by
    unfold fb
    apply fb_some w L
    left
    cases o with
    | none => simp
    | some b => simp only; split <;> simp
set_option maxRecDepth 100000 in
theorem ord_ne : ∀ n, n < 6 → ordL n ≠ [] := by decide +kernel
theorem P_waits (r : Rel M nw np ns nt T) (a : Int32) : K_X11_waits l [rV (some 16), iV a] M (fun r1 M1 => K_X12_waits l [rV (some 60), iV a] M1 (fun r2 M2 => r1 = r2 ∧ Nx T M2)) := by
  have hs : Nx T M := Nx_s r
  have hns := r.2.2.1.2.2.1.1
  refine w_X11_waits l a M _ (c11_findService r a _ (fun z => ⟨fun _ => ?_, fun b3 e => (by cases e)⟩) (fun s hs' e => ⟨fun e => (by cases e), fun b3 e => ?_⟩))
  · exact w_X12_waits l a M _ (k12_isService r a _ ⟨fun _ => ⟨rfl, hs⟩, fun y => absurd (b2_0.mpr z) y⟩)
  · subst a
    obtain rfl := Option.some.inj e
    have hrs : ¬ b2 (rng (nI s) 0 (nI ns - 1)) = 0 := by rw [rng_ix1 (by omega) hs']; decide
    obtain ⟨n, hn, en, e7, W, hW1, hW2, hd⟩ := works_of r hs'
    refine ⟨ty47 s, xo9 r.2.1, xr16_0 r.2.1, c1_findOrder r hs' en hn W hW2 hd _ (fun N hN hFO => ⟨xo9 (Sm_wX hN r.2.1), ?_⟩)⟩
    have rN := Rel_Sm hN r
    refine w_X12_waits l _ N _ (k12_isService rN _ _ ⟨fun y => absurd y hrs, fun _ => c12_orders rN hs' (by rw [Sm_i hN rfl]; exact en) hn W (fun k hk => by rw [Sm_i hN rfl]; exact hW1 k hk) hd _ (fun N2 best hN2 hMO => ⟨?_, Nx_Sm (Sm_t hN hN2) r⟩)⟩)
    rw [fr_waitN hN] at hMO
    have hne := fb_some (fun x => waitN (mI M) s n (fun k => srt W n (x.getD k 0))) (ordL n) none (Or.inr (ord_ne n (by omega)))
    cases ho : fb (fun x => waitN (mI M) s n (fun k => srt W n (x.getD k 0))) (ordL n) none with
    | none => exact absurd ho hne
    | some bo =>
      obtain ⟨b, y⟩ := bo
      rw [ho] at hFO hMO
      rw [hFO.2.1, hMO.2.1]
theorem P_order (r : Rel M nw np ns nt T) (a c : Int32) : K_X11_order l [rV (some 16), iV a, iV c] M (fun r1 M1 => K_X12_order l [rV (some 60), iV a, iV c] M1 (fun r2 M2 => r1 = r2 ∧ Nx T M2)) := by
  have hs : Nx T M := Nx_s r
  have hns := r.2.2.1.2.2.1.1
  refine w_X11_order l a c M _ (c11_findService r a _ (fun z => ⟨fun _ => ?_, fun b3 e => (by cases e)⟩) (fun s hs' e => ⟨fun e => (by cases e), fun b3 e => ?_⟩))
  · exact w_X12_order l a c M _ (k12_isService r a _ ⟨fun y => absurd (b2_0.mpr z) y, fun _ => ⟨rfl, hs⟩⟩)
  · subst a
    obtain rfl := Option.some.inj e
    have hrs : ¬ b2 (rng (nI s) 0 (nI ns - 1)) = 0 := by rw [rng_ix1 (by omega) hs']; decide
    have hsc : (nI s).toNatClampNeg = s := nI_clamp (by omega)
    have v40 : vp_in (nI s) 40 := vin (by omega) (by decide)
    obtain ⟨n, hn, en, e7, W, hW1, hW2, hd⟩ := works_of r hs'
    refine ⟨ty47 s, c11_isWithin _ _ _ _ ?_⟩
    rw [e7]
    refine ⟨fun z => ⟨xo9 r.2.1, xr16_0 r.2.1, c1_findOrder r hs' en hn W hW2 hd _ (fun N hN hFO => ?_)⟩, fun z => ?_⟩
    · obtain ⟨i, hi, rfl⟩ := rng_ix (by omega) (b2_n0.mp z)
      have rN := Rel_Sm hN r
      rw [xn37 rN.2.1, nI_clamp (by omega)]
      refine ⟨xo9 rN.2.1, xr35_1 rN.2.1, vin (by omega) (by decide), ?_⟩
      refine w_X12_order l _ _ N _ (k12_isService rN _ _ ⟨fun _ => ?_, fun y => absurd y hrs⟩)
      rw [hsc, wn19 rN.1, Sm_i hN (id := 80) (j := s) rfl, en]
      refine ⟨wr19 rN.1, v40, c12_in _ _ _ _ ⟨fun _ => c12_orders rN hs' (by rw [Sm_i hN rfl]; exact en) hn W (fun k hk => by rw [Sm_i hN rfl]; exact hW1 k hk) hd _ (fun N2 best hN2 hMO => ?_), fun y => absurd y z⟩⟩
      rw [fr_waitN hN] at hMO
      have wN2 := Sm_wM (Sm_t hN hN2) r.1
      have hne := fb_some (fun x => waitN (mI M) s n (fun k => srt W n (x.getD k 0))) (ordL n) none (Or.inr (ord_ne n (by omega)))
      cases ho : fb (fun x => waitN (mI M) s n (fun k => srt W n (x.getD k 0))) (ordL n) none with
      | none => exact absurd ho hne
      | some bo =>
        obtain ⟨b, y⟩ := bo
        rw [ho] at hFO hMO
        obtain ⟨m1, m2, m3⟩ := hMO
        rw [m2]
        refine ⟨fun _ => ⟨wr55 wN2, by rw [wn55 wN2]; exact vin (by omega) (by decide), ?_, Nx_Sm (Sm_t hN hN2) r⟩, fun y => ?_⟩
        · rw [nI_clamp (by omega), hFO.2.2 i hi, m3 i hi]
        · (simp (disch := omega) only [ile, ilt, ieq, nI_toInt, Int32.reduceToInt] at y; omega)
    · refine w_X12_order l _ _ M _ (k12_isService r _ _ ⟨fun _ => ?_, fun y => absurd y hrs⟩)
      rw [hsc, wn19 r.1, en]
      exact ⟨wr19 r.1, v40, c12_in _ _ _ _ ⟨fun y => absurd z y, fun _ => ⟨rfl, hs⟩⟩⟩
end S56
