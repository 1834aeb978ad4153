/-! the class's reckoner -/
section S49
variable {l : Launch} {M : o_M} {nw np ns nt T : Nat}
theorem c4_push {N : o_M} (hX : wX N) {h : Nat} (ht : mI N 26 2 = nI h) (hh : h < 64) (x : Int64) (q : o_M → Prop) (hq : q (sI (sJ N 28 h x) 26 2 (nI (h + 1)))) : K_X4_push l [rV (some 26), jV x] N q := by
  refine w_X4_push l x N q ?_
  rw [ht, nI_clamp (by omega), xn28 hX]
  simp (disch := omega) only [true_and, mI_sI_1, mI_sI_2, mI_sI_3, mI_nW_1, mI_nW_2, mI_sR, mI_sJ, mI_sA_1, mI_sA_2, mR_sI, mR_sJ, mR_sA, mR_sR_1, mR_sR_2, mR_sR_3, mR_nW_1, mR_nW_2, mN_sI, mN_sJ, mN_sR, mN_sA, mN_nW_1, mN_nW_2, mJ_sI, mJ_sR, mJ_sA, mJ_sJ_1, mJ_sJ_2, mJ_sJ_3, mJ_nW_1, mJ_nW_2, ht, n1]
  refine ⟨fun z => ?_, fun _ => ⟨xr26_1 hX, vin hh (by decide), hq⟩⟩
  (simp (disch := omega) only [ile, ilt, ieq, nI_toInt, Int32.reduceToInt] at z; omega)
theorem c4_pop {N : o_M} (hX : wX N) {h : Nat} (ht : mI N 26 2 = nI (h + 1)) (hh : h < 64) (q : Int64 → o_M → Prop) (hq : q (mJ N 28 h) (sI N 26 2 (nI h))) : K_X4_pop l [rV (some 26)] N q := by
  refine w_X4_pop l N q ?_
  have e : nI (h + 1) - 1 = nI h := pk_sub (a := h + 1) (b := 1) (by omega)
  rw [ht, e]
  simp (disch := omega) only [true_and, mI_sI_1, mI_sI_2, mI_sI_3, mI_nW_1, mI_nW_2, mI_sR, mI_sJ, mI_sA_1, mI_sA_2, mR_sI, mR_sJ, mR_sA, mR_sR_1, mR_sR_2, mR_sR_3, mR_nW_1, mR_nW_2, mN_sI, mN_sJ, mN_sR, mN_sA, mN_nW_1, mN_nW_2, mJ_sI, mJ_sR, mJ_sA, mJ_sJ_1, mJ_sJ_2, mJ_sJ_3, mJ_nW_1, mJ_nW_2, xn28 hX, xr26_1 hX]
  rw [nI_clamp (by omega)]
  refine ⟨fun _ => ⟨vin hh (by decide), hq⟩, fun z => ?_⟩
  (simp (disch := omega) only [ile, ilt, ieq, nI_toInt, Int32.reduceToInt] at z; omega)
theorem c4_join (o : Int32) (k : Int32) (hk : (o = 2 ∧ k = 13) ∨ (o = 3 ∧ k = 14) ∨ (o = 5 ∧ k = 22) ∨ (o = 6 ∧ k = 23) ∨ (o = 7 ∧ k = 19) ∨ (o = 8 ∧ k = 20) ∨ (o = 9 ∧ k = 21)) (x y : Int64) (q : Int64 → o_M → Prop) (h : q (f_two o x y) M) : K_X4_join l [iV k, jV x, jV y] M q := by
  refine w_X4_join l k x y M q ?_
  unfold f_two at h
  rcases hk with ⟨rfl, rfl⟩ | ⟨rfl, rfl⟩ | ⟨rfl, rfl⟩ | ⟨rfl, rfl⟩ | ⟨rfl, rfl⟩ | ⟨rfl, rfl⟩ | ⟨rfl, rfl⟩
  · rw [if_pos rfl] at h
    refine ⟨fun c => absurd c (by decide), fun _ => ⟨fun c => by rw [if_neg c] at h; exact h, fun c => ⟨fun c2 => by rw [if_pos c, if_pos c2] at h; exact h, fun c2 => by rw [if_pos c, if_neg c2] at h; exact h⟩⟩, ?_⟩
    refine ⟨?_, ?_, ?_, ?_, ?_, ?_, ?_, ?_, ?_, ?_⟩ <;> exact fun c => absurd c (by decide)
  · rw [if_neg (by decide), if_pos rfl] at h
    refine ⟨fun c => absurd c (by decide), fun c => absurd c (by decide), fun _ => ⟨fun c => by rw [if_pos c] at h; exact h, fun c => ⟨fun c2 => by rw [if_neg c, if_pos c2] at h; exact h, fun c2 => by rw [if_neg c, if_neg c2] at h; exact h⟩⟩, ?_⟩
    refine ⟨?_, ?_, ?_, ?_, ?_, ?_, ?_, ?_, ?_⟩ <;> exact fun c => absurd c (by decide)
  · rw [if_neg (by decide), if_neg (by decide), if_pos rfl] at h
    refine ⟨?_, ?_, ?_, ?_, ?_, ?_, ?_, ?_, ?_, ?_, ?_, ?_⟩
    any_goals first | (exact fun c => absurd c (by decide)) | skip
    exact fun _ => ⟨fun c => by rw [if_pos c] at h; exact h, fun c => by rw [if_neg c] at h; exact h⟩
  · rw [if_neg (by decide), if_neg (by decide), if_neg (by decide), if_pos rfl] at h
    refine ⟨?_, ?_, ?_, ?_, ?_, ?_, ?_, ?_, ?_, ?_, ?_, ?_⟩
    any_goals first | (exact fun c => absurd c (by decide)) | skip
    exact fun _ => ⟨fun c => by rw [if_neg c] at h; exact h, fun c => by rw [if_pos c] at h; exact h⟩
  · rw [if_neg (by decide), if_neg (by decide), if_neg (by decide), if_neg (by decide), if_pos rfl] at h
    refine ⟨?_, ?_, ?_, ?_, ?_, ?_, ?_, ?_, ?_, ?_, ?_, ?_⟩
    any_goals first | (exact fun c => absurd c (by decide)) | skip
    exact fun _ => h
  · rw [if_neg (by decide), if_neg (by decide), if_neg (by decide), if_neg (by decide), if_neg (by decide), if_pos rfl] at h
    refine ⟨?_, ?_, ?_, ?_, ?_, ?_, ?_, ?_, ?_, ?_, ?_, ?_⟩
    any_goals first | (exact fun c => absurd c (by decide)) | skip
    exact fun _ => h
  · rw [if_neg (by decide), if_neg (by decide), if_neg (by decide), if_neg (by decide), if_neg (by decide), if_neg (by decide)] at h
    refine ⟨?_, ?_, ?_, ?_, ?_, ?_, ?_, ?_, ?_, ?_, ?_, ?_⟩
    any_goals first | (exact fun c => absurd c (by decide)) | skip
    exact fun _ => h
/-- only the reckoner's own cells are touched -/
def Sk (M N : o_M) : Prop := Sm M N ∧ ∀ id, id ≠ 26 → mI N id = mI M id
theorem Sk_r (M : o_M) : Sk M M := ⟨Sm_r M, fun _ _ => rfl⟩
theorem Sk_t {M N O : o_M} (h : Sk M N) (g : Sk N O) : Sk M O := ⟨Sm_t h.1 g.1, fun id hi => (g.2 id hi).trans (h.2 id hi)⟩
theorem sm26 (N : o_M) (x : Int32) : Sm N (sI N 26 2 x) := Sm_sI N rfl x
theorem sm28 (N : o_M) (j : Nat) (x : Int64) : Sm N (sJ N 28 j x) := Sm_sJ N (Or.inr (Or.inl rfl)) j x
theorem sk26 (N : o_M) (x : Int32) : Sk N (sI N 26 2 x) := ⟨sm26 N x, fun id hi => funext fun j => by simp (disch := omega) only [true_and, mI_sI_1, mI_sI_2, mI_sI_3, mI_nW_1, mI_nW_2, mI_sR, mI_sJ, mI_sA_1, mI_sA_2, mR_sI, mR_sJ, mR_sA, mR_sR_1, mR_sR_2, mR_sR_3, mR_nW_1, mR_nW_2, mN_sI, mN_sJ, mN_sR, mN_sA, mN_nW_1, mN_nW_2, mJ_sI, mJ_sR, mJ_sA, mJ_sJ_1, mJ_sJ_2, mJ_sJ_3, mJ_nW_1, mJ_nW_2]⟩
theorem sk28 (N : o_M) (j : Nat) (x : Int64) : Sk N (sJ N 28 j x) := ⟨sm28 N j x, fun _ _ => rfl⟩
theorem c4_bin {N : o_M} (hX : wX N) {x o w k : Int32} {h h' : Nat} {st : Nat → Int64} (hx0 : x < 0) (hk : -1 - x = k) (hk10 : 10 ≤ k) (hk15 : ¬ k = 15) (hk27 : ¬ k = 27) (hok : (o = 2 ∧ k = 13) ∨ (o = 3 ∧ k = 14) ∨ (o = 5 ∧ k = 22) ∨ (o = 6 ∧ k = 23) ∨ (o = 7 ∧ k = 19) ∨ (o = 8 ∧ k = 20) ∨ (o = 9 ∧ k = 21)) (hh : h ≤ 50) (hg : hgt o h = some h') (htop : mI N 26 2 = nI h) (hst : ∀ j, j < h → mJ N 28 j = st j) (nm : Int32 → Int64) (q : o_M → Prop) (hq : ∀ N', Sk N N' → (∀ k, mJ N' 27 k = mJ N 27 k) → mI N' 26 2 = nI h' → (∀ j, j < h' → mJ N' 28 j = (stp nm o w (st, h)).1 j) → q N') : K_X4_step l [rV (some 26), iV x] N q := by
  have ho : ¬ o = 0 ∧ ¬ o = 1 ∧ ¬ o = 4 ∧ ¬ o = 10 := by
    rcases hok with ⟨rfl, _⟩ | ⟨rfl, _⟩ | ⟨rfl, _⟩ | ⟨rfl, _⟩ | ⟨rfl, _⟩ | ⟨rfl, _⟩ | ⟨rfl, _⟩ <;> decide
  unfold hgt at hg
  rw [if_neg (by rintro (z | z); exact ho.1 z; exact ho.2.1 z), if_neg (by rintro (z | z); exact ho.2.2.1 z; exact ho.2.2.2 z)] at hg
  split at hg
  · rename_i h2
    have hy := Option.some.inj hg
    obtain ⟨g, rfl⟩ : ∃ g, h = g + 2 := ⟨h - 2, by omega⟩
    refine w_X4_step l x N q ⟨fun _ => ?_, fun z => absurd hx0 z⟩
    rw [hk]
    refine ⟨fun _ => ⟨fun _ => ⟨fun _ => c4_pop hX (h := g + 1) htop (by omega) _ (c4_pop (h := g) (Sm_wX (sm26 N _) hX) (by simp (disch := omega) only [true_and, mI_sI_1, mI_sI_2, mI_sI_3, mI_nW_1, mI_nW_2, mI_sR, mI_sJ, mI_sA_1, mI_sA_2, mR_sI, mR_sJ, mR_sA, mR_sR_1, mR_sR_2, mR_sR_3, mR_nW_1, mR_nW_2, mN_sI, mN_sJ, mN_sR, mN_sA, mN_nW_1, mN_nW_2, mJ_sI, mJ_sR, mJ_sA, mJ_sJ_1, mJ_sJ_2, mJ_sJ_3, mJ_nW_1, mJ_nW_2]) (by omega) _ (c4_join o k hok _ _ _ (c4_push (h := g) (Sm_wX (Sm_t (sm26 N _) (sm26 _ _)) hX) (by simp (disch := omega) only [true_and, mI_sI_1, mI_sI_2, mI_sI_3, mI_nW_1, mI_nW_2, mI_sR, mI_sJ, mI_sA_1, mI_sA_2, mR_sI, mR_sJ, mR_sA, mR_sR_1, mR_sR_2, mR_sR_3, mR_nW_1, mR_nW_2, mN_sI, mN_sJ, mN_sR, mN_sA, mN_nW_1, mN_nW_2, mJ_sI, mJ_sR, mJ_sA, mJ_sJ_1, mJ_sJ_2, mJ_sJ_3, mJ_nW_1, mJ_nW_2]) (by omega) _ _ (hq _ ?_ ?_ ?_ ?_)))), fun z => absurd z hk27⟩, fun z => absurd z hk15⟩, fun z => absurd hk10 z⟩
    · exact Sk_t (Sk_t (Sk_t (sk26 N _) (sk26 _ _)) (sk28 _ _ _)) (sk26 _ _)
    · intro k; simp (disch := omega) only [true_and, mI_sI_1, mI_sI_2, mI_sI_3, mI_nW_1, mI_nW_2, mI_sR, mI_sJ, mI_sA_1, mI_sA_2, mR_sI, mR_sJ, mR_sA, mR_sR_1, mR_sR_2, mR_sR_3, mR_nW_1, mR_nW_2, mN_sI, mN_sJ, mN_sR, mN_sA, mN_nW_1, mN_nW_2, mJ_sI, mJ_sR, mJ_sA, mJ_sJ_1, mJ_sJ_2, mJ_sJ_3, mJ_nW_1, mJ_nW_2]
    · simp (disch := omega) only [true_and, mI_sI_1, mI_sI_2, mI_sI_3, mI_nW_1, mI_nW_2, mI_sR, mI_sJ, mI_sA_1, mI_sA_2, mR_sI, mR_sJ, mR_sA, mR_sR_1, mR_sR_2, mR_sR_3, mR_nW_1, mR_nW_2, mN_sI, mN_sJ, mN_sR, mN_sA, mN_nW_1, mN_nW_2, mJ_sI, mJ_sR, mJ_sA, mJ_sJ_1, mJ_sJ_2, mJ_sJ_3, mJ_nW_1, mJ_nW_2]; rw [← hy]; rfl
    · intro j hj
      unfold stp
      rw [if_neg ho.1, if_neg ho.2.1, if_neg ho.2.2.1, if_neg ho.2.2.2]
      simp (disch := omega) only [true_and, mI_sI_1, mI_sI_2, mI_sI_3, mI_nW_1, mI_nW_2, mI_sR, mI_sJ, mI_sA_1, mI_sA_2, mR_sI, mR_sJ, mR_sA, mR_sR_1, mR_sR_2, mR_sR_3, mR_nW_1, mR_nW_2, mN_sI, mN_sJ, mN_sR, mN_sA, mN_nW_1, mN_nW_2, mJ_sI, mJ_sR, mJ_sA, mJ_sJ_1, mJ_sJ_2, mJ_sJ_3, mJ_nW_1, mJ_nW_2, hst]
      show mJ (sJ _ 28 g _) 28 j = fu st (g + 2 - 2) (f_two o (st (g + 2 - 2)) (st (g + 2 - 1))) j
      rw [show g + 2 - 2 = g by omega, show g + 2 - 1 = g + 1 by omega]
      unfold fu
      by_cases hjg : j = g
      · subst hjg; simp (disch := omega) only [true_and, mI_sI_1, mI_sI_2, mI_sI_3, mI_nW_1, mI_nW_2, mI_sR, mI_sJ, mI_sA_1, mI_sA_2, mR_sI, mR_sJ, mR_sA, mR_sR_1, mR_sR_2, mR_sR_3, mR_nW_1, mR_nW_2, mN_sI, mN_sJ, mN_sR, mN_sA, mN_nW_1, mN_nW_2, mJ_sI, mJ_sR, mJ_sA, mJ_sJ_1, mJ_sJ_2, mJ_sJ_3, mJ_nW_1, mJ_nW_2, if_true]
      · rw [if_neg hjg]; simp (disch := omega) only [true_and, mI_sI_1, mI_sI_2, mI_sI_3, mI_nW_1, mI_nW_2, mI_sR, mI_sJ, mI_sA_1, mI_sA_2, mR_sI, mR_sJ, mR_sA, mR_sR_1, mR_sR_2, mR_sR_3, mR_nW_1, mR_nW_2, mN_sI, mN_sJ, mN_sR, mN_sA, mN_nW_1, mN_nW_2, mJ_sI, mJ_sR, mJ_sA, mJ_sJ_1, mJ_sJ_2, mJ_sJ_3, mJ_nW_1, mJ_nW_2]; exact hst j (by omega)
  · cases hg
theorem neg1 (y : Int32) : -1 - (-1 - y) = y := by grind
theorem c4_step {N : o_M} (hX : wX N) {x o w : Int32} {h h' : Nat} {st : Nat → Int64} (hc : cod x o w) (hh : h ≤ 50) (hg : hgt o h = some h') (htop : mI N 26 2 = nI h) (hst : ∀ j, j < h → mJ N 28 j = st j) (nm : Int32 → Int64) (hL : ∀ k, k < 10 → mJ N 27 k = nm (nI k)) (q : o_M → Prop) (hq : ∀ N', Sk N N' → (∀ k, mJ N' 27 k = mJ N 27 k) → mI N' 26 2 = nI h' → (∀ j, j < h' → mJ N' 28 j = (stp nm o w (st, h)).1 j) → q N') : K_X4_step l [rV (some 26), iV x] N q := by
  have hpush : ∀ z : Int64, stp nm o w (st, h) = (fu st h z, h + 1) → h' = h + 1 → q (sI (sJ N 28 h z) 26 2 (nI (h + 1))) := fun z hs hh' => by
    refine hq _ (Sk_t (sk28 _ _ _) (sk26 _ _)) (fun k => by simp (disch := omega) only [true_and, mI_sI_1, mI_sI_2, mI_sI_3, mI_nW_1, mI_nW_2, mI_sR, mI_sJ, mI_sA_1, mI_sA_2, mR_sI, mR_sJ, mR_sA, mR_sR_1, mR_sR_2, mR_sR_3, mR_nW_1, mR_nW_2, mN_sI, mN_sJ, mN_sR, mN_sA, mN_nW_1, mN_nW_2, mJ_sI, mJ_sR, mJ_sA, mJ_sJ_1, mJ_sJ_2, mJ_sJ_3, mJ_nW_1, mJ_nW_2]) (by simp (disch := omega) only [true_and, mI_sI_1, mI_sI_2, mI_sI_3, mI_nW_1, mI_nW_2, mI_sR, mI_sJ, mI_sA_1, mI_sA_2, mR_sI, mR_sJ, mR_sA, mR_sR_1, mR_sR_2, mR_sR_3, mR_nW_1, mR_nW_2, mN_sI, mN_sJ, mN_sR, mN_sA, mN_nW_1, mN_nW_2, mJ_sI, mJ_sR, mJ_sA, mJ_sJ_1, mJ_sJ_2, mJ_sJ_3, mJ_nW_1, mJ_nW_2]; rw [hh']) (fun j hj => ?_)
    rw [hs]
    simp (disch := omega) only [true_and, mI_sI_1, mI_sI_2, mI_sI_3, mI_nW_1, mI_nW_2, mI_sR, mI_sJ, mI_sA_1, mI_sA_2, mR_sI, mR_sJ, mR_sA, mR_sR_1, mR_sR_2, mR_sR_3, mR_nW_1, mR_nW_2, mN_sI, mN_sJ, mN_sR, mN_sA, mN_nW_1, mN_nW_2, mJ_sI, mJ_sR, mJ_sA, mJ_sJ_1, mJ_sJ_2, mJ_sJ_3, mJ_nW_1, mJ_nW_2]
    show mJ (sJ N 28 h z) 28 j = fu st h z j
    unfold fu
    by_cases hjg : j = h
    · subst hjg; simp (disch := omega) only [true_and, mI_sI_1, mI_sI_2, mI_sI_3, mI_nW_1, mI_nW_2, mI_sR, mI_sJ, mI_sA_1, mI_sA_2, mR_sI, mR_sJ, mR_sA, mR_sR_1, mR_sR_2, mR_sR_3, mR_nW_1, mR_nW_2, mN_sI, mN_sJ, mN_sR, mN_sA, mN_nW_1, mN_nW_2, mJ_sI, mJ_sR, mJ_sA, mJ_sJ_1, mJ_sJ_2, mJ_sJ_3, mJ_nW_1, mJ_nW_2, if_true]
    · rw [if_neg hjg]; simp (disch := omega) only [true_and, mI_sI_1, mI_sI_2, mI_sI_3, mI_nW_1, mI_nW_2, mI_sR, mI_sJ, mI_sA_1, mI_sA_2, mR_sI, mR_sJ, mR_sA, mR_sR_1, mR_sR_2, mR_sR_3, mR_nW_1, mR_nW_2, mN_sI, mN_sJ, mN_sR, mN_sA, mN_nW_1, mN_nW_2, mJ_sI, mJ_sR, mJ_sA, mJ_sJ_1, mJ_sJ_2, mJ_sJ_3, mJ_nW_1, mJ_nW_2]; exact hst j (by omega)
  rcases hc with ⟨ho, hx, n, hn, hw⟩ | ⟨ho, n, hn, hw, hx⟩ | ⟨ho, hx⟩ | ⟨ho, hx⟩ | ⟨ho, hx⟩ | ⟨ho, hx⟩ | ⟨ho, hx⟩ | ⟨ho, hx⟩ | ⟨ho, hx⟩ | ⟨ho, hx⟩ | ⟨ho, hx⟩
  · subst hx
    refine w_X4_step l x N q ⟨fun z => ?_, fun _ => c4_push hX htop (by omega) _ _ (hpush _ (by unfold stp; rw [if_pos ho]) ?_)⟩
    · rw [hw] at z; (simp (disch := omega) only [ile, ilt, ieq, nI_toInt, Int32.reduceToInt] at z; omega)
    · unfold hgt at hg; rw [if_pos (Or.inl ho)] at hg; exact (Option.some.inj hg).symm
  · subst hx
    have h1 : ∀ n, n < 10 → (-1 - nI n : Int32) < 0 := by decide
    have h2 : ∀ n, n < 10 → ¬ (10 : Int32) ≤ nI n := by decide
    refine w_X4_step l _ N q ⟨fun _ => ?_, fun z => absurd (h1 n hn) z⟩
    rw [neg1]
    refine ⟨fun z => absurd z (h2 n hn), fun _ => ⟨xr26_0 hX, by rw [xn27 hX]; exact vin hn (by decide), c4_push hX htop (by omega) _ _ (hpush _ ?_ ?_)⟩⟩
    · unfold stp; rw [if_neg (by rw [ho]; decide), if_pos ho, nI_clamp (by omega), hL n hn, hw]
    · unfold hgt at hg; rw [if_pos (Or.inr ho)] at hg; exact (Option.some.inj hg).symm
  · exact c4_bin hX (k := 13) (by rw [hx]; decide) (by rw [hx]; decide) (by decide) (by decide) (by decide) (Or.inl ⟨ho, rfl⟩) hh hg htop hst nm q hq
  · exact c4_bin hX (k := 14) (by rw [hx]; decide) (by rw [hx]; decide) (by decide) (by decide) (by decide) (Or.inr (Or.inl ⟨ho, rfl⟩)) hh hg htop hst nm q hq
  · subst hx ho
    unfold hgt at hg
    rw [if_neg (by decide), if_pos (by decide)] at hg
    split at hg
    · have hy := Option.some.inj hg
      subst hy
      obtain ⟨g, rfl⟩ : ∃ g, h = g + 1 := ⟨h - 1, by omega⟩
      have hfin : ∀ z : Int64, stp nm 4 w (st, g + 1) = (fu st g z, g + 1) → q (sI (sJ (sI N 26 2 (nI g)) 28 g z) 26 2 (nI (g + 1))) := fun z hs => by
        refine hq _ (Sk_t (Sk_t (sk26 _ _) (sk28 _ _ _)) (sk26 _ _)) (fun k => by simp (disch := omega) only [true_and, mI_sI_1, mI_sI_2, mI_sI_3, mI_nW_1, mI_nW_2, mI_sR, mI_sJ, mI_sA_1, mI_sA_2, mR_sI, mR_sJ, mR_sA, mR_sR_1, mR_sR_2, mR_sR_3, mR_nW_1, mR_nW_2, mN_sI, mN_sJ, mN_sR, mN_sA, mN_nW_1, mN_nW_2, mJ_sI, mJ_sR, mJ_sA, mJ_sJ_1, mJ_sJ_2, mJ_sJ_3, mJ_nW_1, mJ_nW_2]) (by simp (disch := omega) only [true_and, mI_sI_1, mI_sI_2, mI_sI_3, mI_nW_1, mI_nW_2, mI_sR, mI_sJ, mI_sA_1, mI_sA_2, mR_sI, mR_sJ, mR_sA, mR_sR_1, mR_sR_2, mR_sR_3, mR_nW_1, mR_nW_2, mN_sI, mN_sJ, mN_sR, mN_sA, mN_nW_1, mN_nW_2, mJ_sI, mJ_sR, mJ_sA, mJ_sJ_1, mJ_sJ_2, mJ_sJ_3, mJ_nW_1, mJ_nW_2]) (fun j hj => ?_)
        rw [hs]
        simp (disch := omega) only [true_and, mI_sI_1, mI_sI_2, mI_sI_3, mI_nW_1, mI_nW_2, mI_sR, mI_sJ, mI_sA_1, mI_sA_2, mR_sI, mR_sJ, mR_sA, mR_sR_1, mR_sR_2, mR_sR_3, mR_nW_1, mR_nW_2, mN_sI, mN_sJ, mN_sR, mN_sA, mN_nW_1, mN_nW_2, mJ_sI, mJ_sR, mJ_sA, mJ_sJ_1, mJ_sJ_2, mJ_sJ_3, mJ_nW_1, mJ_nW_2]
        show mJ (sJ _ 28 g z) 28 j = fu st g z j
        unfold fu
        by_cases hjg : j = g
        · subst hjg; simp (disch := omega) only [true_and, mI_sI_1, mI_sI_2, mI_sI_3, mI_nW_1, mI_nW_2, mI_sR, mI_sJ, mI_sA_1, mI_sA_2, mR_sI, mR_sJ, mR_sA, mR_sR_1, mR_sR_2, mR_sR_3, mR_nW_1, mR_nW_2, mN_sI, mN_sJ, mN_sR, mN_sA, mN_nW_1, mN_nW_2, mJ_sI, mJ_sR, mJ_sA, mJ_sJ_1, mJ_sJ_2, mJ_sJ_3, mJ_nW_1, mJ_nW_2, if_true]
        · rw [if_neg hjg]; simp (disch := omega) only [true_and, mI_sI_1, mI_sI_2, mI_sI_3, mI_nW_1, mI_nW_2, mI_sR, mI_sJ, mI_sA_1, mI_sA_2, mR_sI, mR_sJ, mR_sA, mR_sR_1, mR_sR_2, mR_sR_3, mR_nW_1, mR_nW_2, mN_sI, mN_sJ, mN_sR, mN_sA, mN_nW_1, mN_nW_2, mJ_sI, mJ_sR, mJ_sA, mJ_sJ_1, mJ_sJ_2, mJ_sJ_3, mJ_nW_1, mJ_nW_2]; exact hst j (by omega)
      have hs4 : ∀ u : Int64, stp nm 4 w (st, g + 1) = (fu st g (if lg_cmp (st g) 0 = 0 then 1 else 0), g + 1) := fun _ => by
        unfold stp; rw [if_neg (by decide), if_neg (by decide), if_pos rfl]; rfl
      refine w_X4_step l _ N q ⟨fun _ => ⟨fun _ => ⟨fun z => absurd (by decide) z, fun _ => c4_pop hX htop (by omega) _ ⟨fun z => ?_, fun z => ?_⟩⟩, fun z => absurd (by decide) z⟩, fun z => absurd (by decide) z⟩
      · rw [hst g (by omega)] at z
        exact c4_push (h := g) (Sm_wX (sm26 N _) hX) (by simp (disch := omega) only [true_and, mI_sI_1, mI_sI_2, mI_sI_3, mI_nW_1, mI_nW_2, mI_sR, mI_sJ, mI_sA_1, mI_sA_2, mR_sI, mR_sJ, mR_sA, mR_sR_1, mR_sR_2, mR_sR_3, mR_nW_1, mR_nW_2, mN_sI, mN_sJ, mN_sR, mN_sA, mN_nW_1, mN_nW_2, mJ_sI, mJ_sR, mJ_sA, mJ_sJ_1, mJ_sJ_2, mJ_sJ_3, mJ_nW_1, mJ_nW_2]) (by omega) _ _ (hfin 0 (by rw [hs4 0, if_neg z]))
      · rw [hst g (by omega)] at z
        exact c4_push (h := g) (Sm_wX (sm26 N _) hX) (by simp (disch := omega) only [true_and, mI_sI_1, mI_sI_2, mI_sI_3, mI_nW_1, mI_nW_2, mI_sR, mI_sJ, mI_sA_1, mI_sA_2, mR_sI, mR_sJ, mR_sA, mR_sR_1, mR_sR_2, mR_sR_3, mR_nW_1, mR_nW_2, mN_sI, mN_sJ, mN_sR, mN_sA, mN_nW_1, mN_nW_2, mJ_sI, mJ_sR, mJ_sA, mJ_sJ_1, mJ_sJ_2, mJ_sJ_3, mJ_nW_1, mJ_nW_2]) (by omega) _ _ (hfin 1 (by rw [hs4 0, if_pos z]))
    · cases hg
  · exact c4_bin hX (k := 22) (by rw [hx]; decide) (by rw [hx]; decide) (by decide) (by decide) (by decide) (Or.inr (Or.inr (Or.inl ⟨ho, rfl⟩))) hh hg htop hst nm q hq
  · exact c4_bin hX (k := 23) (by rw [hx]; decide) (by rw [hx]; decide) (by decide) (by decide) (by decide) (Or.inr (Or.inr (Or.inr (Or.inl ⟨ho, rfl⟩)))) hh hg htop hst nm q hq
  · exact c4_bin hX (k := 19) (by rw [hx]; decide) (by rw [hx]; decide) (by decide) (by decide) (by decide) (Or.inr (Or.inr (Or.inr (Or.inr (Or.inl ⟨ho, rfl⟩))))) hh hg htop hst nm q hq
  · exact c4_bin hX (k := 20) (by rw [hx]; decide) (by rw [hx]; decide) (by decide) (by decide) (by decide) (Or.inr (Or.inr (Or.inr (Or.inr (Or.inr (Or.inl ⟨ho, rfl⟩)))))) hh hg htop hst nm q hq
  · exact c4_bin hX (k := 21) (by rw [hx]; decide) (by rw [hx]; decide) (by decide) (by decide) (by decide) (Or.inr (Or.inr (Or.inr (Or.inr (Or.inr (Or.inr ⟨ho, rfl⟩)))))) hh hg htop hst nm q hq
  · subst hx ho
    unfold hgt at hg
    rw [if_neg (by decide), if_pos (by decide)] at hg
    split at hg
    · have hy := Option.some.inj hg
      subst hy
      obtain ⟨g, rfl⟩ : ∃ g, h = g + 1 := ⟨h - 1, by omega⟩
      refine w_X4_step l _ N q ⟨fun _ => ⟨fun _ => ⟨fun _ => ⟨fun z => absurd (by decide) z, fun _ => c4_pop hX htop (by omega) _ (c4_push (h := g) (Sm_wX (sm26 N _) hX) (by simp (disch := omega) only [true_and, mI_sI_1, mI_sI_2, mI_sI_3, mI_nW_1, mI_nW_2, mI_sR, mI_sJ, mI_sA_1, mI_sA_2, mR_sI, mR_sJ, mR_sA, mR_sR_1, mR_sR_2, mR_sR_3, mR_nW_1, mR_nW_2, mN_sI, mN_sJ, mN_sR, mN_sA, mN_nW_1, mN_nW_2, mJ_sI, mJ_sR, mJ_sA, mJ_sJ_1, mJ_sJ_2, mJ_sJ_3, mJ_nW_1, mJ_nW_2]) (by omega) _ _ ?_)⟩, fun z => absurd z (by decide)⟩, fun z => absurd (by decide) z⟩, fun z => absurd (by decide) z⟩
      refine hq _ (Sk_t (Sk_t (sk26 _ _) (sk28 _ _ _)) (sk26 _ _)) (fun k => by simp (disch := omega) only [true_and, mI_sI_1, mI_sI_2, mI_sI_3, mI_nW_1, mI_nW_2, mI_sR, mI_sJ, mI_sA_1, mI_sA_2, mR_sI, mR_sJ, mR_sA, mR_sR_1, mR_sR_2, mR_sR_3, mR_nW_1, mR_nW_2, mN_sI, mN_sJ, mN_sR, mN_sA, mN_nW_1, mN_nW_2, mJ_sI, mJ_sR, mJ_sA, mJ_sJ_1, mJ_sJ_2, mJ_sJ_3, mJ_nW_1, mJ_nW_2]) (by simp (disch := omega) only [true_and, mI_sI_1, mI_sI_2, mI_sI_3, mI_nW_1, mI_nW_2, mI_sR, mI_sJ, mI_sA_1, mI_sA_2, mR_sI, mR_sJ, mR_sA, mR_sR_1, mR_sR_2, mR_sR_3, mR_nW_1, mR_nW_2, mN_sI, mN_sJ, mN_sR, mN_sA, mN_nW_1, mN_nW_2, mJ_sI, mJ_sR, mJ_sA, mJ_sJ_1, mJ_sJ_2, mJ_sJ_3, mJ_nW_1, mJ_nW_2]) (fun j hj => ?_)
      unfold stp
      rw [if_neg (by decide), if_neg (by decide), if_neg (by decide), if_pos rfl]
      simp (disch := omega) only [true_and, mI_sI_1, mI_sI_2, mI_sI_3, mI_nW_1, mI_nW_2, mI_sR, mI_sJ, mI_sA_1, mI_sA_2, mR_sI, mR_sJ, mR_sA, mR_sR_1, mR_sR_2, mR_sR_3, mR_nW_1, mR_nW_2, mN_sI, mN_sJ, mN_sR, mN_sA, mN_nW_1, mN_nW_2, mJ_sI, mJ_sR, mJ_sA, mJ_sJ_1, mJ_sJ_2, mJ_sJ_3, mJ_nW_1, mJ_nW_2]
      show mJ (sJ _ 28 g _) 28 j = fu st g (-(st g)) j
      unfold fu
      by_cases hjg : j = g
      · subst hjg; simp (disch := omega) only [true_and, mI_sI_1, mI_sI_2, mI_sI_3, mI_nW_1, mI_nW_2, mI_sR, mI_sJ, mI_sA_1, mI_sA_2, mR_sI, mR_sJ, mR_sA, mR_sR_1, mR_sR_2, mR_sR_3, mR_nW_1, mR_nW_2, mN_sI, mN_sJ, mN_sR, mN_sA, mN_nW_1, mN_nW_2, mJ_sI, mJ_sR, mJ_sA, mJ_sJ_1, mJ_sJ_2, mJ_sJ_3, mJ_nW_1, mJ_nW_2, if_true]; rw [hst j (by omega)]
      · rw [if_neg hjg]; simp (disch := omega) only [true_and, mI_sI_1, mI_sI_2, mI_sI_3, mI_nW_1, mI_nW_2, mI_sR, mI_sJ, mI_sA_1, mI_sA_2, mR_sI, mR_sJ, mR_sA, mR_sR_1, mR_sR_2, mR_sR_3, mR_nW_1, mR_nW_2, mN_sI, mN_sJ, mN_sR, mN_sA, mN_nW_1, mN_nW_2, mJ_sI, mJ_sR, mJ_sA, mJ_sJ_1, mJ_sJ_2, mJ_sJ_3, mJ_nW_1, mJ_nW_2]; exact hst j (by omega)
    · cases hg
theorem tx7 (r : Rel M nw np ns nt T) {t b : Nat} (ht : t < nt) (hb : mI M 91 t = nI b) (hb9 : b ≤ 8) : ∃ cl, ∃ e : Nat → Nat, cl ≤ 300 ∧ mN M (54 + 128 * t) = b + 2 ∧ mI M (51 + 128 * t) 3 = nI b ∧ mN M (53 + 128 * t) = cl ∧ e 0 = 0 ∧ (∀ j, j ≤ b + 2 → mI M 92 (11 * t + j) = nI (e j) ∧ e j ≤ cl) ∧ (∀ j, j < b + 2 → mI M (54 + 128 * t) j = nI (e (j + 1)) ∧ WFp (fun c => mI M 89 (300 * t + c)) (e j) (e (j + 1))) ∧ ∀ c, c < cl → cod (mI M (53 + 128 * t) c) (mI M 89 (300 * t + c)) (mI M 90 (300 * t + c)) := by
  obtain ⟨b', cl, e, hb8, hcl, g1, g2, g3, g4, g5, g6, g7, g8⟩ := (r.2.2.2.2.2.2.2.1 t ht).2.2.2.2.2.1
  have hbb : b' = b := nI_inj (by omega) (by omega) (g3.symm.trans hb)
  subst hbb
  exact ⟨cl, e, hcl, g1, g2, g4, g5, g6, g7, g8⟩
/-- the reckoner reckons what the model says -/
theorem c4_reckon (r : Rel M nw np ns nt T) {t j s p b : Nat} (ht : t < nt) (hb : mI M 91 t = nI b) (hb9 : b ≤ 8) (hj : j < b + 2) {i : Int32} (hL : ∀ k, k < 10 → mJ M 27 k = (f_named (mI M) ns (nI k) s p i).toInt64) (q : Int64 → o_M → Prop) (h : ∀ N, Sk M N → (∀ k, mJ N 27 k = mJ M 27 k) → q (f_worth (mI M) ns t j s p i) N) : K_X4_reckon l [rV (some 26), rV (some (51 + 128 * t)), iV (nI j)] M q := by
  have ⟨r1, r2, r3, r4, r5, r6, r7, r8, r9, r10, r11⟩ := r
  have hnt := r3.2.2.2.1.2.1
  obtain ⟨cl, e, hcl, g1, g2, g4, g5, g6, g7, g8⟩ := tx7 r ht hb hb9
  obtain ⟨w1, hgh, w2, w3, w4, w5⟩ := g7 j hj
  have ea := (g6 j (by omega)).1
  have eb := (g6 (j + 1) (by omega)).1
  have hbl := (g6 (j + 1) (by omega)).2
  have eR1 : mR M (51 + 128 * t) 1 = some (53 + 128 * t) := (r8 t ht).2.2.1
  have eR2 : mR M (51 + 128 * t) 2 = some (54 + 128 * t) := (r8 t ht).2.2.2.1
  let nm : Int32 → Int64 := fun w => (f_named (mI M) ns w s p i).toInt64
  have hval : f_worth (mI M) ns t j s p i = (f_run (mI M) nm t (e j) (e (j + 1) - e j)).1 0 := by
    unfold f_worth
    rw [ea, eb, nI_clamp (by omega), nI_clamp (by omega)]
  have hht : ∀ k, e j + k ≤ e (j + 1) → (f_run (mI M) nm t (e j) k).2 = hgh (e j + k) := by
    intro k
    induction k with
    | zero => intro _; exact w2.symm
    | succ k ih =>
      intro hk
      have := ih (by omega)
      have h5 := (w5 (e j + k) (by omega) (by omega)).2
      rw [← this] at h5
      exact stp_h h5
  have key : ∀ m k : Nat, e j + k + m = e (j + 1) → ∀ N, Sk M N → (∀ k, mJ N 27 k = mJ M 27 k) → mI N 26 2 = nI (hgh (e j + k)) → (∀ x, x < hgh (e j + k) → mJ N 28 x = (f_run (mI M) nm t (e j) k).1 x) → H_X4_reckon_18 l q (51 + 128 * t) (nI (e (j + 1))) (nI (e j + k)) N := by
    intro m
    induction m with
    | zero =>
      intro k hk N hN h27 htop hst
      have hek : e j + k = e (j + 1) := by omega
      rw [hek] at htop hst ⊢
      rw [w3] at htop hst
      refine w_X4_reckon_18 l q _ (ty51 t) _ _ N ⟨fun _ => c4_pop (h := 0) (Sm_wX hN.1 r2) htop (by omega) _ ?_, fun z => absurd (nI_le (Nat.le_refl _) (by omega)) z⟩
      rw [hst 0 (by omega)]
      have := h (sI N 26 2 (nI 0)) (Sk_t hN (sk26 _ _)) (fun k => by simp (disch := omega) only [true_and, mI_sI_1, mI_sI_2, mI_sI_3, mI_nW_1, mI_nW_2, mI_sR, mI_sJ, mI_sA_1, mI_sA_2, mR_sI, mR_sJ, mR_sA, mR_sR_1, mR_sR_2, mR_sR_3, mR_nW_1, mR_nW_2, mN_sI, mN_sJ, mN_sR, mN_sA, mN_nW_1, mN_nW_2, mJ_sI, mJ_sR, mJ_sA, mJ_sJ_1, mJ_sJ_2, mJ_sJ_3, mJ_nW_1, mJ_nW_2, h27])
      rw [hval, show e (j + 1) - e j = k by omega] at this; exact this
    | succ m ih =>
      intro k hk N hN h27 htop hst
      have e53 : mI N (53 + 128 * t) = mI M (53 + 128 * t) := Sm_row hN.1 (fun _ => scr_o (by omega) (by omega))
      have hE := ih (k + 1) (by omega)
      have hrun : f_run (mI M) nm t (e j) (k + 1) = stp nm (mI M 89 (300 * t + (e j + k))) (mI M 90 (300 * t + (e j + k))) (f_run (mI M) nm t (e j) k) := rfl
      have hh := hht k (by omega)
      rw [hrun] at hE
      obtain ⟨hh50, hstep⟩ := w5 (e j + k) (by omega) (by omega)
      refine w_X4_reckon_18 l q _ (ty51 t) _ _ N ⟨fun z => ?_, fun _ => ?_⟩
      · rw [nI_leI (by omega) (by omega)] at z; omega
      rw [show 51 + 128 * t + 2 = 53 + 128 * t by omega, hN.1.2.2.1, hN.1.2.2.2.1, nI_clamp (by omega), e53, g4, n1]
      refine ⟨eR1, vin (by omega) (by omega), c4_step (Sm_wX hN.1 r2) (g8 _ (by omega)) hh50 hstep htop hst nm (fun k hk => by rw [h27]; exact hL k hk) _ (fun N' hN' h27' htop' hst' => ?_)⟩
      refine hE N' (Sk_t hN hN') (fun k => by rw [h27', h27]) htop' (fun x hx => ?_)
      rw [hst' x hx]
      congr 2
      rw [← hh]
  have hlen : (Int32.ofNat (b + 2)) = nI (b + 2) := rfl
  refine w_X4_reckon l _ _ (ty51 t) M q (w_X7_endOf l _ _ (ty51 t) _ _ ?_)
  rw [show 51 + 128 * t + 3 = 54 + 128 * t by omega, show 51 + 128 * t + 2 = 53 + 128 * t by omega]
  simp (disch := omega) only [true_and, mI_sI_1, mI_sI_2, mI_sI_3, mI_nW_1, mI_nW_2, mI_sR, mI_sJ, mI_sA_1, mI_sA_2, mR_sI, mR_sJ, mR_sA, mR_sR_1, mR_sR_2, mR_sR_3, mR_nW_1, mR_nW_2, mN_sI, mN_sJ, mN_sR, mN_sA, mN_nW_1, mN_nW_2, mJ_sI, mJ_sR, mJ_sA, mJ_sJ_1, mJ_sJ_2, mJ_sJ_3, mJ_nW_1, mJ_nW_2, eR2, g1, eR1, g4]
  refine c11_isWithin _ _ _ _ ⟨fun z => ?_, fun _ => ?_⟩
  · rw [hlen, rng_ix1 (by omega) (by omega)] at z; exact absurd z (by decide)
  simp (disch := omega) only [true_and, mI_sI_1, mI_sI_2, mI_sI_3, mI_nW_1, mI_nW_2, mI_sR, mI_sJ, mI_sA_1, mI_sA_2, mR_sI, mR_sJ, mR_sA, mR_sR_1, mR_sR_2, mR_sR_3, mR_nW_1, mR_nW_2, mN_sI, mN_sJ, mN_sR, mN_sA, mN_nW_1, mN_nW_2, mJ_sI, mJ_sR, mJ_sA, mJ_sJ_1, mJ_sJ_2, mJ_sJ_3, mJ_nW_1, mJ_nW_2, eR2, g1, eR1, g4]
  rw [nI_clamp (by omega), w1]
  refine ⟨vin (by omega) (by omega), cJ_min _ _ _ ?_⟩
  have hmin : (if nI (e (j + 1)) ≤ Int32.ofNat cl then nI (e (j + 1)) else Int32.ofNat cl) = nI (e (j + 1)) := if_pos (nI_le hbl (by omega))
  rw [hmin]
  refine w_X7_startOf l _ _ (ty51 t) _ _ ?_
  rw [show 51 + 128 * t + 3 = 54 + 128 * t by omega]
  simp (disch := omega) only [true_and, mI_sI_1, mI_sI_2, mI_sI_3, mI_nW_1, mI_nW_2, mI_sR, mI_sJ, mI_sA_1, mI_sA_2, mR_sI, mR_sJ, mR_sA, mR_sR_1, mR_sR_2, mR_sR_3, mR_nW_1, mR_nW_2, mN_sI, mN_sJ, mN_sR, mN_sA, mN_nW_1, mN_nW_2, mJ_sI, mJ_sR, mJ_sA, mJ_sJ_1, mJ_sJ_2, mJ_sJ_3, mJ_nW_1, mJ_nW_2, eR2, g1]
  have fin := key (e (j + 1) - e j) 0 (by omega) (sI M 26 2 0) (sk26 _ _) (fun k => by simp (disch := omega) only [true_and, mI_sI_1, mI_sI_2, mI_sI_3, mI_nW_1, mI_nW_2, mI_sR, mI_sJ, mI_sA_1, mI_sA_2, mR_sI, mR_sJ, mR_sA, mR_sR_1, mR_sR_2, mR_sR_3, mR_nW_1, mR_nW_2, mN_sI, mN_sJ, mN_sR, mN_sA, mN_nW_1, mN_nW_2, mJ_sI, mJ_sR, mJ_sA, mJ_sJ_1, mJ_sJ_2, mJ_sJ_3, mJ_nW_1, mJ_nW_2]) (by simp (disch := omega) only [true_and, mI_sI_1, mI_sI_2, mI_sI_3, mI_nW_1, mI_nW_2, mI_sR, mI_sJ, mI_sA_1, mI_sA_2, mR_sI, mR_sJ, mR_sA, mR_sR_1, mR_sR_2, mR_sR_3, mR_nW_1, mR_nW_2, mN_sI, mN_sJ, mN_sR, mN_sA, mN_nW_1, mN_nW_2, mJ_sI, mJ_sR, mJ_sA, mJ_sJ_1, mJ_sJ_2, mJ_sJ_3, mJ_nW_1, mJ_nW_2]; rw [Nat.add_zero, w2]; rfl) (fun x hx => by rw [Nat.add_zero, w2] at hx; omega)
  rw [Nat.add_zero] at fin
  refine c11_isWithin _ _ _ _ ⟨fun z => ?_, fun z => ?_⟩
  · have hj0 : j = 0 := by
      have hf := b2_0.mp z
      unfold rng at hf
      simp only [decide_eq_false_iff_not] at hf
      rw [hlen, nI_toInt (by omega), nI_toInt (by omega)] at hf
      have e1 : (1 : Int32).toInt = 1 := by decide
      omega
    subst hj0
    rw [g5] at fin; exact fin
  · obtain ⟨k, hk1, hk2, hk3⟩ := rng_nat 1 (b + 2) (by decide) (by rw [hlen, nI_toInt (by omega)]) (b2_n0.mp z)
    have hkj : j = k := nI_inj (by omega) (by omega) hk3
    subst hkj
    have em : nI j - 1 = nI (j - 1) := pk_sub (a := j) (b := 1) (by omega)
    rw [em]
    simp (disch := omega) only [true_and, mI_sI_1, mI_sI_2, mI_sI_3, mI_nW_1, mI_nW_2, mI_sR, mI_sJ, mI_sA_1, mI_sA_2, mR_sI, mR_sJ, mR_sA, mR_sR_1, mR_sR_2, mR_sR_3, mR_nW_1, mR_nW_2, mN_sI, mN_sJ, mN_sR, mN_sA, mN_nW_1, mN_nW_2, mJ_sI, mJ_sR, mJ_sA, mJ_sJ_1, mJ_sJ_2, mJ_sJ_3, mJ_nW_1, mJ_nW_2, eR2, g1]
    rw [nI_clamp (by omega), (g7 (j - 1) (by omega)).1, show j - 1 + 1 = j by omega]
    exact ⟨vin (by omega) (by omega), fin⟩
end S49
