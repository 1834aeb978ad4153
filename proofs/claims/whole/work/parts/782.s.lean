/-! the model's reader: bytes and tokens -/
section S782
variable {l : Launch} {M N M0 : o_M} {b : Nat → Nat} {z t : Nat}
/-- what the model's reader stands on -/
def BM (M : o_M) (t : Nat) (b : Nat → Nat) (z : Nat) : Prop := wM M ∧ RD M ∧ t < 10 ∧ mI M 60 42 = nI t ∧ z ≤ 300 ∧ mI M 87 t = nI z ∧ ∀ i, i < z → b i < 256 ∧ mI M 88 (300 * t + i) = nI (b i)
theorem BM_f {P : Nat → Nat → Prop} (h1 : ¬ P 60 42) (h2 : ∀ j, ¬ P 87 j) (h3 : ∀ j, ¬ P 88 j) (h4 : ∀ j, ¬ P 102 j) (h : Fi P M N) (g : BM M t b z) : BM N t b z := by
  obtain ⟨g1, g2, g3, g4, g5, g6, g7⟩ := g
  exact ⟨fun p hp => by rw [h.2.2.1, h.2.2.2.1]; exact g1 p hp, fun j hj => by rw [h.1 _ _ (h4 j)]; exact g2 j hj, g3, by rw [h.1 _ _ h1]; exact g4, g5, by rw [h.1 _ _ (h2 t)]; exact g6, fun i hi => by rw [h.1 _ _ (h3 _)]; exact g7 i hi⟩
def PN (a j : Nat) : Prop := a = 60 ∧ (j = 43 ∨ j = 45 ∨ j = 46)
def PQ (a j : Nat) : Prop := a = 60 ∧ 43 ≤ j ∧ j ≤ 46
theorem BM_N (h : Fi PN M N) (g : BM M t b z) : BM N t b z := BM_f (by unfold PN; omega) (fun j => by unfold PN; omega) (fun j => by unfold PN; omega) (fun j => by unfold PN; omega) h g
theorem BM_Q (h : Fi PQ M N) (g : BM M t b z) : BM N t b z := BM_f (by unfold PQ; omega) (fun j => by unfold PQ; omega) (fun j => by unfold PQ; omega) (fun j => by unfold PQ; omega) h g
/-- the byte there, or -1 -/
def ybt (b : Nat → Nat) (z i : Nat) : Int32 := if i < z then nI (b i) else -1
theorem c12_byteAt (hB : BM M t b z) {i : Nat} (hi : i ≤ 1000) (q : Int32 → o_M → Prop) (h : q (ybt b z i) M) : K_X12_byteAt l [rV (some 60), iV (nI i)] M q := by
  obtain ⟨g1, g2, g3, g4, g5, g6, g7⟩ := hB
  refine w_X12_byteAt l _ M q ?_
  rw [g4, nI_clamp (by omega), g6, wn26 g1, wn27 g1, ixm (C := 300) 300 t i rfl, nI_leI (by omega) (by omega), nI_clamp (by omega)]
  refine ⟨wr26 g1, vin (by omega) (by decide), fun c => ?_, fun c => ⟨wr27 g1, vin (by omega) (by decide), ?_⟩⟩
  · unfold ybt at h; rw [if_neg (by omega)] at h; exact h
  · unfold ybt at h; rw [if_pos (by omega)] at h
    rw [(g7 i (by omega)).2]; exact h
theorem c12_isL {i : Nat} (hb : i < z → b i < 256) (q : Int32 → o_M → Prop) (h : q (b2 (decide (i < z) && isL (b i))) M) : K_X12_isLetter l [iV (ybt b z i)] M q := by
  unfold ybt
  by_cases c : i < z
  · have hx := hb c
    rw [decide_eq_true c, Bool.true_and] at h
    rw [if_pos c]
    refine w_X12_isLetter l _ M q ⟨fun w => ?_, fun w => ⟨fun w2 => ?_, fun w2 => ?_⟩⟩
    · rw [ybf (c := isL (b i)) (fun e => by have := isL_i.mp e; have := (nI_ltI (b := 97) (by omega) (by decide)).mp w; omega)] at h; exact h
    · rw [ybf (c := isL (b i)) (fun e => by have := isL_i.mp e; have := (nI_ltI (a := 122) (by decide) (by omega)).mp w2; omega)] at h; exact h
    · have h1 : ¬ b i < 97 := fun e => w ((nI_ltI (b := 97) (by omega) (by decide)).mpr e)
      have h2 : ¬ 122 < b i := fun e => w2 ((nI_ltI (a := 122) (by decide) (by omega)).mpr e)
      rw [isL_i.mpr (by omega)] at h; exact h
  · rw [decide_eq_false c, Bool.false_and] at h
    rw [if_neg c]
    exact w_X12_isLetter l _ M q ⟨fun w => h, fun w => absurd (by decide) w⟩
theorem c12_isD {i : Nat} (hb : i < z → b i < 256) (q : Int32 → o_M → Prop) (h : q (b2 (decide (i < z) && isD (b i))) M) : K_X12_isDigit l [iV (ybt b z i)] M q := by
  unfold ybt
  by_cases c : i < z
  · have hx := hb c
    rw [decide_eq_true c, Bool.true_and] at h
    rw [if_pos c]
    refine w_X12_isDigit l _ M q ⟨fun w => ?_, fun w => ⟨fun w2 => ?_, fun w2 => ?_⟩⟩
    · rw [ybf (c := isD (b i)) (fun e => by have := isD_i.mp e; have := (nI_ltI (b := 48) (by omega) (by decide)).mp w; omega)] at h; exact h
    · rw [ybf (c := isD (b i)) (fun e => by have := isD_i.mp e; have := (nI_ltI (a := 57) (by decide) (by omega)).mp w2; omega)] at h; exact h
    · have h1 : ¬ b i < 48 := fun e => w ((nI_ltI (b := 48) (by omega) (by decide)).mpr e)
      have h2 : ¬ 57 < b i := fun e => w2 ((nI_ltI (a := 57) (by decide) (by omega)).mpr e)
      rw [isD_i.mpr (by omega)] at h; exact h
  · rw [decide_eq_false c, Bool.false_and] at h
    rw [if_neg c]
    exact w_X12_isDigit l _ M q ⟨fun w => h, fun w => absurd (by decide) w⟩
/-- a token as the model holds it -/
def mtk (k : Nat) : Int32 := if k < 10 then 3 else if k < 16 then nI (290 + k) else nI ([40, 41, 59, 43, 45, 42, 60, 61, 1, 0].getD (k - 16) 2)
theorem ysk_s {P : Nat → Bool} {k m : Nat} : ysk P b k (m + 1) = if P (b k) then ysk P b (k + 1) m else k := rfl
theorem c12_number (hB : BM M t b z) {p : Nat} (hp : p ≤ z) (h44 : mI M 60 44 = nI p) (h43 : mI M 60 43 = nI p) (q : o_M → Prop) (hq : ∀ N e, e = ysk isD b p (z - p) → Fi PN M N → mI N 60 43 = nI e → mI N 60 45 = mtk (if e - p ≤ 5 then 24 else 26) → (e - p ≤ 5 → mI N 60 46 = nI (ydec b p (e - p))) → q N) : K_X12_number l [rV (some 60)] M q := by
  have hz : z ≤ 300 := hB.2.2.2.2.1
  have E : ∀ k N, ysk isD b p (z - p) = k → p ≤ k → k ≤ z → Fi PN M N → mI N 60 43 = nI k → (k - p ≤ 5 → mI N 60 46 = nI (ydec b p (k - p))) → ((((mI N 60 43) - (mI N 60 44)) ≤ 5 → q (sI N 60 45 1)) ∧ (¬ ((mI N 60 43) - (mI N 60 44)) ≤ 5 → q (sI N 60 45 2))) := by
    intro k N hs hpk hkz hF k43 k46
    have k44 : mI N 60 44 = nI p := by rw [hF.1 60 44 (by unfold PN; omega)]; exact h44
    rw [k43, k44, nI_sb hpk, show (5 : Int32) = nI 5 from rfl, nI_leI (by omega) (by decide)]
    refine ⟨fun w => hq _ k hs.symm (Fi_s hF (by unfold PN; omega)) (by simp (disch := omega) only [true_and, mI_sI_1, mI_sI_2, mI_sI_3, mI_nW_1, mI_nW_2, mI_sR, mI_sJ, mI_sA_1, mI_sA_2, mR_sI, mR_sJ, mR_sA, mR_sR_1, mR_sR_2, mR_sR_3, mR_nW_1, mR_nW_2, mN_sI, mN_sJ, mN_sR, mN_sA, mN_nW_1, mN_nW_2, mJ_sI, mJ_sR, mJ_sA, mJ_sJ_1, mJ_sJ_2, mJ_sJ_3, mJ_nW_1, mJ_nW_2]; exact k43) ?_ (fun _ => by simp (disch := omega) only [true_and, mI_sI_1, mI_sI_2, mI_sI_3, mI_nW_1, mI_nW_2, mI_sR, mI_sJ, mI_sA_1, mI_sA_2, mR_sI, mR_sJ, mR_sA, mR_sR_1, mR_sR_2, mR_sR_3, mR_nW_1, mR_nW_2, mN_sI, mN_sJ, mN_sR, mN_sA, mN_nW_1, mN_nW_2, mJ_sI, mJ_sR, mJ_sA, mJ_sJ_1, mJ_sJ_2, mJ_sJ_3, mJ_nW_1, mJ_nW_2]; exact k46 w), fun w => hq _ k hs.symm (Fi_s hF (by unfold PN; omega)) (by simp (disch := omega) only [true_and, mI_sI_1, mI_sI_2, mI_sI_3, mI_nW_1, mI_nW_2, mI_sR, mI_sJ, mI_sA_1, mI_sA_2, mR_sI, mR_sJ, mR_sA, mR_sR_1, mR_sR_2, mR_sR_3, mR_nW_1, mR_nW_2, mN_sI, mN_sJ, mN_sR, mN_sA, mN_nW_1, mN_nW_2, mJ_sI, mJ_sR, mJ_sA, mJ_sJ_1, mJ_sJ_2, mJ_sJ_3, mJ_nW_1, mJ_nW_2]; exact k43) ?_ (fun w2 => absurd w2 w)⟩
    · rw [if_pos w]; exact mI_sI_3
    · rw [if_neg w]; exact mI_sI_3
  have key : ∀ m k N, k + m = z → p ≤ k → ysk isD b k m = ysk isD b p (z - p) → Fi PN M N → mI N 60 43 = nI k → (k - p ≤ 5 → mI N 60 46 = nI (ydec b p (k - p))) → H_X12_number_5 l q N := by
    intro m
    induction m with
    | zero =>
      intro k N hk hpk hs hF k43 k46
      have hB1 := BM_N hF hB
      refine w_X12_number_5 l q N ?_
      rw [k43]
      refine c12_byteAt hB1 (by omega) _ (c12_isD (fun h => (hB1.2.2.2.2.2.2 k h).1) _ ⟨fun _ => E k N hs.symm hpk (by omega) hF k43 k46, fun w => ?_⟩)
      rw [decide_eq_false (by omega), Bool.false_and] at w
      exact absurd rfl w
    | succ m ih =>
      intro k N hk hpk hs hF k43 k46
      have hB1 := BM_N hF hB
      have v1 := (hB1.2.2.2.2.2.2 k (by omega)).1
      have k44 : mI N 60 44 = nI p := by rw [hF.1 60 44 (by unfold PN; omega)]; exact h44
      rw [ysk_s] at hs
      refine w_X12_number_5 l q N ?_
      rw [k43]
      refine c12_byteAt hB1 (by omega) _ (c12_isD (fun h => (hB1.2.2.2.2.2.2 k h).1) _ ⟨fun w => ?_, fun w => ?_⟩)
      · rw [decide_eq_true (by omega : k < z), Bool.true_and] at w
        refine E k N ?_ hpk (by omega) hF k43 k46
        rw [← hs, if_neg (by rw [b2_0.mp w]; exact Bool.false_ne_true)]
      · rw [decide_eq_true (by omega : k < z), Bool.true_and] at w
        have hd := b2_n0.mp w
        have hd2 := isD_i.mp hd
        rw [if_pos hd] at hs
        rw [k43, k44, nI_sb hpk, show (5 : Int32) = nI 5 from rfl, nI_leI (by decide) (by omega)]
        refine ⟨fun c => ?_, fun c => c12_byteAt hB1 (by omega) _ ?_⟩
        · refine ih (k + 1) _ (by omega) (by omega) hs (Fi_s (Fi_s hF (by unfold PN; omega)) (by unfold PN; omega)) (by simp (disch := omega) only [true_and, mI_sI_1, mI_sI_2, mI_sI_3, mI_nW_1, mI_nW_2, mI_sR, mI_sJ, mI_sA_1, mI_sA_2, mR_sI, mR_sJ, mR_sA, mR_sR_1, mR_sR_2, mR_sR_3, mR_nW_1, mR_nW_2, mN_sI, mN_sJ, mN_sR, mN_sA, mN_nW_1, mN_nW_2, mJ_sI, mJ_sR, mJ_sA, mJ_sJ_1, mJ_sJ_2, mJ_sJ_3, mJ_nW_1, mJ_nW_2]; rw [k43, n1]) (fun h5 => by omega)
        · refine ih (k + 1) _ (by omega) (by omega) hs (Fi_s (Fi_s hF (by unfold PN; omega)) (by unfold PN; omega)) (by simp (disch := omega) only [true_and, mI_sI_1, mI_sI_2, mI_sI_3, mI_nW_1, mI_nW_2, mI_sR, mI_sJ, mI_sA_1, mI_sA_2, mR_sI, mR_sJ, mR_sA, mR_sR_1, mR_sR_2, mR_sR_3, mR_nW_1, mR_nW_2, mN_sI, mN_sJ, mN_sR, mN_sA, mN_nW_1, mN_nW_2, mJ_sI, mJ_sR, mJ_sA, mJ_sJ_1, mJ_sJ_2, mJ_sJ_3, mJ_nW_1, mJ_nW_2]; rw [k43, n1]) (fun h5 => ?_)
          simp (disch := omega) only [true_and, mI_sI_1, mI_sI_2, mI_sI_3, mI_nW_1, mI_nW_2, mI_sR, mI_sJ, mI_sA_1, mI_sA_2, mR_sI, mR_sJ, mR_sA, mR_sR_1, mR_sR_2, mR_sR_3, mR_nW_1, mR_nW_2, mN_sI, mN_sJ, mN_sR, mN_sA, mN_nW_1, mN_nW_2, mJ_sI, mJ_sR, mJ_sA, mJ_sJ_1, mJ_sJ_2, mJ_sJ_3, mJ_nW_1, mJ_nW_2]
          unfold ybt
          rw [if_pos (by omega), k46 (by omega), show (10 : Int32) = nI 10 from rfl, show (48 : Int32) = nI 48 from rfl, pk_mul, nI_add, nI_sb (by omega), show k + 1 - p = (k - p) + 1 by omega]
          show _ = nI (10 * ydec b p (k - p) + (b (p + (k - p)) - 48))
          rw [show p + (k - p) = k by omega]
          congr 1; omega
  refine w_X12_number l M q (key (z - p) p _ (by omega) (Nat.le_refl _) rfl (Fi_s (Fi_r _ _) (by unfold PN; omega)) (by simp (disch := omega) only [true_and, mI_sI_1, mI_sI_2, mI_sI_3, mI_nW_1, mI_nW_2, mI_sR, mI_sJ, mI_sA_1, mI_sA_2, mR_sI, mR_sJ, mR_sA, mR_sR_1, mR_sR_2, mR_sR_3, mR_nW_1, mR_nW_2, mN_sI, mN_sJ, mN_sR, mN_sA, mN_nW_1, mN_nW_2, mJ_sI, mJ_sR, mJ_sA, mJ_sJ_1, mJ_sJ_2, mJ_sJ_3, mJ_nW_1, mJ_nW_2]; exact h43) (fun _ => ?_))
  rw [mI_sI_3, Nat.sub_self]; rfl
theorem wd_t : ∀ k, k < 16 → wdL.getD (wof.getD k 0 + wln.getD k 0) 0 = 0 ∧ wof.getD (k + 1) 0 = wof.getD k 0 + wln.getD k 0 + 1 ∧ wof.getD k 0 + wln.getD k 0 < 81 ∧ wln.getD k 0 ≤ 7 := by decide +kernel
theorem wd_l : ∀ k, k < 16 → ∀ j, j < wln.getD k 0 → wdL.getD (wof.getD k 0 + j) 0 ≠ 0 ∧ wdL.getD (wof.getD k 0 + j) 0 < 128 := by decide +kernel
theorem wof16 : wof.getD 16 0 = 81 := by decide
theorem c12_wordL (hB : BM M t b z) {p e : Nat} (hpe : p ≤ e) (hez : e ≤ z) (h44 : mI M 60 44 = nI p) (h43 : mI M 60 43 = nI e) (q : o_M → Prop) (hq : ∀ N, Fi PN M N → mI N 60 43 = nI e → mI N 60 45 = mtk (wt b p e 16) → (wt b p e 16 < 16 → mI N 60 46 = nI (wt b p e 16)) → q N) : ∀ m x k i, x + m = 81 → (k < 16 ∧ i ≤ wln.getD k 0 ∧ x = wof.getD k 0 + i) ∨ (k = 16 ∧ x = 81) → ∀ (sm : Bool) (N : o_M), (sm = true ↔ ∀ j, j < i → b (p + j) = wdL.getD (wof.getD k 0 + j) 0 ∧ j < e - p) → Fi PN M N → mI N 60 43 = nI e → mI N 60 45 = mtk (wt b p e k) → (wt b p e k < 16 → mI N 60 46 = nI (wt b p e k)) → H_X12_word_41 l q (nI k) (nI i) (b2 sm) (nI x) N := by
  have hz : z ≤ 300 := hB.2.2.2.2.1
  intro m
  induction m with
  | zero =>
    intro x k i hx hk sm N hsm hF k43 k45 k46
    have hB1 := BM_N hF hB
    have hk16 : k = 16 := by
      rcases hk with ⟨h1, h2, h3⟩ | h
      · have := wd_t k h1; omega
      · exact h.1
    subst hk16
    refine w_X12_word_41 l q _ _ _ _ N ⟨wr41 hB1.1, fun _ => hq N hF k43 k45 k46, fun c => ?_⟩
    exfalso; apply c
    rw [wn41 hB1.1]; exact nI_le (by omega) (by omega)
  | succ m ih =>
    intro x k i hx hk sm N hsm hF k43 k45 k46
    have hB1 := BM_N hF hB
    have k44 : mI N 60 44 = nI p := by rw [hF.1 60 44 (by unfold PN; omega)]; exact h44
    obtain ⟨h1, h2, h3⟩ : k < 16 ∧ i ≤ wln.getD k 0 ∧ x = wof.getD k 0 + i := by
      rcases hk with h | h
      · exact h
      · omega
    obtain ⟨d1, d2, d3, d4⟩ := wd_t k h1
    have hx102 : mI N 102 x = nI (wdL.getD x 0) := hB1.2.1 x (by omega)
    refine w_X12_word_41 l q _ _ _ _ N ?_
    rw [wn41 hB1.1, show Int32.ofNat 81 = nI 81 from rfl, nI_leI (by decide) (by omega), nI_clamp (by omega), hx102]
    refine ⟨wr41 hB1.1, fun c => by omega, fun _ => ⟨wr41 hB1.1, vin (by omega) (by decide), ?_⟩⟩
    -- what a letter does
    have nextL : i < wln.getD k 0 → ∀ sm' : Bool, (sm' = true ↔ ∀ j, j < i + 1 → b (p + j) = wdL.getD (wof.getD k 0 + j) 0 ∧ j < e - p) → H_X12_word_41 l q (nI k) (nI i + 1) (b2 sm') (nI x + 1) N := fun hil sm' hsm' => by
      rw [n1, n1]
      exact ih (x + 1) k (i + 1) (by omega) (Or.inl ⟨h1, by omega, by omega⟩) sm' N hsm' hF k43 k45 k46
    have nextW : i = wln.getD k 0 → ∀ N' : o_M, Fi PN M N' → mI N' 60 43 = nI e → mI N' 60 45 = mtk (wt b p e (k + 1)) → (wt b p e (k + 1) < 16 → mI N' 60 46 = nI (wt b p e (k + 1))) → H_X12_word_41 l q (nI k + 1) 0 1 (nI x + 1) N' := fun hil N' f1 f2 f3 f4 => by
      rw [n1, n1]
      refine ih (x + 1) (k + 1) 0 (by omega) ?_ true N' ⟨fun _ j hj => by omega, fun _ => rfl⟩ f1 f2 f3 f4
      by_cases c : k + 1 < 16
      · exact Or.inl ⟨c, by omega, by omega⟩
      · have : k = 15 := by omega
        subst this
        refine Or.inr ⟨rfl, ?_⟩
        have w16 : wof.getD (15 + 1) 0 = 81 := wof16
        omega
    have hw1 : wt b p e (k + 1) = if wis b p e k then k else wt b p e k := rfl
    refine ⟨fun c => ?_, fun c => ?_⟩
    · have hil : i < wln.getD k 0 := by
        by_cases e1 : i = wln.getD k 0
        · rw [h3, e1, d1] at c; exact absurd rfl c
        · omega
      have hl := wd_l k h1 i hil
      refine ⟨fun s0 => ?_, fun s1 => ?_⟩
      · refine nextL hil false ⟨fun h => absurd h Bool.false_ne_true, fun h => ?_⟩
        have : sm = true := hsm.mpr (fun j hj => h j (by omega))
        rw [this] at s0; exact absurd s0 (by decide)
      · have hs := hsm.mp (b2_n0.mp s1)
        rw [k44, nI_add]
        refine c12_byteAt hB1 (by omega) _ ?_
        rw [wn41 hB1.1, hx102, k43, k44, nI_sb hpe, nI_leI (by omega) (by omega)]
        refine ⟨wr41 hB1.1, vin (by omega) (by decide), fun r => ?_, fun r => ⟨fun c2 => ?_, fun c2 => ?_⟩⟩
        · refine nextL hil false ⟨fun h => absurd h Bool.false_ne_true, fun h => ?_⟩
          have h5 := h i (by omega)
          exfalso; apply r
          unfold ybt
          rw [if_pos (by omega), h5.1, h3]
        · refine nextL hil false ⟨fun h => absurd h Bool.false_ne_true, fun h => ?_⟩
          have h5 := h i (by omega)
          omega
        · refine nextL hil true ⟨fun _ j hj => ?_, fun _ => rfl⟩
          by_cases e1 : j = i
          · subst e1
            refine ⟨?_, by omega⟩
            unfold ybt at r
            rw [if_pos (by omega)] at r
            have v1 := (hB1.2.2.2.2.2.2 (p + j) (by omega)).1
            rw [h3] at r
            exact (nI_eq (by omega) (by omega)).mp r
          · exact hs j (by omega)
    · have hil : i = wln.getD k 0 := by
        by_cases e1 : i < wln.getD k 0
        · have hl := wd_l k h1 i e1
          rw [h3] at c
          exact absurd ((nI_eq (b := 0) (by omega) (by decide)).mp c) hl.1
        · omega
      have same : wis b p e k = false → H_X12_word_41 l q (nI k + 1) 0 1 (nI x + 1) N := fun hf => nextW hil N hF k43 (by rw [hw1, hf]; exact k45) (by rw [hw1, hf]; exact k46)
      refine ⟨fun s0 => same (ybf (fun hw => ?_)), fun s1 => ?_⟩
      · have hw := wis_i.mp hw
        have : sm = true := hsm.mpr (fun j hj => ⟨hw.2 j (by omega), by omega⟩)
        rw [this] at s0; exact absurd s0 (by decide)
      · have hs := hsm.mp (b2_n0.mp s1)
        rw [k43, k44, nI_sb hpe, nI_eq (by omega) (by omega), show (10 : Int32) = nI 10 from rfl, nI_leI (by decide) (by omega)]
        refine ⟨fun c2 => same (ybf (fun hw => ?_)), fun c2 => ?_⟩
        · have hw := wis_i.mp hw
          omega
        · have hw : wis b p e k = true := wis_i.mpr ⟨by omega, fun j hj => (hs j (by omega)).1⟩
          rw [hw, if_pos rfl] at hw1
          refine ⟨fun c3 => ?_, fun c3 => ?_⟩
          · refine nextW hil _ (Fi_s (Fi_s hF (by unfold PN; omega)) (by unfold PN; omega)) (by simp (disch := omega) only [true_and, mI_sI_1, mI_sI_2, mI_sI_3, mI_nW_1, mI_nW_2, mI_sR, mI_sJ, mI_sA_1, mI_sA_2, mR_sI, mR_sJ, mR_sA, mR_sR_1, mR_sR_2, mR_sR_3, mR_nW_1, mR_nW_2, mN_sI, mN_sJ, mN_sR, mN_sA, mN_nW_1, mN_nW_2, mJ_sI, mJ_sR, mJ_sA, mJ_sJ_1, mJ_sJ_2, mJ_sJ_3, mJ_nW_1, mJ_nW_2]; exact k43) ?_ (fun _ => by rw [hw1]; exact mI_sI_3)
            rw [hw1]
            simp (disch := omega) only [true_and, mI_sI_1, mI_sI_2, mI_sI_3, mI_nW_1, mI_nW_2, mI_sR, mI_sJ, mI_sA_1, mI_sA_2, mR_sI, mR_sJ, mR_sA, mR_sR_1, mR_sR_2, mR_sR_3, mR_nW_1, mR_nW_2, mN_sI, mN_sJ, mN_sR, mN_sA, mN_nW_1, mN_nW_2, mJ_sI, mJ_sR, mJ_sA, mJ_sJ_1, mJ_sJ_2, mJ_sJ_3, mJ_nW_1, mJ_nW_2]
            unfold mtk
            rw [if_neg (by omega), if_pos h1, show (300 : Int32) = nI 300 from rfl, nI_add, nI_sb (by omega)]
            congr 1; omega
          · refine nextW hil _ (Fi_s (Fi_s hF (by unfold PN; omega)) (by unfold PN; omega)) (by simp (disch := omega) only [true_and, mI_sI_1, mI_sI_2, mI_sI_3, mI_nW_1, mI_nW_2, mI_sR, mI_sJ, mI_sA_1, mI_sA_2, mR_sI, mR_sJ, mR_sA, mR_sR_1, mR_sR_2, mR_sR_3, mR_nW_1, mR_nW_2, mN_sI, mN_sJ, mN_sR, mN_sA, mN_nW_1, mN_nW_2, mJ_sI, mJ_sR, mJ_sA, mJ_sJ_1, mJ_sJ_2, mJ_sJ_3, mJ_nW_1, mJ_nW_2]; exact k43) ?_ (fun _ => by rw [hw1]; exact mI_sI_3)
            rw [hw1]
            simp (disch := omega) only [true_and, mI_sI_1, mI_sI_2, mI_sI_3, mI_nW_1, mI_nW_2, mI_sR, mI_sJ, mI_sA_1, mI_sA_2, mR_sI, mR_sJ, mR_sA, mR_sR_1, mR_sR_2, mR_sR_3, mR_nW_1, mR_nW_2, mN_sI, mN_sJ, mN_sR, mN_sA, mN_nW_1, mN_nW_2, mJ_sI, mJ_sR, mJ_sA, mJ_sJ_1, mJ_sJ_2, mJ_sJ_3, mJ_nW_1, mJ_nW_2]
            unfold mtk
            rw [if_pos (by omega)]
theorem c12_word (hB : BM M t b z) {p : Nat} (hp : p < z) (hLp : isL (b p) = true) (h44 : mI M 60 44 = nI p) (h43 : mI M 60 43 = nI p) (q : o_M → Prop) (hq : ∀ N, Fi PN M N → mI N 60 43 = nI (ysk isL b p (z - p)) → mI N 60 45 = mtk (wt b p (ysk isL b p (z - p)) 16) → (wt b p (ysk isL b p (z - p)) 16 < 16 → mI N 60 46 = nI (wt b p (ysk isL b p (z - p)) 16)) → q N) : K_X12_word l [rV (some 60)] M q := by
  have hz : z ≤ 300 := hB.2.2.2.2.1
  have he := ysk_le (P := isL) (b := b) (z - p) p
  have W0 : ∀ N, Fi PN M N → mI N 60 43 = nI (ysk isL b p (z - p)) → H_X12_word_41 l q 0 0 1 0 (sI N 60 45 2) := fun N hF k43 => by
    have hF' : Fi PN M (sI N 60 45 2) := Fi_s hF (by unfold PN; omega)
    have k44 : mI (sI N 60 45 2) 60 44 = nI p := by rw [hF'.1 60 44 (by unfold PN; omega)]; exact h44
    have k43' : mI (sI N 60 45 2) 60 43 = nI (ysk isL b p (z - p)) := by simp (disch := omega) only [true_and, mI_sI_1, mI_sI_2, mI_sI_3, mI_nW_1, mI_nW_2, mI_sR, mI_sJ, mI_sA_1, mI_sA_2, mR_sI, mR_sJ, mR_sA, mR_sR_1, mR_sR_2, mR_sR_3, mR_nW_1, mR_nW_2, mN_sI, mN_sJ, mN_sR, mN_sA, mN_nW_1, mN_nW_2, mJ_sI, mJ_sR, mJ_sA, mJ_sJ_1, mJ_sJ_2, mJ_sJ_3, mJ_nW_1, mJ_nW_2]; exact k43
    exact c12_wordL (BM_N hF' hB) he.1 (by omega) k44 k43' q (fun N' f1 => hq N' (Fi_t hF' f1)) 81 0 0 0 (by decide) (Or.inl ⟨by decide, by omega, by decide⟩) true _ ⟨fun _ j hj => by omega, fun _ => rfl⟩ (Fi_r _ _) k43' mI_sI_3 (fun h => absurd (show (26 : Nat) < 16 from h) (by decide))
  have key : ∀ m k N, k + m = z → p ≤ k → ysk isL b k m = ysk isL b p (z - p) → Fi PN M N → mI N 60 43 = nI k → H_X12_word_0 l q N := by
    intro m
    induction m with
    | zero =>
      intro k N hk hpk hs hF k43
      have hB1 := BM_N hF hB
      refine w_X12_word_0 l q N ?_
      rw [k43]
      refine c12_byteAt hB1 (by omega) _ (c12_isL (fun h => (hB1.2.2.2.2.2.2 k h).1) _ ⟨fun _ => W0 N hF (by rw [k43, ← hs]; rfl), fun w => ?_⟩)
      rw [decide_eq_false (by omega), Bool.false_and] at w
      exact absurd rfl w
    | succ m ih =>
      intro k N hk hpk hs hF k43
      have hB1 := BM_N hF hB
      rw [ysk_s] at hs
      refine w_X12_word_0 l q N ?_
      rw [k43]
      refine c12_byteAt hB1 (by omega) _ (c12_isL (fun h => (hB1.2.2.2.2.2.2 k h).1) _ ⟨fun w => ?_, fun w => ?_⟩)
      · rw [decide_eq_true (by omega : k < z), Bool.true_and] at w
        exact W0 N hF (by rw [k43, ← hs, if_neg (by rw [b2_0.mp w]; exact Bool.false_ne_true)])
      · rw [decide_eq_true (by omega : k < z), Bool.true_and] at w
        rw [if_pos (b2_n0.mp w)] at hs
        rw [k43, n1]
        exact ih (k + 1) _ (by omega) (by omega) hs (Fi_s hF (by unfold PN; omega)) mI_sI_3
  refine w_X12_word l M q ?_
  rw [h43]
  refine c12_byteAt hB (by omega) _ (c12_isL (fun h => (hB.2.2.2.2.2.2 p h).1) _ ⟨fun w => ?_, fun w => ?_⟩)
  · rw [decide_eq_true hp, Bool.true_and, hLp] at w
    exact absurd w (by decide)
  · rw [h43, n1]
    refine key (z - (p + 1)) (p + 1) _ (by omega) (by omega) ?_ (Fi_s (Fi_r _ _) (by unfold PN; omega)) mI_sI_3
    have e2 : z - p = (z - (p + 1)) + 1 := by omega
    rw [e2, ysk_s, if_pos hLp]
end S782
