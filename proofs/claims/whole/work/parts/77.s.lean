/-! the class's reader: bytes and tokens -/
section S77
variable {l : Launch} {M N M0 : o_M} {b : Nat → Nat} {z : Nat}
theorem nI_sb {a c : Nat} (h : c ≤ a) : nI a - nI c = nI (a - c) := by
  have e : nI a = nI (a - c) + nI c := by rw [nI_add, Nat.sub_add_cancel h]
  rw [e, Int32.add_sub_cancel]
/-- a byte as the class holds it -/
def sgb (x : Nat) : Int32 := (nI x).toInt8.toInt32
theorem sgb_i : ∀ x, x < 256 → (sgb x).toInt = if x < 128 then (x : Int) else (x : Int) - 256 := by decide +kernel
theorem sgb_n : ∀ x, x < 128 → sgb x = nI x := by decide +kernel
theorem sgb_c : ∀ x, x < 128 → ((sgb x).toUInt32 % 65536).toInt32 = nI x := by decide +kernel
theorem sgb_s : ∀ x, x < 256 → ((sgb x &&& 255).toUInt32 % 65536).toInt32 = nI x := by decide +kernel
theorem sgb_e {x k : Nat} (hx : x < 256) (hk : k < 128) : sgb x = nI k ↔ x = k := by
  rw [ieq, sgb_i x hx, nI_toInt (by omega)]; split <;> omega
theorem sgb_l {x k : Nat} (hx : x < 256) (hk : k < 128) : sgb x < nI k ↔ (x < k ∨ 128 ≤ x) := by
  rw [ilt, sgb_i x hx, nI_toInt (by omega)]; split <;> omega
theorem sgb_g {x k : Nat} (hx : x < 256) (hk : k < 128) : nI k < sgb x ↔ (k < x ∧ x < 128) := by
  rw [ilt, sgb_i x hx, nI_toInt (by omega)]; split <;> omega
theorem ybf {c : Bool} (h : ¬ c = true) : c = false := by simpa using h
theorem isB_i {x : Nat} : isB x = true ↔ x = 32 ∨ x = 10 := by unfold isB; simp
/-- all but some places is as it was -/
def Fi (P : Nat → Nat → Prop) (M N : o_M) : Prop := (∀ a j, ¬ P a j → mI N a j = mI M a j) ∧ mJ N = mJ M ∧ mR N = mR M ∧ mN N = mN M ∧ mL N = mL M
theorem Fi_r (P : Nat → Nat → Prop) (M : o_M) : Fi P M M := ⟨fun _ _ _ => rfl, rfl, rfl, rfl, rfl⟩
theorem Fi_t {P : Nat → Nat → Prop} {M N O : o_M} (h : Fi P M N) (g : Fi P N O) : Fi P M O := ⟨fun a j hn => (g.1 a j hn).trans (h.1 a j hn), g.2.1.trans h.2.1, g.2.2.1.trans h.2.2.1, g.2.2.2.1.trans h.2.2.2.1, g.2.2.2.2.trans h.2.2.2.2⟩
theorem Fi_w {P Q : Nat → Nat → Prop} (hPQ : ∀ a j, P a j → Q a j) (h : Fi P M N) : Fi Q M N := ⟨fun a j hn => h.1 a j (fun z => hn (hPQ a j z)), h.2⟩
theorem Fi_s {P : Nat → Nat → Prop} {c j : Nat} {x : Int32} (h : Fi P M N) (hp : P c j) : Fi P M (sI N c j x) := ⟨fun a k hn => by rw [mI_sI, if_neg (fun z => hn (by rw [z.1, z.2]; exact hp))]; exact h.1 a k hn, h.2.1, h.2.2.1, h.2.2.2.1, h.2.2.2.2⟩
/-- what the class's reader stands on -/
def BX (M : o_M) (b : Nat → Nat) (z : Nat) : Prop := mR M 23 0 = some 24 ∧ mR M 23 1 = some 25 ∧ mR M 23 2 = some 22 ∧ mN M 24 = 300 ∧ mN M 25 = 10 ∧ mN M 22 = 300 ∧ z ≤ 300 ∧ mI M 23 3 = nI z ∧ ∀ i, i < z → b i < 256 ∧ mI M 22 i = sgb (b i)
theorem BX_f {P : Nat → Nat → Prop} (hP : ¬ P 23 3) (hP2 : ∀ j, ¬ P 22 j) (h : Fi P M N) (g : BX M b z) : BX N b z := by
  obtain ⟨g1, g2, g3, g4, g5, g6, g7, g8, g9⟩ := g
  exact ⟨by rw [h.2.2.1]; exact g1, by rw [h.2.2.1]; exact g2, by rw [h.2.2.1]; exact g3, by rw [h.2.2.2.1]; exact g4, by rw [h.2.2.2.1]; exact g5, by rw [h.2.2.2.1]; exact g6, g7, by rw [h.1 _ _ hP]; exact g8, fun i hi => by rw [h.1 _ _ (hP2 i)]; exact g9 i hi⟩
def PA (a j : Nat) : Prop := a = 23 ∧ 6 ≤ j ∧ j ≤ 9
def PV (a j : Nat) : Prop := a = 23 ∧ (j = 6 ∨ j = 9)
def PU (a j : Nat) : Prop := a = 23 ∧ (j = 6 ∨ j = 7 ∨ j = 9)
theorem c3_isBlank {x : Nat} (hx : x < 256) (q : Int32 → o_M → Prop) (h : q (b2 (isB x)) M) : K_X3_isBlank l [iV (sgb x)] M q := by
  refine w_X3_isBlank l _ M q ⟨fun w => ?_, fun w => ⟨fun w2 => ?_, fun w2 => ?_⟩⟩
  · rw [isB_i.mpr (Or.inl ((sgb_e hx (by decide)).mp w))] at h; exact h
  · rw [ybf (c := isB x) (fun e => by
      rcases isB_i.mp e with e | e
      · exact w ((sgb_e hx (by decide)).mpr e)
      · exact w2 ((sgb_e hx (by decide)).mpr e))] at h; exact h
  · rw [isB_i.mpr (Or.inr ((sgb_e hx (by decide)).mp w2))] at h; exact h
theorem c3_isLetter {x : Nat} (hx : x < 256) (q : Int32 → o_M → Prop) (h : q (b2 (isL x)) M) : K_X3_isLetter l [iV (sgb x)] M q := by
  refine w_X3_isLetter l _ M q ⟨fun w => ?_, fun w => ⟨fun w2 => ?_, fun w2 => ?_⟩⟩
  · rw [ybf (c := isL x) (fun e => by have := isL_i.mp e; have := (sgb_l (k := 97) hx (by decide)).mp w; omega)] at h; exact h
  · rw [ybf (c := isL x) (fun e => by have := isL_i.mp e; have := (sgb_g (k := 122) hx (by decide)).mp w2; omega)] at h; exact h
  · have h1 : ¬ (x < 97 ∨ 128 ≤ x) := fun e => w ((sgb_l (k := 97) hx (by decide)).mpr e)
    have h2 : ¬ (122 < x ∧ x < 128) := fun e => w2 ((sgb_g (k := 122) hx (by decide)).mpr e)
    rw [isL_i.mpr (by omega)] at h; exact h
theorem c3_isDigit {x : Nat} (hx : x < 256) (q : Int32 → o_M → Prop) (h : q (b2 (isD x)) M) : K_X3_isDigit l [iV (sgb x)] M q := by
  refine w_X3_isDigit l _ M q ⟨fun w => ?_, fun w => ⟨fun w2 => ?_, fun w2 => ?_⟩⟩
  · rw [ybf (c := isD x) (fun e => by have := isD_i.mp e; have := (sgb_l (k := 48) hx (by decide)).mp w; omega)] at h; exact h
  · rw [ybf (c := isD x) (fun e => by have := isD_i.mp e; have := (sgb_g (k := 57) hx (by decide)).mp w2; omega)] at h; exact h
  · have h1 : ¬ (x < 48 ∨ 128 ≤ x) := fun e => w ((sgb_l (k := 48) hx (by decide)).mpr e)
    have h2 : ¬ (57 < x ∧ x < 128) := fun e => w2 ((sgb_g (k := 57) hx (by decide)).mpr e)
    rw [isD_i.mpr (by omega)] at h; exact h
/-- a String's letters -/
theorem o_by_c : ∀ i, i < 3 → ∀ j, j < o_ln i → (((o_by i j) &&& 255).toUInt32 % 65536).toInt32 = o_by i j ∧ narrow .char (.int (o_by i j)) = .int (o_by i j) := by decide +kernel
theorem cJ_charAt {i j : Nat} (hi : i < 3) (hj : j < o_ln i) (q : Int32 → o_M → Prop) (h : q (o_by i j) M) : K_J0_charAt_5068e l [rV (some (1 + i)), iV (nI j)] M q := by
  have hl : o_ln i < 2 ^ 31 := by
    have : ∀ i, i < 3 → o_ln i < 2 ^ 31 := by decide
    exact this i hi
  have hc := o_by_c i hi j hj
  refine w_J0_charAt_5068e l i _ hi M q (w_J0_isLatin1_aae02 l i hi M _ ⟨fun z => absurd z (by decide), fun _ => w_J1_charAt_3b067 l i _ hi M _ (w_J0_checkIndex_df160 l _ _ M _ (fun n1 => w_J3_checkIndex_8e157 l _ _ n1 M _ ⟨fun z => absurd z (nI_pos (by omega)), fun _ => ⟨fun _ => ?_, fun z => absurd (nI_lt hj hl) z⟩⟩))⟩)
  rw [nI_clamp (by omega), hc.1]
  exact ⟨vin hj hl, hc.2, hc.2, h⟩
def sgl : List Nat := [40, 41, 59, 43, 45, 42, 60, 61]
theorem sgl_e : ∀ j, j < 8 → o_by 2 j = nI (sgl.getD j 0) ∧ sgl.getD j 0 < 128 ∧ ysg (sgl.getD j 0) = 16 + j := by decide +kernel
theorem cJ_indexOf {x : Nat} (hx : x < 256) (q : Int32 → o_M → Prop) (h1 : ∀ j, j < 8 → ysg x = 16 + j → q (nI j) M) (h0 : ysg x = 26 → q (-1) M) : K_J0_indexOf_0f7a4 l [rV (some 3), iV (nI x)] M q := by
  have key : ∀ m j, j + m = 8 → (∀ k, k < j → ¬ x = sgl.getD k 0) → H_J1_indexOfChar_4cfef_7 l q 2 (nI 8) (sgb x) (nI j) M := by
    intro m
    induction m with
    | zero =>
      intro j hj hk
      have : j = 8 := by omega
      subst this
      refine w_J1_indexOfChar_4cfef_7 l q 2 _ _ _ (by decide) M ⟨fun _ => h0 ?_, fun z => absurd (nI_le (Nat.le_refl _) (by decide)) z⟩
      have k0 : ¬ x = 40 := hk 0 (by decide)
      have k1 : ¬ x = 41 := hk 1 (by decide)
      have k2 : ¬ x = 59 := hk 2 (by decide)
      have k3 : ¬ x = 43 := hk 3 (by decide)
      have k4 : ¬ x = 45 := hk 4 (by decide)
      have k5 : ¬ x = 42 := hk 5 (by decide)
      have k6 : ¬ x = 60 := hk 6 (by decide)
      have k7 : ¬ x = 61 := hk 7 (by decide)
      unfold ysg
      rw [if_neg k0, if_neg k1, if_neg k2, if_neg k3, if_neg k4, if_neg k5, if_neg k6, if_neg k7]
    | succ m ih =>
      intro j hj hk
      have hs := sgl_e j (by omega)
      refine w_J1_indexOfChar_4cfef_7 l q 2 _ _ _ (by decide) M ⟨fun z => ?_, fun _ => ⟨vin (by show j < 8; omega) (by decide), fun z => ?_, fun z => ?_⟩⟩
      · rw [nI_leI (by omega) (by omega)] at z; omega
      · rw [n1]
        refine ih (j + 1) (by omega) (fun k hk2 e2 => ?_)
        by_cases e : k = j
        · subst e
          apply z
          rw [nI_clamp (by omega), hs.1]
          exact ((sgb_e hx hs.2.1).mpr e2).symm
        · exact hk k (by omega) e2
      · rw [nI_clamp (by omega), hs.1] at z
        have := (sgb_e hx hs.2.1).mp z.symm
        exact h1 j (by omega) (by rw [this]; exact hs.2.2)
  have e8 : Int32.ofNat (o_ln 2) >>> ((0 : Int32) &&& 31) = nI 8 := by decide
  refine w_J0_indexOf_0f7a4 l 2 _ (by decide) M q (w_J0_indexOf_7cf53 l 2 _ _ (by decide) M _ (w_J0_isLatin1_aae02 l 2 (by decide) M _ ⟨fun z => absurd z (by decide), fun _ => w_J0_length_8abf5 l 2 (by decide) M _ (w_J0_coder_7d493 l 2 (by decide) M _ ?_)⟩))
  rw [e8]
  refine w_J1_indexOf_4cfef l 2 _ _ _ (by decide) M _ (w_J1_canEncode_9a6ad l _ M _ ⟨fun z => absurd z (nI_pos (by omega)), fun _ => ⟨fun z => ?_, fun _ => ⟨fun _ => cJ_max _ _ _ (cJ_min _ _ _ ⟨fun _ => ?_, fun z => absurd (by decide) z⟩), fun z => absurd z (by decide)⟩⟩⟩)
  · rw [show (255 : Int32) = nI 255 from rfl, nI_ltI (by decide) (by omega)] at z; omega
  · have e1 : (if (0 : Int32) ≤ 0 then (0 : Int32) else 0) = nI 0 := by decide
    have e2 : (if nI 8 ≤ Int32.ofNat (o_ln 2) then nI 8 else Int32.ofNat (o_ln 2)) = nI 8 := by decide
    rw [e1, e2]
    exact w_J1_indexOfChar_4cfef l 2 _ _ _ (by decide) M _ (key 8 0 (by decide) (fun k hk => absurd hk (by omega)))
theorem c3_takeSign (hB : BX M b z) {p : Nat} (hp : p < z) (h9 : mI M 23 9 = nI p) (q : o_M → Prop) (hq : ∀ N, Fi PV M N → mI N 23 9 = nI (p + 1) → mI N 23 6 = nI (ysg (b p)) → q N) : K_X3_takeSign l [rV (some 23)] M q := by
  obtain ⟨g1, g2, g3, g4, g5, g6, g7, g8, g9⟩ := hB
  obtain ⟨v1, v2⟩ := g9 p hp
  refine w_X3_takeSign l M q ?_
  rw [h9, nI_clamp (by omega), v2, sgb_s _ v1, g6]
  refine ⟨g3, vin (by omega) (by decide), cJ_indexOf v1 _ (fun j hj e => ⟨fun _ => ?_, fun w => absurd (nI_pos' (by omega)) w⟩) (fun e => ⟨fun w => absurd w (by decide), fun _ => ?_⟩)⟩
  · refine hq _ (Fi_s (Fi_s (Fi_r _ _) (by unfold PV; omega)) (by unfold PV; omega)) ?_ ?_
    · simp (disch := omega) only [true_and, mI_sI_1, mI_sI_2, mI_sI_3, mI_nW_1, mI_nW_2, mI_sR, mI_sJ, mI_sA_1, mI_sA_2, mR_sI, mR_sJ, mR_sA, mR_sR_1, mR_sR_2, mR_sR_3, mR_nW_1, mR_nW_2, mN_sI, mN_sJ, mN_sR, mN_sA, mN_nW_1, mN_nW_2, mJ_sI, mJ_sR, mJ_sA, mJ_sJ_1, mJ_sJ_2, mJ_sJ_3, mJ_nW_1, mJ_nW_2]; rw [h9, n1]
    · simp (disch := omega) only [true_and, mI_sI_1, mI_sI_2, mI_sI_3, mI_nW_1, mI_nW_2, mI_sR, mI_sJ, mI_sA_1, mI_sA_2, mR_sI, mR_sJ, mR_sA, mR_sR_1, mR_sR_2, mR_sR_3, mR_nW_1, mR_nW_2, mN_sI, mN_sJ, mN_sR, mN_sA, mN_nW_1, mN_nW_2, mJ_sI, mJ_sR, mJ_sA, mJ_sJ_1, mJ_sJ_2, mJ_sJ_3, mJ_nW_1, mJ_nW_2]; rw [e]; exact nI_add 16 j
  · refine hq _ (Fi_s (Fi_s (Fi_r _ _) (by unfold PV; omega)) (by unfold PV; omega)) ?_ ?_
    · simp (disch := omega) only [true_and, mI_sI_1, mI_sI_2, mI_sI_3, mI_nW_1, mI_nW_2, mI_sR, mI_sJ, mI_sA_1, mI_sA_2, mR_sI, mR_sJ, mR_sA, mR_sR_1, mR_sR_2, mR_sR_3, mR_nW_1, mR_nW_2, mN_sI, mN_sJ, mN_sR, mN_sA, mN_nW_1, mN_nW_2, mJ_sI, mJ_sR, mJ_sA, mJ_sJ_1, mJ_sJ_2, mJ_sJ_3, mJ_nW_1, mJ_nW_2]; rw [h9, n1]
    · simp (disch := omega) only [true_and, mI_sI_1, mI_sI_2, mI_sI_3, mI_nW_1, mI_nW_2, mI_sR, mI_sJ, mI_sA_1, mI_sA_2, mR_sI, mR_sJ, mR_sA, mR_sR_1, mR_sR_2, mR_sR_3, mR_nW_1, mR_nW_2, mN_sI, mN_sJ, mN_sR, mN_sA, mN_nW_1, mN_nW_2, mJ_sI, mJ_sR, mJ_sA, mJ_sJ_1, mJ_sJ_2, mJ_sJ_3, mJ_nW_1, mJ_nW_2]; rw [e]; rfl
theorem c3_takeNumber (hB : BX M b z) {p : Nat} (hp : p ≤ z) (h8 : mI M 23 8 = nI p) (h9 : mI M 23 9 = nI p) (q : o_M → Prop) (hq : ∀ N e, e = ysk isD b p (z - p) → Fi PU M N → mI N 23 9 = nI e → mI N 23 6 = nI (if e - p ≤ 5 then 24 else 26) → (e - p ≤ 5 → mI N 23 7 = nI (ydec b p (e - p))) → q N) : K_X3_takeNumber l [rV (some 23)] M q := by
  have hz : z ≤ 300 := hB.2.2.2.2.2.2.1
  have hU3 : ¬ PU 23 3 := by unfold PU; omega
  have hU2 : ∀ j, ¬ PU 22 j := fun j => by unfold PU; omega
  have E : ∀ k N, ysk isD b p (z - p) = k → p ≤ k → k ≤ z → Fi PU M N → mI N 23 9 = nI k → (k - p ≤ 5 → mI N 23 7 = nI (ydec b p (k - p))) → ((((mI N 23 9) - (mI N 23 8)) ≤ 5 → q (sI N 23 6 24)) ∧ (¬ ((mI N 23 9) - (mI N 23 8)) ≤ 5 → q (sI N 23 6 26))) := by
    intro k N hs hpk hkz hF k9 k7
    have k8 : mI N 23 8 = nI p := by rw [hF.1 23 8 (by unfold PU; omega)]; exact h8
    rw [k9, k8, nI_sb hpk, show (5 : Int32) = nI 5 from rfl, nI_leI (by omega) (by decide)]
    refine ⟨fun w => hq _ k hs.symm (Fi_s hF (by unfold PU; omega)) (by simp (disch := omega) only [true_and, mI_sI_1, mI_sI_2, mI_sI_3, mI_nW_1, mI_nW_2, mI_sR, mI_sJ, mI_sA_1, mI_sA_2, mR_sI, mR_sJ, mR_sA, mR_sR_1, mR_sR_2, mR_sR_3, mR_nW_1, mR_nW_2, mN_sI, mN_sJ, mN_sR, mN_sA, mN_nW_1, mN_nW_2, mJ_sI, mJ_sR, mJ_sA, mJ_sJ_1, mJ_sJ_2, mJ_sJ_3, mJ_nW_1, mJ_nW_2]; exact k9) ?_ (fun _ => by simp (disch := omega) only [true_and, mI_sI_1, mI_sI_2, mI_sI_3, mI_nW_1, mI_nW_2, mI_sR, mI_sJ, mI_sA_1, mI_sA_2, mR_sI, mR_sJ, mR_sA, mR_sR_1, mR_sR_2, mR_sR_3, mR_nW_1, mR_nW_2, mN_sI, mN_sJ, mN_sR, mN_sA, mN_nW_1, mN_nW_2, mJ_sI, mJ_sR, mJ_sA, mJ_sJ_1, mJ_sJ_2, mJ_sJ_3, mJ_nW_1, mJ_nW_2]; exact k7 w), fun w => hq _ k hs.symm (Fi_s hF (by unfold PU; omega)) (by simp (disch := omega) only [true_and, mI_sI_1, mI_sI_2, mI_sI_3, mI_nW_1, mI_nW_2, mI_sR, mI_sJ, mI_sA_1, mI_sA_2, mR_sI, mR_sJ, mR_sA, mR_sR_1, mR_sR_2, mR_sR_3, mR_nW_1, mR_nW_2, mN_sI, mN_sJ, mN_sR, mN_sA, mN_nW_1, mN_nW_2, mJ_sI, mJ_sR, mJ_sA, mJ_sJ_1, mJ_sJ_2, mJ_sJ_3, mJ_nW_1, mJ_nW_2]; exact k9) ?_ (fun w2 => absurd w2 w)⟩
    · rw [if_pos w]; exact mI_sI_3
    · rw [if_neg w]; exact mI_sI_3
  have key : ∀ m k N, k + m = z → p ≤ k → ysk isD b k m = ysk isD b p (z - p) → Fi PU M N → mI N 23 9 = nI k → (k - p ≤ 5 → mI N 23 7 = nI (ydec b p (k - p))) → H_X3_takeNumber_5 l q N := by
    intro m
    induction m with
    | zero =>
      intro k N hk hpk hs hF k9 k7
      have hB1 := BX_f hU3 hU2 hF hB
      refine w_X3_takeNumber_5 l q N ⟨fun _ => E k N hs.symm hpk (by omega) hF k9 k7, fun w => ?_⟩
      exfalso; apply w
      rw [hB1.2.2.2.2.2.2.2.1, k9]; exact nI_le (by omega) (by omega)
    | succ m ih =>
      intro k N hk hpk hs hF k9 k7
      have hB1 := BX_f hU3 hU2 hF hB
      obtain ⟨g1, g2, g3, g4, g5, g6, g7, g8, g9⟩ := hB1
      obtain ⟨v1, v2⟩ := g9 k (by omega)
      have hs2 : (if isD (b k) then ysk isD b (k + 1) m else k) = ysk isD b p (z - p) := hs
      refine w_X3_takeNumber_5 l q N ⟨fun w => ?_, fun _ => ?_⟩
      · rw [g8, k9, nI_leI (by omega) (by omega)] at w; omega
      have EE := E k N
      rw [k9] at EE
      rw [k9, nI_clamp (by omega), v2, g6]
      refine ⟨g3, vin (by omega) (by decide), c3_isDigit v1 _ ⟨fun w => ?_, fun w => ?_⟩⟩
      · rw [k9]
        refine EE ?_ hpk (by omega) hF rfl k7
        rw [← hs2, if_neg (by rw [b2_0.mp w]; exact Bool.false_ne_true)]
      · have hd := b2_n0.mp w
        have hd2 := isD_i.mp hd
        rw [k9, nI_clamp (by omega), v2, g6]
        refine ⟨g3, vin (by omega) (by decide), ih (k + 1) _ (by omega) (by omega) (by rw [← hs2, if_pos hd]) (Fi_s (Fi_s hF (by unfold PU; omega)) (by unfold PU; omega)) (by simp (disch := omega) only [true_and, mI_sI_1, mI_sI_2, mI_sI_3, mI_nW_1, mI_nW_2, mI_sR, mI_sJ, mI_sA_1, mI_sA_2, mR_sI, mR_sJ, mR_sA, mR_sR_1, mR_sR_2, mR_sR_3, mR_nW_1, mR_nW_2, mN_sI, mN_sJ, mN_sR, mN_sA, mN_nW_1, mN_nW_2, mJ_sI, mJ_sR, mJ_sA, mJ_sJ_1, mJ_sJ_2, mJ_sJ_3, mJ_nW_1, mJ_nW_2]; rw [k9, n1]) (fun h5 => ?_)⟩
        simp (disch := omega) only [true_and, mI_sI_1, mI_sI_2, mI_sI_3, mI_nW_1, mI_nW_2, mI_sR, mI_sJ, mI_sA_1, mI_sA_2, mR_sI, mR_sJ, mR_sA, mR_sR_1, mR_sR_2, mR_sR_3, mR_nW_1, mR_nW_2, mN_sI, mN_sJ, mN_sR, mN_sA, mN_nW_1, mN_nW_2, mJ_sI, mJ_sR, mJ_sA, mJ_sJ_1, mJ_sJ_2, mJ_sJ_3, mJ_nW_1, mJ_nW_2]
        rw [k7 (by omega), sgb_n _ (by omega), show (10 : Int32) = nI 10 from rfl, show (48 : Int32) = nI 48 from rfl, pk_mul, nI_add, nI_sb (by omega), show k + 1 - p = (k - p) + 1 by omega]
        show _ = nI (10 * ydec b p (k - p) + (b (p + (k - p)) - 48))
        rw [show p + (k - p) = k by omega]
        congr 1; omega
  refine w_X3_takeNumber l M q (key (z - p) p _ (by omega) (Nat.le_refl _) rfl (Fi_s (Fi_r _ _) (by unfold PU; omega)) (by simp (disch := omega) only [true_and, mI_sI_1, mI_sI_2, mI_sI_3, mI_nW_1, mI_nW_2, mI_sR, mI_sJ, mI_sA_1, mI_sA_2, mR_sI, mR_sJ, mR_sA, mR_sR_1, mR_sR_2, mR_sR_3, mR_nW_1, mR_nW_2, mN_sI, mN_sJ, mN_sR, mN_sA, mN_nW_1, mN_nW_2, mJ_sI, mJ_sR, mJ_sA, mJ_sJ_1, mJ_sJ_2, mJ_sJ_3, mJ_nW_1, mJ_nW_2]; exact h9) (fun _ => ?_))
  rw [mI_sI_3, Nat.sub_self]; rfl
end S77
