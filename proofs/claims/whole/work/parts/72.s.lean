/-! put -/
section S72
variable {l : Launch} {M : o_M} {nw np ns nt T : Nat}
/-- the model's rows up to the texts -/
def dv (M : o_M) : o_v := fun id j => if (decide (61 ≤ id) && decide (id ≤ 94)) then mI M id j else 0
theorem dp_awayN (M : o_M) : f_awayN (dv M) = f_awayN (mI M) := rfl
theorem dp_away (M : o_M) : f_away (dv M) = f_away (mI M) := rfl
theorem dp_chairN (M : o_M) (s : Nat) (p : Int32) : ∀ m c, f_chairN (dv M) s p m c = f_chairN (mI M) s p m c
  | 0, _ => rfl
  | m + 1, c => by simp only [f_chairN, dp_chairN M s p m (c + 1)]; rfl
theorem dp_chairOf (M : o_M) : f_chairOf (dv M) = f_chairOf (mI M) := by funext s p; unfold f_chairOf; rw [dp_chairN]; rfl
theorem dp_needOf (M : o_M) : f_needOf (dv M) = f_needOf (mI M) := rfl
theorem dp_mx (M : o_M) (s i : Nat) (n0 : Int32) : ∀ k, f_mx (dv M) s i n0 k = f_mx (mI M) s i n0 k
  | 0 => rfl
  | k + 1 => by simp only [f_mx, dp_mx M s i n0 k]; rfl
theorem dp_need (M : o_M) : f_need (dv M) = f_need (mI M) := by funext s i m; unfold f_need; rw [dp_mx]; rfl
theorem dp_begins (M : o_M) : f_begins (dv M) = f_begins (mI M) := rfl
theorem dp_ends (M : o_M) : f_ends (dv M) = f_ends (mI M) := rfl
theorem dp_textOn (M : o_M) : f_textOn (dv M) = f_textOn (mI M) := rfl
theorem dp_week (M : o_M) : f_week (dv M) = f_week (mI M) := by
  funext s p n
  unfold f_week
  have : f_wkS (dv M) s p = f_wkS (mI M) s p := by funext k x; unfold f_wkS; rw [dp_chairOf]; rfl
  rw [this]
theorem dp_rest (M : o_M) : f_rest (dv M) = f_rest (mI M) := by
  funext s p n
  unfold f_rest
  have : f_rsS (dv M) s p = f_rsS (mI M) s p := by funext k x; unfold f_rsS; rw [dp_chairOf]; rfl
  rw [this]
theorem dp_named (M : o_M) : f_named (dv M) = f_named (mI M) := by funext n name s p i; unfold f_named; rw [dp_week, dp_rest]; rfl

theorem dp_worth (M : o_M) : f_worth (dv M) = f_worth (mI M) := by funext n t j s p i; unfold f_worth; rw [dp_named]; rfl
theorem dp_nd (M : o_M) : nd (dv M) = nd (mI M) := by funext s i; unfold nd; rw [dp_need]
theorem dp_inst (M : o_M) : f_inst (dv M) = f_inst (mI M) := by
  have : ∀ m s i c, f_ins (dv M) s m i c = f_ins (mI M) s m i c := fun m => by
    induction m with
    | zero => intro s i c; rfl
    | succ m ih => intro s i c; unfold f_ins; rw [dp_nd, ih]
  funext s c; exact this 6 s 0 c
theorem dp_due (M : o_M) : f_due (dv M) = f_due (mI M) := by
  funext ns nt p a b w
  unfold f_due
  have : f_dueS (dv M) ns nt p a b w = f_dueS (mI M) ns nt p a b w := by
    funext s x; unfold f_dueS; rw [dp_chairOf, dp_worth, dp_inst]; rfl
  rw [this]
theorem dv_e {N : o_M} (h : ∀ a j, 61 ≤ a → a ≤ 94 → mI N a j = mI M a j) : dv N = dv M := by
  funext a j
  unfold dv
  by_cases hc : (decide (61 ≤ a) && decide (a ≤ 94)) = true
  · rw [if_pos hc, if_pos hc]
    simp only [Bool.and_eq_true, decide_eq_true_eq] at hc
    exact h a j hc.1 hc.2
  · rw [if_neg hc, if_neg hc]
theorem scr_94 {a j : Nat} (h1 : 61 ≤ a) (h2 : a ≤ 110) : scr a j = false := by
  unfold scr
  have e1 : decide (a ≤ 40) = false := by simp; omega
  have e2 : decide (112 ≤ a) = false := by simp; omega
  have e3 : (a == 60) = false := by simp; omega
  rw [e1, e2, e3]; simp
def lj (a : Nat) : Prop := ¬ (a = 27 ∨ a = 28 ∨ a = 111)
/-- what the model has written -/
def PW (N N' : o_M) (y : Nat) (what n size : Int32) (z : Nat) (val : Nat → Int64) : Prop := (∀ a j, scr a j = false → mI N' a j = if a = 96 ∧ j = y then what else if a = 97 ∧ j = y then n else if a = 98 ∧ j = y then size else if a = 60 ∧ j = 39 then 0 else mI N a j) ∧ (∀ a j, lj a → mJ N' a j = if a = 99 ∧ 300 * y ≤ j ∧ j < 300 * y + z then val (j - 300 * y) else mJ N a j) ∧ mR N' = mR N ∧ mN N' = mN N ∧ mL N' = mL N
/-- the model's row of a tray -/
theorem c12_putL {N : o_M} (rv : RelV N nw np ns nt T) {y : Nat} (hy : y < 6) (what n : Int32) {z : Nat} (t : Nat) (hz : z ≤ 300) (val : Nat → Int64) (hkind : (what = 2 ∧ t < 11 ∧ ∀ i, i < z → val i = (mI N 88 (300 * t + i)).toInt64) ∨ (what = 3 ∧ z = np ∧ ∀ i, i < z → val i = f_due (mI N) ns nt i 0 400 1) ∨ (¬ what = 2 ∧ ¬ what = 3 ∧ z ≤ np ∧ ∀ i, i < z → val i = if f_away (mI N) i n then 1 else 0)) (q : Int32 → o_M → Prop) (h : ∀ N', PW N N' y what n (nI z) z val → q 1 N') : H_X12_put_142 l q (nI y) what n (nI t) (nI z) 0 (sI (sI (sI N 96 y what) 97 y n) 98 y (nI z)) := by
  have hnp := rv.2.2.1.2.1.1
  have key : ∀ m k, k + m = z → ∀ N1, RelV N1 nw np ns nt T → (∀ a j, scr a j = false → mI N1 a j = mI (sI (sI (sI N 96 y what) 97 y n) 98 y (nI z)) a j) → (∀ a j, lj a → mJ N1 a j = if a = 99 ∧ 300 * y ≤ j ∧ j < 300 * y + k then val (j - 300 * y) else mJ N a j) → mR N1 = mR N → mN N1 = mN N → mL N1 = mL N → H_X12_put_142 l q (nI y) what n (nI t) (nI z) (nI k) N1 := by
    intro m
    induction m with
    | zero =>
      intro k hk N1 rv1 hI hJ hR hN hL
      have : k = z := by omega
      subst this
      refine w_X12_put_142 l q _ _ _ _ _ _ N1 ⟨fun _ => w_X12_done l _ N1 _ (h _ ⟨fun a j hs => ?_, fun a j ha => ?_, hR, hN, hL⟩), fun w => absurd (nI_le (Nat.le_refl _) (by omega)) w⟩
      · rw [mI_sI]
        by_cases hc : a = 60 ∧ j = 39
        · rw [if_pos hc, if_neg (by omega), if_neg (by omega), if_neg (by omega), if_pos hc]
        · rw [if_neg hc, hI a j hs, mI_sI]
          by_cases h98 : a = 98 ∧ j = y
          · rw [if_pos h98, if_neg (by omega), if_neg (by omega), if_pos h98]
          · rw [if_neg h98, mI_sI]
            by_cases h97 : a = 97 ∧ j = y
            · rw [if_pos h97, if_neg (by omega), if_pos h97]
            · rw [if_neg h97, mI_sI]
              by_cases h96 : a = 96 ∧ j = y
              · rw [if_pos h96, if_pos h96]
              · rw [if_neg h96, if_neg h96, if_neg h97, if_neg h98, if_neg hc]
      · exact hJ a j ha
    | succ m ih =>
      intro k hk N1 rv1 hI hJ hR hN hL
      have w1 := rv1.1
      have hix : (300 : Int32) * nI y + nI k = nI (300 * y + k) := ixm 300 y k rfl
      have hrow : ∀ a j, 61 ≤ a → a ≤ 94 → mI N1 a j = mI N a j := fun a j h1 h2 => by rw [hI a j (scr_94 h1 (by omega))]; simp (disch := omega) only [true_and, mI_sI_1, mI_sI_2, mI_sI_3, mI_nW_1, mI_nW_2, mI_sR, mI_sJ, mI_sA_1, mI_sA_2, mR_sI, mR_sJ, mR_sA, mR_sR_1, mR_sR_2, mR_sR_3, mR_nW_1, mR_nW_2, mN_sI, mN_sJ, mN_sR, mN_sA, mN_nW_1, mN_nW_2, mJ_sI, mJ_sR, mJ_sA, mJ_sJ_1, mJ_sJ_2, mJ_sJ_3, mJ_nW_1, mJ_nW_2]
      have hdv := dv_e hrow
      have next : ∀ N2 x, RelV N2 nw np ns nt T → (∀ a j, scr a j = false → mI N2 a j = mI N1 a j) → (∀ a j, lj a → mJ N2 a j = mJ N1 a j) → mR N2 = mR N1 → mN N2 = mN N1 → mL N2 = mL N1 → x = val k → H_X12_put_142 l q (nI y) what n (nI t) (nI z) (nI (k + 1)) (sJ N2 99 (300 * y + k) x) := fun N2 x rv2 e1 e2 e3 e4 e5 hx => by
        refine ih (k + 1) (by omega) _ (RelV_fr (Fr_sJ (Fr_r _ _) (by unfold FYm; omega) _ _) rfl rfl rv2) (fun a j hs => (e1 a j hs).trans (hI a j hs)) (fun a j ha => ?_) (e3.trans hR) (e4.trans hN) (e5.trans hL)
        rw [mJ_sJ]
        by_cases hc : a = 99 ∧ j = 300 * y + k
        · rw [if_pos hc, if_pos (by omega), hx]; congr 1; omega
        · rw [if_neg hc, e2 a j ha, hJ a j ha]
          by_cases hc2 : a = 99 ∧ 300 * y ≤ j ∧ j < 300 * y + k
          · rw [if_pos hc2, if_pos (by omega)]
          · rw [if_neg hc2, if_neg (by omega)]
      refine w_X12_put_142 l q _ _ _ _ _ _ N1 ⟨fun w => ?_, fun _ => ⟨wr38 w1, fun n2 => ⟨fun n3 => ?_, fun n3 => ?_⟩, fun n2 => ?_⟩⟩
      · rw [nI_leI (by omega) (by omega)] at w; omega
      · rcases hkind with ⟨e, _⟩ | ⟨e, _⟩ | ⟨_, _, hzn, hval⟩
        · exact absurd e n2
        · exact absurd e n3
        · refine vk12_isAway rv1 (by omega) n _ ?_
          rw [show f_away (mI N1) k n = f_away (mI N) k n by rw [← dp_away, hdv, dp_away], hix, wn38 w1, nI_clamp (by omega), n1]
          have hv := hval k (by omega)
          refine ⟨fun w => ⟨vin (by omega) (by decide), next N1 0 rv1 (fun _ _ _ => rfl) (fun _ _ _ => rfl) rfl rfl rfl ?_⟩, fun w => ⟨vin (by omega) (by decide), next N1 1 rv1 (fun _ _ _ => rfl) (fun _ _ _ => rfl) rfl rfl rfl ?_⟩⟩
          · rw [hv, b2_0.mp w]; rfl
          · rw [hv, b2_n0.mp w]; rfl
      · rcases hkind with ⟨e, _⟩ | ⟨_, hzn, hval⟩ | ⟨_, e, _⟩
        · exact absurd e n2
        · refine vc12_dueOf rv1 (w := 1) (by omega) (Nat.le_refl _) 0 400 _ (fun N2 hN2 => ?_)
          have rv2 := RelV_Sm hN2 rv1
          rw [hix, wn38 rv2.1, nI_clamp (by omega), n1]
          refine ⟨vin (by omega) (by decide), next N2 _ rv2 (fun a j hs => Sm_i hN2 hs) (fun a j ha => Sm_j hN2 ha) hN2.2.2.1 hN2.2.2.2.1 hN2.2.2.2.2 ?_⟩
          rw [hval k (by omega), show f_due (mI N1) = f_due (mI N) by rw [← dp_due, hdv, dp_due]]
        · exact absurd n3 e
      · rcases hkind with ⟨_, ht, hval⟩ | ⟨e, _⟩ | ⟨e, _⟩
        · have hix2 : (300 : Int32) * nI t + nI k = nI (300 * t + k) := ixm 300 t k rfl
          rw [hix, hix2, wn38 w1, wn27 w1, nI_clamp (by omega), nI_clamp (by omega), n1]
          refine ⟨wr27 w1, vin (by omega) (by decide), vin (by omega) (by decide), next N1 _ rv1 (fun _ _ _ => rfl) (fun _ _ _ => rfl) rfl rfl rfl ?_⟩
          rw [hval k (by omega), hrow 88 _ (by omega) (by omega)]
        · rw [e] at n2; exact absurd n2 (by decide)
        · exact absurd n2 e
  refine key z 0 (by omega) _ (RelV_fr (Fr_sI (Fr_sI (Fr_sI (Fr_r _ _) (by unfold FYm; omega) _ _) (by unfold FYm; omega) _ _) (by unfold FYm; omega) _ _) rfl rfl rv) (fun _ _ _ => rfl) (fun a j _ => ?_) rfl rfl rfl
  rw [if_neg (by omega)]; rfl
end S72
