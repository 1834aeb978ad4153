/-! the view: what no scratch touches; the relation between the class and the model -/
theorem ieq {x y : Int32} : x = y ↔ x.toInt = y.toInt := Int32.toInt_inj.symm
theorem nI_inj {a b : Nat} (ha : a < 2 ^ 31) (hb : b < 2 ^ 31) (h : nI a = nI b) : a = b := by (simp (disch := omega) only [ile, ilt, ieq, nI_toInt, Int32.reduceToInt] at h; omega)
theorem nI_ne1 {a : Nat} (ha : a < 2 ^ 31) : ¬ nI a = -1 := fun h => by (simp (disch := omega) only [ile, ilt, ieq, nI_toInt, Int32.reduceToInt] at h; omega)
/-- scratch: ints that no promise speaks of -/
def scr (id j : Nat) : Bool := (decide (23 ≤ id) && decide (id ≤ 40)) || (decide (112 ≤ id) && decide (id ≤ 118)) || (id == 60 && decide (42 ≤ j) && decide (j ≤ 49))
def pv (M : o_M) : o_v := fun id j => if scr id j then 0 else mI M id j
def pj (M : o_M) : Nat → Nat → Int64 := fun id j => if id = 27 ∨ id = 28 ∨ id = 111 then 0 else mJ M id j
def Sm (M N : o_M) : Prop := pv N = pv M ∧ pj N = pj M ∧ mR N = mR M ∧ mN N = mN M ∧ mL N = mL M
theorem Sm_r (M : o_M) : Sm M M := ⟨rfl, rfl, rfl, rfl, rfl⟩
theorem Sm_t {M N O : o_M} (h : Sm M N) (g : Sm N O) : Sm M O := ⟨g.1.trans h.1, g.2.1.trans h.2.1, g.2.2.1.trans h.2.2.1, g.2.2.2.1.trans h.2.2.2.1, g.2.2.2.2.trans h.2.2.2.2⟩
theorem Sm_sI (M : o_M) {c j : Nat} (h : scr c j = true) (x : Int32) : Sm M (sI M c j x) := by
  refine ⟨?_, rfl, rfl, rfl, rfl⟩
  funext a b
  unfold pv
  by_cases hs : scr a b = true
  · rw [if_pos hs, if_pos hs]
  · rw [if_neg hs, if_neg hs, mI_sI, if_neg (fun z => hs (by rw [z.1, z.2]; exact h))]
theorem Sm_sA (M : o_M) {c : Nat} (h : ∀ j, scr c j = true) (x : Nat → Int32) : Sm M (sA M c x) := by
  refine ⟨?_, rfl, rfl, rfl, rfl⟩
  funext a b
  unfold pv
  by_cases hs : scr a b = true
  · rw [if_pos hs, if_pos hs]
  · rw [if_neg hs, if_neg hs, mI_sA, if_neg (fun z => hs (by rw [z]; exact h b))]
theorem Sm_sJ (M : o_M) {c : Nat} (h : c = 27 ∨ c = 28 ∨ c = 111) (j : Nat) (x : Int64) : Sm M (sJ M c j x) := by
  refine ⟨rfl, ?_, rfl, rfl, rfl⟩
  funext a b
  unfold pj
  by_cases hs : a = 27 ∨ a = 28 ∨ a = 111
  · rw [if_pos hs, if_pos hs]
  · rw [if_neg hs, if_neg hs, mJ_sJ, if_neg (fun z => hs (by rw [z.1]; exact h))]
theorem Sm_i {M N : o_M} (h : Sm M N) {id j : Nat} (hs : scr id j = false) : mI N id j = mI M id j := by
  have e := congrFun (congrFun h.1 id) j
  unfold pv at e
  rw [if_neg (by rw [hs]; decide), if_neg (by rw [hs]; decide)] at e
  exact e
theorem Sm_row {M N : o_M} (h : Sm M N) {id : Nat} (hs : ∀ j, scr id j = false) : mI N id = mI M id := funext fun j => Sm_i h (hs j)
theorem Sm_j {M N : o_M} (h : Sm M N) {id j : Nat} (hs : ¬ (id = 27 ∨ id = 28 ∨ id = 111)) : mJ N id j = mJ M id j := by
  have e := congrFun (congrFun h.2.1 id) j
  unfold pj at e
  rw [if_neg hs, if_neg hs] at e
  exact e
theorem Sm_wM {M N : o_M} (h : Sm M N) (hw : wM M) : wM N := fun p hp => by rw [h.2.2.1, h.2.2.2.1]; exact hw p hp
/-- ids of made objects are no scratch -/
theorem scr_o {t i j : Nat} (h1 : 41 ≤ t) (h2 : t ≤ 59) : scr (t + 128 * i) j = false := by
  unfold scr
  have e1 : decide (t + 128 * i ≤ 40) = false := by simp; omega
  have e2 : (decide (112 ≤ t + 128 * i) && decide (t + 128 * i ≤ 118)) = false := by simp; omega
  have e3 : (t + 128 * i == 60) = false := by simp; omega
  rw [e1, e2, e3]; simp
/-! frames of the reckonings -/
theorem p_played (M : o_M) : f_played (pv M) = f_played (mI M) := rfl
theorem p_awayN (M : o_M) : f_awayN (pv M) = f_awayN (mI M) := rfl
theorem p_away (M : o_M) : f_away (pv M) = f_away (mI M) := rfl
theorem p_chairN (M : o_M) (s : Nat) (p : Int32) : ∀ m c, f_chairN (pv M) s p m c = f_chairN (mI M) s p m c
  | 0, _ => rfl
  | m + 1, c => by simp only [f_chairN, p_chairN M s p m (c + 1)]; rfl
theorem p_chairOf (M : o_M) : f_chairOf (pv M) = f_chairOf (mI M) := by funext s p; unfold f_chairOf; rw [p_chairN]; rfl
theorem p_needOf (M : o_M) : f_needOf (pv M) = f_needOf (mI M) := rfl
theorem p_mx (M : o_M) (s i : Nat) (n0 : Int32) : ∀ k, f_mx (pv M) s i n0 k = f_mx (mI M) s i n0 k
  | 0 => rfl
  | k + 1 => by simp only [f_mx, p_mx M s i n0 k]; rfl
theorem p_need (M : o_M) : f_need (pv M) = f_need (mI M) := by funext s i m; unfold f_need; rw [p_mx]; rfl
theorem p_chN (M : o_M) (s : Nat) (more : Option Nat) : ∀ k, f_chN (pv M) s more k = f_chN (mI M) s more k
  | 0 => rfl
  | k + 1 => by simp only [f_chN, p_chN M s more k, p_need]
theorem p_chairs (M : o_M) : f_chairs (pv M) = f_chairs (mI M) := by funext s m; unfold f_chairs; rw [p_chN]
theorem p_begins (M : o_M) : f_begins (pv M) = f_begins (mI M) := rfl
theorem p_ends (M : o_M) : f_ends (pv M) = f_ends (mI M) := rfl
theorem p_textOn (M : o_M) : f_textOn (pv M) = f_textOn (mI M) := rfl
theorem p_week (M : o_M) : f_week (pv M) = f_week (mI M) := by
  funext s p n
  unfold f_week
  have : f_wkS (pv M) s p = f_wkS (mI M) s p := by funext k x; unfold f_wkS; rw [p_chairOf]; rfl
  rw [this]
theorem p_rest (M : o_M) : f_rest (pv M) = f_rest (mI M) := by
  funext s p n
  unfold f_rest
  have : f_rsS (pv M) s p = f_rsS (mI M) s p := by funext k x; unfold f_rsS; rw [p_chairOf]; rfl
  rw [this]
theorem p_named (M : o_M) : f_named (pv M) = f_named (mI M) := by funext n name s p i; unfold f_named; rw [p_week, p_rest]; rfl
