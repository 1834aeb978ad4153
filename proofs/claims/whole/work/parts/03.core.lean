/-! OWN LAYER, 2: the world of cells as a memory -/
abbrev iV (x : Int32) : o_V := Sum.inl x
abbrev jV (x : Int64) : o_V := Sum.inr (Sum.inl x)
abbrev rV (o : Option Nat) : o_V := Sum.inr (Sum.inr o)
def o_cv (ad : Nat → Nat) (v : o_V) : Value := match v with
  | .inl x => .int x
  | .inr (.inl x) => .long x
  | .inr (.inr o) => va_rf (o.map ad)
def o_cat (v : o_V) : Nat := match v with
  | .inl _ => 1
  | .inr (.inl _) => 2
  | .inr (.inr _) => 1
theorem o_cv_cat (ad : Nat → Nat) (v : o_V) : (o_cv ad v).category = o_cat v := by
  rcases v with x | x | o
  · rfl
  · rfl
  · cases o <;> rfl
def mI (M : o_M) (c j : Nat) : Int32 := M.1 c j
def mJ (M : o_M) (c j : Nat) : Int64 := M.2.1 c j
def mR (M : o_M) (c j : Nat) : Option Nat := M.2.2.1 c j
def mN (M : o_M) (c : Nat) : Nat := M.2.2.2.1 c
def mL (M : o_M) : List Nat := M.2.2.2.2
def sI (M : o_M) (c j : Nat) (x : Int32) : o_M := (fun a b => if a = c ∧ b = j then x else M.1 a b, M.2)
def sJ (M : o_M) (c j : Nat) (x : Int64) : o_M := (M.1, fun a b => if a = c ∧ b = j then x else M.2.1 a b, M.2.2)
def sR (M : o_M) (c j : Nat) (o : Option Nat) : o_M := (M.1, M.2.1, fun a b => if a = c ∧ b = j then o else M.2.2.1 a b, M.2.2.2)
def sA (M : o_M) (c : Nat) (f : Nat → Int32) : o_M := (fun a b => if a = c then f b else M.1 a b, M.2)
def nW (M : o_M) (id len : Nat) : o_M := (fun a b => if a = id then 0 else M.1 a b, fun a b => if a = id then 0 else M.2.1 a b, fun a b => if a = id then none else M.2.2.1 a b, fun a => if a = id then len else M.2.2.2.1 a, M.2.2.2.2 ++ [id])
theorem mI_sI (M : o_M) (c j : Nat) (x : Int32) (a b : Nat) : mI (sI M c j x) a b = if a = c ∧ b = j then x else mI M a b := rfl
theorem mJ_sI (M : o_M) (c j : Nat) (x : Int32) (a b : Nat) : mJ (sI M c j x) a b = mJ M a b := rfl
theorem mR_sI (M : o_M) (c j : Nat) (x : Int32) (a b : Nat) : mR (sI M c j x) a b = mR M a b := rfl
theorem mN_sI (M : o_M) (c j : Nat) (x : Int32) (a : Nat) : mN (sI M c j x) a = mN M a := rfl
theorem mL_sI (M : o_M) (c j : Nat) (x : Int32) : mL (sI M c j x) = mL M := rfl
theorem mI_sJ (M : o_M) (c j : Nat) (x : Int64) (a b : Nat) : mI (sJ M c j x) a b = mI M a b := rfl
theorem mJ_sJ (M : o_M) (c j : Nat) (x : Int64) (a b : Nat) : mJ (sJ M c j x) a b = if a = c ∧ b = j then x else mJ M a b := rfl
theorem mR_sJ (M : o_M) (c j : Nat) (x : Int64) (a b : Nat) : mR (sJ M c j x) a b = mR M a b := rfl
theorem mN_sJ (M : o_M) (c j : Nat) (x : Int64) (a : Nat) : mN (sJ M c j x) a = mN M a := rfl
theorem mL_sJ (M : o_M) (c j : Nat) (x : Int64) : mL (sJ M c j x) = mL M := rfl
theorem mI_sR (M : o_M) (c j : Nat) (x : Option Nat) (a b : Nat) : mI (sR M c j x) a b = mI M a b := rfl
theorem mJ_sR (M : o_M) (c j : Nat) (x : Option Nat) (a b : Nat) : mJ (sR M c j x) a b = mJ M a b := rfl
theorem mR_sR (M : o_M) (c j : Nat) (x : Option Nat) (a b : Nat) : mR (sR M c j x) a b = if a = c ∧ b = j then x else mR M a b := rfl
theorem mN_sR (M : o_M) (c j : Nat) (x : Option Nat) (a : Nat) : mN (sR M c j x) a = mN M a := rfl
theorem mL_sR (M : o_M) (c j : Nat) (x : Option Nat) : mL (sR M c j x) = mL M := rfl
theorem mI_sA (M : o_M) (c : Nat) (f : Nat → Int32) (a b : Nat) : mI (sA M c f) a b = if a = c then f b else mI M a b := rfl
theorem mJ_sA (M : o_M) (c : Nat) (f : Nat → Int32) (a b : Nat) : mJ (sA M c f) a b = mJ M a b := rfl
theorem mR_sA (M : o_M) (c : Nat) (f : Nat → Int32) (a b : Nat) : mR (sA M c f) a b = mR M a b := rfl
theorem mN_sA (M : o_M) (c : Nat) (f : Nat → Int32) (a : Nat) : mN (sA M c f) a = mN M a := rfl
theorem mL_sA (M : o_M) (c : Nat) (f : Nat → Int32) : mL (sA M c f) = mL M := rfl
theorem mI_nW (M : o_M) (c n a b : Nat) : mI (nW M c n) a b = if a = c then 0 else mI M a b := rfl
theorem mJ_nW (M : o_M) (c n a b : Nat) : mJ (nW M c n) a b = if a = c then 0 else mJ M a b := rfl
theorem mR_nW (M : o_M) (c n a b : Nat) : mR (nW M c n) a b = if a = c then none else mR M a b := rfl
theorem mN_nW (M : o_M) (c n a : Nat) : mN (nW M c n) a = if a = c then n else mN M a := rfl
theorem mL_nW (M : o_M) (c n : Nat) : mL (nW M c n) = mL M ++ [c] := rfl
/-- the kind of a slot: 0 ints, 1 longs, 2 references -/
def o_fk (t : FieldType) : Nat := match t with
  | .long => 1
  | .object _ => 2
  | .array _ => 2
  | _ => 0
def o_fv (M : o_M) (id k : Nat) (t : FieldType) : o_V := match o_fk t with
  | 1 => jV (mJ M id k)
  | 2 => rV (mR M id k)
  | _ => iV (mI M id k)
def o_fs (ad : Nat → Nat) (M : o_M) (id ci : Nat) : List Value := (List.range (o_nf ci)).map fun k => o_cv ad (o_fv M id k (o_fy ci k))
def o_ar (ad : Nat → Nat) (M : o_M) (id : Nat) (t : FieldType) : vp_A := (mN M id, match o_fk t with
  | 1 => .inr (.inl (mJ M id))
  | 2 => .inr (.inr (.inr (.inr (fun j => (mR M id j).map ad))))
  | _ => .inl (mI M id))
def o_en (ad : Nat → Nat) (ca : Nat → ClassId) (M : o_M) (id : Nat) : va_E := match o_ty id with
  | .inl ci => .inr (ci, o_fs ad M id ci)
  | .inr t => .inl (ca id, o_ar ad M id t)
def o_w (ad : Nat → Nat) (ca : Nat → ClassId) (M : o_M) : va_W := (mL M).map fun id => (ad id, o_en ad ca M id)
def o_li (L : List Nat) (id : Nat) : Prop := id < 16 ∨ id ∈ L
def o_lv (L : List Nat) (v : o_V) : Prop := ∀ id, v = rV (some id) → o_li L id
abbrev o_A (base : Nat) : Nat → Prop := fun q => base ≤ q
def o_ac (U : State) (ca : Nat → ClassId) (id : Nat) : Prop := ∀ t, o_ty id = .inr t → ArrOfT U (ca id) t ∧ va_RA U (ca id) t
def o_wd (base : Nat) (D : va_G) (U : State) (ad : Nat → Nat) (ca : Nat → ClassId) (M : o_M) (H : Heap) : Prop :=
  va_P D o_cl (o_w ad ca M) H ∧ va_D (o_A base) (o_w ad ca M) ∧ (∀ id ∈ mL M, ∀ j a, mR M id j = some a → o_li (mL M) a) ∧ ∀ id ∈ mL M, 16 ≤ id ∧ o_ac U ca id
theorem o_fs_get {ad : Nat → Nat} {M : o_M} {id ci k : Nat} (hk : k < o_nf ci) : (o_fs ad M id ci)[k]? = some (o_cv ad (o_fv M id k (o_fy ci k))) := by
  unfold o_fs
  rw [List.getElem?_map, List.getElem?_range hk]; rfl
theorem o_fs_len {ad : Nat → Nat} {M : o_M} {id ci : Nat} : (o_fs ad M id ci).length = o_nf ci := by simp [o_fs]
theorem o_fs_set {ad : Nat → Nat} {M M' : o_M} {id ci k : Nat} {v : Value} (hk : k < o_nf ci) (h1 : o_cv ad (o_fv M' id k (o_fy ci k)) = v) (h2 : ∀ j, j < o_nf ci → j ≠ k → o_fv M' id j (o_fy ci j) = o_fv M id j (o_fy ci j)) : (o_fs ad M id ci).set k v = o_fs ad M' id ci := by
  apply List.ext_getElem?
  intro j
  by_cases hj : j < o_nf ci
  · rw [o_fs_get hj]
    by_cases hjk : j = k
    · subst hjk
      rw [List.getElem?_set_self (by rw [o_fs_len]; exact hj), h1]
    · rw [List.getElem?_set_ne (fun h => hjk h.symm), o_fs_get hj, h2 j hj hjk]
  · rw [List.getElem?_eq_none (by rw [List.length_set, o_fs_len]; omega), List.getElem?_eq_none (by rw [o_fs_len]; omega)]
theorem o_w_get {ad : Nat → Nat} {ca : Nat → ClassId} {M : o_M} {q id : Nat} (h : (mL M)[q]? = some id) : (o_w ad ca M)[q]? = some (ad id, o_en ad ca M id) := by
  unfold o_w
  rw [List.getElem?_map, h]; rfl
theorem o_w_inv {ad : Nat → Nat} {ca : Nat → ClassId} {M : o_M} {q : Nat} {x : Nat × va_E} (h : (o_w ad ca M)[q]? = some x) : ∃ id, (mL M)[q]? = some id ∧ x = (ad id, o_en ad ca M id) := by
  unfold o_w at h
  rw [List.getElem?_map] at h
  cases hq : (mL M)[q]? with
  | none => rw [hq] at h; cases h
  | some id => rw [hq] at h; exact ⟨id, rfl, (Option.some.inj h).symm⟩
theorem o_w_at {ad : Nat → Nat} {ca : Nat → ClassId} {M : o_M} {id : Nat} (h : id ∈ mL M) : ∃ q : Nat, (mL M)[q]? = some id ∧ (o_w ad ca M)[q]? = some (ad id, o_en ad ca M id) := by
  obtain ⟨q, hq⟩ := List.getElem?_of_mem h
  exact ⟨q, hq, o_w_get hq⟩
/-- one id, one place -/
theorem o_wd_one {A : Nat → Prop} {ad : Nat → Nat} {ca : Nat → ClassId} {M : o_M} (hD : va_D A (o_w ad ca M)) {i j a b : Nat} (hi : (mL M)[i]? = some a) (hj : (mL M)[j]? = some b) (hab : ad a = ad b) : i = j := hD.1 i j _ _ (o_w_get hi) (o_w_get hj) hab
theorem o_w_set {A : Nat → Prop} {ad : Nat → Nat} {ca : Nat → ClassId} {M M' : o_M} {id q : Nat} (hD : va_D A (o_w ad ca M)) (hL : mL M' = mL M) (hq : (mL M)[q]? = some id) (ho : ∀ a ∈ mL M, a ≠ id → o_en ad ca M' a = o_en ad ca M a) : (o_w ad ca M).set q (ad id, o_en ad ca M' id) = o_w ad ca M' := by
  apply List.ext_getElem?
  intro j
  have hq' := (List.getElem?_eq_some_iff.mp (o_w_get (ad := ad) (ca := ca) hq)).1
  by_cases hj : j = q
  · subst hj
    rw [List.getElem?_set_self hq', o_w_get (by rw [hL]; exact hq)]
  · rw [List.getElem?_set_ne (fun h => hj h.symm)]
    cases hx : (mL M)[j]? with
    | none =>
      have h1 : (mL M).length ≤ j := List.getElem?_eq_none_iff.mp hx
      rw [List.getElem?_eq_none (by simp only [o_w, List.length_map]; exact h1), List.getElem?_eq_none (by simp only [o_w, List.length_map, hL]; exact h1)]
    | some a =>
      rw [o_w_get hx, o_w_get (by rw [hL]; exact hx), ho a (List.mem_of_getElem? hx) (fun h => hj (o_wd_one hD hx hq (by rw [h])))]
theorem o_lv_i (L : List Nat) (x : Int32) : o_lv L (iV x) := fun id h => by cases h
theorem o_lv_j (L : List Nat) (x : Int64) : o_lv L (jV x) := fun id h => by cases h
theorem o_lv_n (L : List Nat) : o_lv L (rV none) := fun id h => by cases h
theorem o_lv_r {L : List Nat} {o : Option Nat} (h : ∀ a, o = some a → o_li L a) : o_lv L (rV o) := fun id e => h id (by cases e; rfl)
theorem o_lv_of {L : List Nat} {a : Nat} (h : o_lv L (rV (some a))) : o_li L a := h a rfl
theorem o_li_in {L : List Nat} {a : Nat} (h : o_li L a) (h16 : 16 ≤ a) : a ∈ L := by
  rcases h with h | h
  · omega
  · exact h
theorem o_lv_mono {L L' : List Nat} (hL : ∀ a ∈ L, a ∈ L') {v : o_V} (h : o_lv L v) : o_lv L' v := fun id e => by
  rcases h id e with h1 | h1
  · exact Or.inl h1
  · exact Or.inr (hL id h1)
/-- two maps of ids that agree on what lives give the same value -/
theorem o_cv_eq {L : List Nat} {ad ad' : Nat → Nat} (h : ∀ id, o_li L id → ad' id = ad id) {v : o_V} (hv : o_lv L v) : o_cv ad' v = o_cv ad v := by
  rcases v with x | x | o
  · rfl
  · rfl
  · cases o with
    | none => rfl
    | some a => simp only [o_cv, Option.map_some, h a (hv a rfl)]
theorem o_mapR {M : o_M} {ad ad' : Nat → Nat} (h : ∀ id, o_li (mL M) id → ad' id = ad id) (hw : ∀ id ∈ mL M, ∀ j a, mR M id j = some a → o_li (mL M) a) {id : Nat} (hid : id ∈ mL M) (j : Nat) : (mR M id j).map ad' = (mR M id j).map ad := by
  cases hr : mR M id j with
  | none => rfl
  | some a => simp only [Option.map_some, h a (hw id hid j a hr)]
theorem o_fv_lv {M : o_M} {id k : Nat} {t : FieldType} (hw : ∀ id ∈ mL M, ∀ j a, mR M id j = some a → o_li (mL M) a) (hid : id ∈ mL M) : o_lv (mL M) (o_fv M id k t) := by
  unfold o_fv
  split
  · exact o_lv_j _ _
  · exact o_lv_r (hw id hid k)
  · exact o_lv_i _ _
/-- a cell that a making leaves alone reads the same -/
theorem o_en_same {M M' : o_M} {ad ad' : Nat → Nat} {ca ca' : Nat → ClassId} {id : Nat} (hid : id ∈ mL M) (hw : ∀ id ∈ mL M, ∀ j a, mR M id j = some a → o_li (mL M) a) (had : ∀ id, o_li (mL M) id → ad' id = ad id) (hca : ca' id = ca id) (h1 : ∀ j, mI M' id j = mI M id j) (h2 : ∀ j, mJ M' id j = mJ M id j) (h3 : ∀ j, mR M' id j = mR M id j) (h4 : mN M' id = mN M id) : o_en ad' ca' M' id = o_en ad ca M id := by
  unfold o_en
  split
  · next ci _ =>
    have : o_fs ad' M' id ci = o_fs ad M id ci := by
      unfold o_fs
      apply List.map_congr_left
      intro k _
      have e : o_fv M' id k (o_fy ci k) = o_fv M id k (o_fy ci k) := by unfold o_fv; rw [h1, h2, h3]
      rw [e]
      exact o_cv_eq had (o_fv_lv hw hid)
    rw [this]
  · next t _ =>
    have : o_ar ad' M' id t = o_ar ad M id t := by
      unfold o_ar
      have e1 : mI M' id = mI M id := funext h1
      have e2 : mJ M' id = mJ M id := funext h2
      have e3 : (fun j => (mR M' id j).map ad') = fun j => (mR M id j).map ad := funext fun j => by rw [h3]; exact o_mapR had hw hid j
      rw [h4, e1, e2, e3]
    rw [this, hca]
