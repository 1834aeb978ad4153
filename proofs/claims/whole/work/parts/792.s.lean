/-! the beginning: the model -/
section S792
variable {l : Launch} {M N : o_M}
/-- the model's rows as far as id u are made -/
def Gst (N : o_M) (u : Nat) (M : o_M) : Prop :=
  (∀ x ∈ mL N, ¬ (60 ≤ x ∧ x ≤ 127)) ∧ (∀ x ∈ mL M, x ∈ mL N ∨ (60 ≤ x ∧ x < u)) ∧
  (∀ a, ¬ (60 ≤ a ∧ a ≤ 118) → (∀ j, mI M a j = mI N a j) ∧ (∀ j, mJ M a j = mJ N a j) ∧ (∀ j, mR M a j = mR N a j) ∧ mN M a = mN N a) ∧
  (∀ j, mI M 60 j = 0) ∧
  (∀ p ∈ o_m60, 61 + p.1 < u → mR M 60 p.1 = some (61 + p.1) ∧ mN M (61 + p.1) = p.2 ∧ (p.1 ≠ 40 → p.1 ≠ 41 → ∀ j, mI M (61 + p.1) j = 0)) ∧
  (101 < u → ∀ j, j < 28 → mI M 101 j = nI (fbt j)) ∧ (102 < u → ∀ j, j < 81 → mI M 102 j = nI (wdL.getD j 0))
theorem m60_u : ∀ p ∈ o_m60, ∀ p' ∈ o_m60, p.1 = p'.1 → p = p' := by decide +kernel
theorem m60_b : ∀ p ∈ o_m60, 1 ≤ p.1 ∧ p.1 ≤ 57 := by decide
theorem Gst_n {u f len : Nat} (g : Gst N u M) (hm : (f, len) ∈ o_m60) (hu : u ≤ 61 + f) (hb : ∀ p ∈ o_m60, u ≤ 61 + p.1 → 61 + f ≤ 61 + p.1) (h1 : 61 + f ≠ 101) (h2 : 61 + f ≠ 102) : Gst N (61 + f + 1) (sR (nW M (61 + f) len) 60 f (some (61 + f))) := by
  obtain ⟨g1, g2, g3, g4, g5, g6, g7⟩ := g
  have hf := m60_b _ hm
  dsimp only at hf
  refine ⟨g1, fun x hx => ?_, fun a ha => ?_, fun j => ?_, fun p hp hpu => ?_, fun h j hj => ?_, fun h j hj => ?_⟩
  · replace hx : x ∈ mL M ++ [61 + f] := hx
    rcases List.mem_append.mp hx with hx | hx
    · rcases g2 x hx with h | h
      · exact Or.inl h
      · exact Or.inr (by omega)
    · have := List.mem_singleton.mp hx
      exact Or.inr (by omega)
  · obtain ⟨a1, a2, a3, a4⟩ := g3 a ha
    exact ⟨fun j => by simp (disch := omega) only [true_and, mI_sI_1, mI_sI_2, mI_sI_3, mI_nW_1, mI_nW_2, mI_sR, mI_sJ, mI_sA_1, mI_sA_2, mR_sI, mR_sJ, mR_sA, mR_sR_1, mR_sR_2, mR_sR_3, mR_nW_1, mR_nW_2, mN_sI, mN_sJ, mN_sR, mN_sA, mN_nW_1, mN_nW_2, mJ_sI, mJ_sR, mJ_sA, mJ_sJ_1, mJ_sJ_2, mJ_sJ_3, mJ_nW_1, mJ_nW_2]; exact a1 j, fun j => by simp (disch := omega) only [true_and, mI_sI_1, mI_sI_2, mI_sI_3, mI_nW_1, mI_nW_2, mI_sR, mI_sJ, mI_sA_1, mI_sA_2, mR_sI, mR_sJ, mR_sA, mR_sR_1, mR_sR_2, mR_sR_3, mR_nW_1, mR_nW_2, mN_sI, mN_sJ, mN_sR, mN_sA, mN_nW_1, mN_nW_2, mJ_sI, mJ_sR, mJ_sA, mJ_sJ_1, mJ_sJ_2, mJ_sJ_3, mJ_nW_1, mJ_nW_2]; exact a2 j, fun j => by simp (disch := omega) only [true_and, mI_sI_1, mI_sI_2, mI_sI_3, mI_nW_1, mI_nW_2, mI_sR, mI_sJ, mI_sA_1, mI_sA_2, mR_sI, mR_sJ, mR_sA, mR_sR_1, mR_sR_2, mR_sR_3, mR_nW_1, mR_nW_2, mN_sI, mN_sJ, mN_sR, mN_sA, mN_nW_1, mN_nW_2, mJ_sI, mJ_sR, mJ_sA, mJ_sJ_1, mJ_sJ_2, mJ_sJ_3, mJ_nW_1, mJ_nW_2]; exact a3 j, by simp (disch := omega) only [true_and, mI_sI_1, mI_sI_2, mI_sI_3, mI_nW_1, mI_nW_2, mI_sR, mI_sJ, mI_sA_1, mI_sA_2, mR_sI, mR_sJ, mR_sA, mR_sR_1, mR_sR_2, mR_sR_3, mR_nW_1, mR_nW_2, mN_sI, mN_sJ, mN_sR, mN_sA, mN_nW_1, mN_nW_2, mJ_sI, mJ_sR, mJ_sA, mJ_sJ_1, mJ_sJ_2, mJ_sJ_3, mJ_nW_1, mJ_nW_2]; exact a4⟩
  · simp (disch := omega) only [true_and, mI_sI_1, mI_sI_2, mI_sI_3, mI_nW_1, mI_nW_2, mI_sR, mI_sJ, mI_sA_1, mI_sA_2, mR_sI, mR_sJ, mR_sA, mR_sR_1, mR_sR_2, mR_sR_3, mR_nW_1, mR_nW_2, mN_sI, mN_sJ, mN_sR, mN_sA, mN_nW_1, mN_nW_2, mJ_sI, mJ_sR, mJ_sA, mJ_sJ_1, mJ_sJ_2, mJ_sJ_3, mJ_nW_1, mJ_nW_2]; exact g4 j
  · by_cases e : p.1 = f
    · have := m60_u p hp _ hm e
      subst this
      dsimp only
      exact ⟨by simp (disch := omega) only [true_and, mI_sI_1, mI_sI_2, mI_sI_3, mI_nW_1, mI_nW_2, mI_sR, mI_sJ, mI_sA_1, mI_sA_2, mR_sI, mR_sJ, mR_sA, mR_sR_1, mR_sR_2, mR_sR_3, mR_nW_1, mR_nW_2, mN_sI, mN_sJ, mN_sR, mN_sA, mN_nW_1, mN_nW_2, mJ_sI, mJ_sR, mJ_sA, mJ_sJ_1, mJ_sJ_2, mJ_sJ_3, mJ_nW_1, mJ_nW_2], by simp (disch := omega) only [true_and, mI_sI_1, mI_sI_2, mI_sI_3, mI_nW_1, mI_nW_2, mI_sR, mI_sJ, mI_sA_1, mI_sA_2, mR_sI, mR_sJ, mR_sA, mR_sR_1, mR_sR_2, mR_sR_3, mR_nW_1, mR_nW_2, mN_sI, mN_sJ, mN_sR, mN_sA, mN_nW_1, mN_nW_2, mJ_sI, mJ_sR, mJ_sA, mJ_sJ_1, mJ_sJ_2, mJ_sJ_3, mJ_nW_1, mJ_nW_2], fun _ _ j => by simp (disch := omega) only [true_and, mI_sI_1, mI_sI_2, mI_sI_3, mI_nW_1, mI_nW_2, mI_sR, mI_sJ, mI_sA_1, mI_sA_2, mR_sI, mR_sJ, mR_sA, mR_sR_1, mR_sR_2, mR_sR_3, mR_nW_1, mR_nW_2, mN_sI, mN_sJ, mN_sR, mN_sA, mN_nW_1, mN_nW_2, mJ_sI, mJ_sR, mJ_sA, mJ_sJ_1, mJ_sJ_2, mJ_sJ_3, mJ_nW_1, mJ_nW_2]⟩
    · have hlt : 61 + p.1 < u := by
        by_cases c : 61 + p.1 < u
        · exact c
        · have := hb p hp (by omega); omega
      have hp1 := m60_b p hp
      obtain ⟨b1, b2, b3⟩ := g5 p hp hlt
      exact ⟨by simp (disch := omega) only [true_and, mI_sI_1, mI_sI_2, mI_sI_3, mI_nW_1, mI_nW_2, mI_sR, mI_sJ, mI_sA_1, mI_sA_2, mR_sI, mR_sJ, mR_sA, mR_sR_1, mR_sR_2, mR_sR_3, mR_nW_1, mR_nW_2, mN_sI, mN_sJ, mN_sR, mN_sA, mN_nW_1, mN_nW_2, mJ_sI, mJ_sR, mJ_sA, mJ_sJ_1, mJ_sJ_2, mJ_sJ_3, mJ_nW_1, mJ_nW_2]; exact b1, by simp (disch := omega) only [true_and, mI_sI_1, mI_sI_2, mI_sI_3, mI_nW_1, mI_nW_2, mI_sR, mI_sJ, mI_sA_1, mI_sA_2, mR_sI, mR_sJ, mR_sA, mR_sR_1, mR_sR_2, mR_sR_3, mR_nW_1, mR_nW_2, mN_sI, mN_sJ, mN_sR, mN_sA, mN_nW_1, mN_nW_2, mJ_sI, mJ_sR, mJ_sA, mJ_sJ_1, mJ_sJ_2, mJ_sJ_3, mJ_nW_1, mJ_nW_2]; exact b2, fun c1 c2 j => by simp (disch := omega) only [true_and, mI_sI_1, mI_sI_2, mI_sI_3, mI_nW_1, mI_nW_2, mI_sR, mI_sJ, mI_sA_1, mI_sA_2, mR_sI, mR_sJ, mR_sA, mR_sR_1, mR_sR_2, mR_sR_3, mR_nW_1, mR_nW_2, mN_sI, mN_sJ, mN_sR, mN_sA, mN_nW_1, mN_nW_2, mJ_sI, mJ_sR, mJ_sA, mJ_sJ_1, mJ_sJ_2, mJ_sJ_3, mJ_nW_1, mJ_nW_2]; exact b3 c1 c2 j⟩
  · have h101 : 101 < u := by
      by_cases c : 101 < u
      · exact c
      · have := hb (40, 28) (by decide) (by dsimp only; omega); dsimp only at this; omega
    simp (disch := omega) only [true_and, mI_sI_1, mI_sI_2, mI_sI_3, mI_nW_1, mI_nW_2, mI_sR, mI_sJ, mI_sA_1, mI_sA_2, mR_sI, mR_sJ, mR_sA, mR_sR_1, mR_sR_2, mR_sR_3, mR_nW_1, mR_nW_2, mN_sI, mN_sJ, mN_sR, mN_sA, mN_nW_1, mN_nW_2, mJ_sI, mJ_sR, mJ_sA, mJ_sJ_1, mJ_sJ_2, mJ_sJ_3, mJ_nW_1, mJ_nW_2]; exact g6 h101 j hj
  · have h102 : 102 < u := by
      by_cases c : 102 < u
      · exact c
      · have := hb (41, 81) (by decide) (by dsimp only; omega); dsimp only at this; omega
    simp (disch := omega) only [true_and, mI_sI_1, mI_sI_2, mI_sI_3, mI_nW_1, mI_nW_2, mI_sR, mI_sJ, mI_sA_1, mI_sA_2, mR_sI, mR_sJ, mR_sA, mR_sR_1, mR_sR_2, mR_sR_3, mR_nW_1, mR_nW_2, mN_sI, mN_sJ, mN_sR, mN_sA, mN_nW_1, mN_nW_2, mJ_sI, mJ_sR, mJ_sA, mJ_sJ_1, mJ_sJ_2, mJ_sJ_3, mJ_nW_1, mJ_nW_2]; exact g7 h102 j hj
theorem Gst_f {u : Nat} (g : Gst N u M) {x : Nat} (h : u ≤ x) (hx : x ≤ 118) (h60 : 60 ≤ x) : x ∉ mL M := fun hm => by
  rcases g.2.1 x hm with h1 | h1
  · have := g.1 x h1; omega
  · omega
/-- a row that is being written -/
def Gpd (N : o_M) (u id len : Nat) (w : Nat → Int32) (k : Nat) (M : o_M) : Prop := ∃ M', Gst N u M' ∧ mN M id = len ∧ mL M = mL M' ++ [id] ∧ (∀ a, a ≠ id → (∀ j, mI M a j = mI M' a j) ∧ (∀ j, mJ M a j = mJ M' a j) ∧ (∀ j, mR M a j = mR M' a j) ∧ mN M a = mN M' a) ∧ ∀ j, j < k → mI M id j = w j
theorem Gpd_0 {u id len : Nat} {w : Nat → Int32} (g : Gst N u M) : Gpd N u id len w 0 (nW M id len) := ⟨M, g, by simp (disch := omega) only [true_and, mI_sI_1, mI_sI_2, mI_sI_3, mI_nW_1, mI_nW_2, mI_sR, mI_sJ, mI_sA_1, mI_sA_2, mR_sI, mR_sJ, mR_sA, mR_sR_1, mR_sR_2, mR_sR_3, mR_nW_1, mR_nW_2, mN_sI, mN_sJ, mN_sR, mN_sA, mN_nW_1, mN_nW_2, mJ_sI, mJ_sR, mJ_sA, mJ_sJ_1, mJ_sJ_2, mJ_sJ_3, mJ_nW_1, mJ_nW_2], rfl, fun a ha => ⟨fun j => by simp (disch := omega) only [true_and, mI_sI_1, mI_sI_2, mI_sI_3, mI_nW_1, mI_nW_2, mI_sR, mI_sJ, mI_sA_1, mI_sA_2, mR_sI, mR_sJ, mR_sA, mR_sR_1, mR_sR_2, mR_sR_3, mR_nW_1, mR_nW_2, mN_sI, mN_sJ, mN_sR, mN_sA, mN_nW_1, mN_nW_2, mJ_sI, mJ_sR, mJ_sA, mJ_sJ_1, mJ_sJ_2, mJ_sJ_3, mJ_nW_1, mJ_nW_2], fun j => by simp (disch := omega) only [true_and, mI_sI_1, mI_sI_2, mI_sI_3, mI_nW_1, mI_nW_2, mI_sR, mI_sJ, mI_sA_1, mI_sA_2, mR_sI, mR_sJ, mR_sA, mR_sR_1, mR_sR_2, mR_sR_3, mR_nW_1, mR_nW_2, mN_sI, mN_sJ, mN_sR, mN_sA, mN_nW_1, mN_nW_2, mJ_sI, mJ_sR, mJ_sA, mJ_sJ_1, mJ_sJ_2, mJ_sJ_3, mJ_nW_1, mJ_nW_2], fun j => by simp (disch := omega) only [true_and, mI_sI_1, mI_sI_2, mI_sI_3, mI_nW_1, mI_nW_2, mI_sR, mI_sJ, mI_sA_1, mI_sA_2, mR_sI, mR_sJ, mR_sA, mR_sR_1, mR_sR_2, mR_sR_3, mR_nW_1, mR_nW_2, mN_sI, mN_sJ, mN_sR, mN_sA, mN_nW_1, mN_nW_2, mJ_sI, mJ_sR, mJ_sA, mJ_sJ_1, mJ_sJ_2, mJ_sJ_3, mJ_nW_1, mJ_nW_2], by simp (disch := omega) only [true_and, mI_sI_1, mI_sI_2, mI_sI_3, mI_nW_1, mI_nW_2, mI_sR, mI_sJ, mI_sA_1, mI_sA_2, mR_sI, mR_sJ, mR_sA, mR_sR_1, mR_sR_2, mR_sR_3, mR_nW_1, mR_nW_2, mN_sI, mN_sJ, mN_sR, mN_sA, mN_nW_1, mN_nW_2, mJ_sI, mJ_sR, mJ_sA, mJ_sJ_1, mJ_sJ_2, mJ_sJ_3, mJ_nW_1, mJ_nW_2]⟩, fun j hj => by omega⟩
theorem Gpd_s {u id len k i : Nat} {w : Nat → Int32} {v : Int32} (g : Gpd N u id len w k M) (hi : i = k) (hv : v = w k) : Gpd N u id len w (k + 1) (sI M id i v) := by
  obtain ⟨M', g1, g2, g3, g4, g5⟩ := g
  subst hi
  refine ⟨M', g1, g2, g3, fun a ha => ⟨fun j => by simp (disch := omega) only [true_and, mI_sI_1, mI_sI_2, mI_sI_3, mI_nW_1, mI_nW_2, mI_sR, mI_sJ, mI_sA_1, mI_sA_2, mR_sI, mR_sJ, mR_sA, mR_sR_1, mR_sR_2, mR_sR_3, mR_nW_1, mR_nW_2, mN_sI, mN_sJ, mN_sR, mN_sA, mN_nW_1, mN_nW_2, mJ_sI, mJ_sR, mJ_sA, mJ_sJ_1, mJ_sJ_2, mJ_sJ_3, mJ_nW_1, mJ_nW_2]; exact (g4 a ha).1 j, (g4 a ha).2.1, (g4 a ha).2.2.1, (g4 a ha).2.2.2⟩, fun j hj => ?_⟩
  by_cases e : j = i
  · subst e; rw [mI_sI_3]; exact hv
  · rw [mI_sI_2 e]; exact g5 j (by omega)
theorem Gpd_i {u id len k j : Nat} {w : Nat → Int32} (g : Gpd N u id len w k M) (h : j < len) (hl : len < 2 ^ 31) : vp_in (nI j) (mN M id) := by
  obtain ⟨M', g1, g2, g3, g4, g5⟩ := g
  rw [g2]; exact vin h hl
def w101 (j : Nat) : Int32 := nI (fbt j)
def w102 (j : Nat) : Int32 := nI (wdL.getD j 0)
theorem Gpd_e101 (g : Gpd N 100 101 28 w101 28 M) : Gst N 102 (sR M 60 40 (some 101)) := by
  obtain ⟨M', ⟨g1, g2, g3, g4, g5, g6, g7⟩, d2, d3, d4, d5⟩ := g
  refine ⟨g1, fun x hx => ?_, fun a ha => ?_, fun j => ?_, fun p hp hpu => ?_, fun h j hj => ?_, fun h j hj => ?_⟩
  · replace hx : x ∈ mL M := hx
    rw [d3] at hx
    rcases List.mem_append.mp hx with hx | hx
    · rcases g2 x hx with h | h
      · exact Or.inl h
      · exact Or.inr (by omega)
    · have := List.mem_singleton.mp hx
      exact Or.inr (by omega)
  · obtain ⟨a1, a2, a3, a4⟩ := g3 a ha
    obtain ⟨b1, b2, b3, b4⟩ := d4 a (by omega)
    exact ⟨fun j => by simp (disch := omega) only [true_and, mI_sI_1, mI_sI_2, mI_sI_3, mI_nW_1, mI_nW_2, mI_sR, mI_sJ, mI_sA_1, mI_sA_2, mR_sI, mR_sJ, mR_sA, mR_sR_1, mR_sR_2, mR_sR_3, mR_nW_1, mR_nW_2, mN_sI, mN_sJ, mN_sR, mN_sA, mN_nW_1, mN_nW_2, mJ_sI, mJ_sR, mJ_sA, mJ_sJ_1, mJ_sJ_2, mJ_sJ_3, mJ_nW_1, mJ_nW_2]; rw [b1]; exact a1 j, fun j => by simp (disch := omega) only [true_and, mI_sI_1, mI_sI_2, mI_sI_3, mI_nW_1, mI_nW_2, mI_sR, mI_sJ, mI_sA_1, mI_sA_2, mR_sI, mR_sJ, mR_sA, mR_sR_1, mR_sR_2, mR_sR_3, mR_nW_1, mR_nW_2, mN_sI, mN_sJ, mN_sR, mN_sA, mN_nW_1, mN_nW_2, mJ_sI, mJ_sR, mJ_sA, mJ_sJ_1, mJ_sJ_2, mJ_sJ_3, mJ_nW_1, mJ_nW_2]; rw [b2]; exact a2 j, fun j => by simp (disch := omega) only [true_and, mI_sI_1, mI_sI_2, mI_sI_3, mI_nW_1, mI_nW_2, mI_sR, mI_sJ, mI_sA_1, mI_sA_2, mR_sI, mR_sJ, mR_sA, mR_sR_1, mR_sR_2, mR_sR_3, mR_nW_1, mR_nW_2, mN_sI, mN_sJ, mN_sR, mN_sA, mN_nW_1, mN_nW_2, mJ_sI, mJ_sR, mJ_sA, mJ_sJ_1, mJ_sJ_2, mJ_sJ_3, mJ_nW_1, mJ_nW_2]; rw [b3]; exact a3 j, by simp (disch := omega) only [true_and, mI_sI_1, mI_sI_2, mI_sI_3, mI_nW_1, mI_nW_2, mI_sR, mI_sJ, mI_sA_1, mI_sA_2, mR_sI, mR_sJ, mR_sA, mR_sR_1, mR_sR_2, mR_sR_3, mR_nW_1, mR_nW_2, mN_sI, mN_sJ, mN_sR, mN_sA, mN_nW_1, mN_nW_2, mJ_sI, mJ_sR, mJ_sA, mJ_sJ_1, mJ_sJ_2, mJ_sJ_3, mJ_nW_1, mJ_nW_2]; rw [b4]; exact a4⟩
  · simp (disch := omega) only [true_and, mI_sI_1, mI_sI_2, mI_sI_3, mI_nW_1, mI_nW_2, mI_sR, mI_sJ, mI_sA_1, mI_sA_2, mR_sI, mR_sJ, mR_sA, mR_sR_1, mR_sR_2, mR_sR_3, mR_nW_1, mR_nW_2, mN_sI, mN_sJ, mN_sR, mN_sA, mN_nW_1, mN_nW_2, mJ_sI, mJ_sR, mJ_sA, mJ_sJ_1, mJ_sJ_2, mJ_sJ_3, mJ_nW_1, mJ_nW_2]; rw [(d4 60 (by omega)).1]; exact g4 j
  · by_cases e : p.1 = 40
    · have := m60_u p hp (40, 28) (by decide) e
      subst this
      dsimp only
      exact ⟨by simp (disch := omega) only [true_and, mI_sI_1, mI_sI_2, mI_sI_3, mI_nW_1, mI_nW_2, mI_sR, mI_sJ, mI_sA_1, mI_sA_2, mR_sI, mR_sJ, mR_sA, mR_sR_1, mR_sR_2, mR_sR_3, mR_nW_1, mR_nW_2, mN_sI, mN_sJ, mN_sR, mN_sA, mN_nW_1, mN_nW_2, mJ_sI, mJ_sR, mJ_sA, mJ_sJ_1, mJ_sJ_2, mJ_sJ_3, mJ_nW_1, mJ_nW_2], by simp (disch := omega) only [true_and, mI_sI_1, mI_sI_2, mI_sI_3, mI_nW_1, mI_nW_2, mI_sR, mI_sJ, mI_sA_1, mI_sA_2, mR_sI, mR_sJ, mR_sA, mR_sR_1, mR_sR_2, mR_sR_3, mR_nW_1, mR_nW_2, mN_sI, mN_sJ, mN_sR, mN_sA, mN_nW_1, mN_nW_2, mJ_sI, mJ_sR, mJ_sA, mJ_sJ_1, mJ_sJ_2, mJ_sJ_3, mJ_nW_1, mJ_nW_2]; exact d2, fun c1 c2 => absurd rfl c1⟩
    · have hlt : 61 + p.1 < 100 := by
        have : ∀ p ∈ o_m60, 61 + p.1 < 102 → p.1 ≠ 40 → 61 + p.1 < 100 := by decide
        exact this p hp hpu e
      have hp1 := m60_b p hp
      obtain ⟨b1, b2, b3⟩ := g5 p hp hlt
      obtain ⟨c1, c2, c3, c4⟩ := d4 (61 + p.1) (by omega)
      refine ⟨by simp (disch := omega) only [true_and, mI_sI_1, mI_sI_2, mI_sI_3, mI_nW_1, mI_nW_2, mI_sR, mI_sJ, mI_sA_1, mI_sA_2, mR_sI, mR_sJ, mR_sA, mR_sR_1, mR_sR_2, mR_sR_3, mR_nW_1, mR_nW_2, mN_sI, mN_sJ, mN_sR, mN_sA, mN_nW_1, mN_nW_2, mJ_sI, mJ_sR, mJ_sA, mJ_sJ_1, mJ_sJ_2, mJ_sJ_3, mJ_nW_1, mJ_nW_2]; rw [(d4 60 (by omega)).2.2.1]; exact b1, by simp (disch := omega) only [true_and, mI_sI_1, mI_sI_2, mI_sI_3, mI_nW_1, mI_nW_2, mI_sR, mI_sJ, mI_sA_1, mI_sA_2, mR_sI, mR_sJ, mR_sA, mR_sR_1, mR_sR_2, mR_sR_3, mR_nW_1, mR_nW_2, mN_sI, mN_sJ, mN_sR, mN_sA, mN_nW_1, mN_nW_2, mJ_sI, mJ_sR, mJ_sA, mJ_sJ_1, mJ_sJ_2, mJ_sJ_3, mJ_nW_1, mJ_nW_2]; rw [c4]; exact b2, fun e1 e2 j => by simp (disch := omega) only [true_and, mI_sI_1, mI_sI_2, mI_sI_3, mI_nW_1, mI_nW_2, mI_sR, mI_sJ, mI_sA_1, mI_sA_2, mR_sI, mR_sJ, mR_sA, mR_sR_1, mR_sR_2, mR_sR_3, mR_nW_1, mR_nW_2, mN_sI, mN_sJ, mN_sR, mN_sA, mN_nW_1, mN_nW_2, mJ_sI, mJ_sR, mJ_sA, mJ_sJ_1, mJ_sJ_2, mJ_sJ_3, mJ_nW_1, mJ_nW_2]; rw [c1]; exact b3 e1 e2 j⟩
  · simp (disch := omega) only [true_and, mI_sI_1, mI_sI_2, mI_sI_3, mI_nW_1, mI_nW_2, mI_sR, mI_sJ, mI_sA_1, mI_sA_2, mR_sI, mR_sJ, mR_sA, mR_sR_1, mR_sR_2, mR_sR_3, mR_nW_1, mR_nW_2, mN_sI, mN_sJ, mN_sR, mN_sA, mN_nW_1, mN_nW_2, mJ_sI, mJ_sR, mJ_sA, mJ_sJ_1, mJ_sJ_2, mJ_sJ_3, mJ_nW_1, mJ_nW_2]; exact d5 j hj
  · omega
theorem Gpd_e102 (g : Gpd N 102 102 81 w102 81 M) : Gst N 103 (sR M 60 41 (some 102)) := by
  obtain ⟨M', ⟨g1, g2, g3, g4, g5, g6, g7⟩, d2, d3, d4, d5⟩ := g
  refine ⟨g1, fun x hx => ?_, fun a ha => ?_, fun j => ?_, fun p hp hpu => ?_, fun h j hj => ?_, fun h j hj => ?_⟩
  · replace hx : x ∈ mL M := hx
    rw [d3] at hx
    rcases List.mem_append.mp hx with hx | hx
    · rcases g2 x hx with h | h
      · exact Or.inl h
      · exact Or.inr (by omega)
    · have := List.mem_singleton.mp hx
      exact Or.inr (by omega)
  · obtain ⟨a1, a2, a3, a4⟩ := g3 a ha
    obtain ⟨b1, b2, b3, b4⟩ := d4 a (by omega)
    exact ⟨fun j => by simp (disch := omega) only [true_and, mI_sI_1, mI_sI_2, mI_sI_3, mI_nW_1, mI_nW_2, mI_sR, mI_sJ, mI_sA_1, mI_sA_2, mR_sI, mR_sJ, mR_sA, mR_sR_1, mR_sR_2, mR_sR_3, mR_nW_1, mR_nW_2, mN_sI, mN_sJ, mN_sR, mN_sA, mN_nW_1, mN_nW_2, mJ_sI, mJ_sR, mJ_sA, mJ_sJ_1, mJ_sJ_2, mJ_sJ_3, mJ_nW_1, mJ_nW_2]; rw [b1]; exact a1 j, fun j => by simp (disch := omega) only [true_and, mI_sI_1, mI_sI_2, mI_sI_3, mI_nW_1, mI_nW_2, mI_sR, mI_sJ, mI_sA_1, mI_sA_2, mR_sI, mR_sJ, mR_sA, mR_sR_1, mR_sR_2, mR_sR_3, mR_nW_1, mR_nW_2, mN_sI, mN_sJ, mN_sR, mN_sA, mN_nW_1, mN_nW_2, mJ_sI, mJ_sR, mJ_sA, mJ_sJ_1, mJ_sJ_2, mJ_sJ_3, mJ_nW_1, mJ_nW_2]; rw [b2]; exact a2 j, fun j => by simp (disch := omega) only [true_and, mI_sI_1, mI_sI_2, mI_sI_3, mI_nW_1, mI_nW_2, mI_sR, mI_sJ, mI_sA_1, mI_sA_2, mR_sI, mR_sJ, mR_sA, mR_sR_1, mR_sR_2, mR_sR_3, mR_nW_1, mR_nW_2, mN_sI, mN_sJ, mN_sR, mN_sA, mN_nW_1, mN_nW_2, mJ_sI, mJ_sR, mJ_sA, mJ_sJ_1, mJ_sJ_2, mJ_sJ_3, mJ_nW_1, mJ_nW_2]; rw [b3]; exact a3 j, by simp (disch := omega) only [true_and, mI_sI_1, mI_sI_2, mI_sI_3, mI_nW_1, mI_nW_2, mI_sR, mI_sJ, mI_sA_1, mI_sA_2, mR_sI, mR_sJ, mR_sA, mR_sR_1, mR_sR_2, mR_sR_3, mR_nW_1, mR_nW_2, mN_sI, mN_sJ, mN_sR, mN_sA, mN_nW_1, mN_nW_2, mJ_sI, mJ_sR, mJ_sA, mJ_sJ_1, mJ_sJ_2, mJ_sJ_3, mJ_nW_1, mJ_nW_2]; rw [b4]; exact a4⟩
  · simp (disch := omega) only [true_and, mI_sI_1, mI_sI_2, mI_sI_3, mI_nW_1, mI_nW_2, mI_sR, mI_sJ, mI_sA_1, mI_sA_2, mR_sI, mR_sJ, mR_sA, mR_sR_1, mR_sR_2, mR_sR_3, mR_nW_1, mR_nW_2, mN_sI, mN_sJ, mN_sR, mN_sA, mN_nW_1, mN_nW_2, mJ_sI, mJ_sR, mJ_sA, mJ_sJ_1, mJ_sJ_2, mJ_sJ_3, mJ_nW_1, mJ_nW_2]; rw [(d4 60 (by omega)).1]; exact g4 j
  · by_cases e : p.1 = 41
    · have := m60_u p hp (41, 81) (by decide) e
      subst this
      dsimp only
      exact ⟨by simp (disch := omega) only [true_and, mI_sI_1, mI_sI_2, mI_sI_3, mI_nW_1, mI_nW_2, mI_sR, mI_sJ, mI_sA_1, mI_sA_2, mR_sI, mR_sJ, mR_sA, mR_sR_1, mR_sR_2, mR_sR_3, mR_nW_1, mR_nW_2, mN_sI, mN_sJ, mN_sR, mN_sA, mN_nW_1, mN_nW_2, mJ_sI, mJ_sR, mJ_sA, mJ_sJ_1, mJ_sJ_2, mJ_sJ_3, mJ_nW_1, mJ_nW_2], by simp (disch := omega) only [true_and, mI_sI_1, mI_sI_2, mI_sI_3, mI_nW_1, mI_nW_2, mI_sR, mI_sJ, mI_sA_1, mI_sA_2, mR_sI, mR_sJ, mR_sA, mR_sR_1, mR_sR_2, mR_sR_3, mR_nW_1, mR_nW_2, mN_sI, mN_sJ, mN_sR, mN_sA, mN_nW_1, mN_nW_2, mJ_sI, mJ_sR, mJ_sA, mJ_sJ_1, mJ_sJ_2, mJ_sJ_3, mJ_nW_1, mJ_nW_2]; exact d2, fun c1 c2 => absurd rfl c2⟩
    · have hlt : 61 + p.1 < 102 := by
        have : ∀ p ∈ o_m60, 61 + p.1 < 103 → p.1 ≠ 41 → 61 + p.1 < 102 := by decide
        exact this p hp hpu e
      have hp1 := m60_b p hp
      obtain ⟨b1, b2, b3⟩ := g5 p hp hlt
      obtain ⟨c1, c2, c3, c4⟩ := d4 (61 + p.1) (by omega)
      refine ⟨by simp (disch := omega) only [true_and, mI_sI_1, mI_sI_2, mI_sI_3, mI_nW_1, mI_nW_2, mI_sR, mI_sJ, mI_sA_1, mI_sA_2, mR_sI, mR_sJ, mR_sA, mR_sR_1, mR_sR_2, mR_sR_3, mR_nW_1, mR_nW_2, mN_sI, mN_sJ, mN_sR, mN_sA, mN_nW_1, mN_nW_2, mJ_sI, mJ_sR, mJ_sA, mJ_sJ_1, mJ_sJ_2, mJ_sJ_3, mJ_nW_1, mJ_nW_2]; rw [(d4 60 (by omega)).2.2.1]; exact b1, by simp (disch := omega) only [true_and, mI_sI_1, mI_sI_2, mI_sI_3, mI_nW_1, mI_nW_2, mI_sR, mI_sJ, mI_sA_1, mI_sA_2, mR_sI, mR_sJ, mR_sA, mR_sR_1, mR_sR_2, mR_sR_3, mR_nW_1, mR_nW_2, mN_sI, mN_sJ, mN_sR, mN_sA, mN_nW_1, mN_nW_2, mJ_sI, mJ_sR, mJ_sA, mJ_sJ_1, mJ_sJ_2, mJ_sJ_3, mJ_nW_1, mJ_nW_2]; rw [c4]; exact b2, fun e1 e2 j => by simp (disch := omega) only [true_and, mI_sI_1, mI_sI_2, mI_sI_3, mI_nW_1, mI_nW_2, mI_sR, mI_sJ, mI_sA_1, mI_sA_2, mR_sI, mR_sJ, mR_sA, mR_sR_1, mR_sR_2, mR_sR_3, mR_nW_1, mR_nW_2, mN_sI, mN_sJ, mN_sR, mN_sA, mN_nW_1, mN_nW_2, mJ_sI, mJ_sR, mJ_sA, mJ_sJ_1, mJ_sJ_2, mJ_sJ_3, mJ_nW_1, mJ_nW_2]; rw [c1]; exact b3 e1 e2 j⟩
  · simp (disch := omega) only [true_and, mI_sI_1, mI_sI_2, mI_sI_3, mI_nW_1, mI_nW_2, mI_sR, mI_sJ, mI_sA_1, mI_sA_2, mR_sI, mR_sJ, mR_sA, mR_sR_1, mR_sR_2, mR_sR_3, mR_nW_1, mR_nW_2, mN_sI, mN_sJ, mN_sR, mN_sA, mN_nW_1, mN_nW_2, mJ_sI, mJ_sR, mJ_sA, mJ_sJ_1, mJ_sJ_2, mJ_sJ_3, mJ_nW_1, mJ_nW_2]; rw [(d4 101 (by omega)).1]; exact g6 (by omega) j hj
  · simp (disch := omega) only [true_and, mI_sI_1, mI_sI_2, mI_sI_3, mI_nW_1, mI_nW_2, mI_sR, mI_sJ, mI_sA_1, mI_sA_2, mR_sI, mR_sJ, mR_sA, mR_sR_1, mR_sR_2, mR_sR_3, mR_nW_1, mR_nW_2, mN_sI, mN_sJ, mN_sR, mN_sA, mN_nW_1, mN_nW_2, mJ_sI, mJ_sR, mJ_sA, mJ_sJ_1, mJ_sJ_2, mJ_sJ_3, mJ_nW_1, mJ_nW_2]; exact d5 j hj
set_option maxRecDepth 20000 in
theorem st_959 {q : o_M → Prop} (g : Gst N 116 M) (h : ∀ M, Gst N 119 M → H_X12_init_982 l q 0 M) : H_X12_init_959 l q M := by
  have g2 := Gst_n (f := 55) (len := 5) g (by decide) (by decide) (by decide) (by decide) (by decide)
  have g4 := Gst_n (f := 56) (len := 5) g2 (by decide) (by decide) (by decide) (by decide) (by decide)
  have g6 := Gst_n (f := 57) (len := 6) g4 (by decide) (by decide) (by decide) (by decide) (by decide)
  exact w_X12_init_959 l q M ⟨Gst_f g (by decide) (by decide) (by decide), Gst_f g2 (by decide) (by decide) (by decide), Gst_f g4 (by decide) (by decide) (by decide), h _ g6⟩
set_option maxRecDepth 20000 in
theorem st_889 {q : o_M → Prop} (g : Gpd N 102 102 81 w102 76 M) (h : ∀ M, Gst N 119 M → H_X12_init_982 l q 0 M) : H_X12_init_889 l q 76 M := by
  have g1 := Gpd_s (i := ((76 : Int32).toNatClampNeg)) (v := 0) g (by decide) (by decide)
  have g2 := Gpd_s (i := (77 : Int32).toNatClampNeg) (v := 110) g1 (by decide) (by decide)
  have g3 := Gpd_s (i := (78 : Int32).toNatClampNeg) (v := 111) g2 (by decide) (by decide)
  have g4 := Gpd_s (i := (79 : Int32).toNatClampNeg) (v := 116) g3 (by decide) (by decide)
  have g5 := Gpd_s (i := (80 : Int32).toNatClampNeg) (v := 0) g4 (by decide) (by decide)
  have g6 := Gpd_e102 g5
  have g8 := Gst_n (f := 50) (len := 320) g6 (by decide) (by decide) (by decide) (by decide) (by decide)
  have g10 := Gst_n (f := 51) (len := 120) g8 (by decide) (by decide) (by decide) (by decide) (by decide)
  have g12 := Gst_n (f := 52) (len := 13312) g10 (by decide) (by decide) (by decide) (by decide) (by decide)
  have g14 := Gst_n (f := 53) (len := 12) g12 (by decide) (by decide) (by decide) (by decide) (by decide)
  have g16 := Gst_n (f := 54) (len := 5) g14 (by decide) (by decide) (by decide) (by decide) (by decide)
  exact w_X12_init_889 l q 76 M ⟨Gpd_i (j := 76) g (by decide) (by decide), Gpd_i (j := 77) g1 (by decide) (by decide), Gpd_i (j := 78) g2 (by decide) (by decide), Gpd_i (j := 79) g3 (by decide) (by decide), Gpd_i (j := 80) g4 (by decide) (by decide), Gst_f g6 (by decide) (by decide) (by decide), Gst_f g8 (by decide) (by decide) (by decide), fun M161 eM161 => by subst eM161; exact ⟨Gst_f g10 (by decide) (by decide) (by decide), Gst_f g12 (by decide) (by decide) (by decide), Gst_f g14 (by decide) (by decide) (by decide), st_959 g16 h⟩⟩
set_option maxRecDepth 20000 in
theorem st_831 {q : o_M → Prop} (g : Gpd N 102 102 81 w102 66 M) (h : ∀ M, Gst N 119 M → H_X12_init_982 l q 0 M) : H_X12_init_831 l q 66 M := by
  have g1 := Gpd_s (i := ((66 : Int32).toNatClampNeg)) (v := 112) g (by decide) (by decide)
  have g2 := Gpd_s (i := (67 : Int32).toNatClampNeg) (v := 97) g1 (by decide) (by decide)
  have g3 := Gpd_s (i := (68 : Int32).toNatClampNeg) (v := 121) g2 (by decide) (by decide)
  have g4 := Gpd_s (i := (69 : Int32).toNatClampNeg) (v := 0) g3 (by decide) (by decide)
  have g5 := Gpd_s (i := (70 : Int32).toNatClampNeg) (v := 111) g4 (by decide) (by decide)
  have g6 := Gpd_s (i := (71 : Int32).toNatClampNeg) (v := 114) g5 (by decide) (by decide)
  have g7 := Gpd_s (i := (72 : Int32).toNatClampNeg) (v := 0) g6 (by decide) (by decide)
  have g8 := Gpd_s (i := (73 : Int32).toNatClampNeg) (v := 97) g7 (by decide) (by decide)
  have g9 := Gpd_s (i := (74 : Int32).toNatClampNeg) (v := 110) g8 (by decide) (by decide)
  have g10 := Gpd_s (i := (75 : Int32).toNatClampNeg) (v := 100) g9 (by decide) (by decide)
  exact w_X12_init_831 l q 66 M ⟨Gpd_i (j := 66) g (by decide) (by decide), Gpd_i (j := 67) g1 (by decide) (by decide), Gpd_i (j := 68) g2 (by decide) (by decide), Gpd_i (j := 69) g3 (by decide) (by decide), Gpd_i (j := 70) g4 (by decide) (by decide), Gpd_i (j := 71) g5 (by decide) (by decide), Gpd_i (j := 72) g6 (by decide) (by decide), fun M150 eM150 => by subst eM150; exact ⟨Gpd_i (j := 73) g7 (by decide) (by decide), Gpd_i (j := 74) g8 (by decide) (by decide), Gpd_i (j := 75) g9 (by decide) (by decide), st_889 g10 h⟩⟩
set_option maxRecDepth 20000 in
theorem st_773 {q : o_M → Prop} (g : Gpd N 102 102 81 w102 56 M) (h : ∀ M, Gst N 119 M → H_X12_init_982 l q 0 M) : H_X12_init_773 l q 56 M := by
  have g1 := Gpd_s (i := ((56 : Int32).toNatClampNeg)) (v := 98) g (by decide) (by decide)
  have g2 := Gpd_s (i := (57 : Int32).toNatClampNeg) (v := 97) g1 (by decide) (by decide)
  have g3 := Gpd_s (i := (58 : Int32).toNatClampNeg) (v := 114) g2 (by decide) (by decide)
  have g4 := Gpd_s (i := (59 : Int32).toNatClampNeg) (v := 0) g3 (by decide) (by decide)
  have g5 := Gpd_s (i := (60 : Int32).toNatClampNeg) (v := 99) g4 (by decide) (by decide)
  have g6 := Gpd_s (i := (61 : Int32).toNatClampNeg) (v := 111) g5 (by decide) (by decide)
  have g7 := Gpd_s (i := (62 : Int32).toNatClampNeg) (v := 117) g6 (by decide) (by decide)
  have g8 := Gpd_s (i := (63 : Int32).toNatClampNeg) (v := 110) g7 (by decide) (by decide)
  have g9 := Gpd_s (i := (64 : Int32).toNatClampNeg) (v := 116) g8 (by decide) (by decide)
  have g10 := Gpd_s (i := (65 : Int32).toNatClampNeg) (v := 0) g9 (by decide) (by decide)
  exact w_X12_init_773 l q 56 M ⟨Gpd_i (j := 56) g (by decide) (by decide), Gpd_i (j := 57) g1 (by decide) (by decide), Gpd_i (j := 58) g2 (by decide) (by decide), Gpd_i (j := 59) g3 (by decide) (by decide), Gpd_i (j := 60) g4 (by decide) (by decide), Gpd_i (j := 61) g5 (by decide) (by decide), Gpd_i (j := 62) g6 (by decide) (by decide), fun M139 eM139 => by subst eM139; exact ⟨Gpd_i (j := 63) g7 (by decide) (by decide), Gpd_i (j := 64) g8 (by decide) (by decide), Gpd_i (j := 65) g9 (by decide) (by decide), st_831 g10 h⟩⟩
set_option maxRecDepth 20000 in
theorem st_715 {q : o_M → Prop} (g : Gpd N 102 102 81 w102 46 M) (h : ∀ M, Gst N 119 M → H_X12_init_982 l q 0 M) : H_X12_init_715 l q 46 M := by
  have g1 := Gpd_s (i := ((46 : Int32).toNatClampNeg)) (v := 119) g (by decide) (by decide)
  have g2 := Gpd_s (i := (47 : Int32).toNatClampNeg) (v := 101) g1 (by decide) (by decide)
  have g3 := Gpd_s (i := (48 : Int32).toNatClampNeg) (v := 101) g2 (by decide) (by decide)
  have g4 := Gpd_s (i := (49 : Int32).toNatClampNeg) (v := 107) g3 (by decide) (by decide)
  have g5 := Gpd_s (i := (50 : Int32).toNatClampNeg) (v := 0) g4 (by decide) (by decide)
  have g6 := Gpd_s (i := (51 : Int32).toNatClampNeg) (v := 114) g5 (by decide) (by decide)
  have g7 := Gpd_s (i := (52 : Int32).toNatClampNeg) (v := 101) g6 (by decide) (by decide)
  have g8 := Gpd_s (i := (53 : Int32).toNatClampNeg) (v := 115) g7 (by decide) (by decide)
  have g9 := Gpd_s (i := (54 : Int32).toNatClampNeg) (v := 116) g8 (by decide) (by decide)
  have g10 := Gpd_s (i := (55 : Int32).toNatClampNeg) (v := 0) g9 (by decide) (by decide)
  exact w_X12_init_715 l q 46 M ⟨Gpd_i (j := 46) g (by decide) (by decide), Gpd_i (j := 47) g1 (by decide) (by decide), Gpd_i (j := 48) g2 (by decide) (by decide), Gpd_i (j := 49) g3 (by decide) (by decide), Gpd_i (j := 50) g4 (by decide) (by decide), Gpd_i (j := 51) g5 (by decide) (by decide), Gpd_i (j := 52) g6 (by decide) (by decide), fun M128 eM128 => by subst eM128; exact ⟨Gpd_i (j := 53) g7 (by decide) (by decide), Gpd_i (j := 54) g8 (by decide) (by decide), Gpd_i (j := 55) g9 (by decide) (by decide), st_773 g10 h⟩⟩
set_option maxRecDepth 20000 in
theorem st_657 {q : o_M → Prop} (g : Gpd N 102 102 81 w102 36 M) (h : ∀ M, Gst N 119 M → H_X12_init_982 l q 0 M) : H_X12_init_657 l q 36 M := by
  have g1 := Gpd_s (i := ((36 : Int32).toNatClampNeg)) (v := 117) g (by decide) (by decide)
  have g2 := Gpd_s (i := (37 : Int32).toNatClampNeg) (v := 98) g1 (by decide) (by decide)
  have g3 := Gpd_s (i := (38 : Int32).toNatClampNeg) (v := 108) g2 (by decide) (by decide)
  have g4 := Gpd_s (i := (39 : Int32).toNatClampNeg) (v := 101) g3 (by decide) (by decide)
  have g5 := Gpd_s (i := (40 : Int32).toNatClampNeg) (v := 0) g4 (by decide) (by decide)
  have g6 := Gpd_s (i := (41 : Int32).toNatClampNeg) (v := 100) g5 (by decide) (by decide)
  have g7 := Gpd_s (i := (42 : Int32).toNatClampNeg) (v := 101) g6 (by decide) (by decide)
  have g8 := Gpd_s (i := (43 : Int32).toNatClampNeg) (v := 115) g7 (by decide) (by decide)
  have g9 := Gpd_s (i := (44 : Int32).toNatClampNeg) (v := 107) g8 (by decide) (by decide)
  have g10 := Gpd_s (i := (45 : Int32).toNatClampNeg) (v := 0) g9 (by decide) (by decide)
  exact w_X12_init_657 l q 36 M ⟨Gpd_i (j := 36) g (by decide) (by decide), Gpd_i (j := 37) g1 (by decide) (by decide), Gpd_i (j := 38) g2 (by decide) (by decide), Gpd_i (j := 39) g3 (by decide) (by decide), Gpd_i (j := 40) g4 (by decide) (by decide), Gpd_i (j := 41) g5 (by decide) (by decide), Gpd_i (j := 42) g6 (by decide) (by decide), fun M117 eM117 => by subst eM117; exact ⟨Gpd_i (j := 43) g7 (by decide) (by decide), Gpd_i (j := 44) g8 (by decide) (by decide), Gpd_i (j := 45) g9 (by decide) (by decide), st_715 g10 h⟩⟩
set_option maxRecDepth 20000 in
theorem st_599 {q : o_M → Prop} (g : Gpd N 102 102 81 w102 26 M) (h : ∀ M, Gst N 119 M → H_X12_init_982 l q 0 M) : H_X12_init_599 l q 26 M := by
  have g1 := Gpd_s (i := ((26 : Int32).toNatClampNeg)) (v := 105) g (by decide) (by decide)
  have g2 := Gpd_s (i := (27 : Int32).toNatClampNeg) (v := 114) g1 (by decide) (by decide)
  have g3 := Gpd_s (i := (28 : Int32).toNatClampNeg) (v := 0) g2 (by decide) (by decide)
  have g4 := Gpd_s (i := (29 : Int32).toNatClampNeg) (v := 112) g3 (by decide) (by decide)
  have g5 := Gpd_s (i := (30 : Int32).toNatClampNeg) (v := 111) g4 (by decide) (by decide)
  have g6 := Gpd_s (i := (31 : Int32).toNatClampNeg) (v := 115) g5 (by decide) (by decide)
  have g7 := Gpd_s (i := (32 : Int32).toNatClampNeg) (v := 116) g6 (by decide) (by decide)
  have g8 := Gpd_s (i := (33 : Int32).toNatClampNeg) (v := 0) g7 (by decide) (by decide)
  have g9 := Gpd_s (i := (34 : Int32).toNatClampNeg) (v := 100) g8 (by decide) (by decide)
  have g10 := Gpd_s (i := (35 : Int32).toNatClampNeg) (v := 111) g9 (by decide) (by decide)
  exact w_X12_init_599 l q 26 M ⟨Gpd_i (j := 26) g (by decide) (by decide), Gpd_i (j := 27) g1 (by decide) (by decide), Gpd_i (j := 28) g2 (by decide) (by decide), Gpd_i (j := 29) g3 (by decide) (by decide), Gpd_i (j := 30) g4 (by decide) (by decide), Gpd_i (j := 31) g5 (by decide) (by decide), Gpd_i (j := 32) g6 (by decide) (by decide), fun M106 eM106 => by subst eM106; exact ⟨Gpd_i (j := 33) g7 (by decide) (by decide), Gpd_i (j := 34) g8 (by decide) (by decide), Gpd_i (j := 35) g9 (by decide) (by decide), st_657 g10 h⟩⟩
set_option maxRecDepth 20000 in
theorem st_541 {q : o_M → Prop} (g : Gpd N 102 102 81 w102 16 M) (h : ∀ M, Gst N 119 M → H_X12_init_982 l q 0 M) : H_X12_init_541 l q 16 M := by
  have g1 := Gpd_s (i := ((16 : Int32).toNatClampNeg)) (v := 114) g (by decide) (by decide)
  have g2 := Gpd_s (i := (17 : Int32).toNatClampNeg) (v := 0) g1 (by decide) (by decide)
  have g3 := Gpd_s (i := (18 : Int32).toNatClampNeg) (v := 108) g2 (by decide) (by decide)
  have g4 := Gpd_s (i := (19 : Int32).toNatClampNeg) (v := 111) g3 (by decide) (by decide)
  have g5 := Gpd_s (i := (20 : Int32).toNatClampNeg) (v := 110) g4 (by decide) (by decide)
  have g6 := Gpd_s (i := (21 : Int32).toNatClampNeg) (v := 103) g5 (by decide) (by decide)
  have g7 := Gpd_s (i := (22 : Int32).toNatClampNeg) (v := 0) g6 (by decide) (by decide)
  have g8 := Gpd_s (i := (23 : Int32).toNatClampNeg) (v := 99) g7 (by decide) (by decide)
  have g9 := Gpd_s (i := (24 : Int32).toNatClampNeg) (v := 104) g8 (by decide) (by decide)
  have g10 := Gpd_s (i := (25 : Int32).toNatClampNeg) (v := 97) g9 (by decide) (by decide)
  exact w_X12_init_541 l q 16 M ⟨Gpd_i (j := 16) g (by decide) (by decide), Gpd_i (j := 17) g1 (by decide) (by decide), Gpd_i (j := 18) g2 (by decide) (by decide), Gpd_i (j := 19) g3 (by decide) (by decide), Gpd_i (j := 20) g4 (by decide) (by decide), Gpd_i (j := 21) g5 (by decide) (by decide), Gpd_i (j := 22) g6 (by decide) (by decide), fun M95 eM95 => by subst eM95; exact ⟨Gpd_i (j := 23) g7 (by decide) (by decide), Gpd_i (j := 24) g8 (by decide) (by decide), Gpd_i (j := 25) g9 (by decide) (by decide), st_599 g10 h⟩⟩
set_option maxRecDepth 20000 in
theorem st_482 {q : o_M → Prop} (g : Gpd N 102 102 81 w102 6 M) (h : ∀ M, Gst N 119 M → H_X12_init_982 l q 0 M) : H_X12_init_482 l q 6 M := by
  have g1 := Gpd_s (i := ((6 : Int32).toNatClampNeg)) (v := 101) g (by decide) (by decide)
  have g2 := Gpd_s (i := (7 : Int32).toNatClampNeg) (v := 101) g1 (by decide) (by decide)
  have g3 := Gpd_s (i := (8 : Int32).toNatClampNeg) (v := 107) g2 (by decide) (by decide)
  have g4 := Gpd_s (i := (9 : Int32).toNatClampNeg) (v := 100) g3 (by decide) (by decide)
  have g5 := Gpd_s (i := (10 : Int32).toNatClampNeg) (v := 97) g4 (by decide) (by decide)
  have g6 := Gpd_s (i := (11 : Int32).toNatClampNeg) (v := 121) g5 (by decide) (by decide)
  have g7 := Gpd_s (i := (12 : Int32).toNatClampNeg) (v := 0) g6 (by decide) (by decide)
  have g8 := Gpd_s (i := (13 : Int32).toNatClampNeg) (v := 104) g7 (by decide) (by decide)
  have g9 := Gpd_s (i := (14 : Int32).toNatClampNeg) (v := 111) g8 (by decide) (by decide)
  have g10 := Gpd_s (i := (15 : Int32).toNatClampNeg) (v := 117) g9 (by decide) (by decide)
  exact w_X12_init_482 l q 6 M ⟨Gpd_i (j := 6) g (by decide) (by decide), Gpd_i (j := 7) g1 (by decide) (by decide), Gpd_i (j := 8) g2 (by decide) (by decide), Gpd_i (j := 9) g3 (by decide) (by decide), Gpd_i (j := 10) g4 (by decide) (by decide), Gpd_i (j := 11) g5 (by decide) (by decide), Gpd_i (j := 12) g6 (by decide) (by decide), fun M84 eM84 => by subst eM84; exact ⟨Gpd_i (j := 13) g7 (by decide) (by decide), Gpd_i (j := 14) g8 (by decide) (by decide), Gpd_i (j := 15) g9 (by decide) (by decide), st_541 g10 h⟩⟩
set_option maxRecDepth 20000 in
theorem st_427 {q : o_M → Prop} (g : Gpd N 100 101 28 w101 25 M) (h : ∀ M, Gst N 119 M → H_X12_init_982 l q 0 M) : H_X12_init_427 l q 25 M := by
  have g1 := Gpd_s (i := ((25 : Int32).toNatClampNeg)) (v := 48) g (by decide) (by decide)
  have g2 := Gpd_s (i := (26 : Int32).toNatClampNeg) (v := 32) g1 (by decide) (by decide)
  have g3 := Gpd_s (i := (27 : Int32).toNatClampNeg) (v := 59) g2 (by decide) (by decide)
  have g4 := Gpd_e101 g3
  have g5 := Gpd_0 (id := 102) (len := 81) (w := w102) g4
  have g6 := Gpd_s (i := (0 : Int32).toNatClampNeg) (v := 107) g5 (by decide) (by decide)
  have g7 := Gpd_s (i := (1 : Int32).toNatClampNeg) (v := 105) g6 (by decide) (by decide)
  have g8 := Gpd_s (i := (2 : Int32).toNatClampNeg) (v := 110) g7 (by decide) (by decide)
  have g9 := Gpd_s (i := (3 : Int32).toNatClampNeg) (v := 100) g8 (by decide) (by decide)
  have g10 := Gpd_s (i := (4 : Int32).toNatClampNeg) (v := 0) g9 (by decide) (by decide)
  have g11 := Gpd_s (i := (5 : Int32).toNatClampNeg) (v := 119) g10 (by decide) (by decide)
  exact w_X12_init_427 l q 25 M ⟨Gpd_i (j := 25) g (by decide) (by decide), Gpd_i (j := 26) g1 (by decide) (by decide), Gpd_i (j := 27) g2 (by decide) (by decide), Gst_f g4 (by decide) (by decide) (by decide), Gpd_i (j := 0) g5 (by decide) (by decide), Gpd_i (j := 1) g6 (by decide) (by decide), Gpd_i (j := 2) g7 (by decide) (by decide), fun M73 eM73 => by subst eM73; exact ⟨Gpd_i (j := 3) g8 (by decide) (by decide), Gpd_i (j := 4) g9 (by decide) (by decide), Gpd_i (j := 5) g10 (by decide) (by decide), st_482 g11 h⟩⟩
set_option maxRecDepth 20000 in
theorem st_367 {q : o_M → Prop} (g : Gpd N 100 101 28 w101 15 M) (h : ∀ M, Gst N 119 M → H_X12_init_982 l q 0 M) : H_X12_init_367 l q 15 M := by
  have g1 := Gpd_s (i := ((15 : Int32).toNatClampNeg)) (v := 121) g (by decide) (by decide)
  have g2 := Gpd_s (i := (16 : Int32).toNatClampNeg) (v := 32) g1 (by decide) (by decide)
  have g3 := Gpd_s (i := (17 : Int32).toNatClampNeg) (v := 108) g2 (by decide) (by decide)
  have g4 := Gpd_s (i := (18 : Int32).toNatClampNeg) (v := 111) g3 (by decide) (by decide)
  have g5 := Gpd_s (i := (19 : Int32).toNatClampNeg) (v := 110) g4 (by decide) (by decide)
  have g6 := Gpd_s (i := (20 : Int32).toNatClampNeg) (v := 103) g5 (by decide) (by decide)
  have g7 := Gpd_s (i := (21 : Int32).toNatClampNeg) (v := 32) g6 (by decide) (by decide)
  have g8 := Gpd_s (i := (22 : Int32).toNatClampNeg) (v := 42) g7 (by decide) (by decide)
  have g9 := Gpd_s (i := (23 : Int32).toNatClampNeg) (v := 32) g8 (by decide) (by decide)
  have g10 := Gpd_s (i := (24 : Int32).toNatClampNeg) (v := 49) g9 (by decide) (by decide)
  exact w_X12_init_367 l q 15 M ⟨Gpd_i (j := 15) g (by decide) (by decide), Gpd_i (j := 16) g1 (by decide) (by decide), Gpd_i (j := 17) g2 (by decide) (by decide), Gpd_i (j := 18) g3 (by decide) (by decide), Gpd_i (j := 19) g4 (by decide) (by decide), Gpd_i (j := 20) g5 (by decide) (by decide), Gpd_i (j := 21) g6 (by decide) (by decide), fun M62 eM62 => by subst eM62; exact ⟨Gpd_i (j := 22) g7 (by decide) (by decide), Gpd_i (j := 23) g8 (by decide) (by decide), Gpd_i (j := 24) g9 (by decide) (by decide), st_427 g10 h⟩⟩
set_option maxRecDepth 20000 in
theorem st_307 {q : o_M → Prop} (g : Gpd N 100 101 28 w101 5 M) (h : ∀ M, Gst N 119 M → H_X12_init_982 l q 0 M) : H_X12_init_307 l q 5 M := by
  have g1 := Gpd_s (i := ((5 : Int32).toNatClampNeg)) (v := 32) g (by decide) (by decide)
  have g2 := Gpd_s (i := (6 : Int32).toNatClampNeg) (v := 108) g1 (by decide) (by decide)
  have g3 := Gpd_s (i := (7 : Int32).toNatClampNeg) (v := 111) g2 (by decide) (by decide)
  have g4 := Gpd_s (i := (8 : Int32).toNatClampNeg) (v := 110) g3 (by decide) (by decide)
  have g5 := Gpd_s (i := (9 : Int32).toNatClampNeg) (v := 103) g4 (by decide) (by decide)
  have g6 := Gpd_s (i := (10 : Int32).toNatClampNeg) (v := 32) g5 (by decide) (by decide)
  have g7 := Gpd_s (i := (11 : Int32).toNatClampNeg) (v := 59) g6 (by decide) (by decide)
  have g8 := Gpd_s (i := (12 : Int32).toNatClampNeg) (v := 32) g7 (by decide) (by decide)
  have g9 := Gpd_s (i := (13 : Int32).toNatClampNeg) (v := 112) g8 (by decide) (by decide)
  have g10 := Gpd_s (i := (14 : Int32).toNatClampNeg) (v := 97) g9 (by decide) (by decide)
  exact w_X12_init_307 l q 5 M ⟨Gpd_i (j := 5) g (by decide) (by decide), Gpd_i (j := 6) g1 (by decide) (by decide), Gpd_i (j := 7) g2 (by decide) (by decide), Gpd_i (j := 8) g3 (by decide) (by decide), Gpd_i (j := 9) g4 (by decide) (by decide), Gpd_i (j := 10) g5 (by decide) (by decide), Gpd_i (j := 11) g6 (by decide) (by decide), fun M51 eM51 => by subst eM51; exact ⟨Gpd_i (j := 12) g7 (by decide) (by decide), Gpd_i (j := 13) g8 (by decide) (by decide), Gpd_i (j := 14) g9 (by decide) (by decide), st_367 g10 h⟩⟩
set_option maxRecDepth 20000 in
theorem st_243 {q : o_M → Prop} (g : Gst N 95 M) (h : ∀ M, Gst N 119 M → H_X12_init_982 l q 0 M) : H_X12_init_243 l q M := by
  have g2 := Gst_n (f := 35) (len := 6) g (by decide) (by decide) (by decide) (by decide) (by decide)
  have g4 := Gst_n (f := 36) (len := 6) g2 (by decide) (by decide) (by decide) (by decide) (by decide)
  have g6 := Gst_n (f := 37) (len := 6) g4 (by decide) (by decide) (by decide) (by decide) (by decide)
  have g8 := Gst_n (f := 38) (len := 1800) g6 (by decide) (by decide) (by decide) (by decide) (by decide)
  have g9 := Gpd_0 (id := 101) (len := 28) (w := w101) g8
  have g10 := Gpd_s (i := (0 : Int32).toNatClampNeg) (v := 99) g9 (by decide) (by decide)
  have g11 := Gpd_s (i := (1 : Int32).toNatClampNeg) (v := 111) g10 (by decide) (by decide)
  have g12 := Gpd_s (i := (2 : Int32).toNatClampNeg) (v := 117) g11 (by decide) (by decide)
  have g13 := Gpd_s (i := (3 : Int32).toNatClampNeg) (v := 110) g12 (by decide) (by decide)
  have g14 := Gpd_s (i := (4 : Int32).toNatClampNeg) (v := 116) g13 (by decide) (by decide)
  exact w_X12_init_243 l q M ⟨Gst_f g (by decide) (by decide) (by decide), Gst_f g2 (by decide) (by decide) (by decide), Gst_f g4 (by decide) (by decide) (by decide), Gst_f g6 (by decide) (by decide) (by decide), Gst_f g8 (by decide) (by decide) (by decide), Gpd_i (j := 0) g9 (by decide) (by decide), Gpd_i (j := 1) g10 (by decide) (by decide), Gpd_i (j := 2) g11 (by decide) (by decide), Gpd_i (j := 3) g12 (by decide) (by decide), fun M42 eM42 => by subst eM42; exact ⟨Gpd_i (j := 4) g13 (by decide) (by decide), st_307 g14 h⟩⟩
set_option maxRecDepth 20000 in
theorem st_159 {q : o_M → Prop} (g : Gst N 83 M) (h : ∀ M, Gst N 119 M → H_X12_init_982 l q 0 M) : H_X12_init_159 l q M := by
  have g2 := Gst_n (f := 22) (len := 40) g (by decide) (by decide) (by decide) (by decide) (by decide)
  have g4 := Gst_n (f := 23) (len := 300) g2 (by decide) (by decide) (by decide) (by decide) (by decide)
  have g6 := Gst_n (f := 26) (len := 11) g4 (by decide) (by decide) (by decide) (by decide) (by decide)
  have g8 := Gst_n (f := 27) (len := 3300) g6 (by decide) (by decide) (by decide) (by decide) (by decide)
  have g10 := Gst_n (f := 28) (len := 3300) g8 (by decide) (by decide) (by decide) (by decide) (by decide)
  have g12 := Gst_n (f := 29) (len := 3300) g10 (by decide) (by decide) (by decide) (by decide) (by decide)
  have g14 := Gst_n (f := 30) (len := 11) g12 (by decide) (by decide) (by decide) (by decide) (by decide)
  have g16 := Gst_n (f := 31) (len := 121) g14 (by decide) (by decide) (by decide) (by decide) (by decide)
  have g18 := Gst_n (f := 32) (len := 11) g16 (by decide) (by decide) (by decide) (by decide) (by decide)
  have g20 := Gst_n (f := 33) (len := 11) g18 (by decide) (by decide) (by decide) (by decide) (by decide)
  exact w_X12_init_159 l q M ⟨Gst_f g (by decide) (by decide) (by decide), Gst_f g2 (by decide) (by decide) (by decide), Gst_f g4 (by decide) (by decide) (by decide), Gst_f g6 (by decide) (by decide) (by decide), Gst_f g8 (by decide) (by decide) (by decide), Gst_f g10 (by decide) (by decide) (by decide), Gst_f g12 (by decide) (by decide) (by decide), Gst_f g14 (by decide) (by decide) (by decide), fun M30 eM30 => by subst eM30; exact ⟨Gst_f g16 (by decide) (by decide) (by decide), Gst_f g18 (by decide) (by decide) (by decide), st_243 g20 h⟩⟩
set_option maxRecDepth 20000 in
theorem st_77 {q : o_M → Prop} (g : Gst N 72 M) (h : ∀ M, Gst N 119 M → H_X12_init_982 l q 0 M) : H_X12_init_77 l q M := by
  have g2 := Gst_n (f := 11) (len := 10) g (by decide) (by decide) (by decide) (by decide) (by decide)
  have g4 := Gst_n (f := 12) (len := 60) g2 (by decide) (by decide) (by decide) (by decide) (by decide)
  have g6 := Gst_n (f := 13) (len := 60) g4 (by decide) (by decide) (by decide) (by decide) (by decide)
  have g8 := Gst_n (f := 15) (len := 40) g6 (by decide) (by decide) (by decide) (by decide) (by decide)
  have g10 := Gst_n (f := 16) (len := 40) g8 (by decide) (by decide) (by decide) (by decide) (by decide)
  have g12 := Gst_n (f := 17) (len := 40) g10 (by decide) (by decide) (by decide) (by decide) (by decide)
  have g14 := Gst_n (f := 18) (len := 40) g12 (by decide) (by decide) (by decide) (by decide) (by decide)
  have g16 := Gst_n (f := 19) (len := 40) g14 (by decide) (by decide) (by decide) (by decide) (by decide)
  have g18 := Gst_n (f := 20) (len := 200) g16 (by decide) (by decide) (by decide) (by decide) (by decide)
  have g20 := Gst_n (f := 21) (len := 480) g18 (by decide) (by decide) (by decide) (by decide) (by decide)
  exact w_X12_init_77 l q M ⟨Gst_f g (by decide) (by decide) (by decide), Gst_f g2 (by decide) (by decide) (by decide), Gst_f g4 (by decide) (by decide) (by decide), Gst_f g6 (by decide) (by decide) (by decide), Gst_f g8 (by decide) (by decide) (by decide), Gst_f g10 (by decide) (by decide) (by decide), Gst_f g12 (by decide) (by decide) (by decide), Gst_f g14 (by decide) (by decide) (by decide), Gst_f g16 (by decide) (by decide) (by decide), fun M20 eM20 => by subst eM20; exact ⟨Gst_f g18 (by decide) (by decide) (by decide), st_159 g20 h⟩⟩
set_option maxRecDepth 20000 in
theorem st_0 {q : o_M → Prop} (g : Gst N 61 M) (h : ∀ M, Gst N 119 M → H_X12_init_982 l q 0 M) : K_X12_init l [rV (some 60)] M q := by
  have g2 := Gst_n (f := 1) (len := 12) g (by decide) (by decide) (by decide) (by decide) (by decide)
  have g4 := Gst_n (f := 2) (len := 12) g2 (by decide) (by decide) (by decide) (by decide) (by decide)
  have g6 := Gst_n (f := 3) (len := 12) g4 (by decide) (by decide) (by decide) (by decide) (by decide)
  have g8 := Gst_n (f := 4) (len := 12) g6 (by decide) (by decide) (by decide) (by decide) (by decide)
  have g10 := Gst_n (f := 5) (len := 12) g8 (by decide) (by decide) (by decide) (by decide) (by decide)
  have g12 := Gst_n (f := 6) (len := 12) g10 (by decide) (by decide) (by decide) (by decide) (by decide)
  have g14 := Gst_n (f := 8) (len := 10) g12 (by decide) (by decide) (by decide) (by decide) (by decide)
  have g16 := Gst_n (f := 9) (len := 10) g14 (by decide) (by decide) (by decide) (by decide) (by decide)
  have g18 := Gst_n (f := 10) (len := 10) g16 (by decide) (by decide) (by decide) (by decide) (by decide)
  exact w_X12_init l M q ⟨Gst_f g (by decide) (by decide) (by decide), Gst_f g2 (by decide) (by decide) (by decide), Gst_f g4 (by decide) (by decide) (by decide), Gst_f g6 (by decide) (by decide) (by decide), Gst_f g8 (by decide) (by decide) (by decide), Gst_f g10 (by decide) (by decide) (by decide), Gst_f g12 (by decide) (by decide) (by decide), Gst_f g14 (by decide) (by decide) (by decide), Gst_f g16 (by decide) (by decide) (by decide), fun M10 eM10 => by subst eM10; exact st_77 g18 h⟩
end S792
