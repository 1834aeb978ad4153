/-! mathematics of the seating -/
/-- how many of the numbers below n have a property -/
def cn (f : Nat → Bool) : Nat → Nat
  | 0 => 0
  | n + 1 => cn f n + (f n).toNat
theorem cn_le (f : Nat → Bool) : ∀ n, cn f n ≤ n
  | 0 => Nat.le_refl _
  | n + 1 => by have := cn_le f n; have : (f n).toNat ≤ 1 := Bool.toNat_le _; simp only [cn]; omega
theorem cn_mono {f g : Nat → Bool} (n : Nat) (h : ∀ k, k < n → f k = true → g k = true) : cn f n ≤ cn g n := by
  induction n with
  | zero => exact Nat.le_refl _
  | succ n ih =>
    have e := ih (fun k hk => h k (by omega))
    have h2 : (f n).toNat ≤ (g n).toNat := by
      cases hf : f n with
      | false => exact Nat.zero_le _
      | true => rw [h n (by omega) hf]; exact Nat.le_refl _
    simp only [cn]; omega
theorem cn_cong {f g : Nat → Bool} (n : Nat) (h : ∀ k, k < n → f k = g k) : cn f n = cn g n := by
  apply Nat.le_antisymm
  · exact cn_mono n fun k hk e => by rw [← h k hk]; exact e
  · exact cn_mono n fun k hk e => by rw [h k hk]; exact e
/-- one number more -/
theorem cn_one {f g : Nat → Bool} {n a : Nat} (ha : a < n) (hf : f a = false) (hg : g a = true) (h : ∀ k, k < n → k ≠ a → f k = g k) : cn g n = cn f n + 1 := by
  induction n with
  | zero => omega
  | succ n ih =>
    by_cases hn : n = a
    · subst hn
      simp only [cn, hf, hg, Bool.toNat_true, Bool.toNat_false]
      rw [cn_cong (f := g) (g := f) n fun k hk => (h k (by omega) (by omega)).symm]
    · have e := ih (by omega) (fun k hk => h k (by omega))
      simp only [cn, e, h n (by omega) hn]; omega
theorem cn_lt {f : Nat → Bool} {n a : Nat} (ha : a < n) (hf : f a = false) : cn f n < n := by
  have e := cn_one (f := f) (g := fun k => if k = a then true else f k) ha hf (by simp) (fun k _ hk => by simp [hk])
  have := cn_le (fun k => if k = a then true else f k) n
  omega
theorem cn_0 {f : Nat → Bool} (n : Nat) (h : ∀ k, k < n → f k = false) : cn f n = 0 := by
  induction n with
  | zero => rfl
  | succ n ih => simp only [cn, ih (fun k hk => h k (by omega)), h n (by omega)]; rfl
theorem cn_all {f : Nat → Bool} (n : Nat) (h : cn f n = n) : ∀ k, k < n → f k = true := by
  intro k hk
  cases hf : f k with
  | true => rfl
  | false => have := cn_lt hk hf; omega
/-- numbers from c on below n -/
def cf (f : Nat → Bool) (c n : Nat) : Nat := cn (fun k => decide (c ≤ k) && f k) n
theorem cf_n (f : Nat → Bool) (n : Nat) : cf f n n = 0 := cn_0 n fun k hk => by simp; intro; omega
theorem cf_s {f : Nat → Bool} {c n : Nat} (hc : c < n) : cf f c n = cf f (c + 1) n + (f c).toNat := by
  unfold cf
  cases hf : f c with
  | true =>
    refine (cn_one (a := c) hc ?_ ?_ ?_)
    · simp; omega
    · simp [hf]
    · intro k _ hk
      have : decide (c + 1 ≤ k) = decide (c ≤ k) := by apply decide_eq_decide.mpr; omega
      rw [this]
  | false =>
    simp only [Bool.toNat_false, Nat.add_zero]
    apply cn_cong
    intro k _
    by_cases hk : k = c
    · subst hk; simp [hf]
    · have : decide (c + 1 ≤ k) = decide (c ≤ k) := by apply decide_eq_decide.mpr; omega
      rw [this]
theorem cf_cong {f g : Nat → Bool} {c n : Nat} (h : ∀ k, c ≤ k → k < n → f k = g k) : cf f c n = cf g c n := by
  unfold cf
  apply cn_cong
  intro k hk
  by_cases hc : c ≤ k
  · simp [hc, h k hc hk]
  · simp [hc]
theorem cf_0 (f : Nat → Bool) (n : Nat) : cf f 0 n = cn f n := cn_cong n fun k _ => by simp
/-- a player more in a set of players -/
def bs (S p : Nat) : Nat := S ||| 1 <<< p
theorem bs_t (S p q : Nat) : (bs S p).testBit q = (S.testBit q || decide (p = q)) := by
  unfold bs
  rw [Nat.testBit_or, Nat.testBit_shiftLeft]
  by_cases h : p = q
  · subst h; simp
  · by_cases h2 : q ≥ p
    · obtain ⟨k, hk⟩ : ∃ k, q - p = k + 1 := ⟨q - p - 1, by omega⟩
      simp [h, hk, Nat.testBit_succ]
    · simp [h, h2]
      
/-- the reckoned table: the most chairs from c on that can be filled by players out of the set -/
def fl (can : Nat → Nat → Bool) (P : Nat) : Nat → Nat → Nat → Nat
  | 0, _, _ => 0
  | m + 1, c, S => lp (fun p a => if can c p && !S.testBit p then (if a < 1 + fl can P m (c + 1) (bs S p) then 1 + fl can P m (c + 1) (bs S p) else a) else a) (fl can P m (c + 1) S) P
theorem lp_max_ge (g : Nat → Bool) (v : Nat → Nat) (a0 : Nat) : ∀ n, a0 ≤ lp (fun p a => if g p then (if a < v p then v p else a) else a) a0 n ∧ ∀ p, p < n → g p = true → v p ≤ lp (fun p a => if g p then (if a < v p then v p else a) else a) a0 n := by
  intro n
  induction n with
  | zero => exact ⟨Nat.le_refl _, fun p hp => absurd hp (by omega)⟩
  | succ n ih =>
    simp only [lp]
    generalize lp (fun p a => if g p then (if a < v p then v p else a) else a) a0 n = z at *
    obtain ⟨h1, h2⟩ := ih
    constructor
    · split
      · split <;> omega
      · exact h1
    · intro p hp hg
      by_cases hpn : p = n
      · subst hpn
        rw [if_pos hg]
        split <;> omega
      · have := h2 p (by omega) hg
        split
        · split <;> omega
        · exact this
theorem lp_max_le (g : Nat → Bool) (v : Nat → Nat) (a0 b : Nat) : ∀ n, a0 ≤ b → (∀ p, p < n → g p = true → v p ≤ b) → lp (fun p a => if g p then (if a < v p then v p else a) else a) a0 n ≤ b := by
  intro n
  induction n with
  | zero => intro h _; exact h
  | succ n ih =>
    intro h1 h2
    have e := ih h1 (fun p hp => h2 p (by omega))
    simp only [lp]
    split
    · next hg => have := h2 n (by omega) hg; split <;> omega
    · exact e
theorem fl_none (can : Nat → Nat → Bool) (P m c S : Nat) : fl can P m (c + 1) S ≤ fl can P (m + 1) c S := (lp_max_ge _ _ _ P).1
theorem fl_some {can : Nat → Nat → Bool} {P m c S p : Nat} (hp : p < P) (hc : can c p = true) (hs : S.testBit p = false) : 1 + fl can P m (c + 1) (bs S p) ≤ fl can P (m + 1) c S :=
  (lp_max_ge (fun p => can c p && !S.testBit p) (fun p => 1 + fl can P m (c + 1) (bs S p)) _ P).2 p hp (by simp [hc, hs])
theorem fl_le {can : Nat → Nat → Bool} {P m c S b : Nat} (h0 : fl can P m (c + 1) S ≤ b) (h1 : ∀ p, p < P → can c p = true → S.testBit p = false → 1 + fl can P m (c + 1) (bs S p) ≤ b) : fl can P (m + 1) c S ≤ b :=
  lp_max_le (fun p => can c p && !S.testBit p) (fun p => 1 + fl can P m (c + 1) (bs S p)) _ b P h0 fun p hp hg => by
    simp only [Bool.and_eq_true, Bool.not_eq_true'] at hg
    exact h1 p hp hg.1 hg.2
theorem fl_m (can : Nat → Nat → Bool) (P : Nat) : ∀ m c S, fl can P m c S ≤ m
  | 0, _, _ => Nat.le_refl _
  | m + 1, c, S => fl_le (by have := fl_m can P m (c + 1) S; omega) fun p _ _ _ => by have := fl_m can P m (c + 1) (bs S p); omega
/-- a seating: h the player of a chair, g the chair of a player -/
def Mt (can : Nat → Nat → Bool) (P n : Nat) (h g : Nat → Option Nat) : Prop := (∀ c p, h c = some p ↔ g p = some c) ∧ ∀ c p, h c = some p → c < n ∧ p < P ∧ can c p = true
/-- how many chairs from c on are filled -/
def sz (h : Nat → Option Nat) (c n : Nat) : Nat := cf (fun k => (h k).isSome) c n
theorem sz_le_fl {can : Nat → Nat → Bool} {P n : Nat} {h g : Nat → Option Nat} (hM : Mt can P n h g) : ∀ m c S, c + m = n → (∀ k p, c ≤ k → h k = some p → S.testBit p = false) → sz h c n ≤ fl can P m c S := by
  intro m
  induction m with
  | zero => intro c S hc _; have : c = n := by omega
            subst this; rw [sz, cf_n]; exact Nat.zero_le _
  | succ m ih =>
    intro c S hc hS
    unfold sz
    rw [cf_s (by omega)]
    cases hh : h c with
    | none =>
      have e := ih (c + 1) S (by omega) (fun k p hk => hS k p (by omega))
      have e2 := fl_none can P m c S
      unfold sz at e
      simp only [Option.isSome_none, Bool.toNat_false]; omega
    | some p =>
      have hp := hM.2 c p hh
      have e := ih (c + 1) (bs S p) (by omega) (fun k p' hk hh' => by
        rw [bs_t, hS k p' (by omega) hh']
        simp
        intro z
        subst z
        have := (hM.1 c p).mp hh
        have h2 := (hM.1 k p).mp hh'
        rw [this] at h2
        cases h2; omega)
      have e2 := fl_some (m := m) hp.2.1 hp.2.2 (hS c p (Nat.le_refl _) hh)
      unfold sz at e
      simp only [Option.isSome_some, Bool.toNat_true]; omega
/-- a cover: chairs Q whose players all lie in Y (or in the set) bound the table -/
theorem fl_cover {can : Nat → Nat → Bool} {P n : Nat} (Q Y : Nat → Bool) : ∀ m c S, c + m = n → (∀ k p, c ≤ k → k < n → Q k = true → p < P → can k p = true → S.testBit p = true ∨ Y p = true) → fl can P m c S ≤ cf (fun k => !Q k) c n + cn (fun p => Y p && !S.testBit p) P := by
  intro m
  induction m with
  | zero => intro c S _ _; exact Nat.zero_le _
  | succ m ih =>
    intro c S hc hQ
    refine fl_le ?_ ?_
    · have e := ih (c + 1) S (by omega) (fun k p hk => hQ k p (by omega))
      have e2 := cf_s (f := fun k => !Q k) (c := c) (n := n) (by omega)
      omega
    · intro p hp hcan hs
      have e := ih (c + 1) (bs S p) (by omega) (fun k p' hk hkn hq hp' hc' => by
        rcases hQ k p' (by omega) hkn hq hp' hc' with h | h
        · left; rw [bs_t, h]; rfl
        · right; exact h)
      have e2 := cf_s (f := fun k => !Q k) (c := c) (n := n) (by omega)
      have e3 : cn (fun p' => Y p' && !(bs S p).testBit p') P ≤ cn (fun p' => Y p' && !S.testBit p') P := cn_mono P fun k _ h => by
        simp only [bs_t, Bool.and_eq_true, Bool.not_eq_true', Bool.or_eq_false_iff] at h ⊢
        exact ⟨h.1, h.2.1⟩
      cases hq : Q c with
      | false => rw [hq] at e2; simp only [Bool.not_false, Bool.toNat_true] at e2; omega
      | true =>
        have hY : Y p = true := by
          rcases hQ c p (Nat.le_refl _) (by omega) hq hp hcan with h | h
          · rw [hs] at h; cases h
          · exact h
        have e4 := cn_one (f := fun p' => Y p' && !(bs S p).testBit p') (g := fun p' => Y p' && !S.testBit p') hp (by simp [bs_t]) (by simp [hY, hs]) (fun k _ hk => by
          have : decide (p = k) = false := by simp; omega
          simp [bs_t, this])
        rw [hq] at e2; simp only [Bool.not_true, Bool.toNat_false] at e2; omega
