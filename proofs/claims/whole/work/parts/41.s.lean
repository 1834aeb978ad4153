/-! mathematics of the programme -/
/-- a sum over the works of a set -/
def sm (f : Nat → Bool) (x : Nat → Int) : Nat → Int
  | 0 => 0
  | n + 1 => sm f x n + (if f n then x n else 0)
theorem sm_cong {f g : Nat → Bool} {x : Nat → Int} (n : Nat) (h : ∀ k, k < n → f k = g k) : sm f x n = sm g x n := by
  induction n with
  | zero => rfl
  | succ n ih => simp only [sm, ih (fun k hk => h k (by omega)), h n (by omega)]
theorem sm_nn {f : Nat → Bool} {x : Nat → Int} (n : Nat) (h : ∀ k, k < n → 0 ≤ x k) : 0 ≤ sm f x n := by
  induction n with
  | zero => exact Int.le_refl _
  | succ n ih =>
    have := ih (fun k hk => h k (by omega))
    have := h n (by omega)
    simp only [sm]; split <;> omega
theorem sm_le {f : Nat → Bool} {x : Nat → Int} {b : Int} (n : Nat) (h : ∀ k, k < n → 0 ≤ x k ∧ x k ≤ b) : sm f x n ≤ b * n := by
  induction n with
  | zero => simp [sm]
  | succ n ih =>
    have e := ih (fun k hk => h k (by omega))
    have := h n (by omega)
    have e2 : b * ((n + 1 : Nat) : Int) = b * n + b := by rw [Int.natCast_add, Int.mul_add]; simp
    simp only [sm]; split <;> omega
/-- the reversed bits of a set from i on, with m bits left -/
def rvT (f : Nat → Bool) : Nat → Nat → Nat
  | 0, _ => 0
  | m + 1, i => (if f i then 2 ^ m else 0) + rvT f m (i + 1)
theorem rvT_lt (f : Nat → Bool) : ∀ m i, rvT f m i < 2 ^ m
  | 0, _ => by simp [rvT]
  | m + 1, i => by have := rvT_lt f m (i + 1); simp only [rvT, Nat.pow_succ]; split <;> omega
/-- which of two sets comes first in its least difference -/
def lexT (f g : Nat → Bool) : Nat → Nat → Bool
  | 0, _ => false
  | m + 1, i => if f i = g i then lexT f g m (i + 1) else f i
theorem lexT_iff (f g : Nat → Bool) : ∀ m i, lexT f g m i = true ↔ rvT g m i < rvT f m i
  | 0, _ => by simp [lexT, rvT]
  | m + 1, i => by
    have e := lexT_iff f g m (i + 1)
    have h1 := rvT_lt f m (i + 1)
    have h2 := rvT_lt g m (i + 1)
    simp only [lexT, rvT]
    cases hf : f i <;> cases hg : g i <;> simp <;> omega
theorem lexT_ex (f g : Nat → Bool) : ∀ m i, lexT f g m i = true ↔ ∃ k, i ≤ k ∧ k < i + m ∧ f k = true ∧ g k = false ∧ ∀ j, i ≤ j → j < k → f j = g j
  | 0, i => by simp [lexT]; intros; omega
  | m + 1, i => by
    have e := lexT_ex f g m (i + 1)
    simp only [lexT]
    by_cases h : f i = g i
    · rw [if_pos h, e]
      constructor
      · rintro ⟨k, h1, h2, h3, h4, h5⟩
        refine ⟨k, by omega, by omega, h3, h4, fun j hj hk => ?_⟩
        by_cases hji : j = i
        · subst hji; exact h
        · exact h5 j (by omega) hk
      · rintro ⟨k, h1, h2, h3, h4, h5⟩
        have hk : k ≠ i := fun z => by subst z; rw [h3, h4] at h; cases h
        exact ⟨k, by omega, by omega, h3, h4, fun j hj hk => h5 j (by omega) hk⟩
    · rw [if_neg h]
      constructor
      · intro hf
        refine ⟨i, Nat.le_refl _, by omega, hf, ?_, fun j hj hk => by omega⟩
        rw [hf] at h
        cases hg : g i with
        | false => rfl
        | true => rw [hg] at h; exact absurd rfl h
      · rintro ⟨k, h1, h2, h3, h4, h5⟩
        by_cases hk : k = i
        · subst hk; exact h3
        · exact absurd (h5 i (Nat.le_refl _) (by omega)) h
/-- equal reversed bits: equal sets -/
theorem rvT_inj (f g : Nat → Bool) : ∀ m i, rvT f m i = rvT g m i → ∀ k, i ≤ k → k < i + m → f k = g k
  | 0, _ => fun _ k _ _ => by omega
  | m + 1, i => fun h k h1 h2 => by
    have b1 := rvT_lt f m (i + 1)
    have b2 := rvT_lt g m (i + 1)
    simp only [rvT] at h
    have hi : f i = g i := by
      cases hf : f i <;> cases hg : g i <;> simp [hf, hg] at h ⊢ <;> omega
    by_cases hk : k = i
    · subst hk; exact hi
    · rw [hi] at h
      exact rvT_inj f g m (i + 1) (by omega) k (by omega) (by omega)
/-- bits out of the reversed number -/
theorem rvT_bit (f : Nat → Bool) : ∀ m i k, i ≤ k → k < i + m → (rvT f m i).testBit (i + m - 1 - k) = f k
  | 0, _ => fun k _ _ => by omega
  | m + 1, i => fun k h1 h2 => by
    have b1 := rvT_lt f m (i + 1)
    simp only [rvT]
    by_cases hk : k = i
    · subst hk
      rw [show k + (m + 1) - 1 - k = m by omega]
      cases hf : f k with
      | true => simp only [if_true]; rw [Nat.testBit_two_pow_add_eq, Nat.testBit_lt_two_pow b1]; rfl
      | false => simp; exact Nat.testBit_lt_two_pow b1
    · have e := rvT_bit f m (i + 1) k (by omega) (by omega)
      rw [show i + (m + 1) - 1 - k = i + 1 + m - 1 - k by omega]
      cases hf : f i with
      | true => simp only [if_true]; rw [Nat.testBit_two_pow_add_gt (by omega)]; exact e
      | false => simp only [Bool.false_eq_true, if_false, Nat.zero_add]; exact e
theorem rvT_cong {f g : Nat → Bool} : ∀ m i, (∀ k, i ≤ k → k < i + m → f k = g k) → rvT f m i = rvT g m i
  | 0, _ => fun _ => rfl
  | m + 1, i => fun h => by simp only [rvT, h i (Nat.le_refl _) (by omega), rvT_cong m (i + 1) (fun k h1 h2 => h k (by omega) (by omega))]
theorem rvT_0 {f : Nat → Bool} : ∀ m i, (∀ k, i ≤ k → k < i + m → f k = false) → rvT f m i = 0
  | 0, _ => fun _ => rfl
  | m + 1, i => fun h => by simp only [rvT, h i (Nat.le_refl _) (by omega), rvT_0 m (i + 1) (fun k h1 h2 => h k (by omega) (by omega))]; rfl
/-- as a sum of bits, work by work -/
theorem rvT_sm (f : Nat → Bool) : ∀ i m, i + m = 12 → ((rvT f 12 0 : Nat) : Int) = sm f (fun k => ((2 ^ (11 - k) : Nat) : Int)) i + ((rvT f m i : Nat) : Int) := by
  intro i
  induction i with
  | zero => intro m hm; have : m = 12 := by omega
            subst this; simp [sm]
  | succ i ih =>
    intro m hm
    rw [ih (m + 1) (by omega)]
    simp only [sm, rvT]
    rw [show 11 - i = m by omega]
    split <;> simp <;> omega
/-- the rank of a set of the first n works -/
def rk (f : Nat → Bool) (pr : Nat → Int) (n : Nat) : Int := sm f (fun k => 4096 * pr k - ((2 ^ (11 - k) : Nat) : Int)) n
theorem sm_sub (f : Nat → Bool) (x y : Nat → Int) (c : Int) (n : Nat) : sm f (fun k => c * x k - y k) n = c * sm f x n - sm f y n := by
  induction n with
  | zero => simp [sm]
  | succ n ih => simp only [sm, ih, Int.mul_add]; split <;> (try simp) <;> omega
theorem rk_eq {f : Nat → Bool} {pr : Nat → Int} {n : Nat} (hn : n ≤ 12) (h0 : ∀ k, n ≤ k → f k = false) : rk f pr n = 4096 * sm f pr n - ((rvT f 12 0 : Nat) : Int) := by
  rw [rk, sm_sub, rvT_sm f n (12 - n) (by omega), rvT_0 (12 - n) n (fun k h1 _ => h0 k h1)]
  simp
/-- comes first: the less price, or of like ones the one with the least work in which they differ -/
theorem rk_lt {f g : Nat → Bool} {pr : Nat → Int} {n : Nat} (hn : n ≤ 12) (hf : ∀ k, n ≤ k → f k = false) (hg : ∀ k, n ≤ k → g k = false) : rk f pr n < rk g pr n ↔ (sm f pr n < sm g pr n ∨ sm f pr n = sm g pr n ∧ lexT f g 12 0 = true) := by
  have b1 := rvT_lt f 12 0
  have b2 := rvT_lt g 12 0
  rw [rk_eq hn hf, rk_eq hn hg, lexT_iff]
  have : (2 : Nat) ^ 12 = 4096 := rfl
  omega
theorem rk_inj {f g : Nat → Bool} {pr : Nat → Int} {n : Nat} (hn : n ≤ 12) (hf : ∀ k, n ≤ k → f k = false) (hg : ∀ k, n ≤ k → g k = false) (h : rk f pr n = rk g pr n) : ∀ k, f k = g k := by
  have b1 := rvT_lt f 12 0
  have b2 := rvT_lt g 12 0
  rw [rk_eq hn hf, rk_eq hn hg] at h
  have : (2 : Nat) ^ 12 = 4096 := rfl
  have e : rvT f 12 0 = rvT g 12 0 := by omega
  intro k
  by_cases hk : k < 12
  · exact rvT_inj f g 12 0 e k (Nat.zero_le _) (by omega)
  · rw [hf k (by omega), hg k (by omega)]
/-- the table of least ranks: for each sum of minutes the least rank of a set that has it -/
def Tab (el : Nat → Bool) (mn pr : Nat → Int) (n : Nat) (T : Int → Option Int) : Prop :=
  (∀ f : Nat → Bool, (∀ k, f k = true → k < n ∧ el k = true) → ∃ r, T (sm f mn n) = some r ∧ r ≤ rk f pr n) ∧
  (∀ m r, T m = some r → ∃ f : Nat → Bool, (∀ k, f k = true → k < n ∧ el k = true) ∧ sm f mn n = m ∧ rk f pr n = r)
theorem Tab_0 (el : Nat → Bool) (mn pr : Nat → Int) : Tab el mn pr 0 (fun m => if m = 0 then some 0 else none) := by
  constructor
  · intro f _; exact ⟨0, by simp [sm], by simp [rk, sm]⟩
  · intro m r h
    have h : (if m = 0 then some 0 else none) = some r := h
    by_cases hm : m = 0
    · rw [if_pos hm] at h; cases h
      exact ⟨fun _ => false, fun k hk => (by cases hk), by simp [sm, hm], by simp [rk, sm]⟩
    · rw [if_neg hm] at h; cases h
def omin (a b : Option Int) : Option Int := match a, b with
  | none, b => b
  | some x, none => some x
  | some x, some y => some (if x ≤ y then x else y)
/-- a work that can't be taken -/
theorem Tab_no {el : Nat → Bool} {mn pr : Nat → Int} {n : Nat} {T : Int → Option Int} (h : Tab el mn pr n T) (he : el n = false) : Tab el mn pr (n + 1) T := by
  constructor
  · intro f hf
    have hn : f n = false := by
      cases hfn : f n with
      | false => rfl
      | true => rw [(hf n hfn).2] at he; cases he
    obtain ⟨r, h1, h2⟩ := h.1 f (fun k hk => ⟨by have := (hf k hk).1; have : k ≠ n := fun z => by rw [z, hn] at hk; cases hk
                                                 omega, (hf k hk).2⟩)
    refine ⟨r, ?_, ?_⟩
    · simp only [sm, hn]; simpa using h1
    · simp only [rk, sm, hn]; simpa [rk] using h2
  · intro m r hr
    obtain ⟨f, h1, h2, h3⟩ := h.2 m r hr
    have hn : f n = false := by
      cases hfn : f n with
      | false => rfl
      | true => have := (h1 n hfn).1; omega
    refine ⟨f, fun k hk => ⟨by have := (h1 k hk).1; omega, (h1 k hk).2⟩, ?_, ?_⟩
    · simp only [sm, hn]; simpa using h2
    · simp only [rk, sm, hn]; simpa [rk] using h3
/-- a work that can be taken -/
theorem Tab_yes {el : Nat → Bool} {mn pr : Nat → Int} {n : Nat} {T : Int → Option Int} (h : Tab el mn pr n T) (he : el n = true) : Tab el mn pr (n + 1) (fun m => omin (T m) ((T (m - mn n)).map fun r => r + (4096 * pr n - ((2 ^ (11 - n) : Nat) : Int)))) := by
  constructor
  · intro f hf
    cases hn : f n with
    | false =>
      obtain ⟨r, h1, h2⟩ := h.1 f (fun k hk => ⟨by have := (hf k hk).1; have : k ≠ n := fun z => by rw [z, hn] at hk; cases hk
                                                   omega, (hf k hk).2⟩)
      have e1 : sm f mn (n + 1) = sm f mn n := by simp [sm, hn]
      have e2 : rk f pr (n + 1) = rk f pr n := by simp [rk, sm, hn]
      rw [e1, e2]
      simp only [h1]
      cases (T (sm f mn n - mn n)) with
      | none => exact ⟨r, rfl, h2⟩
      | some y => refine ⟨_, rfl, ?_⟩
                  split <;> omega
    | true =>
      let g : Nat → Bool := fun k => if k = n then false else f k
      have hgf : ∀ k, k < n → g k = f k := fun k hk => by simp only [g]; rw [if_neg (by omega)]
      obtain ⟨r, h1, h2⟩ := h.1 g (fun k hk => by
        by_cases hkn : k = n
        · simp [g, hkn] at hk
        · simp only [g, if_neg hkn] at hk
          exact ⟨by have := (hf k hk).1; omega, (hf k hk).2⟩)
      have e1 : sm f mn (n + 1) = sm g mn n + mn n := by simp only [sm, hn]; rw [sm_cong (f := g) (g := f) n hgf]; simp
      have e2 : rk f pr (n + 1) = rk g pr n + (4096 * pr n - ((2 ^ (11 - n) : Nat) : Int)) := by simp only [rk, sm, hn]; rw [sm_cong (f := g) (g := f) n hgf]; simp
      rw [e1, e2]
      simp only [show sm g mn n + mn n - mn n = sm g mn n by omega, h1, Option.map_some]
      cases (T (sm g mn n + mn n)) with
      | none => exact ⟨_, rfl, by omega⟩
      | some y => refine ⟨_, rfl, ?_⟩
                  split <;> omega
  · intro m r hr
    have back : ∀ x, T m = some x → ∃ f : Nat → Bool, (∀ k, f k = true → k < n + 1 ∧ el k = true) ∧ sm f mn (n + 1) = m ∧ rk f pr (n + 1) = x := by
      intro x hx
      obtain ⟨f, h1, h2, h3⟩ := h.2 m x hx
      have hn : f n = false := by
        cases hfn : f n with
        | false => rfl
        | true => have := (h1 n hfn).1; omega
      refine ⟨f, fun k hk => ⟨by have := (h1 k hk).1; omega, (h1 k hk).2⟩, ?_, ?_⟩
      · simp only [sm, hn]; simpa using h2
      · simp only [rk, sm, hn]; simpa [rk] using h3
    have fwd : ∀ x, T (m - mn n) = some x → ∃ f : Nat → Bool, (∀ k, f k = true → k < n + 1 ∧ el k = true) ∧ sm f mn (n + 1) = m ∧ rk f pr (n + 1) = x + (4096 * pr n - ((2 ^ (11 - n) : Nat) : Int)) := by
      intro x hx
      obtain ⟨f, h1, h2, h3⟩ := h.2 _ x hx
      have hc : ∀ k, k < n → (if k = n then true else f k) = f k := fun k hk => by rw [if_neg (by omega)]
      refine ⟨fun k => if k = n then true else f k, fun k hk => ?_, ?_, ?_⟩
      · by_cases hkn : k = n
        · subst hkn; exact ⟨by omega, he⟩
        · simp only [if_neg hkn] at hk; exact ⟨by have := (h1 k hk).1; omega, (h1 k hk).2⟩
      · simp only [sm]; rw [sm_cong (g := f) n hc]; simp; omega
      · simp only [rk, sm]; rw [sm_cong (g := f) n hc]; simp; rw [rk] at h3; simp at h3; omega
    cases hT : T m with
    | none =>
      simp only [hT] at hr
      cases hT2 : T (m - mn n) with
      | none => simp [hT2, omin] at hr
      | some y =>
        simp only [hT2, omin, Option.map_some, Option.some.injEq] at hr
        subst hr; exact fwd y hT2
    | some x =>
      simp only [hT] at hr
      cases hT2 : T (m - mn n) with
      | none => simp only [hT2, omin, Option.map_none, Option.some.injEq] at hr; subst hr; exact back x hT
      | some y =>
        simp only [hT2, omin, Option.map_some, Option.some.injEq] at hr
        split at hr
        · subst hr; exact back x hT
        · subst hr; exact fwd y hT2
