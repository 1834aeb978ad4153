/-! the class's seater: taking a chair, settling -/
section S63
variable {l : Launch} {M : o_M} {nw np ns nt T : Nat}
theorem fo_1 {f : Nat → Option Nat} {k : Nat} {x : Option Nat} : fo f k x k = x := by unfold fo; rw [if_pos rfl]
theorem fo_2 {f : Nat → Option Nat} {k j : Nat} {x : Option Nat} (h : j ≠ k) : fo f k x j = f j := by unfold fo; rw [if_neg h]
theorem Mt_clr {can : Nat → Nat → Bool} {P n k p : Nat} {h g : Nat → Option Nat} (hM : Mt can P n h g) (hk : h k = some p) : Mt can P n (fo h k none) (fo g p none) := by
  refine ⟨fun c x => ?_, fun c x hc => ?_⟩
  · by_cases hck : c = k
    · subst hck
      rw [fo_1]
      by_cases hxp : x = p
      · subst hxp; rw [fo_1]; exact ⟨fun z => (by cases z), fun z => (by cases z)⟩
      · rw [fo_2 hxp]
        refine ⟨fun z => (by cases z), fun z => ?_⟩
        have := (hM.1 c x).mpr z
        rw [hk] at this
        exact absurd (Option.some.inj this).symm hxp
    · rw [fo_2 hck]
      by_cases hxp : x = p
      · subst hxp; rw [fo_1]
        refine ⟨fun z => ?_, fun z => (by cases z)⟩
        have h1 := (hM.1 c x).mp z
        have h2 := (hM.1 k x).mp hk
        rw [h1] at h2
        exact absurd (Option.some.inj h2) hck
      · rw [fo_2 hxp]; exact hM.1 c x
  · by_cases hck : c = k
    · subst hck; rw [fo_1] at hc; cases hc
    · rw [fo_2 hck] at hc; exact hM.2 c x hc
theorem Mt_set {can : Nat → Nat → Bool} {P n k p : Nat} {h g : Nat → Option Nat} (hM : Mt can P n h g) (hk : h k = none) (hg : g p = none) (hkn : k < n) (hp : p < P) (hc : can k p = true) : Mt can P n (fo h k (some p)) (fo g p (some k)) := by
  refine ⟨fun c x => ?_, fun c x hcx => ?_⟩
  · by_cases hck : c = k
    · subst hck
      rw [fo_1]
      by_cases hxp : x = p
      · subst hxp; rw [fo_1]; exact ⟨fun _ => rfl, fun _ => rfl⟩
      · rw [fo_2 hxp, ← hM.1, hk]
        exact ⟨fun z => absurd (Option.some.inj z).symm hxp, fun z => (by cases z)⟩
    · rw [fo_2 hck]
      by_cases hxp : x = p
      · subst hxp; rw [fo_1, hM.1, hg]
        exact ⟨fun z => (by cases z), fun z => absurd (Option.some.inj z).symm hck⟩
      · rw [fo_2 hxp]; exact hM.1 c x
  · by_cases hck : c = k
    · subst hck; rw [fo_1] at hcx; cases hcx; exact ⟨hkn, hp, hc⟩
    · rw [fo_2 hck] at hcx; exact hM.2 c x hcx
theorem sz_set {h : Nat → Option Nat} {c k n p : Nat} (hk : h k = none) (hck : c ≤ k) (hkn : k < n) : sz (fo h k (some p)) c n = sz h c n + 1 := by
  unfold sz cf
  refine cn_one (a := k) hkn ?_ ?_ ?_
  · show (decide (c ≤ k) && (h k).isSome) = false
    rw [hk]; simp
  · show (decide (c ≤ k) && (fo h k (some p) k).isSome) = true
    rw [fo_1]; simp [hck]
  · intro j _ hj
    show (decide (c ≤ j) && (h j).isSome) = (decide (c ≤ j) && (fo h k (some p) j).isSome)
    rw [fo_2 hj]
theorem sz_clr {h : Nat → Option Nat} {c k n p : Nat} (hk : h k = some p) (hck : c ≤ k) (hkn : k < n) : sz h c n = sz (fo h k none) c n + 1 := by
  unfold sz cf
  refine cn_one (a := k) hkn ?_ ?_ ?_
  · show (decide (c ≤ k) && (fo h k none k).isSome) = false
    rw [fo_1]; simp
  · show (decide (c ≤ k) && (h k).isSome) = true
    rw [hk]; simp [hck]
  · intro j _ hj
    show (decide (c ≤ j) && (fo h k none j).isSome) = (decide (c ≤ j) && (h j).isSome)
    rw [fo_2 hj]
theorem sz_split {h : Nat → Option Nat} {c n : Nat} (hc : c < n) : sz h c n = sz h (c + 1) n + (h c).isSome.toNat := cf_s hc
/-- what a chair's state says: players below are settled, those from it on are not, as many as can be -/
def St (can : Nat → Nat → Bool) (P n c S : Nat) (h g : Nat → Option Nat) : Prop := Mt can P n h g ∧ (∀ k x, k < c → h k = some x → S.testBit x = true) ∧ (∀ k x, c ≤ k → h k = some x → S.testBit x = false) ∧ sz h c n = fl can P (n - c) c S
theorem bs_lt {S p : Nat} (hS : S < 1024) (hp : p < 10) : bs S p < 1024 := by
  unfold bs
  apply Nat.or_lt_two_pow (n := 10) hS
  rw [Nat.one_shiftLeft]
  exact Nat.pow_lt_pow_right (by decide) hp
/-- a player that takes a chair with none lost -/
theorem take_ok {can : Nat → Nat → Bool} {P n c S p : Nat} {h h' g' : Nat → Option Nat} (hcn : c < n) (hpS : S.testBit p = false) (hM : Mt can P n h' g') (hc : h' c = some p) (hlow : ∀ k x, k < c → h' k = some x → S.testBit x = true) (hhi : ∀ k x, c + 1 ≤ k → h' k = some x → (bs S p).testBit x = false) (hsz : sz h' c n = fl can P (n - c) c S) : 1 + fl can P (n - c - 1) (c + 1) (bs S p) = fl can P (n - c) c S ∧ St can P n (c + 1) (bs S p) h' g' := by
  have e1 := sz_split (h := h') hcn
  rw [hc] at e1
  simp only [Option.isSome_some, Bool.toNat_true] at e1
  have e2 := sz_le_fl hM (n - c - 1) (c + 1) (bs S p) (by omega) (fun k x hk hx => hhi k x hk hx)
  have hmc := (hM.2 c p hc)
  have e3 : 1 + fl can P (n - c - 1) (c + 1) (bs S p) ≤ fl can P (n - c - 1 + 1) c S := fl_some (m := n - c - 1) hmc.2.1 hmc.2.2 hpS
  rw [show n - c - 1 + 1 = n - c by omega] at e3
  refine ⟨by omega, hM, fun k x hk hx => ?_, hhi, ?_⟩
  · rw [bs_t]
    by_cases hkc : k = c
    · subst hkc; rw [hc] at hx; cases hx; simp
    · rw [hlow k x (by omega) hx]; rfl
  · rw [show n - (c + 1) = n - c - 1 by omega]; omega
theorem c5_canTake (hX : wX M) {P n c S p : Nat} {fm : Nat → Nat} {h g : Nat → Option Nat} (hP : P ≤ 10) (hn : n ≤ 12) (hcn : c < n) (hS : S < 1024) (hfm : ∀ c, c < n → fm c < 1024 ∧ ∀ p, (fm c).testBit p = true → p < P) (hcan : cnf fm c p = true) (hpS : S.testBit p = false) (hSt : St (cnf fm) P n c S h g) (hSR : SR M n S fm h g) (q : Int32 → o_M → Prop)
    (h1 : ∀ N' h' g' S', (S' = S ∨ S' = bs S p) → Sm M N' → SR N' n S' fm h' g' → Mt (cnf fm) P n h' g' → h' c = some p → (∀ k, k < c → h' k = h k) → (∀ k x, c + 1 ≤ k → h' k = some x → (bs S p).testBit x = false) → sz h' c n = sz h c n → q 1 N') (h0 : ∀ N', Sm M N' → SR N' n S fm h g → 1 + fl (cnf fm) P (n - c - 1) (c + 1) (bs S p) < fl (cnf fm) P (n - c) c S → q 0 N') : K_X5_canTake l [rV (some 29), iV (nI c), iV (nI p)] M q := by
  obtain ⟨hM, hlow, hhi, hmax⟩ := hSt
  have hSR' := hSR
  obtain ⟨s1, s2, s3, s4, s5⟩ := hSR
  have hpP : p < P := (hfm c hcn).2 p hcan
  have hhb : ∀ k x, h k = some x → x < 10 := fun k x e => by have := (hM.2 k x e).2.1; omega
  have hgb : ∀ x k, g x = some k → k < n := fun x k e => (hM.2 k x ((hM.1 k x).mpr e)).1
  have v12 : ∀ k, k < 12 → vp_in (nI k) 12 := fun k hk => vin hk (by decide)
  have v10 : ∀ k, k < 10 → vp_in (nI k) 10 := fun k hk => vin hk (by decide)
  refine w_X5_canTake l _ _ M q ?_
  rw [nI_clamp (by omega), nI_clamp (by omega), s4 c (by omega), s5 p (by omega), xn31 hX, xn32 hX]
  refine ⟨xr29_1 hX, v12 c (by omega), xr29_2 hX, v10 p (by omega), fun hne => ?_, fun heq => ?_⟩
  · have hcp : ¬ h c = some p := fun e => hne (by rw [e]; rfl)
    refine ⟨fun e1 => ⟨fun e2 => ?_, fun e2 => ?_⟩, fun e1 => ⟨xr29_2 hX, ?_, fun e2 => ?_, fun e2 => ?_⟩⟩
    · -- both free: there would be one more
      have hc0 := (oI_n1 (fun x hx => by have := hhb c x hx; omega)).mp e1
      have hg0 := (oI_n1 (fun k hk => by have := hgb p k hk; omega)).mp e2
      exfalso
      have hM' := Mt_set hM hc0 hg0 hcn hpP hcan
      have := sz_le_fl hM' (n - c) c S (by omega) (fun k x hk hx => by
        by_cases hkc : k = c
        · subst hkc; rw [fo_1] at hx; cases hx; exact hpS
        · rw [fo_2 hkc] at hx; exact hhi k x hk hx)
      rw [sz_set hc0 (Nat.le_refl _) hcn] at this
      omega
    · -- from another chair onto a free one
      have hc0 := (oI_n1 (fun x hx => by have := hhb c x hx; omega)).mp e1
      have hgs : ∃ k, g p = some k := by
        cases hc : g p with
        | none => rw [hc] at e2; exact absurd rfl e2
        | some k => exact ⟨k, rfl⟩
      obtain ⟨k, hk⟩ := hgs
      have hkn := hgb p k hk
      have hhk := (hM.1 k p).mpr hk
      have hkc : k ≠ c := fun e => by rw [e, hc0] at hhk; cases hhk
      have hck : c ≤ k := by
        by_cases hc : c ≤ k
        · exact hc
        · rw [hlow k p (by omega) hhk] at hpS; cases hpS
      rw [hk]
      have hoI : oI (some k) = nI k := rfl
      rw [hoI, nI_clamp (by omega)]
      simp (disch := omega) only [true_and, mI_sI_1, mI_sI_2, mI_sI_3, mI_nW_1, mI_nW_2, mI_sR, mI_sJ, mI_sA_1, mI_sA_2, mR_sI, mR_sJ, mR_sA, mR_sR_1, mR_sR_2, mR_sR_3, mR_nW_1, mR_nW_2, mN_sI, mN_sJ, mN_sR, mN_sA, mN_nW_1, mN_nW_2, mJ_sI, mJ_sR, mJ_sA, mJ_sJ_1, mJ_sJ_2, mJ_sJ_3, mJ_nW_1, mJ_nW_2, xr29_1 hX, xr29_2 hX, xn31 hX, xn32 hX]
      refine ⟨v12 k (by omega), v12 c (by omega), v10 p (by omega), fun _ => ?_, fun y => absurd e1 y⟩
      have hM' := Mt_set (Mt_clr hM hhk) (k := c) (p := p) (by rw [fo_2 (fun e => hkc e.symm)]; exact hc0) fo_1 hcn hpP hcan
      refine h1 _ (fo (fo h k none) c (some p)) (fo (fo g p none) p (some c)) S (Or.inl rfl) (Sm_t (Sm_t (Sm_sI _ rfl _) (Sm_sI _ rfl _)) (Sm_sI _ rfl _)) ⟨by simp (disch := omega) only [true_and, mI_sI_1, mI_sI_2, mI_sI_3, mI_nW_1, mI_nW_2, mI_sR, mI_sJ, mI_sA_1, mI_sA_2, mR_sI, mR_sJ, mR_sA, mR_sR_1, mR_sR_2, mR_sR_3, mR_nW_1, mR_nW_2, mN_sI, mN_sJ, mN_sR, mN_sA, mN_nW_1, mN_nW_2, mJ_sI, mJ_sR, mJ_sA, mJ_sJ_1, mJ_sJ_2, mJ_sJ_3, mJ_nW_1, mJ_nW_2]; exact s1, by simp (disch := omega) only [true_and, mI_sI_1, mI_sI_2, mI_sI_3, mI_nW_1, mI_nW_2, mI_sR, mI_sJ, mI_sA_1, mI_sA_2, mR_sI, mR_sJ, mR_sA, mR_sR_1, mR_sR_2, mR_sR_3, mR_nW_1, mR_nW_2, mN_sI, mN_sJ, mN_sR, mN_sA, mN_nW_1, mN_nW_2, mJ_sI, mJ_sR, mJ_sA, mJ_sJ_1, mJ_sJ_2, mJ_sJ_3, mJ_nW_1, mJ_nW_2]; exact s2, fun a ha => by simp (disch := omega) only [true_and, mI_sI_1, mI_sI_2, mI_sI_3, mI_nW_1, mI_nW_2, mI_sR, mI_sJ, mI_sA_1, mI_sA_2, mR_sI, mR_sJ, mR_sA, mR_sR_1, mR_sR_2, mR_sR_3, mR_nW_1, mR_nW_2, mN_sI, mN_sJ, mN_sR, mN_sA, mN_nW_1, mN_nW_2, mJ_sI, mJ_sR, mJ_sA, mJ_sJ_1, mJ_sJ_2, mJ_sJ_3, mJ_nW_1, mJ_nW_2]; exact s3 a ha, fun a ha => ?_, fun a ha => ?_⟩ hM' fo_1 (fun a ha => by rw [fo_2 (by omega), fo_2 (by omega)]) (fun a x ha hx => ?_) ?_
      · by_cases hac : a = c
        · subst hac; rw [fo_1]; simp (disch := omega) only [true_and, mI_sI_1, mI_sI_2, mI_sI_3, mI_nW_1, mI_nW_2, mI_sR, mI_sJ, mI_sA_1, mI_sA_2, mR_sI, mR_sJ, mR_sA, mR_sR_1, mR_sR_2, mR_sR_3, mR_nW_1, mR_nW_2, mN_sI, mN_sJ, mN_sR, mN_sA, mN_nW_1, mN_nW_2, mJ_sI, mJ_sR, mJ_sA, mJ_sJ_1, mJ_sJ_2, mJ_sJ_3, mJ_nW_1, mJ_nW_2]; rfl
        · rw [fo_2 hac]
          by_cases hak : a = k
          · subst hak; rw [fo_1]; simp (disch := omega) only [true_and, mI_sI_1, mI_sI_2, mI_sI_3, mI_nW_1, mI_nW_2, mI_sR, mI_sJ, mI_sA_1, mI_sA_2, mR_sI, mR_sJ, mR_sA, mR_sR_1, mR_sR_2, mR_sR_3, mR_nW_1, mR_nW_2, mN_sI, mN_sJ, mN_sR, mN_sA, mN_nW_1, mN_nW_2, mJ_sI, mJ_sR, mJ_sA, mJ_sJ_1, mJ_sJ_2, mJ_sJ_3, mJ_nW_1, mJ_nW_2]; rfl
          · rw [fo_2 hak]; simp (disch := omega) only [true_and, mI_sI_1, mI_sI_2, mI_sI_3, mI_nW_1, mI_nW_2, mI_sR, mI_sJ, mI_sA_1, mI_sA_2, mR_sI, mR_sJ, mR_sA, mR_sR_1, mR_sR_2, mR_sR_3, mR_nW_1, mR_nW_2, mN_sI, mN_sJ, mN_sR, mN_sA, mN_nW_1, mN_nW_2, mJ_sI, mJ_sR, mJ_sA, mJ_sJ_1, mJ_sJ_2, mJ_sJ_3, mJ_nW_1, mJ_nW_2]; exact s4 a ha
      · by_cases hap : a = p
        · subst hap; rw [fo_1]; simp (disch := omega) only [true_and, mI_sI_1, mI_sI_2, mI_sI_3, mI_nW_1, mI_nW_2, mI_sR, mI_sJ, mI_sA_1, mI_sA_2, mR_sI, mR_sJ, mR_sA, mR_sR_1, mR_sR_2, mR_sR_3, mR_nW_1, mR_nW_2, mN_sI, mN_sJ, mN_sR, mN_sA, mN_nW_1, mN_nW_2, mJ_sI, mJ_sR, mJ_sA, mJ_sJ_1, mJ_sJ_2, mJ_sJ_3, mJ_nW_1, mJ_nW_2]; rfl
        · rw [fo_2 hap, fo_2 hap]; simp (disch := omega) only [true_and, mI_sI_1, mI_sI_2, mI_sI_3, mI_nW_1, mI_nW_2, mI_sR, mI_sJ, mI_sA_1, mI_sA_2, mR_sI, mR_sJ, mR_sA, mR_sR_1, mR_sR_2, mR_sR_3, mR_nW_1, mR_nW_2, mN_sI, mN_sJ, mN_sR, mN_sA, mN_nW_1, mN_nW_2, mJ_sI, mJ_sR, mJ_sA, mJ_sJ_1, mJ_sJ_2, mJ_sJ_3, mJ_nW_1, mJ_nW_2]; exact s5 a ha
      · rw [fo_2 (by omega)] at hx
        by_cases hak : a = k
        · subst hak; rw [fo_1] at hx; cases hx
        · rw [fo_2 hak] at hx
          rw [bs_t, hhi a x (by omega) hx]
          have : p ≠ x := fun e => by
            subst e
            have := (hM.1 a p).mp hx
            rw [hk] at this; exact hak (Option.some.inj this).symm
          simp [this]
      · rw [sz_set (by rw [fo_2 (fun e => hkc e.symm)]; exact hc0) (Nat.le_refl _) hcn, ← sz_clr hhk hck hkn]
    · have hcs : ∃ b, h c = some b := by
        cases hc : h c with
        | none => rw [hc] at e1; exact absurd rfl e1
        | some b => exact ⟨b, rfl⟩
      obtain ⟨b, hb⟩ := hcs
      rw [hb]; exact v10 b (hhb c b hb)
    · -- a free player onto a held chair
      have hcs : ∃ b, h c = some b := by
        cases hc : h c with
        | none => rw [hc] at e1; exact absurd rfl e1
        | some b => exact ⟨b, rfl⟩
      obtain ⟨b, hb⟩ := hcs
      have hb10 := hhb c b hb
      have hbp : b ≠ p := fun e => hcp (by rw [← e]; exact hb)
      have hg0 := (oI_n1 (fun k hk => by have := hgb p k hk; omega)).mp e2
      rw [hb]
      rw [hb] at e1
      have hoI : oI (some b) = nI b := rfl
      rw [hoI, nI_clamp (by omega)]
      rw [hoI] at e1
      simp (disch := omega) only [true_and, mI_sI_1, mI_sI_2, mI_sI_3, mI_nW_1, mI_nW_2, mI_sR, mI_sJ, mI_sA_1, mI_sA_2, mR_sI, mR_sJ, mR_sA, mR_sR_1, mR_sR_2, mR_sR_3, mR_nW_1, mR_nW_2, mN_sI, mN_sJ, mN_sR, mN_sA, mN_nW_1, mN_nW_2, mJ_sI, mJ_sR, mJ_sA, mJ_sJ_1, mJ_sJ_2, mJ_sJ_3, mJ_nW_1, mJ_nW_2, xr29_1 hX, xr29_2 hX, xn31 hX, xn32 hX]
      refine ⟨v12 c (by omega), v10 p (by omega), fun y => absurd y e1, fun _ => ⟨fun y => absurd e2 y, fun _ => ?_⟩⟩
      have hM' := Mt_set (Mt_clr hM hb) (k := c) (p := p) fo_1 (by rw [fo_2 (fun e => hbp e.symm)]; exact hg0) hcn hpP hcan
      refine h1 _ (fo (fo h c none) c (some p)) (fo (fo g b none) p (some c)) S (Or.inl rfl) (Sm_t (Sm_t (Sm_sI _ rfl _) (Sm_sI _ rfl _)) (Sm_sI _ rfl _)) ⟨by simp (disch := omega) only [true_and, mI_sI_1, mI_sI_2, mI_sI_3, mI_nW_1, mI_nW_2, mI_sR, mI_sJ, mI_sA_1, mI_sA_2, mR_sI, mR_sJ, mR_sA, mR_sR_1, mR_sR_2, mR_sR_3, mR_nW_1, mR_nW_2, mN_sI, mN_sJ, mN_sR, mN_sA, mN_nW_1, mN_nW_2, mJ_sI, mJ_sR, mJ_sA, mJ_sJ_1, mJ_sJ_2, mJ_sJ_3, mJ_nW_1, mJ_nW_2]; exact s1, by simp (disch := omega) only [true_and, mI_sI_1, mI_sI_2, mI_sI_3, mI_nW_1, mI_nW_2, mI_sR, mI_sJ, mI_sA_1, mI_sA_2, mR_sI, mR_sJ, mR_sA, mR_sR_1, mR_sR_2, mR_sR_3, mR_nW_1, mR_nW_2, mN_sI, mN_sJ, mN_sR, mN_sA, mN_nW_1, mN_nW_2, mJ_sI, mJ_sR, mJ_sA, mJ_sJ_1, mJ_sJ_2, mJ_sJ_3, mJ_nW_1, mJ_nW_2]; exact s2, fun a ha => by simp (disch := omega) only [true_and, mI_sI_1, mI_sI_2, mI_sI_3, mI_nW_1, mI_nW_2, mI_sR, mI_sJ, mI_sA_1, mI_sA_2, mR_sI, mR_sJ, mR_sA, mR_sR_1, mR_sR_2, mR_sR_3, mR_nW_1, mR_nW_2, mN_sI, mN_sJ, mN_sR, mN_sA, mN_nW_1, mN_nW_2, mJ_sI, mJ_sR, mJ_sA, mJ_sJ_1, mJ_sJ_2, mJ_sJ_3, mJ_nW_1, mJ_nW_2]; exact s3 a ha, fun a ha => ?_, fun a ha => ?_⟩ hM' fo_1 (fun a ha => by rw [fo_2 (by omega), fo_2 (by omega)]) (fun a x ha hx => ?_) ?_
      · by_cases hac : a = c
        · subst hac; rw [fo_1]; simp (disch := omega) only [true_and, mI_sI_1, mI_sI_2, mI_sI_3, mI_nW_1, mI_nW_2, mI_sR, mI_sJ, mI_sA_1, mI_sA_2, mR_sI, mR_sJ, mR_sA, mR_sR_1, mR_sR_2, mR_sR_3, mR_nW_1, mR_nW_2, mN_sI, mN_sJ, mN_sR, mN_sA, mN_nW_1, mN_nW_2, mJ_sI, mJ_sR, mJ_sA, mJ_sJ_1, mJ_sJ_2, mJ_sJ_3, mJ_nW_1, mJ_nW_2]; rfl
        · rw [fo_2 hac, fo_2 hac]; simp (disch := omega) only [true_and, mI_sI_1, mI_sI_2, mI_sI_3, mI_nW_1, mI_nW_2, mI_sR, mI_sJ, mI_sA_1, mI_sA_2, mR_sI, mR_sJ, mR_sA, mR_sR_1, mR_sR_2, mR_sR_3, mR_nW_1, mR_nW_2, mN_sI, mN_sJ, mN_sR, mN_sA, mN_nW_1, mN_nW_2, mJ_sI, mJ_sR, mJ_sA, mJ_sJ_1, mJ_sJ_2, mJ_sJ_3, mJ_nW_1, mJ_nW_2]; exact s4 a ha
      · by_cases hap : a = p
        · subst hap; rw [fo_1]; simp (disch := omega) only [true_and, mI_sI_1, mI_sI_2, mI_sI_3, mI_nW_1, mI_nW_2, mI_sR, mI_sJ, mI_sA_1, mI_sA_2, mR_sI, mR_sJ, mR_sA, mR_sR_1, mR_sR_2, mR_sR_3, mR_nW_1, mR_nW_2, mN_sI, mN_sJ, mN_sR, mN_sA, mN_nW_1, mN_nW_2, mJ_sI, mJ_sR, mJ_sA, mJ_sJ_1, mJ_sJ_2, mJ_sJ_3, mJ_nW_1, mJ_nW_2]; rfl
        · rw [fo_2 hap]
          by_cases hab : a = b
          · subst hab; rw [fo_1]; simp (disch := omega) only [true_and, mI_sI_1, mI_sI_2, mI_sI_3, mI_nW_1, mI_nW_2, mI_sR, mI_sJ, mI_sA_1, mI_sA_2, mR_sI, mR_sJ, mR_sA, mR_sR_1, mR_sR_2, mR_sR_3, mR_nW_1, mR_nW_2, mN_sI, mN_sJ, mN_sR, mN_sA, mN_nW_1, mN_nW_2, mJ_sI, mJ_sR, mJ_sA, mJ_sJ_1, mJ_sJ_2, mJ_sJ_3, mJ_nW_1, mJ_nW_2]; rfl
          · rw [fo_2 hab]; simp (disch := omega) only [true_and, mI_sI_1, mI_sI_2, mI_sI_3, mI_nW_1, mI_nW_2, mI_sR, mI_sJ, mI_sA_1, mI_sA_2, mR_sI, mR_sJ, mR_sA, mR_sR_1, mR_sR_2, mR_sR_3, mR_nW_1, mR_nW_2, mN_sI, mN_sJ, mN_sR, mN_sA, mN_nW_1, mN_nW_2, mJ_sI, mJ_sR, mJ_sA, mJ_sJ_1, mJ_sJ_2, mJ_sJ_3, mJ_nW_1, mJ_nW_2]; exact s5 a ha
      · rw [fo_2 (by omega), fo_2 (by omega)] at hx
        rw [bs_t, hhi a x (by omega) hx]
        have : p ≠ x := fun e => by
          subst e
          have := (hM.1 a p).mp hx
          rw [hg0] at this; cases this
        simp [this]
      · rw [sz_set fo_1 (Nat.le_refl _) hcn, ← sz_clr hb (Nat.le_refl _) hcn]
    · -- from a chair onto another's: the other must find one
      have hcs : ∃ b, h c = some b := by
        cases hc : h c with
        | none => rw [hc] at e1; exact absurd rfl e1
        | some b => exact ⟨b, rfl⟩
      obtain ⟨b, hb⟩ := hcs
      have hb10 := hhb c b hb
      have hbp : b ≠ p := fun e => hcp (by rw [← e]; exact hb)
      have hgs : ∃ k, g p = some k := by
        cases hc : g p with
        | none => rw [hc] at e2; exact absurd rfl e2
        | some k => exact ⟨k, rfl⟩
      obtain ⟨k, hk⟩ := hgs
      have hkn := hgb p k hk
      have hhk := (hM.1 k p).mpr hk
      have hkc : k ≠ c := fun e => by rw [e, hb] at hhk; exact hbp (Option.some.inj hhk)
      have hck : c ≤ k := by
        by_cases hc : c ≤ k
        · exact hc
        · rw [hlow k p (by omega) hhk] at hpS; cases hpS
      rw [hb, hk]
      rw [hb] at e1
      rw [hk] at e2
      have hoI : ∀ b, oI (some b) = nI b := fun _ => rfl
      rw [hoI, hoI, nI_clamp (by omega), nI_clamp (by omega)]
      rw [hoI] at e1 e2
      simp (disch := omega) only [true_and, mI_sI_1, mI_sI_2, mI_sI_3, mI_nW_1, mI_nW_2, mI_sR, mI_sJ, mI_sA_1, mI_sA_2, mR_sI, mR_sJ, mR_sA, mR_sR_1, mR_sR_2, mR_sR_3, mR_nW_1, mR_nW_2, mN_sI, mN_sJ, mN_sR, mN_sA, mN_nW_1, mN_nW_2, mJ_sI, mJ_sR, mJ_sA, mJ_sJ_1, mJ_sJ_2, mJ_sJ_3, mJ_nW_1, mJ_nW_2, xr29_1 hX, xr29_2 hX, xn31 hX, xn32 hX]
      refine ⟨v12 k (by omega), v12 c (by omega), v10 p (by omega), fun y => absurd y e1, fun _ => ⟨fun _ => fun N1 hN1 => ?_, fun y => absurd y e2⟩⟩
      have hb1 : fo h k none c = some b := by rw [fo_2 (fun e => hkc e.symm)]; exact hb
      have hM1 := Mt_set (Mt_clr (Mt_clr hM hhk) hb1) (k := c) (p := p) fo_1 (by rw [fo_2 (fun e => hbp e.symm)]; exact fo_1) hcn hpP hcan
      have hSm1 : Sm M N1 := by subst hN1; exact Sm_t (Sm_t (Sm_t (Sm_t (Sm_sI _ rfl _) (Sm_sI _ rfl _)) (Sm_sI _ rfl _)) (Sm_sI _ rfl _)) (Sm_sI _ rfl _)
      have hbs10 := bs_lt hS (show p < 10 by omega)
      have hSR1 : SR N1 n (bs S p) fm (fo (fo (fo h k none) c none) c (some p)) (fo (fo (fo g p none) b none) p (some c)) := by
        subst hN1
        refine ⟨by simp (disch := omega) only [true_and, mI_sI_1, mI_sI_2, mI_sI_3, mI_nW_1, mI_nW_2, mI_sR, mI_sJ, mI_sA_1, mI_sA_2, mR_sI, mR_sJ, mR_sA, mR_sR_1, mR_sR_2, mR_sR_3, mR_nW_1, mR_nW_2, mN_sI, mN_sJ, mN_sR, mN_sA, mN_nW_1, mN_nW_2, mJ_sI, mJ_sR, mJ_sA, mJ_sJ_1, mJ_sJ_2, mJ_sJ_3, mJ_nW_1, mJ_nW_2]; exact s1, ?_, fun a ha => by simp (disch := omega) only [true_and, mI_sI_1, mI_sI_2, mI_sI_3, mI_nW_1, mI_nW_2, mI_sR, mI_sJ, mI_sA_1, mI_sA_2, mR_sI, mR_sJ, mR_sA, mR_sR_1, mR_sR_2, mR_sR_3, mR_nW_1, mR_nW_2, mN_sI, mN_sJ, mN_sR, mN_sA, mN_nW_1, mN_nW_2, mJ_sI, mJ_sR, mJ_sA, mJ_sJ_1, mJ_sJ_2, mJ_sJ_3, mJ_nW_1, mJ_nW_2]; exact s3 a ha, fun a ha => ?_, fun a ha => ?_⟩
        · simp (disch := omega) only [true_and, mI_sI_1, mI_sI_2, mI_sI_3, mI_nW_1, mI_nW_2, mI_sR, mI_sJ, mI_sA_1, mI_sA_2, mR_sI, mR_sJ, mR_sA, mR_sR_1, mR_sR_2, mR_sR_3, mR_nW_1, mR_nW_2, mN_sI, mN_sJ, mN_sR, mN_sA, mN_nW_1, mN_nW_2, mJ_sI, mJ_sR, mJ_sA, mJ_sJ_1, mJ_sJ_2, mJ_sJ_3, mJ_nW_1, mJ_nW_2]; rw [s2, bitp p (by omega), nI_or]; unfold bs; rw [Nat.one_shiftLeft]
        · by_cases hac : a = c
          · subst hac; rw [fo_1]; simp (disch := omega) only [true_and, mI_sI_1, mI_sI_2, mI_sI_3, mI_nW_1, mI_nW_2, mI_sR, mI_sJ, mI_sA_1, mI_sA_2, mR_sI, mR_sJ, mR_sA, mR_sR_1, mR_sR_2, mR_sR_3, mR_nW_1, mR_nW_2, mN_sI, mN_sJ, mN_sR, mN_sA, mN_nW_1, mN_nW_2, mJ_sI, mJ_sR, mJ_sA, mJ_sJ_1, mJ_sJ_2, mJ_sJ_3, mJ_nW_1, mJ_nW_2]; rfl
          · rw [fo_2 hac, fo_2 hac]
            by_cases hak : a = k
            · subst hak; rw [fo_1]; simp (disch := omega) only [true_and, mI_sI_1, mI_sI_2, mI_sI_3, mI_nW_1, mI_nW_2, mI_sR, mI_sJ, mI_sA_1, mI_sA_2, mR_sI, mR_sJ, mR_sA, mR_sR_1, mR_sR_2, mR_sR_3, mR_nW_1, mR_nW_2, mN_sI, mN_sJ, mN_sR, mN_sA, mN_nW_1, mN_nW_2, mJ_sI, mJ_sR, mJ_sA, mJ_sJ_1, mJ_sJ_2, mJ_sJ_3, mJ_nW_1, mJ_nW_2]; rfl
            · rw [fo_2 hak]; simp (disch := omega) only [true_and, mI_sI_1, mI_sI_2, mI_sI_3, mI_nW_1, mI_nW_2, mI_sR, mI_sJ, mI_sA_1, mI_sA_2, mR_sI, mR_sJ, mR_sA, mR_sR_1, mR_sR_2, mR_sR_3, mR_nW_1, mR_nW_2, mN_sI, mN_sJ, mN_sR, mN_sA, mN_nW_1, mN_nW_2, mJ_sI, mJ_sR, mJ_sA, mJ_sJ_1, mJ_sJ_2, mJ_sJ_3, mJ_nW_1, mJ_nW_2]; exact s4 a ha
        · by_cases hap : a = p
          · subst hap; rw [fo_1]; simp (disch := omega) only [true_and, mI_sI_1, mI_sI_2, mI_sI_3, mI_nW_1, mI_nW_2, mI_sR, mI_sJ, mI_sA_1, mI_sA_2, mR_sI, mR_sJ, mR_sA, mR_sR_1, mR_sR_2, mR_sR_3, mR_nW_1, mR_nW_2, mN_sI, mN_sJ, mN_sR, mN_sA, mN_nW_1, mN_nW_2, mJ_sI, mJ_sR, mJ_sA, mJ_sJ_1, mJ_sJ_2, mJ_sJ_3, mJ_nW_1, mJ_nW_2]; rfl
          · rw [fo_2 hap]
            by_cases hab : a = b
            · subst hab; rw [fo_1]; simp (disch := omega) only [true_and, mI_sI_1, mI_sI_2, mI_sI_3, mI_nW_1, mI_nW_2, mI_sR, mI_sJ, mI_sA_1, mI_sA_2, mR_sI, mR_sJ, mR_sA, mR_sR_1, mR_sR_2, mR_sR_3, mR_nW_1, mR_nW_2, mN_sI, mN_sJ, mN_sR, mN_sA, mN_nW_1, mN_nW_2, mJ_sI, mJ_sR, mJ_sA, mJ_sJ_1, mJ_sJ_2, mJ_sJ_3, mJ_nW_1, mJ_nW_2]; rfl
            · rw [fo_2 hab, fo_2 hap]; simp (disch := omega) only [true_and, mI_sI_1, mI_sI_2, mI_sI_3, mI_nW_1, mI_nW_2, mI_sR, mI_sJ, mI_sA_1, mI_sA_2, mR_sI, mR_sJ, mR_sA, mR_sR_1, mR_sR_2, mR_sR_3, mR_nW_1, mR_nW_2, mN_sI, mN_sJ, mN_sR, mN_sA, mN_nW_1, mN_nW_2, mJ_sI, mJ_sR, mJ_sA, mJ_sJ_1, mJ_sJ_2, mJ_sJ_3, mJ_nW_1, mJ_nW_2]; exact s5 a ha
      have hlow1 : ∀ a x, a < c + 1 → fo (fo (fo h k none) c none) c (some p) a = some x → (bs S p).testBit x = true := fun a x ha hx => by
        rw [bs_t]
        by_cases hac : a = c
        · subst hac; rw [fo_1] at hx; cases hx; simp
        · rw [fo_2 hac, fo_2 hac, fo_2 (by omega)] at hx
          rw [hlow a x (by omega) hx]; rfl
      have hhi1 : ∀ a x, c + 1 ≤ a → fo (fo (fo h k none) c none) c (some p) a = some x → (bs S p).testBit x = false := fun a x ha hx => by
        rw [fo_2 (by omega), fo_2 (by omega)] at hx
        by_cases hak : a = k
        · subst hak; rw [fo_1] at hx; cases hx
        · rw [fo_2 hak] at hx
          rw [bs_t, hhi a x (by omega) hx]
          have : p ≠ x := fun e => by
            subst e
            have := (hM.1 a p).mp hx
            rw [hk] at this; exact hak (Option.some.inj this).symm
          simp [this]
      have z1 : sz h c n = sz (fo h k none) c n + 1 := sz_clr hhk hck hkn
      have z2 : sz (fo h k none) c n = sz (fo (fo h k none) c none) c n + 1 := sz_clr hb1 (Nat.le_refl _) hcn
      have z3 : sz (fo (fo (fo h k none) c none) c (some p)) c n = sz (fo (fo h k none) c none) c n + 1 := sz_set fo_1 (Nat.le_refl _) hcn
      have z4 : sz (fo (fo (fo h k none) c none) c (some p)) c n = sz (fo (fo (fo h k none) c none) c (some p)) (c + 1) n + 1 := by
        rw [sz_split hcn, fo_1]; rfl
      rw [n1]
      refine c5_seatOneMore (Sm_wX hSm1 hX) hP hn (by omega) hbs10 hfm hM1 hlow1 hhi1 hSR1 _ (fun N2 h2 g2 hN2 hSR2 hA => ⟨fun y => absurd y (by decide), fun _ => ?_⟩) (fun N2 hN2 hSR2 hle => ⟨fun _ => ?_, fun y => absurd rfl y⟩)
      · have hsz := sz_aug hA
        obtain ⟨a1, a2, a3, _⟩ := hA
        have hc2 : h2 c = some p := by rw [a2 c (by omega)]; exact fo_1
        refine h1 N2 h2 g2 (bs S p) (Or.inr rfl) (Sm_t hSm1 hN2) hSR2 a1 hc2 (fun a ha => by rw [a2 a (by omega), fo_2 (by omega), fo_2 (by omega), fo_2 (by omega)]) a3 ?_
        rw [sz_split hcn, hc2]
        simp only [Option.isSome_some, Bool.toNat_true]
        omega
      · obtain ⟨t1, t2, t3, t4, t5⟩ := hSR2
        have hX2 := Sm_wX (Sm_t hSm1 hN2) hX
        simp (disch := omega) only [true_and, mI_sI_1, mI_sI_2, mI_sI_3, mI_nW_1, mI_nW_2, mI_sR, mI_sJ, mI_sA_1, mI_sA_2, mR_sI, mR_sJ, mR_sA, mR_sR_1, mR_sR_2, mR_sR_3, mR_nW_1, mR_nW_2, mN_sI, mN_sJ, mN_sR, mN_sA, mN_nW_1, mN_nW_2, mJ_sI, mJ_sR, mJ_sA, mJ_sJ_1, mJ_sJ_2, mJ_sJ_3, mJ_nW_1, mJ_nW_2, xr29_1 hX2, xr29_2 hX2, xn31 hX2, xn32 hX2]
        refine ⟨v12 c (by omega), v10 b hb10, v12 k (by omega), v10 p (by omega), fun N3 hN3 => ?_⟩
        refine h0 N3 ?_ ?_ ?_
        · subst hN3; exact Sm_t (Sm_t hSm1 hN2) (Sm_t (Sm_t (Sm_t (Sm_t (Sm_sI _ rfl _) (Sm_sI _ rfl _)) (Sm_sI _ rfl _)) (Sm_sI _ rfl _)) (Sm_sI _ rfl _))
        · subst hN3
          refine ⟨by simp (disch := omega) only [true_and, mI_sI_1, mI_sI_2, mI_sI_3, mI_nW_1, mI_nW_2, mI_sR, mI_sJ, mI_sA_1, mI_sA_2, mR_sI, mR_sJ, mR_sA, mR_sR_1, mR_sR_2, mR_sR_3, mR_nW_1, mR_nW_2, mN_sI, mN_sJ, mN_sR, mN_sA, mN_nW_1, mN_nW_2, mJ_sI, mJ_sR, mJ_sA, mJ_sJ_1, mJ_sJ_2, mJ_sJ_3, mJ_nW_1, mJ_nW_2]; exact t1, ?_, fun a ha => by simp (disch := omega) only [true_and, mI_sI_1, mI_sI_2, mI_sI_3, mI_nW_1, mI_nW_2, mI_sR, mI_sJ, mI_sA_1, mI_sA_2, mR_sI, mR_sJ, mR_sA, mR_sR_1, mR_sR_2, mR_sR_3, mR_nW_1, mR_nW_2, mN_sI, mN_sJ, mN_sR, mN_sA, mN_nW_1, mN_nW_2, mJ_sI, mJ_sR, mJ_sA, mJ_sJ_1, mJ_sJ_2, mJ_sJ_3, mJ_nW_1, mJ_nW_2]; exact t3 a ha, fun a ha => ?_, fun a ha => ?_⟩
          · simp (disch := omega) only [true_and, mI_sI_1, mI_sI_2, mI_sI_3, mI_nW_1, mI_nW_2, mI_sR, mI_sJ, mI_sA_1, mI_sA_2, mR_sI, mR_sJ, mR_sA, mR_sR_1, mR_sR_2, mR_sR_3, mR_nW_1, mR_nW_2, mN_sI, mN_sJ, mN_sR, mN_sA, mN_nW_1, mN_nW_2, mJ_sI, mJ_sR, mJ_sA, mJ_sJ_1, mJ_sJ_2, mJ_sJ_3, mJ_nW_1, mJ_nW_2]
            rw [t2, bitp p (by omega), nI_andn hbs10]
            congr 1
            apply Nat.eq_of_testBit_eq
            intro x
            rw [andn_t _ _ _ hbs10, bs_t, Nat.testBit_two_pow]
            by_cases hxp : p = x
            · subst hxp; rw [hpS]; simp
            · simp [hxp]
          · by_cases hak : a = k
            · subst hak; simp (disch := omega) only [true_and, mI_sI_1, mI_sI_2, mI_sI_3, mI_nW_1, mI_nW_2, mI_sR, mI_sJ, mI_sA_1, mI_sA_2, mR_sI, mR_sJ, mR_sA, mR_sR_1, mR_sR_2, mR_sR_3, mR_nW_1, mR_nW_2, mN_sI, mN_sJ, mN_sR, mN_sA, mN_nW_1, mN_nW_2, mJ_sI, mJ_sR, mJ_sA, mJ_sJ_1, mJ_sJ_2, mJ_sJ_3, mJ_nW_1, mJ_nW_2]; rw [hhk]; rfl
            · by_cases hac : a = c
              · subst hac; simp (disch := omega) only [true_and, mI_sI_1, mI_sI_2, mI_sI_3, mI_nW_1, mI_nW_2, mI_sR, mI_sJ, mI_sA_1, mI_sA_2, mR_sI, mR_sJ, mR_sA, mR_sR_1, mR_sR_2, mR_sR_3, mR_nW_1, mR_nW_2, mN_sI, mN_sJ, mN_sR, mN_sA, mN_nW_1, mN_nW_2, mJ_sI, mJ_sR, mJ_sA, mJ_sJ_1, mJ_sJ_2, mJ_sJ_3, mJ_nW_1, mJ_nW_2]; rw [hb]; rfl
              · simp (disch := omega) only [true_and, mI_sI_1, mI_sI_2, mI_sI_3, mI_nW_1, mI_nW_2, mI_sR, mI_sJ, mI_sA_1, mI_sA_2, mR_sI, mR_sJ, mR_sA, mR_sR_1, mR_sR_2, mR_sR_3, mR_nW_1, mR_nW_2, mN_sI, mN_sJ, mN_sR, mN_sA, mN_nW_1, mN_nW_2, mJ_sI, mJ_sR, mJ_sA, mJ_sJ_1, mJ_sJ_2, mJ_sJ_3, mJ_nW_1, mJ_nW_2]
                rw [t4 a ha, fo_2 hac, fo_2 hac, fo_2 hak]
          · by_cases hap : a = p
            · subst hap; simp (disch := omega) only [true_and, mI_sI_1, mI_sI_2, mI_sI_3, mI_nW_1, mI_nW_2, mI_sR, mI_sJ, mI_sA_1, mI_sA_2, mR_sI, mR_sJ, mR_sA, mR_sR_1, mR_sR_2, mR_sR_3, mR_nW_1, mR_nW_2, mN_sI, mN_sJ, mN_sR, mN_sA, mN_nW_1, mN_nW_2, mJ_sI, mJ_sR, mJ_sA, mJ_sJ_1, mJ_sJ_2, mJ_sJ_3, mJ_nW_1, mJ_nW_2]; rw [hk]; rfl
            · by_cases hab : a = b
              · subst hab; simp (disch := omega) only [true_and, mI_sI_1, mI_sI_2, mI_sI_3, mI_nW_1, mI_nW_2, mI_sR, mI_sJ, mI_sA_1, mI_sA_2, mR_sI, mR_sJ, mR_sA, mR_sR_1, mR_sR_2, mR_sR_3, mR_nW_1, mR_nW_2, mN_sI, mN_sJ, mN_sR, mN_sA, mN_nW_1, mN_nW_2, mJ_sI, mJ_sR, mJ_sA, mJ_sJ_1, mJ_sJ_2, mJ_sJ_3, mJ_nW_1, mJ_nW_2]
                rw [(hM.1 c a).mp hb]; rfl
              · simp (disch := omega) only [true_and, mI_sI_1, mI_sI_2, mI_sI_3, mI_nW_1, mI_nW_2, mI_sR, mI_sJ, mI_sA_1, mI_sA_2, mR_sI, mR_sJ, mR_sA, mR_sR_1, mR_sR_2, mR_sR_3, mR_nW_1, mR_nW_2, mN_sI, mN_sJ, mN_sR, mN_sA, mN_nW_1, mN_nW_2, mJ_sI, mJ_sR, mJ_sA, mJ_sJ_1, mJ_sJ_2, mJ_sJ_3, mJ_nW_1, mJ_nW_2]
                rw [t5 a ha, fo_2 hap, fo_2 hab, fo_2 hap]
        · rw [show n - (c + 1) = n - c - 1 by omega] at hle
          omega
  · -- it sits there already
    have hcp : h c = some p := by
      cases hc : h c with
      | none => rw [hc] at heq; exact absurd heq.symm (nI_ne1 (by omega))
      | some b =>
        rw [hc] at heq
        have hb10 := hhb c b hc
        rw [nI_inj (by omega) (by omega) heq]
    refine h1 M h g S (Or.inl rfl) (Sm_r M) hSR' hM hcp (fun _ _ => rfl) (fun k x hk hx => ?_) rfl
    rw [bs_t, hhi k x (by omega) hx]
    have : p ≠ x := fun e => by
      subst e
      have e1 := (hM.1 k p).mp hx
      have e2 := (hM.1 c p).mp hcp
      rw [e1] at e2
      have := Option.some.inj e2
      omega
    simp [this]
end S63
