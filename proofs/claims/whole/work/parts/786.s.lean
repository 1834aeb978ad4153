/-! a whole text: the pure run -/
section S786
variable {b : Nat → Nat} {z : Nat} {s s1 s' : Sta}
def s00 : Sta := (0, 0, 0, 0, 0, 0, fun _ => 0, fun _ => 0)
/-- a part: its key, what stands behind it, a semicolon -/
def PS (b : Nat → Nat) (z key : Nat) (s s' : Sta) : Prop := ∃ f s1, pr b z f 0 (xp b z key s) = some s1 ∧ s' = xp b z 18 s1
def ykey (k j : Nat) : Nat := if j < k then 10 else if j = k then 11 else 12
theorem ykey_b (k j : Nat) : 10 ≤ ykey k j ∧ ykey k j ≤ 12 := by unfold ykey; split <;> (try split) <;> omega
def Run (b : Nat → Nat) (z k : Nat) (S : Nat → Sta) : Prop := k ≤ 8 ∧ S 0 = adv b z s00 ∧ (∀ j, j < k → ttk (S j) = 10) ∧ (k < 8 → ttk (S k) ≠ 10) ∧ ∀ j, j < k + 2 → PS b z (ykey k j) (S j) (S (j + 1))
theorem Iv_00 : Iv b z (adv b z s00) := by
  obtain ⟨a1, a2, a3, a4, a5, a6, a7, a8⟩ := lex_ok (b := b) (Nat.zero_le z)
  unfold Iv
  simp only [tnx_yfl, tpl_yfl, ttk_yfl, tnu_yfl, top_yfl, tcs_yfl, tco_yfl, tcw_yfl, tnx_yem, tpl_yem, ttk_yem, tnu_yem, top_yem, tcs_yem, tco_yem, tcw_yem, tnx_ycl, tpl_ycl, ttk_ycl, tnu_ycl, top_ycl, tcs_ycl, tco_ycl, tcw_ycl, tnx_yoo, tpl_yoo, ttk_yoo, tnu_yoo, top_yoo, tcs_yoo, tco_yoo, tcw_yoo, tnx_adv, tpl_adv, ttk_adv, tnu_adv, top_adv, tcs_adv, tco_adv, tcw_adv]
  exact ⟨a3, a2, Nat.le_trans a4 (by decide), fun h _ => a5 h, a6, a7, fun h _ => a8 h (fun i hi => absurd hi (by omega)), fun _ => by show 0 ≤ 6; omega⟩
theorem PS_ok {key : Nat} (hk : 10 ≤ key ∧ key ≤ 12) (hI : Iv b z s) (hp : tcs s ≤ ph s) (h : PS b z key s s') : Iv b z s' ∧ tcs s' ≤ ph s' ∧ tcs s ≤ tcs s' ∧ (ttk s' ≠ 27 → ttk s = key ∧ top s' = top s ∧ (∀ c, c < tcs s → tco s' c = tco s c) ∧ Sg (tco s') (tcs s) (tcs s') 0 1 (5 * (7 - top s) + 2)) := by
  obtain ⟨f, s1, e1, rfl⟩ := h
  obtain ⟨x1, x2, x3, x4, x5, x6, x7, x8⟩ := Iv_xp (k := key) hI (by omega)
  have g := pr_ok _ _ (by omega) _ _ x1 e1
  obtain ⟨y1, y2, y3, y4, y5, y6, y7, y8⟩ := Iv_xp (k := 18) g.1 (by omega)
  obtain ⟨g1, g2, g3, g4, g5, g6, g7⟩ := g
  refine ⟨y1, by omega, by omega, fun t => ?_⟩
  have t1 := y5 t
  have t2 : ttk s1 ≠ 27 := by omega
  have t3 : ttk (xp b z key s) ≠ 27 := fun e => t2 (g6 e)
  obtain ⟨b1, b2⟩ := g7 t2
  refine ⟨x5 t3, by omega, fun c hc => by rw [y7, g5 c (by omega), x7], ?_⟩
  have := b2 0
  rw [x6, x8] at this
  rw [y6, y7]
  exact Sg_m this (by omega)
theorem PS_tot {key : Nat} (hk : 10 ≤ key ∧ key ≤ 12) (hI : Iv b z s) : ∃ s', PS b z key s s' := by
  have x1 := (Iv_xp (k := key) hI (by omega)).1
  obtain ⟨f, s1, e⟩ := tot (z + 1) (xp b z key s) x1 (fun _ => by omega) 0 (by omega)
  exact ⟨_, f, s1, e, rfl⟩
theorem run_end (k : Nat) (hI : Iv b z s) (hp : tcs s ≤ ph s) (k0 : Nat) (hk : k0 = k) : ∃ S : Nat → Sta, S k0 = s ∧ ∀ j, k0 ≤ j → j < k + 2 → PS b z (ykey k j) (S j) (S (j + 1)) := by
  subst hk
  obtain ⟨s1, h1⟩ := PS_tot (key := 11) (by omega) hI
  have g := PS_ok (key := 11) (by omega) hI hp h1
  obtain ⟨s2, h2⟩ := PS_tot (key := 12) (by omega) g.1
  refine ⟨fun j => if j ≤ k0 then s else if j = k0 + 1 then s1 else s2, if_pos (Nat.le_refl _), fun j hj1 hj2 => ?_⟩
  by_cases e : j = k0
  · subst e
    dsimp only
    rw [if_pos (Nat.le_refl _), if_neg (by omega), if_pos rfl]
    have : ykey j j = 11 := by unfold ykey; rw [if_neg (by omega), if_pos rfl]
    rw [this]; exact h1
  · have : j = k0 + 1 := by omega
    subst this
    dsimp only
    rw [if_neg (by omega), if_pos rfl, if_neg (by omega), if_neg (by omega)]
    have : ykey k0 (k0 + 1) = 12 := by unfold ykey; rw [if_neg (by omega), if_neg (by omega)]
    rw [this]; exact h2
theorem run_from : ∀ m k0, k0 + m = 8 → ∀ s, Iv b z s → tcs s ≤ ph s → ∃ (k : Nat) (S : Nat → Sta), k0 ≤ k ∧ k ≤ 8 ∧ S k0 = s ∧ (∀ j, k0 ≤ j → j < k → ttk (S j) = 10) ∧ (k < 8 → ttk (S k) ≠ 10) ∧ ∀ j, k0 ≤ j → j < k + 2 → PS b z (ykey k j) (S j) (S (j + 1)) := by
  intro m
  induction m with
  | zero =>
    intro k0 hk s hI hp
    obtain ⟨S, h1, h2⟩ := run_end k0 hI hp k0 rfl
    exact ⟨k0, S, Nat.le_refl _, by omega, h1, fun j _ _ => by omega, fun _ => by omega, h2⟩
  | succ m ih =>
    intro k0 hk s hI hp
    by_cases t : ttk s = 10
    · obtain ⟨s1, h1⟩ := PS_tot (key := 10) (by omega) hI
      have g := PS_ok (key := 10) (by omega) hI hp h1
      obtain ⟨k, S, a1, a2, a3, a4, a5, a6⟩ := ih (k0 + 1) (by omega) s1 g.1 g.2.1
      refine ⟨k, fun j => if j ≤ k0 then s else S j, by omega, a2, if_pos (Nat.le_refl _), fun j h1 h2 => ?_, fun h => ?_, fun j h1' h2 => ?_⟩
      · dsimp only
        by_cases e : j ≤ k0
        · rw [if_pos e]; exact t
        · rw [if_neg e]; exact a4 j (by omega) h2
      · dsimp only
        rw [if_neg (by omega)]; exact a5 h
      · dsimp only
        by_cases e : j ≤ k0
        · have : j = k0 := by omega
          subst this
          rw [if_pos e, if_neg (by omega), a3]
          have : ykey k j = 10 := by unfold ykey; rw [if_pos (by omega)]
          rw [this]; exact h1
        · rw [if_neg e, if_neg (by omega)]; exact a6 j (by omega) h2
    · obtain ⟨S, h1, h2⟩ := run_end k0 hI hp k0 rfl
      exact ⟨k0, S, Nat.le_refl _, by omega, h1, fun j _ _ => by omega, fun _ => by rw [h1]; exact t, h2⟩
theorem run_ex (b : Nat → Nat) (z : Nat) : ∃ k S, Run b z k S := by
  have hp : tcs (adv b z s00) ≤ ph (adv b z s00) := by rw [tcs_adv]; exact Nat.zero_le _
  obtain ⟨k, S, a1, a2, a3, a4, a5, a6⟩ := run_from 8 0 rfl (adv b z s00) Iv_00 hp
  exact ⟨k, S, a2, a3, fun j hj => a4 j (by omega) hj, a5, fun j hj => a6 j (by omega) hj⟩
theorem run_iv {k : Nat} {S : Nat → Sta} (R : Run b z k S) : ∀ j, j ≤ k + 2 → Iv b z (S j) ∧ tcs (S j) ≤ ph (S j) ∧ (ttk (S j) ≠ 27 → top (S j) = 0)
  | 0, _ => by
    rw [R.2.1]
    exact ⟨Iv_00, by rw [tcs_adv]; exact Nat.zero_le _, fun _ => rfl⟩
  | j + 1, hj => by
    obtain ⟨h1, h2, h3⟩ := run_iv R j (by omega)
    have hs := R.2.2.2.2 j (by omega)
    have g := PS_ok (ykey_b k j) h1 h2 hs
    refine ⟨g.1, g.2.1, fun t => ?_⟩
    have gt := g.2.2.2 t
    have := ykey_b k j
    rw [gt.2.1]; exact h3 (by omega)
theorem run_step {k : Nat} {S : Nat → Sta} (R : Run b z k S) {j : Nat} (hj : j < k + 2) (t : ttk (S (j + 1)) ≠ 27) : ttk (S j) ≠ 27 ∧ tcs (S j) ≤ tcs (S (j + 1)) ∧ (∀ c, c < tcs (S j) → tco (S (j + 1)) c = tco (S j) c) ∧ Sg (tco (S (j + 1))) (tcs (S j)) (tcs (S (j + 1))) 0 1 50 := by
  obtain ⟨h1, h2, h3⟩ := run_iv R j (by omega)
  have hs := R.2.2.2.2 j hj
  have g := PS_ok (ykey_b k j) h1 h2 hs
  have gt := g.2.2.2 t
  have := ykey_b k j
  have tj : ttk (S j) ≠ 27 := by omega
  exact ⟨tj, g.2.2.1, gt.2.2.1, Sg_m gt.2.2.2 (by omega)⟩
/-- from a good end back -/
theorem run_back {k : Nat} {S : Nat → Sta} (R : Run b z k S) (t : ttk (S (k + 2)) ≠ 27) : ∀ m j, j + m = k + 2 → ttk (S j) ≠ 27 ∧ tcs (S j) ≤ tcs (S (k + 2)) ∧ ∀ c, c < tcs (S j) → tco (S (k + 2)) c = tco (S j) c
  | 0, j, h => by
    have : j = k + 2 := by omega
    subst this
    exact ⟨t, Nat.le_refl _, fun _ _ => rfl⟩
  | m + 1, j, h => by
    obtain ⟨g1, g2, g3⟩ := run_back R t m (j + 1) (by omega)
    obtain ⟨a1, a2, a3, a4⟩ := run_step R (by omega) g1
    exact ⟨a1, by omega, fun c hc => (g3 c (by omega)).trans (a3 c hc)⟩
/-- the end of it all -/
theorem run_good {k : Nat} {S : Nat → Sta} (R : Run b z k S) (hz : z ≤ 300) (t : ttk (xp b z 25 (S (k + 2))) ≠ 27) : ttk (S (k + 2)) = 25 ∧ tcs (xp b z 25 (S (k + 2))) = tcs (S (k + 2)) ∧ tco (xp b z 25 (S (k + 2))) = tco (S (k + 2)) ∧ tcs (S (k + 2)) ≤ 300 ∧ (∀ i, i < z → b i < 128) ∧ ∀ j, j < k + 2 → WFp (fun c => nI (tco (S (k + 2)) c)) (tcs (S j)) (tcs (S (j + 1))) := by
  obtain ⟨h1, h2, h3⟩ := run_iv R (k + 2) (Nat.le_refl _)
  obtain ⟨x1, x2, x3, x4, x5, x6, x7, x8⟩ := Iv_xp (k := 25) h1 (by omega)
  have t25 := x5 t
  have tg : ttk (S (k + 2)) ≠ 27 := by omega
  have pg := ph_good tg
  have i1 := h1.1
  have i2 := h1.2.1
  have i5 := h1.2.2.2.2.1 t25
  refine ⟨t25, x6, x7, by omega, fun i hi => h1.2.2.2.2.2.2.1 (by omega) tg i (by omega), fun j hj => ?_⟩
  obtain ⟨g1, g2, g3⟩ := run_back R tg (k + 2 - (j + 1)) (j + 1) (by omega)
  obtain ⟨a1, a2, a3, ht, c1, c2, c3, c4⟩ := run_step R hj g1
  exact ⟨ht, c1, c2, c3, fun c hc1 hc2 => by dsimp only; rw [g3 c hc2]; exact c4 c hc1 hc2⟩
theorem run_0 {k : Nat} {S : Nat → Sta} (R : Run b z k S) : tcs (S 0) = 0 := by rw [R.2.1]; rfl
end S786
