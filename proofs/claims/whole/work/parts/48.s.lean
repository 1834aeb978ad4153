/-! reckoning -/
section S48
variable {l : Launch} {M : o_M} {nw np ns nt T : Nat}
def f_two (o : Int32) (x y : Int64) : Int64 := if o = 2 then (if lg_cmp x 0 = 0 then (if lg_cmp y 0 = 0 then 0 else 1) else 1) else if o = 3 then (if lg_cmp x 0 = 0 then 0 else if lg_cmp y 0 = 0 then 0 else 1) else if o = 5 then (if 0 ≤ lg_cmp x y then 0 else 1) else if o = 6 then (if lg_cmp x y = 0 then 1 else 0) else if o = 7 then x + y else if o = 8 then x - y else x * y
def fu (f : Nat → Int64) (k : Nat) (x : Int64) : Nat → Int64 := fun j => if j = k then x else f j
/-- one step of a text: the pile and its height -/
def stp (nm : Int32 → Int64) (o w : Int32) (x : (Nat → Int64) × Nat) : (Nat → Int64) × Nat :=
  if o = 0 then (fu x.1 x.2 w.toInt64, x.2 + 1) else if o = 1 then (fu x.1 x.2 (nm w), x.2 + 1)
  else if o = 4 then (fu x.1 (x.2 - 1) (if lg_cmp (x.1 (x.2 - 1)) 0 = 0 then 1 else 0), x.2) else if o = 10 then (fu x.1 (x.2 - 1) (-(x.1 (x.2 - 1))), x.2)
  else (fu x.1 (x.2 - 2) (f_two o (x.1 (x.2 - 2)) (x.1 (x.2 - 1))), x.2 - 1)
theorem stp_h {nm : Int32 → Int64} {o w : Int32} {x : (Nat → Int64) × Nat} {h : Nat} (e : hgt o x.2 = some h) : (stp nm o w x).2 = h := by
  unfold hgt at e
  unfold stp
  by_cases h0 : o = 0
  · rw [if_pos (Or.inl h0)] at e; rw [if_pos h0]; exact Option.some.inj e
  · rw [if_neg h0]
    by_cases h1 : o = 1
    · rw [if_pos (Or.inr h1)] at e; rw [if_pos h1]; exact Option.some.inj e
    · rw [if_neg h1]
      rw [if_neg (by rintro (z | z) <;> contradiction)] at e
      by_cases h4 : o = 4
      · rw [if_pos (Or.inl h4)] at e
        rw [if_pos h4]
        split at e
        · exact Option.some.inj e
        · cases e
      · rw [if_neg h4]
        by_cases h10 : o = 10
        · rw [if_pos (Or.inr h10)] at e
          rw [if_pos h10]
          split at e
          · exact Option.some.inj e
          · cases e
        · rw [if_neg h10]
          rw [if_neg (by rintro (z | z) <;> contradiction)] at e
          split at e
          · exact Option.some.inj e
          · cases e
def f_run (v : o_v) (nm : Int32 → Int64) (t a : Nat) (k : Nat) : (Nat → Int64) × Nat := lp (fun c x => stp nm (v 89 (300 * t + (a + c))) (v 90 (300 * t + (a + c))) x) (fun _ => 0, 0) k
/-- what a part of a text is worth -/
def f_worth (v : o_v) (n t j s p : Nat) (i : Int32) : Int64 := (f_run v (fun w => (f_named v n w s p i).toInt64) t (v 92 (11 * t + j)).toNatClampNeg ((v 92 (11 * t + (j + 1))).toNatClampNeg - (v 92 (11 * t + j)).toNatClampNeg)).1 0
theorem p_worth (M : o_M) : f_worth (pv M) = f_worth (mI M) := by funext n t j s p i; unfold f_worth; rw [p_named]; rfl
theorem fr_worth {N : o_M} (h : Sm M N) : f_worth (mI N) = f_worth (mI M) := by rw [← p_worth, ← p_worth, h.1]
theorem fr_named {N : o_M} (h : Sm M N) : f_named (mI N) = f_named (mI M) := by rw [← p_named, ← p_named, h.1]
theorem c12_two (o : Int32) (x y : Int64) (q : Int64 → o_M → Prop) (h : q (f_two o x y) M) : K_X12_two l [iV o, jV x, jV y] M q := by
  refine w_X12_two l o x y M q ?_
  have hne : ∀ k, k ≤ 8 → (o < 2 ∨ 8 < o) → 2 ≤ k → ¬ o = nI k := fun k hk c h2 e => by
    subst e
    rcases c with c | c <;> (simp (disch := omega) only [ile, ilt, ieq, nI_toInt, Int32.reduceToInt] at c; omega)
  refine ⟨fun c => ?_, fun c => ?_, fun c => ?_, fun c => ?_, fun c => ?_, fun c => ?_, fun c => ?_, fun c => ?_⟩
  · have h2 : ¬ o = 2 := hne 2 (by decide) c (by decide)
    have h3 : ¬ o = 3 := hne 3 (by decide) c (by decide)
    have h5 : ¬ o = 5 := hne 5 (by decide) c (by decide)
    have h6 : ¬ o = 6 := hne 6 (by decide) c (by decide)
    have h7 : ¬ o = 7 := hne 7 (by decide) c (by decide)
    have h8 : ¬ o = 8 := hne 8 (by decide) c (by decide)
    rw [f_two, if_neg h2, if_neg h3, if_neg h5, if_neg h6, if_neg h7, if_neg h8] at h
    exact h
  · rw [f_two, if_pos c] at h
    refine ⟨fun c => by rw [if_neg c] at h; exact h, fun c => ⟨fun c2 => by rw [if_pos c, if_pos c2] at h; exact h, fun c2 => by rw [if_pos c, if_neg c2] at h; exact h⟩⟩
  · rw [f_two, if_neg (by rw [c]; decide), if_pos c] at h
    refine ⟨fun c => by rw [if_pos c] at h; exact h, fun c => ⟨fun c2 => by rw [if_neg c, if_pos c2] at h; exact h, fun c2 => by rw [if_neg c, if_neg c2] at h; exact h⟩⟩
  · rw [f_two, if_neg (by rw [c]; decide), if_neg (by rw [c]; decide), if_neg (by rw [c]; decide), if_neg (by rw [c]; decide), if_neg (by rw [c]; decide), if_neg (by rw [c]; decide)] at h
    exact h
  · rw [f_two, if_neg (by rw [c]; decide), if_neg (by rw [c]; decide), if_pos c] at h
    exact ⟨fun c => by rw [if_pos c] at h; exact h, fun c => by rw [if_neg c] at h; exact h⟩
  · rw [f_two, if_neg (by rw [c]; decide), if_neg (by rw [c]; decide), if_neg (by rw [c]; decide), if_pos c] at h
    exact ⟨fun c => by rw [if_neg c] at h; exact h, fun c => by rw [if_pos c] at h; exact h⟩
  · rw [f_two, if_neg (by rw [c]; decide), if_neg (by rw [c]; decide), if_neg (by rw [c]; decide), if_neg (by rw [c]; decide), if_pos c] at h
    exact h
  · rw [f_two, if_neg (by rw [c]; decide), if_neg (by rw [c]; decide), if_neg (by rw [c]; decide), if_neg (by rw [c]; decide), if_neg (by rw [c]; decide), if_pos c] at h
    exact h
theorem fu_1 {f : Nat → Int64} {k : Nat} {x : Int64} : fu f k x k = x := by unfold fu; rw [if_pos rfl]
theorem fu_2 {f : Nat → Int64} {k j : Nat} {x : Int64} (h : j ≠ k) : fu f k x j = f j := by unfold fu; rw [if_neg h]
/-- only longs are touched -/
def Sl (M N : o_M) : Prop := Sm M N ∧ mI N = mI M
theorem Sl_r (M : o_M) : Sl M M := ⟨Sm_r M, rfl⟩
theorem Sl_t {M N O : o_M} (h : Sl M N) (g : Sl N O) : Sl M O := ⟨Sm_t h.1 g.1, g.2.trans h.2⟩
/-- the steps of the model -/
theorem c12_worthOf (r : Rel M nw np ns nt T) {t j s p b : Nat} (ht : t < nt) (hb : mI M 91 t = nI b) (hb9 : b ≤ 8) (hj : j < b + 2) (hs : s < ns) (hp : p < np) (i : Int32) (q : Int64 → o_M → Prop) (h : ∀ N, Sl M N → q (f_worth (mI M) ns t j s p i) N) : K_X12_worthOf l [rV (some 60), iV (nI t), iV (nI j), iV (nI s), iV (nI p), iV i] M q := by
  have ⟨r1, r2, r3, r4, r5, r6, r7, r8, r9, r10, r11⟩ := r
  have hnt := r3.2.2.2.1.2.1
  have hns := r3.2.2.1
  have hnp := r3.2.1
  obtain ⟨b', cl, e, hb8, hcl, g1, g2, g3, g4, g5, g6, g7, g8⟩ := (r8 t ht).2.2.2.2.2.1
  have hbb : b' = b := nI_inj (by omega) (by omega) (g3.symm.trans hb)
  subst hbb
  obtain ⟨w1, hgh, w2, w3, w4, w5⟩ := g7 j hj
  have ea := (g6 j (by omega)).1
  have eb := (g6 (j + 1) (by omega)).1
  have hbl := (g6 (j + 1) (by omega)).2
  have h1 : (11 : Int32) * nI t + nI j = nI (11 * t + j) := ixm 11 t j rfl
  have h2 : nI (11 * t + j) + 1 = nI (11 * t + (j + 1)) := n1 _
  let nm : Int32 → Int64 := fun w => (f_named (mI M) ns w s p i).toInt64
  have hval : f_worth (mI M) ns t j s p i = (f_run (mI M) nm t (e j) (e (j + 1) - e j)).1 0 := by
    unfold f_worth
    rw [ea, eb, nI_clamp (by omega), nI_clamp (by omega)]
  have hht : ∀ k, e j + k ≤ e (j + 1) → (f_run (mI M) nm t (e j) k).2 = hgh (e j + k) := by
    intro k
    induction k with
    | zero => intro _; exact w2.symm
    | succ k ih =>
      intro hk
      have := ih (by omega)
      have h5 := (w5 (e j + k) (by omega) (by omega)).2
      rw [← this] at h5
      exact stp_h h5
  have key : ∀ m k : Nat, e j + k + m = e (j + 1) → ∀ N, Sl M N → (∀ x, x < hgh (e j + k) → mJ N 111 x = (f_run (mI M) nm t (e j) k).1 x) → H_X12_worthOf_16 l q (nI t) (nI j) (nI s) (nI p) i (nI (hgh (e j + k))) (nI (e j + k)) N := by
    intro m
    induction m with
    | zero =>
      intro k hk N hN hst
      have rN := Rel_Sm hN.1 r
      have e92 : mI N 92 = mI M 92 := Sm_row hN.1 (fun _ => rfl)
      refine w_X12_worthOf_16 l q _ _ _ _ _ _ _ N ?_
      rw [h1, h2, nI_clamp (by omega), wn31 rN.1, e92, eb]
      refine ⟨wr31 rN.1, vin (by omega) (by decide), fun _ => ⟨wr50 rN.1, by rw [wn50 rN.1]; exact vin (j := 0) (by decide) (by decide), ?_⟩, fun z => ?_⟩
      · rw [show ((0 : Int32).toNatClampNeg) = 0 from by decide, hst 0 (by rw [show e j + k = e (j + 1) by omega, w3]; omega)]
        have := h N hN
        rw [hval, show e (j + 1) - e j = k by omega] at this; exact this
      · rw [show e j + k = e (j + 1) by omega] at z; exact absurd (nI_le (Nat.le_refl _) (by omega)) z
    | succ m ih =>
      intro k hk N hN hst
      have rN := Rel_Sm hN.1 r
      have e92 : mI N 92 = mI M 92 := Sm_row hN.1 (fun _ => rfl)
      have e89 : mI N 89 = mI M 89 := Sm_row hN.1 (fun _ => rfl)
      have e90 : mI N 90 = mI M 90 := Sm_row hN.1 (fun _ => rfl)
      have e14 : mI N 60 14 = nI ns := rN.2.2.1.2.2.1.2.2
      have h3 : (300 : Int32) * nI t + nI (e j + k) = nI (300 * t + (e j + k)) := ixm 300 t (e j + k) rfl
      have v1 : vp_in (nI (300 * t + (e j + k))) 3300 := vin (by omega) (by decide)
      obtain ⟨hh50, hstep⟩ := w5 (e j + k) (by omega) (by omega)
      have hh50 : hgh (e j + k) ≤ 50 := hh50
      have hstep : hgt (mI M 89 (300 * t + (e j + k))) (hgh (e j + k)) = some (hgh (e j + (k + 1))) := hstep
      have hE := ih (k + 1) (by omega)
      have hrun : f_run (mI M) nm t (e j) (k + 1) = stp nm (mI M 89 (300 * t + (e j + k))) (mI M 90 (300 * t + (e j + k))) (f_run (mI M) nm t (e j) k) := rfl
      have hh := hht k (by omega)
      rw [hrun] at hE
      generalize hX : f_run (mI M) nm t (e j) k = X at *
      obtain ⟨st, hgt0⟩ := X
      simp only at hh hst
      subst hh
      have hNext : ∀ {x y : Nat} {z : Int64}, hgh (e j + (k + 1)) = y → stp nm (mI M 89 (300 * t + (e j + k))) (mI M 90 (300 * t + (e j + k))) (st, hgh (e j + k)) = (fu st x z, y) → y ≤ hgh (e j + k) + 1 → (y = hgh (e j + k) + 1 → x = hgh (e j + k)) → H_X12_worthOf_16 l q (nI t) (nI j) (nI s) (nI p) i (nI y) (nI (e j + k + 1)) (sJ N 111 x z) := by
        intro x y z hy hs2 hle hxe
        have := hE (sJ N 111 x z) ⟨Sm_t hN.1 (Sm_sJ N (Or.inr (Or.inr rfl)) _ _), hN.2⟩ (fun a ha => by
          rw [hs2, mJ_sJ]
          show (if 111 = 111 ∧ a = x then z else mJ N 111 a) = (if a = x then z else st a)
          by_cases hax : a = x
          · rw [if_pos ⟨rfl, hax⟩, if_pos hax]
          · rw [if_neg (fun z => hax z.2), if_neg hax]
            exact hst a (by rw [hy] at ha; omega))
        rw [hy] at this; exact this
      have hvi : ∀ x, x < 320 → vp_in (nI x) 320 := fun x hx => vin hx (by decide)
      have hnm : ∀ w, (f_named (mI N) ns w s p i).toInt64 = nm w := fun w => by rw [fr_named hN.1]
      refine w_X12_worthOf_16 l q _ _ _ _ _ _ _ N ?_
      rw [h1, h2, h3, nI_clamp (by omega), nI_clamp (by omega), wn31 rN.1, wn28 rN.1, wn29 rN.1, e92, eb, e89, e90, n1 (e j + k), nI_clamp (by omega)]
      refine ⟨wr31 rN.1, vin (by omega) (by decide), fun z => ?_, fun _ => ⟨wr28 rN.1, v1, wr29 rN.1, v1, ?_⟩⟩
      · rw [nI_leI (by omega) (by omega)] at z; omega
      have wn : mN N 111 = 320 := wn50 rN.1
      unfold hgt at hstep
      generalize mI M 89 (300 * t + (e j + k)) = o at *
      generalize mI M 90 (300 * t + (e j + k)) = w at *
      refine ⟨fun c0 => ⟨wr50 rN.1, fun c => absurd c0 c, fun _ => ⟨by rw [wn]; exact hvi _ (by omega), ?_⟩⟩, fun c0 => ⟨fun c1 => ⟨fun c4 => ⟨fun c10 => ?_, fun c10 => ?_⟩, fun c4 => ?_⟩, fun c1 => ⟨wr50 rN.1, fun _ => c12_named rN.1 (by omega) (by omega) e14 hns.1 _ _ _ ⟨by rw [wn]; exact hvi _ (by omega), ?_⟩, fun c => absurd c c0⟩⟩⟩
      · rw [if_pos (Or.inl c0)] at hstep
        have hy := (Option.some.inj hstep).symm
        rw [n1]
        exact hNext hy (by unfold stp; rw [if_pos c0]) (by omega) (fun _ => rfl)
      · rw [if_neg (by rintro (z | z) <;> contradiction), if_neg (by rintro (z | z) <;> contradiction)] at hstep
        split at hstep
        · rename_i hg2
          have hy := (Option.some.inj hstep).symm
          have m1 : nI (hgh (e j + k)) + -1 = nI (hgh (e j + k) - 1) := by
            have := pk_m1 (hgh (e j + k) - 1)
            rw [show hgh (e j + k) - 1 + 1 = hgh (e j + k) by omega] at this; exact this
          have m2 : nI (hgh (e j + k) - 1) - 1 = nI (hgh (e j + k) - 2) := by
            have := pk_sub (a := hgh (e j + k) - 1) (b := 1) (by omega)
            exact this
          rw [m1, m2, nI_clamp (by omega), nI_clamp (by omega), wn, hst _ (by omega), hst _ (by omega)]
          refine ⟨wr50 rN.1, wr50 rN.1, hvi _ (by omega), wr50 rN.1, hvi _ (by omega), c12_two _ _ _ _ ⟨by rw [wn]; exact hvi _ (by omega), ?_⟩⟩
          exact hNext (x := hgh (e j + k) - 2) (y := hgh (e j + k) - 1) (z := f_two o (st (hgh (e j + k) - 2)) (st (hgh (e j + k) - 1))) hy (by unfold stp; rw [if_neg c0, if_neg c1, if_neg c4, if_neg c10]) (by omega) (fun z => by omega)
        · cases hstep
      · rw [if_neg (by rintro (z | z) <;> contradiction), if_pos (Or.inr c10)] at hstep
        split at hstep
        · have hy := (Option.some.inj hstep).symm
          have m2 : nI (hgh (e j + k)) - 1 = nI (hgh (e j + k) - 1) := pk_sub (a := hgh (e j + k)) (b := 1) (by omega)
          rw [m2, nI_clamp (by omega), wn, hst _ (by omega)]
          refine ⟨wr50 rN.1, wr50 rN.1, hvi _ (by omega), hvi _ (by omega), ?_⟩
          exact hNext hy (by unfold stp; rw [if_neg c0, if_neg c1, if_neg c4, if_pos c10]) (by omega) (fun z => by omega)
        · cases hstep
      · rw [if_neg (by rintro (z | z) <;> contradiction), if_pos (Or.inl c4)] at hstep
        split at hstep
        · have hy := (Option.some.inj hstep).symm
          have m2 : nI (hgh (e j + k)) - 1 = nI (hgh (e j + k) - 1) := pk_sub (a := hgh (e j + k)) (b := 1) (by omega)
          rw [m2, nI_clamp (by omega), wn, hst _ (by omega)]
          refine ⟨wr50 rN.1, wr50 rN.1, hvi _ (by omega), fun z => ⟨hvi _ (by omega), ?_⟩, fun z => ⟨hvi _ (by omega), ?_⟩⟩
          · exact hNext hy (by unfold stp; rw [if_neg c0, if_neg c1, if_pos c4]; simp only; rw [if_neg z]) (by omega) (fun z => by omega)
          · exact hNext hy (by unfold stp; rw [if_neg c0, if_neg c1, if_pos c4]; simp only; rw [if_pos z]) (by omega) (fun z => by omega)
        · cases hstep
      · rw [if_pos (Or.inr c1)] at hstep
        have hy := (Option.some.inj hstep).symm
        rw [n1, hnm]
        exact hNext hy (by unfold stp; rw [if_neg c0, if_pos c1]) (by omega) (fun _ => rfl)
  refine w_X12_worthOf l _ _ _ _ _ M q ?_
  rw [h1, nI_clamp (by omega), wn31 r1, ea]
  refine ⟨wr31 r1, vin (by omega) (by decide), ?_⟩
  have := key (e (j + 1) - e j) 0 (by omega) M (Sl_r M) (fun x hx => by rw [Nat.add_zero, w2] at hx; omega)
  rw [Nat.add_zero, w2] at this; exact this
end S48
