/-! the model alone: what its reckonings rest on -/
section S67w
variable {l : Launch} {M : o_M} {nw np ns nt T : Nat}
def SVw (M : o_M) (s nw : Nat) : Prop := SV1 M s ∧ SV2 M s ∧ SV3 M s nw ∧ ∃ n, n ≤ 12 ∧ f_chairs (mI M) s none = nI n
def RSw (M : o_M) (ns nw : Nat) : Prop := (∀ s, s < ns → SVw M s nw) ∧ True
def RelW (M : o_M) (nw np ns nt T : Nat) : Prop := wM M ∧ wX M ∧ RC M nw np ns nt T ∧ RLv M nw np ns nt ∧ RW M nw ∧ RP M np ∧ RSw M ns nw ∧ RT M nt T ∧ RY M ns nt ∧ RZ M ∧ RD M
theorem SVw_fr {M N : o_M} {s nw : Nat} (h : Fr FS M N) (r : SVw M s nw) : SVw N s nw := by
  have e := fun id hid => (h id hid).1
  have e76 := e 76 (by unfold FS; omega)
  have e80 := e 80 (by unfold FS; omega)
  have e81 := e 81 (by unfold FS; omega)
  have e64 := e 64 (by unfold FS; omega)
  have n1 := f_need_e e64 e81 e76 e80
  have n2 := f_chairs_e n1
  unfold SVw SV1 SV2 SV3
  rw [n2, (h 19 (Or.inl rfl)).2.2.1, (h (47 + 128 * s) (by unfold FS; omega)).2.2.1, (h (48 + 128 * s) (by unfold FS; omega)).2.2.2, (h (49 + 128 * s) (by unfold FS; omega)).2.2.2, (h (50 + 128 * s) (by unfold FS; omega)).2.2.2, e (47 + 128 * s) (by unfold FS; omega), e (48 + 128 * s) (by unfold FS; omega), e76, e 77 (by unfold FS; omega), e 78 (by unfold FS; omega), e 79 (by unfold FS; omega), e80, e81]
  exact r
theorem RelW_Sm {M N : o_M} {nw np ns nt T : Nat} (h : Sm M N) (r : RelW M nw np ns nt T) : RelW N nw np ns nt T := by
  obtain ⟨r1, r2, r3, r4, r5, r6, r7, r8, r9, r10, r11⟩ := r
  refine ⟨Sm_wM h r1, Sm_wX h r2, ?_, ?_, RW_fr (Fr_Sm h fun x hx => scr_F (Or.inl hx)) r5, RP_fr (Fr_Sm h fun x hx => scr_F (Or.inr (Or.inl hx))) r6, ⟨fun s hs => SVw_fr (Fr_Sm h fun x hx => scr_F (Or.inr (Or.inr (Or.inl hx)))) (r7.1 s hs), trivial⟩, RT_fr (Fr_Sm h fun x hx => scr_F (Or.inr (Or.inr (Or.inr (Or.inl hx))))) r8, RY_fr (Fr_Sm h fun x hx => scr_F (Or.inr (Or.inr (Or.inr (Or.inr (Or.inl hx)))))) r9, ?_, ?_⟩
  · unfold RC
    rw [Sm_row h (id := 16) (fun _ => rfl), Sm_i h (id := 60) (j := 0) rfl, Sm_i h (id := 60) (j := 7) rfl, Sm_i h (id := 60) (j := 14) rfl, Sm_i h (id := 60) (j := 25) rfl, Sm_i h (id := 60) (j := 34) rfl, Sm_i h (id := 60) (j := 39) rfl]
    exact r3
  · unfold RLv; rw [h.2.2.2.2]; exact r4
  · unfold RZ
    rw [Sm_row h (id := 16) (fun _ => rfl), Sm_row h (id := 22) (fun _ => rfl), Sm_row h (id := 84) (fun _ => rfl), Sm_i h (id := 60) (j := 24) rfl]
    exact r10
  · unfold RD; rw [Sm_row h (id := 102) (fun _ => rfl)]; exact r11
theorem wchairs_of (r : RelW M nw np ns nt T) {s : Nat} (hs : s < ns) : ∃ n, n ≤ 12 ∧ f_chairs (mI M) s none = nI n := (r.2.2.2.2.2.2.1.1 s hs).2.2.2
theorem wtextOn_lt (r : RelW M nw np ns nt T) (d : Int32) : ∃ t, t < nt ∧ f_textOn (mI M) d nt = nI t := by
  have h1 := r.2.2.1.2.2.2.1.1
  have key : ∀ k, ∃ t, (t = 0 ∨ t < k) ∧ (lp (f_txS (mI M) d) (0, -1) k).1 = nI t := by
    intro k
    induction k with
    | zero => exact ⟨0, Or.inl rfl, rfl⟩
    | succ k ih =>
      obtain ⟨t, ht, e⟩ := ih
      simp only [lp]
      unfold f_txS
      split
      · exact ⟨t, by omega, e⟩
      · split
        · exact ⟨t, by omega, e⟩
        · split
          · exact ⟨t, by omega, e⟩
          · exact ⟨k, by omega, rfl⟩
  obtain ⟨t, ht, e⟩ := key nt
  exact ⟨t, by omega, e⟩
theorem wk12_textOn (r : RelW M nw np ns nt T) (d : Int32) (q : Int32 → o_M → Prop) (h : q (f_textOn (mI M) d nt) M) : K_X12_textOn l [rV (some 60), iV d] M q := c12_textOn r.1 r.2.2.1.2.2.2.1.2.2.2 r.2.2.1.2.2.2.1.2.1 d q h
theorem wokS_of (r : RelW M nw np ns nt T) {s : Nat} (hs : s < ns) : okS M s := by
  obtain ⟨n, hn5, en, hk, _⟩ := (r.2.2.2.2.2.2.1.1 s hs).2.2.1.2
  have hnw := r.2.2.1.1.1
  exact ⟨n, hn5, en, fun k hk' => by obtain ⟨w, h1, h2, _⟩ := hk k hk'; exact ⟨w, by omega, h2⟩⟩
theorem wc12_worthOf (r : RelW M nw np ns nt T) {t j s p b : Nat} (ht : t < nt) (hb : mI M 91 t = nI b) (hb9 : b ≤ 8) (hj : j < b + 2) (hs : s < ns) (hp : p < np) (i : Int32) (q : Int64 → o_M → Prop) (h : ∀ N, Sl M N → q (f_worth (mI M) ns t j s p i) N) : K_X12_worthOf l [rV (some 60), iV (nI t), iV (nI j), iV (nI s), iV (nI p), iV i] M q := by
  have ⟨r1, r2, r3, r4, r5, r6, r7, r8, r9, r10, r11⟩ := r
  have hnt := r3.2.2.2.1.2.1
  have hns := r3.2.2.1
  have hnp := r3.2.1
  obtain ⟨b', cl, e, hb8, hcl, g1, g2, g3, g4, g5, g6, g7, g8⟩ := (r8 t ht).2.2.2.2.2.1
  have hbb : b' = b := nI_inj (by omega) (by omega) (g3.symm.trans hb)
  subst hbb
  obtain ⟨w1, hgh, w2, w3, w4, w5⟩ := g7 j hj
  have ea := (g6 j (by omega)).1
  have eb := (g6 (j + 1) (by omega)).1
  have hbl := (g6 (j + 1) (by omega)).2
  have h1 : (11 : Int32) * nI t + nI j = nI (11 * t + j) := ixm 11 t j rfl
  have h2 : nI (11 * t + j) + 1 = nI (11 * t + (j + 1)) := n1 _
  let nm : Int32 → Int64 := fun w => (f_named (mI M) ns w s p i).toInt64
  have hval : f_worth (mI M) ns t j s p i = (f_run (mI M) nm t (e j) (e (j + 1) - e j)).1 0 := by
    unfold f_worth
    rw [ea, eb, nI_clamp (by omega), nI_clamp (by omega)]
  have hht : ∀ k, e j + k ≤ e (j + 1) → (f_run (mI M) nm t (e j) k).2 = hgh (e j + k) := by
    intro k
    induction k with
    | zero => intro _; exact w2.symm
    | succ k ih =>
      intro hk
      have := ih (by omega)
      have h5 := (w5 (e j + k) (by omega) (by omega)).2
      rw [← this] at h5
      exact stp_h h5
  have key : ∀ m k : Nat, e j + k + m = e (j + 1) → ∀ N, Sl M N → (∀ x, x < hgh (e j + k) → mJ N 111 x = (f_run (mI M) nm t (e j) k).1 x) → H_X12_worthOf_16 l q (nI t) (nI j) (nI s) (nI p) i (nI (hgh (e j + k))) (nI (e j + k)) N := by
    intro m
    induction m with
    | zero =>
      intro k hk N hN hst
      have rN := RelW_Sm hN.1 r
      have e92 : mI N 92 = mI M 92 := Sm_row hN.1 (fun _ => rfl)
      refine w_X12_worthOf_16 l q _ _ _ _ _ _ _ N ?_
      rw [h1, h2, nI_clamp (by omega), wn31 rN.1, e92, eb]
      refine ⟨wr31 rN.1, vin (by omega) (by decide), fun _ => ⟨wr50 rN.1, by rw [wn50 rN.1]; exact vin (j := 0) (by decide) (by decide), ?_⟩, fun z => ?_⟩
      · rw [show ((0 : Int32).toNatClampNeg) = 0 from by decide, hst 0 (by rw [show e j + k = e (j + 1) by omega, w3]; omega)]
        have := h N hN
        rw [hval, show e (j + 1) - e j = k by omega] at this; exact this
      · rw [show e j + k = e (j + 1) by omega] at z; exact absurd (nI_le (Nat.le_refl _) (by omega)) z
    | succ m ih =>
      intro k hk N hN hst
      have rN := RelW_Sm hN.1 r
      have e92 : mI N 92 = mI M 92 := Sm_row hN.1 (fun _ => rfl)
      have e89 : mI N 89 = mI M 89 := Sm_row hN.1 (fun _ => rfl)
      have e90 : mI N 90 = mI M 90 := Sm_row hN.1 (fun _ => rfl)
      have e14 : mI N 60 14 = nI ns := rN.2.2.1.2.2.1.2.2
      have h3 : (300 : Int32) * nI t + nI (e j + k) = nI (300 * t + (e j + k)) := ixm 300 t (e j + k) rfl
      have v1 : vp_in (nI (300 * t + (e j + k))) 3300 := vin (by omega) (by decide)
      obtain ⟨hh50, hstep⟩ := w5 (e j + k) (by omega) (by omega)
      have hh50 : hgh (e j + k) ≤ 50 := hh50
      have hstep : hgt (mI M 89 (300 * t + (e j + k))) (hgh (e j + k)) = some (hgh (e j + (k + 1))) := hstep
      have hE := ih (k + 1) (by omega)
      have hrun : f_run (mI M) nm t (e j) (k + 1) = stp nm (mI M 89 (300 * t + (e j + k))) (mI M 90 (300 * t + (e j + k))) (f_run (mI M) nm t (e j) k) := rfl
      have hh := hht k (by omega)
      rw [hrun] at hE
      generalize hX : f_run (mI M) nm t (e j) k = X at *
      obtain ⟨st, hgt0⟩ := X
      simp only at hh hst
      subst hh
      have hNext : ∀ {x y : Nat} {z : Int64}, hgh (e j + (k + 1)) = y → stp nm (mI M 89 (300 * t + (e j + k))) (mI M 90 (300 * t + (e j + k))) (st, hgh (e j + k)) = (fu st x z, y) → y ≤ hgh (e j + k) + 1 → (y = hgh (e j + k) + 1 → x = hgh (e j + k)) → H_X12_worthOf_16 l q (nI t) (nI j) (nI s) (nI p) i (nI y) (nI (e j + k + 1)) (sJ N 111 x z) := by
        intro x y z hy hs2 hle hxe
        have := hE (sJ N 111 x z) ⟨Sm_t hN.1 (Sm_sJ N (Or.inr (Or.inr rfl)) _ _), hN.2⟩ (fun a ha => by
          rw [hs2, mJ_sJ]
          show (if 111 = 111 ∧ a = x then z else mJ N 111 a) = (if a = x then z else st a)
          by_cases hax : a = x
          · rw [if_pos ⟨rfl, hax⟩, if_pos hax]
          · rw [if_neg (fun z => hax z.2), if_neg hax]
            exact hst a (by rw [hy] at ha; omega))
        rw [hy] at this; exact this
      have hvi : ∀ x, x < 320 → vp_in (nI x) 320 := fun x hx => vin hx (by decide)
      have hnm : ∀ w, (f_named (mI N) ns w s p i).toInt64 = nm w := fun w => by rw [fr_named hN.1]
      refine w_X12_worthOf_16 l q _ _ _ _ _ _ _ N ?_
      rw [h1, h2, h3, nI_clamp (by omega), nI_clamp (by omega), wn31 rN.1, wn28 rN.1, wn29 rN.1, e92, eb, e89, e90, n1 (e j + k), nI_clamp (by omega)]
      refine ⟨wr31 rN.1, vin (by omega) (by decide), fun z => ?_, fun _ => ⟨wr28 rN.1, v1, wr29 rN.1, v1, ?_⟩⟩
      · rw [nI_leI (by omega) (by omega)] at z; omega
      have wn : mN N 111 = 320 := wn50 rN.1
      unfold hgt at hstep
      generalize mI M 89 (300 * t + (e j + k)) = o at *
      generalize mI M 90 (300 * t + (e j + k)) = w at *
      refine ⟨fun c0 => ⟨wr50 rN.1, fun c => absurd c0 c, fun _ => ⟨by rw [wn]; exact hvi _ (by omega), ?_⟩⟩, fun c0 => ⟨fun c1 => ⟨fun c4 => ⟨fun c10 => ?_, fun c10 => ?_⟩, fun c4 => ?_⟩, fun c1 => ⟨wr50 rN.1, fun _ => c12_named rN.1 (by omega) (by omega) e14 hns.1 _ _ _ ⟨by rw [wn]; exact hvi _ (by omega), ?_⟩, fun c => absurd c c0⟩⟩⟩
      · rw [if_pos (Or.inl c0)] at hstep
        have hy := (Option.some.inj hstep).symm
        rw [n1]
        exact hNext hy (by unfold stp; rw [if_pos c0]) (by omega) (fun _ => rfl)
      · rw [if_neg (by rintro (z | z) <;> contradiction), if_neg (by rintro (z | z) <;> contradiction)] at hstep
        split at hstep
        · rename_i hg2
          have hy := (Option.some.inj hstep).symm
          have m1 : nI (hgh (e j + k)) + -1 = nI (hgh (e j + k) - 1) := by
            have := pk_m1 (hgh (e j + k) - 1)
            rw [show hgh (e j + k) - 1 + 1 = hgh (e j + k) by omega] at this; exact this
          have m2 : nI (hgh (e j + k) - 1) - 1 = nI (hgh (e j + k) - 2) := by
            have := pk_sub (a := hgh (e j + k) - 1) (b := 1) (by omega)
            exact this
          rw [m1, m2, nI_clamp (by omega), nI_clamp (by omega), wn, hst _ (by omega), hst _ (by omega)]
          refine ⟨wr50 rN.1, wr50 rN.1, hvi _ (by omega), wr50 rN.1, hvi _ (by omega), c12_two _ _ _ _ ⟨by rw [wn]; exact hvi _ (by omega), ?_⟩⟩
          exact hNext (x := hgh (e j + k) - 2) (y := hgh (e j + k) - 1) (z := f_two o (st (hgh (e j + k) - 2)) (st (hgh (e j + k) - 1))) hy (by unfold stp; rw [if_neg c0, if_neg c1, if_neg c4, if_neg c10]) (by omega) (fun z => by omega)
        · cases hstep
      · rw [if_neg (by rintro (z | z) <;> contradiction), if_pos (Or.inr c10)] at hstep
        split at hstep
        · have hy := (Option.some.inj hstep).symm
          have m2 : nI (hgh (e j + k)) - 1 = nI (hgh (e j + k) - 1) := pk_sub (a := hgh (e j + k)) (b := 1) (by omega)
          rw [m2, nI_clamp (by omega), wn, hst _ (by omega)]
          refine ⟨wr50 rN.1, wr50 rN.1, hvi _ (by omega), hvi _ (by omega), ?_⟩
          exact hNext hy (by unfold stp; rw [if_neg c0, if_neg c1, if_neg c4, if_pos c10]) (by omega) (fun z => by omega)
        · cases hstep
      · rw [if_neg (by rintro (z | z) <;> contradiction), if_pos (Or.inl c4)] at hstep
        split at hstep
        · have hy := (Option.some.inj hstep).symm
          have m2 : nI (hgh (e j + k)) - 1 = nI (hgh (e j + k) - 1) := pk_sub (a := hgh (e j + k)) (b := 1) (by omega)
          rw [m2, nI_clamp (by omega), wn, hst _ (by omega)]
          refine ⟨wr50 rN.1, wr50 rN.1, hvi _ (by omega), fun z => ⟨hvi _ (by omega), ?_⟩, fun z => ⟨hvi _ (by omega), ?_⟩⟩
          · exact hNext hy (by unfold stp; rw [if_neg c0, if_neg c1, if_pos c4]; simp only; rw [if_neg z]) (by omega) (fun z => by omega)
          · exact hNext hy (by unfold stp; rw [if_neg c0, if_neg c1, if_pos c4]; simp only; rw [if_pos z]) (by omega) (fun z => by omega)
        · cases hstep
      · rw [if_pos (Or.inr c1)] at hstep
        have hy := (Option.some.inj hstep).symm
        rw [n1, hnm]
        exact hNext hy (by unfold stp; rw [if_neg c0, if_pos c1]) (by omega) (fun _ => rfl)
  refine w_X12_worthOf l _ _ _ _ _ M q ?_
  rw [h1, nI_clamp (by omega), wn31 r1, ea]
  refine ⟨wr31 r1, vin (by omega) (by decide), ?_⟩
  have := key (e (j + 1) - e j) 0 (by omega) M (Sl_r M) (fun x hx => by rw [Nat.add_zero, w2] at hx; omega)
  rw [Nat.add_zero, w2] at this; exact this
theorem wk12_isAway (r : RelW M nw np ns nt T) {p : Nat} (hp : p < np) (d : Int32) (q : Int32 → o_M → Prop) (h : q (b2 (f_away (mI M) p d)) M) : K_X12_isAway l [rV (some 60), iV (nI p), iV d] M q := by
  obtain ⟨n, hn6, e, _⟩ := (r.2.2.2.2.2.1.1 p hp).2.2.2.2.2.2.2.2.2.2.2
  have hnp := r.2.2.1.2.1.1
  exact c12_isAway r.1 (by omega) e hn6 d q h
theorem wc12_hinders (r : RelW M nw np ns nt T) {s p : Nat} (hs : s < ns) (hp : p < np) (i : Int32) (q : Int32 → o_M → Prop) (h : ∀ N, Sl M N → q (f_hinders (mI M) ns nt s p i) N) : K_X12_hinders l [rV (some 60), iV (nI s), iV (nI p), iV i] M q := by
  have ⟨r1, r2, r3, r4, r5, r6, r7, r8, r9, r10, r11⟩ := r
  obtain ⟨hn, e16, e60⟩ := r3.2.2.1
  have hnp := r3.2.1.1
  have hcs : (nI s).toNatClampNeg = s := nI_clamp (by omega)
  have hcp : (nI p).toNatClampNeg = p := nI_clamp (by omega)
  have v40 : vp_in (nI s) 40 := vin (by omega) (by decide)
  have v10 : vp_in (nI p) 10 := vin (by omega) (by decide)
  have hM := h M (Sl_r M)
  unfold f_hinders at h hM
  obtain ⟨t, ht, et⟩ := wtextOn_lt r (mI M 77 s)
  have hnt := r3.2.2.2.1.2.1
  have ett : f_txt (mI M) nt s = t := by unfold f_txt; rw [et]; exact nI_clamp (by omega)
  obtain ⟨b, cl, e, hb8, _, _, _, hb, _⟩ := (r8 t ht).2.2.2.2.2.1
  rw [ett, hb, nI_clamp (by omega)] at h hM
  by_cases c1 : (!(mI M 69 p == i) && ((mI M 70 p >>> (i &&& 31)) &&& 1) == 0) = true
  · rw [if_pos c1] at hM
    simp only [Bool.and_eq_true, Bool.not_eq_true', beq_eq_false_iff_ne, ne_eq, beq_iff_eq] at c1
    refine w_X12_hinders l _ _ _ M q ?_
    rw [hcp, hcs, wn8 r1, wn9 r1]
    exact ⟨wr8 r1, v10, fun z => absurd z c1.1, fun _ => ⟨wr9 r1, v10, fun z => absurd c1.2 z, fun _ => hM⟩⟩
  rw [if_neg c1] at h hM
  by_cases c2 : f_away (mI M) p (mI M 77 s) = true
  · rw [if_pos c2] at hM
    have hA : K_X12_isAway l [rV (some 60), iV (nI p), iV (mI M 77 s)] M (fun r7 M6 => ((r7 = 0 → H_X12_hinders_44 l q (nI s) (nI p) i 0 M6) ∧ (¬ r7 = 0 → q 2 M6))) := wk12_isAway r hp _ _ ⟨fun z => by rw [c2] at z; exact absurd z (by decide), fun _ => hM⟩
    refine w_X12_hinders l _ _ _ M q ?_
    rw [hcp, hcs, wn8 r1, wn9 r1, wn16 r1]
    refine ⟨wr8 r1, v10, fun z => ⟨wr16 r1, v40, hA⟩, fun z => ⟨wr9 r1, v10, fun z2 => ⟨wr16 r1, v40, hA⟩, fun z2 => absurd ?_ c1⟩⟩
    simp [z, z2]
  rw [if_neg c2] at h hM
  have c2 : f_away (mI M) p (mI M 77 s) = false := by simpa using c2
  have barL : ∀ m k : Nat, k + m = b → ∀ N, Sl M N → (∀ N', Sl M N' → q (f_bar (mI M) ns t s p i m k) N') → H_X12_hinders_121 l q (nI s) (nI p) i (nI t) (nI k) N := by
    intro m
    induction m with
    | zero =>
      intro k hk N hN hq
      have rN := RelW_Sm hN.1 r
      refine w_X12_hinders_121 l q _ _ _ _ _ N ?_
      rw [wn30 rN.1, nI_clamp (by omega), Sm_i hN.1 (id := 91) (j := t) rfl, hb]
      exact ⟨wr30 rN.1, vin (by omega) (by decide), fun _ => hq N hN, fun z => absurd (nI_le (by omega) (by omega)) z⟩
    | succ m ih =>
      intro k hk N hN hq
      have rN := RelW_Sm hN.1 r
      refine w_X12_hinders_121 l q _ _ _ _ _ N ?_
      rw [wn30 rN.1, nI_clamp (by omega), Sm_i hN.1 (id := 91) (j := t) rfl, hb, n1]
      refine ⟨wr30 rN.1, vin (by omega) (by decide), fun z => ?_, fun _ => wc12_worthOf rN (j := k) ht (by rw [Sm_i hN.1 (id := 91) (j := t) rfl, hb]) hb8 (by omega) hs hp i _ (fun N' hN' => ?_)⟩
      · rw [nI_leI (by omega) (by omega)] at z; omega
      rw [fr_worth hN.1]
      unfold f_bar at hq
      refine ⟨fun z => ?_, fun z => ?_⟩
      · rw [if_pos z] at hq; exact ih (k + 1) (by omega) N' (Sl_t hN hN') hq
      · rw [if_neg z] at hq; exact hq N' (Sl_t hN hN')
  have meetL : ∀ m k : Nat, k + m = ns → (List.range k).any (f_meet (mI M) s (nI p)) = false → H_X12_hinders_44 l q (nI s) (nI p) i (nI k) M := by
    intro m
    induction m with
    | zero =>
      intro k hk hno
      have : k = ns := by omega
      subst this
      rw [hno] at h hM
      simp only [Bool.false_eq_true, if_false] at h hM
      refine w_X12_hinders_44 l q _ _ _ _ M ⟨fun _ => ?_, fun z => absurd (by rw [e60]; exact nI_le (Nat.le_refl _) (by omega)) z⟩
      rw [hcs, wn16 r1]
      refine ⟨wr16 r1, v40, wk12_textOn r _ _ ?_⟩
      rw [et]
      exact barL b 0 (by omega) M (Sl_r M) h
    | succ m ih =>
      intro k hk hno
      have hks : k < 40 := by omega
      have hcont : f_meet (mI M) s (nI p) k = false → H_X12_hinders_44 l q (nI s) (nI p) i (nI (k + 1)) M := fun hf => ih (k + 1) (by omega) (by rw [any_s, hno, hf]; rfl)
      refine w_X12_hinders_44 l q _ _ _ _ M ⟨fun z => ?_, fun _ => ?_⟩
      · rw [e60, nI_leI (by omega) (by omega)] at z; omega
      rw [n1]
      refine ⟨fun z => ?_, fun z => c12_ends r1 hks _ (c12_begins r1 (by omega) _ ⟨fun z2 => ?_, fun z2 => c12_ends r1 (by omega) _ (c12_begins r1 hks _ ⟨fun z3 => ?_, fun z3 => c12_chairOf r1 hks _ _ ⟨fun z4 => ?_, fun z4 => ?_⟩⟩)⟩)⟩
      · have : k = s := nI_inj (by omega) (by omega) z
        exact hcont (by unfold f_meet; simp [this])
      · exact hcont (by unfold f_meet; simp [z2])
      · exact hcont (by unfold f_meet; simp [z3])
      · exact hcont (by unfold f_meet; simp [z4])
      · have hks' : ¬ k = s := fun y => z (by rw [y])
        have : f_meet (mI M) s (nI p) k = true := by unfold f_meet; simp [hks', z2, z3, z4]
        rw [any_m (by omega) this] at hM
        exact hM
  have hA : K_X12_isAway l [rV (some 60), iV (nI p), iV (mI M 77 s)] M (fun r7 M6 => ((r7 = 0 → H_X12_hinders_44 l q (nI s) (nI p) i 0 M6) ∧ (¬ r7 = 0 → q 2 M6))) := wk12_isAway r hp _ _ ⟨fun _ => meetL ns 0 (by omega) rfl, fun z => by rw [c2] at z; exact absurd rfl z⟩
  refine w_X12_hinders l _ _ _ M q ?_
  rw [hcp, hcs, wn8 r1, wn9 r1, wn16 r1]
  refine ⟨wr8 r1, v10, fun z => ⟨wr16 r1, v40, hA⟩, fun z => ⟨wr9 r1, v10, fun z2 => ⟨wr16 r1, v40, hA⟩, fun z2 => absurd ?_ c1⟩⟩
  simp [z, z2]
theorem wc12_seats (r : RelW M nw np ns nt T) {s : Nat} (hs : s < ns) (q : Int32 → o_M → Prop) (h : ∀ N, Sm M N → (∀ c, c < cs (mI M) s 6 → mI N 114 c = oI (fndS (cnf (fmC (mI M) ns nt np s)) np (cs (mI M) s 6) c (Sq (cnf (fmC (mI M) ns nt np s)) np (cs (mI M) s 6) c))) → q (nI (cs (mI M) s 6 - fl (cnf (fmC (mI M) ns nt np s)) np (cs (mI M) s 6) 0 0)) N) : K_X12_seats l [rV (some 60), iV (nI s)] M q := by
  have hnp := r.2.2.1.2.1.1
  have hns := r.2.2.1.2.2.1.1
  obtain ⟨n', hn', en'⟩ := wchairs_of r hs
  have h18 := cs_le (mI M) s 6
  have hnn : n' = cs (mI M) s 6 := nI_inj (by omega) (by omega) (en'.symm.trans (chairs_cs _ _))
  subst hnn
  generalize hn : cs (mI M) s 6 = n at *
  generalize hcn : cnf (fmC (mI M) ns nt np s) = can at *
  have hcanv : ∀ c p, p < np → can c p = (f_hinders (mI M) ns nt s p (nI (f_inst (mI M) s c)) == 0) := fun c p hp => by
    rw [← hcn]
    show (fit (mI M) ns nt np s (nI (f_inst (mI M) s c))).testBit p = _
    rw [fit_t]; simp [hp]
  -- the rows that stay
  -- finding
  have look : ∀ m c, c + m = n → ∀ N, Sm M N → (∀ c p, c < n → p < np → mI N 112 (10 * c + p) = b2 (can c p)) → (∀ c S, c ≤ n → S < 1024 → mI N 113 (1024 * c + S) = nI (fl can np (n - c) c S)) → Sq can np n c < 1024 → (∀ k, k < c → mI N 114 k = oI (fndS can np n k (Sq can np n k))) → H_X12_seats_225 l q (nI n) (nI (Sq can np n c)) (nI c) N := by
    intro m
    induction m with
    | zero =>
      intro c hc N hN hcan hfl hS hfd
      have wN := Sm_wM hN r.1
      have : c = n := by omega
      subst this
      have hb := fl_m can np c 0 0
      refine w_X12_seats_225 l q _ _ _ N ⟨fun _ => ⟨wr52 wN, by rw [wn52 wN]; exact vin (j := 0) (by decide) (by decide), ?_⟩, fun z => absurd (nI_le (Nat.le_refl _) (by omega)) z⟩
      have e0 : mI N 113 (0 : Int32).toNatClampNeg = nI (fl can np c 0 0) := by
        have := hfl 0 0 (Nat.zero_le _) (by decide)
        rw [Nat.sub_zero] at this; exact this
      rw [e0, pk_sub hb]
      exact h N hN hfd
    | succ m ih =>
      intro c hc N hN hcan hfl hS hfd
      have wN := Sm_wM hN r.1
      have hcl : c < n := by omega
      have scan : ∀ k, k ≤ np → ∀ N1, Sm M N1 → (∀ c p, c < n → p < np → mI N1 112 (10 * c + p) = b2 (can c p)) → (∀ c S, c ≤ n → S < 1024 → mI N1 113 (1024 * c + S) = nI (fl can np (n - c) c S)) → (∀ j, j < c → mI N1 114 j = oI (fndS can np n j (Sq can np n j))) → mI N1 114 c = oI (lf (gsel can np n c (Sq can np n c)) k (np - k)) → H_X12_seats_247 l q (nI n) (nI (Sq can np n c)) (nI c) (nI k - 1) N1 := by
        intro k
        induction k with
        | zero =>
          intro hk N1 hN1 hcan hfl hfd hcur
          have wN1 := Sm_wM hN1 r.1
          have hfd' : mI N1 114 c = oI (fndS can np n c (Sq can np n c)) := by rw [hcur, Nat.sub_zero]; rfl
          have em : nI 0 - 1 = (-1 : Int32) := by decide
          rw [em]
          refine w_X12_seats_247 l q _ _ _ _ N1 ⟨fun _ => ?_, fun z => absurd (by decide) z⟩
          rw [nI_clamp (by omega), hfd', wn53 wN1, n1]
          have hall : ∀ k, k < c + 1 → mI N1 114 k = oI (fndS can np n k (Sq can np n k)) := fun k hk => by
            by_cases hkc : k = c
            · subst hkc; exact hfd'
            · exact hfd k (by omega)
          have hlt : ∀ p, fndS can np n c (Sq can np n c) = some p → p < np := fun p hp => by
            unfold fndS at hp
            have : ∀ m k, lf (gsel can np n c (Sq can np n c)) k m = some p → p < k + m := fun m => by
              induction m with
              | zero => intro k hk; cases hk
              | succ m ih =>
                intro k hk
                unfold lf at hk
                split at hk
                · cases hk; omega
                · have := ih (k + 1) hk; omega
            have := this np 0 hp; omega
          cases ho : fndS can np n c (Sq can np n c) with
          | none =>
            refine ⟨wr53 wN1, vin (by omega) (by decide), fun y => absurd rfl y, fun _ => ?_⟩
            have e0 : nI (Sq can np n c) ||| 0 = nI (Sq can np n (c + 1)) := by
              rw [show (0 : Int32) = nI 0 from rfl, nI_or, Nat.or_zero]
              show _ = nI (nxS can np n c (Sq can np n c))
              unfold nxS; rw [ho]
            rw [e0]
            exact ih (c + 1) (by omega) N1 hN1 hcan hfl (by show nxS can np n c (Sq can np n c) < 1024; unfold nxS; rw [ho]; exact hS) hall
          | some p =>
            have hp := hlt p ho
            have hoI : oI (some p) = nI p := rfl
            rw [hoI]
            refine ⟨wr53 wN1, vin (by omega) (by decide), fun _ => ⟨wr53 wN1, vin (by omega) (by decide), ?_⟩, fun y => absurd y (nI_ne1 (by omega))⟩
            have e0 : nI (Sq can np n c) ||| ((1 : Int32) <<< (nI p &&& 31)) = nI (Sq can np n (c + 1)) := by
              rw [bitp p (by omega), nI_or]
              show _ = nI (nxS can np n c (Sq can np n c))
              unfold nxS; rw [ho]
              show _ = nI (bs (Sq can np n c) p)
              unfold bs; rw [Nat.one_shiftLeft]
            rw [e0]
            exact ih (c + 1) (by omega) N1 hN1 hcan hfl (by show nxS can np n c (Sq can np n c) < 1024; unfold nxS; rw [ho]; exact bs_lt hS (by omega)) hall
        | succ k ihk =>
          intro hk N1 hN1 hcan hfl hfd hcur
          have wN1 := Sm_wM hN1 r.1
          have em : nI (k + 1) - 1 = nI k := pk_sub (a := k + 1) (b := 1) (by omega)
          have em2 : nI k + -1 = nI k - 1 := by grind
          rw [em]
          have hix : (1024 : Int32) * nI c + nI (Sq can np n c) = nI (1024 * c + Sq can np n c) := ixm 1024 c _ rfl
          have hcurf := hfl c (Sq can np n c) (by omega) hS
          have hlfs : lf (gsel can np n c (Sq can np n c)) k (np - k) = if gsel can np n c (Sq can np n c) k then some k else lf (gsel can np n c (Sq can np n c)) (k + 1) (np - (k + 1)) := by
            rw [show np - k = (np - (k + 1)) + 1 by omega]; rfl
          have hfb := fl_m can np (n - c) c (Sq can np n c)
          have hno : gsel can np n c (Sq can np n c) k = false → H_X12_seats_247 l q (nI n) (nI (Sq can np n c)) (nI c) (nI k - 1) (sI N1 114 c (mI N1 114 c)) := fun hg => by
            refine ihk (by omega) _ (Sm_t hN1 (Sm_sI _ rfl _)) (fun a b ha hb => by simp (disch := omega) only [true_and, mI_sI_1, mI_sI_2, mI_sI_3, mI_nW_1, mI_nW_2, mI_sR, mI_sJ, mI_sA_1, mI_sA_2, mR_sI, mR_sJ, mR_sA, mR_sR_1, mR_sR_2, mR_sR_3, mR_nW_1, mR_nW_2, mN_sI, mN_sJ, mN_sR, mN_sA, mN_nW_1, mN_nW_2, mJ_sI, mJ_sR, mJ_sA, mJ_sJ_1, mJ_sJ_2, mJ_sJ_3, mJ_nW_1, mJ_nW_2]; exact hcan a b ha hb) (fun a S ha hS => by simp (disch := omega) only [true_and, mI_sI_1, mI_sI_2, mI_sI_3, mI_nW_1, mI_nW_2, mI_sR, mI_sJ, mI_sA_1, mI_sA_2, mR_sI, mR_sJ, mR_sA, mR_sR_1, mR_sR_2, mR_sR_3, mR_nW_1, mR_nW_2, mN_sI, mN_sJ, mN_sR, mN_sA, mN_nW_1, mN_nW_2, mJ_sI, mJ_sR, mJ_sA, mJ_sJ_1, mJ_sJ_2, mJ_sJ_3, mJ_nW_1, mJ_nW_2]; exact hfl a S ha hS) (fun j hj => by simp (disch := omega) only [true_and, mI_sI_1, mI_sI_2, mI_sI_3, mI_nW_1, mI_nW_2, mI_sR, mI_sJ, mI_sA_1, mI_sA_2, mR_sI, mR_sJ, mR_sA, mR_sR_1, mR_sR_2, mR_sR_3, mR_nW_1, mR_nW_2, mN_sI, mN_sJ, mN_sR, mN_sA, mN_nW_1, mN_nW_2, mJ_sI, mJ_sR, mJ_sA, mJ_sJ_1, mJ_sJ_2, mJ_sJ_3, mJ_nW_1, mJ_nW_2]; exact hfd j hj) ?_
            simp (disch := omega) only [true_and, mI_sI_1, mI_sI_2, mI_sI_3, mI_nW_1, mI_nW_2, mI_sR, mI_sJ, mI_sA_1, mI_sA_2, mR_sI, mR_sJ, mR_sA, mR_sR_1, mR_sR_2, mR_sR_3, mR_nW_1, mR_nW_2, mN_sI, mN_sJ, mN_sR, mN_sA, mN_nW_1, mN_nW_2, mJ_sI, mJ_sR, mJ_sA, mJ_sJ_1, mJ_sJ_2, mJ_sJ_3, mJ_nW_1, mJ_nW_2]
            rw [hcur, hlfs, hg]; rfl
          have hyes : gsel can np n c (Sq can np n c) k = true → H_X12_seats_247 l q (nI n) (nI (Sq can np n c)) (nI c) (nI k - 1) (sI N1 114 c (nI k)) := fun hg => by
            refine ihk (by omega) _ (Sm_t hN1 (Sm_sI _ rfl _)) (fun a b ha hb => by simp (disch := omega) only [true_and, mI_sI_1, mI_sI_2, mI_sI_3, mI_nW_1, mI_nW_2, mI_sR, mI_sJ, mI_sA_1, mI_sA_2, mR_sI, mR_sJ, mR_sA, mR_sR_1, mR_sR_2, mR_sR_3, mR_nW_1, mR_nW_2, mN_sI, mN_sJ, mN_sR, mN_sA, mN_nW_1, mN_nW_2, mJ_sI, mJ_sR, mJ_sA, mJ_sJ_1, mJ_sJ_2, mJ_sJ_3, mJ_nW_1, mJ_nW_2]; exact hcan a b ha hb) (fun a S ha hS => by simp (disch := omega) only [true_and, mI_sI_1, mI_sI_2, mI_sI_3, mI_nW_1, mI_nW_2, mI_sR, mI_sJ, mI_sA_1, mI_sA_2, mR_sI, mR_sJ, mR_sA, mR_sR_1, mR_sR_2, mR_sR_3, mR_nW_1, mR_nW_2, mN_sI, mN_sJ, mN_sR, mN_sA, mN_nW_1, mN_nW_2, mJ_sI, mJ_sR, mJ_sA, mJ_sJ_1, mJ_sJ_2, mJ_sJ_3, mJ_nW_1, mJ_nW_2]; exact hfl a S ha hS) (fun j hj => by simp (disch := omega) only [true_and, mI_sI_1, mI_sI_2, mI_sI_3, mI_nW_1, mI_nW_2, mI_sR, mI_sJ, mI_sA_1, mI_sA_2, mR_sI, mR_sJ, mR_sA, mR_sR_1, mR_sR_2, mR_sR_3, mR_nW_1, mR_nW_2, mN_sI, mN_sJ, mN_sR, mN_sA, mN_nW_1, mN_nW_2, mJ_sI, mJ_sR, mJ_sA, mJ_sJ_1, mJ_sJ_2, mJ_sJ_3, mJ_nW_1, mJ_nW_2]; exact hfd j hj) ?_
            simp (disch := omega) only [true_and, mI_sI_1, mI_sI_2, mI_sI_3, mI_nW_1, mI_nW_2, mI_sR, mI_sJ, mI_sA_1, mI_sA_2, mR_sI, mR_sJ, mR_sA, mR_sR_1, mR_sR_2, mR_sR_3, mR_nW_1, mR_nW_2, mN_sI, mN_sJ, mN_sR, mN_sA, mN_nW_1, mN_nW_2, mJ_sI, mJ_sR, mJ_sA, mJ_sJ_1, mJ_sJ_2, mJ_sJ_3, mJ_nW_1, mJ_nW_2]
            rw [hlfs, hg]; rfl
          refine w_X12_seats_247 l q _ _ _ _ N1 ⟨fun z => ?_, fun _ => ⟨wr53 wN1, c12_choice wN1 (P := np) (m := n - c - 1) (can := can) (by omega) hS (by omega) hnp (hcan c k hcl (by omega)) (fun S hS => by have := hfl (c + 1) S (by omega) hS; rw [show n - (c + 1) = n - c - 1 by omega] at this; exact this) _ (fun hb => ?_) (fun hb => ?_)⟩⟩
          · (simp (disch := omega) only [ile, ilt, ieq, nI_toInt, Int32.reduceToInt] at z; omega)
          · rw [hix, wn52 wN1, nI_clamp (by omega), nI_clamp (by omega), hcurf, wn53 wN1, em2]
            refine ⟨wr52 wN1, vin (by omega) (by decide), fun _ => ⟨wr53 wN1, vin (by omega) (by decide), vin (by omega) (by decide), hno ?_⟩, fun y => absurd y.symm (nI_ne1 (by omega))⟩
            unfold gsel; rw [hb]; rfl
          · have hfb2 := fl_m can np (n - c - 1) (c + 1) (bs (Sq can np n c) k)
            rw [hix, wn52 wN1, nI_clamp (by omega), nI_clamp (by omega), hcurf, wn53 wN1, em2]
            refine ⟨wr52 wN1, vin (by omega) (by decide), fun y => ⟨wr53 wN1, vin (by omega) (by decide), vin (by omega) (by decide), hno ?_⟩, fun y => ⟨vin (by omega) (by decide), hyes ?_⟩⟩
            · unfold gsel; rw [hb]
              have : ¬ 1 + fl can np (n - c - 1) (c + 1) (bs (Sq can np n c) k) = fl can np (n - c) c (Sq can np n c) := fun e => y (by rw [e])
              simp [this]
            · unfold gsel; rw [hb]
              have : 1 + fl can np (n - c - 1) (c + 1) (bs (Sq can np n c) k) = fl can np (n - c) c (Sq can np n c) := nI_inj (by omega) (by omega) y
              simp [this]
      refine w_X12_seats_225 l q _ _ _ N ⟨fun z => ?_, fun _ => ?_⟩
      · rw [nI_leI (by omega) (by omega)] at z; omega
      rw [wn53 wN, nI_clamp (by omega)]
      have e7 : mI (sI N 114 c (-1)) 60 7 = nI np := by simp (disch := omega) only [true_and, mI_sI_1, mI_sI_2, mI_sI_3, mI_nW_1, mI_nW_2, mI_sR, mI_sJ, mI_sA_1, mI_sA_2, mR_sI, mR_sJ, mR_sA, mR_sR_1, mR_sR_2, mR_sR_3, mR_nW_1, mR_nW_2, mN_sI, mN_sJ, mN_sR, mN_sA, mN_nW_1, mN_nW_2, mJ_sI, mJ_sR, mJ_sA, mJ_sJ_1, mJ_sJ_2, mJ_sJ_3, mJ_nW_1, mJ_nW_2]; exact (RelW_Sm hN r).2.2.1.2.1.2.2
      rw [e7]
      refine ⟨wr53 wN, vin (by omega) (by decide), scan np (Nat.le_refl _) _ (Sm_t hN (Sm_sI _ rfl _)) (fun a b ha hb => by simp (disch := omega) only [true_and, mI_sI_1, mI_sI_2, mI_sI_3, mI_nW_1, mI_nW_2, mI_sR, mI_sJ, mI_sA_1, mI_sA_2, mR_sI, mR_sJ, mR_sA, mR_sR_1, mR_sR_2, mR_sR_3, mR_nW_1, mR_nW_2, mN_sI, mN_sJ, mN_sR, mN_sA, mN_nW_1, mN_nW_2, mJ_sI, mJ_sR, mJ_sA, mJ_sJ_1, mJ_sJ_2, mJ_sJ_3, mJ_nW_1, mJ_nW_2]; exact hcan a b ha hb) (fun a S ha hS => by simp (disch := omega) only [true_and, mI_sI_1, mI_sI_2, mI_sI_3, mI_nW_1, mI_nW_2, mI_sR, mI_sJ, mI_sA_1, mI_sA_2, mR_sI, mR_sJ, mR_sA, mR_sR_1, mR_sR_2, mR_sR_3, mR_nW_1, mR_nW_2, mN_sI, mN_sJ, mN_sR, mN_sA, mN_nW_1, mN_nW_2, mJ_sI, mJ_sR, mJ_sA, mJ_sJ_1, mJ_sJ_2, mJ_sJ_3, mJ_nW_1, mJ_nW_2]; exact hfl a S ha hS) (fun j hj => by simp (disch := omega) only [true_and, mI_sI_1, mI_sI_2, mI_sI_3, mI_nW_1, mI_nW_2, mI_sR, mI_sJ, mI_sA_1, mI_sA_2, mR_sI, mR_sJ, mR_sA, mR_sR_1, mR_sR_2, mR_sR_3, mR_nW_1, mR_nW_2, mN_sI, mN_sJ, mN_sR, mN_sA, mN_nW_1, mN_nW_2, mJ_sI, mJ_sR, mJ_sA, mJ_sJ_1, mJ_sJ_2, mJ_sJ_3, mJ_nW_1, mJ_nW_2]; exact hfd j hj) ?_⟩
      simp (disch := omega) only [true_and, mI_sI_1, mI_sI_2, mI_sI_3, mI_nW_1, mI_nW_2, mI_sR, mI_sJ, mI_sA_1, mI_sA_2, mR_sI, mR_sJ, mR_sA, mR_sR_1, mR_sR_2, mR_sR_3, mR_nW_1, mR_nW_2, mN_sI, mN_sJ, mN_sR, mN_sA, mN_nW_1, mN_nW_2, mJ_sI, mJ_sR, mJ_sA, mJ_sJ_1, mJ_sJ_2, mJ_sJ_3, mJ_nW_1, mJ_nW_2]
      rw [Nat.sub_self]; rfl
  -- filling the table
  have fill : ∀ k, k ≤ n + 1 → ∀ N, Sm M N → (∀ c p, c < n → p < np → mI N 112 (10 * c + p) = b2 (can c p)) → (∀ c S, k ≤ c → c ≤ n → S < 1024 → mI N 113 (1024 * c + S) = nI (fl can np (n - c) c S)) → H_X12_seats_73 l q (nI n) (nI k - 1) N := by
    intro k
    induction k with
    | zero =>
      intro hk N hN hcan hfl
      have em : nI 0 - 1 = (-1 : Int32) := by decide
      rw [em]
      exact w_X12_seats_73 l q _ _ N ⟨fun _ => look n 0 (by omega) N hN hcan (fun c S hc hS => hfl c S (Nat.zero_le _) hc hS) (by show (0 : Nat) < 1024; decide) (fun k hk => by omega), fun z => absurd (by decide) z⟩
    | succ c ihc =>
      intro hk N hN hcan hfl
      have em : nI (c + 1) - 1 = nI c := pk_sub (a := c + 1) (b := 1) (by omega)
      have em2 : nI c + -1 = nI c - 1 := by grind
      rw [em]
      have sets : ∀ m S, S + m = 1024 → ∀ N, Sm M N → (∀ c p, c < n → p < np → mI N 112 (10 * c + p) = b2 (can c p)) → (∀ a S', c + 1 ≤ a → a ≤ n → S' < 1024 → mI N 113 (1024 * a + S') = nI (fl can np (n - a) a S')) → (∀ S', S' < S → mI N 113 (1024 * c + S') = nI (fl can np (n - c) c S')) → H_X12_seats_80 l q (nI n) (nI c) (nI S) N := by
        intro m
        induction m with
        | zero =>
          intro S hS N hN hcan hfl hrow
          have : S = 1024 := by omega
          subst this
          refine w_X12_seats_80 l q _ _ _ N ⟨fun _ => ?_, fun z => absurd (by decide) z⟩
          rw [em2]
          refine ihc (by omega) N hN hcan (fun a S' ha1 ha2 hS' => ?_)
          by_cases hac : a = c
          · subst hac; exact hrow S' hS'
          · exact hfl a S' (by omega) ha2 hS'
        | succ m ihm =>
          intro S hS N hN hcan hfl hrow
          have wN := Sm_wM hN r.1
          have hS4 : S < 1024 := by omega
          have hix1 : (1024 : Int32) * (nI c + 1) + nI S = nI (1024 * (c + 1) + S) := by rw [n1]; exact ixm 1024 (c + 1) S rfl
          have hix : (1024 : Int32) * nI c + nI S = nI (1024 * c + S) := ixm 1024 c S rfl
          have next : ∀ N1, Sm M N1 → (∀ c p, c < n → p < np → mI N1 112 (10 * c + p) = b2 (can c p)) → (∀ a S', c + 1 ≤ a → a ≤ n → S' < 1024 → mI N1 113 (1024 * a + S') = nI (fl can np (n - a) a S')) → (∀ S', S' < S → mI N1 113 (1024 * c + S') = nI (fl can np (n - c) c S')) → mI N1 113 (1024 * c + S) = nI (fl can np (n - c) c S) → H_X12_seats_80 l q (nI n) (nI c) (nI (S + 1)) N1 := fun N1 hN1 hcan1 hfl1 hrow1 hcell => ihm (S + 1) (by omega) N1 hN1 hcan1 hfl1 (fun S' hS' => by
            by_cases hSS : S' = S
            · subst hSS; exact hcell
            · exact hrow1 S' (by omega))
          refine w_X12_seats_80 l q _ _ _ N ⟨fun z => ?_, fun _ => ⟨wr52 wN, fun z => ?_, fun z => ?_⟩⟩
          · (simp (disch := omega) only [ile, ilt, ieq, nI_toInt, Int32.reduceToInt] at z; omega)
          · have hcn : c < n := by
              have : ¬ c = n := fun e => z (by rw [e])
              omega
            have hini := hfl (c + 1) S (Nat.le_refl _) (by omega) hS4
            rw [show n - (c + 1) = n - c - 1 by omega] at hini
            have players : ∀ mm p, p + mm = np → ∀ N1, Sm M N1 → (∀ c p, c < n → p < np → mI N1 112 (10 * c + p) = b2 (can c p)) → (∀ a S', c + 1 ≤ a → a ≤ n → S' < 1024 → mI N1 113 (1024 * a + S') = nI (fl can np (n - a) a S')) → (∀ S', S' < S → mI N1 113 (1024 * c + S') = nI (fl can np (n - c) c S')) → mI N1 113 (1024 * c + S) = nI (lp (fun p a => if can c p && !S.testBit p then (if a < 1 + fl can np (n - c - 1) (c + 1) (bs S p) then 1 + fl can np (n - c - 1) (c + 1) (bs S p) else a) else a) (fl can np (n - c - 1) (c + 1) S) p) → H_X12_seats_128 l q (nI n) (nI c) (nI S) (nI p) N1 := by
              intro mm
              induction mm with
              | zero =>
                intro p hp N1 hN1 hcan1 hfl1 hrow1 hcell
                have rN1 := RelW_Sm hN1 r
                have : p = np := by omega
                subst this
                refine w_X12_seats_128 l q _ _ _ _ N1 ⟨fun _ => ?_, fun y => absurd (by rw [rN1.2.2.1.2.1.2.2]; exact nI_le (Nat.le_refl _) (by omega)) y⟩
                rw [n1]
                refine next N1 hN1 hcan1 hfl1 hrow1 ?_
                rw [hcell, ← fl_lp, show n - c - 1 + 1 = n - c by omega]
              | succ mm ihp =>
                intro p hp N1 hN1 hcan1 hfl1 hrow1 hcell
                have rN1 := RelW_Sm hN1 r
                have wN1 := rN1.1
                have ihp := ihp (p + 1) (by omega)
                simp only [lp] at ihp
                have hbd := lp_bd (can := can) (P := np) (m := n - c - 1) (c := c) (S := S) p
                have hfb := fl_m can np (n - c - 1) (c + 1) (bs S p)
                generalize hA : lp (fun p a => if can c p && !S.testBit p then (if a < 1 + fl can np (n - c - 1) (c + 1) (bs S p) then 1 + fl can np (n - c - 1) (c + 1) (bs S p) else a) else a) (fl can np (n - c - 1) (c + 1) S) p = A at *
                refine w_X12_seats_128 l q _ _ _ _ N1 ⟨fun y => ?_, fun _ => ⟨fun y => ?_, fun _ => ?_⟩⟩
                · rw [rN1.2.2.1.2.1.2.2, nI_leI (by omega) (by omega)] at y; omega
                · rw [nI_leI (by omega) (by omega)] at y; omega
                rw [hix, nI_clamp (by omega), n1 p]
                have keep : ∀ x, (if (can c p && !S.testBit p) = true then (if A < 1 + fl can np (n - c - 1) (c + 1) (bs S p) then 1 + fl can np (n - c - 1) (c + 1) (bs S p) else A) else A) = x → H_X12_seats_128 l q (nI n) (nI c) (nI S) (nI (p + 1)) (sI N1 113 (1024 * c + S) (nI x)) := fun x hx => by
                  refine ihp _ (Sm_t hN1 (Sm_sI _ rfl _)) (fun a b ha hb => by simp (disch := omega) only [true_and, mI_sI_1, mI_sI_2, mI_sI_3, mI_nW_1, mI_nW_2, mI_sR, mI_sJ, mI_sA_1, mI_sA_2, mR_sI, mR_sJ, mR_sA, mR_sR_1, mR_sR_2, mR_sR_3, mR_nW_1, mR_nW_2, mN_sI, mN_sJ, mN_sR, mN_sA, mN_nW_1, mN_nW_2, mJ_sI, mJ_sR, mJ_sA, mJ_sJ_1, mJ_sJ_2, mJ_sJ_3, mJ_nW_1, mJ_nW_2]; exact hcan1 a b ha hb) (fun a S' ha1 ha2 hS' => by simp (disch := omega) only [true_and, mI_sI_1, mI_sI_2, mI_sI_3, mI_nW_1, mI_nW_2, mI_sR, mI_sJ, mI_sA_1, mI_sA_2, mR_sI, mR_sJ, mR_sA, mR_sR_1, mR_sR_2, mR_sR_3, mR_nW_1, mR_nW_2, mN_sI, mN_sJ, mN_sR, mN_sA, mN_nW_1, mN_nW_2, mJ_sI, mJ_sR, mJ_sA, mJ_sJ_1, mJ_sJ_2, mJ_sJ_3, mJ_nW_1, mJ_nW_2]; exact hfl1 a S' ha1 ha2 hS') (fun S' hS' => by simp (disch := omega) only [true_and, mI_sI_1, mI_sI_2, mI_sI_3, mI_nW_1, mI_nW_2, mI_sR, mI_sJ, mI_sA_1, mI_sA_2, mR_sI, mR_sJ, mR_sA, mR_sR_1, mR_sR_2, mR_sR_3, mR_nW_1, mR_nW_2, mN_sI, mN_sJ, mN_sR, mN_sA, mN_nW_1, mN_nW_2, mJ_sI, mJ_sR, mJ_sA, mJ_sJ_1, mJ_sJ_2, mJ_sJ_3, mJ_nW_1, mJ_nW_2]; exact hrow1 S' hS') ?_
                  simp (disch := omega) only [true_and, mI_sI_1, mI_sI_2, mI_sI_3, mI_nW_1, mI_nW_2, mI_sR, mI_sJ, mI_sA_1, mI_sA_2, mR_sI, mR_sJ, mR_sA, mR_sR_1, mR_sR_2, mR_sR_3, mR_nW_1, mR_nW_2, mN_sI, mN_sJ, mN_sR, mN_sA, mN_nW_1, mN_nW_2, mJ_sI, mJ_sR, mJ_sA, mJ_sJ_1, mJ_sJ_2, mJ_sJ_3, mJ_nW_1, mJ_nW_2]; rw [hx]
                refine c12_choice wN1 (P := np) (m := n - c - 1) (can := can) (by omega) hS4 (by omega) hnp (hcan1 c p hcn (by omega)) (fun S' hS' => by have := hfl1 (c + 1) S' (Nat.le_refl _) (by omega) hS'; rw [show n - (c + 1) = n - c - 1 by omega] at this; exact this) _ (fun hb => ?_) (fun hb => ?_)
                · rw [wn52 wN1, hcell]
                  refine ⟨wr52 wN1, wr52 wN1, vin (by omega) (by decide), fun _ => ⟨wr52 wN1, vin (by omega) (by decide), vin (by omega) (by decide), keep A (by rw [hb]; rfl)⟩, fun y => ?_⟩
                  exfalso; apply y
                  rw [ile, nI_toInt (by omega)]
                  have : (-1 : Int32).toInt = -1 := by decide
                  omega
                · rw [wn52 wN1, hcell, nI_leI (by omega) (by omega)]
                  refine ⟨wr52 wN1, wr52 wN1, vin (by omega) (by decide), fun y => ⟨wr52 wN1, vin (by omega) (by decide), vin (by omega) (by decide), keep A (by rw [if_pos hb, if_neg (by omega)])⟩, fun y => ⟨vin (by omega) (by decide), keep _ (by rw [if_pos hb, if_pos (by omega)])⟩⟩
            rw [hix, hix1, wn52 wN, nI_clamp (by omega), nI_clamp (by omega), hini]
            refine ⟨wr52 wN, vin (by omega) (by decide), vin (by omega) (by decide), players np 0 (by omega) _ (Sm_t hN (Sm_sI _ rfl _)) (fun a b ha hb => by simp (disch := omega) only [true_and, mI_sI_1, mI_sI_2, mI_sI_3, mI_nW_1, mI_nW_2, mI_sR, mI_sJ, mI_sA_1, mI_sA_2, mR_sI, mR_sJ, mR_sA, mR_sR_1, mR_sR_2, mR_sR_3, mR_nW_1, mR_nW_2, mN_sI, mN_sJ, mN_sR, mN_sA, mN_nW_1, mN_nW_2, mJ_sI, mJ_sR, mJ_sA, mJ_sJ_1, mJ_sJ_2, mJ_sJ_3, mJ_nW_1, mJ_nW_2]; exact hcan a b ha hb) (fun a S' ha1 ha2 hS' => by simp (disch := omega) only [true_and, mI_sI_1, mI_sI_2, mI_sI_3, mI_nW_1, mI_nW_2, mI_sR, mI_sJ, mI_sA_1, mI_sA_2, mR_sI, mR_sJ, mR_sA, mR_sR_1, mR_sR_2, mR_sR_3, mR_nW_1, mR_nW_2, mN_sI, mN_sJ, mN_sR, mN_sA, mN_nW_1, mN_nW_2, mJ_sI, mJ_sR, mJ_sA, mJ_sJ_1, mJ_sJ_2, mJ_sJ_3, mJ_nW_1, mJ_nW_2]; exact hfl a S' ha1 ha2 hS') (fun S' hS' => by simp (disch := omega) only [true_and, mI_sI_1, mI_sI_2, mI_sI_3, mI_nW_1, mI_nW_2, mI_sR, mI_sJ, mI_sA_1, mI_sA_2, mR_sI, mR_sJ, mR_sA, mR_sR_1, mR_sR_2, mR_sR_3, mR_nW_1, mR_nW_2, mN_sI, mN_sJ, mN_sR, mN_sA, mN_nW_1, mN_nW_2, mJ_sI, mJ_sR, mJ_sA, mJ_sJ_1, mJ_sJ_2, mJ_sJ_3, mJ_nW_1, mJ_nW_2]; exact hrow S' hS') (by simp (disch := omega) only [true_and, mI_sI_1, mI_sI_2, mI_sI_3, mI_nW_1, mI_nW_2, mI_sR, mI_sJ, mI_sA_1, mI_sA_2, mR_sI, mR_sJ, mR_sA, mR_sR_1, mR_sR_2, mR_sR_3, mR_nW_1, mR_nW_2, mN_sI, mN_sJ, mN_sR, mN_sA, mN_nW_1, mN_nW_2, mJ_sI, mJ_sR, mJ_sA, mJ_sJ_1, mJ_sJ_2, mJ_sJ_3, mJ_nW_1, mJ_nW_2]; rfl)⟩
          · have hcn : c = n := nI_inj (by omega) (by omega) z
            subst hcn
            rw [hix, wn52 wN, nI_clamp (by omega)]
            refine ⟨vin (by omega) (by decide), ?_⟩
            have hN1 : Sm M (sI N 113 (1024 * c + S) 0) := Sm_t hN (Sm_sI _ rfl _)
            have rN1 := RelW_Sm hN1 r
            have hnx := next _ hN1 (fun a b ha hb => by simp (disch := omega) only [true_and, mI_sI_1, mI_sI_2, mI_sI_3, mI_nW_1, mI_nW_2, mI_sR, mI_sJ, mI_sA_1, mI_sA_2, mR_sI, mR_sJ, mR_sA, mR_sR_1, mR_sR_2, mR_sR_3, mR_nW_1, mR_nW_2, mN_sI, mN_sJ, mN_sR, mN_sA, mN_nW_1, mN_nW_2, mJ_sI, mJ_sR, mJ_sA, mJ_sJ_1, mJ_sJ_2, mJ_sJ_3, mJ_nW_1, mJ_nW_2]; exact hcan a b ha hb) (fun a S' ha1 ha2 hS' => by omega) (fun S' hS' => by simp (disch := omega) only [true_and, mI_sI_1, mI_sI_2, mI_sI_3, mI_nW_1, mI_nW_2, mI_sR, mI_sJ, mI_sA_1, mI_sA_2, mR_sI, mR_sJ, mR_sA, mR_sR_1, mR_sR_2, mR_sR_3, mR_nW_1, mR_nW_2, mN_sI, mN_sJ, mN_sR, mN_sA, mN_nW_1, mN_nW_2, mJ_sI, mJ_sR, mJ_sA, mJ_sJ_1, mJ_sJ_2, mJ_sJ_3, mJ_nW_1, mJ_nW_2]; exact hrow S' hS') (by simp (disch := omega) only [true_and, mI_sI_1, mI_sI_2, mI_sI_3, mI_nW_1, mI_nW_2, mI_sR, mI_sJ, mI_sA_1, mI_sA_2, mR_sI, mR_sJ, mR_sA, mR_sR_1, mR_sR_2, mR_sR_3, mR_nW_1, mR_nW_2, mN_sI, mN_sJ, mN_sR, mN_sA, mN_nW_1, mN_nW_2, mJ_sI, mJ_sR, mJ_sA, mJ_sJ_1, mJ_sJ_2, mJ_sJ_3, mJ_nW_1, mJ_nW_2]; rw [Nat.sub_self]; rfl)
            refine w_X12_seats_128 l q _ _ _ _ _ ⟨fun _ => ?_, fun _ => ⟨fun _ => ?_, fun y => absurd (nI_le (Nat.le_refl _) (by omega)) y⟩⟩
            · rw [n1]; exact hnx
            · rw [n1]; exact hnx
      refine w_X12_seats_73 l q _ _ N ⟨fun z => ?_, fun _ => sets 1024 0 (by omega) N hN hcan (fun a S' h1 h2 h3 => hfl a S' h1 h2 h3) (fun S' hS' => by omega)⟩
      (simp (disch := omega) only [ile, ilt, ieq, nI_toInt, Int32.reduceToInt] at z; omega)
  -- who can
  have cans : ∀ m c, c + m = n → ∀ N, Sm M N → (∀ a p, a < c → p < np → mI N 112 (10 * a + p) = b2 (can a p)) → H_X12_seats_9 l q (nI s) (nI n) (nI c) N := by
    intro m
    induction m with
    | zero =>
      intro c hc N hN hcan
      have : c = n := by omega
      subst this
      refine w_X12_seats_9 l q _ _ _ N ⟨fun _ => ?_, fun z => absurd (nI_le (Nat.le_refl _) (by omega)) z⟩
      have e1 : nI c = nI (c + 1) - 1 := (pk_sub (a := c + 1) (b := 1) (by omega)).symm
      have := fill (c + 1) (Nat.le_refl _) N hN hcan (fun a S h1 h2 => by omega)
      rw [← e1] at this; exact this
    | succ m ih =>
      intro c hc N hN hcan
      have players : ∀ mm p, p + mm = np → ∀ N1, Sm M N1 → (∀ a p, a < c → p < np → mI N1 112 (10 * a + p) = b2 (can a p)) → (∀ p', p' < p → mI N1 112 (10 * c + p') = b2 (can c p')) → H_X12_seats_17 l q (nI s) (nI n) (nI c) (nI p) N1 := by
        intro mm
        induction mm with
        | zero =>
          intro p hp N1 hN1 hcan1 hrow
          have rN1 := RelW_Sm hN1 r
          have : p = np := by omega
          subst this
          refine w_X12_seats_17 l q _ _ _ _ N1 ⟨fun _ => ?_, fun y => absurd (by rw [rN1.2.2.1.2.1.2.2]; exact nI_le (Nat.le_refl _) (by omega)) y⟩
          rw [n1]
          refine ih (c + 1) (by omega) N1 hN1 (fun a p' ha hp' => ?_)
          by_cases hac : a = c
          · subst hac; exact hrow p' hp'
          · exact hcan1 a p' (by omega) hp'
        | succ mm ihp =>
          intro p hp N1 hN1 hcan1 hrow
          have rN1 := RelW_Sm hN1 r
          have hix : (10 : Int32) * nI c + nI p = nI (10 * c + p) := ixm 10 c p rfl
          refine w_X12_seats_17 l q _ _ _ _ N1 ⟨fun y => ?_, fun _ => ⟨wr51 rN1.1, c12_instrumentOf rN1.1 (by omega) (wokS_of rN1 hs) (by rw [fr_cs hN1, hn]; omega) _ (wc12_hinders rN1 hs (by omega) _ _ (fun N2 hN2 => ?_))⟩⟩
          · rw [rN1.2.2.1.2.1.2.2, nI_leI (by omega) (by omega)] at y; omega
          have hN3 := Sm_t hN1 hN2.1
          have wN2 := Sm_wM hN3 r.1
          have b0 : vp_nar .boolean 0 = (0 : Int32) := by decide
          have b1 : vp_nar .boolean 1 = (1 : Int32) := by decide
          have hcv := hcanv c p (by omega)
          rw [fr_hinders hN1, fr_inst hN1, hix, wn51 wN2, nI_clamp (by omega), n1, b0, b1]
          have go : ∀ x, x = b2 (can c p) → H_X12_seats_17 l q (nI s) (nI n) (nI c) (nI (p + 1)) (sI N2 112 (10 * c + p) x) := fun x hx => by
            refine ihp (p + 1) (by omega) _ (Sm_t hN3 (Sm_sI _ rfl _)) (fun a p' ha hp' => by simp (disch := omega) only [true_and, mI_sI_1, mI_sI_2, mI_sI_3, mI_nW_1, mI_nW_2, mI_sR, mI_sJ, mI_sA_1, mI_sA_2, mR_sI, mR_sJ, mR_sA, mR_sR_1, mR_sR_2, mR_sR_3, mR_nW_1, mR_nW_2, mN_sI, mN_sJ, mN_sR, mN_sA, mN_nW_1, mN_nW_2, mJ_sI, mJ_sR, mJ_sA, mJ_sJ_1, mJ_sJ_2, mJ_sJ_3, mJ_nW_1, mJ_nW_2]; rw [hN2.2]; exact hcan1 a p' ha hp') (fun p' hp' => ?_)
            by_cases hpp : p' = p
            · subst hpp; simp (disch := omega) only [true_and, mI_sI_1, mI_sI_2, mI_sI_3, mI_nW_1, mI_nW_2, mI_sR, mI_sJ, mI_sA_1, mI_sA_2, mR_sI, mR_sJ, mR_sA, mR_sR_1, mR_sR_2, mR_sR_3, mR_nW_1, mR_nW_2, mN_sI, mN_sJ, mN_sR, mN_sA, mN_nW_1, mN_nW_2, mJ_sI, mJ_sR, mJ_sA, mJ_sJ_1, mJ_sJ_2, mJ_sJ_3, mJ_nW_1, mJ_nW_2]; exact hx
            · simp (disch := omega) only [true_and, mI_sI_1, mI_sI_2, mI_sI_3, mI_nW_1, mI_nW_2, mI_sR, mI_sJ, mI_sA_1, mI_sA_2, mR_sI, mR_sJ, mR_sA, mR_sR_1, mR_sR_2, mR_sR_3, mR_nW_1, mR_nW_2, mN_sI, mN_sJ, mN_sR, mN_sA, mN_nW_1, mN_nW_2, mJ_sI, mJ_sR, mJ_sA, mJ_sJ_1, mJ_sJ_2, mJ_sJ_3, mJ_nW_1, mJ_nW_2]; rw [hN2.2]; exact hrow p' (by omega)
          refine ⟨fun z => ⟨vin (by omega) (by decide), go 0 ?_⟩, fun z => ⟨vin (by omega) (by decide), go 1 ?_⟩⟩
          · rw [hcv]; have : (f_hinders (mI M) ns nt s p (nI (f_inst (mI M) s c)) == 0) = false := by simp [z]
            rw [this]; rfl
          · rw [hcv]; have : (f_hinders (mI M) ns nt s p (nI (f_inst (mI M) s c)) == 0) = true := by simp [z]
            rw [this]; rfl
      refine w_X12_seats_9 l q _ _ _ N ⟨fun z => ?_, fun _ => players np 0 (by omega) N hN hcan (fun p' hp' => by omega)⟩
      rw [nI_leI (by omega) (by omega)] at z; omega
  refine w_X12_seats l _ M q (c12_chairs r.1 (by omega) (wokS_of r hs) none (fun _ e => by cases e) _ ?_)
  rw [en']
  exact cans n 0 (by omega) M (Sm_r M) (fun a p ha => by omega)
/-- the model's cells alone -/
def cv (M : o_M) : o_v := fun id j => if (decide (60 ≤ id) && decide (id ≤ 118)) then mI M id j else 0
theorem cp_played (M : o_M) : f_played (cv M) = f_played (mI M) := rfl
theorem cp_awayN (M : o_M) : f_awayN (cv M) = f_awayN (mI M) := rfl
theorem cp_away (M : o_M) : f_away (cv M) = f_away (mI M) := rfl
theorem cp_chairN (M : o_M) (s : Nat) (p : Int32) : ∀ m c, f_chairN (cv M) s p m c = f_chairN (mI M) s p m c
  | 0, _ => rfl
  | m + 1, c => by simp only [f_chairN, cp_chairN M s p m (c + 1)]; rfl
theorem cp_chairOf (M : o_M) : f_chairOf (cv M) = f_chairOf (mI M) := by funext s p; unfold f_chairOf; rw [cp_chairN]; rfl
theorem cp_needOf (M : o_M) : f_needOf (cv M) = f_needOf (mI M) := rfl
theorem cp_mx (M : o_M) (s i : Nat) (n0 : Int32) : ∀ k, f_mx (cv M) s i n0 k = f_mx (mI M) s i n0 k
  | 0 => rfl
  | k + 1 => by simp only [f_mx, cp_mx M s i n0 k]; rfl
theorem cp_need (M : o_M) : f_need (cv M) = f_need (mI M) := by funext s i m; unfold f_need; rw [cp_mx]; rfl
theorem cp_chN (M : o_M) (s : Nat) (more : Option Nat) : ∀ k, f_chN (cv M) s more k = f_chN (mI M) s more k
  | 0 => rfl
  | k + 1 => by simp only [f_chN, cp_chN M s more k, cp_need]
theorem cp_chairs (M : o_M) : f_chairs (cv M) = f_chairs (mI M) := by funext s m; unfold f_chairs; rw [cp_chN]
theorem cp_begins (M : o_M) : f_begins (cv M) = f_begins (mI M) := rfl
theorem cp_ends (M : o_M) : f_ends (cv M) = f_ends (mI M) := rfl
theorem cp_textOn (M : o_M) : f_textOn (cv M) = f_textOn (mI M) := rfl
theorem cp_week (M : o_M) : f_week (cv M) = f_week (mI M) := by
  funext s p n
  unfold f_week
  have : f_wkS (cv M) s p = f_wkS (mI M) s p := by funext k x; unfold f_wkS; rw [cp_chairOf]; rfl
  rw [this]
theorem cp_rest (M : o_M) : f_rest (cv M) = f_rest (mI M) := by
  funext s p n
  unfold f_rest
  have : f_rsS (cv M) s p = f_rsS (mI M) s p := by funext k x; unfold f_rsS; rw [cp_chairOf]; rfl
  rw [this]
theorem cp_named (M : o_M) : f_named (cv M) = f_named (mI M) := by funext n name s p i; unfold f_named; rw [cp_week, cp_rest]; rfl

theorem cp_worth (M : o_M) : f_worth (cv M) = f_worth (mI M) := by funext n t j s p i; unfold f_worth; rw [cp_named]; rfl
theorem cp_bar (M : o_M) (n t s p : Nat) (i : Int32) : ∀ m b, f_bar (cv M) n t s p i m b = f_bar (mI M) n t s p i m b
  | 0, _ => rfl
  | m + 1, b => by unfold f_bar; rw [cp_worth, cp_bar M n t s p i m (b + 1)]
theorem cp_hinders (M : o_M) : f_hinders (cv M) = f_hinders (mI M) := by
  funext ns nt s p i
  unfold f_hinders
  have h1 : f_meet (cv M) s (nI p) = f_meet (mI M) s (nI p) := by funext k; unfold f_meet; rw [cp_chairOf]; rfl
  rw [h1, cp_bar]; rfl
theorem cp_nd (M : o_M) : nd (cv M) = nd (mI M) := by funext s i; unfold nd; rw [cp_need]
theorem cp_cs (M : o_M) (s : Nat) : ∀ i, cs (cv M) s i = cs (mI M) s i
  | 0 => rfl
  | i + 1 => by simp only [cs, cp_cs M s i, cp_nd]
theorem cp_inst (M : o_M) : f_inst (cv M) = f_inst (mI M) := by
  have : ∀ m s i c, f_ins (cv M) s m i c = f_ins (mI M) s m i c := fun m => by
    induction m with
    | zero => intro s i c; rfl
    | succ m ih => intro s i c; unfold f_ins; rw [cp_nd, ih]
  funext s c; exact this 6 s 0 c
end S67w
