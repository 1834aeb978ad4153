/-! put: the pair -/
section S73
variable {l : Launch} {M : o_M} {nw np ns nt T : Nat}
/-- the model puts -/
theorem c12_putM {N : o_M} (rv : RelV N nw np ns nt T) {y : Nat} (hy : y < 6) (what n : Int32) {z : Nat} (t : Nat) (hz : z ≤ 300) (val : Nat → Int64) (hgood : (what = 2 ∧ rng n 0 400 = true ∧ t < 11 ∧ f_textOn (mI N) n nt = nI t ∧ mI N 87 t = nI z ∧ ∀ i, i < z → val i = (mI N 88 (300 * t + i)).toInt64) ∨ (what = 3 ∧ z = np ∧ t = 0 ∧ ∀ i, i < z → val i = f_due (mI N) ns nt i 0 400 1) ∨ (what = 4 ∧ rng n 0 400 = true ∧ z = np ∧ t = 0 ∧ ∀ i, i < z → val i = if f_away (mI N) i n then 1 else 0) ∨ (what = 0 ∧ z = 0 ∧ t = 0) ∨ (what = 1 ∧ rng n 0 (nI ns - 1) = true ∧ z = 0 ∧ t = 0)) (q : Int32 → o_M → Prop) (h : ∀ N', PW N N' y what n (nI z) z val → q 1 N') : K_X12_put l [rV (some 60), iV (nI y), iV what, iV n] N q := by
  have w1 := rv.1
  have e14 := rv.2.2.1.2.2.1.2.2
  have e7 := rv.2.2.1.2.1.2.2
  have hnt := rv.2.2.1.2.2.2.1
  have v6 : vp_in (nI y) 6 := vin hy (by decide)
  have hr : ¬ b2 (rng (nI y) 0 5) = 0 := by
    have : ∀ y, y < 6 → ¬ b2 (rng (nI y) 0 5) = 0 := by decide
    exact this y hy
  have hk : (what = 2 ∧ t < 11 ∧ ∀ i, i < z → val i = (mI N 88 (300 * t + i)).toInt64) ∨ (what = 3 ∧ z = np ∧ ∀ i, i < z → val i = f_due (mI N) ns nt i 0 400 1) ∨ (¬ what = 2 ∧ ¬ what = 3 ∧ z ≤ np ∧ ∀ i, i < z → val i = if f_away (mI N) i n then 1 else 0) := by
    rcases hgood with ⟨e, _, ht, _, _, hv⟩ | ⟨e, hz, _, hv⟩ | ⟨e, _, hz, _, hv⟩ | ⟨e, hz, _⟩ | ⟨e, _, hz, _⟩
    · exact Or.inl ⟨e, ht, hv⟩
    · exact Or.inr (Or.inl ⟨e, hz, hv⟩)
    · exact Or.inr (Or.inr ⟨by rw [e]; decide, by rw [e]; decide, by omega, hv⟩)
    · exact Or.inr (Or.inr ⟨by rw [e]; decide, by rw [e]; decide, by omega, fun i hi => by omega⟩)
    · exact Or.inr (Or.inr ⟨by rw [e]; decide, by rw [e]; decide, by omega, fun i hi => by omega⟩)
  have hL := c12_putL (l := l) rv hy what n t hz val hk q h
  -- from the sizes on
  have p129 : H_X12_put_129 l q (nI y) what n (nI t) (nI z) (sI (sI N 96 y what) 97 y n) := by
    refine w_X12_put_129 l q _ _ _ _ _ _ ?_
    simp (disch := omega) only [true_and, mI_sI_1, mI_sI_2, mI_sI_3, mI_nW_1, mI_nW_2, mI_sR, mI_sJ, mI_sA_1, mI_sA_2, mR_sI, mR_sJ, mR_sA, mR_sR_1, mR_sR_2, mR_sR_3, mR_nW_1, mR_nW_2, mN_sI, mN_sJ, mN_sR, mN_sA, mN_nW_1, mN_nW_2, mJ_sI, mJ_sR, mJ_sA, mJ_sJ_1, mJ_sJ_2, mJ_sJ_3, mJ_nW_1, mJ_nW_2, wr37 w1, wn37 w1]
    rw [nI_clamp (by omega)]
    exact ⟨v6, hL⟩
  have p94 : H_X12_put_94 l q (nI y) what n (nI t) (sI (sI N 96 y what) 97 y n) := by
    refine w_X12_put_94 l q _ _ _ _ _ ?_
    simp (disch := omega) only [true_and, mI_sI_1, mI_sI_2, mI_sI_3, mI_nW_1, mI_nW_2, mI_sR, mI_sJ, mI_sA_1, mI_sA_2, mR_sI, mR_sJ, mR_sA, mR_sR_1, mR_sR_2, mR_sR_3, mR_nW_1, mR_nW_2, mN_sI, mN_sJ, mN_sR, mN_sA, mN_nW_1, mN_nW_2, mJ_sI, mJ_sR, mJ_sA, mJ_sJ_1, mJ_sJ_2, mJ_sJ_3, mJ_nW_1, mJ_nW_2, wr26 w1, wn26 w1, e7]
    rcases hgood with ⟨e, _, ht, _, ez, _⟩ | ⟨e, hz, _⟩ | ⟨e, _, hz, _⟩ | ⟨e, hz, _⟩ | ⟨e, _, hz, _⟩
    · refine ⟨fun w => absurd e w, fun _ => ⟨vin ht (by decide), ?_⟩⟩
      rw [nI_clamp (by omega), ez]; exact p129
    · subst hz
      exact ⟨fun _ => ⟨fun _ => p129, fun w => absurd e w⟩, fun w => absurd (e.symm.trans w) (by decide)⟩
    · subst hz
      exact ⟨fun _ => ⟨fun w => absurd (e.symm.trans w) (by decide), fun _ => ⟨fun w => absurd e w, fun _ => p129⟩⟩, fun w => absurd (e.symm.trans w) (by decide)⟩
    · subst hz
      exact ⟨fun _ => ⟨fun w => absurd (e.symm.trans w) (by decide), fun _ => ⟨fun _ => p129, fun w => absurd (e.symm.trans w) (by decide)⟩⟩, fun w => absurd (e.symm.trans w) (by decide)⟩
    · subst hz
      exact ⟨fun _ => ⟨fun w => absurd (e.symm.trans w) (by decide), fun _ => ⟨fun _ => p129, fun w => absurd (e.symm.trans w) (by decide)⟩⟩, fun w => absurd (e.symm.trans w) (by decide)⟩
  have p66 : H_X12_put_66 l q (nI y) what n N := by
    refine w_X12_put_66 l q _ _ _ N ?_
    simp (disch := omega) only [true_and, mI_sI_1, mI_sI_2, mI_sI_3, mI_nW_1, mI_nW_2, mI_sR, mI_sJ, mI_sA_1, mI_sA_2, mR_sI, mR_sJ, mR_sA, mR_sR_1, mR_sR_2, mR_sR_3, mR_nW_1, mR_nW_2, mN_sI, mN_sJ, mN_sR, mN_sA, mN_nW_1, mN_nW_2, mJ_sI, mJ_sR, mJ_sA, mJ_sJ_1, mJ_sJ_2, mJ_sJ_3, mJ_nW_1, mJ_nW_2, wr35 w1, wn35 w1, wr36 w1, wn36 w1]
    rw [nI_clamp (by omega)]
    refine ⟨v6, v6, fun w => ?_, fun w => c12_textOn (n := nt) ?_ ?_ hnt.2.1 n _ ?_⟩
    · have ht0 : t = 0 := by
        rcases hgood with ⟨e, _⟩ | ⟨_, _, h, _⟩ | ⟨_, _, _, h, _⟩ | ⟨_, _, h⟩ | ⟨_, _, _, h⟩
        · exact absurd e w
        all_goals exact h
      rw [ht0] at p94; exact p94
    · exact wM_k (fun k => by simp (disch := omega) only [true_and, mI_sI_1, mI_sI_2, mI_sI_3, mI_nW_1, mI_nW_2, mI_sR, mI_sJ, mI_sA_1, mI_sA_2, mR_sI, mR_sJ, mR_sA, mR_sR_1, mR_sR_2, mR_sR_3, mR_nW_1, mR_nW_2, mN_sI, mN_sJ, mN_sR, mN_sA, mN_nW_1, mN_nW_2, mJ_sI, mJ_sR, mJ_sA, mJ_sJ_1, mJ_sJ_2, mJ_sJ_3, mJ_nW_1, mJ_nW_2]) (fun x _ _ => by simp (disch := omega) only [true_and, mI_sI_1, mI_sI_2, mI_sI_3, mI_nW_1, mI_nW_2, mI_sR, mI_sJ, mI_sA_1, mI_sA_2, mR_sI, mR_sJ, mR_sA, mR_sR_1, mR_sR_2, mR_sR_3, mR_nW_1, mR_nW_2, mN_sI, mN_sJ, mN_sR, mN_sA, mN_nW_1, mN_nW_2, mJ_sI, mJ_sR, mJ_sA, mJ_sJ_1, mJ_sJ_2, mJ_sJ_3, mJ_nW_1, mJ_nW_2]) w1
    · simp (disch := omega) only [true_and, mI_sI_1, mI_sI_2, mI_sI_3, mI_nW_1, mI_nW_2, mI_sR, mI_sJ, mI_sA_1, mI_sA_2, mR_sI, mR_sJ, mR_sA, mR_sR_1, mR_sR_2, mR_sR_3, mR_nW_1, mR_nW_2, mN_sI, mN_sJ, mN_sR, mN_sA, mN_nW_1, mN_nW_2, mJ_sI, mJ_sR, mJ_sA, mJ_sJ_1, mJ_sJ_2, mJ_sJ_3, mJ_nW_1, mJ_nW_2]; exact hnt.2.2.2
    · rcases hgood with ⟨_, _, _, et, _⟩ | ⟨e, _⟩ | ⟨e, _⟩ | ⟨e, _⟩ | ⟨e, _⟩
      · have : f_textOn (mI (sI (sI N 96 y what) 97 y n)) n nt = nI t := by
          rw [← dp_textOn, dv_e (M := N) (fun a j h1 h2 => by simp (disch := omega) only [true_and, mI_sI_1, mI_sI_2, mI_sI_3, mI_nW_1, mI_nW_2, mI_sR, mI_sJ, mI_sA_1, mI_sA_2, mR_sI, mR_sJ, mR_sA, mR_sR_1, mR_sR_2, mR_sR_3, mR_nW_1, mR_nW_2, mN_sI, mN_sJ, mN_sR, mN_sA, mN_nW_1, mN_nW_2, mJ_sI, mJ_sR, mJ_sA, mJ_sJ_1, mJ_sJ_2, mJ_sJ_3, mJ_nW_1, mJ_nW_2]), dp_textOn]; exact et
        rw [this]; exact p94
      all_goals exact absurd (e.symm.trans w) (by decide)
  have p44 : H_X12_put_44 l q (nI y) what n 1 N := w_X12_put_44 l q _ _ _ _ N (c12_in _ _ _ _ ⟨fun w => absurd w hr, fun _ => ⟨fun _ => p66, fun w => absurd w (by decide)⟩⟩)
  refine w_X12_put l _ _ _ N q ?_
  rcases hgood with ⟨e, hd, _⟩ | ⟨e, _⟩ | ⟨e, hd, _⟩ | ⟨e, _⟩ | ⟨e, hd, _⟩
  · refine ⟨fun w => absurd (e.symm.trans w) (by decide), fun _ => ⟨fun w => absurd (e.symm.trans w) (by decide), fun _ => ⟨fun _ => ⟨fun _ => c12_isDay _ _ ⟨fun w => by rw [hd] at w; exact absurd w (by decide), fun _ => p44⟩, fun w => absurd e w⟩, fun w => absurd (e.symm.trans w) (by decide)⟩⟩⟩
  · exact ⟨fun w => absurd (e.symm.trans w) (by decide), fun _ => ⟨fun _ => p44, fun w => absurd e w⟩⟩
  · refine ⟨fun w => absurd (e.symm.trans w) (by decide), fun _ => ⟨fun w => absurd (e.symm.trans w) (by decide), fun _ => ⟨fun _ => ⟨fun w => absurd (e.symm.trans w) (by decide), fun _ => ⟨fun w => absurd e w, fun _ => c12_isDay _ _ ⟨fun w => by rw [hd] at w; exact absurd w (by decide), fun _ => p44⟩⟩⟩, fun w => absurd (e.symm.trans w) (by decide)⟩⟩⟩
  · exact ⟨fun _ => p44, fun w => absurd e w⟩
  · refine ⟨fun w => absurd (e.symm.trans w) (by decide), fun _ => ⟨fun w => absurd (e.symm.trans w) (by decide), fun _ => ⟨fun w => absurd e w, fun _ => c12_isService _ _ ?_⟩⟩⟩
    rw [e14, hd]
    exact ⟨fun _ => p44, fun w => absurd w (by decide)⟩
/-- the class has written into one tray -/
def CW (M N : o_M) (y : Nat) : Prop := (∀ a j, scr a j = false → a ≠ 41 + 128 * y → mI N a j = mI M a j) ∧ (∀ a j, lj a → a ≠ 42 + 128 * y → mJ N a j = mJ M a j) ∧ (∀ a j, a ≠ 41 + 128 * y → mR N a j = mR M a j) ∧ mR N (41 + 128 * y) 0 = mR M (41 + 128 * y) 0 ∧ mN N = mN M ∧ mL N = mL M
theorem TY_p {N : o_M} {y : Nat} (hR : mR N 21 y = mR M 21 y) (h1 : ∀ j, mI N (41 + 128 * y) j = mI M (41 + 128 * y) j) (h2 : ∀ j, mR N (41 + 128 * y) j = mR M (41 + 128 * y) j) (h3 : ∀ j, mJ N (42 + 128 * y) j = mJ M (42 + 128 * y) j) (hN : mN N = mN M) (h96 : mI N 96 y = mI M 96 y) (h97 : mI N 97 y = mI M 97 y) (h98 : mI N 98 y = mI M 98 y) (h99 : ∀ i, i < 300 → mJ N 99 (300 * y + i) = mJ M 99 (300 * y + i)) (h52 : ∀ t j, mI N (52 + 128 * t) j = mI M (52 + 128 * t) j) (r : TY M y ns nt) : TY N y ns nt := by
  obtain ⟨a, b, c, d, e⟩ := r
  refine ⟨by rw [hR]; exact a, by rw [h2]; exact b, by rw [hN]; exact c, by rw [h1, h96]; exact d, ?_⟩
  rw [h96, h97, h98, h1, h1, h2, h2, hN]
  rcases e with e | e | ⟨e, t, z, e1, e2, e3, e4, e5, e6, e7⟩ | ⟨e, n, e1, e2, e3, e4⟩ | ⟨e, n, e1, e2, e3, e4⟩
  · exact Or.inl e
  · exact Or.inr (Or.inl e)
  · exact Or.inr (Or.inr (Or.inl ⟨e, t, z, e1, e2, e3, e4, e5, e6, fun i hi => by rw [h99 i (by omega), h52]; exact e7 i hi⟩))
  · exact Or.inr (Or.inr (Or.inr (Or.inl ⟨e, n, e1, e2, e3, fun i hi => by rw [h99 i (by omega), h3]; exact e4 i hi⟩)))
  · exact Or.inr (Or.inr (Or.inr (Or.inr ⟨e, n, e1, e2, e3, fun i hi => by rw [h99 i (by omega)]; exact e4 i hi⟩)))
theorem put_rel (r : Rel M nw np ns nt T) {y : Nat} (hy : y < 6) {N1 N' : o_M} {what n size : Int32} {z : Nat} (hz : z ≤ 300) {val : Nat → Int64} (hC : CW M N1 y) (hP : PW (sI N1 16 17 0) N' y what n size z val) (hTY : TY N' y ns nt) : Nx T N' := by
  have ⟨r1, r2, r3, r4, r5, r6, r7, r8, r9, r10, r11⟩ := r
  obtain ⟨c1, c2, c3, c4, c5, c6⟩ := hC
  obtain ⟨p1, p2, p3, p4, p5⟩ := hP
  have hI : ∀ a j, scr a j = false → a ≠ 41 + 128 * y → ¬ ((a = 96 ∨ a = 97 ∨ a = 98) ∧ j = y) → ¬ (a = 60 ∧ j = 39) → ¬ (a = 16 ∧ j = 17) → mI N' a j = mI M a j := fun a j h1 h2 h3 h4 h5 => by
    rw [p1 a j h1, if_neg (by omega), if_neg (by omega), if_neg (by omega), if_neg h4, mI_sI, if_neg h5, c1 a j h1 h2]
  have hJ : ∀ a j, lj a → a ≠ 42 + 128 * y → ¬ (a = 99 ∧ 300 * y ≤ j ∧ j < 300 * y + z) → mJ N' a j = mJ M a j := fun a j h1 h2 h3 => by
    rw [p2 a j h1, if_neg h3]; exact c2 a j h1 h2
  have hR : ∀ a j, a ≠ 41 + 128 * y → mR N' a j = mR M a j := fun a j h1 => by rw [p3]; exact c3 a j h1
  have hN : mN N' = mN M := p4.trans c5
  have hL : mL N' = mL M := p5.trans c6
  have hF : ∀ {F : Nat → Prop}, (∀ x, F x → (∀ j, scr x j = false) ∧ ¬ (x = 27 ∨ x = 28 ∨ x = 111)) → (∀ x, F x → ¬ (41 ≤ x % 128 ∧ x % 128 ≤ 42) ∧ ¬ (96 ≤ x ∧ x ≤ 99) ∧ x ≠ 60 ∧ x ≠ 16) → Fr F M N' := fun f1 f2 id hi => by
    obtain ⟨s1, s2⟩ := f1 id hi
    obtain ⟨s3, s4, s5, s6⟩ := f2 id hi
    exact ⟨funext fun j => hI id j (s1 j) (by omega) (by omega) (by omega) (by omega), funext fun j => hJ id j s2 (by omega) (by omega), funext fun j => hR id j (by omega), by rw [hN]⟩
  have st : mI N' 16 17 = 0 := by rw [p1 16 17 rfl, if_neg (by omega), if_neg (by omega), if_neg (by omega), if_neg (by omega)]; simp (disch := omega) only [true_and, mI_sI_1, mI_sI_2, mI_sI_3, mI_nW_1, mI_nW_2, mI_sR, mI_sJ, mI_sA_1, mI_sA_2, mR_sI, mR_sJ, mR_sA, mR_sR_1, mR_sR_2, mR_sR_3, mR_nW_1, mR_nW_2, mN_sI, mN_sJ, mN_sR, mN_sA, mN_nW_1, mN_nW_2, mJ_sI, mJ_sR, mJ_sA, mJ_sJ_1, mJ_sJ_2, mJ_sJ_3, mJ_nW_1, mJ_nW_2]
  have st2 : mI N' 60 39 = 0 := by rw [p1 60 39 rfl, if_neg (by omega), if_neg (by omega), if_neg (by omega), if_pos ⟨rfl, rfl⟩]
  refine Nx_s (nw := nw) (np := np) (ns := ns) (nt := nt) ⟨wM_k (fun k => hR _ _ (by omega)) (fun x _ _ => by rw [hN]) r1, wX_k (fun x k hx => hR _ _ (by omega)) (fun x _ _ => by rw [hN]) r2, ?_, by unfold RLv; rw [hL]; exact r4, RW_fr (hF (fun x hx => scr_F (Or.inl hx)) (fun x hx => by unfold FW at hx; omega)) r5, RP_fr (hF (fun x hx => scr_F (Or.inr (Or.inl hx))) (fun x hx => by unfold FP at hx; omega)) r6, RS_fr (hF (fun x hx => scr_F (Or.inr (Or.inr (Or.inl hx)))) (fun x hx => by unfold FS at hx; omega)) r7, RT_fr (hF (fun x hx => scr_F (Or.inr (Or.inr (Or.inr (Or.inl hx))))) (fun x hx => by unfold FT at hx; omega)) r8, fun y' hy' => ?_, ?_, ?_⟩
  · unfold RC
    have e16 : ∀ j, j ≠ 17 → mI N' 16 j = mI M 16 j := fun j hj => hI 16 j rfl (by omega) (by omega) (by omega) (by omega)
    have e60 : ∀ j, scr 60 j = false → j ≠ 39 → mI N' 60 j = mI M 60 j := fun j hs hj => hI 60 j hs (by omega) (by omega) (by omega) (by omega)
    rw [e16 11 (by decide), e16 12 (by decide), e16 13 (by decide), e16 14 (by decide), e16 16 (by decide), e60 0 rfl (by decide), e60 7 rfl (by decide), e60 14 rfl (by decide), e60 25 rfl (by decide), e60 34 rfl (by decide), st, st2]
    exact ⟨r3.1, r3.2.1, r3.2.2.1, r3.2.2.2.1, r3.2.2.2.2.1, rfl⟩
  · by_cases hyy : y' = y
    · subst hyy; exact hTY
    · exact TY_p (hR _ _ (by omega)) (fun j => hI _ j (scr_o (by omega) (by omega)) (by omega) (by omega) (by omega) (by omega)) (fun j => hR _ j (by omega)) (fun j => hJ _ j (by unfold lj; omega) (by omega) (by omega)) hN (hI _ _ rfl (by omega) (by omega) (by omega) (by omega)) (hI _ _ rfl (by omega) (by omega) (by omega) (by omega)) (hI _ _ rfl (by omega) (by omega) (by omega) (by omega)) (fun i hi => hJ _ _ (by unfold lj; omega) (by omega) (by omega)) (fun t j => hI _ j (scr_o (by omega) (by omega)) (by omega) (by omega) (by omega) (by omega)) (r9 y' hy')
  · exact RZ_k (hI 16 15 rfl (by omega) (by omega) (by omega) (by omega)) (hI 60 24 rfl (by omega) (by omega) (by omega) (by omega)) (fun j => hI 22 j rfl (by omega) (by omega) (by omega) (by omega)) (fun j => hI 84 j rfl (by omega) (by omega) (by omega) (by omega)) r10
  · exact RD_k (fun j => hI 102 j rfl (by omega) (by omega) (by omega) (by omega)) r11
theorem CW_V (r : RelV M nw np ns nt T) {N : o_M} {y : Nat} (hC : CW M N y) : ∀ a j, 61 ≤ a → a ≤ 94 → mI N a j = mI M a j := fun a j h1 h2 => hC.1 a j (scr_94 h1 (by omega)) (by omega)
end S73
