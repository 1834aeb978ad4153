/-! what the reckonings rest on, without the trays -/
section S71
variable {l : Launch} {M : o_M} {nw np ns nt T : Nat}
def RCv (M : o_M) (nw np ns nt T : Nat) : Prop := (nw ≤ 12 ∧ mI M 16 11 = nI nw ∧ mI M 60 0 = nI nw) ∧ (np ≤ 10 ∧ mI M 16 12 = nI np ∧ mI M 60 7 = nI np) ∧ (ns ≤ 40 ∧ mI M 16 13 = nI ns ∧ mI M 60 14 = nI ns) ∧ (1 ≤ nt ∧ nt ≤ 10 ∧ mI M 16 14 = nI nt ∧ mI M 60 25 = nI nt) ∧ (mI M 16 16 = nI T ∧ mI M 60 34 = nI T) ∧ True
def RelV (M : o_M) (nw np ns nt T : Nat) : Prop := wM M ∧ wX M ∧ RCv M nw np ns nt T ∧ RLv M nw np ns nt ∧ RW M nw ∧ RP M np ∧ RS M ns nw ∧ RT M nt T ∧ True ∧ RZ M ∧ RD M
theorem RelV_of (r : Rel M nw np ns nt T) : RelV M nw np ns nt T := ⟨r.1, r.2.1, ⟨r.2.2.1.1, r.2.2.1.2.1, r.2.2.1.2.2.1, r.2.2.1.2.2.2.1, r.2.2.1.2.2.2.2.1, trivial⟩, r.2.2.2.1, r.2.2.2.2.1, r.2.2.2.2.2.1, r.2.2.2.2.2.2.1, r.2.2.2.2.2.2.2.1, trivial, r.2.2.2.2.2.2.2.2.2.1, r.2.2.2.2.2.2.2.2.2.2⟩
theorem RelV_Sm {M N : o_M} {nw np ns nt T : Nat} (h : Sm M N) (r : RelV M nw np ns nt T) : RelV N nw np ns nt T := by
  obtain ⟨r1, r2, r3, r4, r5, r6, r7, r8, r9, r10, r11⟩ := r
  refine ⟨Sm_wM h r1, Sm_wX h r2, ?_, ?_, RW_fr (Fr_Sm h fun x hx => scr_F (Or.inl hx)) r5, RP_fr (Fr_Sm h fun x hx => scr_F (Or.inr (Or.inl hx))) r6, RS_fr (Fr_Sm h fun x hx => scr_F (Or.inr (Or.inr (Or.inl hx)))) r7, RT_fr (Fr_Sm h fun x hx => scr_F (Or.inr (Or.inr (Or.inr (Or.inl hx))))) r8, trivial, ?_, ?_⟩
  · unfold RCv
    rw [Sm_row h (id := 16) (fun _ => rfl), Sm_i h (id := 60) (j := 0) rfl, Sm_i h (id := 60) (j := 7) rfl, Sm_i h (id := 60) (j := 14) rfl, Sm_i h (id := 60) (j := 25) rfl, Sm_i h (id := 60) (j := 34) rfl]
    exact r3
  · unfold RLv; rw [h.2.2.2.2]; exact r4
  · unfold RZ
    rw [Sm_row h (id := 16) (fun _ => rfl), Sm_row h (id := 22) (fun _ => rfl), Sm_row h (id := 84) (fun _ => rfl), Sm_i h (id := 60) (j := 24) rfl]
    exact r10
  · unfold RD; rw [Sm_row h (id := 102) (fun _ => rfl)]; exact r11
theorem RelV_st (r : RelV M nw np ns nt T) (x : Int32) : RelV (sI M 16 17 x) nw np ns nt T := by
  obtain ⟨r1, r2, r3, r4, r5, r6, r7, r8, r9, r10, r11⟩ := r
  refine ⟨wM_k (fun k => by simp (disch := omega) only [true_and, mI_sI_1, mI_sI_2, mI_sI_3, mI_nW_1, mI_nW_2, mI_sR, mI_sJ, mI_sA_1, mI_sA_2, mR_sI, mR_sJ, mR_sA, mR_sR_1, mR_sR_2, mR_sR_3, mR_nW_1, mR_nW_2, mN_sI, mN_sJ, mN_sR, mN_sA, mN_nW_1, mN_nW_2, mJ_sI, mJ_sR, mJ_sA, mJ_sJ_1, mJ_sJ_2, mJ_sJ_3, mJ_nW_1, mJ_nW_2]) (fun x _ _ => by simp (disch := omega) only [true_and, mI_sI_1, mI_sI_2, mI_sI_3, mI_nW_1, mI_nW_2, mI_sR, mI_sJ, mI_sA_1, mI_sA_2, mR_sI, mR_sJ, mR_sA, mR_sR_1, mR_sR_2, mR_sR_3, mR_nW_1, mR_nW_2, mN_sI, mN_sJ, mN_sR, mN_sA, mN_nW_1, mN_nW_2, mJ_sI, mJ_sR, mJ_sA, mJ_sJ_1, mJ_sJ_2, mJ_sJ_3, mJ_nW_1, mJ_nW_2]) r1, wX_k (fun x k hx => by simp (disch := omega) only [true_and, mI_sI_1, mI_sI_2, mI_sI_3, mI_nW_1, mI_nW_2, mI_sR, mI_sJ, mI_sA_1, mI_sA_2, mR_sI, mR_sJ, mR_sA, mR_sR_1, mR_sR_2, mR_sR_3, mR_nW_1, mR_nW_2, mN_sI, mN_sJ, mN_sR, mN_sA, mN_nW_1, mN_nW_2, mJ_sI, mJ_sR, mJ_sA, mJ_sJ_1, mJ_sJ_2, mJ_sJ_3, mJ_nW_1, mJ_nW_2]) (fun x _ _ => by simp (disch := omega) only [true_and, mI_sI_1, mI_sI_2, mI_sI_3, mI_nW_1, mI_nW_2, mI_sR, mI_sJ, mI_sA_1, mI_sA_2, mR_sI, mR_sJ, mR_sA, mR_sR_1, mR_sR_2, mR_sR_3, mR_nW_1, mR_nW_2, mN_sI, mN_sJ, mN_sR, mN_sA, mN_nW_1, mN_nW_2, mJ_sI, mJ_sR, mJ_sA, mJ_sJ_1, mJ_sJ_2, mJ_sJ_3, mJ_nW_1, mJ_nW_2]) r2, ?_, r4, RW_fr (by (repeat (first | exact Fr_r _ _ | refine Fr_sI ?_ (by unfold FW; omega) _ _ | refine Fr_sR ?_ (by unfold FW; omega) _ _ | refine Fr_nW ?_ (by unfold FW; omega) _ | refine Fr_sJ ?_ (by unfold FW; omega) _ _ | refine Fr_sA ?_ (by unfold FW; omega) _))) r5, RP_fr (by (repeat (first | exact Fr_r _ _ | refine Fr_sI ?_ (by unfold FP; omega) _ _ | refine Fr_sR ?_ (by unfold FP; omega) _ _ | refine Fr_nW ?_ (by unfold FP; omega) _ | refine Fr_sJ ?_ (by unfold FP; omega) _ _ | refine Fr_sA ?_ (by unfold FP; omega) _))) r6, RS_fr (by (repeat (first | exact Fr_r _ _ | refine Fr_sI ?_ (by unfold FS; omega) _ _ | refine Fr_sR ?_ (by unfold FS; omega) _ _ | refine Fr_nW ?_ (by unfold FS; omega) _ | refine Fr_sJ ?_ (by unfold FS; omega) _ _ | refine Fr_sA ?_ (by unfold FS; omega) _))) r7, RT_fr (by (repeat (first | exact Fr_r _ _ | refine Fr_sI ?_ (by unfold FT; omega) _ _ | refine Fr_sR ?_ (by unfold FT; omega) _ _ | refine Fr_nW ?_ (by unfold FT; omega) _ | refine Fr_sJ ?_ (by unfold FT; omega) _ _ | refine Fr_sA ?_ (by unfold FT; omega) _))) r8, trivial, RZ_k (by simp (disch := omega) only [true_and, mI_sI_1, mI_sI_2, mI_sI_3, mI_nW_1, mI_nW_2, mI_sR, mI_sJ, mI_sA_1, mI_sA_2, mR_sI, mR_sJ, mR_sA, mR_sR_1, mR_sR_2, mR_sR_3, mR_nW_1, mR_nW_2, mN_sI, mN_sJ, mN_sR, mN_sA, mN_nW_1, mN_nW_2, mJ_sI, mJ_sR, mJ_sA, mJ_sJ_1, mJ_sJ_2, mJ_sJ_3, mJ_nW_1, mJ_nW_2]) (by simp (disch := omega) only [true_and, mI_sI_1, mI_sI_2, mI_sI_3, mI_nW_1, mI_nW_2, mI_sR, mI_sJ, mI_sA_1, mI_sA_2, mR_sI, mR_sJ, mR_sA, mR_sR_1, mR_sR_2, mR_sR_3, mR_nW_1, mR_nW_2, mN_sI, mN_sJ, mN_sR, mN_sA, mN_nW_1, mN_nW_2, mJ_sI, mJ_sR, mJ_sA, mJ_sJ_1, mJ_sJ_2, mJ_sJ_3, mJ_nW_1, mJ_nW_2]) (fun j => by simp (disch := omega) only [true_and, mI_sI_1, mI_sI_2, mI_sI_3, mI_nW_1, mI_nW_2, mI_sR, mI_sJ, mI_sA_1, mI_sA_2, mR_sI, mR_sJ, mR_sA, mR_sR_1, mR_sR_2, mR_sR_3, mR_nW_1, mR_nW_2, mN_sI, mN_sJ, mN_sR, mN_sA, mN_nW_1, mN_nW_2, mJ_sI, mJ_sR, mJ_sA, mJ_sJ_1, mJ_sJ_2, mJ_sJ_3, mJ_nW_1, mJ_nW_2]) (fun j => by simp (disch := omega) only [true_and, mI_sI_1, mI_sI_2, mI_sI_3, mI_nW_1, mI_nW_2, mI_sR, mI_sJ, mI_sA_1, mI_sA_2, mR_sI, mR_sJ, mR_sA, mR_sR_1, mR_sR_2, mR_sR_3, mR_nW_1, mR_nW_2, mN_sI, mN_sJ, mN_sR, mN_sA, mN_nW_1, mN_nW_2, mJ_sI, mJ_sR, mJ_sA, mJ_sJ_1, mJ_sJ_2, mJ_sJ_3, mJ_nW_1, mJ_nW_2]) r10, RD_k (fun j => by simp (disch := omega) only [true_and, mI_sI_1, mI_sI_2, mI_sI_3, mI_nW_1, mI_nW_2, mI_sR, mI_sJ, mI_sA_1, mI_sA_2, mR_sI, mR_sJ, mR_sA, mR_sR_1, mR_sR_2, mR_sR_3, mR_nW_1, mR_nW_2, mN_sI, mN_sJ, mN_sR, mN_sA, mN_nW_1, mN_nW_2, mJ_sI, mJ_sR, mJ_sA, mJ_sJ_1, mJ_sJ_2, mJ_sJ_3, mJ_nW_1, mJ_nW_2]) r11⟩
  unfold RCv
  simp (disch := omega) only [true_and, mI_sI_1, mI_sI_2, mI_sI_3, mI_nW_1, mI_nW_2, mI_sR, mI_sJ, mI_sA_1, mI_sA_2, mR_sI, mR_sJ, mR_sA, mR_sR_1, mR_sR_2, mR_sR_3, mR_nW_1, mR_nW_2, mN_sI, mN_sJ, mN_sR, mN_sA, mN_nW_1, mN_nW_2, mJ_sI, mJ_sR, mJ_sA, mJ_sJ_1, mJ_sJ_2, mJ_sJ_3, mJ_nW_1, mJ_nW_2]
  exact r3
/-- cells of trays don't matter -/
def FYm (x : Nat) : Prop := ¬ (41 ≤ x % 128 ∧ x % 128 ≤ 42) ∧ ¬ (96 ≤ x ∧ x ≤ 99)
theorem RelV_fr {M N : o_M} (h : Fr FYm M N) (hN : mN N = mN M) (hL : mL N = mL M) (r : RelV M nw np ns nt T) : RelV N nw np ns nt T := by
  obtain ⟨r1, r2, r3, r4, r5, r6, r7, r8, r9, r10, r11⟩ := r
  have sub : ∀ {F : Nat → Prop}, (∀ x, F x → FYm x) → Fr F M N := fun hF id hi => h id (hF id hi)
  refine ⟨wM_k (fun k => by rw [(h 60 (by unfold FYm; omega)).2.2.1]) (fun x _ _ => by rw [hN]) r1, wX_k (fun x k hx => by rw [(h x (by unfold FYm; omega)).2.2.1]) (fun x _ _ => by rw [(h x (by unfold FYm; omega)).2.2.2]) r2, ?_, by unfold RLv; rw [hL]; exact r4, RW_fr (sub (fun x hx => by unfold FW at hx; unfold FYm; omega)) r5, RP_fr (sub (fun x hx => by unfold FP at hx; unfold FYm; omega)) r6, RS_fr (sub (fun x hx => by unfold FS at hx; unfold FYm; omega)) r7, RT_fr (sub (fun x hx => by unfold FT at hx; unfold FYm; omega)) r8, trivial, ?_, ?_⟩
  · unfold RCv; rw [(h 16 (by unfold FYm; omega)).1, (h 60 (by unfold FYm; omega)).1]; exact r3
  · unfold RZ; rw [(h 16 (by unfold FYm; omega)).1, (h 60 (by unfold FYm; omega)).1, (h 22 (by unfold FYm; omega)).1, (h 84 (by unfold FYm; omega)).1]; exact r10
  · unfold RD; rw [(h 102 (by unfold FYm; omega)).1]; exact r11
theorem vokS_of (r : RelV M nw np ns nt T) {s : Nat} (hs : s < ns) : okS M s := by
  obtain ⟨n, hn5, en, hk, _⟩ := (r.2.2.2.2.2.2.1.1 s hs).2.2.1.2
  have hnw := r.2.2.1.1.1
  exact ⟨n, hn5, en, fun k hk' => by obtain ⟨w, h1, h2, _⟩ := hk k hk'; exact ⟨w, by omega, h2⟩⟩
theorem vchairs_of (r : RelV M nw np ns nt T) {s : Nat} (hs : s < ns) : ∃ n, n ≤ 12 ∧ f_chairs (mI M) s none = nI n := by
  obtain ⟨n, h1, h2, _⟩ := (r.2.2.2.2.2.2.1.1 s hs).2.2.2.2.2
  exact ⟨n, h1, h2⟩
theorem vsits_of (r : RelV M nw np ns nt T) {s p : Nat} (hs : s < ns) (hp : p < 10) : (((mI M (47 + 128 * s) 10 >>> (nI p &&& 31)) &&& 1) == 1) = !(f_chairOf (mI M) s (nI p) == -1) := (r.2.2.2.2.2.2.1.1 s hs).2.2.2.2.2.choose_spec.2.2.2.2 p hp
theorem vc11_sits (r : RelV M nw np ns nt T) {s p : Nat} (hs : s < ns) (hp : p < 10) (q : Int32 → o_M → Prop) (h0 : f_chairOf (mI M) s (nI p) = -1 → q 0 M) (h1 : ¬ f_chairOf (mI M) s (nI p) = -1 → q 1 M) : K_X6_sits l [rV (some (47 + 128 * s)), iV (nI p)] M q := by
  refine c6_sits (ty47 s) _ q ?_
  rw [vsits_of r hs hp]
  by_cases h : f_chairOf (mI M) s (nI p) = -1
  · rw [h]; exact h0 h
  · have : (f_chairOf (mI M) s (nI p) == -1) = false := by simp [h]
    rw [this]; exact h1 h
theorem vsvR (r : RelV M nw np ns nt T) {s : Nat} (hs : s < ns) : mR M 19 s = some (47 + 128 * s) := (r.2.2.2.2.2.2.1.1 s hs).1.1
theorem vtxR (r : RelV M nw np ns nt T) {t : Nat} (ht : t < nt) : mR M 20 t = some (51 + 128 * t) := (r.2.2.2.2.2.2.2.1 t ht).1
theorem vc11_findInForce (r : RelV M nw np ns nt T) (hT : T < 2 ^ 30) (d : Int32) (q : Int32 → o_M → Prop) (h : q (f_textOn (mI M) d nt) M) : K_X11_findInForce l [rV (some 16), iV d] M q := by
  have ⟨r1, r2, r3, r4, r5, r6, r7, r8, r9, r10, r11⟩ := r
  obtain ⟨_, hn, e16, e60⟩ := r3.2.2.2.1
  have key : ∀ m k : Nat, k + m = nt → ∀ x y z : Int32, lp (f_txS (mI M) d) (0, -1) k = (x, y) → ((y = -1 ∧ z = 0) ∨ ∃ b, b < T ∧ y = nI b ∧ z = nI (b + 1)) → H_X11_findInForce_7 l q d x z (nI k) M := by
    intro m
    induction m with
    | zero =>
      intro c hc x y z hxy _
      have : c = nt := by omega
      subst this
      refine w_X11_findInForce_7 l q _ _ _ _ M ?_
      rw [e16]
      refine ⟨fun _ => ?_, fun z => absurd (nI_le (Nat.le_refl _) (by omega)) z⟩
      unfold f_textOn at h; rw [hxy] at h; exact h
    | succ m ih =>
      intro k hk x y z hxy hyz
      have e := ih (k + 1) (by omega)
      simp only [lp] at e
      rw [hxy] at e
      unfold f_txS at e
      have htx := (r8 k (by omega)).2.2.2.2.2.2
      refine w_X11_findInForce_7 l q _ _ _ _ M ?_
      rw [e16, xn20 r2, nI_clamp (by omega), n1, vtxR r (by omega)]
      refine ⟨fun z => ?_, fun _ => ⟨xr16_3 r2, vin (by omega) (by decide), _, rfl, ty51 k, ?_⟩⟩
      · rw [nI_leI (by omega) (by omega)] at z; omega
      · rcases htx with ⟨t1, t2⟩ | ⟨dd, rr, hd, hr, t1, t2, t3, t4⟩
        · rw [if_pos t1] at e
          rw [t2]
          refine ⟨fun _ => e x y z rfl hyz, fun c => ?_⟩
          rcases hyz with ⟨_, e1⟩ | ⟨b, hb, _, e1⟩ <;> rw [e1] at c
          · exact absurd (Int32.le_refl _) c
          · exact absurd (nI_le (a := 0) (by omega) (by omega)) c
        · have hne : ¬ mI M 93 k = -1 := by rw [t1]; exact nI_ne1 (by omega)
          rw [if_neg hne, t1, t3] at e
          rw [t2, t4]
          refine ⟨fun c => ?_, fun c => ⟨fun c2 => ?_, fun c2 => ?_⟩⟩
          · by_cases c2 : d < nI dd
            · rw [if_pos c2] at e; exact e x y z rfl hyz
            · rw [if_neg c2] at e
              have c3 : nI rr ≤ y := by
                rcases hyz with ⟨e0, e1⟩ | ⟨b, hb, e0, e1⟩
                · rw [e1, show (0 : Int32) = nI 0 from rfl, nI_leI (by omega) (by omega)] at c; omega
                · rw [e1, nI_leI (by omega) (by omega)] at c; rw [e0, nI_leI (by omega) (by omega)]; omega
              rw [if_pos c3] at e; exact e x y z rfl hyz
          · rw [if_pos c2] at e; exact e x y z rfl hyz
          · rw [if_neg c2] at e
            have c3 : ¬ nI rr ≤ y := by
              rcases hyz with ⟨e0, e1⟩ | ⟨b, hb, e0, e1⟩
              · intro z3
                rw [e0] at z3
                (simp (disch := omega) only [ile, ilt, ieq, nI_toInt, Int32.reduceToInt] at z3; omega)
              · rw [e1, nI_leI (by omega) (by omega)] at c; rw [e0, nI_leI (by omega) (by omega)]; omega
            rw [if_neg c3] at e
            exact e (nI k) (nI rr) (nI (rr + 1)) rfl (Or.inr ⟨rr, hr, rfl, rfl⟩)
  exact w_X11_findInForce l _ M q (key nt 0 (by omega) 0 (-1) 0 rfl (Or.inl ⟨rfl, rfl⟩))
theorem vk12_textOn (r : RelV M nw np ns nt T) (d : Int32) (q : Int32 → o_M → Prop) (h : q (f_textOn (mI M) d nt) M) : K_X12_textOn l [rV (some 60), iV d] M q := c12_textOn r.1 r.2.2.1.2.2.2.1.2.2.2 r.2.2.1.2.2.2.1.2.1 d q h
theorem vtextOn_lt (r : RelV M nw np ns nt T) (d : Int32) : ∃ t, t < nt ∧ f_textOn (mI M) d nt = nI t := by
  have h1 := r.2.2.1.2.2.2.1.1
  have key : ∀ k, ∃ t, (t = 0 ∨ t < k) ∧ (lp (f_txS (mI M) d) (0, -1) k).1 = nI t := by
    intro k
    induction k with
    | zero => exact ⟨0, Or.inl rfl, rfl⟩
    | succ k ih =>
      obtain ⟨t, ht, e⟩ := ih
      simp only [lp]
      unfold f_txS
      split
      · exact ⟨t, by omega, e⟩
      · split
        · exact ⟨t, by omega, e⟩
        · split
          · exact ⟨t, by omega, e⟩
          · exact ⟨k, by omega, rfl⟩
  obtain ⟨t, ht, e⟩ := key nt
  exact ⟨t, by omega, e⟩
theorem vc12_worthOf (r : RelV M nw np ns nt T) {t j s p b : Nat} (ht : t < nt) (hb : mI M 91 t = nI b) (hb9 : b ≤ 8) (hj : j < b + 2) (hs : s < ns) (hp : p < np) (i : Int32) (q : Int64 → o_M → Prop) (h : ∀ N, Sl M N → q (f_worth (mI M) ns t j s p i) N) : K_X12_worthOf l [rV (some 60), iV (nI t), iV (nI j), iV (nI s), iV (nI p), iV i] M q := by
  have ⟨r1, r2, r3, r4, r5, r6, r7, r8, r9, r10, r11⟩ := r
  have hnt := r3.2.2.2.1.2.1
  have hns := r3.2.2.1
  have hnp := r3.2.1
  obtain ⟨b', cl, e, hb8, hcl, g1, g2, g3, g4, g5, g6, g7, g8⟩ := (r8 t ht).2.2.2.2.2.1
  have hbb : b' = b := nI_inj (by omega) (by omega) (g3.symm.trans hb)
  subst hbb
  obtain ⟨w1, hgh, w2, w3, w4, w5⟩ := g7 j hj
  have ea := (g6 j (by omega)).1
  have eb := (g6 (j + 1) (by omega)).1
  have hbl := (g6 (j + 1) (by omega)).2
  have h1 : (11 : Int32) * nI t + nI j = nI (11 * t + j) := ixm 11 t j rfl
  have h2 : nI (11 * t + j) + 1 = nI (11 * t + (j + 1)) := n1 _
  let nm : Int32 → Int64 := fun w => (f_named (mI M) ns w s p i).toInt64
  have hval : f_worth (mI M) ns t j s p i = (f_run (mI M) nm t (e j) (e (j + 1) - e j)).1 0 := by
    unfold f_worth
    rw [ea, eb, nI_clamp (by omega), nI_clamp (by omega)]
  have hht : ∀ k, e j + k ≤ e (j + 1) → (f_run (mI M) nm t (e j) k).2 = hgh (e j + k) := by
    intro k
    induction k with
    | zero => intro _; exact w2.symm
    | succ k ih =>
      intro hk
      have := ih (by omega)
      have h5 := (w5 (e j + k) (by omega) (by omega)).2
      rw [← this] at h5
      exact stp_h h5
  have key : ∀ m k : Nat, e j + k + m = e (j + 1) → ∀ N, Sl M N → (∀ x, x < hgh (e j + k) → mJ N 111 x = (f_run (mI M) nm t (e j) k).1 x) → H_X12_worthOf_16 l q (nI t) (nI j) (nI s) (nI p) i (nI (hgh (e j + k))) (nI (e j + k)) N := by
    intro m
    induction m with
    | zero =>
      intro k hk N hN hst
      have rN := RelV_Sm hN.1 r
      have e92 : mI N 92 = mI M 92 := Sm_row hN.1 (fun _ => rfl)
      refine w_X12_worthOf_16 l q _ _ _ _ _ _ _ N ?_
      rw [h1, h2, nI_clamp (by omega), wn31 rN.1, e92, eb]
      refine ⟨wr31 rN.1, vin (by omega) (by decide), fun _ => ⟨wr50 rN.1, by rw [wn50 rN.1]; exact vin (j := 0) (by decide) (by decide), ?_⟩, fun z => ?_⟩
      · rw [show ((0 : Int32).toNatClampNeg) = 0 from by decide, hst 0 (by rw [show e j + k = e (j + 1) by omega, w3]; omega)]
        have := h N hN
        rw [hval, show e (j + 1) - e j = k by omega] at this; exact this
      · rw [show e j + k = e (j + 1) by omega] at z; exact absurd (nI_le (Nat.le_refl _) (by omega)) z
    | succ m ih =>
      intro k hk N hN hst
      have rN := RelV_Sm hN.1 r
      have e92 : mI N 92 = mI M 92 := Sm_row hN.1 (fun _ => rfl)
      have e89 : mI N 89 = mI M 89 := Sm_row hN.1 (fun _ => rfl)
      have e90 : mI N 90 = mI M 90 := Sm_row hN.1 (fun _ => rfl)
      have e14 : mI N 60 14 = nI ns := rN.2.2.1.2.2.1.2.2
      have h3 : (300 : Int32) * nI t + nI (e j + k) = nI (300 * t + (e j + k)) := ixm 300 t (e j + k) rfl
      have v1 : vp_in (nI (300 * t + (e j + k))) 3300 := vin (by omega) (by decide)
      obtain ⟨hh50, hstep⟩ := w5 (e j + k) (by omega) (by omega)
      have hh50 : hgh (e j + k) ≤ 50 := hh50
      have hstep : hgt (mI M 89 (300 * t + (e j + k))) (hgh (e j + k)) = some (hgh (e j + (k + 1))) := hstep
      have hE := ih (k + 1) (by omega)
      have hrun : f_run (mI M) nm t (e j) (k + 1) = stp nm (mI M 89 (300 * t + (e j + k))) (mI M 90 (300 * t + (e j + k))) (f_run (mI M) nm t (e j) k) := rfl
      have hh := hht k (by omega)
      rw [hrun] at hE
      generalize hX : f_run (mI M) nm t (e j) k = X at *
      obtain ⟨st, hgt0⟩ := X
      simp only at hh hst
      subst hh
      have hNext : ∀ {x y : Nat} {z : Int64}, hgh (e j + (k + 1)) = y → stp nm (mI M 89 (300 * t + (e j + k))) (mI M 90 (300 * t + (e j + k))) (st, hgh (e j + k)) = (fu st x z, y) → y ≤ hgh (e j + k) + 1 → (y = hgh (e j + k) + 1 → x = hgh (e j + k)) → H_X12_worthOf_16 l q (nI t) (nI j) (nI s) (nI p) i (nI y) (nI (e j + k + 1)) (sJ N 111 x z) := by
        intro x y z hy hs2 hle hxe
        have := hE (sJ N 111 x z) ⟨Sm_t hN.1 (Sm_sJ N (Or.inr (Or.inr rfl)) _ _), hN.2⟩ (fun a ha => by
          rw [hs2, mJ_sJ]
          show (if 111 = 111 ∧ a = x then z else mJ N 111 a) = (if a = x then z else st a)
          by_cases hax : a = x
          · rw [if_pos ⟨rfl, hax⟩, if_pos hax]
          · rw [if_neg (fun z => hax z.2), if_neg hax]
            exact hst a (by rw [hy] at ha; omega))
        rw [hy] at this; exact this
      have hvi : ∀ x, x < 320 → vp_in (nI x) 320 := fun x hx => vin hx (by decide)
      have hnm : ∀ w, (f_named (mI N) ns w s p i).toInt64 = nm w := fun w => by rw [fr_named hN.1]
      refine w_X12_worthOf_16 l q _ _ _ _ _ _ _ N ?_
      rw [h1, h2, h3, nI_clamp (by omega), nI_clamp (by omega), wn31 rN.1, wn28 rN.1, wn29 rN.1, e92, eb, e89, e90, n1 (e j + k), nI_clamp (by omega)]
      refine ⟨wr31 rN.1, vin (by omega) (by decide), fun z => ?_, fun _ => ⟨wr28 rN.1, v1, wr29 rN.1, v1, ?_⟩⟩
      · rw [nI_leI (by omega) (by omega)] at z; omega
      have wn : mN N 111 = 320 := wn50 rN.1
      unfold hgt at hstep
      generalize mI M 89 (300 * t + (e j + k)) = o at *
      generalize mI M 90 (300 * t + (e j + k)) = w at *
      refine ⟨fun c0 => ⟨wr50 rN.1, fun c => absurd c0 c, fun _ => ⟨by rw [wn]; exact hvi _ (by omega), ?_⟩⟩, fun c0 => ⟨fun c1 => ⟨fun c4 => ⟨fun c10 => ?_, fun c10 => ?_⟩, fun c4 => ?_⟩, fun c1 => ⟨wr50 rN.1, fun _ => c12_named rN.1 (by omega) (by omega) e14 hns.1 _ _ _ ⟨by rw [wn]; exact hvi _ (by omega), ?_⟩, fun c => absurd c c0⟩⟩⟩
      · rw [if_pos (Or.inl c0)] at hstep
        have hy := (Option.some.inj hstep).symm
        rw [n1]
        exact hNext hy (by unfold stp; rw [if_pos c0]) (by omega) (fun _ => rfl)
      · rw [if_neg (by rintro (z | z) <;> contradiction), if_neg (by rintro (z | z) <;> contradiction)] at hstep
        split at hstep
        · rename_i hg2
          have hy := (Option.some.inj hstep).symm
          have m1 : nI (hgh (e j + k)) + -1 = nI (hgh (e j + k) - 1) := by
            have := pk_m1 (hgh (e j + k) - 1)
            rw [show hgh (e j + k) - 1 + 1 = hgh (e j + k) by omega] at this; exact this
          have m2 : nI (hgh (e j + k) - 1) - 1 = nI (hgh (e j + k) - 2) := by
            have := pk_sub (a := hgh (e j + k) - 1) (b := 1) (by omega)
            exact this
          rw [m1, m2, nI_clamp (by omega), nI_clamp (by omega), wn, hst _ (by omega), hst _ (by omega)]
          refine ⟨wr50 rN.1, wr50 rN.1, hvi _ (by omega), wr50 rN.1, hvi _ (by omega), c12_two _ _ _ _ ⟨by rw [wn]; exact hvi _ (by omega), ?_⟩⟩
          exact hNext (x := hgh (e j + k) - 2) (y := hgh (e j + k) - 1) (z := f_two o (st (hgh (e j + k) - 2)) (st (hgh (e j + k) - 1))) hy (by unfold stp; rw [if_neg c0, if_neg c1, if_neg c4, if_neg c10]) (by omega) (fun z => by omega)
        · cases hstep
      · rw [if_neg (by rintro (z | z) <;> contradiction), if_pos (Or.inr c10)] at hstep
        split at hstep
        · have hy := (Option.some.inj hstep).symm
          have m2 : nI (hgh (e j + k)) - 1 = nI (hgh (e j + k) - 1) := pk_sub (a := hgh (e j + k)) (b := 1) (by omega)
          rw [m2, nI_clamp (by omega), wn, hst _ (by omega)]
          refine ⟨wr50 rN.1, wr50 rN.1, hvi _ (by omega), hvi _ (by omega), ?_⟩
          exact hNext hy (by unfold stp; rw [if_neg c0, if_neg c1, if_neg c4, if_pos c10]) (by omega) (fun z => by omega)
        · cases hstep
      · rw [if_neg (by rintro (z | z) <;> contradiction), if_pos (Or.inl c4)] at hstep
        split at hstep
        · have hy := (Option.some.inj hstep).symm
          have m2 : nI (hgh (e j + k)) - 1 = nI (hgh (e j + k) - 1) := pk_sub (a := hgh (e j + k)) (b := 1) (by omega)
          rw [m2, nI_clamp (by omega), wn, hst _ (by omega)]
          refine ⟨wr50 rN.1, wr50 rN.1, hvi _ (by omega), fun z => ⟨hvi _ (by omega), ?_⟩, fun z => ⟨hvi _ (by omega), ?_⟩⟩
          · exact hNext hy (by unfold stp; rw [if_neg c0, if_neg c1, if_pos c4]; simp only; rw [if_neg z]) (by omega) (fun z => by omega)
          · exact hNext hy (by unfold stp; rw [if_neg c0, if_neg c1, if_pos c4]; simp only; rw [if_pos z]) (by omega) (fun z => by omega)
        · cases hstep
      · rw [if_pos (Or.inr c1)] at hstep
        have hy := (Option.some.inj hstep).symm
        rw [n1, hnm]
        exact hNext hy (by unfold stp; rw [if_neg c0, if_pos c1]) (by omega) (fun _ => rfl)
  refine w_X12_worthOf l _ _ _ _ _ M q ?_
  rw [h1, nI_clamp (by omega), wn31 r1, ea]
  refine ⟨wr31 r1, vin (by omega) (by decide), ?_⟩
  have := key (e (j + 1) - e j) 0 (by omega) M (Sl_r M) (fun x hx => by rw [Nat.add_zero, w2] at hx; omega)
  rw [Nat.add_zero, w2] at this; exact this
theorem vtx7 (r : RelV M nw np ns nt T) {t b : Nat} (ht : t < nt) (hb : mI M 91 t = nI b) (hb9 : b ≤ 8) : ∃ cl, ∃ e : Nat → Nat, cl ≤ 300 ∧ mN M (54 + 128 * t) = b + 2 ∧ mI M (51 + 128 * t) 3 = nI b ∧ mN M (53 + 128 * t) = cl ∧ e 0 = 0 ∧ (∀ j, j ≤ b + 2 → mI M 92 (11 * t + j) = nI (e j) ∧ e j ≤ cl) ∧ (∀ j, j < b + 2 → mI M (54 + 128 * t) j = nI (e (j + 1)) ∧ WFp (fun c => mI M 89 (300 * t + c)) (e j) (e (j + 1))) ∧ ∀ c, c < cl → cod (mI M (53 + 128 * t) c) (mI M 89 (300 * t + c)) (mI M 90 (300 * t + c)) := by
  obtain ⟨b', cl, e, hb8, hcl, g1, g2, g3, g4, g5, g6, g7, g8⟩ := (r.2.2.2.2.2.2.2.1 t ht).2.2.2.2.2.1
  have hbb : b' = b := nI_inj (by omega) (by omega) (g3.symm.trans hb)
  subst hbb
  exact ⟨cl, e, hcl, g1, g2, g4, g5, g6, g7, g8⟩
theorem vc4_reckon (r : RelV M nw np ns nt T) {t j s p b : Nat} (ht : t < nt) (hb : mI M 91 t = nI b) (hb9 : b ≤ 8) (hj : j < b + 2) {i : Int32} (hL : ∀ k, k < 10 → mJ M 27 k = (f_named (mI M) ns (nI k) s p i).toInt64) (q : Int64 → o_M → Prop) (h : ∀ N, Sk M N → (∀ k, mJ N 27 k = mJ M 27 k) → q (f_worth (mI M) ns t j s p i) N) : K_X4_reckon l [rV (some 26), rV (some (51 + 128 * t)), iV (nI j)] M q := by
  have ⟨r1, r2, r3, r4, r5, r6, r7, r8, r9, r10, r11⟩ := r
  have hnt := r3.2.2.2.1.2.1
  obtain ⟨cl, e, hcl, g1, g2, g4, g5, g6, g7, g8⟩ := vtx7 r ht hb hb9
  obtain ⟨w1, hgh, w2, w3, w4, w5⟩ := g7 j hj
  have ea := (g6 j (by omega)).1
  have eb := (g6 (j + 1) (by omega)).1
  have hbl := (g6 (j + 1) (by omega)).2
  have eR1 : mR M (51 + 128 * t) 1 = some (53 + 128 * t) := (r8 t ht).2.2.1
  have eR2 : mR M (51 + 128 * t) 2 = some (54 + 128 * t) := (r8 t ht).2.2.2.1
  let nm : Int32 → Int64 := fun w => (f_named (mI M) ns w s p i).toInt64
  have hval : f_worth (mI M) ns t j s p i = (f_run (mI M) nm t (e j) (e (j + 1) - e j)).1 0 := by
    unfold f_worth
    rw [ea, eb, nI_clamp (by omega), nI_clamp (by omega)]
  have hht : ∀ k, e j + k ≤ e (j + 1) → (f_run (mI M) nm t (e j) k).2 = hgh (e j + k) := by
    intro k
    induction k with
    | zero => intro _; exact w2.symm
    | succ k ih =>
      intro hk
      have := ih (by omega)
      have h5 := (w5 (e j + k) (by omega) (by omega)).2
      rw [← this] at h5
      exact stp_h h5
  have key : ∀ m k : Nat, e j + k + m = e (j + 1) → ∀ N, Sk M N → (∀ k, mJ N 27 k = mJ M 27 k) → mI N 26 2 = nI (hgh (e j + k)) → (∀ x, x < hgh (e j + k) → mJ N 28 x = (f_run (mI M) nm t (e j) k).1 x) → H_X4_reckon_18 l q (51 + 128 * t) (nI (e (j + 1))) (nI (e j + k)) N := by
    intro m
    induction m with
    | zero =>
      intro k hk N hN h27 htop hst
      have hek : e j + k = e (j + 1) := by omega
      rw [hek] at htop hst ⊢
      rw [w3] at htop hst
      refine w_X4_reckon_18 l q _ (ty51 t) _ _ N ⟨fun _ => c4_pop (h := 0) (Sm_wX hN.1 r2) htop (by omega) _ ?_, fun z => absurd (nI_le (Nat.le_refl _) (by omega)) z⟩
      rw [hst 0 (by omega)]
      have := h (sI N 26 2 (nI 0)) (Sk_t hN (sk26 _ _)) (fun k => by simp (disch := omega) only [true_and, mI_sI_1, mI_sI_2, mI_sI_3, mI_nW_1, mI_nW_2, mI_sR, mI_sJ, mI_sA_1, mI_sA_2, mR_sI, mR_sJ, mR_sA, mR_sR_1, mR_sR_2, mR_sR_3, mR_nW_1, mR_nW_2, mN_sI, mN_sJ, mN_sR, mN_sA, mN_nW_1, mN_nW_2, mJ_sI, mJ_sR, mJ_sA, mJ_sJ_1, mJ_sJ_2, mJ_sJ_3, mJ_nW_1, mJ_nW_2, h27])
      rw [hval, show e (j + 1) - e j = k by omega] at this; exact this
    | succ m ih =>
      intro k hk N hN h27 htop hst
      have e53 : mI N (53 + 128 * t) = mI M (53 + 128 * t) := Sm_row hN.1 (fun _ => scr_o (by omega) (by omega))
      have hE := ih (k + 1) (by omega)
      have hrun : f_run (mI M) nm t (e j) (k + 1) = stp nm (mI M 89 (300 * t + (e j + k))) (mI M 90 (300 * t + (e j + k))) (f_run (mI M) nm t (e j) k) := rfl
      have hh := hht k (by omega)
      rw [hrun] at hE
      obtain ⟨hh50, hstep⟩ := w5 (e j + k) (by omega) (by omega)
      refine w_X4_reckon_18 l q _ (ty51 t) _ _ N ⟨fun z => ?_, fun _ => ?_⟩
      · rw [nI_leI (by omega) (by omega)] at z; omega
      rw [show 51 + 128 * t + 2 = 53 + 128 * t by omega, hN.1.2.2.1, hN.1.2.2.2.1, nI_clamp (by omega), e53, g4, n1]
      refine ⟨eR1, vin (by omega) (by omega), c4_step (Sm_wX hN.1 r2) (g8 _ (by omega)) hh50 hstep htop hst nm (fun k hk => by rw [h27]; exact hL k hk) _ (fun N' hN' h27' htop' hst' => ?_)⟩
      refine hE N' (Sk_t hN hN') (fun k => by rw [h27', h27]) htop' (fun x hx => ?_)
      rw [hst' x hx]
      congr 2
      rw [← hh]
  have hlen : (Int32.ofNat (b + 2)) = nI (b + 2) := rfl
  refine w_X4_reckon l _ _ (ty51 t) M q (w_X7_endOf l _ _ (ty51 t) _ _ ?_)
  rw [show 51 + 128 * t + 3 = 54 + 128 * t by omega, show 51 + 128 * t + 2 = 53 + 128 * t by omega]
  simp (disch := omega) only [true_and, mI_sI_1, mI_sI_2, mI_sI_3, mI_nW_1, mI_nW_2, mI_sR, mI_sJ, mI_sA_1, mI_sA_2, mR_sI, mR_sJ, mR_sA, mR_sR_1, mR_sR_2, mR_sR_3, mR_nW_1, mR_nW_2, mN_sI, mN_sJ, mN_sR, mN_sA, mN_nW_1, mN_nW_2, mJ_sI, mJ_sR, mJ_sA, mJ_sJ_1, mJ_sJ_2, mJ_sJ_3, mJ_nW_1, mJ_nW_2, eR2, g1, eR1, g4]
  refine c11_isWithin _ _ _ _ ⟨fun z => ?_, fun _ => ?_⟩
  · rw [hlen, rng_ix1 (by omega) (by omega)] at z; exact absurd z (by decide)
  simp (disch := omega) only [true_and, mI_sI_1, mI_sI_2, mI_sI_3, mI_nW_1, mI_nW_2, mI_sR, mI_sJ, mI_sA_1, mI_sA_2, mR_sI, mR_sJ, mR_sA, mR_sR_1, mR_sR_2, mR_sR_3, mR_nW_1, mR_nW_2, mN_sI, mN_sJ, mN_sR, mN_sA, mN_nW_1, mN_nW_2, mJ_sI, mJ_sR, mJ_sA, mJ_sJ_1, mJ_sJ_2, mJ_sJ_3, mJ_nW_1, mJ_nW_2, eR2, g1, eR1, g4]
  rw [nI_clamp (by omega), w1]
  refine ⟨vin (by omega) (by omega), cJ_min _ _ _ ?_⟩
  have hmin : (if nI (e (j + 1)) ≤ Int32.ofNat cl then nI (e (j + 1)) else Int32.ofNat cl) = nI (e (j + 1)) := if_pos (nI_le hbl (by omega))
  rw [hmin]
  refine w_X7_startOf l _ _ (ty51 t) _ _ ?_
  rw [show 51 + 128 * t + 3 = 54 + 128 * t by omega]
  simp (disch := omega) only [true_and, mI_sI_1, mI_sI_2, mI_sI_3, mI_nW_1, mI_nW_2, mI_sR, mI_sJ, mI_sA_1, mI_sA_2, mR_sI, mR_sJ, mR_sA, mR_sR_1, mR_sR_2, mR_sR_3, mR_nW_1, mR_nW_2, mN_sI, mN_sJ, mN_sR, mN_sA, mN_nW_1, mN_nW_2, mJ_sI, mJ_sR, mJ_sA, mJ_sJ_1, mJ_sJ_2, mJ_sJ_3, mJ_nW_1, mJ_nW_2, eR2, g1]
  have fin := key (e (j + 1) - e j) 0 (by omega) (sI M 26 2 0) (sk26 _ _) (fun k => by simp (disch := omega) only [true_and, mI_sI_1, mI_sI_2, mI_sI_3, mI_nW_1, mI_nW_2, mI_sR, mI_sJ, mI_sA_1, mI_sA_2, mR_sI, mR_sJ, mR_sA, mR_sR_1, mR_sR_2, mR_sR_3, mR_nW_1, mR_nW_2, mN_sI, mN_sJ, mN_sR, mN_sA, mN_nW_1, mN_nW_2, mJ_sI, mJ_sR, mJ_sA, mJ_sJ_1, mJ_sJ_2, mJ_sJ_3, mJ_nW_1, mJ_nW_2]) (by simp (disch := omega) only [true_and, mI_sI_1, mI_sI_2, mI_sI_3, mI_nW_1, mI_nW_2, mI_sR, mI_sJ, mI_sA_1, mI_sA_2, mR_sI, mR_sJ, mR_sA, mR_sR_1, mR_sR_2, mR_sR_3, mR_nW_1, mR_nW_2, mN_sI, mN_sJ, mN_sR, mN_sA, mN_nW_1, mN_nW_2, mJ_sI, mJ_sR, mJ_sA, mJ_sJ_1, mJ_sJ_2, mJ_sJ_3, mJ_nW_1, mJ_nW_2]; rw [Nat.add_zero, w2]; rfl) (fun x hx => by rw [Nat.add_zero, w2] at hx; omega)
  rw [Nat.add_zero] at fin
  refine c11_isWithin _ _ _ _ ⟨fun z => ?_, fun z => ?_⟩
  · have hj0 : j = 0 := by
      have hf := b2_0.mp z
      unfold rng at hf
      simp only [decide_eq_false_iff_not] at hf
      rw [hlen, nI_toInt (by omega), nI_toInt (by omega)] at hf
      have e1 : (1 : Int32).toInt = 1 := by decide
      omega
    subst hj0
    rw [g5] at fin; exact fin
  · obtain ⟨k, hk1, hk2, hk3⟩ := rng_nat 1 (b + 2) (by decide) (by rw [hlen, nI_toInt (by omega)]) (b2_n0.mp z)
    have hkj : j = k := nI_inj (by omega) (by omega) hk3
    subst hkj
    have em : nI j - 1 = nI (j - 1) := pk_sub (a := j) (b := 1) (by omega)
    rw [em]
    simp (disch := omega) only [true_and, mI_sI_1, mI_sI_2, mI_sI_3, mI_nW_1, mI_nW_2, mI_sR, mI_sJ, mI_sA_1, mI_sA_2, mR_sI, mR_sJ, mR_sA, mR_sR_1, mR_sR_2, mR_sR_3, mR_nW_1, mR_nW_2, mN_sI, mN_sJ, mN_sR, mN_sA, mN_nW_1, mN_nW_2, mJ_sI, mJ_sR, mJ_sA, mJ_sJ_1, mJ_sJ_2, mJ_sJ_3, mJ_nW_1, mJ_nW_2, eR2, g1]
    rw [nI_clamp (by omega), (g7 (j - 1) (by omega)).1, show j - 1 + 1 = j by omega]
    exact ⟨vin (by omega) (by omega), fin⟩
theorem vsv2 (r : RelV M nw np ns nt T) {s : Nat} (hs : s < ns) : mI M (47 + 128 * s) 0 = mI M 76 s ∧ mI M (47 + 128 * s) 1 = mI M 77 s ∧ mI M (47 + 128 * s) 2 = mI M 78 s ∧ mI M (47 + 128 * s) 3 = mI M 79 s := by
  obtain ⟨a, b, c, d, _⟩ := (r.2.2.2.2.2.2.1.1 s hs).2.1
  exact ⟨a, b, c, d⟩
theorem vk6_begins (r : RelV M nw np ns nt T) {s : Nat} (hs : s < ns) (q : Int32 → o_M → Prop) (h : q (f_begins (mI M) s) M) : K_X6_begins l [rV (some (47 + 128 * s))] M q := by
  obtain ⟨_, b, c, _⟩ := vsv2 r hs
  exact c6_begins (ty47 s) q (by rw [b, c]; exact h)
theorem vk6_ends (r : RelV M nw np ns nt T) {s : Nat} (hs : s < ns) (q : Int32 → o_M → Prop) (h : q (f_ends (mI M) s) M) : K_X6_ends l [rV (some (47 + 128 * s))] M q := by
  obtain ⟨_, b, c, d⟩ := vsv2 r hs
  exact c6_ends (ty47 s) q (by rw [b, c, d]; exact h)
theorem vc11_learn (r : RelV M nw np ns nt T) {s p : Nat} (hs : s < ns) (hp : p < np) (i : Int32) (q : o_M → Prop) (h : ∀ N, Sk M N → (∀ k, k < 10 → mJ N 27 k = (f_named (mI M) ns (nI k) s p i).toInt64) → q N) : K_X11_learn l [rV (some 16), rV (some (47 + 128 * s)), iV (nI p), iV i] M q := by
  have ⟨r1, r2, r3, r4, r5, r6, r7, r8, r9, r10, r11⟩ := r
  obtain ⟨hn, e16, e60⟩ := r3.2.2.1
  have hnp := r3.2.1.1
  obtain ⟨s0, s1, s2, s3⟩ := vsv2 r hs
  obtain ⟨pR, _, _, _, _, p0, _, p2, _⟩ := r6.1 p hp
  have t0 : (0 : Int32).toNatClampNeg = 0 := by decide
  have t1 : (1 : Int32).toNatClampNeg = 1 := by decide
  have t2 : (2 : Int32).toNatClampNeg = 2 := by decide
  have t3 : (3 : Int32).toNatClampNeg = 3 := by decide
  have t4 : (4 : Int32).toNatClampNeg = 4 := by decide
  have t5 : (5 : Int32).toNatClampNeg = 5 := by decide
  have t6 : (6 : Int32).toNatClampNeg = 6 := by decide
  have t7 : (7 : Int32).toNatClampNeg = 7 := by decide
  have t8 : (8 : Int32).toNatClampNeg = 8 := by decide
  have t9 : (9 : Int32).toNatClampNeg = 9 := by decide
  have v10 : ∀ k : Nat, k < 10 → vp_in (nI k) 10 := fun k hk => vin hk (by decide)
  have key : ∀ m k : Nat, k + m = ns → H_X11_learn_10 l q (47 + 128 * s) (nI p) i (lp (f_wkS (mI M) s (nI p)) 0 k) (lp (f_rsS (mI M) s (nI p)) 99 k) (nI k) M := by
    intro m
    induction m with
    | zero =>
      intro k hk
      have : k = ns := by omega
      subst this
      refine w_X11_learn_10 l q _ (ty47 s) _ _ _ _ _ M ⟨fun _ => ?_, fun z => absurd (by rw [e16]; exact nI_le (Nat.le_refl _) (by omega)) z⟩
      refine ⟨xo7 r2, w_X4_learnService l _ (ty47 s) M _ ?_⟩
      simp (disch := omega) only [true_and, mI_sI_1, mI_sI_2, mI_sI_3, mI_nW_1, mI_nW_2, mI_sR, mI_sJ, mI_sA_1, mI_sA_2, mR_sI, mR_sJ, mR_sA, mR_sR_1, mR_sR_2, mR_sR_3, mR_nW_1, mR_nW_2, mN_sI, mN_sJ, mN_sR, mN_sA, mN_nW_1, mN_nW_2, mJ_sI, mJ_sR, mJ_sA, mJ_sJ_1, mJ_sJ_2, mJ_sJ_3, mJ_nW_1, mJ_nW_2, t0, t1, t2, t3, s0, s1, s2, s3, xr26_0 r2, xn27 r2]
      refine ⟨v10 0 (by omega), v10 1 (by omega), v10 2 (by omega), fun N1 hN1 => ?_⟩
      subst hN1
      simp (disch := omega) only [true_and, mI_sI_1, mI_sI_2, mI_sI_3, mI_nW_1, mI_nW_2, mI_sR, mI_sJ, mI_sA_1, mI_sA_2, mR_sI, mR_sJ, mR_sA, mR_sR_1, mR_sR_2, mR_sR_3, mR_nW_1, mR_nW_2, mN_sI, mN_sJ, mN_sR, mN_sA, mN_nW_1, mN_nW_2, mJ_sI, mJ_sR, mJ_sA, mJ_sJ_1, mJ_sJ_2, mJ_sJ_3, mJ_nW_1, mJ_nW_2, t0, t1, t2, t3, s0, s1, s2, s3, xr26_0 r2, xn27 r2, xo7 r2, xr16_1 r2, xn18 r2]
      rw [nI_clamp (by omega)]
      refine ⟨v10 3 (by omega), vin (by omega) (by decide), 44 + 128 * p, pR, ty44 p, w_X4_learnPlayer l _ _ (ty44 p) _ _ ?_⟩
      simp (disch := omega) only [true_and, mI_sI_1, mI_sI_2, mI_sI_3, mI_nW_1, mI_nW_2, mI_sR, mI_sJ, mI_sA_1, mI_sA_2, mR_sI, mR_sJ, mR_sA, mR_sR_1, mR_sR_2, mR_sR_3, mR_nW_1, mR_nW_2, mN_sI, mN_sJ, mN_sR, mN_sA, mN_nW_1, mN_nW_2, mJ_sI, mJ_sR, mJ_sA, mJ_sJ_1, mJ_sJ_2, mJ_sJ_3, mJ_nW_1, mJ_nW_2, t4, t5, t6, t7, p0, p2, xr26_0 r2, xn27 r2]
      have fin : ∀ dd : Int64, (i = mI M 69 p → dd = 0) → (¬ i = mI M 69 p → dd = 1) → K_X4_learnSittings l [rV (some 26), iV (lp (f_wkS (mI M) s (nI p)) 0 k), iV (lp (f_rsS (mI M) s (nI p)) 99 k)] (sJ (sJ (sJ (sJ (sJ (sJ (sJ (sJ M 27 0 (mI M 76 s).toInt64) 27 1 (mI M 77 s - mI M 77 s / 7 * 7).toInt64) 27 2 (mI M 78 s).toInt64) 27 3 (mI M 79 s).toInt64) 27 4 i.toInt64) 27 5 (mI M 69 p).toInt64) 27 6 dd) 27 7 (mI M 71 p).toInt64) (fun M12 => q M12) := by
        intro dd d0 d1
        refine w_X4_learnSittings l _ _ _ _ ?_
        simp (disch := omega) only [true_and, mI_sI_1, mI_sI_2, mI_sI_3, mI_nW_1, mI_nW_2, mI_sR, mI_sJ, mI_sA_1, mI_sA_2, mR_sI, mR_sJ, mR_sA, mR_sR_1, mR_sR_2, mR_sR_3, mR_nW_1, mR_nW_2, mN_sI, mN_sJ, mN_sR, mN_sA, mN_nW_1, mN_nW_2, mJ_sI, mJ_sR, mJ_sA, mJ_sJ_1, mJ_sJ_2, mJ_sJ_3, mJ_nW_1, mJ_nW_2, t8, t9, xr26_0 r2, xn27 r2]
        refine ⟨v10 8 (by omega), v10 9 (by omega), h _ ?_ ?_⟩
        · have g : ∀ (N : o_M) j x, Sk N (sJ N 27 j x) := fun N j x => ⟨Sm_sJ N (Or.inl rfl) j x, fun _ _ => rfl⟩
          exact Sk_t (Sk_t (Sk_t (Sk_t (Sk_t (Sk_t (Sk_t (Sk_t (Sk_t (g _ _ _) (g _ _ _)) (g _ _ _)) (g _ _ _)) (g _ _ _)) (g _ _ _)) (g _ _ _)) (g _ _ _)) (g _ _ _)) (g _ _ _)
        · intro a ha
          have ha : a = 0 ∨ a = 1 ∨ a = 2 ∨ a = 3 ∨ a = 4 ∨ a = 5 ∨ a = 6 ∨ a = 7 ∨ a = 8 ∨ a = 9 := by omega
          rcases ha with rfl | rfl | rfl | rfl | rfl | rfl | rfl | rfl | rfl | rfl
          all_goals simp (disch := omega) only [true_and, mI_sI_1, mI_sI_2, mI_sI_3, mI_nW_1, mI_nW_2, mI_sR, mI_sJ, mI_sA_1, mI_sA_2, mR_sI, mR_sJ, mR_sA, mR_sR_1, mR_sR_2, mR_sR_3, mR_nW_1, mR_nW_2, mN_sI, mN_sJ, mN_sR, mN_sA, mN_nW_1, mN_nW_2, mJ_sI, mJ_sR, mJ_sA, mJ_sJ_1, mJ_sJ_2, mJ_sJ_3, mJ_nW_1, mJ_nW_2]
          · rfl
          · rfl
          · rfl
          · rfl
          · rfl
          · rfl
          · show dd = (if i = mI M 69 p then (0 : Int32) else 1).toInt64
            by_cases hi : i = mI M 69 p
            · rw [if_pos hi, d0 hi]; rfl
            · rw [if_neg hi, d1 hi]; rfl
          · rfl
          · rfl
          · rfl
      refine ⟨v10 4 (by omega), v10 5 (by omega), fun c => ⟨v10 6 (by omega), v10 7 (by omega), fun N2 hN2 => ?_⟩, fun c => ⟨v10 6 (by omega), v10 7 (by omega), fun N2 hN2 => ?_⟩⟩
      · subst hN2
        refine ⟨by simp (disch := omega) only [true_and, mI_sI_1, mI_sI_2, mI_sI_3, mI_nW_1, mI_nW_2, mI_sR, mI_sJ, mI_sA_1, mI_sA_2, mR_sI, mR_sJ, mR_sA, mR_sR_1, mR_sR_2, mR_sR_3, mR_nW_1, mR_nW_2, mN_sI, mN_sJ, mN_sR, mN_sA, mN_nW_1, mN_nW_2, mJ_sI, mJ_sR, mJ_sA, mJ_sJ_1, mJ_sJ_2, mJ_sJ_3, mJ_nW_1, mJ_nW_2, xo7 r2], ?_⟩
        have := fin 1 (fun z => absurd z c) (fun _ => rfl)
        exact this
      · subst hN2
        refine ⟨by simp (disch := omega) only [true_and, mI_sI_1, mI_sI_2, mI_sI_3, mI_nW_1, mI_nW_2, mI_sR, mI_sJ, mI_sA_1, mI_sA_2, mR_sI, mR_sJ, mR_sA, mR_sR_1, mR_sR_2, mR_sR_3, mR_nW_1, mR_nW_2, mN_sI, mN_sJ, mN_sR, mN_sA, mN_nW_1, mN_nW_2, mJ_sI, mJ_sR, mJ_sA, mJ_sJ_1, mJ_sJ_2, mJ_sJ_3, mJ_nW_1, mJ_nW_2, xo7 r2], ?_⟩
        have := fin 0 (fun _ => rfl) (fun z => absurd c z)
        exact this
    | succ m ih =>
      intro k hk
      have e := ih (k + 1) (by omega)
      simp only [lp] at e
      rw [f_wkS, f_rsS] at e
      have hk' : k < ns := by omega
      obtain ⟨k0, k1, k2, k3⟩ := vsv2 r hk'
      refine w_X11_learn_10 l q _ (ty47 s) _ _ _ _ _ M ⟨fun z => ?_, fun _ => ?_⟩
      · rw [e16, nI_leI (by omega) (by omega)] at z; omega
      rw [xn19 r2, nI_clamp (by omega), vsvR r hk', n1]
      refine ⟨xr16_2 r2, vin (by omega) (by decide), _, rfl, ty47 k, fun z => ?_, fun z => ?_⟩
      · have hks : k = s := by omega
        rw [if_pos hks, if_pos hks] at e; exact e
      · have hks : ¬ k = s := fun y => z (by rw [y])
        rw [if_neg hks, if_neg hks] at e
        refine vc11_sits r hk' (by omega) _ (fun z => ⟨fun y => absurd rfl y, fun _ => ?_⟩) (fun z => ⟨fun _ => ?_, fun y => absurd y (by decide)⟩)
        rotate_left
        rw [k1, s1, k3]
        refine ⟨fun c => vk6_ends r hk' _ (vk6_begins r hs _ ⟨fun c2 => ?_, fun c2 => vk6_begins r hs _ (vk6_ends r hk' _ (cJ_min _ _ _ ?_))⟩), fun c => vk6_ends r hk' _ (vk6_begins r hs _ ⟨fun c2 => ?_, fun c2 => vk6_begins r hs _ (vk6_ends r hk' _ (cJ_min _ _ _ ?_))⟩)⟩
        rotate_left 4
        · rw [if_pos z, if_pos z] at e
          have e1 : (if mI M 77 k / 7 = mI M 77 s / 7 then lp (f_wkS (mI M) s (nI p)) 0 k else lp (f_wkS (mI M) s (nI p)) 0 k) = lp (f_wkS (mI M) s (nI p)) 0 k := by split <;> rfl
          have e2 : (if f_begins (mI M) s < f_ends (mI M) k then lp (f_rsS (mI M) s (nI p)) 99 k else lp (f_rsS (mI M) s (nI p)) 99 k) = lp (f_rsS (mI M) s (nI p)) 99 k := by split <;> rfl
          rw [e1, e2] at e; exact e
        · rw [if_neg c, if_pos c2] at e; exact e
        · rw [if_neg c, if_neg c2, if_neg z] at e; exact e
        · rw [if_pos c, if_pos c2, if_neg z] at e; exact e
        · rw [if_pos c, if_neg c2, if_neg z, if_neg z] at e; exact e
  exact w_X11_learn l _ _ _ (ty47 s) M q (key ns 0 (by omega))
theorem vk12_isAway (r : RelV M nw np ns nt T) {p : Nat} (hp : p < np) (d : Int32) (q : Int32 → o_M → Prop) (h : q (b2 (f_away (mI M) p d)) M) : K_X12_isAway l [rV (some 60), iV (nI p), iV d] M q := by
  obtain ⟨n, hn6, e, _⟩ := (r.2.2.2.2.2.1.1 p hp).2.2.2.2.2.2.2.2.2.2.2
  have hnp := r.2.2.1.2.1.1
  exact c12_isAway r.1 (by omega) e hn6 d q h
theorem vk2_hasLeave (r : RelV M nw np ns nt T) {p : Nat} (hp : p < np) (d : Int32) (q : Int32 → o_M → Prop) (h : q (b2 (f_away (mI M) p d)) M) : K_X2_hasLeave l [rV (some (44 + 128 * p)), iV d] M q := by
  obtain ⟨_, a1, a2, a3, a4, _, _, _, a5, _, _, n, hn6, e, hk⟩ := r.2.2.2.2.2.1.1 p hp
  refine c2_hasLeave (n := n) ⟨ty44 p, ?_, ?_, ?_, ?_⟩ (a5.trans e) hn6 d q ?_
  · rw [a1]; congr 1; omega
  · rw [a2]; congr 1; omega
  · rw [show 44 + 128 * p + 1 = 45 + 128 * p by omega]; exact a3
  · rw [show 44 + 128 * p + 2 = 46 + 128 * p by omega]; exact a4
  · have : g_awayN (mI M) (44 + 128 * p) d n = f_away (mI M) p d := by
      unfold f_away f_awayN g_awayN
      rw [e, nI_clamp (by omega), show 44 + 128 * p + 1 = 45 + 128 * p by omega, show 44 + 128 * p + 2 = 46 + 128 * p by omega]
      apply Bool.eq_iff_iff.mpr
      rw [List.any_eq_true, List.any_eq_true]
      constructor <;> rintro ⟨k, h1, h2⟩ <;> refine ⟨k, h1, ?_⟩ <;> obtain ⟨x, y⟩ := hk k (List.mem_range.mp h1)
      · rw [x, y] at h2; exact h2
      · rw [x, y]; exact h2
    rw [this]; exact h
theorem vchairOf_spec (r : RelV M nw np ns nt T) {s p : Nat} (hs : s < ns) (hp : p < np) (h : ¬ f_chairOf (mI M) s (nI p) = -1) : ∃ c, c < cs (mI M) s 6 ∧ f_chairOf (mI M) s (nI p) = nI c ∧ ¬ mI M 83 s = 0 ∧ (∀ j, j < cs (mI M) s 6 → mI M (50 + 128 * s) j = mI M 82 (12 * s + j)) ∧ mI M 82 (12 * s + c) = nI p ∧ ∀ j, j < c → ¬ mI M 82 (12 * s + j) = nI p := by
  obtain ⟨_, _, m, hm, em, _, q7, _⟩ := (r.2.2.2.2.2.2.1.1 s hs).2.2.2
  have hnp := r.2.2.1.2.1.1
  have h18 := cs_le (mI M) s 6
  have hmc : m = cs (mI M) s 6 := nI_inj (by omega) (by omega) (em.symm.trans (chairs_cs _ _))
  unfold f_chairOf at h ⊢
  by_cases h0 : mI M 83 s = 0
  · rw [if_pos h0] at h; exact absurd rfl h
  rw [if_neg h0] at h ⊢
  rcases q7 with q7 | ⟨_, g1, g2, _⟩
  · exact absurd q7 h0
  rcases chairN_spec (mI M) s (nI p) 12 0 with ⟨h1, _⟩ | ⟨k, _, h2, h3, h4, h5⟩
  · exact absurd h1 h
  · refine ⟨k, ?_, h3, h0, fun j hj => g1 j (by omega), h4, fun j hj => h5 j (by omega) hj⟩
    by_cases hk : k < cs (mI M) s 6
    · exact hk
    · have := g2 k (by omega) (by omega)
      rw [h4] at this
      exact absurd this (nI_ne1 (by omega))
theorem vc6_instrumentOf (r : RelV M nw np ns nt T) {s p : Nat} (hs : s < ns) (hp : p < np) (h : ¬ f_chairOf (mI M) s (nI p) = -1) (q : Int32 → o_M → Prop) (hq : q (nI (f_inst (mI M) s (f_chairOf (mI M) s (nI p)).toNatClampNeg)) M) : K_X6_instrumentOf l [rV (some (47 + 128 * s)), iV (nI p)] M q := by
  obtain ⟨c, hc, e, _, h1, h2, h3⟩ := vchairOf_spec r hs hp h
  obtain ⟨i0, hi6, hi1, hi2⟩ := inst_ex hc
  obtain ⟨⟨_, g4, g5, g6, l4, l5, l6⟩, _, _, ⟨nds, _⟩⟩ := r.2.2.2.2.2.2.1.1 s hs
  have h18 := cs_le (mI M) s 6
  obtain ⟨m, hm, em⟩ := vchairs_of r hs
  have hmc : m = cs (mI M) s 6 := nI_inj (by omega) (by omega) (em.symm.trans (chairs_cs _ _))
  rw [e, nI_clamp (by omega), f_inst_eq hi1 hi2 hi6] at hq
  have inner : ∀ i, i < 6 → (cs (mI M) s (i + 1) ≤ c → H_X6_instrumentOf_4 l q (47 + 128 * s) (nI p) (nI (cs (mI M) s (i + 1))) (nI (i + 1)) M) → ∀ a k, k + a = nd (mI M) s i → cs (mI M) s i + k ≤ c → (c < cs (mI M) s (i + 1) → i = i0) → H_X6_instrumentOf_13 l q (47 + 128 * s) (nI p) (nI (cs (mI M) s i + k)) (nI i) (nI k) M := by
    intro i hi hnext a
    induction a with
    | zero =>
      intro k hk hle _
      have n3 := (nd_eq (mI M) s i).1
      refine w_X6_instrumentOf_13 l q _ (ty47 s) _ _ _ _ M ?_
      rw [show 47 + 128 * s + 2 = 49 + 128 * s by omega, l5, nI_clamp (by omega), nds i hi, (nd_eq (mI M) s i).2, n1]
      refine ⟨g5, vin hi (by decide), fun _ => ?_, fun z => absurd (nI_le (by omega) (by omega)) z⟩
      have := hnext (by simp only [cs]; omega)
      simp only [cs] at this
      rw [show k = nd (mI M) s i by omega]; exact this
    | succ a ih =>
      intro k hk hle h0
      have n3 := (nd_eq (mI M) s i).1
      have hm6 := cs_mono (mI M) s (i := i + 1) (j := 6) (by omega)
      simp only [cs] at hm6
      have hm6 : cs (mI M) s i + nd (mI M) s i ≤ cs (mI M) s 6 := hm6
      refine w_X6_instrumentOf_13 l q _ (ty47 s) _ _ _ _ M ?_
      rw [show 47 + 128 * s + 2 = 49 + 128 * s by omega, show 47 + 128 * s + 3 = 50 + 128 * s by omega, l5, l6, nI_clamp (by omega), nI_clamp (by omega), nds i hi, (nd_eq (mI M) s i).2, n1 (cs (mI M) s i + k), n1 k, h1 _ (by omega)]
      refine ⟨g5, vin hi (by decide), fun z => ?_, fun _ => ⟨g6, vin (by omega) (by decide), fun z => ?_, fun z => ?_⟩⟩
      · rw [nI_leI (by omega) (by omega)] at z; omega
      · have hne : cs (mI M) s i + k ≠ c := fun y => z (by rw [y]; exact h2)
        exact ih (k + 1) (by omega) (by omega) h0
      · have hce : cs (mI M) s i + k = c := by
          by_cases hlt : cs (mI M) s i + k < c
          · exact absurd z (h3 _ hlt)
          · omega
        rw [h0 (by simp only [cs]; omega)]; exact hq
  have outer : ∀ m i, i + m = 6 → cs (mI M) s i ≤ c → H_X6_instrumentOf_4 l q (47 + 128 * s) (nI p) (nI (cs (mI M) s i)) (nI i) M := by
    intro m
    induction m with
    | zero => intro i hi hle; have : i = 6 := by omega
              subst this; omega
    | succ m ih =>
      intro i hi hle
      refine w_X6_instrumentOf_4 l q _ (ty47 s) _ _ _ M ⟨fun z => ?_, fun _ => ?_⟩
      · (simp (disch := omega) only [ile, ilt, ieq, nI_toInt, Int32.reduceToInt] at z; omega)
      · refine inner i (by omega) (fun h => ih (i + 1) (by omega) h) (nd (mI M) s i) 0 (by omega) (by omega) (fun hlt => ?_)
        have e1 := f_inst_eq (v := mI M) hle hlt (by omega)
        have e2 := f_inst_eq hi1 hi2 hi6
        omega
  exact w_X6_instrumentOf l _ _ (ty47 s) M q (outer 6 0 (by omega) (by simp [cs]))
theorem vc12_dueOf (r : RelV M nw np ns nt T) {p w : Nat} (hp : p < np) (hw : w ≤ 1) (a b : Int32) (q : Int64 → o_M → Prop) (h : ∀ N, Sm M N → q (f_due (mI M) ns nt p a b w) N) : K_X12_dueOf l [rV (some 60), iV (nI p), iV a, iV b, iV (nI w)] M q := by
  have hns := r.2.2.1.2.2.1.1
  have hnt := r.2.2.1.2.2.2.1.2.1
  have hnp := r.2.2.1.2.1.1
  have key : ∀ m s, s + m = ns → ∀ N, Sm M N → H_X12_dueOf_6 l q (nI p) a b (nI w) (lp (f_dueS (mI M) ns nt p a b w) 0 s) (nI s) N := by
    intro m
    induction m with
    | zero =>
      intro s hs N hN
      have rN := RelV_Sm hN r
      have : s = ns := by omega
      subst this
      exact w_X12_dueOf_6 l q _ _ _ _ _ _ N ⟨fun _ => h N hN, fun z => absurd (by rw [rN.2.2.1.2.2.1.2.2]; exact nI_le (Nat.le_refl _) (by omega)) z⟩
    | succ m ih =>
      intro s hs N hN
      have rN := RelV_Sm hN r
      have hss : s < ns := by omega
      have hsc : (nI s).toNatClampNeg = s := nI_clamp (by omega)
      have v40 : vp_in (nI s) 40 := vin (by omega) (by decide)
      have e := fun N' hN' => ih (s + 1) (by omega) N' hN'
      simp only [lp] at e
      rw [f_dueS] at e
      have e77 : mI N 77 s = mI M 77 s := Sm_i hN rfl
      refine w_X12_dueOf_6 l q _ _ _ _ _ _ N ⟨fun z => ?_, fun _ => ?_⟩
      · rw [rN.2.2.1.2.2.1.2.2, nI_leI (by omega) (by omega)] at z; omega
      rw [n1]
      refine c12_chairOf rN.1 (by omega) _ _ ?_
      rw [fr_chairOf hN]
      refine ⟨fun z => ?_, fun z => ?_⟩
      · rw [if_pos z] at e; exact e N hN
      rw [if_neg z] at e
      rw [hsc, wn16 rN.1, e77]
      refine ⟨wr16 rN.1, v40, c12_in _ _ _ _ ⟨fun z2 => ?_, fun z2 => ?_⟩⟩
      · rw [b2_0.mp z2] at e; exact e N hN
      rw [b2_n0.mp z2] at e
      simp only [if_true] at e
      obtain ⟨t, ht, et⟩ := vtextOn_lt r (mI M 77 s)
      have htc : (nI t).toNatClampNeg = t := nI_clamp (by omega)
      have ett : f_txt (mI M) nt s = t := by unfold f_txt; rw [et]; exact htc
      obtain ⟨k, cl, _, hb8, _, _, hbc, hb, _⟩ := (r.2.2.2.2.2.2.2.1 t ht).2.2.2.2.2.1
      rw [ett, hb, nI_clamp (by omega)] at e
      rw [wn16 rN.1, e77]
      refine ⟨wr16 rN.1, v40, vk12_textOn rN _ _ ?_⟩
      rw [fr_textOn hN, et, htc, wn30 rN.1]
      obtain ⟨c, hc, ec, _⟩ := vchairOf_spec r hss hp z
      have h18 := cs_le (mI M) s 6
      rw [ec]
      rw [ec, nI_clamp (by omega)] at e
      refine ⟨wr30 rN.1, vin (by omega) (by decide), c12_instrumentOf rN.1 (by omega) (vokS_of rN hss) (by rw [fr_cs hN]; exact hc) _ ?_⟩
      have e91 : mI N 91 t = nI k := by rw [Sm_i hN (id := 91) (j := t) rfl, hb]
      rw [e91, nI_add, fr_inst hN]
      refine vc12_worthOf rN ht e91 hb8 (by omega) hss hp _ _ (fun N' hN' => ?_)
      have hN2 := Sm_t hN hN'.1
      have rN' := RelV_Sm hN2 r
      have e := e N' hN2
      rw [fr_worth hN, wn15 rN'.1, Sm_i hN2 (id := 76) (j := s) rfl]
      have R := wr15 rN'.1
      generalize f_worth (mI M) ns t (k + w) s p (nI (f_inst (mI M) s c)) = x at *
      unfold f_adj at e
      generalize mI M 76 s = kd at *
      have hw01 : w = 0 ∨ w = 1 := by omega
      refine ⟨R, v40, fun c5 => ⟨R, v40, fun c4 => ⟨R, v40, fun c3 => ?_, fun c3 => ⟨fun c0 => ?_, fun c0 => ?_⟩⟩, fun c4 => ⟨fun c1 => ⟨R, v40, fun c3 => ?_, fun c3 => ?_⟩, fun c1 => ⟨R, v40, fun c3 => ?_, fun c3 => ?_⟩⟩⟩, fun c5 => ⟨R, v40, fun c3 => ?_, fun c3 => ?_⟩⟩
      · rw [if_neg c5, if_neg c4, if_neg c3] at e; exact e
      · rw [if_neg c5, if_neg c4, if_pos c3, if_neg (by intro z; subst z; exact c0 rfl)] at e; exact e
      · have : w = 0 := nI_inj (by omega) (by omega) c0
        rw [if_neg c5, if_neg c4, if_pos c3, if_pos this] at e; exact e
      · rw [if_neg c5, if_pos c4, if_neg (by intro z; subst z; exact c1 rfl)] at e; exact e
      · rw [c4] at c3; exact absurd c3 (by decide)
      · have : w = 1 := nI_inj (by omega) (by omega) c1
        rw [if_neg c5, if_pos c4, if_pos this] at e; exact e
      · rw [c4] at c3; exact absurd c3 (by decide)
      · rw [if_pos c5] at e; exact e
      · rw [c5] at c3; exact absurd c3 (by decide)
  exact w_X12_dueOf l _ _ _ _ M q (key ns 0 (by omega) M (Sm_r M))
theorem vc11_findDue (r : RelV M nw np ns nt T) (hT : T < 2 ^ 30) {s p w : Nat} (hs : s < ns) (hp : p < np) (hw : w ≤ 1) (hch : ¬ f_chairOf (mI M) s (nI p) = -1) (q : Int64 → o_M → Prop) (h : ∀ N, Sm M N → q (f_adj (mI M 76 s) w (f_worth (mI M) ns (f_txt (mI M) nt s) ((mI M 91 (f_txt (mI M) nt s)).toNatClampNeg + w) s p (nI (f_inst (mI M) s (f_chairOf (mI M) s (nI p)).toNatClampNeg)))) N) : K_X11_findDue l [rV (some 16), rV (some (47 + 128 * s)), iV (nI p), iV (nI w)] M q := by
  have ⟨r1, r2, r3, r4, r5, r6, r7, r8, r9, r10, r11⟩ := r
  have hnt := r3.2.2.2.1.2.1
  obtain ⟨s0, s1, s2, s3⟩ := vsv2 r hs
  obtain ⟨t, ht, et⟩ := vtextOn_lt r (mI M 77 s)
  have htc : (nI t).toNatClampNeg = t := nI_clamp (by omega)
  have ett : f_txt (mI M) nt s = t := by unfold f_txt; rw [et]; exact htc
  obtain ⟨k, cl, _, hb8, _, _, hbc, hb, _⟩ := (r8 t ht).2.2.2.2.2.1
  rw [ett, hb, nI_clamp (by omega)] at h
  refine w_X11_findDue l _ _ _ (ty47 s) M q ?_
  rw [s1]
  refine ⟨xr16_3 r2, vc11_findInForce r hT _ _ ?_⟩
  rw [et, htc, xn20 r2, vtxR r ht]
  refine ⟨vin (by omega) (by decide), _, rfl, ty51 t, vc6_instrumentOf r hs hp hch _ (vc11_learn r hs hp _ _ (fun N hN hL => ?_))⟩
  have hN := hN.1
  have rN := RelV_Sm hN r
  have e91 : mI N 91 t = nI k := by rw [Sm_i hN (id := 91) (j := t) rfl, hb]
  rw [Sm_i hN (id := 51 + 128 * t) (scr_o (by omega) (by omega)), hbc, nI_add]
  refine ⟨xo7 rN.2.1, vc4_reckon rN ht e91 hb8 (by omega) (fun a ha => by rw [fr_named hN]; exact hL a ha) _ (fun N' hN' _ => ?_)⟩
  have hN2 := Sm_t hN hN'.1
  have h := h N' hN2
  rw [Sm_i hN2 (id := 47 + 128 * s) (scr_o (by omega) (by omega)), s0, fr_worth hN]
  generalize f_worth (mI M) ns t (k + w) s p (nI (f_inst (mI M) s (f_chairOf (mI M) s (nI p)).toNatClampNeg)) = x at *
  unfold f_adj at h
  generalize mI M 76 s = kd at *
  have hne : ∀ k, k ≤ 5 → (kd < 3 ∨ 5 < kd) → 3 ≤ k → ¬ kd = nI k := fun k hk c h2 e => by
    subst e
    rcases c with c | c <;> (simp (disch := omega) only [ile, ilt, ieq, nI_toInt, Int32.reduceToInt] at c; omega)
  refine ⟨fun c => ?_, fun c => ⟨fun c0 => ?_, fun c0 => ?_⟩, fun c => ⟨fun c0 => ?_, fun c0 => ?_⟩, fun c => ?_⟩
  · have h5 : ¬ kd = 5 := hne 5 (by omega) c (by omega)
    have h4 : ¬ kd = 4 := hne 4 (by omega) c (by omega)
    have h3 : ¬ kd = 3 := hne 3 (by omega) c (by omega)
    rw [if_neg h5, if_neg h4, if_neg h3] at h; exact h
  · rw [if_neg (by rw [c]; decide), if_neg (by rw [c]; decide), if_pos c, if_neg (by intro z; subst z; exact c0 rfl)] at h; exact h
  · have : w = 0 := nI_inj (by omega) (by omega) c0
    rw [if_neg (by rw [c]; decide), if_neg (by rw [c]; decide), if_pos c, if_pos this] at h; exact h
  · have : w = 1 := by
      have : ¬ w = 0 := by intro z; subst z; exact c0 rfl
      omega
    rw [if_neg (by rw [c]; decide), if_pos c, if_pos this] at h; exact h
  · have : w = 0 := nI_inj (by omega) (by omega) c0
    rw [if_neg (by rw [c]; decide), if_pos c, if_neg (by omega)] at h; exact h
  · rw [if_pos c] at h; exact h
theorem vc11_sumDue (r : RelV M nw np ns nt T) (hT : T < 2 ^ 30) {p w : Nat} (hp : p < np) (hw : w ≤ 1) (a b : Int32) (q : Int64 → o_M → Prop) (h : ∀ N, Sm M N → q (f_due (mI M) ns nt p a b w) N) : K_X11_sumDue l [rV (some 16), iV (nI p), iV a, iV b, iV (nI w)] M q := by
  have hns := r.2.2.1.2.2.1.1
  have hnp := r.2.2.1.2.1.1
  have key : ∀ m s, s + m = ns → ∀ N, Sm M N → H_X11_sumDue_6 l q (nI p) a b (nI w) (lp (f_dueS (mI M) ns nt p a b w) 0 s) (nI s) N := by
    intro m
    induction m with
    | zero =>
      intro s hs N hN
      have rN := RelV_Sm hN r
      have : s = ns := by omega
      subst this
      exact w_X11_sumDue_6 l q _ _ _ _ _ _ N ⟨fun _ => h N hN, fun z => absurd (by rw [rN.2.2.1.2.2.1.2.1]; exact nI_le (Nat.le_refl _) (by omega)) z⟩
    | succ m ih =>
      intro s hs N hN
      have rN := RelV_Sm hN r
      have hss : s < ns := by omega
      have e := fun N' hN' => ih (s + 1) (by omega) N' hN'
      simp only [lp] at e
      rw [f_dueS] at e
      obtain ⟨_, s1, _⟩ := vsv2 rN hss
      refine w_X11_sumDue_6 l q _ _ _ _ _ _ N ⟨fun z => ?_, fun _ => ?_⟩
      · rw [rN.2.2.1.2.2.1.2.1, nI_leI (by omega) (by omega)] at z; omega
      rw [n1, xn19 rN.2.1, nI_clamp (by omega), vsvR rN hss]
      refine ⟨xr16_2 rN.2.1, vin (by omega) (by decide), _, rfl, ty47 s, c11_isWithin _ _ _ _ ?_⟩
      rw [s1, Sm_i hN (id := 77) (j := s) rfl]
      refine ⟨fun z => ?_, fun z => vc11_sits rN hss (by omega) _ (fun z2 => ⟨fun _ => ?_, fun y => absurd rfl y⟩) (fun z2 => ⟨fun y => absurd y (by decide), fun _ => ?_⟩)⟩
      · rw [b2_0.mp z] at e
        by_cases hc : f_chairOf (mI M) s (nI p) = -1
        · rw [if_pos hc] at e; exact e N hN
        · rw [if_neg hc] at e; exact e N hN
      · rw [fr_chairOf hN] at z2
        rw [if_pos z2] at e; exact e N hN
      · refine vc11_findDue rN hT hss hp hw z2 _ (fun N' hN' => ?_)
        rw [fr_chairOf hN] at z2 ⊢
        rw [if_neg z2, b2_n0.mp z] at e
        have e := e N' (Sm_t hN hN')
        have ett : f_txt (mI N) nt s = f_txt (mI M) nt s := by unfold f_txt; rw [fr_textOn hN, Sm_i hN (id := 77) (j := s) rfl]
        rw [ett, Sm_i hN (id := 76) (j := s) rfl, Sm_row hN (id := 91) (fun _ => rfl), fr_worth hN, fr_inst hN]
        exact e
  exact w_X11_sumDue l _ _ _ _ M q (key ns 0 (by omega) M (Sm_r M))
end S71
