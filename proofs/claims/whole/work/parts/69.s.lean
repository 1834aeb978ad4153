/-! forge -/
section S69
variable {l : Launch} {M : o_M} {nw np ns nt T : Nat}
theorem st_rel (r : Rel M nw np ns nt T) (x : Int32) : Rel (sI (sI M 16 17 x) 60 39 x) nw np ns nt T := by
  have ⟨r1, r2, r3, r4, r5, r6, r7, r8, r9, r10, r11⟩ := r
  refine ⟨wM_k (fun k => by simp (disch := omega) only [true_and, mI_sI_1, mI_sI_2, mI_sI_3, mI_nW_1, mI_nW_2, mI_sR, mI_sJ, mI_sA_1, mI_sA_2, mR_sI, mR_sJ, mR_sA, mR_sR_1, mR_sR_2, mR_sR_3, mR_nW_1, mR_nW_2, mN_sI, mN_sJ, mN_sR, mN_sA, mN_nW_1, mN_nW_2, mJ_sI, mJ_sR, mJ_sA, mJ_sJ_1, mJ_sJ_2, mJ_sJ_3, mJ_nW_1, mJ_nW_2]) (fun x _ _ => by simp (disch := omega) only [true_and, mI_sI_1, mI_sI_2, mI_sI_3, mI_nW_1, mI_nW_2, mI_sR, mI_sJ, mI_sA_1, mI_sA_2, mR_sI, mR_sJ, mR_sA, mR_sR_1, mR_sR_2, mR_sR_3, mR_nW_1, mR_nW_2, mN_sI, mN_sJ, mN_sR, mN_sA, mN_nW_1, mN_nW_2, mJ_sI, mJ_sR, mJ_sA, mJ_sJ_1, mJ_sJ_2, mJ_sJ_3, mJ_nW_1, mJ_nW_2]) r1, wX_k (fun x k hx => by simp (disch := omega) only [true_and, mI_sI_1, mI_sI_2, mI_sI_3, mI_nW_1, mI_nW_2, mI_sR, mI_sJ, mI_sA_1, mI_sA_2, mR_sI, mR_sJ, mR_sA, mR_sR_1, mR_sR_2, mR_sR_3, mR_nW_1, mR_nW_2, mN_sI, mN_sJ, mN_sR, mN_sA, mN_nW_1, mN_nW_2, mJ_sI, mJ_sR, mJ_sA, mJ_sJ_1, mJ_sJ_2, mJ_sJ_3, mJ_nW_1, mJ_nW_2]) (fun x _ _ => by simp (disch := omega) only [true_and, mI_sI_1, mI_sI_2, mI_sI_3, mI_nW_1, mI_nW_2, mI_sR, mI_sJ, mI_sA_1, mI_sA_2, mR_sI, mR_sJ, mR_sA, mR_sR_1, mR_sR_2, mR_sR_3, mR_nW_1, mR_nW_2, mN_sI, mN_sJ, mN_sR, mN_sA, mN_nW_1, mN_nW_2, mJ_sI, mJ_sR, mJ_sA, mJ_sJ_1, mJ_sJ_2, mJ_sJ_3, mJ_nW_1, mJ_nW_2]) r2, ?_, r4, RW_fr (by (repeat (first | exact Fr_r _ _ | refine Fr_sI ?_ (by unfold FW; omega) _ _ | refine Fr_sR ?_ (by unfold FW; omega) _ _ | refine Fr_nW ?_ (by unfold FW; omega) _ | refine Fr_sJ ?_ (by unfold FW; omega) _ _ | refine Fr_sA ?_ (by unfold FW; omega) _))) r5, RP_fr (by (repeat (first | exact Fr_r _ _ | refine Fr_sI ?_ (by unfold FP; omega) _ _ | refine Fr_sR ?_ (by unfold FP; omega) _ _ | refine Fr_nW ?_ (by unfold FP; omega) _ | refine Fr_sJ ?_ (by unfold FP; omega) _ _ | refine Fr_sA ?_ (by unfold FP; omega) _))) r6, RS_fr (by (repeat (first | exact Fr_r _ _ | refine Fr_sI ?_ (by unfold FS; omega) _ _ | refine Fr_sR ?_ (by unfold FS; omega) _ _ | refine Fr_nW ?_ (by unfold FS; omega) _ | refine Fr_sJ ?_ (by unfold FS; omega) _ _ | refine Fr_sA ?_ (by unfold FS; omega) _))) r7, RT_fr (by (repeat (first | exact Fr_r _ _ | refine Fr_sI ?_ (by unfold FT; omega) _ _ | refine Fr_sR ?_ (by unfold FT; omega) _ _ | refine Fr_nW ?_ (by unfold FT; omega) _ | refine Fr_sJ ?_ (by unfold FT; omega) _ _ | refine Fr_sA ?_ (by unfold FT; omega) _))) r8, RY_fr (by (repeat (first | exact Fr_r _ _ | refine Fr_sI ?_ (by unfold FY; omega) _ _ | refine Fr_sR ?_ (by unfold FY; omega) _ _ | refine Fr_nW ?_ (by unfold FY; omega) _ | refine Fr_sJ ?_ (by unfold FY; omega) _ _ | refine Fr_sA ?_ (by unfold FY; omega) _))) r9, RZ_k (by simp (disch := omega) only [true_and, mI_sI_1, mI_sI_2, mI_sI_3, mI_nW_1, mI_nW_2, mI_sR, mI_sJ, mI_sA_1, mI_sA_2, mR_sI, mR_sJ, mR_sA, mR_sR_1, mR_sR_2, mR_sR_3, mR_nW_1, mR_nW_2, mN_sI, mN_sJ, mN_sR, mN_sA, mN_nW_1, mN_nW_2, mJ_sI, mJ_sR, mJ_sA, mJ_sJ_1, mJ_sJ_2, mJ_sJ_3, mJ_nW_1, mJ_nW_2]) (by simp (disch := omega) only [true_and, mI_sI_1, mI_sI_2, mI_sI_3, mI_nW_1, mI_nW_2, mI_sR, mI_sJ, mI_sA_1, mI_sA_2, mR_sI, mR_sJ, mR_sA, mR_sR_1, mR_sR_2, mR_sR_3, mR_nW_1, mR_nW_2, mN_sI, mN_sJ, mN_sR, mN_sA, mN_nW_1, mN_nW_2, mJ_sI, mJ_sR, mJ_sA, mJ_sJ_1, mJ_sJ_2, mJ_sJ_3, mJ_nW_1, mJ_nW_2]) (fun j => by simp (disch := omega) only [true_and, mI_sI_1, mI_sI_2, mI_sI_3, mI_nW_1, mI_nW_2, mI_sR, mI_sJ, mI_sA_1, mI_sA_2, mR_sI, mR_sJ, mR_sA, mR_sR_1, mR_sR_2, mR_sR_3, mR_nW_1, mR_nW_2, mN_sI, mN_sJ, mN_sR, mN_sA, mN_nW_1, mN_nW_2, mJ_sI, mJ_sR, mJ_sA, mJ_sJ_1, mJ_sJ_2, mJ_sJ_3, mJ_nW_1, mJ_nW_2]) (fun j => by simp (disch := omega) only [true_and, mI_sI_1, mI_sI_2, mI_sI_3, mI_nW_1, mI_nW_2, mI_sR, mI_sJ, mI_sA_1, mI_sA_2, mR_sI, mR_sJ, mR_sA, mR_sR_1, mR_sR_2, mR_sR_3, mR_nW_1, mR_nW_2, mN_sI, mN_sJ, mN_sR, mN_sA, mN_nW_1, mN_nW_2, mJ_sI, mJ_sR, mJ_sA, mJ_sJ_1, mJ_sJ_2, mJ_sJ_3, mJ_nW_1, mJ_nW_2]) r10, RD_k (fun j => by simp (disch := omega) only [true_and, mI_sI_1, mI_sI_2, mI_sI_3, mI_nW_1, mI_nW_2, mI_sR, mI_sJ, mI_sA_1, mI_sA_2, mR_sI, mR_sJ, mR_sA, mR_sR_1, mR_sR_2, mR_sR_3, mR_nW_1, mR_nW_2, mN_sI, mN_sJ, mN_sR, mN_sA, mN_nW_1, mN_nW_2, mJ_sI, mJ_sR, mJ_sA, mJ_sJ_1, mJ_sJ_2, mJ_sJ_3, mJ_nW_1, mJ_nW_2]) r11⟩
  unfold RC
  simp (disch := omega) only [true_and, mI_sI_1, mI_sI_2, mI_sI_3, mI_nW_1, mI_nW_2, mI_sR, mI_sJ, mI_sA_1, mI_sA_2, mR_sI, mR_sJ, mR_sA, mR_sR_1, mR_sR_2, mR_sR_3, mR_nW_1, mR_nW_2, mN_sI, mN_sJ, mN_sR, mN_sA, mN_nW_1, mN_nW_2, mJ_sI, mJ_sR, mJ_sA, mJ_sJ_1, mJ_sJ_2, mJ_sJ_3, mJ_nW_1, mJ_nW_2]
  exact ⟨r3.1, r3.2.1, r3.2.2.1, r3.2.2.2.1, r3.2.2.2.2.1, trivial⟩
def f_kind (w : Int32) : Nat → Int32 → Bool
  | 0, _ => false
  | m + 1, v => if v = -1 then false else if v = w then true else f_kind w m (o_kI v.toNatClampNeg)
def f_under (k o : Int32) : Bool := o == 0 || k == o || (k == 3 && o == 2) || (k == 5 && o == 1)
theorem kind_in : ∀ a, a < 6 → o_kI a = -1 ∨ ∃ b, b < 6 ∧ o_kI a = nI b := by
  intro a ha
  have : a = 0 ∨ a = 1 ∨ a = 2 ∨ a = 3 ∨ a = 4 ∨ a = 5 := by omega
  rcases this with rfl | rfl | rfl | rfl | rfl | rfl
  · exact Or.inl rfl
  · exact Or.inr ⟨0, by omega, rfl⟩
  · exact Or.inr ⟨0, by omega, rfl⟩
  · exact Or.inr ⟨2, by omega, rfl⟩
  · exact Or.inr ⟨0, by omega, rfl⟩
  · exact Or.inr ⟨1, by omega, rfl⟩
theorem kind_under : ∀ a, a < 6 → ∀ o, o < 6 → f_kind (nI o) 6 (nI a) = f_under (nI a) (nI o) := by decide
theorem c6_isOfKind {a : Nat} (s : Nat) (ha : a < 6) (hk : mI M (47 + 128 * s) 0 = nI a) (w : Int32) (q : Int32 → o_M → Prop) (h : q (b2 (f_kind w 6 (nI a))) M) : K_X6_isOfKind l [rV (some (47 + 128 * s)), iV w] M q := by
  have key : ∀ m i, i + m = 6 → ∀ v, (v = -1 ∨ ∃ b, b < 6 ∧ v = nI b) → q (b2 (f_kind w m v)) M → H_X6_isOfKind_7 l q w v (nI i) M := by
    intro m
    induction m with
    | zero =>
      intro i hi v _ hq
      have : i = 6 := by omega
      subst this
      exact w_X6_isOfKind_7 l q _ _ _ M ⟨fun _ => hq, fun z => absurd (by decide) z⟩
    | succ m ih =>
      intro i hi v hv hq
      unfold f_kind at hq
      refine w_X6_isOfKind_7 l q _ _ _ M ⟨fun z => ?_, fun _ => ⟨fun z => ?_, fun z => ⟨fun z2 => ?_, fun z2 => ?_⟩⟩⟩
      · (simp (disch := omega) only [ile, ilt, ieq, nI_toInt, Int32.reduceToInt] at z; omega)
      · rw [if_pos z] at hq; exact hq
      · rw [if_neg z, if_neg z2] at hq
        rcases hv with hv | ⟨b, hb, hv⟩
        · exact absurd hv z
        · rw [hv] at hq ⊢
          rw [nI_clamp (by omega)] at hq ⊢
          rw [n1]
          exact ⟨vin hb (by decide), ih (i + 1) (by omega) _ (kind_in b hb) hq⟩
      · rw [if_neg z, if_pos z2] at hq; exact hq
  refine w_X6_isOfKind l _ _ (ty47 s) M q ?_
  rw [hk]
  exact key 6 0 (by omega) _ (Or.inr ⟨a, ha, rfl⟩) h
theorem c12_isUnder (k o : Int32) (q : Int32 → o_M → Prop) (h : q (b2 (f_under k o)) M) : K_X12_isUnder l [iV k, iV o] M q := by
  refine w_X12_isUnder l k o M q ?_
  have hh : ∀ b : Bool, f_under k o = b → q (b2 b) M := fun b e => by rw [← e]; exact h
  refine ⟨fun c => hh true (by unfold f_under; simp [c]), fun c => ⟨fun c2 => hh true (by unfold f_under; simp [c2]), fun c2 => ⟨fun c3 => ⟨fun c5 => hh false (by unfold f_under; simp [c, c2, c3, c5]), fun c5 => ⟨fun c1 => hh false (by unfold f_under; simp [c, c2, c3, c1]), fun c1 => hh true (by unfold f_under; simp [c5, c1])⟩⟩, fun c3 => ⟨fun c4 => hh true (by unfold f_under; simp [c3, c4]), fun c4 => ⟨fun c5 => hh false (by unfold f_under; simp [c, c2, c4, c5]), fun c5 => ⟨fun c1 => hh false (by unfold f_under; simp [c, c2, c4, c1]), fun c1 => hh true (by unfold f_under; simp [c5, c1])⟩⟩⟩⟩⟩⟩
set_option maxRecDepth 10000 in
theorem mod6 : ∀ k : Nat, k < 201 → let p := Int32.ofInt ((k : Int) - 100); let t := ((p - p / 6 * 6) + 6) - ((p - p / 6 * 6) + 6) / 6 * 6; (0 ≤ p ^^^ 6 → p - p / 6 * 6 = t) ∧ (¬ 0 ≤ p ^^^ 6 → ((p - p / 6 * 6) = 0 → p - p / 6 * 6 = t) ∧ (¬ (p - p / 6 * 6) = 0 → (p - p / 6 * 6) + 6 = t)) ∧ (t = 0 ∨ t = 1 ∨ t = 2 ∨ t = 3 ∨ t = 4 ∨ t = 5) := by decide +kernel
theorem rng100 {p : Int32} (h : rng p (-100) 100 = true) : ∃ k : Nat, k < 201 ∧ p = Int32.ofInt ((k : Int) - 100) := by
  unfold rng at h
  have e1 : (-100 : Int32).toInt = -100 := by decide
  have e2 : (100 : Int32).toInt = 100 := by decide
  rw [e1, e2, decide_eq_true_eq] at h
  refine ⟨(p.toInt + 100).toNat, by omega, ?_⟩
  rw [show (((p.toInt + 100).toNat : Nat) : Int) - 100 = p.toInt by omega]
  exact (Int32.ofInt_toInt p).symm
theorem yR (r : Rel M nw np ns nt T) {y : Nat} (hy : y < 6) : mR M 21 y = some (41 + 128 * y) := (r.2.2.2.2.2.2.2.2.1 y hy).1
/-- a tray as a service: class -/
theorem c9_holdsKind (r : Rel M nw np ns nt T) {y o : Nat} (hy : y < 6) (ho : o < 6) (q : Int32 → o_M → Prop) (h0 : ¬ mI M 96 y = 1 → q 0 M) (h1 : ∀ s, s < ns → mI M 96 y = 1 → mI M 97 y = nI s → mR M (41 + 128 * y) 1 = some (47 + 128 * s) → q (b2 (f_under (mI M 76 s) (nI o))) M) : K_X9_holdsKind l [rV (some (41 + 128 * y)), iV (nI o)] M q := by
  obtain ⟨_, _, _, e5, cases'⟩ := r.2.2.2.2.2.2.2.2.1 y hy
  refine w_X9_holdsKind l _ _ (ty41 y) M q ?_
  rw [e5]
  refine ⟨fun z => h0 z, fun z => ?_⟩
  rcases cases' with c | ⟨_, s, hs, c1, c2⟩ | ⟨c, _⟩ | ⟨c, _⟩ | ⟨c, _⟩
  · rw [c] at z; exact absurd z (by decide)
  · rw [c2]
    refine ⟨fun y => (by cases y), fun b2' e => ?_⟩
    obtain rfl := Option.some.inj e
    obtain ⟨a, ha, ea⟩ := (r.2.2.2.2.2.2.1.1 s hs).2.1.2.2.2.2.1
    have hk : mI M (47 + 128 * s) 0 = nI a := by rw [(sv2 r hs).1]; exact ea
    refine ⟨ty47 s, c6_isOfKind s ha hk _ _ ?_⟩
    rw [kind_under a ha o ho, ← ea]
    have := h1 s hs z c1 c2
    refine ⟨fun w => ?_, fun w => ?_⟩
    · rw [b2_0.mp w] at this; exact this
    · rw [b2_n0.mp w] at this; exact this
  · rw [c] at z; exact absurd z (by decide)
  · rw [c] at z; exact absurd z (by decide)
  · rw [c] at z; exact absurd z (by decide)
/-- answers: status and value -/
def f_asS (v : o_v) (y : Nat) (o other : Int32) : Int32 × Int32 := if v 96 y = 0 then (if other = 11 then (10, -1) else (0, 0)) else if v 96 y = 1 then (if f_under (v 76 (v 97 y).toNatClampNeg) o then (0, v 77 (v 97 y).toNatClampNeg) else (other, -1)) else (other, -1)
theorem c12_asService {N : o_M} (wN : wM N) {y : Nat} (hy : y < 6) (o other : Int32) (h97 : mI N 96 y = 1 → ∃ s, s < 40 ∧ mI N 97 y = nI s) (q : Int32 → o_M → Prop) (h : q (f_asS (mI N) y o other).2 (sI N 60 39 (f_asS (mI N) y o other).1)) : K_X12_asService l [rV (some 60), iV (nI y), iV o, iV other] N q := by
  have v6 : vp_in (nI y) 6 := vin hy (by decide)
  have dn : ∀ x, q x (sI N 60 39 0) → K_X12_done l [rV (some 60), iV x] N (fun r2 M2 => q r2 M2) := fun x hx => w_X12_done l x N _ hx
  have rf : ∀ x, q (-1) (sI N 60 39 x) → K_X12_refuse l [rV (some 60), iV x] N (fun r2 M2 => q r2 M2) := fun x hx => w_X12_refuse l x N _ hx
  unfold f_asS at h
  refine w_X12_asService l _ _ _ N q ?_
  rw [nI_clamp (by omega), wn35 wN, wn36 wN]
  refine ⟨wr35 wN, v6, fun z => ⟨fun y => absurd z y, fun _ => ⟨fun z2 => dn 0 ?_, fun z2 => rf 10 ?_⟩⟩, fun z => ⟨fun z2 => rf _ ?_, fun z2 => ?_⟩⟩
  · rw [if_pos z, if_neg z2] at h; exact h
  · rw [if_pos z, if_pos z2] at h; exact h
  · rw [if_neg z, if_neg z2] at h; exact h
  · obtain ⟨s, hs, es⟩ := h97 z2
    rw [if_neg z, if_pos z2, es, nI_clamp (by omega)] at h
    rw [es, nI_clamp (by omega), wn15 wN]
    refine ⟨wr15 wN, wr36 wN, v6, vin hs (by decide), c12_isUnder _ _ _ ⟨fun z3 => ⟨fun _ => ?_, fun y => absurd y z⟩, fun z3 => rf _ ?_⟩⟩
    · rw [b2_n0.mp z3] at h
      rw [wn36 wN, es, wn16 wN, nI_clamp (by omega)]
      exact ⟨wr16 wN, wr36 wN, v6, vin hs (by decide), dn _ h⟩
    · rw [b2_0.mp z3] at h; exact h
theorem f_asS_e {v w : o_v} (h1 : w 96 = v 96) (h2 : w 97 = v 97) (h3 : w 76 = v 76) (h4 : w 77 = v 77) : f_asS w = f_asS v := by
  funext a b c; unfold f_asS; rw [h1, h2, h3, h4]
theorem sl97 (r : Rel M nw np ns nt T) {y : Nat} (hy : y < 6) (h : mI M 96 y = 1) : ∃ s, s < ns ∧ mI M 97 y = nI s ∧ mR M (41 + 128 * y) 1 = some (47 + 128 * s) := by
  rcases (r.2.2.2.2.2.2.2.2.1 y hy).2.2.2.2 with c | ⟨_, s, hs, c⟩ | ⟨c, _⟩ | ⟨c, _⟩ | ⟨c, _⟩
  · rw [c] at h; exact absurd h (by decide)
  · exact ⟨s, hs, c⟩
  · rw [c] at h; exact absurd h (by decide)
  · rw [c] at h; exact absurd h (by decide)
  · rw [c] at h; exact absurd h (by decide)
/-- the pair for a service in a tray -/
theorem Pf_day (r : Rel M nw np ns nt T) {y o : Nat} (hy : y < 6) (ho : o < 6) : K_X11_forgeDay l [rV (some 16), rV (some (41 + 128 * y)), iV (nI o)] M (fun r1 M1 => r1 = (f_asS (mI M) y (nI o) 11).2 ∧ M1 = sI M 16 17 (f_asS (mI M) y (nI o) 11).1) := by
  obtain ⟨_, _, _, e5, _⟩ := r.2.2.2.2.2.2.2.2.1 y hy
  have hns := r.2.2.1.2.2.1.1
  refine w_X11_forgeDay l _ _ (ty41 y) M _ ?_
  rw [e5]
  refine ⟨fun z => c9_holdsKind r hy ho _ (fun z2 => ⟨fun w => absurd rfl w, fun _ => w_X11_hostRefuses l _ M _ ?_⟩) (fun s hs z2 e97 eR => ⟨fun w => ⟨_, eR, ty47 s, w_X11_hostAnswers l _ M _ ?_⟩, fun w => w_X11_hostRefuses l _ M _ ?_⟩), fun z => w_X11_hostRefuses l _ M _ ?_⟩
  · unfold f_asS; rw [if_neg z, if_neg z2]; exact ⟨rfl, rfl⟩
  · unfold f_asS; rw [if_neg z, if_pos z2, e97, nI_clamp (by omega), b2_n0.mp w, (sv2 r hs).2.1]; exact ⟨rfl, rfl⟩
  · unfold f_asS; rw [if_neg z, if_pos z2, e97, nI_clamp (by omega), b2_0.mp w]; exact ⟨rfl, rfl⟩
  · unfold f_asS; rw [if_pos z, if_pos rfl]; exact ⟨rfl, rfl⟩
theorem Pf_laid (r : Rel M nw np ns nt T) {y : Nat} (hy : y < 6) : K_X11_forgeLaid l [rV (some 16), rV (some (41 + 128 * y))] M (fun r1 M1 => r1 = (f_asS (mI M) y 1 14).2 ∧ M1 = sI M 16 17 (f_asS (mI M) y 1 14).1) := by
  obtain ⟨_, _, _, e5, _⟩ := r.2.2.2.2.2.2.2.2.1 y hy
  have hns := r.2.2.1.2.2.1.1
  refine w_X11_forgeLaid l _ (ty41 y) M _ ?_
  rw [e5]
  refine ⟨fun z => c9_holdsKind r hy (o := 1) (by omega) _ (fun z2 => ⟨fun w => absurd rfl w, fun _ => w_X11_hostRefuses l _ M _ ?_⟩) (fun s hs z2 e97 eR => ⟨fun w => ⟨_, eR, ty47 s, w_X11_hostAnswers l _ M _ ?_⟩, fun w => w_X11_hostRefuses l _ M _ ?_⟩), fun z => w_X11_hostAnswers l _ M _ ?_⟩
  · unfold f_asS; rw [if_neg z, if_neg z2]; exact ⟨rfl, rfl⟩
  · have w : f_under (mI M 76 s) 1 = true := b2_n0.mp w
    unfold f_asS; rw [if_neg z, if_pos z2, e97, nI_clamp (by omega), w, (sv2 r hs).2.1]; exact ⟨rfl, rfl⟩
  · have w : f_under (mI M 76 s) 1 = false := b2_0.mp w
    unfold f_asS; rw [if_neg z, if_pos z2, e97, nI_clamp (by omega), w]; exact ⟨rfl, rfl⟩
  · unfold f_asS; rw [if_pos z, if_neg (by decide)]; exact ⟨rfl, rfl⟩
/-- a place in a tray's row -/
def f_asR (v : o_v) (J : Nat → Nat → Int64) (y : Nat) (what p : Int32) : Int32 × Int32 := if v 96 y = 0 then (10, -1) else if v 96 y = what then (if rng p 0 (v 98 y - 1) then (0, (J 99 (300 * y + p.toNatClampNeg)).toInt32) else (12, -1)) else (11, -1)
theorem i3264 (x : Int32) : x.toInt64.toInt32 = x := by simp
theorem Pf_place (r : Rel M nw np ns nt T) {y : Nat} (hy : y < 6) {what : Int32} (hw : what = 2 ∨ what = 3 ∨ what = 4) (p : Int32) : K_X11_forgePlace l [rV (some 16), rV (some (41 + 128 * y)), iV what, iV p] M (fun r1 M1 => r1 = (f_asR (mI M) (mJ M) y what p).2 ∧ M1 = sI M 16 17 (f_asR (mI M) (mJ M) y what p).1) := by
  obtain ⟨_, g0, gn, e5, cs'⟩ := r.2.2.2.2.2.2.2.2.1 y hy
  have hX := r.2.1
  have hnt := r.2.2.1.2.2.2.1.2.1
  refine w_X11_forgePlace l _ _ _ (ty41 y) M _ ?_
  rw [e5]
  have go : ∀ n, n < 2 ^ 30 → mI M 98 y = nI n → mI M (41 + 128 * y) 4 = nI n → ¬ mI M 96 y = 0 → mI M 96 y = what → (∀ k, k < n → ∀ q : Int32 → o_M → Prop, q (mJ M 99 (300 * y + k)).toInt32 M → K_X9_elementAt l [rV (some (41 + 128 * y)), iV (nI k)] M q) → K_X11_isWithin l [iV p, iV 0, iV ((mI M (41 + 128 * y) 4) - 1)] M (fun r4 M3 => ((¬ r4 = 0 → K_X9_elementAt l [rV (some (41 + 128 * y)), iV p] M3 (fun r7 M6 => K_X11_hostAnswers l [rV (some 16), iV r7] M6 (fun r9 M8 => r9 = (f_asR (mI M) (mJ M) y what p).2 ∧ M8 = sI M 16 17 (f_asR (mI M) (mJ M) y what p).1))) ∧ (r4 = 0 → K_X11_hostRefuses l [rV (some 16), iV 12] M3 (fun r11 M10 => r11 = (f_asR (mI M) (mJ M) y what p).2 ∧ M10 = sI M 16 17 (f_asR (mI M) (mJ M) y what p).1)))) := by
    intro n hn e98 e4 z z2 hel
    refine c11_isWithin _ _ _ _ ?_
    rw [e4]
    refine ⟨fun w => ?_, fun w => w_X11_hostRefuses l _ M _ ?_⟩
    · have hr := b2_n0.mp w
      obtain ⟨k, hk, rfl⟩ := rng_ix hn hr
      refine hel k hk _ (w_X11_hostAnswers l _ M _ ?_)
      unfold f_asR; rw [if_neg z, if_pos z2, e98, hr, nI_clamp (by omega)]; exact ⟨rfl, rfl⟩
    · unfold f_asR; rw [if_neg z, if_pos z2, e98, b2_0.mp w]; exact ⟨rfl, rfl⟩
  refine ⟨fun z => ⟨fun z2 => ?_, fun z2 => w_X11_hostRefuses l _ M _ ?_⟩, fun z => w_X11_hostRefuses l _ M _ ?_⟩
  · rcases cs' with c | ⟨c, _⟩ | ⟨c, t, zz, ht, hz, hzn, eR, e98, e4, hrow⟩ | ⟨c, n, hn, e98, e4, hrow⟩ | ⟨c, n, hn, e98, e4, hrow⟩
    · exact absurd c z
    · rw [c] at z2; rw [← z2] at hw; exact absurd hw (by decide)
    · refine go zz (by omega) e98 e4 z z2 (fun k hk q hq => w_X9_elementAt l _ _ (ty41 y) M q ?_)
      rw [e5, c]
      refine ⟨fun w => absurd rfl w, fun _ => ?_⟩
      rw [eR]
      have ty52 : o_ty (52 + 128 * t) = .inr .byte := by
        have : (52 + 128 * t) % 128 = 52 := by omega
        unfold o_ty; rw [this]; rfl
      refine ⟨fun w => (by cases w), fun b9 e => ?_⟩
      obtain rfl := Option.some.inj e
      refine ⟨ty52, c11_isWithin _ _ _ _ ?_⟩
      rw [hzn, show Int32.ofNat zz = nI zz from rfl, rng_ix1 (by omega) hk]
      refine ⟨fun w => absurd w (by decide), fun _ => ⟨_, eR, ty52, by rw [hzn]; exact vin hk (by omega), ?_⟩⟩
      rw [nI_clamp (by omega)]
      rw [hrow k hk, i3264] at hq; exact hq
    · refine go n (by omega) e98 e4 z z2 (fun k hk q hq => w_X9_elementAt l _ _ (ty41 y) M q ?_)
      rw [e5, c, show 41 + 128 * y + 1 = 42 + 128 * y by omega]
      refine ⟨fun _ => ⟨fun w => absurd rfl w, fun _ => ⟨g0, c11_isWithin _ _ _ _ ?_⟩⟩, fun w => absurd w (by decide)⟩
      rw [gn, show Int32.ofNat 10 = nI 10 from rfl, rng_ix1 (by omega) (show k < 10 by omega)]
      refine ⟨fun w => absurd w (by decide), fun _ => ⟨g0, vin (by omega) (by decide), ?_⟩⟩
      rw [nI_clamp (by omega), ← hrow k hk]; exact hq
    · refine go n (by omega) e98 e4 z z2 (fun k hk q hq => w_X9_elementAt l _ _ (ty41 y) M q ?_)
      rw [e5, c]
      refine ⟨fun _ => ⟨fun _ => ?_, fun w => absurd w (by decide)⟩, fun w => absurd w (by decide)⟩
      rw [hrow k hk, i3264] at hq; exact hq
  · unfold f_asR; rw [if_neg z, if_neg z2]; exact ⟨rfl, rfl⟩
  · unfold f_asR; rw [if_pos z]; exact ⟨rfl, rfl⟩
theorem c12_asRow {N : o_M} (wN : wM N) {y : Nat} (hy : y < 6) (what p : Int32) (hsz : mI N 96 y = what → ∃ n, n ≤ 300 ∧ mI N 98 y = nI n) (q : Int32 → o_M → Prop) (h : q (f_asR (mI N) (mJ N) y what p).2 (sI N 60 39 (f_asR (mI N) (mJ N) y what p).1)) : K_X12_asRow l [rV (some 60), iV (nI y), iV what, iV p] N q := by
  have v6 : vp_in (nI y) 6 := vin hy (by decide)
  unfold f_asR at h
  refine w_X12_asRow l _ _ _ N q ?_
  rw [nI_clamp (by omega), wn35 wN, wn37 wN]
  refine ⟨wr35 wN, v6, fun z => ⟨wr35 wN, v6, fun z2 => ⟨wr37 wN, v6, c12_in _ _ _ _ ?_⟩, fun z2 => w_X12_refuse l _ N _ ?_⟩, fun z => w_X12_refuse l _ N _ ?_⟩
  · obtain ⟨n, hn, e98⟩ := hsz z2
    rw [if_neg z, if_pos z2, e98] at h
    rw [e98]
    refine ⟨fun w => w_X12_refuse l _ N _ ?_, fun w => ?_⟩
    · rw [b2_0.mp w] at h; exact h
    · have hr := b2_n0.mp w
      rw [hr] at h
      obtain ⟨k, hk, rfl⟩ := rng_ix (by omega) hr
      have hix : (300 : Int32) * nI y + nI k = nI (300 * y + k) := ixm 300 y k rfl
      rw [hix, wn38 wN, nI_clamp (by omega)]
      rw [nI_clamp (by omega)] at h
      exact ⟨wr38 wN, vin (by omega) (by decide), w_X12_done l _ N _ h⟩
  · rw [if_neg z, if_neg z2] at h; exact h
  · rw [if_pos z] at h; exact h
/-- pays copied -/
def f_cpS (J : Nat → Nat → Int64) (y i : Nat) (x : Int64) : Int64 := x + J 99 (300 * y + (1 + i))
def f_cp (v : o_v) (J : Nat → Nat → Int64) (y : Nat) (p : Int32) : Int32 × Int32 := if v 96 y = 0 then (10, -1) else if v 96 y = 3 then (if p < 0 then (12, -1) else if v 98 y < 1 + p then (12, -1) else if p + p ≤ 5 then (0, (lp (f_cpS J y) 0 p.toNatClampNeg).toInt32) else (12, -1)) else (11, -1)
theorem Pf_copy (r : Rel M nw np ns nt T) {y : Nat} (hy : y < 6) {p : Int32} (hp : ¬ p < 0 → ∃ k, k ≤ 100 ∧ p = nI k) : K_X11_forgeCopy l [rV (some 16), rV (some (41 + 128 * y)), iV p] M (fun r1 M1 => r1 = (f_cp (mI M) (mJ M) y p).2 ∧ M1 = sI M 16 17 (f_cp (mI M) (mJ M) y p).1) := by
  obtain ⟨_, g0, gn, e5, cs'⟩ := r.2.2.2.2.2.2.2.2.1 y hy
  refine w_X11_forgeCopy l _ _ (ty41 y) M _ ?_
  rw [e5]
  refine ⟨fun z => ⟨fun z2 => ⟨fun z3 => w_X11_hostRefuses l _ M _ ?_, fun z3 => ⟨fun z4 => w_X11_hostRefuses l _ M _ ?_, fun z4 => ⟨fun z5 => ?_, fun z5 => w_X11_hostRefuses l _ M _ ?_⟩⟩⟩, fun z2 => w_X11_hostRefuses l _ M _ ?_⟩, fun z => w_X11_hostRefuses l _ M _ ?_⟩
  · unfold f_cp; rw [if_neg z, if_pos z2, if_pos z3]; exact ⟨rfl, rfl⟩
  all_goals try (unfold f_cp; rw [if_neg z, if_neg z2]; exact ⟨rfl, rfl⟩)
  all_goals try (unfold f_cp; rw [if_pos z]; exact ⟨rfl, rfl⟩)
  all_goals
    have hex : ∃ n, n ≤ 10 ∧ mI M 98 y = nI n ∧ mI M (41 + 128 * y) 4 = nI n ∧ ∀ i, i < n → mJ M 99 (300 * y + i) = mJ M (42 + 128 * y) i := by
      rcases cs' with c | ⟨c, _⟩ | ⟨c, _⟩ | ⟨c, h⟩ | ⟨c, _⟩
      · exact absurd c z
      · rw [c] at z2; exact absurd z2 (by decide)
      · rw [c] at z2; exact absurd z2 (by decide)
      · exact h
      · rw [c] at z2; exact absurd z2 (by decide)
    obtain ⟨n, hn, e98, e4, hrow⟩ := hex
  · rw [e4, ← e98] at z4
    unfold f_cp; rw [if_neg z, if_pos z2, if_neg z3, if_pos z4]; exact ⟨rfl, rfl⟩
  · have z4' := z4
    rw [e4, ← e98] at z4'
    obtain ⟨k, hk, rfl⟩ := hp z3
    have e1k : 1 + nI k = nI (k + 1) := by rw [← n1]; exact Int32.add_comm _ _
    rw [e4, e1k, nI_ltI (by omega) (by omega)] at z4
    have hfin : (f_cp (mI M) (mJ M) y (nI k)) = (0, (lp (f_cpS (mJ M) y) 0 k).toInt32) := by
      unfold f_cp; rw [if_neg z, if_pos z2, if_neg z3, if_neg z4', if_pos z5, nI_clamp (by omega)]
    have key : ∀ m i, i + m = k → H_X11_forgeCopy_62 l (fun r1 M1 => r1 = (f_cp (mI M) (mJ M) y (nI k)).2 ∧ M1 = sI M 16 17 (f_cp (mI M) (mJ M) y (nI k)).1) (41 + 128 * y) (nI k) (lp (f_cpS (mJ M) y) 0 i) (nI (1 + i)) M := by
      intro m
      induction m with
      | zero =>
        intro i hi
        have : i = k := by omega
        subst this
        refine w_X11_forgeCopy_62 l _ _ (ty41 y) _ _ _ M ⟨fun _ => w_X11_hostAnswers l _ M _ ?_, fun w => ?_⟩
        · rw [hfin]; exact ⟨rfl, rfl⟩
        · rw [nI_ltI (by omega) (by omega)] at w; omega
      | succ m ih =>
        intro i hi
        have e := ih (i + 1) (by omega)
        refine w_X11_forgeCopy_62 l _ _ (ty41 y) _ _ _ M ⟨fun w => ?_, fun _ => ?_⟩
        · rw [nI_ltI (by omega) (by omega)] at w; omega
        rw [show 41 + 128 * y + 1 = 42 + 128 * y by omega, gn, nI_clamp (by omega), n1, ← hrow (1 + i) (by omega)]
        exact ⟨g0, vin (by omega) (by decide), e⟩
    exact key k 0 (by omega)
  · rw [e4, ← e98] at z4
    unfold f_cp; rw [if_neg z, if_pos z2, if_neg z3, if_neg z4, if_neg z5]; exact ⟨rfl, rfl⟩
theorem c12_copied {N : o_M} (wN : wM N) {y : Nat} (hy : y < 6) {p : Int32} (hp : ¬ p < 0 → ∃ k, k ≤ 100 ∧ p = nI k) (hsz : mI N 96 y = 3 → ∃ n, n ≤ 10 ∧ mI N 98 y = nI n) (q : Int32 → o_M → Prop) (h : q (f_cp (mI N) (mJ N) y p).2 (sI N 60 39 (f_cp (mI N) (mJ N) y p).1)) : K_X12_copied l [rV (some 60), iV (nI y), iV p] N q := by
  have v6 : vp_in (nI y) 6 := vin hy (by decide)
  have e2p : 2 * p = p + p := by grind
  unfold f_cp at h
  refine w_X12_copied l _ _ N q ?_
  rw [nI_clamp (by omega), wn35 wN, wn37 wN, e2p]
  refine ⟨wr35 wN, v6, fun z => ⟨wr35 wN, v6, fun z2 => ⟨fun z3 => w_X12_refuse l _ N _ ?_, fun z3 => ⟨wr37 wN, v6, fun z4 => w_X12_refuse l _ N _ ?_, fun z4 => ⟨fun z5 => ?_, fun z5 => w_X12_refuse l _ N _ ?_⟩⟩⟩, fun z2 => w_X12_refuse l _ N _ ?_⟩, fun z => w_X12_refuse l _ N _ ?_⟩
  · rw [if_neg z, if_pos z2, if_pos z3] at h; exact h
  · rw [if_neg z, if_pos z2, if_neg z3, if_pos z4] at h; exact h
  · rw [if_neg z, if_pos z2, if_neg z3, if_neg z4, if_pos z5] at h
    obtain ⟨k, hk, rfl⟩ := hp z3
    obtain ⟨n, hn, e98⟩ := hsz z2
    have e1k : 1 + nI k = nI (k + 1) := by rw [← n1]; exact Int32.add_comm _ _
    rw [e98, e1k, nI_ltI (by omega) (by omega)] at z4
    rw [nI_clamp (by omega)] at h
    have key : ∀ m i, i + m = k → H_X12_copied_68 l q (nI y) (nI k) (lp (f_cpS (mJ N) y) 0 i) (nI i) N := by
      intro m
      induction m with
      | zero =>
        intro i hi
        have : i = k := by omega
        subst this
        exact w_X12_copied_68 l q _ _ _ _ N ⟨fun _ => w_X12_done l _ N _ h, fun w => absurd (nI_le (Nat.le_refl _) (by omega)) w⟩
      | succ m ih =>
        intro i hi
        have e := ih (i + 1) (by omega)
        have hix : (300 : Int32) * nI y + 1 + nI i = nI (300 * y + (1 + i)) := by
          rw [show (300 : Int32) * nI y + 1 = nI (300 * y + 1) from ixm 300 y 1 rfl, nI_add]; congr 1; omega
        refine w_X12_copied_68 l q _ _ _ _ N ⟨fun w => ?_, fun _ => ?_⟩
        · rw [nI_leI (by omega) (by omega)] at w; omega
        rw [hix, wn38 wN, nI_clamp (by omega), n1]
        exact ⟨wr38 wN, vin (by omega) (by decide), e⟩
    exact key k 0 (by omega)
  · rw [if_neg z, if_pos z2, if_neg z3, if_neg z4, if_neg z5] at h; exact h
  · rw [if_neg z, if_neg z2] at h; exact h
  · rw [if_pos z] at h; exact h
end S69
