/-! the model's reader follows the pure reading: every method -/
section S785
variable {l : Launch} {M N M0 : o_M} {b : Nat → Nat} {z t : Nat} {s s1 s' : Sta}
theorem y12_0 {f : Nat} (ih : MI l M0 t b z f) {d : Nat} {q : o_M → Prop} (hC : MX M0 M t s) (hI : Iv b z s) (hp : tcs s ≤ ph s) (h25 : 25 ≤ d + 0) (h75 : ttk s ≠ 27 → 75 ≤ d + 7 * top s + 0) (hpr : pG b z (pr b z f) 0 s = some s') (hq : ∀ N, MX M0 N t s' → q N) : K_X12_either l d [rV (some 60)] M q := by
  rw [pG_0] at hpr
  exact w_X12_either l d (by omega) M q (KM_seq ih (u := 2) (v := 1) (by omega) (by omega) (d := d) (e := d - 1) (lu := 1) (lv' := 0) rfl rfl (by omega) q hC hI hp h25 h75 hpr hq)
theorem y12_1 {f : Nat} (ih : MI l M0 t b z f) (hB : BM M0 t b z) {d : Nat} {q : o_M → Prop} (hC : MX M0 M t s) (hI : Iv b z s) (hp : tcs s ≤ ph s) (h25 : 25 ≤ d + 0) (h75 : ttk s ≠ 27 → 75 ≤ d + 7 * top s + 0) (hpr : pG b z (pr b z f) 1 s = some s') (hq : ∀ N, MX M0 N t s' → q N) : H_X12_either_4 l d q M := by
  rw [pG_1] at hpr
  refine w_X12_either_4 l d q (by omega) M (c12_wr hB hI hC _ (fun tg => ⟨fun c => absurd rfl c, fun _ => ?_⟩) (fun tb => ⟨fun _ => ?_, fun c => absurd c (by decide)⟩))
  · have e1 := MX_tk hI hC tg (k := 13) rfl (by decide) (by decide)
    by_cases tk : ttk s = 13
    · rw [if_pos tk] at hpr
      exact ⟨fun c => absurd (e1.mpr tk) c, fun _ => KM_more ih hB (u := 2) (v := 1) (o := 2) (by omega) (by omega) (d := d) (e := d - 1) (lu := 1) (lv' := 0) rfl rfl (by omega) q hC hI hp h25 h75 (by omega) hpr hq⟩
    · rw [if_neg tk] at hpr
      cases hpr
      exact ⟨fun _ => hq M hC, fun c => absurd (e1.mp c) tk⟩
  · rw [if_neg (by omega)] at hpr
    cases hpr
    exact hq M hC
theorem y12_2 {f : Nat} (ih : MI l M0 t b z f) {d : Nat} {q : o_M → Prop} (hC : MX M0 M t s) (hI : Iv b z s) (hp : tcs s ≤ ph s) (h25 : 25 ≤ d + 1) (h75 : ttk s ≠ 27 → 75 ≤ d + 7 * top s + 1) (hpr : pG b z (pr b z f) 2 s = some s') (hq : ∀ N, MX M0 N t s' → q N) : K_X12_both l d [rV (some 60)] M q := by
  rw [pG_2] at hpr
  exact w_X12_both l d (by omega) M q (KM_seq ih (u := 4) (v := 3) (by omega) (by omega) (d := d) (e := d - 1) (lu := 2) (lv' := 1) rfl rfl (by omega) q hC hI hp h25 h75 hpr hq)
theorem y12_3 {f : Nat} (ih : MI l M0 t b z f) (hB : BM M0 t b z) {d : Nat} {q : o_M → Prop} (hC : MX M0 M t s) (hI : Iv b z s) (hp : tcs s ≤ ph s) (h25 : 25 ≤ d + 1) (h75 : ttk s ≠ 27 → 75 ≤ d + 7 * top s + 1) (hpr : pG b z (pr b z f) 3 s = some s') (hq : ∀ N, MX M0 N t s' → q N) : H_X12_both_4 l d q M := by
  rw [pG_3] at hpr
  refine w_X12_both_4 l d q (by omega) M (c12_wr hB hI hC _ (fun tg => ⟨fun c => absurd rfl c, fun _ => ?_⟩) (fun tb => ⟨fun _ => ?_, fun c => absurd c (by decide)⟩))
  · have e1 := MX_tk hI hC tg (k := 14) rfl (by decide) (by decide)
    by_cases tk : ttk s = 14
    · rw [if_pos tk] at hpr
      exact ⟨fun c => absurd (e1.mpr tk) c, fun _ => KM_more ih hB (u := 4) (v := 3) (o := 3) (by omega) (by omega) (d := d) (e := d - 1) (lu := 2) (lv' := 1) rfl rfl (by omega) q hC hI hp h25 h75 (by omega) hpr hq⟩
    · rw [if_neg tk] at hpr
      cases hpr
      exact ⟨fun _ => hq M hC, fun c => absurd (e1.mp c) tk⟩
  · rw [if_neg (by omega)] at hpr
    cases hpr
    exact hq M hC
theorem y12_5 {f : Nat} (ih : MI l M0 t b z f) {d : Nat} {q : o_M → Prop} (hC : MX M0 M t s) (hI : Iv b z s) (hp : tcs s ≤ ph s) (h25 : 25 ≤ d + 3) (h75 : ttk s ≠ 27 → 75 ≤ d + 7 * top s + 3) (hpr : pG b z (pr b z f) 5 s = some s') (hq : ∀ N, MX M0 N t s' → q N) : K_X12_sum l d [rV (some 60)] M q := by
  rw [pG_5] at hpr
  exact w_X12_sum l d (by omega) M q (KM_seq ih (u := 7) (v := 6) (by omega) (by omega) (d := d) (e := d - 1) (lu := 4) (lv' := 3) rfl rfl (by omega) q hC hI hp h25 h75 hpr hq)
theorem y12_6 {f : Nat} (ih : MI l M0 t b z f) (hB : BM M0 t b z) {d : Nat} {q : o_M → Prop} (hC : MX M0 M t s) (hI : Iv b z s) (hp : tcs s ≤ ph s) (h25 : 25 ≤ d + 3) (h75 : ttk s ≠ 27 → 75 ≤ d + 7 * top s + 3) (hpr : pG b z (pr b z f) 6 s = some s') (hq : ∀ N, MX M0 N t s' → q N) : H_X12_sum_4 l d q M := by
  rw [pG_6] at hpr
  refine w_X12_sum_4 l d q (by omega) M (c12_wr hB hI hC _ (fun tg => ⟨fun c => absurd rfl c, fun _ => ?_⟩) (fun tb => ⟨fun _ => ?_, fun c => absurd c (by decide)⟩))
  · have e1 := MX_tk hI hC tg (k := 19) (v := 43) rfl (by decide) (by decide)
    have e2 := MX_tk hI hC tg (k := 20) (v := 45) rfl (by decide) (by decide)
    by_cases tk : ttk s = 19
    · rw [if_pos tk] at hpr
      exact ⟨fun _ => ⟨fun c => absurd (e1.mpr tk) c, fun _ => KM_more ih hB (u := 7) (v := 6) (o := 7) (by omega) (by omega) (d := d) (e := d - 1) (lu := 4) (lv' := 3) rfl rfl (by omega) q hC hI hp h25 h75 (by omega) hpr hq⟩, fun c => absurd (e1.mpr tk) c⟩
    rw [if_neg tk] at hpr
    refine ⟨fun c => absurd (e1.mp c) tk, fun _ => ?_⟩
    by_cases tk2 : ttk s = 20
    · rw [if_pos tk2] at hpr
      exact ⟨fun c => absurd (e2.mpr tk2) c, fun _ => ⟨fun _ => KM_more ih hB (u := 7) (v := 6) (o := 8) (by omega) (by omega) (d := d) (e := d - 1) (lu := 4) (lv' := 3) rfl rfl (by omega) q hC hI hp h25 h75 (by omega) hpr hq, fun c => absurd (e1.mp c) tk⟩⟩
    · rw [if_neg tk2] at hpr
      cases hpr
      exact ⟨fun _ => hq M hC, fun c => absurd (e2.mp c) tk2⟩
  · rw [if_neg (by omega), if_neg (by omega)] at hpr
    cases hpr
    exact hq M hC
theorem y12_7 {f : Nat} (ih : MI l M0 t b z f) {d : Nat} {q : o_M → Prop} (hC : MX M0 M t s) (hI : Iv b z s) (hp : tcs s ≤ ph s) (h25 : 25 ≤ d + 4) (h75 : ttk s ≠ 27 → 75 ≤ d + 7 * top s + 4) (hpr : pG b z (pr b z f) 7 s = some s') (hq : ∀ N, MX M0 N t s' → q N) : K_X12_term l d [rV (some 60)] M q := by
  rw [pG_7] at hpr
  exact w_X12_term l d (by omega) M q (KM_seq ih (u := 9) (v := 8) (by omega) (by omega) (d := d) (e := d - 1) (lu := 5) (lv' := 4) rfl rfl (by omega) q hC hI hp h25 h75 hpr hq)
theorem y12_8 {f : Nat} (ih : MI l M0 t b z f) (hB : BM M0 t b z) {d : Nat} {q : o_M → Prop} (hC : MX M0 M t s) (hI : Iv b z s) (hp : tcs s ≤ ph s) (h25 : 25 ≤ d + 4) (h75 : ttk s ≠ 27 → 75 ≤ d + 7 * top s + 4) (hpr : pG b z (pr b z f) 8 s = some s') (hq : ∀ N, MX M0 N t s' → q N) : H_X12_term_4 l d q M := by
  rw [pG_8] at hpr
  refine w_X12_term_4 l d q (by omega) M (c12_wr hB hI hC _ (fun tg => ⟨fun c => absurd rfl c, fun _ => ?_⟩) (fun tb => ⟨fun _ => ?_, fun c => absurd c (by decide)⟩))
  · have e1 := MX_tk hI hC tg (k := 21) rfl (by decide) (by decide)
    by_cases tk : ttk s = 21
    · rw [if_pos tk] at hpr
      exact ⟨fun c => absurd (e1.mpr tk) c, fun _ => KM_more ih hB (u := 9) (v := 8) (o := 9) (by omega) (by omega) (d := d) (e := d - 1) (lu := 5) (lv' := 4) rfl rfl (by omega) q hC hI hp h25 h75 (by omega) hpr hq⟩
    · rw [if_neg tk] at hpr
      cases hpr
      exact ⟨fun _ => hq M hC, fun c => absurd (e1.mp c) tk⟩
  · rw [if_neg (by omega)] at hpr
    cases hpr
    exact hq M hC
theorem y12_4 {f : Nat} (ih : MI l M0 t b z f) (hB : BM M0 t b z) {d : Nat} {q : o_M → Prop} (hC : MX M0 M t s) (hI : Iv b z s) (hp : tcs s ≤ ph s) (h25 : 25 ≤ d + 2) (h75 : ttk s ≠ 27 → 75 ≤ d + 7 * top s + 2) (hpr : pr b z (f + 1) 4 s = some s') (hq : ∀ N, MX M0 N t s' → q N) : K_X12_not l d [rV (some 60)] M q := by
  have hz : z ≤ 300 := hB.2.2.2.2.1
  have hpr0 := hpr
  replace hpr : pG b z (pr b z f) 4 s = some s' := hpr
  rw [pG_4] at hpr
  refine w_X12_not l d (by omega) M q (c12_wr hB hI hC _ (fun tg => ⟨fun _ => ?_, fun c => absurd rfl c⟩) (fun tb => ⟨fun c => absurd c (by decide), fun _ => ?_⟩))
  · have e15 := MX_tk hI hC tg (k := 15) (v := 305) rfl (by decide) (by decide)
    by_cases tk : ttk s = 15
    · rw [if_pos tk] at hpr
      obtain ⟨s1, e1, e2⟩ := bd hpr
      cases e2
      have tt : ttk s ≠ 25 ∧ ttk s ≠ 26 ∧ ttk s ≠ 27 := by omega
      have hop := hI.2.2.2.2.2.2.2 tt.2.2
      have h75' := h75 tt.2.2
      have IO := Iv_opn hI tt.2.1 tt.2.2
      have hpl := hI.2.2.2.1 tt.1 tt.2.2
      have pg := ph_good tt.2.2
      have po : tcs (opn b z s) ≤ ph (opn b z s) ∧ (ttk (opn b z s) ≠ 27 → top (opn b z s) = top s + 1) := by
        unfold opn
        split
        · have : ph (yfl s) = tpl s + 1 := ph_bad rfl
          exact ⟨by rw [tcs_yfl]; omega, fun w => absurd rfl w⟩
        · have A := Iv_adv (Iv_yoo hI (by omega)) tt.2.1 tt.2.2
          have pa := ph_good A.2.2
          have ca : tcs (adv b z (yoo s)) = tcs s := rfl
          have na : tnx (yoo s) = tnx s := rfl
          exact ⟨by omega, fun _ => rfl⟩
      have g := pr_ok _ _ (by omega) _ _ IO e1
      have gt := g.2.2.2.2.2.2
      have hp1 := phx g po.1
      refine ⟨fun c => absurd (e15.mpr tk) c, fun _ => c12_opens hB hI hC tg _ (fun N hN => ?_)⟩
      exact ih 4 (by omega) _ s1 (d - 1) N (fun M26 => _) hN IO po.1 (show 25 ≤ d - 1 + 2 by omega) (fun t1 => by have := po.2 t1; show 75 ≤ d - 1 + 7 * top (opn b z s) + 2; omega) e1 (fun N2 hN2 => c12_emit (s := ycl s1) hB (MX_cl hN2 (fun t1 => by have := (gt t1).1; have := po.2 (fun w => t1 (g.2.2.2.2.2.1 w)); omega)) (ph_301 (s := s1) hz g.1 hp1) (o := 4) (w := 0) rfl rfl _ hq)
    · rw [if_neg tk] at hpr
      obtain ⟨s1, e1, e2⟩ := bd hpr
      have g := pr_ok _ _ (by omega) _ _ hI e1
      have hp1 := phx g hp
      refine ⟨fun _ => ?_, fun c => absurd (e15.mp c) tk⟩
      refine ih 5 (by omega) s s1 (d - 1) M (fun M5 => _) hC hI hp (show 25 ≤ d - 1 + 3 by omega) (fun t1 => by have := h75 t1; show 75 ≤ d - 1 + 7 * top s + 3; omega) e1 (fun N hN => ?_)
      refine c12_wr hB g.1 hN _ (fun tg1 => ⟨fun c => absurd rfl c, fun _ => ?_⟩) (fun tb1 => ⟨fun _ => ?_, fun c => absurd c (by decide)⟩)
      · have e22 := MX_tk g.1 hN tg1 (k := 22) (v := 60) rfl (by decide) (by decide)
        have e23 := MX_tk g.1 hN tg1 (k := 23) (v := 61) rfl (by decide) (by decide)
        have op : ∀ {o : Nat}, (ttk s1 ≠ 25 ∧ ttk s1 ≠ 26 ∧ ttk s1 ≠ 27) → (pr b z f 5 (adv b z s1)).bind (fun s2 => some (yem o 0 s2)) = some s' → K_X12_next l [rV (some 60)] N (fun M4 => K_X12_sum l (d - 1) [rV (some 60)] M4 (fun M5 => K_X12_emit l [rV (some 60), iV (nI o), iV 0] M5 (fun M6 => q M6))) := fun {o} tt hb => by
          obtain ⟨s2, e3, e4⟩ := bd hb
          cases e4
          have A := Iv_adv g.1 tt.2.1 tt.2.2
          have hpl := g.1.2.2.2.1 tt.1 tt.2.2
          have pg := ph_good tt.2.2
          have pa := ph_good A.2.2
          have ca : tcs (adv b z s1) = tcs s1 := rfl
          have hpa : tcs (adv b z s1) ≤ ph (adv b z s1) := by omega
          have k := pr_ok _ _ (by omega) _ _ A.1 e3
          refine c12_adv hB g.1 hN tt.2.2 _ (fun N2 hN2 => ?_)
          exact ih 5 (by omega) _ s2 (d - 1) N2 (fun M5 => _) hN2 A.1 hpa (show 25 ≤ d - 1 + 3 by omega) (fun t1 => by have := dpm g h75 tt.2.2; show 75 ≤ d - 1 + 7 * top s1 + 3; omega) e3 (fun N3 hN3 => c12_emit hB hN3 (ph_301 hz k.1 (phx k hpa)) rfl rfl _ hq)
        by_cases t2 : ttk s1 = 22
        · rw [if_pos t2] at e2
          exact ⟨fun _ => ⟨fun c => absurd (e22.mpr t2) c, fun _ => op (o := 5) (by omega) e2⟩, fun c => absurd (e22.mpr t2) c⟩
        rw [if_neg t2] at e2
        refine ⟨fun c => absurd (e22.mp c) t2, fun _ => ?_⟩
        by_cases t3 : ttk s1 = 23
        · rw [if_pos t3] at e2
          exact ⟨fun c => absurd (e23.mpr t3) c, fun _ => ⟨fun _ => op (o := 6) (by omega) e2, fun c => absurd (e22.mp c) t2⟩⟩
        · rw [if_neg t3] at e2
          cases e2
          exact ⟨fun _ => hq N hN, fun c => absurd (e23.mp c) t3⟩
      · rw [if_neg (by omega), if_neg (by omega)] at e2
        cases e2
        exact hq N hN
  · have := pr_bad _ _ _ _ tb hpr0
    subst this
    exact hq M hC
theorem y12_9 {f : Nat} (ih : MI l M0 t b z f) (hB : BM M0 t b z) {d : Nat} {q : o_M → Prop} (hC : MX M0 M t s) (hI : Iv b z s) (hp : tcs s ≤ ph s) (h25 : 25 ≤ d + 5) (h75 : ttk s ≠ 27 → 75 ≤ d + 7 * top s + 5) (hpr : pr b z (f + 1) 9 s = some s') (hq : ∀ N, MX M0 N t s' → q N) : K_X12_one l d [rV (some 60)] M q := by
  have hz : z ≤ 300 := hB.2.2.2.2.1
  have hpr0 := hpr
  replace hpr : pG b z (pr b z f) 9 s = some s' := hpr
  rw [pG_9] at hpr
  refine w_X12_one l d (by omega) M q (c12_wr hB hI hC _ (fun tg => ⟨fun _ => ?_, fun c => absurd rfl c⟩) (fun tb => ⟨fun c => absurd c (by decide), fun _ => ?_⟩))
  · have e24 := MX_tk hI hC tg (k := 24) (v := 1) rfl (by decide) (by decide)
    have e20 := MX_tk hI hC tg (k := 20) (v := 45) rfl (by decide) (by decide)
    have e16 := MX_tk hI hC tg (k := 16) (v := 40) rfl (by decide) (by decide)
    have e3 := MX_t3 hI hC tg
    have h301 := ph_301 hz hI hp
    by_cases t1 : ttk s = 24
    · rw [if_pos t1] at hpr
      cases hpr
      have kv := (hC.2.2.2 tg).2.2.2.2.1 t1
      exact ⟨fun _ => ⟨fun c => absurd (e24.mpr t1) c, fun _ => c12_emit hB hC h301 (o := 0) (w := tnu s) rfl kv _ (fun N hN => c12_adv (s := yem 0 (tnu s) s) hB (Iv_yem hI) hN tg _ hq)⟩, fun c => absurd (e24.mpr t1) c⟩
    rw [if_neg t1] at hpr
    refine ⟨fun c => absurd (e24.mp c) t1, fun _ => ?_⟩
    by_cases t2 : ttk s < 10
    · rw [if_pos t2] at hpr
      cases hpr
      have kv := (hC.2.2.2 tg).2.2.2.1 t2
      exact ⟨fun c => absurd (e3.mpr t2) c, fun _ => ⟨fun _ => c12_emit hB hC h301 (o := 1) (w := ttk s) rfl kv _ (fun N hN => c12_adv (s := yem 1 (ttk s) s) hB (Iv_yem hI) hN tg _ hq), fun c => absurd (e24.mp c) t1⟩⟩
    rw [if_neg t2] at hpr
    refine ⟨fun _ => ?_, fun c => absurd (e3.mp c) t2⟩
    by_cases t3 : ttk s = 20
    · rw [if_pos t3] at hpr
      obtain ⟨s1, e1, e2⟩ := bd hpr
      cases e2
      have tt : ttk s ≠ 25 ∧ ttk s ≠ 26 ∧ ttk s ≠ 27 := by omega
      have hop := hI.2.2.2.2.2.2.2 tt.2.2
      have h75' := h75 tt.2.2
      have IO := Iv_opn hI tt.2.1 tt.2.2
      have hpl := hI.2.2.2.1 tt.1 tt.2.2
      have pg := ph_good tt.2.2
      have po : tcs (opn b z s) ≤ ph (opn b z s) ∧ (ttk (opn b z s) ≠ 27 → top (opn b z s) = top s + 1) := by
        unfold opn
        split
        · have : ph (yfl s) = tpl s + 1 := ph_bad rfl
          exact ⟨by rw [tcs_yfl]; omega, fun w => absurd rfl w⟩
        · have A := Iv_adv (Iv_yoo hI (by omega)) tt.2.1 tt.2.2
          have pa := ph_good A.2.2
          have ca : tcs (adv b z (yoo s)) = tcs s := rfl
          have na : tnx (yoo s) = tnx s := rfl
          exact ⟨by omega, fun _ => rfl⟩
      have g := pr_ok _ _ (by omega) _ _ IO e1
      have gt := g.2.2.2.2.2.2
      have hp1 := phx g po.1
      refine ⟨fun c => absurd (e20.mpr t3) c, fun _ => c12_opens hB hI hC tg _ (fun N hN => ?_)⟩
      exact ih 9 (by omega) _ s1 (d - 1) N (fun M26 => _) hN IO po.1 (show 25 ≤ d - 1 + 5 by omega) (fun t1 => by have := po.2 t1; show 75 ≤ d - 1 + 7 * top (opn b z s) + 5; omega) e1 (fun N2 hN2 => c12_emit (s := ycl s1) hB (MX_cl hN2 (fun t1 => by have := (gt t1).1; have := po.2 (fun w => t1 (g.2.2.2.2.2.1 w)); omega)) (ph_301 (s := s1) hz g.1 hp1) (o := 10) (w := 0) rfl rfl _ hq)
    rw [if_neg t3] at hpr
    refine ⟨fun _ => ?_, fun c => absurd (e20.mp c) t3⟩
    by_cases t4 : ttk s = 16
    · rw [if_pos t4] at hpr
      obtain ⟨s1, e1, e2⟩ := bd hpr
      cases e2
      have tt : ttk s ≠ 25 ∧ ttk s ≠ 26 ∧ ttk s ≠ 27 := by omega
      have hop := hI.2.2.2.2.2.2.2 tt.2.2
      have h75' := h75 tt.2.2
      have IO := Iv_opn hI tt.2.1 tt.2.2
      have hpl := hI.2.2.2.1 tt.1 tt.2.2
      have pg := ph_good tt.2.2
      have po : tcs (opn b z s) ≤ ph (opn b z s) ∧ (ttk (opn b z s) ≠ 27 → top (opn b z s) = top s + 1) := by
        unfold opn
        split
        · have : ph (yfl s) = tpl s + 1 := ph_bad rfl
          exact ⟨by rw [tcs_yfl]; omega, fun w => absurd rfl w⟩
        · have A := Iv_adv (Iv_yoo hI (by omega)) tt.2.1 tt.2.2
          have pa := ph_good A.2.2
          have ca : tcs (adv b z (yoo s)) = tcs s := rfl
          have na : tnx (yoo s) = tnx s := rfl
          exact ⟨by omega, fun _ => rfl⟩
      have g := pr_ok _ _ (by omega) _ _ IO e1
      have gt := g.2.2.2.2.2.2
      have gx := Iv_xp (k := 17) g.1 (by omega)
      refine ⟨fun c => absurd (e16.mpr t4) c, fun _ => c12_opens hB hI hC tg _ (fun N hN => ?_)⟩
      refine ih 0 (by omega) _ s1 (d - 1) N (fun M15 => _) hN IO po.1 (show 25 ≤ d - 1 + 0 by omega) (fun t1 => by have := po.2 t1; show 75 ≤ d - 1 + 7 * top (opn b z s) + 0; omega) e1 (fun N2 hN2 => c12_need_ hB g.1 hN2 (k := 17) rfl (by decide) (by decide) _ (fun N3 hN3 => hq _ (MX_cl hN3 (fun t1 => ?_))))
      rw [gx.2.2.2.2.2.2.2]
      have h17 := gx.2.2.2.2.1 t1
      have h27 : ttk s1 ≠ 27 := by omega
      have := (gt h27).1
      have := po.2 (fun w => h27 (g.2.2.2.2.2.1 w))
      omega
    · rw [if_neg t4] at hpr
      cases hpr
      exact ⟨fun _ => c12_cannot hB hI hC _ hq, fun c => absurd (e16.mp c) t4⟩
  · have := pr_bad _ _ _ _ tb hpr0
    subst this
    exact hq M hC
theorem y12_all (hB : BM M0 t b z) : ∀ f, MI l M0 t b z f
  | 0 => fun w _ s s' d M q _ _ _ _ _ h _ => by cases h
  | f + 1 => fun w hw s s' d M q hC hI hp h25 h75 hpr hq => by
    have ih : MI l M0 t b z f := y12_all hB f
    match w, hw with
    | 0, _ => exact y12_0 ih hC hI hp h25 h75 hpr hq
    | 1, _ => exact y12_1 ih hB hC hI hp h25 h75 hpr hq
    | 2, _ => exact y12_2 ih hC hI hp h25 h75 hpr hq
    | 3, _ => exact y12_3 ih hB hC hI hp h25 h75 hpr hq
    | 4, _ => exact y12_4 ih hB hC hI hp h25 h75 hpr hq
    | 5, _ => exact y12_5 ih hC hI hp h25 h75 hpr hq
    | 6, _ => exact y12_6 ih hB hC hI hp h25 h75 hpr hq
    | 7, _ => exact y12_7 ih hC hI hp h25 h75 hpr hq
    | 8, _ => exact y12_8 ih hB hC hI hp h25 h75 hpr hq
    | 9, _ => exact y12_9 ih hB hC hI hp h25 h75 hpr hq
end S785
