/-! the class's reader follows the pure reading: every method -/
section S781
variable {l : Launch} {M N M0 : o_M} {b : Nat → Nat} {z : Nat} {s s1 s' : Sta}
theorem x3_0 {f : Nat} (ih : XI l M0 b z f) {d : Nat} {q : o_M → Prop} (hC : CX M0 M s) (hI : Iv b z s) (hp : tcs s ≤ ph s) (h27 : 27 ≤ d + 0) (h69 : ttk s ≠ 27 → 69 ≤ d + 7 * top s + 0) (hpr : pG b z (pr b z f) 0 s = some s') (hq : ∀ N, CX M0 N s' → q N) : K_X3_readOr l d [rV (some 23)] M q := by
  rw [pG_0] at hpr
  exact w_X3_readOr l d (by omega) M q (KX_seq ih (u := 2) (v := 1) (by omega) (by omega) (d := d) (e := d - 1) (lu := 1) (lv' := 0) rfl rfl (by omega) q hC hI hp h27 h69 hpr hq)
theorem x3_1 {f : Nat} (ih : XI l M0 b z f) (hB : BX M0 b z) {d i : Nat} {q : o_M → Prop} (hC : CX M0 M s) (hI : Iv b z s) (hp : tcs s ≤ ph s) (h27 : 27 ≤ d + 0) (h69 : ttk s ≠ 27 → 69 ≤ d + 7 * top s + 0) (hi3 : i ≤ 300) (hi : ttk s ≠ 27 → i ≤ tpl s) (hpr : pG b z (pr b z f) 1 s = some s') (hq : ∀ N, CX M0 N s' → q N) : H_X3_readOr_6 l d q (nI i) M := by
  have hz : z ≤ 300 := hB.2.2.2.2.2.2.1
  have e1 := CX_tk hI hC (k := 13) (by decide)
  rw [pG_1] at hpr
  by_cases t : ttk s = 13
  · rw [if_pos t] at hpr
    have hpl := hI.2.2.2.1 (by omega) (by omega)
    have hnz := hI.1
    have hit := hi (by omega)
    refine w_X3_readOr_6 l d q _ (by omega) M ⟨fun c => ?_, fun _ => ⟨fun c => absurd (e1.mpr t) c, fun _ => ?_⟩⟩
    · rw [show (300 : Int32) = nI 300 from rfl, nI_leI (by decide) (by omega)] at c; omega
    · rw [n1]
      exact KX_more ih hB (u := 2) (v := 1) (o := 2) (T := 13) (i := i) (by omega) (by omega) (d := d) (e := d - 1) (lu := 1) (lv' := 0) rfl rfl (by omega) q hC hI hp h27 h69 (by omega) hit cd_2 hpr hq
  · rw [if_neg t] at hpr
    cases hpr
    exact w_X3_readOr_6 l d q _ (by omega) M ⟨fun _ => hq M hC, fun _ => ⟨fun _ => hq M hC, fun c => absurd (e1.mp c) t⟩⟩
theorem x3_2 {f : Nat} (ih : XI l M0 b z f) {d : Nat} {q : o_M → Prop} (hC : CX M0 M s) (hI : Iv b z s) (hp : tcs s ≤ ph s) (h27 : 27 ≤ d + 1) (h69 : ttk s ≠ 27 → 69 ≤ d + 7 * top s + 1) (hpr : pG b z (pr b z f) 2 s = some s') (hq : ∀ N, CX M0 N s' → q N) : K_X3_readAnd l d [rV (some 23)] M q := by
  rw [pG_2] at hpr
  exact w_X3_readAnd l d (by omega) M q (KX_seq ih (u := 4) (v := 3) (by omega) (by omega) (d := d) (e := d - 1) (lu := 2) (lv' := 1) rfl rfl (by omega) q hC hI hp h27 h69 hpr hq)
theorem x3_3 {f : Nat} (ih : XI l M0 b z f) (hB : BX M0 b z) {d i : Nat} {q : o_M → Prop} (hC : CX M0 M s) (hI : Iv b z s) (hp : tcs s ≤ ph s) (h27 : 27 ≤ d + 1) (h69 : ttk s ≠ 27 → 69 ≤ d + 7 * top s + 1) (hi3 : i ≤ 300) (hi : ttk s ≠ 27 → i ≤ tpl s) (hpr : pG b z (pr b z f) 3 s = some s') (hq : ∀ N, CX M0 N s' → q N) : H_X3_readAnd_6 l d q (nI i) M := by
  have hz : z ≤ 300 := hB.2.2.2.2.2.2.1
  have e1 := CX_tk hI hC (k := 14) (by decide)
  rw [pG_3] at hpr
  by_cases t : ttk s = 14
  · rw [if_pos t] at hpr
    have hpl := hI.2.2.2.1 (by omega) (by omega)
    have hnz := hI.1
    have hit := hi (by omega)
    refine w_X3_readAnd_6 l d q _ (by omega) M ⟨fun c => ?_, fun _ => ⟨fun c => absurd (e1.mpr t) c, fun _ => ?_⟩⟩
    · rw [show (300 : Int32) = nI 300 from rfl, nI_leI (by decide) (by omega)] at c; omega
    · rw [n1]
      exact KX_more ih hB (u := 4) (v := 3) (o := 3) (T := 14) (i := i) (by omega) (by omega) (d := d) (e := d - 1) (lu := 2) (lv' := 1) rfl rfl (by omega) q hC hI hp h27 h69 (by omega) hit cd_3 hpr hq
  · rw [if_neg t] at hpr
    cases hpr
    exact w_X3_readAnd_6 l d q _ (by omega) M ⟨fun _ => hq M hC, fun _ => ⟨fun _ => hq M hC, fun c => absurd (e1.mp c) t⟩⟩
theorem x3_5 {f : Nat} (ih : XI l M0 b z f) {d : Nat} {q : o_M → Prop} (hC : CX M0 M s) (hI : Iv b z s) (hp : tcs s ≤ ph s) (h27 : 27 ≤ d + 3) (h69 : ttk s ≠ 27 → 69 ≤ d + 7 * top s + 3) (hpr : pG b z (pr b z f) 5 s = some s') (hq : ∀ N, CX M0 N s' → q N) : K_X3_readSum l d [rV (some 23)] M q := by
  rw [pG_5] at hpr
  exact w_X3_readSum l d (by omega) M q (KX_seq ih (u := 7) (v := 6) (by omega) (by omega) (d := d) (e := d - 1) (lu := 4) (lv' := 3) rfl rfl (by omega) q hC hI hp h27 h69 hpr hq)
theorem x3_6 {f : Nat} (ih : XI l M0 b z f) (hB : BX M0 b z) {d i : Nat} {q : o_M → Prop} (hC : CX M0 M s) (hI : Iv b z s) (hp : tcs s ≤ ph s) (h27 : 27 ≤ d + 3) (h69 : ttk s ≠ 27 → 69 ≤ d + 7 * top s + 3) (hi3 : i ≤ 300) (hi : ttk s ≠ 27 → i ≤ tpl s) (hpr : pG b z (pr b z f) 6 s = some s') (hq : ∀ N, CX M0 N s' → q N) : H_X3_readSum_6 l d q (nI i) M := by
  have hz : z ≤ 300 := hB.2.2.2.2.2.2.1
  have e1 := CX_tk hI hC (k := 19) (by decide)
  have e2 := CX_tk hI hC (k := 20) (by decide)
  rw [pG_6] at hpr
  by_cases t : ttk s = 19
  · rw [if_pos t] at hpr
    have hpl := hI.2.2.2.1 (by omega) (by omega)
    have hnz := hI.1
    have hit := hi (by omega)
    refine w_X3_readSum_6 l d q _ (by omega) M ⟨fun c => ?_, fun _ => ⟨fun _ => ?_, fun c => absurd (e1.mpr t) c⟩⟩
    · rw [show (300 : Int32) = nI 300 from rfl, nI_leI (by decide) (by omega)] at c; omega
    · rw [e1.mpr t, n1]
      exact KX_more ih hB (u := 7) (v := 6) (o := 7) (T := 19) (i := i) (by omega) (by omega) (d := d) (e := d - 1) (lu := 4) (lv' := 3) rfl rfl (by omega) q hC hI hp h27 h69 (by omega) hit cd_7 hpr hq
  rw [if_neg t] at hpr
  by_cases t2 : ttk s = 20
  · rw [if_pos t2] at hpr
    have hpl := hI.2.2.2.1 (by omega) (by omega)
    have hnz := hI.1
    have hit := hi (by omega)
    refine w_X3_readSum_6 l d q _ (by omega) M ⟨fun c => ?_, fun _ => ⟨fun c => absurd (e1.mp c) t, fun _ => ⟨fun c => absurd (e2.mpr t2) c, fun _ => ?_⟩⟩⟩
    · rw [show (300 : Int32) = nI 300 from rfl, nI_leI (by decide) (by omega)] at c; omega
    · rw [e2.mpr t2, n1]
      exact KX_more ih hB (u := 7) (v := 6) (o := 8) (T := 20) (i := i) (by omega) (by omega) (d := d) (e := d - 1) (lu := 4) (lv' := 3) rfl rfl (by omega) q hC hI hp h27 h69 (by omega) hit cd_8 hpr hq
  · rw [if_neg t2] at hpr
    cases hpr
    exact w_X3_readSum_6 l d q _ (by omega) M ⟨fun _ => hq M hC, fun _ => ⟨fun c => absurd (e1.mp c) t, fun _ => ⟨fun _ => hq M hC, fun c => absurd (e2.mp c) t2⟩⟩⟩
theorem x3_7 {f : Nat} (ih : XI l M0 b z f) {d : Nat} {q : o_M → Prop} (hC : CX M0 M s) (hI : Iv b z s) (hp : tcs s ≤ ph s) (h27 : 27 ≤ d + 4) (h69 : ttk s ≠ 27 → 69 ≤ d + 7 * top s + 4) (hpr : pG b z (pr b z f) 7 s = some s') (hq : ∀ N, CX M0 N s' → q N) : K_X3_readTerm l d [rV (some 23)] M q := by
  rw [pG_7] at hpr
  exact w_X3_readTerm l d (by omega) M q (KX_seq ih (u := 9) (v := 8) (by omega) (by omega) (d := d) (e := d - 1) (lu := 5) (lv' := 4) rfl rfl (by omega) q hC hI hp h27 h69 hpr hq)
theorem x3_8 {f : Nat} (ih : XI l M0 b z f) (hB : BX M0 b z) {d i : Nat} {q : o_M → Prop} (hC : CX M0 M s) (hI : Iv b z s) (hp : tcs s ≤ ph s) (h27 : 27 ≤ d + 4) (h69 : ttk s ≠ 27 → 69 ≤ d + 7 * top s + 4) (hi3 : i ≤ 300) (hi : ttk s ≠ 27 → i ≤ tpl s) (hpr : pG b z (pr b z f) 8 s = some s') (hq : ∀ N, CX M0 N s' → q N) : H_X3_readTerm_6 l d q (nI i) M := by
  have hz : z ≤ 300 := hB.2.2.2.2.2.2.1
  have e1 := CX_tk hI hC (k := 21) (by decide)
  rw [pG_8] at hpr
  by_cases t : ttk s = 21
  · rw [if_pos t] at hpr
    have hpl := hI.2.2.2.1 (by omega) (by omega)
    have hnz := hI.1
    have hit := hi (by omega)
    refine w_X3_readTerm_6 l d q _ (by omega) M ⟨fun c => ?_, fun _ => ⟨fun c => absurd (e1.mpr t) c, fun _ => ?_⟩⟩
    · rw [show (300 : Int32) = nI 300 from rfl, nI_leI (by decide) (by omega)] at c; omega
    · rw [n1]
      exact KX_more ih hB (u := 9) (v := 8) (o := 9) (T := 21) (i := i) (by omega) (by omega) (d := d) (e := d - 1) (lu := 5) (lv' := 4) rfl rfl (by omega) q hC hI hp h27 h69 (by omega) hit cd_9 hpr hq
  · rw [if_neg t] at hpr
    cases hpr
    exact w_X3_readTerm_6 l d q _ (by omega) M ⟨fun _ => hq M hC, fun _ => ⟨fun _ => hq M hC, fun c => absurd (e1.mp c) t⟩⟩
theorem x3_4 {f : Nat} (ih : XI l M0 b z f) (hB : BX M0 b z) {d : Nat} {q : o_M → Prop} (hC : CX M0 M s) (hI : Iv b z s) (hp : tcs s ≤ ph s) (h27 : 27 ≤ d + 2) (h69 : ttk s ≠ 27 → 69 ≤ d + 7 * top s + 2) (hpr : pG b z (pr b z f) 4 s = some s') (hq : ∀ N, CX M0 N s' → q N) : K_X3_readNot l d [rV (some 23)] M q := by
  have hz : z ≤ 300 := hB.2.2.2.2.2.2.1
  have e15 := CX_tk hI hC (k := 15) (by decide)
  rw [pG_4] at hpr
  by_cases t : ttk s = 15
  · rw [if_pos t] at hpr
    obtain ⟨s1, e1, e2⟩ := bd hpr
    cases e2
    have tt : ttk s ≠ 25 ∧ ttk s ≠ 26 ∧ ttk s ≠ 27 := by omega
    have hop := hI.2.2.2.2.2.2.2 tt.2.2
    have hpl := hI.2.2.2.1 tt.1 tt.2.2
    have pg := ph_good tt.2.2
    refine w_X3_readNot l d (by omega) M q ⟨fun c => absurd (e15.mpr t) c, fun _ => c3_open hB hI hC tt.2.2 _ (fun h6 N hN => ⟨fun _ => ?_, fun c => absurd rfl c⟩) (fun h6 N hN => ⟨fun c => absurd c (by decide), fun _ => ?_⟩)⟩
    · have eo : opn b z s = yfl s := if_pos h6
      rw [eo] at e1
      have := pr_bad _ _ _ _ rfl e1
      subst this
      exact hq N (CX_bad hN rfl rfl rfl)
    · have eo : opn b z s = adv b z (yoo s) := if_neg h6
      rw [eo] at e1
      have A := Iv_adv (Iv_yoo hI (by omega)) tt.2.1 tt.2.2
      have pa := ph_good A.2.2
      have ca : tcs (adv b z (yoo s)) = tcs s := rfl
      have na : tnx (yoo s) = tnx s := rfl
      have oa : top (adv b z (yoo s)) = top s + 1 := rfl
      have h69' := h69 tt.2.2
      have g := pr_ok _ _ (by omega) _ _ A.1 e1
      have g3 := g.2.2.1
      have g1 := g.1.1
      have g2 := g.1.2.1
      have gt := g.2.2.2.2.2.2
      exact ih 4 (by omega) _ s1 (d - 1) 0 N _ hN A.1 (by omega) (show 27 ≤ d - 1 + 2 by omega) (fun _ => show 69 ≤ d - 1 + 7 * top (adv b z (yoo s)) + 2 by omega) (by omega) (fun _ => by omega) e1 (fun N2 hN2 => w_X3_emitToken l _ _ _ (c3_emit hB (CX_cl hN2 (fun t1 => by have := (gt t1).1; omega)) (fun t1 => ⟨cd_4, by
        have := ph_good (s := s1) t1
        show tcs s1 < 300
        omega⟩) _ (fun N3 hN3 => hq N3 hN3)))
  · rw [if_neg t] at hpr
    obtain ⟨s1, e1, e2⟩ := bd hpr
    have g := pr_ok _ _ (by omega) _ _ hI e1
    refine w_X3_readNot l d (by omega) M q ⟨fun _ => ?_, fun c => absurd (e15.mp c) t⟩
    refine ih 5 (by omega) s s1 (d - 1) 0 M (fun M2 => _) hC hI hp (show 27 ≤ d - 1 + 3 by omega) (fun t1 => by have := h69 t1; show 69 ≤ d - 1 + 7 * top s + 3; omega) (by omega) (fun _ => by omega) e1 (fun N hN => ?_)
    have e22 := CX_tk g.1 hN (k := 22) (by decide)
    have e23 := CX_tk g.1 hN (k := 23) (by decide)
    have op : ∀ {T o : Nat}, (ttk s1 ≠ 25 ∧ ttk s1 ≠ 26 ∧ ttk s1 ≠ 27) → cod (-1 - nI T) (nI o) (nI 0) → (pr b z f 5 (adv b z s1)).bind (fun s2 => some (yem o 0 s2)) = some s' → K_X3_advance l [rV (some 23)] N (fun M4 => K_X3_readSum l (d - 1) [rV (some 23)] M4 (fun M5 => K_X3_emitToken l [rV (some 23), iV (nI T)] M5 (fun M6 => q M6))) := fun {T o} tt hx hb => by
      obtain ⟨s2, e3, e4⟩ := bd hb
      cases e4
      have A := Iv_adv g.1 tt.2.1 tt.2.2
      have hpl := g.1.2.2.2.1 tt.1 tt.2.2
      have pg := ph_good tt.2.2
      have pa := ph_good A.2.2
      have ca : tcs (adv b z s1) = tcs s1 := rfl
      have hp1 := phx g hp
      have k := pr_ok _ _ (by omega) _ _ A.1 e3
      have k3 := k.2.2.1
      have k1 := k.1.1
      have k2 := k.1.2.1
      refine c3_adv hB g.1 hN tt.2.2 _ (fun N2 hN2 => ?_)
      refine ih 5 (by omega) _ s2 (d - 1) 0 N2 (fun M5 => _) hN2 A.1 (by omega) (show 27 ≤ d - 1 + 3 by omega) (fun t1 => by have := dpx g h69 tt.2.2; show 69 ≤ d - 1 + 7 * top s1 + 3; omega) (by omega) (fun _ => by omega) e3 (fun N3 hN3 => w_X3_emitToken l _ _ _ (c3_emit hB hN3 (fun t1 => ⟨hx, ?_⟩) _ hq))
      have := ph_good (s := s2) t1
      omega
    by_cases t2 : ttk s1 = 22
    · rw [if_pos t2] at e2
      refine ⟨fun _ => ?_, fun c => absurd (e22.mpr t2) c⟩
      rw [e22.mpr t2]
      exact op (T := 22) (o := 5) (by omega) cd_5 e2
    rw [if_neg t2] at e2
    by_cases t3 : ttk s1 = 23
    · rw [if_pos t3] at e2
      refine ⟨fun c => absurd (e22.mp c) t2, fun _ => ⟨fun c => absurd (e23.mpr t3) c, fun _ => ?_⟩⟩
      rw [e23.mpr t3]
      exact op (T := 23) (o := 6) (by omega) cd_6 e2
    · rw [if_neg t3] at e2
      cases e2
      exact ⟨fun c => absurd (e22.mp c) t2, fun _ => ⟨fun _ => hq N hN, fun c => absurd (e23.mp c) t3⟩⟩
theorem x3_9 {f : Nat} (ih : XI l M0 b z f) (hB : BX M0 b z) {d : Nat} {q : o_M → Prop} (hC : CX M0 M s) (hI : Iv b z s) (hp : tcs s ≤ ph s) (h27 : 27 ≤ d + 5) (h69 : ttk s ≠ 27 → 69 ≤ d + 7 * top s + 5) (hpr : pG b z (pr b z f) 9 s = some s') (hq : ∀ N, CX M0 N s' → q N) : K_X3_readOne l d [rV (some 23)] M q := by
  have hz : z ≤ 300 := hB.2.2.2.2.2.2.1
  have hI27 := hI.2.2.1
  have e24 := CX_tk hI hC (k := 24) (by decide)
  have e20 := CX_tk hI hC (k := 20) (by decide)
  have e16 := CX_tk hI hC (k := 16) (by decide)
  have e10 : 10 ≤ mI M 23 6 ↔ 10 ≤ ttk s := by
    by_cases t : ttk s = 27
    · rw [(hC.2.2.1 t).1, show (10 : Int32) = nI 10 from rfl, nI_leI (by decide) (by decide)]; omega
    · rw [(hC.2.2.2 t).2.2.1, show (10 : Int32) = nI 10 from rfl, nI_leI (by decide) (by omega)]
  rw [pG_9] at hpr
  refine w_X3_readOne l d (by omega) M q ?_
  by_cases t : ttk s = 24
  · rw [if_pos t] at hpr
    cases hpr
    have hn := hI.2.2.2.2.2.1 t
    have hpl := hI.2.2.2.1 (by omega) (by omega)
    have hnz := hI.1
    have pg := ph_good (s := s) (by omega)
    refine ⟨fun c => absurd (e24.mpr t) c, fun _ => c3_emit hB hC (fun t1 => ⟨?_, by omega⟩) _ (fun N hN => c3_adv (s := yem 0 (tnu s) s) hB (Iv_yem hI) hN (by rw [ttk_yem]; omega) _ hq)⟩
    rw [(hC.2.2.2 t1).2.2.2.1 t]
    exact Or.inl ⟨rfl, rfl, _, hn, rfl⟩
  rw [if_neg t] at hpr
  refine ⟨fun _ => ?_, fun c => absurd (e24.mp c) t⟩
  by_cases t2 : ttk s < 10
  · rw [if_pos t2] at hpr
    cases hpr
    have hpl := hI.2.2.2.1 (by omega) (by omega)
    have hnz := hI.1
    have pg := ph_good (s := s) (by omega)
    refine ⟨fun c => ?_, fun _ => w_X3_emitToken l _ _ _ (c3_emit hB hC (fun t1 => ⟨?_, by omega⟩) _ (fun N hN => c3_adv (s := yem 1 (ttk s) s) hB (Iv_yem hI) hN (by rw [ttk_yem]; omega) _ hq))⟩
    · have := e10.mp c; omega
    · rw [(hC.2.2.2 t1).2.2.1]
      exact Or.inr (Or.inl ⟨rfl, _, t2, rfl, rfl⟩)
  rw [if_neg t2] at hpr
  refine ⟨fun _ => ?_, fun c => absurd (e10.mpr (by omega)) c⟩
  by_cases t3 : ttk s = 20
  · rw [if_pos t3] at hpr
    obtain ⟨s1, e1, e2⟩ := bd hpr
    cases e2
    have tt : ttk s ≠ 25 ∧ ttk s ≠ 26 ∧ ttk s ≠ 27 := by omega
    have hop := hI.2.2.2.2.2.2.2 tt.2.2
    have hpl := hI.2.2.2.1 tt.1 tt.2.2
    have pg := ph_good tt.2.2
    refine ⟨fun c => absurd (e20.mpr t3) c, fun _ => c3_open hB hI hC tt.2.2 _ (fun h6 N hN => ⟨fun _ => ?_, fun c => absurd rfl c⟩) (fun h6 N hN => ⟨fun c => absurd c (by decide), fun _ => ?_⟩)⟩
    · have eo : opn b z s = yfl s := if_pos h6
      rw [eo] at e1
      have := pr_bad _ _ _ _ rfl e1
      subst this
      have e16' := CX_tk (Iv_yfl hI) hN (k := 16) (by decide)
      exact ⟨fun _ => c3_fail hB (Iv_yfl hI) hN _ (fun N2 hN2 => hq N2 (CX_bad hN2 rfl rfl rfl)), fun c => absurd (e16'.mp c) (by rw [ttk_yfl]; decide)⟩
    · have eo : opn b z s = adv b z (yoo s) := if_neg h6
      rw [eo] at e1
      have A := Iv_adv (Iv_yoo hI (by omega)) tt.2.1 tt.2.2
      have pa := ph_good A.2.2
      have ca : tcs (adv b z (yoo s)) = tcs s := rfl
      have na : tnx (yoo s) = tnx s := rfl
      have oa : top (adv b z (yoo s)) = top s + 1 := rfl
      have h69' := h69 tt.2.2
      have g := pr_ok _ _ (by omega) _ _ A.1 e1
      have g3 := g.2.2.1
      have g1 := g.1.1
      have g2 := g.1.2.1
      have gt := g.2.2.2.2.2.2
      exact ih 9 (by omega) _ s1 (d - 1) 0 N _ hN A.1 (by omega) (show 27 ≤ d - 1 + 5 by omega) (fun _ => show 69 ≤ d - 1 + 7 * top (adv b z (yoo s)) + 5 by omega) (by omega) (fun _ => by omega) e1 (fun N2 hN2 => w_X3_emitToken l _ _ _ (c3_emit hB (CX_cl hN2 (fun t1 => by have := (gt t1).1; omega)) (fun t1 => ⟨cd_10, by
        have := ph_good (s := s1) t1
        show tcs s1 < 300
        omega⟩) _ (fun N3 hN3 => hq N3 hN3)))
  rw [if_neg t3] at hpr
  refine ⟨fun _ => ?_, fun c => absurd (e20.mp c) t3⟩
  by_cases t4 : ttk s = 16
  · rw [if_pos t4] at hpr
    obtain ⟨s1, e1, e2⟩ := bd hpr
    cases e2
    have tt : ttk s ≠ 25 ∧ ttk s ≠ 26 ∧ ttk s ≠ 27 := by omega
    have hop := hI.2.2.2.2.2.2.2 tt.2.2
    have hpl := hI.2.2.2.1 tt.1 tt.2.2
    have pg := ph_good tt.2.2
    refine ⟨fun c => absurd (e16.mpr t4) c, fun _ => c3_open hB hI hC tt.2.2 _ (fun h6 N hN => ⟨fun _ => ?_, fun c => absurd rfl c⟩) (fun h6 N hN => ⟨fun c => absurd c (by decide), fun _ => ?_⟩)⟩
    · have eo : opn b z s = yfl s := if_pos h6
      rw [eo] at e1
      have := pr_bad _ _ _ _ rfl e1
      subst this
      refine c3_fail hB (Iv_yfl hI) hN _ (fun N2 hN2 => hq N2 (CX_bad hN2 rfl ?_ ?_))
      · rw [xp_bad rfl (by decide)]; rfl
      · rw [xp_bad rfl (by decide)]; rfl
    · have eo : opn b z s = adv b z (yoo s) := if_neg h6
      rw [eo] at e1
      have A := Iv_adv (Iv_yoo hI (by omega)) tt.2.1 tt.2.2
      have pa := ph_good A.2.2
      have ca : tcs (adv b z (yoo s)) = tcs s := rfl
      have na : tnx (yoo s) = tnx s := rfl
      have oa : top (adv b z (yoo s)) = top s + 1 := rfl
      have h69' := h69 tt.2.2
      have g := pr_ok _ _ (by omega) _ _ A.1 e1
      have gx := Iv_xp (k := 17) g.1 (by omega)
      have gt := g.2.2.2.2.2.2
      refine ih 0 (by omega) _ s1 (d - 1) 0 N (fun M10 => _) hN A.1 (by omega) (show 27 ≤ d - 1 + 0 by omega) (fun _ => show 69 ≤ d - 1 + 7 * top (adv b z (yoo s)) + 0 by omega) (by omega) (fun _ => by omega) e1 (fun N2 hN2 => c3_expect hB g.1 hN2 (k := 17) (by decide) _ (fun N3 hN3 => hq _ (CX_cl hN3 (fun t1 => ?_))))
      rw [gx.2.2.2.2.2.2.2]
      have h17 := gx.2.2.2.2.1 t1
      have := (gt (by omega)).1
      omega
  · rw [if_neg t4] at hpr
    cases hpr
    exact ⟨fun _ => c3_fail hB hI hC _ hq, fun c => absurd (e16.mp c) t4⟩
theorem x3_all (hB : BX M0 b z) : ∀ f, XI l M0 b z f
  | 0 => fun w _ s s' d i M q _ _ _ _ _ _ _ h _ => by cases h
  | f + 1 => fun w hw s s' d i M q hC hI hp h27 h69 hi3 hi hpr hq => by
    have ih : XI l M0 b z f := x3_all hB f
    replace hpr : pG b z (pr b z f) w s = some s' := hpr
    match w, hw with
    | 0, _ => exact x3_0 ih hC hI hp h27 h69 hpr hq
    | 1, _ => exact x3_1 ih hB hC hI hp h27 h69 hi3 hi hpr hq
    | 2, _ => exact x3_2 ih hC hI hp h27 h69 hpr hq
    | 3, _ => exact x3_3 ih hB hC hI hp h27 h69 hi3 hi hpr hq
    | 4, _ => exact x3_4 ih hB hC hI hp h27 h69 hpr hq
    | 5, _ => exact x3_5 ih hC hI hp h27 h69 hpr hq
    | 6, _ => exact x3_6 ih hB hC hI hp h27 h69 hi3 hi hpr hq
    | 7, _ => exact x3_7 ih hC hI hp h27 h69 hpr hq
    | 8, _ => exact x3_8 ih hB hC hI hp h27 h69 hi3 hi hpr hq
    | 9, _ => exact x3_9 ih hB hC hI hp h27 h69 hpr hq
end S781
