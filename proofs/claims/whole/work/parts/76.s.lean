/-! the text: what the pure reading keeps -/
section S76
variable {b : Nat → Nat} {z : Nat} {s s1 s' : Sta}
def Iv (b : Nat → Nat) (z : Nat) (s : Sta) : Prop := tnx s ≤ z ∧ tpl s ≤ tnx s ∧ ttk s ≤ 27 ∧ (ttk s ≠ 25 → ttk s ≠ 27 → tpl s < tnx s) ∧ (ttk s = 25 → tnx s = z) ∧ (ttk s = 24 → tnu s < 100000) ∧ (ttk s ≠ 26 → ttk s ≠ 27 → ∀ i, i < tnx s → b i < 128) ∧ (ttk s ≠ 27 → top s ≤ 6)
theorem Iv_yfl (h : Iv b z s) : Iv b z (yfl s) := by
  unfold Iv at h ⊢
  simp only [tnx_yfl, tpl_yfl, ttk_yfl, tnu_yfl, top_yfl, tcs_yfl, tco_yfl, tcw_yfl, tnx_yem, tpl_yem, ttk_yem, tnu_yem, top_yem, tcs_yem, tco_yem, tcw_yem, tnx_ycl, tpl_ycl, ttk_ycl, tnu_ycl, top_ycl, tcs_ycl, tco_ycl, tcw_ycl, tnx_yoo, tpl_yoo, ttk_yoo, tnu_yoo, top_yoo, tcs_yoo, tco_yoo, tcw_yoo, tnx_adv, tpl_adv, ttk_adv, tnu_adv, top_adv, tcs_adv, tco_adv, tcw_adv]
  exact ⟨h.1, h.2.1, Nat.le_refl _, fun _ h => absurd rfl h, fun h => absurd h (by decide), fun h => absurd h (by decide), fun _ h => absurd rfl h, fun h => absurd rfl h⟩
theorem Iv_yem {o w : Nat} (h : Iv b z s) : Iv b z (yem o w s) := h
theorem Iv_ycl (h : Iv b z s) : Iv b z (ycl s) := by
  unfold Iv at h ⊢
  simp only [tnx_yfl, tpl_yfl, ttk_yfl, tnu_yfl, top_yfl, tcs_yfl, tco_yfl, tcw_yfl, tnx_yem, tpl_yem, ttk_yem, tnu_yem, top_yem, tcs_yem, tco_yem, tcw_yem, tnx_ycl, tpl_ycl, ttk_ycl, tnu_ycl, top_ycl, tcs_ycl, tco_ycl, tcw_ycl, tnx_yoo, tpl_yoo, ttk_yoo, tnu_yoo, top_yoo, tcs_yoo, tco_yoo, tcw_yoo, tnx_adv, tpl_adv, ttk_adv, tnu_adv, top_adv, tcs_adv, tco_adv, tcw_adv]
  exact ⟨h.1, h.2.1, h.2.2.1, h.2.2.2.1, h.2.2.2.2.1, h.2.2.2.2.2.1, h.2.2.2.2.2.2.1, fun t => by have := h.2.2.2.2.2.2.2 t; omega⟩
theorem Iv_yoo (h : Iv b z s) (h5 : top s < 6) : Iv b z (yoo s) := by
  unfold Iv at h ⊢
  simp only [tnx_yfl, tpl_yfl, ttk_yfl, tnu_yfl, top_yfl, tcs_yfl, tco_yfl, tcw_yfl, tnx_yem, tpl_yem, ttk_yem, tnu_yem, top_yem, tcs_yem, tco_yem, tcw_yem, tnx_ycl, tpl_ycl, ttk_ycl, tnu_ycl, top_ycl, tcs_ycl, tco_ycl, tcw_ycl, tnx_yoo, tpl_yoo, ttk_yoo, tnu_yoo, top_yoo, tcs_yoo, tco_yoo, tcw_yoo, tnx_adv, tpl_adv, ttk_adv, tnu_adv, top_adv, tcs_adv, tco_adv, tcw_adv]
  exact ⟨h.1, h.2.1, h.2.2.1, h.2.2.2.1, h.2.2.2.2.1, h.2.2.2.2.2.1, h.2.2.2.2.2.2.1, fun t => by omega⟩
/-- the next token: the reading goes on -/
theorem Iv_adv (h : Iv b z s) (t : ttk s ≠ 26) (t' : ttk s ≠ 27) : Iv b z (adv b z s) ∧ tnx s ≤ tpl (adv b z s) ∧ ttk (adv b z s) ≠ 27 := by
  obtain ⟨h1, h2, h3, h4, h5, h6, h7, h8⟩ := h
  obtain ⟨a1, a2, a3, a4, a5, a6, a7, a8⟩ := lex_ok (b := b) h1
  unfold Iv
  simp only [tnx_yfl, tpl_yfl, ttk_yfl, tnu_yfl, top_yfl, tcs_yfl, tco_yfl, tcw_yfl, tnx_yem, tpl_yem, ttk_yem, tnu_yem, top_yem, tcs_yem, tco_yem, tcw_yem, tnx_ycl, tpl_ycl, ttk_ycl, tnu_ycl, top_ycl, tcs_ycl, tco_ycl, tcw_ycl, tnx_yoo, tpl_yoo, ttk_yoo, tnu_yoo, top_yoo, tcs_yoo, tco_yoo, tcw_yoo, tnx_adv, tpl_adv, ttk_adv, tnu_adv, top_adv, tcs_adv, tco_adv, tcw_adv]
  exact ⟨⟨a3, a2, by omega, fun h _ => a5 h, a6, a7, fun h _ => a8 h (h7 t t'), fun _ => h8 t'⟩, a1, by omega⟩
/-- what may be emitted -/
def ph (s : Sta) : Nat := tpl s + (if ttk s = 27 then 1 else 0)
def Sg (co : Nat → Nat) (a b h k m : Nat) : Prop := ∃ ht : Nat → Nat, ht a = h ∧ ht b = k ∧ a ≤ b ∧ ∀ c, a ≤ c → c < b → ht c ≤ m ∧ hgt (nI (co c)) (ht c) = some (ht (c + 1))
theorem Sg_0 {co : Nat → Nat} {a h m : Nat} : Sg co a a h h m := ⟨fun _ => h, rfl, rfl, Nat.le_refl _, fun c h1 h2 => by omega⟩
theorem Sg_t {co : Nat → Nat} {a c d h k j m : Nat} (g1 : Sg co a c h k m) (g2 : Sg co c d k j m) : Sg co a d h j m := by
  obtain ⟨t1, a1, a2, a3, a4⟩ := g1
  obtain ⟨t2, b1, b2, b3, b4⟩ := g2
  refine ⟨fun x => if x ≤ c then t1 x else t2 x, ?_, ?_, by omega, fun x h1 h2 => ?_⟩
  · dsimp only; rw [if_pos a3]; exact a1
  · dsimp only
    by_cases e : d = c
    · rw [if_pos (by omega), e, a2, ← b2, e, b1]
    · rw [if_neg (by omega)]; exact b2
  · dsimp only
    by_cases e : x < c
    · rw [if_pos (by omega), if_pos (by omega)]; exact a4 x h1 e
    · have p1 : (if x ≤ c then t1 x else t2 x) = t2 x := by
        by_cases e2 : x = c
        · rw [if_pos (by omega), e2, a2, ← b1]
        · rw [if_neg (by omega)]
      have p2 : (if x + 1 ≤ c then t1 (x + 1) else t2 (x + 1)) = t2 (x + 1) := if_neg (by omega)
      rw [p1, p2]; exact b4 x (by omega) h2
theorem Sg_1 {co : Nat → Nat} {a h k m : Nat} (e : hgt (nI (co a)) h = some k) (hm : h ≤ m) : Sg co a (a + 1) h k m := by
  refine ⟨fun x => if x ≤ a then h else k, if_pos (Nat.le_refl _), if_neg (by omega), by omega, fun c h1 h2 => ?_⟩
  have : c = a := by omega
  subst this
  dsimp only
  rw [if_pos (Nat.le_refl _), if_neg (by omega)]
  exact ⟨hm, e⟩
theorem Sg_m {co : Nat → Nat} {a c h k m n : Nat} (g : Sg co a c h k m) (hm : m ≤ n) : Sg co a c h k n := by
  obtain ⟨t, a1, a2, a3, a4⟩ := g
  exact ⟨t, a1, a2, a3, fun x h1 h2 => ⟨Nat.le_trans (a4 x h1 h2).1 hm, (a4 x h1 h2).2⟩⟩
theorem Sg_c {co co' : Nat → Nat} {a c h k m : Nat} (g : Sg co a c h k m) (e : ∀ x, x < c → co' x = co x) : Sg co' a c h k m := by
  obtain ⟨t, a1, a2, a3, a4⟩ := g
  exact ⟨t, a1, a2, a3, fun x h1 h2 => by rw [e x h2]; exact a4 x h1 h2⟩
theorem hg_bin {o : Nat} (ho : o = 2 ∨ o = 3 ∨ o = 5 ∨ o = 6 ∨ o = 7 ∨ o = 8 ∨ o = 9) (h : Nat) : hgt (nI o) (h + 2) = some (h + 1) := by
  unfold hgt
  rcases ho with e | e | e | e | e | e | e <;> subst e <;> rw [if_neg (by decide), if_neg (by decide), if_pos (by omega)] <;> rfl
theorem hg_un {o : Nat} (ho : o = 4 ∨ o = 10) (h : Nat) : hgt (nI o) (h + 1) = some (h + 1) := by
  unfold hgt
  rcases ho with e | e <;> subst e <;> rw [if_neg (by decide), if_pos (by decide), if_pos (by omega)]
theorem hg_push {o : Nat} (ho : o = 0 ∨ o = 1) (h : Nat) : hgt (nI o) h = some (h + 1) := by
  unfold hgt
  rcases ho with e | e <;> subst e <;> rw [if_pos (by decide)]
/-- a piece of reading -/
def Ok (b : Nat → Nat) (z : Nat) (lp : Bool) (x : Nat) (s s' : Sta) : Prop :=
  Iv b z s' ∧ tpl s ≤ tpl s' ∧ tcs s' + ph s ≤ tcs s + ph s' ∧ tcs s ≤ tcs s' ∧ (∀ c, c < tcs s → tco s' c = tco s c) ∧ (ttk s = 27 → ttk s' = 27) ∧ (ttk s' ≠ 27 → top s' = top s ∧ ∀ h, Sg (tco s') (tcs s) (tcs s') (if lp then h + 1 else h) (h + 1) (h + (5 * (7 - top s) + 2) - x))
theorem Ok_r {x : Nat} (h : Iv b z s) : Ok b z true x s s := ⟨h, Nat.le_refl _, Nat.le_refl _, Nat.le_refl _, fun _ _ => rfl, fun h => h, fun _ => ⟨rfl, fun _ => Sg_0⟩⟩
theorem Ok_tt {x : Nat} {lp : Bool} (g : Ok b z lp x s s1) (k : Ok b z true x s1 s') : Ok b z lp x s s' := by
  obtain ⟨a1, a2, a3, a4, a5, a6, a7⟩ := g
  obtain ⟨b1, b2, b3, b4, b5, b6, b7⟩ := k
  refine ⟨b1, by omega, by omega, by omega, fun c hc => (b5 c (by omega)).trans (a5 c hc), fun h => b6 (a6 h), fun h => ?_⟩
  obtain ⟨c1, c2⟩ := b7 h
  have hn : ttk s1 ≠ 27 := fun e => h (b6 e)
  obtain ⟨d1, d2⟩ := a7 hn
  refine ⟨c1.trans d1, fun h => Sg_t (Sg_c (d2 h) (fun x hx => b5 x hx)) ?_⟩
  have := c2 h
  rw [d1] at this
  exact this
theorem Ok_up {x : Nat} (g : Ok b z false (x + 1) s s1) : Ok b z false x s s1 := by
  obtain ⟨a1, a2, a3, a4, a5, a6, a7⟩ := g
  exact ⟨a1, a2, a3, a4, a5, a6, fun h => ⟨(a7 h).1, fun k => Sg_m ((a7 h).2 k) (by omega)⟩⟩
theorem Ok_seq {x : Nat} (g : Ok b z false (x + 1) s s1) (k : Ok b z true x s1 s') : Ok b z false x s s' := Ok_tt (Ok_up g) k
theorem ph_good (h : ttk s ≠ 27) : ph s = tpl s := by unfold ph; rw [if_neg h]; rfl
theorem ph_bad (h : ttk s = 27) : ph s = tpl s + 1 := by unfold ph; rw [if_pos h]
theorem yup_o {g : Nat → Nat} {i x c : Nat} (h : c < i) : yup g i x c = g c := by unfold yup; rw [if_neg (by omega)]
theorem yup_i {g : Nat → Nat} {i x : Nat} : yup g i x i = x := if_pos rfl
/-- a second operand and its step -/
theorem Ok_bin {x o : Nat} (hI : Iv b z s) (hx : x ≤ 4) (t : ttk s ≠ 25 ∧ ttk s ≠ 26 ∧ ttk s ≠ 27) (ho : o = 2 ∨ o = 3 ∨ o = 5 ∨ o = 6 ∨ o = 7 ∨ o = 8 ∨ o = 9) (g : Ok b z false (x + 1) (adv b z s) s1) : Ok b z true x s (yem o 0 s1) := by
  have A := Iv_adv hI t.2.1 t.2.2
  have hp := hI.2.2.2.1 t.1 t.2.2
  have hop := hI.2.2.2.2.2.2.2 t.2.2
  have e1 := ph_good t.2.2
  have e2 := ph_good A.2.2
  obtain ⟨a1, a2, a3, a4, a5, a6, a7⟩ := g
  have e3 : ph (yem o 0 s1) = ph s1 := rfl
  have c0 : tcs (adv b z s) = tcs s := rfl
  have o0 : top (adv b z s) = top s := rfl
  have q0 : tco (adv b z s) = tco s := rfl
  have p0 : tpl (yem o 0 s1) = tpl s1 := rfl
  have c1 : tcs (yem o 0 s1) = tcs s1 + 1 := rfl
  have q1 : tco (yem o 0 s1) = yup (tco s1) (tcs s1) o := rfl
  refine ⟨a1, by rw [p0]; omega, by rw [e3, c1]; omega, by rw [c1]; omega, fun c hc => ?_, fun h => absurd h t.2.2, fun h => ?_⟩
  · rw [q1, yup_o (by omega), a5 c hc, q0]
  · obtain ⟨b1, b2⟩ := a7 h
    refine ⟨b1, fun h => ?_⟩
    have := b2 (h + 1)
    rw [c0, o0] at this
    rw [c1, q1]
    have this : Sg (yup (tco s1) (tcs s1) o) (tcs s) (tcs s1) (h + 1) (h + 2) (h + 1 + (5 * (7 - top s) + 2) - (x + 1)) := Sg_c this (fun y hy => yup_o hy)
    exact Sg_t (Sg_m this (by omega)) (Sg_1 (by rw [yup_i]; exact hg_bin ho h) (by omega))
/-- an open one and its step -/
theorem Ok_un {x o : Nat} (hI : Iv b z s) (hx : x ≤ 5) (t : ttk s ≠ 25 ∧ ttk s ≠ 26 ∧ ttk s ≠ 27) (ho : o = 4 ∨ o = 10) (g : Ok b z false x (opn b z s) s1) : Ok b z false x s (yem o 0 (ycl s1)) := by
  have hp := hI.2.2.2.1 t.1 t.2.2
  have hop := hI.2.2.2.2.2.2.2 t.2.2
  have e1 := ph_good t.2.2
  obtain ⟨a1, a2, a3, a4, a5, a6, a7⟩ := g
  have e3 : ph (yem o 0 (ycl s1)) = ph s1 := rfl
  have p0 : tpl (yem o 0 (ycl s1)) = tpl s1 := rfl
  have c1 : tcs (yem o 0 (ycl s1)) = tcs s1 + 1 := rfl
  have q1 : tco (yem o 0 (ycl s1)) = yup (tco s1) (tcs s1) o := rfl
  by_cases h6 : 6 ≤ top s
  · have eo : opn b z s = yfl s := if_pos h6
    rw [eo] at a2 a3 a4 a5 a6 a7
    have f1 : ph (yfl s) = tpl s + 1 := ph_bad rfl
    have f2 : tpl (yfl s) = tpl s := rfl
    have f3 : tcs (yfl s) = tcs s := rfl
    have f4 : tco (yfl s) = tco s := rfl
    have hb := a6 rfl
    refine ⟨Iv_yem (Iv_ycl a1), by rw [p0]; omega, by rw [e3, c1]; omega, by rw [c1]; omega, fun c hc => ?_, fun h => absurd h t.2.2, fun h => absurd hb h⟩
    rw [q1, yup_o (by omega), a5 c (by omega), f4]
  · have eo : opn b z s = adv b z (yoo s) := if_neg h6
    rw [eo] at a2 a3 a4 a5 a6 a7
    have A := Iv_adv (Iv_yoo hI (by omega)) t.2.1 t.2.2
    have e2 := ph_good A.2.2
    have f2 : tnx (yoo s) = tnx s := rfl
    have c0 : tcs (adv b z (yoo s)) = tcs s := rfl
    have o0 : top (adv b z (yoo s)) = top s + 1 := rfl
    have q0 : tco (adv b z (yoo s)) = tco s := rfl
    refine ⟨Iv_yem (Iv_ycl a1), by rw [p0]; omega, by rw [e3, c1]; omega, by rw [c1]; omega, fun c hc => ?_, fun h => absurd h t.2.2, fun h => ?_⟩
    · rw [q1, yup_o (by omega), a5 c (by omega), q0]
    · obtain ⟨b1, b2⟩ := a7 h
      refine ⟨by show top s1 - 1 = _; omega, fun h => ?_⟩
      have := b2 h
      rw [c0, o0] at this
      rw [c1, q1]
      have this : Sg (yup (tco s1) (tcs s1) o) (tcs s) (tcs s1) h (h + 1) (h + (5 * (7 - (top s + 1)) + 2) - x) := Sg_c this (fun y hy => yup_o hy)
      exact Sg_t (Sg_m this (by omega)) (Sg_1 (by rw [yup_i]; exact hg_un ho h) (by omega))
theorem Iv_xp {k : Nat} (hI : Iv b z s) (hk : k ≤ 25) : Iv b z (xp b z k s) ∧ tpl s ≤ tpl (xp b z k s) ∧ ph s ≤ ph (xp b z k s) ∧ (k < 25 → ttk (xp b z k s) ≠ 27 → tpl s < tpl (xp b z k s)) ∧ (ttk (xp b z k s) ≠ 27 → ttk s = k) ∧ tcs (xp b z k s) = tcs s ∧ tco (xp b z k s) = tco s ∧ top (xp b z k s) = top s := by
  unfold xp
  by_cases h : ttk s = k
  · rw [if_pos h]
    have A := Iv_adv hI (by omega) (by omega)
    have e1 := ph_good (s := s) (by omega)
    have e2 := ph_good A.2.2
    have h1 := hI.2.1
    refine ⟨A.1, by omega, by omega, fun hk _ => ?_, fun _ => h, rfl, rfl, rfl⟩
    have := hI.2.2.2.1 (by omega) (by omega)
    omega
  · rw [if_neg h]
    refine ⟨Iv_yfl hI, Nat.le_refl _, ?_, fun _ h => absurd rfl h, fun h => absurd rfl h, rfl, rfl, rfl⟩
    have : ph (yfl s) = tpl s + 1 := ph_bad rfl
    unfold ph at this ⊢
    split <;> omega
theorem xp_bad {k : Nat} (t : ttk s = 27) (hk : k < 27) : xp b z k s = s := by
  unfold xp
  rw [if_neg (by omega)]
  unfold yfl; rw [← t]; rfl
/-- what is in brackets -/
theorem Ok_par (hI : Iv b z s) (t : ttk s = 16) (g : Ok b z false 0 (opn b z s) s1) : Ok b z false 5 s (ycl (xp b z 17 s1)) := by
  have hp := hI.2.2.2.1 (by omega) (by omega)
  have hop := hI.2.2.2.2.2.2.2 (by omega)
  have e1 := ph_good (s := s) (by omega)
  obtain ⟨a1, a2, a3, a4, a5, a6, a7⟩ := g
  obtain ⟨x1, x2, x3, x4, x5, x6, x7, x8⟩ := Iv_xp (k := 17) a1 (by omega)
  have e3 : ph (ycl (xp b z 17 s1)) = ph (xp b z 17 s1) := rfl
  have p0 : tpl (ycl (xp b z 17 s1)) = tpl (xp b z 17 s1) := rfl
  have c1 : tcs (ycl (xp b z 17 s1)) = tcs (xp b z 17 s1) := rfl
  have q1 : tco (ycl (xp b z 17 s1)) = tco (xp b z 17 s1) := rfl
  by_cases h6 : 6 ≤ top s
  · have eo : opn b z s = yfl s := if_pos h6
    rw [eo] at a2 a3 a4 a5 a6 a7
    have f1 : ph (yfl s) = tpl s + 1 := ph_bad rfl
    have f2 : tpl (yfl s) = tpl s := rfl
    have f3 : tcs (yfl s) = tcs s := rfl
    have f4 : tco (yfl s) = tco s := rfl
    have hb := a6 rfl
    have eb : ttk (xp b z 17 s1) = 27 := by rw [xp_bad hb (by omega)]; exact hb
    refine ⟨Iv_ycl x1, by rw [p0]; omega, by rw [e3, c1]; omega, by rw [c1]; omega, fun c hc => ?_, fun h => by omega, fun h => absurd eb h⟩
    rw [q1, x7, a5 c (by omega), f4]
  · have eo : opn b z s = adv b z (yoo s) := if_neg h6
    rw [eo] at a2 a3 a4 a5 a6 a7
    have A := Iv_adv (Iv_yoo hI (by omega)) (by rw [ttk_yoo]; omega) (by rw [ttk_yoo]; omega)
    have e2 := ph_good A.2.2
    have f2 : tnx (yoo s) = tnx s := rfl
    have c0 : tcs (adv b z (yoo s)) = tcs s := rfl
    have o0 : top (adv b z (yoo s)) = top s + 1 := rfl
    have q0 : tco (adv b z (yoo s)) = tco s := rfl
    refine ⟨Iv_ycl x1, by rw [p0]; omega, by rw [e3, c1]; omega, by rw [c1]; omega, fun c hc => ?_, fun h => by omega, fun h => ?_⟩
    · rw [q1, x7, a5 c (by omega), q0]
    · have h' : ttk (xp b z 17 s1) ≠ 27 := h
      have h1 := x5 h'
      obtain ⟨b1, b2⟩ := a7 (by omega)
      refine ⟨by rw [top_ycl, x8]; omega, fun h => ?_⟩
      have := b2 h
      rw [c0, o0] at this
      rw [c1, q1, x6, x7]
      exact Sg_m this (by omega)
theorem Ok_push {o w : Nat} (hI : Iv b z s) (t : ttk s ≠ 25 ∧ ttk s ≠ 26 ∧ ttk s ≠ 27) (ho : o = 0 ∨ o = 1) : Ok b z false 5 s (adv b z (yem o w s)) := by
  have hp := hI.2.2.2.1 t.1 t.2.2
  have hop := hI.2.2.2.2.2.2.2 t.2.2
  have e1 := ph_good t.2.2
  have A := Iv_adv (Iv_yem (o := o) (w := w) hI) t.2.1 t.2.2
  have e2 := ph_good A.2.2
  have f2 : tnx (yem o w s) = tnx s := rfl
  have c1 : tcs (adv b z (yem o w s)) = tcs s + 1 := rfl
  have q1 : tco (adv b z (yem o w s)) = yup (tco s) (tcs s) o := rfl
  refine ⟨A.1, by omega, by omega, by omega, fun c hc => ?_, fun h => absurd h t.2.2, fun _ => ⟨rfl, fun h => ?_⟩⟩
  · rw [q1, yup_o hc]
  · rw [c1, q1]
    show Sg _ _ _ h _ _
    exact Sg_1 (by rw [yup_i]; exact hg_push ho h) (by omega)
theorem Ok_fail {x : Nat} {lp : Bool} (hI : Iv b z s) : Ok b z lp x s (yfl s) := by
  refine ⟨Iv_yfl hI, Nat.le_refl _, ?_, Nat.le_refl _, fun _ _ => rfl, fun _ => rfl, fun h => absurd rfl h⟩
  have : ph (yfl s) = tpl s + 1 := ph_bad rfl
  have : tcs (yfl s) = tcs s := rfl
  unfold ph at *
  split <;> omega
theorem Iv_opn (hI : Iv b z s) (t : ttk s ≠ 26) (t' : ttk s ≠ 27) : Iv b z (opn b z s) := by
  unfold opn
  split
  · exact Iv_yfl hI
  · exact (Iv_adv (Iv_yoo hI (by omega)) t t').1
/-- which of the readings is a loop, and how far down it is -/
def wlp (w : Nat) : Bool := w == 1 || w == 3 || w == 6 || w == 8
def wlv (w : Nat) : Nat := if w ≤ 1 then 0 else if w ≤ 3 then 1 else if w = 4 then 2 else if w ≤ 6 then 3 else if w ≤ 8 then 4 else 5
theorem pr_ok : ∀ (f w : Nat), w ≤ 9 → ∀ (s s' : Sta), Iv b z s → pr b z f w s = some s' → Ok b z (wlp w) (wlv w) s s'
  | 0, _, _, _, _, _, h => by cases h
  | f + 1, w, hw, s, s', hI, h => by
    have ih : ∀ w, w ≤ 9 → ∀ s s', Iv b z s → pr b z f w s = some s' → Ok b z (wlp w) (wlv w) s s' := fun w hw => pr_ok f w hw
    replace h : pG b z (pr b z f) w s = some s' := h
    unfold pG at h
    by_cases w0 : w = 0
    · subst w0
      rw [if_pos rfl] at h
      obtain ⟨s1, e1, e2⟩ := bd h
      have g1 := ih 2 (by omega) _ _ hI e1
      exact Ok_seq g1 (ih 1 (by omega) _ _ g1.1 e2)
    rw [if_neg w0] at h
    by_cases w1 : w = 1
    · subst w1
      rw [if_pos rfl] at h
      by_cases t : ttk s = 13
      · rw [if_pos t] at h
        obtain ⟨s1, e1, e2⟩ := bd h
        have g1 := ih 2 (by omega) _ _ (Iv_adv hI (by omega) (by omega)).1 e1
        exact Ok_tt (Ok_bin (o := 2) hI (by decide) (by omega) (by omega) g1) (ih 1 (by omega) _ _ (Iv_yem g1.1) e2)
      · rw [if_neg t] at h
        cases h
        exact Ok_r hI
    rw [if_neg w1] at h
    by_cases w2 : w = 2
    · subst w2
      rw [if_pos rfl] at h
      obtain ⟨s1, e1, e2⟩ := bd h
      have g1 := ih 4 (by omega) _ _ hI e1
      exact Ok_seq g1 (ih 3 (by omega) _ _ g1.1 e2)
    rw [if_neg w2] at h
    by_cases w3 : w = 3
    · subst w3
      rw [if_pos rfl] at h
      by_cases t : ttk s = 14
      · rw [if_pos t] at h
        obtain ⟨s1, e1, e2⟩ := bd h
        have g1 := ih 4 (by omega) _ _ (Iv_adv hI (by omega) (by omega)).1 e1
        exact Ok_tt (Ok_bin (o := 3) hI (by decide) (by omega) (by omega) g1) (ih 3 (by omega) _ _ (Iv_yem g1.1) e2)
      · rw [if_neg t] at h
        cases h
        exact Ok_r hI
    rw [if_neg w3] at h
    by_cases w4 : w = 4
    · subst w4
      rw [if_pos rfl] at h
      by_cases t : ttk s = 15
      · rw [if_pos t] at h
        obtain ⟨s1, e1, e2⟩ := bd h
        cases e2
        have g1 := ih 4 (by omega) _ _ (Iv_opn hI (by omega) (by omega)) e1
        exact Ok_un hI (by decide) (by omega) (by omega) g1
      · rw [if_neg t] at h
        obtain ⟨s1, e1, e2⟩ := bd h
        have g1 := ih 5 (by omega) _ _ hI e1
        by_cases t1 : ttk s1 = 22
        · rw [if_pos t1] at e2
          obtain ⟨s2, e3, e4⟩ := bd e2
          cases e4
          exact Ok_seq g1 (Ok_bin g1.1 (by decide) (by omega) (by omega) (ih 5 (by omega) _ _ (Iv_adv g1.1 (by omega) (by omega)).1 e3))
        rw [if_neg t1] at e2
        by_cases t2 : ttk s1 = 23
        · rw [if_pos t2] at e2
          obtain ⟨s2, e3, e4⟩ := bd e2
          cases e4
          exact Ok_seq g1 (Ok_bin g1.1 (by decide) (by omega) (by omega) (ih 5 (by omega) _ _ (Iv_adv g1.1 (by omega) (by omega)).1 e3))
        rw [if_neg t2] at e2
        cases e2
        exact Ok_up g1
    rw [if_neg w4] at h
    by_cases w5 : w = 5
    · subst w5
      rw [if_pos rfl] at h
      obtain ⟨s1, e1, e2⟩ := bd h
      have g1 := ih 7 (by omega) _ _ hI e1
      exact Ok_seq g1 (ih 6 (by omega) _ _ g1.1 e2)
    rw [if_neg w5] at h
    by_cases w6 : w = 6
    · subst w6
      rw [if_pos rfl] at h
      by_cases t : ttk s = 19
      · rw [if_pos t] at h
        obtain ⟨s1, e1, e2⟩ := bd h
        have g1 := ih 7 (by omega) _ _ (Iv_adv hI (by omega) (by omega)).1 e1
        exact Ok_tt (Ok_bin (o := 7) hI (by decide) (by omega) (by omega) g1) (ih 6 (by omega) _ _ (Iv_yem g1.1) e2)
      rw [if_neg t] at h
      by_cases t : ttk s = 20
      · rw [if_pos t] at h
        obtain ⟨s1, e1, e2⟩ := bd h
        have g1 := ih 7 (by omega) _ _ (Iv_adv hI (by omega) (by omega)).1 e1
        exact Ok_tt (Ok_bin (o := 8) hI (by decide) (by omega) (by omega) g1) (ih 6 (by omega) _ _ (Iv_yem g1.1) e2)
      · rw [if_neg t] at h
        cases h
        exact Ok_r hI
    rw [if_neg w6] at h
    by_cases w7 : w = 7
    · subst w7
      rw [if_pos rfl] at h
      obtain ⟨s1, e1, e2⟩ := bd h
      have g1 := ih 9 (by omega) _ _ hI e1
      exact Ok_seq g1 (ih 8 (by omega) _ _ g1.1 e2)
    rw [if_neg w7] at h
    by_cases w8 : w = 8
    · subst w8
      rw [if_pos rfl] at h
      by_cases t : ttk s = 21
      · rw [if_pos t] at h
        obtain ⟨s1, e1, e2⟩ := bd h
        have g1 := ih 9 (by omega) _ _ (Iv_adv hI (by omega) (by omega)).1 e1
        exact Ok_tt (Ok_bin (o := 9) hI (by decide) (by omega) (by omega) g1) (ih 8 (by omega) _ _ (Iv_yem g1.1) e2)
      · rw [if_neg t] at h
        cases h
        exact Ok_r hI
    rw [if_neg w8] at h
    have w9 : w = 9 := by omega
    subst w9
    by_cases t : ttk s = 24
    · rw [if_pos t] at h
      cases h
      exact Ok_push hI (by omega) (by omega)
    rw [if_neg t] at h
    by_cases t : ttk s < 10
    · rw [if_pos t] at h
      cases h
      exact Ok_push hI (by omega) (by omega)
    rw [if_neg t] at h
    by_cases t : ttk s = 20
    · rw [if_pos t] at h
      obtain ⟨s1, e1, e2⟩ := bd h
      cases e2
      exact Ok_un hI (by decide) (by omega) (by omega) (ih 9 (by omega) _ _ (Iv_opn hI (by omega) (by omega)) e1)
    rw [if_neg t] at h
    by_cases t : ttk s = 16
    · rw [if_pos t] at h
      obtain ⟨s1, e1, e2⟩ := bd h
      cases e2
      exact Ok_par hI t (ih 0 (by omega) _ _ (Iv_opn hI (by omega) (by omega)) e1)
    rw [if_neg t] at h
    cases h
    exact Ok_fail hI
/-- what is still to read -/
def lft (z n : Nat) (s : Sta) : Prop := ttk s ≠ 27 → z + 1 - tpl s ≤ n
theorem lft_m {n : Nat} {lp : Bool} {x : Nat} (g : Ok b z lp x s s1) (h : lft z n s) : lft z n s1 := fun t => by
  have := h (fun e => t (g.2.2.2.2.2.1 e))
  have := g.2.1
  omega
theorem lft_adv {n : Nat} (hI : Iv b z s) (t : ttk s ≠ 25 ∧ ttk s ≠ 26 ∧ ttk s ≠ 27) (h : lft z (n + 1) s) : lft z n (adv b z s) := fun _ => by
  have A := Iv_adv hI t.2.1 t.2.2
  have := hI.2.2.2.1 t.1 t.2.2
  have := hI.1
  have := h t.2.2
  omega
theorem lft_opn {n : Nat} (hI : Iv b z s) (t : ttk s ≠ 25 ∧ ttk s ≠ 26 ∧ ttk s ≠ 27) (h : lft z (n + 1) s) : lft z n (opn b z s) := by
  unfold opn
  split
  · exact fun t => absurd rfl t
  · exact lft_adv (s := yoo s) (Iv_yoo hI (by omega)) t h
theorem tot_s {u v w : Nat} (hp : ∀ P s, pG b z P w s = (P u s).bind (P v)) (h1 : Tot b z u s) (h2 : ∀ f s1, pr b z f u s = some s1 → Tot b z v s1) : Tot b z w s := by
  obtain ⟨f, s1, e1⟩ := h1
  obtain ⟨g, s2, e2⟩ := h2 f s1 e1
  refine ⟨max f g + 1, s2, ?_⟩
  show pG b z (pr b z (max f g)) w s = _
  rw [hp, pr_le (Nat.le_max_left f g) e1]
  exact pr_le (Nat.le_max_right f g) e2
theorem tot_l {u v o w : Nat} (hp : ∀ P, pG b z P w s = (P u (adv b z s)).bind (fun s1 => P v (yem o 0 s1))) (h1 : Tot b z u (adv b z s)) (h2 : ∀ f s1, pr b z f u (adv b z s) = some s1 → Tot b z v (yem o 0 s1)) : Tot b z w s := by
  obtain ⟨f, s1, e1⟩ := h1
  obtain ⟨g, s2, e2⟩ := h2 f s1 e1
  refine ⟨max f g + 1, s2, ?_⟩
  show pG b z (pr b z (max f g)) w s = _
  rw [hp, pr_le (Nat.le_max_left f g) e1]
  exact pr_le (Nat.le_max_right f g) e2
theorem tot_1 {u w : Nat} {s0 : Sta} {g : Sta → Sta} (hp : ∀ P, pG b z P w s = (P u s0).bind (fun s1 => some (g s1))) (h1 : Tot b z u s0) : Tot b z w s := by
  obtain ⟨f, s1, e1⟩ := h1
  refine ⟨f + 1, g s1, ?_⟩
  show pG b z (pr b z f) w s = _
  rw [hp, e1]; rfl
theorem tot_0 {w : Nat} (hp : ∀ P, pG b z P w s = some s1) : Tot b z w s := ⟨1, s1, hp _⟩
theorem tot : ∀ n (s : Sta), Iv b z s → lft z n s → ∀ w, w ≤ 9 → Tot b z w s
  | 0, s, hI, h, w, _ => by
    by_cases t : ttk s = 27
    · exact pr_bad1 s t w
    · have := h t; have := hI.1; have := hI.2.1; omega
  | n + 1, s, hI, h, w, hw => by
    have ih : ∀ (s : Sta), Iv b z s → lft z n s → ∀ w, w ≤ 9 → Tot b z w s := tot n
    have T9 : ∀ s, Iv b z s → lft z (n + 1) s → Tot b z 9 s := fun s hI h => by
      by_cases t1 : ttk s = 24
      · exact tot_0 (fun P => by rw [pG_9, if_pos t1])
      by_cases t2 : ttk s < 10
      · exact tot_0 (fun P => by rw [pG_9, if_neg t1, if_pos t2])
      by_cases t3 : ttk s = 20
      · exact tot_1 (fun P => by rw [pG_9, if_neg t1, if_neg t2, if_pos t3]) (ih _ (Iv_opn hI (by omega) (by omega)) (lft_opn hI (by omega) h) 9 (by omega))
      by_cases t4 : ttk s = 16
      · exact tot_1 (fun P => by rw [pG_9, if_neg t1, if_neg t2, if_neg t3, if_pos t4]) (ih _ (Iv_opn hI (by omega) (by omega)) (lft_opn hI (by omega) h) 0 (by omega))
      · exact tot_0 (fun P => by rw [pG_9, if_neg t1, if_neg t2, if_neg t3, if_neg t4])
    have L : ∀ {u v o w : Nat}, u ≤ 9 → v ≤ 9 → ∀ s, Iv b z s → lft z (n + 1) s → (ttk s ≠ 25 ∧ ttk s ≠ 26 ∧ ttk s ≠ 27) → (∀ P, pG b z P w s = (P u (adv b z s)).bind (fun s1 => P v (yem o 0 s1))) → Tot b z w s := fun hu hv s hI h t hp => tot_l hp (ih _ (Iv_adv hI t.2.1 t.2.2).1 (lft_adv hI t h) _ hu) (fun f s1 e => by
      have g := pr_ok _ _ hu _ _ (Iv_adv hI t.2.1 t.2.2).1 e
      exact ih _ (Iv_yem g.1) (show lft z n (yem _ 0 s1) from lft_m (s1 := s1) g (lft_adv hI t h)) _ hv)
    have T8 : ∀ s, Iv b z s → lft z (n + 1) s → Tot b z 8 s := fun s hI h => by
      by_cases t1 : ttk s = 21
      · exact L (u := 9) (v := 8) (o := 9) (by omega) (by omega) s hI h (by omega) (fun P => by rw [pG_8, if_pos t1])
      · exact tot_0 (fun P => by rw [pG_8, if_neg t1])
    have T7 : ∀ s, Iv b z s → lft z (n + 1) s → Tot b z 7 s := fun s hI h => tot_s (u := 9) (v := 8) (fun P s => rfl) (T9 s hI h) (fun f s1 e => by
      have g := pr_ok _ _ (by omega) _ _ hI e
      exact T8 s1 g.1 (lft_m g h))
    have T6 : ∀ s, Iv b z s → lft z (n + 1) s → Tot b z 6 s := fun s hI h => by
      by_cases t1 : ttk s = 19
      · exact L (u := 7) (v := 6) (o := 7) (by omega) (by omega) s hI h (by omega) (fun P => by rw [pG_6, if_pos t1])
      by_cases t2 : ttk s = 20
      · exact L (u := 7) (v := 6) (o := 8) (by omega) (by omega) s hI h (by omega) (fun P => by rw [pG_6, if_neg t1, if_pos t2])
      · exact tot_0 (fun P => by rw [pG_6, if_neg t1, if_neg t2])
    have T5 : ∀ s, Iv b z s → lft z (n + 1) s → Tot b z 5 s := fun s hI h => tot_s (u := 7) (v := 6) (fun P s => rfl) (T7 s hI h) (fun f s1 e => by
      have g := pr_ok _ _ (by omega) _ _ hI e
      exact T6 s1 g.1 (lft_m g h))
    have T4 : ∀ s, Iv b z s → lft z (n + 1) s → Tot b z 4 s := fun s hI h => by
      by_cases t1 : ttk s = 15
      · exact tot_1 (fun P => by rw [pG_4, if_pos t1]) (ih _ (Iv_opn hI (by omega) (by omega)) (lft_opn hI (by omega) h) 4 (by omega))
      · obtain ⟨f, s1, e1⟩ := T5 s hI h
        have g := pr_ok _ _ (by omega) _ _ hI e1
        by_cases t2 : ttk s1 = 22
        · obtain ⟨f2, s2, e2⟩ := ih _ (Iv_adv g.1 (by omega) (by omega)).1 (lft_adv g.1 (by omega) (lft_m g h)) 5 (by omega)
          refine ⟨max f f2 + 1, yem 5 0 s2, ?_⟩
          show (if ttk s = 15 then _ else (pr b z (max f f2) 5 s).bind (fun s1 => if ttk s1 = 22 then (pr b z (max f f2) 5 (adv b z s1)).bind (fun s2 => some (yem 5 0 s2)) else _)) = _
          rw [if_neg t1, pr_le (Nat.le_max_left f f2) e1]
          show (if ttk s1 = 22 then (pr b z (max f f2) 5 (adv b z s1)).bind (fun s2 => some (yem 5 0 s2)) else _) = _
          rw [if_pos t2, pr_le (Nat.le_max_right f f2) e2]; rfl
        by_cases t3 : ttk s1 = 23
        · obtain ⟨f2, s2, e2⟩ := ih _ (Iv_adv g.1 (by omega) (by omega)).1 (lft_adv g.1 (by omega) (lft_m g h)) 5 (by omega)
          refine ⟨max f f2 + 1, yem 6 0 s2, ?_⟩
          show (if ttk s = 15 then _ else (pr b z (max f f2) 5 s).bind (fun s1 => if ttk s1 = 22 then _ else if ttk s1 = 23 then (pr b z (max f f2) 5 (adv b z s1)).bind (fun s2 => some (yem 6 0 s2)) else _)) = _
          rw [if_neg t1, pr_le (Nat.le_max_left f f2) e1]
          show (if ttk s1 = 22 then _ else if ttk s1 = 23 then (pr b z (max f f2) 5 (adv b z s1)).bind (fun s2 => some (yem 6 0 s2)) else _) = _
          rw [if_neg t2, if_pos t3, pr_le (Nat.le_max_right f f2) e2]; rfl
        · refine ⟨f + 1, s1, ?_⟩
          show (if ttk s = 15 then _ else (pr b z f 5 s).bind (fun s1 => if ttk s1 = 22 then _ else if ttk s1 = 23 then _ else some s1)) = _
          rw [if_neg t1, e1]
          show (if ttk s1 = 22 then _ else if ttk s1 = 23 then _ else some s1) = _
          rw [if_neg t2, if_neg t3]
    have T3 : ∀ s, Iv b z s → lft z (n + 1) s → Tot b z 3 s := fun s hI h => by
      by_cases t1 : ttk s = 14
      · exact L (u := 4) (v := 3) (o := 3) (by omega) (by omega) s hI h (by omega) (fun P => by rw [pG_3, if_pos t1])
      · exact tot_0 (fun P => by rw [pG_3, if_neg t1])
    have T2 : ∀ s, Iv b z s → lft z (n + 1) s → Tot b z 2 s := fun s hI h => tot_s (u := 4) (v := 3) (fun P s => rfl) (T4 s hI h) (fun f s1 e => by
      have g := pr_ok _ _ (by omega) _ _ hI e
      exact T3 s1 g.1 (lft_m g h))
    have T1 : ∀ s, Iv b z s → lft z (n + 1) s → Tot b z 1 s := fun s hI h => by
      by_cases t1 : ttk s = 13
      · exact L (u := 2) (v := 1) (o := 2) (by omega) (by omega) s hI h (by omega) (fun P => by rw [pG_1, if_pos t1])
      · exact tot_0 (fun P => by rw [pG_1, if_neg t1])
    have T0 : ∀ s, Iv b z s → lft z (n + 1) s → Tot b z 0 s := fun s hI h => tot_s (u := 2) (v := 1) (fun P s => rfl) (T2 s hI h) (fun f s1 e => by
      have g := pr_ok _ _ (by omega) _ _ hI e
      exact T1 s1 g.1 (lft_m g h))
    match w, hw with
    | 0, _ => exact T0 s hI h
    | 1, _ => exact T1 s hI h
    | 2, _ => exact T2 s hI h
    | 3, _ => exact T3 s hI h
    | 4, _ => exact T4 s hI h
    | 5, _ => exact T5 s hI h
    | 6, _ => exact T6 s hI h
    | 7, _ => exact T7 s hI h
    | 8, _ => exact T8 s hI h
    | 9, _ => exact T9 s hI h
end S76
