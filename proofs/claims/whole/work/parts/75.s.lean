/-! the text: the pure reading -/
section S75
abbrev Sta := Nat × Nat × Nat × Nat × Nat × Nat × (Nat → Nat) × (Nat → Nat)
def tnx (s : Sta) : Nat := s.1
def tpl (s : Sta) : Nat := s.2.1
def ttk (s : Sta) : Nat := s.2.2.1
def tnu (s : Sta) : Nat := s.2.2.2.1
def top (s : Sta) : Nat := s.2.2.2.2.1
def tcs (s : Sta) : Nat := s.2.2.2.2.2.1
def tco (s : Sta) : Nat → Nat := s.2.2.2.2.2.2.1
def tcw (s : Sta) : Nat → Nat := s.2.2.2.2.2.2.2
def yup (g : Nat → Nat) (i x : Nat) : Nat → Nat := fun j => if j = i then x else g j
/-- the first place from p on, n places at most, where P doesn't hold -/
def ysk (P : Nat → Bool) (b : Nat → Nat) (p : Nat) : Nat → Nat
  | 0 => p
  | n + 1 => if P (b p) then ysk P b (p + 1) n else p
def isB (x : Nat) : Bool := x == 32 || x == 10
def isL (x : Nat) : Bool := Nat.ble 97 x && Nat.ble x 122
def isD (x : Nat) : Bool := Nat.ble 48 x && Nat.ble x 57
def wof : List Nat := [0, 5, 13, 18, 23, 29, 34, 41, 46, 51, 56, 60, 66, 70, 73, 77, 81]
def wln : List Nat := [4, 7, 4, 4, 5, 4, 6, 4, 4, 4, 3, 5, 3, 2, 3, 3]
/-- the word w lies from p to before e -/
def wis (b : Nat → Nat) (p e w : Nat) : Bool := decide (e - p = wln.getD w 0) && (List.range (wln.getD w 0)).all (fun i => b (p + i) == wdL.getD (wof.getD w 0 + i) 0)
def wt (b : Nat → Nat) (p e : Nat) : Nat → Nat
  | 0 => 26
  | k + 1 => if wis b p e k then k else wt b p e k
def ydec (b : Nat → Nat) (p : Nat) : Nat → Nat
  | 0 => 0
  | k + 1 => 10 * ydec b p k + (b (p + k) - 48)
def ysg (x : Nat) : Nat := if x = 40 then 16 else if x = 41 then 17 else if x = 59 then 18 else if x = 43 then 19 else if x = 45 then 20 else if x = 42 then 21 else if x = 60 then 22 else if x = 61 then 23 else 26
/-- next, place, token, number -/
def lex (b : Nat → Nat) (z n : Nat) : Nat × Nat × Nat × Nat :=
  if z ≤ ysk isB b n (z - n) then (ysk isB b n (z - n), ysk isB b n (z - n), 25, 0)
  else if isL (b (ysk isB b n (z - n))) then (ysk isL b (ysk isB b n (z - n)) (z - ysk isB b n (z - n)), ysk isB b n (z - n), wt b (ysk isB b n (z - n)) (ysk isL b (ysk isB b n (z - n)) (z - ysk isB b n (z - n))) 16, 0)
  else if isD (b (ysk isB b n (z - n))) then (ysk isD b (ysk isB b n (z - n)) (z - ysk isB b n (z - n)), ysk isB b n (z - n), if ysk isD b (ysk isB b n (z - n)) (z - ysk isB b n (z - n)) - ysk isB b n (z - n) ≤ 5 then 24 else 26, ydec b (ysk isB b n (z - n)) (ysk isD b (ysk isB b n (z - n)) (z - ysk isB b n (z - n)) - ysk isB b n (z - n)))
  else (ysk isB b n (z - n) + 1, ysk isB b n (z - n), ysg (b (ysk isB b n (z - n))), 0)
/-- refused at its place -/
def yfl (s : Sta) : Sta := (tnx s, tpl s, 27, tnu s, top s, tcs s, tco s, tcw s)
/-- one step more -/
def yem (o w : Nat) (s : Sta) : Sta := (tnx s, tpl s, ttk s, tnu s, top s, tcs s + 1, yup (tco s) (tcs s) o, yup (tcw s) (tcs s) w)
/-- one open less -/
def ycl (s : Sta) : Sta := (tnx s, tpl s, ttk s, tnu s, top s - 1, tcs s, tco s, tcw s)
/-- one open more -/
def yoo (s : Sta) : Sta := (tnx s, tpl s, ttk s, tnu s, top s + 1, tcs s, tco s, tcw s)
/-- the next token -/
def adv (b : Nat → Nat) (z : Nat) (s : Sta) : Sta := ((lex b z (tnx s)).1, (lex b z (tnx s)).2.1, (lex b z (tnx s)).2.2.1, (lex b z (tnx s)).2.2.2, top s, tcs s, tco s, tcw s)
def xp (b : Nat → Nat) (z k : Nat) (s : Sta) : Sta := if ttk s = k then adv b z s else yfl s
def opn (b : Nat → Nat) (z : Nat) (s : Sta) : Sta := if 6 ≤ top s then yfl s else adv b z (yoo s)
theorem tnx_yfl {s : Sta} : tnx (yfl s) = tnx s := rfl
theorem tpl_yfl {s : Sta} : tpl (yfl s) = tpl s := rfl
theorem ttk_yfl {s : Sta} : ttk (yfl s) = 27 := rfl
theorem tnu_yfl {s : Sta} : tnu (yfl s) = tnu s := rfl
theorem top_yfl {s : Sta} : top (yfl s) = top s := rfl
theorem tcs_yfl {s : Sta} : tcs (yfl s) = tcs s := rfl
theorem tco_yfl {s : Sta} : tco (yfl s) = tco s := rfl
theorem tcw_yfl {s : Sta} : tcw (yfl s) = tcw s := rfl
theorem tnx_yem {o w : Nat} {s : Sta} : tnx (yem o w s) = tnx s := rfl
theorem tpl_yem {o w : Nat} {s : Sta} : tpl (yem o w s) = tpl s := rfl
theorem ttk_yem {o w : Nat} {s : Sta} : ttk (yem o w s) = ttk s := rfl
theorem tnu_yem {o w : Nat} {s : Sta} : tnu (yem o w s) = tnu s := rfl
theorem top_yem {o w : Nat} {s : Sta} : top (yem o w s) = top s := rfl
theorem tcs_yem {o w : Nat} {s : Sta} : tcs (yem o w s) = tcs s + 1 := rfl
theorem tco_yem {o w : Nat} {s : Sta} : tco (yem o w s) = yup (tco s) (tcs s) o := rfl
theorem tcw_yem {o w : Nat} {s : Sta} : tcw (yem o w s) = yup (tcw s) (tcs s) w := rfl
theorem tnx_ycl {s : Sta} : tnx (ycl s) = tnx s := rfl
theorem tpl_ycl {s : Sta} : tpl (ycl s) = tpl s := rfl
theorem ttk_ycl {s : Sta} : ttk (ycl s) = ttk s := rfl
theorem tnu_ycl {s : Sta} : tnu (ycl s) = tnu s := rfl
theorem top_ycl {s : Sta} : top (ycl s) = top s - 1 := rfl
theorem tcs_ycl {s : Sta} : tcs (ycl s) = tcs s := rfl
theorem tco_ycl {s : Sta} : tco (ycl s) = tco s := rfl
theorem tcw_ycl {s : Sta} : tcw (ycl s) = tcw s := rfl
theorem tnx_yoo {s : Sta} : tnx (yoo s) = tnx s := rfl
theorem tpl_yoo {s : Sta} : tpl (yoo s) = tpl s := rfl
theorem ttk_yoo {s : Sta} : ttk (yoo s) = ttk s := rfl
theorem tnu_yoo {s : Sta} : tnu (yoo s) = tnu s := rfl
theorem top_yoo {s : Sta} : top (yoo s) = top s + 1 := rfl
theorem tcs_yoo {s : Sta} : tcs (yoo s) = tcs s := rfl
theorem tco_yoo {s : Sta} : tco (yoo s) = tco s := rfl
theorem tcw_yoo {s : Sta} : tcw (yoo s) = tcw s := rfl
theorem tnx_adv {b : Nat → Nat} {z : Nat} {s : Sta} : tnx (adv b z s) = (lex b z (tnx s)).1 := rfl
theorem tpl_adv {b : Nat → Nat} {z : Nat} {s : Sta} : tpl (adv b z s) = (lex b z (tnx s)).2.1 := rfl
theorem ttk_adv {b : Nat → Nat} {z : Nat} {s : Sta} : ttk (adv b z s) = (lex b z (tnx s)).2.2.1 := rfl
theorem tnu_adv {b : Nat → Nat} {z : Nat} {s : Sta} : tnu (adv b z s) = (lex b z (tnx s)).2.2.2 := rfl
theorem top_adv {b : Nat → Nat} {z : Nat} {s : Sta} : top (adv b z s) = top s := rfl
theorem tcs_adv {b : Nat → Nat} {z : Nat} {s : Sta} : tcs (adv b z s) = tcs s := rfl
theorem tco_adv {b : Nat → Nat} {z : Nat} {s : Sta} : tco (adv b z s) = tco s := rfl
theorem tcw_adv {b : Nat → Nat} {z : Nat} {s : Sta} : tcw (adv b z s) = tcw s := rfl
/-- reading: 0 or, 1 its loop, 2 and, 3 its loop, 4 not, 5 sum, 6 its loop, 7 term, 8 its loop, 9 one -/
def pG (b : Nat → Nat) (z : Nat) (P : Nat → Sta → Option Sta) (w : Nat) (s : Sta) : Option Sta :=
  if w = 0 then (P 2 s).bind (P 1)
  else if w = 1 then (if ttk s = 13 then (P 2 (adv b z s)).bind (fun s1 => P 1 (yem 2 0 s1)) else some s)
  else if w = 2 then (P 4 s).bind (P 3)
  else if w = 3 then (if ttk s = 14 then (P 4 (adv b z s)).bind (fun s1 => P 3 (yem 3 0 s1)) else some s)
  else if w = 4 then (if ttk s = 15 then (P 4 (opn b z s)).bind (fun s1 => some (yem 4 0 (ycl s1))) else (P 5 s).bind (fun s1 => if ttk s1 = 22 then (P 5 (adv b z s1)).bind (fun s2 => some (yem 5 0 s2)) else if ttk s1 = 23 then (P 5 (adv b z s1)).bind (fun s2 => some (yem 6 0 s2)) else some s1))
  else if w = 5 then (P 7 s).bind (P 6)
  else if w = 6 then (if ttk s = 19 then (P 7 (adv b z s)).bind (fun s1 => P 6 (yem 7 0 s1)) else if ttk s = 20 then (P 7 (adv b z s)).bind (fun s1 => P 6 (yem 8 0 s1)) else some s)
  else if w = 7 then (P 9 s).bind (P 8)
  else if w = 8 then (if ttk s = 21 then (P 9 (adv b z s)).bind (fun s1 => P 8 (yem 9 0 s1)) else some s)
  else (if ttk s = 24 then some (adv b z (yem 0 (tnu s) s)) else if ttk s < 10 then some (adv b z (yem 1 (ttk s) s)) else if ttk s = 20 then (P 9 (opn b z s)).bind (fun s1 => some (yem 10 0 (ycl s1))) else if ttk s = 16 then (P 0 (opn b z s)).bind (fun s1 => some (ycl (xp b z 17 s1))) else some (yfl s))
theorem pG_0 (b : Nat → Nat) (z : Nat) (P : Nat → Sta → Option Sta) (s : Sta) : pG b z P 0 s = (P 2 s).bind (P 1) := rfl
theorem pG_1 (b : Nat → Nat) (z : Nat) (P : Nat → Sta → Option Sta) (s : Sta) : pG b z P 1 s = (if ttk s = 13 then (P 2 (adv b z s)).bind (fun s1 => P 1 (yem 2 0 s1)) else some s) := rfl
theorem pG_2 (b : Nat → Nat) (z : Nat) (P : Nat → Sta → Option Sta) (s : Sta) : pG b z P 2 s = (P 4 s).bind (P 3) := rfl
theorem pG_3 (b : Nat → Nat) (z : Nat) (P : Nat → Sta → Option Sta) (s : Sta) : pG b z P 3 s = (if ttk s = 14 then (P 4 (adv b z s)).bind (fun s1 => P 3 (yem 3 0 s1)) else some s) := rfl
theorem pG_4 (b : Nat → Nat) (z : Nat) (P : Nat → Sta → Option Sta) (s : Sta) : pG b z P 4 s = (if ttk s = 15 then (P 4 (opn b z s)).bind (fun s1 => some (yem 4 0 (ycl s1))) else (P 5 s).bind (fun s1 => if ttk s1 = 22 then (P 5 (adv b z s1)).bind (fun s2 => some (yem 5 0 s2)) else if ttk s1 = 23 then (P 5 (adv b z s1)).bind (fun s2 => some (yem 6 0 s2)) else some s1)) := rfl
theorem pG_5 (b : Nat → Nat) (z : Nat) (P : Nat → Sta → Option Sta) (s : Sta) : pG b z P 5 s = (P 7 s).bind (P 6) := rfl
theorem pG_6 (b : Nat → Nat) (z : Nat) (P : Nat → Sta → Option Sta) (s : Sta) : pG b z P 6 s = (if ttk s = 19 then (P 7 (adv b z s)).bind (fun s1 => P 6 (yem 7 0 s1)) else if ttk s = 20 then (P 7 (adv b z s)).bind (fun s1 => P 6 (yem 8 0 s1)) else some s) := rfl
theorem pG_7 (b : Nat → Nat) (z : Nat) (P : Nat → Sta → Option Sta) (s : Sta) : pG b z P 7 s = (P 9 s).bind (P 8) := rfl
theorem pG_8 (b : Nat → Nat) (z : Nat) (P : Nat → Sta → Option Sta) (s : Sta) : pG b z P 8 s = (if ttk s = 21 then (P 9 (adv b z s)).bind (fun s1 => P 8 (yem 9 0 s1)) else some s) := rfl
theorem pG_9 (b : Nat → Nat) (z : Nat) (P : Nat → Sta → Option Sta) (s : Sta) : pG b z P 9 s = (if ttk s = 24 then some (adv b z (yem 0 (tnu s) s)) else if ttk s < 10 then some (adv b z (yem 1 (ttk s) s)) else if ttk s = 20 then (P 9 (opn b z s)).bind (fun s1 => some (yem 10 0 (ycl s1))) else if ttk s = 16 then (P 0 (opn b z s)).bind (fun s1 => some (ycl (xp b z 17 s1))) else some (yfl s)) := rfl
def pr (b : Nat → Nat) (z : Nat) : Nat → Nat → Sta → Option Sta
  | 0 => fun _ _ => none
  | f + 1 => pG b z (pr b z f)
theorem bd {α β : Type} {x : Option α} {g : α → Option β} {y : β} (h : x.bind g = some y) : ∃ a, x = some a ∧ g a = some y := by
  cases x with
  | none => cases h
  | some a => exact ⟨a, rfl, h⟩
variable {b : Nat → Nat} {z : Nat}
theorem bd2 {α β : Type} {x y : Option α} {g k : α → Option β} {v : β} (h1 : ∀ a, x = some a → y = some a) (h2 : ∀ a, g a = some v → k a = some v) (h : x.bind g = some v) : y.bind k = some v := by
  obtain ⟨a, e1, e2⟩ := bd h
  rw [h1 a e1]; exact h2 a e2
theorem im {c : Prop} (dc : Decidable c) {α : Type} {x y x' y' : Option α} {v : α} (h1 : x = some v → x' = some v) (h2 : y = some v → y' = some v) (e : (@ite _ c dc x y) = some v) : (@ite _ c dc x' y') = some v := by
  by_cases h : c
  · rw [if_pos h] at e ⊢; exact h1 e
  · rw [if_neg h] at e ⊢; exact h2 e
theorem pG_mono {P Q : Nat → Sta → Option Sta} (h : ∀ w s s', P w s = some s' → Q w s = some s') (w : Nat) (s s' : Sta) (e : pG b z P w s = some s') : pG b z Q w s = some s' := by
  have bb : ∀ {u v : Nat} {s : Sta} {g : Sta → Sta}, (P u s).bind (fun s1 => P v (g s1)) = some s' → (Q u s).bind (fun s1 => Q v (g s1)) = some s' := fun {u v s g} => bd2 (fun a => h _ _ a) (fun a => h _ _ _)
  have b1 : ∀ {u : Nat} {s : Sta} {g : Sta → Sta}, (P u s).bind (fun s1 => some (g s1)) = some s' → (Q u s).bind (fun s1 => some (g s1)) = some s' := fun {u s g} => bd2 (fun a => h _ _ a) (fun a c => c)
  have bs : ∀ {u v : Nat} {s : Sta}, (P u s).bind (P v) = some s' → (Q u s).bind (Q v) = some s' := fun {u v s} => bd2 (fun a => h _ _ a) (fun a => h _ _ _)
  unfold pG at e ⊢
  refine im _ bs (im _ (im _ bb id) (im _ bs (im _ (im _ bb id) (im _ (im _ b1 (bd2 (fun a => h _ _ a) (fun a => im _ b1 (im _ b1 id)))) (im _ bs (im _ (im _ bb (im _ bb id)) (im _ bs (im _ (im _ bb id) (im _ id (im _ id (im _ b1 (im _ b1 id)))))))))))) e
theorem pr_s : ∀ (f w : Nat) (s s' : Sta), pr b z f w s = some s' → pr b z (f + 1) w s = some s'
  | 0, _, _, _, h => by cases h
  | f + 1, w, s, s', h => pG_mono (fun w s s' => pr_s f w s s') w s s' h
theorem pr_le {f g w : Nat} {s s' : Sta} (hfg : f ≤ g) (h : pr b z f w s = some s') : pr b z g w s = some s' := by
  induction hfg with
  | refl => exact h
  | step _ ih => exact pr_s _ _ _ _ ih
/-- it comes to an end -/
def Tot (b : Nat → Nat) (z w : Nat) (s : Sta) : Prop := ∃ f s', pr b z f w s = some s'
/-- the same with what a first bad state does -/
theorem pr_bad : ∀ (f w : Nat) (s s' : Sta), ttk s = 27 → pr b z f w s = some s' → s' = s
  | 0, _, _, _, _, h => by cases h
  | f + 1, w, s, s', t, h => by
    have ih := pr_bad f
    have h : pG b z (pr b z f) w s = some s' := h
    unfold pG at h
    rw [t] at h
    have sq : ∀ {u v : Nat}, (pr b z f u s).bind (pr b z f v) = some s' → s' = s := fun e => by
      obtain ⟨a, e1, e2⟩ := bd e
      have := ih _ _ _ t e1
      subst this
      exact ih _ _ _ t e2
    have xs : some s = some s' → s' = s := fun e => by cases e; rfl
    simp only [Nat.reduceEqDiff, if_false, Nat.reduceLT] at h
    split at h
    · exact sq h
    split at h
    · exact xs h
    split at h
    · exact sq h
    split at h
    · exact xs h
    split at h
    · obtain ⟨a, e1, e2⟩ := bd h
      have := ih _ _ _ t e1
      subst this
      simp only [t, Nat.reduceEqDiff, if_false] at e2
      exact xs e2
    split at h
    · exact sq h
    split at h
    · exact xs h
    split at h
    · exact sq h
    split at h
    · exact xs h
    · cases h
      unfold yfl
      rw [← t]; rfl
theorem pr_bad1 (s : Sta) (t : ttk s = 27) (w : Nat) : Tot b z w s := by
  have e9 : ∀ f w, 9 ≤ w → pr b z (f + 1) w s = some s := fun f w hw => by
    show pG b z (pr b z f) w s = _
    unfold pG
    rw [if_neg (by omega), if_neg (by omega), if_neg (by omega), if_neg (by omega), if_neg (by omega), if_neg (by omega), if_neg (by omega), if_neg (by omega), if_neg (by omega), if_neg (by omega), if_neg (by omega), if_neg (by omega), if_neg (by omega)]
    unfold yfl
    rw [← t]; rfl
  have e8 : ∀ f, pr b z (f + 1) 8 s = some s := fun f => by
    show (if ttk s = 21 then _ else some s) = _
    rw [if_neg (by omega)]
  have e6 : ∀ f, pr b z (f + 1) 6 s = some s := fun f => by
    show (if ttk s = 19 then _ else if ttk s = 20 then _ else some s) = _
    rw [if_neg (by omega), if_neg (by omega)]
  have e3 : ∀ f, pr b z (f + 1) 3 s = some s := fun f => by
    show (if ttk s = 14 then _ else some s) = _
    rw [if_neg (by omega)]
  have e1 : ∀ f, pr b z (f + 1) 1 s = some s := fun f => by
    show (if ttk s = 13 then _ else some s) = _
    rw [if_neg (by omega)]
  have e7 : ∀ f, pr b z (f + 2) 7 s = some s := fun f => by
    show (pr b z (f + 1) 9 s).bind (pr b z (f + 1) 8) = _
    rw [e9 _ _ (by omega)]; exact e8 _
  have e5 : ∀ f, pr b z (f + 3) 5 s = some s := fun f => by
    show (pr b z (f + 2) 7 s).bind (pr b z (f + 2) 6) = _
    rw [e7]; exact e6 _
  have e4 : ∀ f, pr b z (f + 4) 4 s = some s := fun f => by
    show (if ttk s = 15 then _ else (pr b z (f + 3) 5 s).bind (fun s1 => if ttk s1 = 22 then _ else if ttk s1 = 23 then _ else some s1)) = _
    rw [if_neg (by omega), e5]
    show (if ttk s = 22 then _ else if ttk s = 23 then _ else some s) = _
    rw [if_neg (by omega), if_neg (by omega)]
  have e2 : ∀ f, pr b z (f + 5) 2 s = some s := fun f => by
    show (pr b z (f + 4) 4 s).bind (pr b z (f + 4) 3) = _
    rw [e4]; exact e3 _
  have e0 : ∀ f, pr b z (f + 6) 0 s = some s := fun f => by
    show (pr b z (f + 5) 2 s).bind (pr b z (f + 5) 1) = _
    rw [e2]; exact e1 _
  refine ⟨6, s, ?_⟩
  match w with
  | 0 => exact e0 0
  | 1 => exact e1 5
  | 2 => exact e2 1
  | 3 => exact e3 5
  | 4 => exact e4 2
  | 5 => exact e5 3
  | 6 => exact e6 5
  | 7 => exact e7 4
  | 8 => exact e8 5
  | w + 9 => exact e9 5 _ (by omega)
theorem ysk_le {P : Nat → Bool} : ∀ n p, p ≤ ysk P b p n ∧ ysk P b p n ≤ p + n
  | 0, p => ⟨Nat.le_refl _, Nat.le_refl _⟩
  | n + 1, p => by
    unfold ysk
    split
    · have := ysk_le (P := P) n (p + 1); omega
    · omega
theorem ysk_in {P : Nat → Bool} : ∀ n p i, p ≤ i → i < ysk P b p n → P (b i) = true
  | 0, p, i, h1, h2 => by unfold ysk at h2; omega
  | n + 1, p, i, h1, h2 => by
    unfold ysk at h2
    split at h2
    · rename_i h
      by_cases hi : i = p
      · rw [hi]; exact h
      · exact ysk_in n (p + 1) i (by omega) h2
    · omega
theorem ysk_end {P : Nat → Bool} : ∀ n p, ysk P b p n < p + n → P (b (ysk P b p n)) = false
  | 0, p, h => by unfold ysk at h; omega
  | n + 1, p, h => by
    unfold ysk at h ⊢
    split
    · rename_i hp
      rw [if_pos hp] at h
      exact ysk_end n (p + 1) (by omega)
    · rename_i hp; simpa using hp
theorem ysk_pos {P : Nat → Bool} {n p : Nat} (hn : 0 < n) (h : P (b p) = true) : p < ysk P b p n := by
  cases n with
  | zero => omega
  | succ n =>
    unfold ysk
    rw [if_pos h]
    have := (ysk_le (P := P) (b := b) n (p + 1)).1
    omega
theorem isB_lt {x : Nat} (h : isB x = true) : x < 128 := by
  unfold isB at h
  simp at h; omega
theorem isL_i {x : Nat} : isL x = true ↔ 97 ≤ x ∧ x ≤ 122 := by unfold isL; simp
theorem isD_i {x : Nat} : isD x = true ↔ 48 ≤ x ∧ x ≤ 57 := by unfold isD; simp
theorem ydec_lt {p : Nat} : ∀ k, (∀ i, i < k → b (p + i) ≤ 57) → ydec b p k < 10 ^ k
  | 0, _ => by show 0 < _; decide
  | k + 1, h => by
    have h1 := ydec_lt k (fun i hi => h i (by omega))
    have h2 := h k (by omega)
    have : 10 ^ (k + 1) = 10 * 10 ^ k := by rw [Nat.pow_succ]; omega
    unfold ydec; omega
theorem wt_b {p e : Nat} : ∀ k, wt b p e k = 26 ∨ wt b p e k < k
  | 0 => Or.inl rfl
  | k + 1 => by
    unfold wt
    split
    · omega
    · have := wt_b (p := p) (e := e) k; omega
theorem ysg_b (x : Nat) : ysg x = 26 ∨ (16 ≤ ysg x ∧ ysg x ≤ 23 ∧ x < 128) := by
  unfold ysg
  repeat' split
  all_goals omega
theorem lex_ok {n : Nat} (hn : n ≤ z) : n ≤ (lex b z n).2.1 ∧ (lex b z n).2.1 ≤ (lex b z n).1 ∧ (lex b z n).1 ≤ z ∧ (lex b z n).2.2.1 ≤ 26 ∧ ((lex b z n).2.2.1 ≠ 25 → (lex b z n).2.1 < (lex b z n).1) ∧ ((lex b z n).2.2.1 = 25 → (lex b z n).1 = z) ∧ ((lex b z n).2.2.1 = 24 → (lex b z n).2.2.2 < 100000) ∧ ((lex b z n).2.2.1 ≠ 26 → (∀ i, i < n → b i < 128) → ∀ i, i < (lex b z n).1 → b i < 128) := by
  unfold lex
  have hk := ysk_le (P := isB) (b := b) (z - n) n
  have hB : ∀ i, n ≤ i → i < ysk isB b n (z - n) → b i < 128 := fun i h1 h2 => isB_lt (ysk_in _ _ i h1 h2)
  revert hk hB
  generalize ysk isB b n (z - n) = p
  intro hk hB
  have hA : (∀ i, i < n → b i < 128) → ∀ i, i < p → b i < 128 := fun h i hi => by
    by_cases h1 : i < n
    · exact h i h1
    · exact hB i (by omega) hi
  split
  · exact ⟨hk.1, Nat.le_refl _, by dsimp only; omega, by dsimp only; omega, fun h => absurd rfl h, fun _ => by dsimp only; omega, fun h => by dsimp only at h; omega, fun _ => hA⟩
  split
  · rename_i h1 h2
    have h3 := ysk_le (P := isL) (b := b) (z - p) p
    have h4 := ysk_pos (n := z - p) (p := p) (by omega) h2
    have hL : ∀ i, p ≤ i → i < ysk isL b p (z - p) → b i < 128 := fun i h1 h2 => by have := isL_i.mp (ysk_in _ _ i h1 h2); omega
    revert h3 h4 hL
    generalize ysk isL b p (z - p) = e
    intro h3 h4 hL
    have := wt_b (b := b) (p := p) (e := e) 16
    refine ⟨hk.1, h3.1, by dsimp only; omega, by dsimp only; omega, fun _ => h4, fun h => by dsimp only at h; omega, fun h => by dsimp only at h; omega, fun _ h i hi => ?_⟩
    dsimp only at hi
    by_cases h5 : i < p
    · exact hA h i h5
    · exact hL i (by omega) hi
  split
  · rename_i h1 _ h2
    have h3 := ysk_le (P := isD) (b := b) (z - p) p
    have h4 := ysk_pos (n := z - p) (p := p) (by omega) h2
    have hL : ∀ i, p ≤ i → i < ysk isD b p (z - p) → b i ≤ 57 := fun i h1 h2 => by have := isD_i.mp (ysk_in _ _ i h1 h2); omega
    revert h3 h4 hL
    generalize ysk isD b p (z - p) = e
    intro h3 h4 hL
    refine ⟨hk.1, h3.1, by dsimp only; omega, by dsimp only; split <;> omega, fun _ => h4, fun h => by dsimp only at h; split at h <;> omega, fun h => ?_, fun _ h i hi => ?_⟩
    · dsimp only at h ⊢
      split at h
      · have h5 := ydec_lt (b := b) (p := p) (e - p) (fun i hi => hL _ (by omega) (by omega))
        have : 10 ^ (e - p) ≤ 10 ^ 5 := Nat.pow_le_pow_right (by decide) (by omega)
        omega
      · omega
    · dsimp only at hi
      by_cases h5 : i < p
      · exact hA h i h5
      · have := hL i (by omega) hi; omega
  · rename_i h1 _ _
    have := ysg_b (b p)
    refine ⟨hk.1, by dsimp only; omega, by dsimp only; omega, by dsimp only; omega, fun _ => by dsimp only; omega, fun h => by dsimp only at h; omega, fun h => by dsimp only at h; omega, fun h0 h i hi => ?_⟩
    dsimp only at hi h0
    by_cases h5 : i < p
    · exact hA h i h5
    · have : i = p := by omega
      subst this; omega

end S75
