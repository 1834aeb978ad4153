/-! needs and chairs as numbers; the instrument of a chair; what is due -/
section S52
variable {l : Launch} {M : o_M} {nw np ns nt T : Nat}
theorem and3 (y : Int32) : ∃ k, k ≤ 3 ∧ y &&& 3 = nI k := by
  have h : (y.toBitVec &&& 3#32).toNat ≤ 3 := by rw [BitVec.toNat_and]; exact Nat.and_le_right
  refine ⟨(y.toBitVec &&& 3#32).toNat, h, ?_⟩
  apply Int32.toBitVec_inj.mp
  apply BitVec.eq_of_toNat_eq
  show (y.toBitVec &&& 3#32).toNat = (BitVec.ofNat 32 _).toNat
  rw [BitVec.toNat_ofNat, Nat.mod_eq_of_lt (by omega)]
theorem needOf_nat (v : o_v) (w i : Nat) : ∃ k, k ≤ 3 ∧ f_needOf v w i = nI k := and3 _
theorem mx_nat (v : o_v) (s i : Nat) {n0 : Int32} (h0 : ∃ k, k ≤ 3 ∧ n0 = nI k) : ∀ k, ∃ a, a ≤ 3 ∧ f_mx v s i n0 k = nI a
  | 0 => h0
  | k + 1 => by
    unfold f_mx
    split
    · exact mx_nat v s i h0 k
    · exact needOf_nat v _ i
theorem cap_nat (kd : Int32) {x : Int32} (h : ∃ k, k ≤ 3 ∧ x = nI k) : ∃ k, k ≤ 3 ∧ f_cap kd x = nI k := by
  unfold f_cap
  split
  · split
    · exact h
    · exact ⟨1, by omega, rfl⟩
  · exact h
theorem need_nat (v : o_v) (s i : Nat) (m : Option Nat) : ∃ k, k ≤ 3 ∧ f_need v s i m = nI k := by
  unfold f_need
  apply cap_nat
  apply mx_nat
  cases m with
  | none => exact ⟨0, by omega, rfl⟩
  | some w => exact needOf_nat v w i
/-- needs, chairs before an instrument -/
def nd (v : o_v) (s i : Nat) : Nat := (f_need v s i none).toNatClampNeg
theorem nd_eq (v : o_v) (s i : Nat) : nd v s i ≤ 3 ∧ f_need v s i none = nI (nd v s i) := by
  obtain ⟨k, hk, e⟩ := need_nat v s i none
  unfold nd
  rw [e, nI_clamp (by omega)]
  exact ⟨hk, rfl⟩
def cs (v : o_v) (s : Nat) : Nat → Nat
  | 0 => 0
  | i + 1 => cs v s i + nd v s i
theorem cs_le (v : o_v) (s : Nat) : ∀ i, cs v s i ≤ 3 * i
  | 0 => Nat.le_refl _
  | i + 1 => by have := cs_le v s i; have := (nd_eq v s i).1; simp only [cs]; omega
theorem cs_eq (v : o_v) (s : Nat) : ∀ i, f_chN v s none i = nI (cs v s i)
  | 0 => rfl
  | i + 1 => by simp only [f_chN, cs]; rw [cs_eq v s i, (nd_eq v s i).2, nI_add]
theorem chairs_cs (v : o_v) (s : Nat) : f_chairs v s none = nI (cs v s 6) := cs_eq v s 6
theorem cs_mono (v : o_v) (s : Nat) {i j : Nat} (h : i ≤ j) : cs v s i ≤ cs v s j := by
  induction j with
  | zero => have : i = 0 := by omega
            subst this; exact Nat.le_refl _
  | succ j ih =>
    by_cases hij : i = j + 1
    · subst hij; exact Nat.le_refl _
    · have := ih (by omega); simp only [cs]; omega
/-- the instrument of a chair -/
def f_ins (v : o_v) (s : Nat) : Nat → Nat → Nat → Nat
  | 0, i, _ => i
  | m + 1, i, left => if left < nd v s i then i else f_ins v s m (i + 1) (left - nd v s i)
def f_inst (v : o_v) (s c : Nat) : Nat := f_ins v s 6 0 c
theorem f_ins_eq {v : o_v} {s c : Nat} : ∀ m j left i, cs v s j + left = c → cs v s i ≤ c → c < cs v s (i + 1) → j ≤ i → i < j + m → f_ins v s m j left = i
  | 0, _, _, _ => fun _ _ _ h1 h2 => by omega
  | m + 1, j, left, i => fun h0 h1 h2 h3 h4 => by
    unfold f_ins
    by_cases hj : j = i
    · subst hj
      simp only [cs] at h2
      rw [if_pos (by omega)]
    · have hm := cs_mono v s (i := j + 1) (j := i) (by omega)
      simp only [cs] at hm
      rw [if_neg (by omega)]
      exact f_ins_eq m (j + 1) _ i (by simp only [cs]; omega) h1 h2 (by omega) (by omega)
theorem f_inst_eq {v : o_v} {s c i : Nat} (h1 : cs v s i ≤ c) (h2 : c < cs v s (i + 1)) (hi : i < 6) : f_inst v s c = i := f_ins_eq 6 0 c i (by simp [cs]) h1 h2 (by omega) (by omega)
theorem inst_ex {v : o_v} {s c : Nat} (h : c < cs v s 6) : ∃ i, i < 6 ∧ cs v s i ≤ c ∧ c < cs v s (i + 1) := by
  have key : ∀ n, c < cs v s n → ∃ i, i < n ∧ cs v s i ≤ c ∧ c < cs v s (i + 1) := fun n => by
    induction n with
    | zero => intro h; simp [cs] at h
    | succ n ih =>
      intro h
      by_cases hc : c < cs v s n
      · obtain ⟨i, h1, h2⟩ := ih hc; exact ⟨i, by omega, h2⟩
      · exact ⟨n, by omega, by omega, h⟩
  exact key 6 h
theorem c12_instrumentOf (r : wM M) {s c : Nat} (hs : s < 40) (hok : okS M s) (hc : c < cs (mI M) s 6) (q : Int32 → o_M → Prop) (h : q (nI (f_inst (mI M) s c)) M) : K_X12_instrumentOf l [rV (some 60), iV (nI s), iV (nI c)] M q := by
  have h18 := cs_le (mI M) s 6
  have key : ∀ m i left, i + m = 6 → cs (mI M) s i + left = c → q (nI (f_ins (mI M) s m i left)) M → H_X12_instrumentOf_5 l q (nI s) (nI i) (nI left) M := by
    intro m
    induction m with
    | zero => intro i left hi hl _; have : i = 6 := by omega
              subst this; omega
    | succ m ih =>
      intro i left hi hl hq
      obtain ⟨n3, ne⟩ := nd_eq (mI M) s i
      unfold f_ins at hq
      refine w_X12_instrumentOf_5 l q _ _ _ M (c12_need r hs hok i none (fun _ e => by cases e) _ ?_)
      rw [ne, nI_ltI (by omega) (by omega)]
      refine ⟨fun z => ?_, fun z => c12_need r hs hok i none (fun _ e => by cases e) _ ?_⟩
      · rw [if_pos z] at hq; exact hq
      · rw [if_neg z] at hq
        rw [ne, n1, pk_sub (by omega)]
        exact ih (i + 1) _ (by omega) (by simp only [cs]; omega) hq
  exact w_X12_instrumentOf l _ _ M q (key 6 0 c (by omega) (by simp [cs]) h)
theorem chairN_spec (v : o_v) (s : Nat) (p : Int32) : ∀ m c, (f_chairN v s p m c = -1 ∧ ∀ j, c ≤ j → j < c + m → ¬ v 82 (12 * s + j) = p) ∨ ∃ k, c ≤ k ∧ k < c + m ∧ f_chairN v s p m c = nI k ∧ v 82 (12 * s + k) = p ∧ ∀ j, c ≤ j → j < k → ¬ v 82 (12 * s + j) = p
  | 0, c => Or.inl ⟨rfl, fun j h1 h2 => by omega⟩
  | m + 1, c => by
    unfold f_chairN
    by_cases hc : v 82 (12 * s + c) = p
    · rw [if_pos hc]
      exact Or.inr ⟨c, Nat.le_refl _, by omega, rfl, hc, fun j h1 h2 => by omega⟩
    · rw [if_neg hc]
      rcases chairN_spec v s p m (c + 1) with ⟨h1, h2⟩ | ⟨k, h1, h2, h3, h4, h5⟩
      · refine Or.inl ⟨h1, fun j g1 g2 => ?_⟩
        by_cases hjc : j = c
        · subst hjc; exact hc
        · exact h2 j (by omega) (by omega)
      · refine Or.inr ⟨k, by omega, by omega, h3, h4, fun j g1 g2 => ?_⟩
        by_cases hjc : j = c
        · subst hjc; exact hc
        · exact h5 j (by omega) g2
/-- where a player sits -/
theorem chairOf_spec (r : Rel M nw np ns nt T) {s p : Nat} (hs : s < ns) (hp : p < np) (h : ¬ f_chairOf (mI M) s (nI p) = -1) : ∃ c, c < cs (mI M) s 6 ∧ f_chairOf (mI M) s (nI p) = nI c ∧ ¬ mI M 83 s = 0 ∧ (∀ j, j < cs (mI M) s 6 → mI M (50 + 128 * s) j = mI M 82 (12 * s + j)) ∧ mI M 82 (12 * s + c) = nI p ∧ ∀ j, j < c → ¬ mI M 82 (12 * s + j) = nI p := by
  obtain ⟨_, _, m, hm, em, _, q7, _⟩ := (r.2.2.2.2.2.2.1.1 s hs).2.2.2
  have hnp := r.2.2.1.2.1.1
  have h18 := cs_le (mI M) s 6
  have hmc : m = cs (mI M) s 6 := nI_inj (by omega) (by omega) (em.symm.trans (chairs_cs _ _))
  unfold f_chairOf at h ⊢
  by_cases h0 : mI M 83 s = 0
  · rw [if_pos h0] at h; exact absurd rfl h
  rw [if_neg h0] at h ⊢
  rcases q7 with q7 | ⟨_, g1, g2, _⟩
  · exact absurd q7 h0
  rcases chairN_spec (mI M) s (nI p) 12 0 with ⟨h1, _⟩ | ⟨k, _, h2, h3, h4, h5⟩
  · exact absurd h1 h
  · refine ⟨k, ?_, h3, h0, fun j hj => g1 j (by omega), h4, fun j hj => h5 j (by omega) hj⟩
    by_cases hk : k < cs (mI M) s 6
    · exact hk
    · have := g2 k (by omega) (by omega)
      rw [h4] at this
      exact absurd this (nI_ne1 (by omega))
theorem c6_instrumentOf (r : Rel M nw np ns nt T) {s p : Nat} (hs : s < ns) (hp : p < np) (h : ¬ f_chairOf (mI M) s (nI p) = -1) (q : Int32 → o_M → Prop) (hq : q (nI (f_inst (mI M) s (f_chairOf (mI M) s (nI p)).toNatClampNeg)) M) : K_X6_instrumentOf l [rV (some (47 + 128 * s)), iV (nI p)] M q := by
  obtain ⟨c, hc, e, _, h1, h2, h3⟩ := chairOf_spec r hs hp h
  obtain ⟨i0, hi6, hi1, hi2⟩ := inst_ex hc
  obtain ⟨⟨_, g4, g5, g6, l4, l5, l6⟩, _, _, ⟨nds, _⟩⟩ := r.2.2.2.2.2.2.1.1 s hs
  have h18 := cs_le (mI M) s 6
  obtain ⟨m, hm, em⟩ := chairs_of r hs
  have hmc : m = cs (mI M) s 6 := nI_inj (by omega) (by omega) (em.symm.trans (chairs_cs _ _))
  rw [e, nI_clamp (by omega), f_inst_eq hi1 hi2 hi6] at hq
  have inner : ∀ i, i < 6 → (cs (mI M) s (i + 1) ≤ c → H_X6_instrumentOf_4 l q (47 + 128 * s) (nI p) (nI (cs (mI M) s (i + 1))) (nI (i + 1)) M) → ∀ a k, k + a = nd (mI M) s i → cs (mI M) s i + k ≤ c → (c < cs (mI M) s (i + 1) → i = i0) → H_X6_instrumentOf_13 l q (47 + 128 * s) (nI p) (nI (cs (mI M) s i + k)) (nI i) (nI k) M := by
    intro i hi hnext a
    induction a with
    | zero =>
      intro k hk hle _
      have n3 := (nd_eq (mI M) s i).1
      refine w_X6_instrumentOf_13 l q _ (ty47 s) _ _ _ _ M ?_
      rw [show 47 + 128 * s + 2 = 49 + 128 * s by omega, l5, nI_clamp (by omega), nds i hi, (nd_eq (mI M) s i).2, n1]
      refine ⟨g5, vin hi (by decide), fun _ => ?_, fun z => absurd (nI_le (by omega) (by omega)) z⟩
      have := hnext (by simp only [cs]; omega)
      simp only [cs] at this
      rw [show k = nd (mI M) s i by omega]; exact this
    | succ a ih =>
      intro k hk hle h0
      have n3 := (nd_eq (mI M) s i).1
      have hm6 := cs_mono (mI M) s (i := i + 1) (j := 6) (by omega)
      simp only [cs] at hm6
      have hm6 : cs (mI M) s i + nd (mI M) s i ≤ cs (mI M) s 6 := hm6
      refine w_X6_instrumentOf_13 l q _ (ty47 s) _ _ _ _ M ?_
      rw [show 47 + 128 * s + 2 = 49 + 128 * s by omega, show 47 + 128 * s + 3 = 50 + 128 * s by omega, l5, l6, nI_clamp (by omega), nI_clamp (by omega), nds i hi, (nd_eq (mI M) s i).2, n1 (cs (mI M) s i + k), n1 k, h1 _ (by omega)]
      refine ⟨g5, vin hi (by decide), fun z => ?_, fun _ => ⟨g6, vin (by omega) (by decide), fun z => ?_, fun z => ?_⟩⟩
      · rw [nI_leI (by omega) (by omega)] at z; omega
      · have hne : cs (mI M) s i + k ≠ c := fun y => z (by rw [y]; exact h2)
        exact ih (k + 1) (by omega) (by omega) h0
      · have hce : cs (mI M) s i + k = c := by
          by_cases hlt : cs (mI M) s i + k < c
          · exact absurd z (h3 _ hlt)
          · omega
        rw [h0 (by simp only [cs]; omega)]; exact hq
  have outer : ∀ m i, i + m = 6 → cs (mI M) s i ≤ c → H_X6_instrumentOf_4 l q (47 + 128 * s) (nI p) (nI (cs (mI M) s i)) (nI i) M := by
    intro m
    induction m with
    | zero => intro i hi hle; have : i = 6 := by omega
              subst this; omega
    | succ m ih =>
      intro i hi hle
      refine w_X6_instrumentOf_4 l q _ (ty47 s) _ _ _ M ⟨fun z => ?_, fun _ => ?_⟩
      · (simp (disch := omega) only [ile, ilt, ieq, nI_toInt, Int32.reduceToInt] at z; omega)
      · refine inner i (by omega) (fun h => ih (i + 1) (by omega) h) (nd (mI M) s i) 0 (by omega) (by omega) (fun hlt => ?_)
        have e1 := f_inst_eq (v := mI M) hle hlt (by omega)
        have e2 := f_inst_eq hi1 hi2 hi6
        omega
  exact w_X6_instrumentOf l _ _ (ty47 s) M q (outer 6 0 (by omega) (by simp [cs]))
def f_adj (kd : Int32) (w : Nat) (x : Int64) : Int64 := if kd = 5 then 2 * x else if kd = 4 then (if w = 1 then x / 2 else x) else if kd = 3 then (if w = 0 then x + 2 else x + 5) else x
def f_dueS (v : o_v) (ns nt p : Nat) (a b : Int32) (w : Nat) (s : Nat) (x : Int64) : Int64 := if f_chairOf v s (nI p) = -1 then x else if rng (v 77 s) a b then x + f_adj (v 76 s) w (f_worth v ns (f_txt v nt s) ((v 91 (f_txt v nt s)).toNatClampNeg + w) s p (nI (f_inst v s (f_chairOf v s (nI p)).toNatClampNeg))) else x
def f_due (v : o_v) (ns nt p : Nat) (a b : Int32) (w : Nat) : Int64 := lp (f_dueS v ns nt p a b w) 0 ns
theorem p_nd (M : o_M) : nd (pv M) = nd (mI M) := by funext s i; unfold nd; rw [p_need]
theorem p_cs (M : o_M) (s : Nat) : ∀ i, cs (pv M) s i = cs (mI M) s i
  | 0 => rfl
  | i + 1 => by simp only [cs, p_cs M s i, p_nd]
theorem p_inst (M : o_M) : f_inst (pv M) = f_inst (mI M) := by
  have : ∀ m s i c, f_ins (pv M) s m i c = f_ins (mI M) s m i c := fun m => by
    induction m with
    | zero => intro s i c; rfl
    | succ m ih => intro s i c; unfold f_ins; rw [p_nd, ih]
  funext s c; exact this 6 s 0 c
theorem p_due (M : o_M) : f_due (pv M) = f_due (mI M) := by
  funext ns nt p a b w
  unfold f_due
  have : f_dueS (pv M) ns nt p a b w = f_dueS (mI M) ns nt p a b w := by
    funext s x; unfold f_dueS; rw [p_chairOf, p_worth, p_inst]; rfl
  rw [this]
theorem fr_due {N : o_M} (h : Sm M N) : f_due (mI N) = f_due (mI M) := by rw [← p_due, ← p_due, h.1]
theorem fr_chairOf {N : o_M} (h : Sm M N) : f_chairOf (mI N) = f_chairOf (mI M) := by rw [← p_chairOf, ← p_chairOf, h.1]
theorem fr_inst {N : o_M} (h : Sm M N) : f_inst (mI N) = f_inst (mI M) := by rw [← p_inst, ← p_inst, h.1]
theorem fr_textOn {N : o_M} (h : Sm M N) : f_textOn (mI N) = f_textOn (mI M) := by rw [← p_textOn, ← p_textOn, h.1]
theorem fr_cs {N : o_M} (h : Sm M N) (s i : Nat) : cs (mI N) s i = cs (mI M) s i := by rw [← p_cs, ← p_cs, h.1]
theorem c12_dueOf (r : Rel M nw np ns nt T) {p w : Nat} (hp : p < np) (hw : w ≤ 1) (a b : Int32) (q : Int64 → o_M → Prop) (h : ∀ N, Sm M N → q (f_due (mI M) ns nt p a b w) N) : K_X12_dueOf l [rV (some 60), iV (nI p), iV a, iV b, iV (nI w)] M q := by
  have hns := r.2.2.1.2.2.1.1
  have hnt := r.2.2.1.2.2.2.1.2.1
  have hnp := r.2.2.1.2.1.1
  have key : ∀ m s, s + m = ns → ∀ N, Sm M N → H_X12_dueOf_6 l q (nI p) a b (nI w) (lp (f_dueS (mI M) ns nt p a b w) 0 s) (nI s) N := by
    intro m
    induction m with
    | zero =>
      intro s hs N hN
      have rN := Rel_Sm hN r
      have : s = ns := by omega
      subst this
      exact w_X12_dueOf_6 l q _ _ _ _ _ _ N ⟨fun _ => h N hN, fun z => absurd (by rw [rN.2.2.1.2.2.1.2.2]; exact nI_le (Nat.le_refl _) (by omega)) z⟩
    | succ m ih =>
      intro s hs N hN
      have rN := Rel_Sm hN r
      have hss : s < ns := by omega
      have hsc : (nI s).toNatClampNeg = s := nI_clamp (by omega)
      have v40 : vp_in (nI s) 40 := vin (by omega) (by decide)
      have e := fun N' hN' => ih (s + 1) (by omega) N' hN'
      simp only [lp] at e
      rw [f_dueS] at e
      have e77 : mI N 77 s = mI M 77 s := Sm_i hN rfl
      refine w_X12_dueOf_6 l q _ _ _ _ _ _ N ⟨fun z => ?_, fun _ => ?_⟩
      · rw [rN.2.2.1.2.2.1.2.2, nI_leI (by omega) (by omega)] at z; omega
      rw [n1]
      refine c12_chairOf rN.1 (by omega) _ _ ?_
      rw [fr_chairOf hN]
      refine ⟨fun z => ?_, fun z => ?_⟩
      · rw [if_pos z] at e; exact e N hN
      rw [if_neg z] at e
      rw [hsc, wn16 rN.1, e77]
      refine ⟨wr16 rN.1, v40, c12_in _ _ _ _ ⟨fun z2 => ?_, fun z2 => ?_⟩⟩
      · rw [b2_0.mp z2] at e; exact e N hN
      rw [b2_n0.mp z2] at e
      simp only [if_true] at e
      obtain ⟨t, ht, et⟩ := textOn_lt r (mI M 77 s)
      have htc : (nI t).toNatClampNeg = t := nI_clamp (by omega)
      have ett : f_txt (mI M) nt s = t := by unfold f_txt; rw [et]; exact htc
      obtain ⟨k, cl, _, hb8, _, _, hbc, hb, _⟩ := (r.2.2.2.2.2.2.2.1 t ht).2.2.2.2.2.1
      rw [ett, hb, nI_clamp (by omega)] at e
      rw [wn16 rN.1, e77]
      refine ⟨wr16 rN.1, v40, k12_textOn rN _ _ ?_⟩
      rw [fr_textOn hN, et, htc, wn30 rN.1]
      obtain ⟨c, hc, ec, _⟩ := chairOf_spec r hss hp z
      have h18 := cs_le (mI M) s 6
      rw [ec]
      rw [ec, nI_clamp (by omega)] at e
      refine ⟨wr30 rN.1, vin (by omega) (by decide), c12_instrumentOf rN.1 (by omega) (okS_of rN hss) (by rw [fr_cs hN]; exact hc) _ ?_⟩
      have e91 : mI N 91 t = nI k := by rw [Sm_i hN (id := 91) (j := t) rfl, hb]
      rw [e91, nI_add, fr_inst hN]
      refine c12_worthOf rN ht e91 hb8 (by omega) hss hp _ _ (fun N' hN' => ?_)
      have hN2 := Sm_t hN hN'.1
      have rN' := Rel_Sm hN2 r
      have e := e N' hN2
      rw [fr_worth hN, wn15 rN'.1, Sm_i hN2 (id := 76) (j := s) rfl]
      have R := wr15 rN'.1
      generalize f_worth (mI M) ns t (k + w) s p (nI (f_inst (mI M) s c)) = x at *
      unfold f_adj at e
      generalize mI M 76 s = kd at *
      have hw01 : w = 0 ∨ w = 1 := by omega
      refine ⟨R, v40, fun c5 => ⟨R, v40, fun c4 => ⟨R, v40, fun c3 => ?_, fun c3 => ⟨fun c0 => ?_, fun c0 => ?_⟩⟩, fun c4 => ⟨fun c1 => ⟨R, v40, fun c3 => ?_, fun c3 => ?_⟩, fun c1 => ⟨R, v40, fun c3 => ?_, fun c3 => ?_⟩⟩⟩, fun c5 => ⟨R, v40, fun c3 => ?_, fun c3 => ?_⟩⟩
      · rw [if_neg c5, if_neg c4, if_neg c3] at e; exact e
      · rw [if_neg c5, if_neg c4, if_pos c3, if_neg (by intro z; subst z; exact c0 rfl)] at e; exact e
      · have : w = 0 := nI_inj (by omega) (by omega) c0
        rw [if_neg c5, if_neg c4, if_pos c3, if_pos this] at e; exact e
      · rw [if_neg c5, if_pos c4, if_neg (by intro z; subst z; exact c1 rfl)] at e; exact e
      · rw [c4] at c3; exact absurd c3 (by decide)
      · have : w = 1 := nI_inj (by omega) (by omega) c1
        rw [if_neg c5, if_pos c4, if_pos this] at e; exact e
      · rw [c4] at c3; exact absurd c3 (by decide)
      · rw [if_pos c5] at e; exact e
      · rw [c5] at c3; exact absurd c3 (by decide)
  exact w_X12_dueOf l _ _ _ _ M q (key ns 0 (by omega) M (Sm_r M))
theorem c11_findDue (r : Rel M nw np ns nt T) (hT : T < 2 ^ 30) {s p w : Nat} (hs : s < ns) (hp : p < np) (hw : w ≤ 1) (hch : ¬ f_chairOf (mI M) s (nI p) = -1) (q : Int64 → o_M → Prop) (h : ∀ N, Sm M N → q (f_adj (mI M 76 s) w (f_worth (mI M) ns (f_txt (mI M) nt s) ((mI M 91 (f_txt (mI M) nt s)).toNatClampNeg + w) s p (nI (f_inst (mI M) s (f_chairOf (mI M) s (nI p)).toNatClampNeg)))) N) : K_X11_findDue l [rV (some 16), rV (some (47 + 128 * s)), iV (nI p), iV (nI w)] M q := by
  have ⟨r1, r2, r3, r4, r5, r6, r7, r8, r9, r10, r11⟩ := r
  have hnt := r3.2.2.2.1.2.1
  obtain ⟨s0, s1, s2, s3⟩ := sv2 r hs
  obtain ⟨t, ht, et⟩ := textOn_lt r (mI M 77 s)
  have htc : (nI t).toNatClampNeg = t := nI_clamp (by omega)
  have ett : f_txt (mI M) nt s = t := by unfold f_txt; rw [et]; exact htc
  obtain ⟨k, cl, _, hb8, _, _, hbc, hb, _⟩ := (r8 t ht).2.2.2.2.2.1
  rw [ett, hb, nI_clamp (by omega)] at h
  refine w_X11_findDue l _ _ _ (ty47 s) M q ?_
  rw [s1]
  refine ⟨xr16_3 r2, c11_findInForce r hT _ _ ?_⟩
  rw [et, htc, xn20 r2, txR r ht]
  refine ⟨vin (by omega) (by decide), _, rfl, ty51 t, c6_instrumentOf r hs hp hch _ (c11_learn r hs hp _ _ (fun N hN hL => ?_))⟩
  have hN := hN.1
  have rN := Rel_Sm hN r
  have e91 : mI N 91 t = nI k := by rw [Sm_i hN (id := 91) (j := t) rfl, hb]
  rw [Sm_i hN (id := 51 + 128 * t) (scr_o (by omega) (by omega)), hbc, nI_add]
  refine ⟨xo7 rN.2.1, c4_reckon rN ht e91 hb8 (by omega) (fun a ha => by rw [fr_named hN]; exact hL a ha) _ (fun N' hN' _ => ?_)⟩
  have hN2 := Sm_t hN hN'.1
  have h := h N' hN2
  rw [Sm_i hN2 (id := 47 + 128 * s) (scr_o (by omega) (by omega)), s0, fr_worth hN]
  generalize f_worth (mI M) ns t (k + w) s p (nI (f_inst (mI M) s (f_chairOf (mI M) s (nI p)).toNatClampNeg)) = x at *
  unfold f_adj at h
  generalize mI M 76 s = kd at *
  have hne : ∀ k, k ≤ 5 → (kd < 3 ∨ 5 < kd) → 3 ≤ k → ¬ kd = nI k := fun k hk c h2 e => by
    subst e
    rcases c with c | c <;> (simp (disch := omega) only [ile, ilt, ieq, nI_toInt, Int32.reduceToInt] at c; omega)
  refine ⟨fun c => ?_, fun c => ⟨fun c0 => ?_, fun c0 => ?_⟩, fun c => ⟨fun c0 => ?_, fun c0 => ?_⟩, fun c => ?_⟩
  · have h5 : ¬ kd = 5 := hne 5 (by omega) c (by omega)
    have h4 : ¬ kd = 4 := hne 4 (by omega) c (by omega)
    have h3 : ¬ kd = 3 := hne 3 (by omega) c (by omega)
    rw [if_neg h5, if_neg h4, if_neg h3] at h; exact h
  · rw [if_neg (by rw [c]; decide), if_neg (by rw [c]; decide), if_pos c, if_neg (by intro z; subst z; exact c0 rfl)] at h; exact h
  · have : w = 0 := nI_inj (by omega) (by omega) c0
    rw [if_neg (by rw [c]; decide), if_neg (by rw [c]; decide), if_pos c, if_pos this] at h; exact h
  · have : w = 1 := by
      have : ¬ w = 0 := by intro z; subst z; exact c0 rfl
      omega
    rw [if_neg (by rw [c]; decide), if_pos c, if_pos this] at h; exact h
  · have : w = 0 := nI_inj (by omega) (by omega) c0
    rw [if_neg (by rw [c]; decide), if_pos c, if_neg (by omega)] at h; exact h
  · rw [if_pos c] at h; exact h
theorem c11_sumDue (r : Rel M nw np ns nt T) (hT : T < 2 ^ 30) {p w : Nat} (hp : p < np) (hw : w ≤ 1) (a b : Int32) (q : Int64 → o_M → Prop) (h : ∀ N, Sm M N → q (f_due (mI M) ns nt p a b w) N) : K_X11_sumDue l [rV (some 16), iV (nI p), iV a, iV b, iV (nI w)] M q := by
  have hns := r.2.2.1.2.2.1.1
  have hnp := r.2.2.1.2.1.1
  have key : ∀ m s, s + m = ns → ∀ N, Sm M N → H_X11_sumDue_6 l q (nI p) a b (nI w) (lp (f_dueS (mI M) ns nt p a b w) 0 s) (nI s) N := by
    intro m
    induction m with
    | zero =>
      intro s hs N hN
      have rN := Rel_Sm hN r
      have : s = ns := by omega
      subst this
      exact w_X11_sumDue_6 l q _ _ _ _ _ _ N ⟨fun _ => h N hN, fun z => absurd (by rw [rN.2.2.1.2.2.1.2.1]; exact nI_le (Nat.le_refl _) (by omega)) z⟩
    | succ m ih =>
      intro s hs N hN
      have rN := Rel_Sm hN r
      have hss : s < ns := by omega
      have e := fun N' hN' => ih (s + 1) (by omega) N' hN'
      simp only [lp] at e
      rw [f_dueS] at e
      obtain ⟨_, s1, _⟩ := sv2 rN hss
      refine w_X11_sumDue_6 l q _ _ _ _ _ _ N ⟨fun z => ?_, fun _ => ?_⟩
      · rw [rN.2.2.1.2.2.1.2.1, nI_leI (by omega) (by omega)] at z; omega
      rw [n1, xn19 rN.2.1, nI_clamp (by omega), svR rN hss]
      refine ⟨xr16_2 rN.2.1, vin (by omega) (by decide), _, rfl, ty47 s, c11_isWithin _ _ _ _ ?_⟩
      rw [s1, Sm_i hN (id := 77) (j := s) rfl]
      refine ⟨fun z => ?_, fun z => c11_sits rN hss (by omega) _ (fun z2 => ⟨fun _ => ?_, fun y => absurd rfl y⟩) (fun z2 => ⟨fun y => absurd y (by decide), fun _ => ?_⟩)⟩
      · rw [b2_0.mp z] at e
        by_cases hc : f_chairOf (mI M) s (nI p) = -1
        · rw [if_pos hc] at e; exact e N hN
        · rw [if_neg hc] at e; exact e N hN
      · rw [fr_chairOf hN] at z2
        rw [if_pos z2] at e; exact e N hN
      · refine c11_findDue rN hT hss hp hw z2 _ (fun N' hN' => ?_)
        rw [fr_chairOf hN] at z2 ⊢
        rw [if_neg z2, b2_n0.mp z] at e
        have e := e N' (Sm_t hN hN')
        have ett : f_txt (mI N) nt s = f_txt (mI M) nt s := by unfold f_txt; rw [fr_textOn hN, Sm_i hN (id := 77) (j := s) rfl]
        rw [ett, Sm_i hN (id := 76) (j := s) rfl, Sm_row hN (id := 91) (fun _ => rfl), fr_worth hN, fr_inst hN]
        exact e
  exact w_X11_sumDue l _ _ _ _ M q (key ns 0 (by omega) M (Sm_r M))
theorem P_due (r : Rel M nw np ns nt T) (hT : T < 2 ^ 30) (a b c d : Int32) : K_X11_due l [rV (some 16), iV a, iV b, iV c, iV d] M (fun r1 M1 => K_X12_due l [rV (some 60), iV a, iV b, iV c, iV d] M1 (fun r2 M2 => r1 = r2 ∧ Nx T M2)) := by
  have hs : Nx T M := Nx_s r
  have hnp := r.2.2.1.2.1.1
  refine w_X11_due l a b c d M _ (c11_findPlayer r a _ (fun z => ⟨fun _ => ?_, fun b3 e => (by cases e)⟩) (fun p hp e => ⟨fun e => (by cases e), fun b3 e => ?_⟩))
  · exact w_X12_due l a b c d M _ (k12_isPlayer r a _ ⟨fun _ => ⟨rfl, hs⟩, fun y => absurd (b2_0.mpr z) y⟩)
  · subst a
    obtain rfl := Option.some.inj e
    have hrp : ¬ b2 (rng (nI p) 0 (nI np - 1)) = 0 := by rw [rng_ix1 (by omega) hp]; decide
    refine ⟨ty44 p, c11_isSpan b c _ ⟨fun z => ?_, fun z => c11_isWithin d 0 1 _ ⟨fun z2 => ?_, fun z2 => ?_⟩⟩⟩
    · refine w_X12_due l _ b c d M _ (k12_isPlayer r _ _ ⟨fun y => absurd y hrp, fun _ => c12_isDay b _ ⟨fun y => ⟨rfl, hs⟩, fun y1 => c12_isDay c _ ⟨fun y => ⟨rfl, hs⟩, fun y2 => ⟨fun y => ⟨rfl, hs⟩, fun y3 => ?_⟩⟩⟩⟩)
      exfalso
      apply span_f (b2_0.mp z) (b2_n0.mp y1) (b2_n0.mp y2)
      rw [ilt] at y3; rw [ile]; omega
    · obtain ⟨w, _, hw, rfl⟩ := rng_nat 0 1 (by decide) (by decide) (b2_n0.mp z2)
      obtain ⟨s1, s2, s3⟩ := span_t (b2_n0.mp z)
      refine c11_sumDue r hT hp hw b c _ (fun N hN => ?_)
      have rN := Rel_Sm hN r
      refine w_X12_due l _ b c _ N _ (k12_isPlayer rN _ _ ⟨fun y => absurd y hrp, fun _ => c12_isDay b _ ⟨fun y => by rw [s1] at y; exact absurd y (by decide), fun _ => c12_isDay c _ ⟨fun y => by rw [s2] at y; exact absurd y (by decide), fun _ => ⟨fun y => ?_, fun _ => c12_in _ _ _ _ ⟨fun _ => c12_dueOf rN hp hw b c _ (fun N' hN' => ?_), fun y => absurd y z2⟩⟩⟩⟩⟩)
      · rw [ilt] at y; rw [ile] at s3; omega
      · rw [fr_due hN]; exact ⟨rfl, Nx_Sm (Sm_t hN hN') r⟩
    · obtain ⟨s1, s2, s3⟩ := span_t (b2_n0.mp z)
      refine w_X12_due l _ b c _ M _ (k12_isPlayer r _ _ ⟨fun y => absurd y hrp, fun _ => c12_isDay b _ ⟨fun y => by rw [s1] at y; exact absurd y (by decide), fun _ => c12_isDay c _ ⟨fun y => by rw [s2] at y; exact absurd y (by decide), fun _ => ⟨fun y => ⟨rfl, hs⟩, fun _ => c12_in _ _ _ _ ⟨fun y => absurd z2 y, fun y => ⟨rfl, hs⟩⟩⟩⟩⟩⟩)
end S52
