/-! the class's reader: words, the next token -/
section S771
variable {l : Launch} {M N M0 : o_M} {b : Nat → Nat} {z : Nat}
theorem spn_e : ∀ w, w < 16 → ∀ j, j < 7 → o_by 1 (7 * w + j) = nI (if j < wln.getD w 0 then wdL.getD (wof.getD w 0 + j) 0 else 32) := by decide +kernel
theorem spn_n : ∀ w, w < 16 → ∀ j, j < wln.getD w 0 → wdL.getD (wof.getD w 0 + j) 0 ≠ 32 ∧ wdL.getD (wof.getD w 0 + j) 0 < 128 := by decide +kernel
theorem wln_7 : ∀ w, w < 16 → wln.getD w 0 ≤ 7 := by decide
theorem wis_i {p e w : Nat} : wis b p e w = true ↔ e - p = wln.getD w 0 ∧ ∀ i, i < wln.getD w 0 → b (p + i) = wdL.getD (wof.getD w 0 + i) 0 := by
  unfold wis
  rw [Bool.and_eq_true, decide_eq_true_eq, List.all_eq_true]
  constructor
  · intro h
    exact ⟨h.1, fun i hi => beq_iff_eq.mp (h.2 i (List.mem_range.mpr hi))⟩
  · intro h
    exact ⟨h.1, fun i hi => beq_iff_eq.mpr (h.2 i (List.mem_range.mp hi))⟩
theorem wis_s {p e w : Nat} (hw : w < 16) (hL : ∀ i, p ≤ i → i < e → isL (b i) = true) (hpe : p ≤ e) : (e - p ≤ 7 ∧ ∀ j, j < 7 → (if p + j < e then b (p + j) else 32) = (if j < wln.getD w 0 then wdL.getD (wof.getD w 0 + j) 0 else 32)) ↔ wis b p e w = true := by
  have h7 := wln_7 w hw
  have hn := fun j hj => (spn_n w hw j hj).1
  rw [wis_i]
  revert h7 hn
  generalize wln.getD w 0 = L
  intro h7 hn
  constructor
  · rintro ⟨h1, h2⟩
    have e1 : e - p = L := by
      by_cases c : e - p < L
      · have := h2 (e - p) (by omega)
        rw [if_neg (by omega), if_pos c] at this
        exact absurd this.symm (hn _ c)
      · by_cases c2 : L < e - p
        · have := h2 L (by omega)
          rw [if_pos (by omega), if_neg (by omega)] at this
          have := isL_i.mp (hL (p + L) (by omega) (by omega))
          omega
        · omega
    refine ⟨e1, fun i hi => ?_⟩
    have := h2 i (by omega)
    rw [if_pos (by omega), if_pos hi] at this
    exact this
  · rintro ⟨h1, h2⟩
    refine ⟨by omega, fun j hj => ?_⟩
    by_cases c : j < L
    · rw [if_pos (by omega), if_pos c]; exact h2 j c
    · rw [if_neg (by omega), if_neg c]
theorem c3_spells (hB : BX M b z) {p e w : Nat} (hw : w < 16) (h8 : mI M 23 8 = nI p) (h9 : mI M 23 9 = nI e) (hpe : p ≤ e) (hez : e ≤ z) (hL : ∀ i, p ≤ i → i < e → isL (b i) = true) (q : Int32 → o_M → Prop) (h : q (b2 (wis b p e w)) M) : K_X3_spells l [rV (some 23), iV (nI w)] M q := by
  obtain ⟨g1, g2, g3, g4, g5, g6, g7, g8, g9⟩ := hB
  have hS := wis_s (b := b) hw hL hpe
  have key : ∀ m i, i + m = 7 → e - p ≤ 7 → (∀ j, j < i → (if p + j < e then b (p + j) else 32) = (if j < wln.getD w 0 then wdL.getD (wof.getD w 0 + j) 0 else 32)) → H_X3_spells_18 l q (nI w) (nI i) M := by
    intro m
    induction m with
    | zero =>
      intro i hi he hj
      have : i = 7 := by omega
      subst this
      refine w_X3_spells_18 l q _ _ M ⟨fun _ => ?_, fun c => absurd (by decide) c⟩
      rw [hS.mp ⟨he, hj⟩] at h; exact h
    | succ m ih =>
      intro i hi he hj
      have hsp := spn_e w hw i (by omega)
      have hnx : ∀ x, x < 256 → (¬ x = (if i < wln.getD w 0 then wdL.getD (wof.getD w 0 + i) 0 else 32)) → (if p + i < e then b (p + i) else 32) = x → q 0 M := fun x hx hne hxe => by
        have : wis b p e w = false := ybf (fun t => hne (by rw [← (hS.mpr t).2 i (by omega), hxe]))
        rw [this] at h; exact h
      have hx128 : (if i < wln.getD w 0 then wdL.getD (wof.getD w 0 + i) 0 else 32) < 128 := by
        split
        · rename_i c; exact (spn_n w hw i c).2
        · decide
      have hyes : (if p + i < e then b (p + i) else 32) = (if i < wln.getD w 0 then wdL.getD (wof.getD w 0 + i) 0 else 32) → H_X3_spells_18 l q (nI w) (nI i + 1) M := fun hh => by
        rw [n1]
        refine ih (i + 1) (by omega) he (fun j hj2 => ?_)
        by_cases c : j = i
        · rw [c]; exact hh
        · exact hj j (by omega)
      have hix : nI w * 7 + nI i = nI (7 * w + i) := by rw [show (7 : Int32) = nI 7 from rfl, pk_mul, nI_add, Nat.mul_comm]
      have hln : 7 * w + i < o_ln 1 := by show _ < 112; omega
      refine w_X3_spells_18 l q _ _ M ⟨fun c => ?_, fun _ => ?_⟩
      · rw [show (7 : Int32) = nI 7 from rfl, nI_leI (by decide) (by omega)] at c; omega
      rw [h8, h9, nI_add, hix]
      refine ⟨fun c => ?_, fun c => ?_⟩
      · rw [nI_leI (by omega) (by omega)] at c
        refine cJ_charAt (i := 1) (by decide) hln _ ⟨fun r => ?_, fun r => ?_⟩
        · rw [hsp] at r
          refine hyes ?_
          rw [if_neg (by omega)]
          exact (nI_eq (by decide) (by omega)).mp r
        · rw [hsp] at r
          exact hnx 32 (by decide) (fun t => r (by rw [← t]; rfl)) (if_neg (by omega))
      · rw [nI_leI (by omega) (by omega)] at c
        have hl := isL_i.mp (hL (p + i) (by omega) (by omega))
        obtain ⟨v1, v2⟩ := g9 (p + i) (by omega)
        rw [nI_clamp (by omega), v2, g6, sgb_c _ (by omega)]
        refine ⟨g3, vin (by omega) (by decide), cJ_charAt (i := 1) (by decide) hln _ ⟨fun r => ?_, fun r => ?_⟩⟩
        · rw [hsp] at r
          refine hyes ?_
          rw [if_pos (by omega)]
          exact (nI_eq (by omega) (by omega)).mp r
        · rw [hsp] at r
          exact hnx (b (p + i)) v1 (fun t => r (by rw [t])) (if_pos (by omega))
  refine w_X3_spells l _ M q ?_
  rw [h8, h9, nI_sb hpe, show (7 : Int32) = nI 7 from rfl, nI_leI (by omega) (by decide)]
  refine ⟨fun c => key 7 0 (by decide) c (fun j hj => absurd hj (by omega)), fun c => ?_⟩
  have : wis b p e w = false := ybf (fun t => c (hS.mpr t).1)
  rw [this] at h; exact h
theorem c3_takeWord (hB : BX M b z) {p : Nat} (hp : p < z) (hLp : isL (b p) = true) (h8 : mI M 23 8 = nI p) (h9 : mI M 23 9 = nI p) (q : o_M → Prop) (hq : ∀ N, Fi PV M N → mI N 23 9 = nI (ysk isL b p (z - p)) → mI N 23 6 = nI (wt b p (ysk isL b p (z - p)) 16) → q N) : K_X3_takeWord l [rV (some 23)] M q := by
  have hz : z ≤ 300 := hB.2.2.2.2.2.2.1
  have hU3 : ¬ PV 23 3 := by unfold PV; omega
  have hU2 : ∀ j, ¬ PV 22 j := fun j => by unfold PV; omega
  have he := ysk_le (P := isL) (b := b) (z - p) p
  have hL : ∀ i, p ≤ i → i < ysk isL b p (z - p) → isL (b i) = true := fun i h1 h2 => ysk_in _ _ i h1 h2
  have W : ∀ m k N, k + m = 16 → Fi PV M N → mI N 23 9 = nI (ysk isL b p (z - p)) → mI N 23 6 = nI (wt b p (ysk isL b p (z - p)) k) → H_X3_takeWord_47 l q (nI k) N := by
    intro m
    induction m with
    | zero =>
      intro k N hk hF k9 k6
      have : k = 16 := by omega
      subst this
      exact w_X3_takeWord_47 l q _ N ⟨fun _ => hq N hF k9 k6, fun c => absurd (by decide) c⟩
    | succ m ih =>
      intro k N hk hF k9 k6
      have k8 : mI N 23 8 = nI p := by rw [hF.1 23 8 (by unfold PV; omega)]; exact h8
      refine w_X3_takeWord_47 l q _ N ⟨fun c => ?_, fun _ => c3_spells (BX_f hU3 hU2 hF hB) (by omega) k8 k9 he.1 (by omega) hL _ ⟨fun c => ?_, fun c => ?_⟩⟩
      · rw [show (16 : Int32) = nI 16 from rfl, nI_leI (by decide) (by omega)] at c; omega
      · rw [n1]
        refine ih (k + 1) N (by omega) hF k9 ?_
        rw [k6]
        show _ = nI (if wis b p (ysk isL b p (z - p)) k then k else wt b p (ysk isL b p (z - p)) k)
        rw [if_neg (by rw [b2_0.mp c]; exact Bool.false_ne_true)]
      · rw [n1]
        refine ih (k + 1) _ (by omega) (Fi_s hF (by unfold PV; omega)) (by simp (disch := omega) only [true_and, mI_sI_1, mI_sI_2, mI_sI_3, mI_nW_1, mI_nW_2, mI_sR, mI_sJ, mI_sA_1, mI_sA_2, mR_sI, mR_sJ, mR_sA, mR_sR_1, mR_sR_2, mR_sR_3, mR_nW_1, mR_nW_2, mN_sI, mN_sJ, mN_sR, mN_sA, mN_nW_1, mN_nW_2, mJ_sI, mJ_sR, mJ_sA, mJ_sJ_1, mJ_sJ_2, mJ_sJ_3, mJ_nW_1, mJ_nW_2]; exact k9) ?_
        rw [mI_sI_3]
        show _ = nI (if wis b p (ysk isL b p (z - p)) k then k else wt b p (ysk isL b p (z - p)) k)
        rw [if_pos (b2_n0.mp c)]
  have W0 : ∀ N, Fi PV M N → mI N 23 9 = nI (ysk isL b p (z - p)) → H_X3_takeWord_47 l q 0 (sI N 23 6 26) := fun N hF k9 => W 16 0 _ (by decide) (Fi_s hF (by unfold PV; omega)) (by simp (disch := omega) only [true_and, mI_sI_1, mI_sI_2, mI_sI_3, mI_nW_1, mI_nW_2, mI_sR, mI_sJ, mI_sA_1, mI_sA_2, mR_sI, mR_sJ, mR_sA, mR_sR_1, mR_sR_2, mR_sR_3, mR_nW_1, mR_nW_2, mN_sI, mN_sJ, mN_sR, mN_sA, mN_nW_1, mN_nW_2, mJ_sI, mJ_sR, mJ_sA, mJ_sJ_1, mJ_sJ_2, mJ_sJ_3, mJ_nW_1, mJ_nW_2]; exact k9) mI_sI_3
  have key : ∀ m k N, k + m = z → p ≤ k → ysk isL b k m = ysk isL b p (z - p) → Fi PV M N → mI N 23 9 = nI k → H_X3_takeWord_0 l q N := by
    intro m
    induction m with
    | zero =>
      intro k N hk hpk hs hF k9
      have hB1 := BX_f hU3 hU2 hF hB
      refine w_X3_takeWord_0 l q N ⟨fun _ => W0 N hF (by rw [k9, ← hs]; rfl), fun w => ?_⟩
      exfalso; apply w
      rw [hB1.2.2.2.2.2.2.2.1, k9]; exact nI_le (by omega) (by omega)
    | succ m ih =>
      intro k N hk hpk hs hF k9
      have hB1 := BX_f hU3 hU2 hF hB
      obtain ⟨g1, g2, g3, g4, g5, g6, g7, g8, g9⟩ := hB1
      obtain ⟨v1, v2⟩ := g9 k (by omega)
      have hs2 : (if isL (b k) then ysk isL b (k + 1) m else k) = ysk isL b p (z - p) := hs
      refine w_X3_takeWord_0 l q N ⟨fun w => ?_, fun _ => ?_⟩
      · rw [g8, k9, nI_leI (by omega) (by omega)] at w; omega
      rw [k9, nI_clamp (by omega), v2, g6]
      refine ⟨g3, vin (by omega) (by decide), c3_isLetter v1 _ ⟨fun w => W0 N hF ?_, fun w => ?_⟩⟩
      · rw [k9, ← hs2, if_neg (by rw [b2_0.mp w]; exact Bool.false_ne_true)]
      · rw [k9, n1]
        exact ih (k + 1) _ (by omega) (by omega) (by rw [← hs2, if_pos (b2_n0.mp w)]) (Fi_s hF (by unfold PV; omega)) mI_sI_3
  obtain ⟨g1, g2, g3, g4, g5, g6, g7, g8, g9⟩ := hB
  obtain ⟨v1, v2⟩ := g9 p hp
  refine w_X3_takeWord l M q ⟨fun w => ?_, fun _ => ?_⟩
  · rw [g8, h9, nI_leI (by omega) (by omega)] at w; omega
  rw [h9, nI_clamp (by omega), v2, g6]
  refine ⟨g3, vin (by omega) (by decide), c3_isLetter v1 _ ⟨fun w => ?_, fun w => ?_⟩⟩
  · rw [hLp] at w; exact absurd w (by decide)
  · rw [h9, n1]
    refine key (z - (p + 1)) (p + 1) _ (by omega) (by omega) ?_ (Fi_s (Fi_r _ _) (by unfold PV; omega)) mI_sI_3
    have e2 : z - p = (z - (p + 1)) + 1 := by omega
    rw [e2]
    show _ = (if isL (b p) then ysk isL b (p + 1) (z - (p + 1)) else p)
    rw [if_pos hLp]
theorem c3_advance (hB : BX M b z) (h11 : mI M 23 11 = -1) {n : Nat} (h9 : mI M 23 9 = nI n) (hn : n ≤ z) (q : o_M → Prop) (hq : ∀ N, Fi PA M N → mI N 23 9 = nI (lex b z n).1 → mI N 23 8 = nI (lex b z n).2.1 → mI N 23 6 = nI (lex b z n).2.2.1 → ((lex b z n).2.2.1 = 24 → mI N 23 7 = nI (lex b z n).2.2.2) → q N) : K_X3_advance l [rV (some 23)] M q := by
  have hz : z ≤ 300 := hB.2.2.2.2.2.2.1
  have hU3 : ¬ PA 23 3 := by unfold PA; omega
  have hU2 : ∀ j, ¬ PA 22 j := fun j => by unfold PA; omega
  have A : ∀ p N, p ≤ z → ysk isB b n (z - n) = p → Fi PA M N → mI N 23 9 = nI p → mI N 23 8 = nI p → (((mI N 23 9) < (mI N 23 3) → (mR N 23 2 = some 22 ∧ (vp_in (mI N 23 9) (mN N 22) ∧ K_X3_isLetter l [iV (mI N 22 (mI N 23 9).toNatClampNeg)] N (fun r7 M6 => ((r7 = 0 → (mR M6 23 2 = some 22 ∧ (vp_in (mI M6 23 9) (mN M6 22) ∧ K_X3_isDigit l [iV (mI M6 22 (mI M6 23 9).toNatClampNeg)] M6 (fun r12 M11 => ((r12 = 0 → K_X3_takeSign l [rV (some 23)] M11 (fun M14 => q M14)) ∧ (¬ r12 = 0 → K_X3_takeNumber l [rV (some 23)] M11 (fun M15 => q M15))))))) ∧ (¬ r7 = 0 → K_X3_takeWord l [rV (some 23)] M6 (fun M16 => q M16))))))) ∧ (¬ (mI N 23 9) < (mI N 23 3) → q (sI N 23 6 25))) := by
    intro p N hp hs hF k9 k8
    have hB1 : BX N b z := BX_f hU3 hU2 hF hB
    have el : lex b z n = if z ≤ p then (p, p, 25, 0) else if isL (b p) then (ysk isL b p (z - p), p, wt b p (ysk isL b p (z - p)) 16, 0) else if isD (b p) then (ysk isD b p (z - p), p, if ysk isD b p (z - p) - p ≤ 5 then 24 else 26, ydec b p (ysk isD b p (z - p) - p)) else (p + 1, p, ysg (b p), 0) := by unfold lex; rw [hs]
    have hB2 := hB1
    obtain ⟨g1, g2, g3, g4, g5, g6, g7, g8, g9⟩ := hB2
    have wWA : ∀ a j, PV a j → PA a j := fun a j h => by unfold PV at h; unfold PA; omega
    have wUA : ∀ a j, PU a j → PA a j := fun a j h => by unfold PU at h; unfold PA; omega
    rw [k9, g8]
    refine ⟨fun w => ?_, fun w => ?_⟩
    · rw [nI_ltI (by omega) (by omega)] at w
      obtain ⟨v1, v2⟩ := g9 p w
      rw [if_neg (by omega)] at el
      rw [nI_clamp (by omega), v2, g6]
      refine ⟨g3, vin (by omega) (by decide), c3_isLetter v1 _ ⟨fun w1 => ?_, fun w1 => ?_⟩⟩
      · rw [if_neg (by rw [b2_0.mp w1]; exact Bool.false_ne_true)] at el
        rw [k9, nI_clamp (by omega), v2, g6]
        refine ⟨g3, vin (by omega) (by decide), c3_isDigit v1 _ ⟨fun w2 => ?_, fun w2 => ?_⟩⟩
        · rw [if_neg (by rw [b2_0.mp w2]; exact Bool.false_ne_true)] at el
          rw [el] at hq
          refine c3_takeSign hB1 w k9 _ (fun N' f1 f2 f3 => hq N' (Fi_t hF (Fi_w wWA f1)) f2 ?_ f3 (fun e => ?_))
          · rw [f1.1 23 8 (by unfold PV; omega)]; exact k8
          · have := ysg_b (b p); dsimp only at e; omega
        · rw [if_pos (b2_n0.mp w2)] at el
          rw [el] at hq
          refine c3_takeNumber hB1 hp k8 k9 _ (fun N' e f0 f1 f2 f3 f4 => ?_)
          subst f0
          refine hq N' (Fi_t hF (Fi_w wUA f1)) f2 ?_ f3 (fun e => ?_)
          · rw [f1.1 23 8 (by unfold PU; omega)]; exact k8
          · dsimp only at e ⊢
            refine f4 ?_
            split at e
            · assumption
            · omega
      · rw [if_pos (b2_n0.mp w1)] at el
        rw [el] at hq
        refine c3_takeWord hB1 w (b2_n0.mp w1) k8 k9 _ (fun N' f1 f2 f3 => hq N' (Fi_t hF (Fi_w wWA f1)) f2 ?_ f3 (fun e => ?_))
        · rw [f1.1 23 8 (by unfold PV; omega)]; exact k8
        · have := wt_b (b := b) (p := p) (e := ysk isL b p (z - p)) 16; dsimp only at e; omega
    · rw [nI_ltI (by omega) (by omega)] at w
      rw [if_pos (by omega)] at el
      rw [el] at hq
      exact hq _ (Fi_s hF (by unfold PA; omega)) (by simp (disch := omega) only [true_and, mI_sI_1, mI_sI_2, mI_sI_3, mI_nW_1, mI_nW_2, mI_sR, mI_sJ, mI_sA_1, mI_sA_2, mR_sI, mR_sJ, mR_sA, mR_sR_1, mR_sR_2, mR_sR_3, mR_nW_1, mR_nW_2, mN_sI, mN_sJ, mN_sR, mN_sA, mN_nW_1, mN_nW_2, mJ_sI, mJ_sR, mJ_sA, mJ_sJ_1, mJ_sJ_2, mJ_sJ_3, mJ_nW_1, mJ_nW_2]; exact k9) (by simp (disch := omega) only [true_and, mI_sI_1, mI_sI_2, mI_sI_3, mI_nW_1, mI_nW_2, mI_sR, mI_sJ, mI_sA_1, mI_sA_2, mR_sI, mR_sJ, mR_sA, mR_sR_1, mR_sR_2, mR_sR_3, mR_nW_1, mR_nW_2, mN_sI, mN_sJ, mN_sR, mN_sA, mN_nW_1, mN_nW_2, mJ_sI, mJ_sR, mJ_sA, mJ_sJ_1, mJ_sJ_2, mJ_sJ_3, mJ_nW_1, mJ_nW_2]; exact k8) mI_sI_3 (fun e => absurd (show (25 : Nat) = 24 from e) (by decide))
  have key : ∀ m k N, k + m = z → n ≤ k → ysk isB b k m = ysk isB b n (z - n) → Fi PA M N → mI N 23 9 = nI k → H_X3_advance_9 l q N := by
    intro m
    induction m with
    | zero =>
      intro k N hk hpk hs hF k9
      have hB1 := BX_f hU3 hU2 hF hB
      refine w_X3_advance_9 l q N ⟨fun _ => A k (sI N 23 8 (mI N 23 9)) (by omega) hs.symm (Fi_s hF (by unfold PA; omega)) (by simp (disch := omega) only [true_and, mI_sI_1, mI_sI_2, mI_sI_3, mI_nW_1, mI_nW_2, mI_sR, mI_sJ, mI_sA_1, mI_sA_2, mR_sI, mR_sJ, mR_sA, mR_sR_1, mR_sR_2, mR_sR_3, mR_nW_1, mR_nW_2, mN_sI, mN_sJ, mN_sR, mN_sA, mN_nW_1, mN_nW_2, mJ_sI, mJ_sR, mJ_sA, mJ_sJ_1, mJ_sJ_2, mJ_sJ_3, mJ_nW_1, mJ_nW_2]; exact k9) (by rw [mI_sI_3]; exact k9), fun w => ?_⟩
      exfalso; apply w
      rw [hB1.2.2.2.2.2.2.2.1, k9]; exact nI_le (by omega) (by omega)
    | succ m ih =>
      intro k N hk hpk hs hF k9
      have hB1 := BX_f hU3 hU2 hF hB
      obtain ⟨g1, g2, g3, g4, g5, g6, g7, g8, g9⟩ := hB1
      obtain ⟨v1, v2⟩ := g9 k (by omega)
      have hs2 : (if isB (b k) then ysk isB b (k + 1) m else k) = ysk isB b n (z - n) := hs
      have AA := A k (sI N 23 8 (mI N 23 9)) (by omega)
      refine w_X3_advance_9 l q N ⟨fun w => ?_, fun _ => ?_⟩
      · rw [g8, k9, nI_leI (by omega) (by omega)] at w; omega
      rw [show mI N 22 (mI N 23 9).toNatClampNeg = sgb (b k) by rw [k9, nI_clamp (by omega)]; exact v2]
      refine ⟨g3, by rw [k9, g6]; exact vin (by omega) (by decide), c3_isBlank v1 _ ⟨fun w => ?_, fun w => ?_⟩⟩
      · exact AA (by rw [← hs2, if_neg (by rw [b2_0.mp w]; exact Bool.false_ne_true)]) (Fi_s hF (by unfold PA; omega)) (by simp (disch := omega) only [true_and, mI_sI_1, mI_sI_2, mI_sI_3, mI_nW_1, mI_nW_2, mI_sR, mI_sJ, mI_sA_1, mI_sA_2, mR_sI, mR_sJ, mR_sA, mR_sR_1, mR_sR_2, mR_sR_3, mR_nW_1, mR_nW_2, mN_sI, mN_sJ, mN_sR, mN_sA, mN_nW_1, mN_nW_2, mJ_sI, mJ_sR, mJ_sA, mJ_sJ_1, mJ_sJ_2, mJ_sJ_3, mJ_nW_1, mJ_nW_2]; exact k9) (by rw [mI_sI_3]; exact k9)
      · rw [k9, n1]
        exact ih (k + 1) _ (by omega) (by omega) (by rw [← hs2, if_pos (b2_n0.mp w)]) (Fi_s hF (by unfold PA; omega)) mI_sI_3
  exact w_X3_advance l M q ⟨fun _ => key (z - n) n M (by omega) (Nat.le_refl _) rfl (Fi_r _ _) h9, fun w => absurd h11 w⟩
end S771
