/-! the model's next token -/
section S783
variable {l : Launch} {M N M0 : o_M} {b : Nat → Nat} {z t : Nat}
/-- behind the blanks -/
def nxA (l : Launch) (q : o_M → Prop) (M : o_M) : Prop := K_X12_byteAt l [rV (some 60), iV (mI M 60 43)] M (fun r42 M41 => ((¬ r42 = (-1) → K_X12_isLetter l [iV r42] M41 (fun r45 M44 => ((r45 = 0 → K_X12_isDigit l [iV r42] M44 (fun r48 M47 => ((r48 = 0 → ((r42 = 40 → q (sI (sI M47 60 45 r42) 60 43 ((mI (sI M47 60 45 r42) 60 43) + 1))) ∧ (¬ r42 = 40 → ((r42 = 41 → q (sI (sI M47 60 45 r42) 60 43 ((mI (sI M47 60 45 r42) 60 43) + 1))) ∧ (¬ r42 = 41 → ((r42 = 59 → q (sI (sI M47 60 45 r42) 60 43 ((mI (sI M47 60 45 r42) 60 43) + 1))) ∧ (¬ r42 = 59 → ((r42 = 43 → q (sI (sI M47 60 45 r42) 60 43 ((mI (sI M47 60 45 r42) 60 43) + 1))) ∧ (¬ r42 = 43 → ((r42 = 45 → q (sI (sI M47 60 45 r42) 60 43 ((mI (sI M47 60 45 r42) 60 43) + 1))) ∧ (¬ r42 = 45 → ((r42 = 42 → q (sI (sI M47 60 45 r42) 60 43 ((mI (sI M47 60 45 r42) 60 43) + 1))) ∧ (¬ r42 = 42 → ((r42 = 60 → q (sI (sI M47 60 45 r42) 60 43 ((mI (sI M47 60 45 r42) 60 43) + 1))) ∧ (¬ r42 = 60 → ((¬ r42 = 61 → q (sI (sI M47 60 45 2) 60 43 ((mI (sI M47 60 45 2) 60 43) + 1))) ∧ (r42 = 61 → q (sI (sI M47 60 45 r42) 60 43 ((mI (sI M47 60 45 r42) 60 43) + 1))))))))))))))))))) ∧ (¬ r48 = 0 → K_X12_number l [rV (some 60)] M47 (fun M67 => q M67))))) ∧ (¬ r45 = 0 → K_X12_word l [rV (some 60)] M44 (fun M68 => q M68))))) ∧ (r42 = (-1) → q (sI M41 60 45 0))))
/-- a step of the blanks -/
def nxF (l : Launch) (q : o_M → Prop) (M : o_M) : Prop := K_X12_byteAt l [rV (some 60), iV (mI M 60 43)] M (fun r36 M35 => ((r36 = 32 → H_X12_next_0 l q (sI M35 60 43 ((mI M35 60 43) + 1))) ∧ (¬ r36 = 32 → K_X12_byteAt l [rV (some 60), iV (mI M35 60 43)] M35 (fun r39 M38 => ((¬ r39 = 10 → nxA l q (sI M38 60 44 (mI M38 60 43))) ∧ (r39 = 10 → H_X12_next_0 l q (sI M38 60 43 ((mI M38 60 43) + 1))))))))
theorem nxK {q : o_M → Prop} (h : nxF l q M) : K_X12_next l [rV (some 60)] M q := w_X12_next l M q h
theorem nxH {q : o_M → Prop} (h : nxF l q M) : H_X12_next_0 l q M := w_X12_next_0 l q M h
theorem ysg_o {x : Nat} (h : ¬ (x = 40 ∨ x = 41 ∨ x = 59 ∨ x = 43 ∨ x = 45 ∨ x = 42 ∨ x = 60 ∨ x = 61)) : ysg x = 26 := by
  unfold ysg
  rw [if_neg (by omega), if_neg (by omega), if_neg (by omega), if_neg (by omega), if_neg (by omega), if_neg (by omega), if_neg (by omega), if_neg (by omega)]
theorem ysg_m {x : Nat} (h : x = 40 ∨ x = 41 ∨ x = 59 ∨ x = 43 ∨ x = 45 ∨ x = 42 ∨ x = 60 ∨ x = 61) : nI x = mtk (ysg x) := by
  rcases h with h | h | h | h | h | h | h | h <;> subst h <;> decide
theorem c12_nxA (hB : BM M t b z) {n p : Nat} (hp : p ≤ z) (hs : ysk isB b n (z - n) = p) (h44 : mI M 60 44 = nI p) (h43 : mI M 60 43 = nI p) (q : o_M → Prop) (hq : ∀ N, Fi PQ M N → mI N 60 43 = nI (lex b z n).1 → mI N 60 44 = nI (lex b z n).2.1 → mI N 60 45 = mtk (lex b z n).2.2.1 → ((lex b z n).2.2.1 < 10 → mI N 60 46 = nI (lex b z n).2.2.1) → ((lex b z n).2.2.1 = 24 → mI N 60 46 = nI (lex b z n).2.2.2) → q N) : nxA l q M := by
  have hz : z ≤ 300 := hB.2.2.2.2.1
  have el : lex b z n = if z ≤ p then (p, p, 25, 0) else if isL (b p) then (ysk isL b p (z - p), p, wt b p (ysk isL b p (z - p)) 16, 0) else if isD (b p) then (ysk isD b p (z - p), p, if ysk isD b p (z - p) - p ≤ 5 then 24 else 26, ydec b p (ysk isD b p (z - p) - p)) else (p + 1, p, ysg (b p), 0) := by unfold lex; rw [hs]
  have wNQ : ∀ a j, PN a j → PQ a j := fun a j h => by unfold PN at h; unfold PQ; omega
  unfold nxA
  rw [h43]
  refine c12_byteAt hB (by omega) _ ⟨fun c => ?_, fun c => ?_⟩
  · have hpz : p < z := by
      by_cases e : p < z
      · exact e
      · unfold ybt at c; rw [if_neg e] at c; exact absurd rfl c
    have v1 := (hB.2.2.2.2.2.2 p hpz).1
    rw [if_neg (by omega)] at el
    refine c12_isL (fun h => v1) _ ⟨fun w1 => ?_, fun w1 => ?_⟩
    · rw [decide_eq_true hpz, Bool.true_and] at w1
      rw [if_neg (by rw [b2_0.mp w1]; exact Bool.false_ne_true)] at el
      refine c12_isD (fun h => v1) _ ⟨fun w2 => ?_, fun w2 => ?_⟩
      · rw [decide_eq_true hpz, Bool.true_and] at w2
        rw [if_neg (by rw [b2_0.mp w2]; exact Bool.false_ne_true)] at el
        rw [el] at hq
        have hy := ysg_b (b p)
        have hby : ybt b z p = nI (b p) := if_pos hpz
        rw [hby]
        have yes : (b p = 40 ∨ b p = 41 ∨ b p = 59 ∨ b p = 43 ∨ b p = 45 ∨ b p = 42 ∨ b p = 60 ∨ b p = 61) → q (sI (sI M 60 45 (nI (b p))) 60 43 ((mI (sI M 60 45 (nI (b p))) 60 43) + 1)) := fun h => hq _ (Fi_s (Fi_s (Fi_r _ _) (by unfold PQ; omega)) (by unfold PQ; omega)) (by simp (disch := omega) only [true_and, mI_sI_1, mI_sI_2, mI_sI_3, mI_nW_1, mI_nW_2, mI_sR, mI_sJ, mI_sA_1, mI_sA_2, mR_sI, mR_sJ, mR_sA, mR_sR_1, mR_sR_2, mR_sR_3, mR_nW_1, mR_nW_2, mN_sI, mN_sJ, mN_sR, mN_sA, mN_nW_1, mN_nW_2, mJ_sI, mJ_sR, mJ_sA, mJ_sJ_1, mJ_sJ_2, mJ_sJ_3, mJ_nW_1, mJ_nW_2]; rw [h43, n1]) (by simp (disch := omega) only [true_and, mI_sI_1, mI_sI_2, mI_sI_3, mI_nW_1, mI_nW_2, mI_sR, mI_sJ, mI_sA_1, mI_sA_2, mR_sI, mR_sJ, mR_sA, mR_sR_1, mR_sR_2, mR_sR_3, mR_nW_1, mR_nW_2, mN_sI, mN_sJ, mN_sR, mN_sA, mN_nW_1, mN_nW_2, mJ_sI, mJ_sR, mJ_sA, mJ_sJ_1, mJ_sJ_2, mJ_sJ_3, mJ_nW_1, mJ_nW_2]; exact h44) (by simp (disch := omega) only [true_and, mI_sI_1, mI_sI_2, mI_sI_3, mI_nW_1, mI_nW_2, mI_sR, mI_sJ, mI_sA_1, mI_sA_2, mR_sI, mR_sJ, mR_sA, mR_sR_1, mR_sR_2, mR_sR_3, mR_nW_1, mR_nW_2, mN_sI, mN_sJ, mN_sR, mN_sA, mN_nW_1, mN_nW_2, mJ_sI, mJ_sR, mJ_sA, mJ_sJ_1, mJ_sJ_2, mJ_sJ_3, mJ_nW_1, mJ_nW_2]; exact ysg_m h) (fun e => by dsimp only at e; omega) (fun e => by dsimp only at e; omega)
        have ne : ∀ {k : Nat}, k < 256 → (nI (b p) = nI k ↔ b p = k) := fun hk => nI_eq (by omega) (by omega)
        refine ⟨fun c1 => yes (Or.inl ((ne (k := 40) (by decide)).mp c1)), fun c1 => ⟨fun c2 => yes (Or.inr (Or.inl ((ne (k := 41) (by decide)).mp c2))), fun c2 => ⟨fun c3 => yes (Or.inr (Or.inr (Or.inl ((ne (k := 59) (by decide)).mp c3)))), fun c3 => ⟨fun c4 => yes (Or.inr (Or.inr (Or.inr (Or.inl ((ne (k := 43) (by decide)).mp c4))))), fun c4 => ⟨fun c5 => yes (Or.inr (Or.inr (Or.inr (Or.inr (Or.inl ((ne (k := 45) (by decide)).mp c5)))))), fun c5 => ⟨fun c6 => yes (Or.inr (Or.inr (Or.inr (Or.inr (Or.inr (Or.inl ((ne (k := 42) (by decide)).mp c6))))))), fun c6 => ⟨fun c7 => yes (Or.inr (Or.inr (Or.inr (Or.inr (Or.inr (Or.inr (Or.inl ((ne (k := 60) (by decide)).mp c7)))))))), fun c7 => ⟨fun c8 => ?_, fun c8 => yes (Or.inr (Or.inr (Or.inr (Or.inr (Or.inr (Or.inr (Or.inr ((ne (k := 61) (by decide)).mp c8))))))))⟩⟩⟩⟩⟩⟩⟩⟩
        have d1 : ¬ b p = 40 := fun e => c1 ((ne (k := 40) (by decide)).mpr e)
        have d2 : ¬ b p = 41 := fun e => c2 ((ne (k := 41) (by decide)).mpr e)
        have d3 : ¬ b p = 59 := fun e => c3 ((ne (k := 59) (by decide)).mpr e)
        have d4 : ¬ b p = 43 := fun e => c4 ((ne (k := 43) (by decide)).mpr e)
        have d5 : ¬ b p = 45 := fun e => c5 ((ne (k := 45) (by decide)).mpr e)
        have d6 : ¬ b p = 42 := fun e => c6 ((ne (k := 42) (by decide)).mpr e)
        have d7 : ¬ b p = 60 := fun e => c7 ((ne (k := 60) (by decide)).mpr e)
        have d8 : ¬ b p = 61 := fun e => c8 ((ne (k := 61) (by decide)).mpr e)
        have ey : ysg (b p) = 26 := ysg_o (by omega)
        rw [ey] at hq
        exact hq _ (Fi_s (Fi_s (Fi_r _ _) (by unfold PQ; omega)) (by unfold PQ; omega)) (by simp (disch := omega) only [true_and, mI_sI_1, mI_sI_2, mI_sI_3, mI_nW_1, mI_nW_2, mI_sR, mI_sJ, mI_sA_1, mI_sA_2, mR_sI, mR_sJ, mR_sA, mR_sR_1, mR_sR_2, mR_sR_3, mR_nW_1, mR_nW_2, mN_sI, mN_sJ, mN_sR, mN_sA, mN_nW_1, mN_nW_2, mJ_sI, mJ_sR, mJ_sA, mJ_sJ_1, mJ_sJ_2, mJ_sJ_3, mJ_nW_1, mJ_nW_2]; rw [h43, n1]) (by simp (disch := omega) only [true_and, mI_sI_1, mI_sI_2, mI_sI_3, mI_nW_1, mI_nW_2, mI_sR, mI_sJ, mI_sA_1, mI_sA_2, mR_sI, mR_sJ, mR_sA, mR_sR_1, mR_sR_2, mR_sR_3, mR_nW_1, mR_nW_2, mN_sI, mN_sJ, mN_sR, mN_sA, mN_nW_1, mN_nW_2, mJ_sI, mJ_sR, mJ_sA, mJ_sJ_1, mJ_sJ_2, mJ_sJ_3, mJ_nW_1, mJ_nW_2]; exact h44) (by simp (disch := omega) only [true_and, mI_sI_1, mI_sI_2, mI_sI_3, mI_nW_1, mI_nW_2, mI_sR, mI_sJ, mI_sA_1, mI_sA_2, mR_sI, mR_sJ, mR_sA, mR_sR_1, mR_sR_2, mR_sR_3, mR_nW_1, mR_nW_2, mN_sI, mN_sJ, mN_sR, mN_sA, mN_nW_1, mN_nW_2, mJ_sI, mJ_sR, mJ_sA, mJ_sJ_1, mJ_sJ_2, mJ_sJ_3, mJ_nW_1, mJ_nW_2]; rfl) (fun e => by dsimp only at e; omega) (fun e => by dsimp only at e; omega)
      · rw [decide_eq_true hpz, Bool.true_and] at w2
        rw [if_pos (b2_n0.mp w2)] at el
        rw [el] at hq
        refine c12_number hB hp h44 h43 _ (fun N' e f0 f1 f2 f3 f4 => ?_)
        subst f0
        refine hq N' (Fi_w wNQ f1) f2 ?_ f3 (fun e => ?_) (fun e => ?_)
        · rw [f1.1 60 44 (by unfold PN; omega)]; exact h44
        · dsimp only at e; split at e <;> omega
        · dsimp only at e ⊢
          refine f4 ?_
          split at e
          · assumption
          · omega
    · rw [decide_eq_true hpz, Bool.true_and] at w1
      rw [if_pos (b2_n0.mp w1)] at el
      rw [el] at hq
      have hwb := wt_b (b := b) (p := p) (e := ysk isL b p (z - p)) 16
      refine c12_word hB hpz (b2_n0.mp w1) h44 h43 _ (fun N' f1 f2 f3 f4 => hq N' (Fi_w wNQ f1) f2 ?_ f3 (fun e => ?_) (fun e => ?_))
      · rw [f1.1 60 44 (by unfold PN; omega)]; exact h44
      · dsimp only at e ⊢; exact f4 (by omega)
      · dsimp only at e; omega
  · have hpz : z ≤ p := by
      by_cases e : p < z
      · have v1 := (hB.2.2.2.2.2.2 p e).1
        unfold ybt at c; rw [if_pos e] at c; exact absurd c (nI_ne1 (by omega))
      · omega
    rw [if_pos hpz] at el
    rw [el] at hq
    exact hq _ (Fi_s (Fi_r _ _) (by unfold PQ; omega)) (by simp (disch := omega) only [true_and, mI_sI_1, mI_sI_2, mI_sI_3, mI_nW_1, mI_nW_2, mI_sR, mI_sJ, mI_sA_1, mI_sA_2, mR_sI, mR_sJ, mR_sA, mR_sR_1, mR_sR_2, mR_sR_3, mR_nW_1, mR_nW_2, mN_sI, mN_sJ, mN_sR, mN_sA, mN_nW_1, mN_nW_2, mJ_sI, mJ_sR, mJ_sA, mJ_sJ_1, mJ_sJ_2, mJ_sJ_3, mJ_nW_1, mJ_nW_2]; exact h43) (by simp (disch := omega) only [true_and, mI_sI_1, mI_sI_2, mI_sI_3, mI_nW_1, mI_nW_2, mI_sR, mI_sJ, mI_sA_1, mI_sA_2, mR_sI, mR_sJ, mR_sA, mR_sR_1, mR_sR_2, mR_sR_3, mR_nW_1, mR_nW_2, mN_sI, mN_sJ, mN_sR, mN_sA, mN_nW_1, mN_nW_2, mJ_sI, mJ_sR, mJ_sA, mJ_sJ_1, mJ_sJ_2, mJ_sJ_3, mJ_nW_1, mJ_nW_2]; exact h44) mI_sI_3 (fun e => absurd (show (25 : Nat) < 10 from e) (by decide)) (fun e => absurd (show (25 : Nat) = 24 from e) (by decide))
theorem c12_next (hB : BM M t b z) {n : Nat} (h43 : mI M 60 43 = nI n) (hn : n ≤ z) (q : o_M → Prop) (hq : ∀ N, Fi PQ M N → mI N 60 43 = nI (lex b z n).1 → mI N 60 44 = nI (lex b z n).2.1 → mI N 60 45 = mtk (lex b z n).2.2.1 → ((lex b z n).2.2.1 < 10 → mI N 60 46 = nI (lex b z n).2.2.1) → ((lex b z n).2.2.1 = 24 → mI N 60 46 = nI (lex b z n).2.2.2) → q N) : K_X12_next l [rV (some 60)] M q := by
  have hz : z ≤ 300 := hB.2.2.2.2.1
  have stop : ∀ k N, k ≤ z → ysk isB b n (z - n) = k → Fi PQ M N → mI N 60 43 = nI k → nxA l q (sI N 60 44 (mI N 60 43)) := fun k N hk hs hF k43 => by
    have hF' : Fi PQ M (sI N 60 44 (mI N 60 43)) := Fi_s hF (by unfold PQ; omega)
    exact c12_nxA (BM_Q hF' hB) hk hs (by rw [mI_sI_3]; exact k43) (by simp (disch := omega) only [true_and, mI_sI_1, mI_sI_2, mI_sI_3, mI_nW_1, mI_nW_2, mI_sR, mI_sJ, mI_sA_1, mI_sA_2, mR_sI, mR_sJ, mR_sA, mR_sR_1, mR_sR_2, mR_sR_3, mR_nW_1, mR_nW_2, mN_sI, mN_sJ, mN_sR, mN_sA, mN_nW_1, mN_nW_2, mJ_sI, mJ_sR, mJ_sA, mJ_sJ_1, mJ_sJ_2, mJ_sJ_3, mJ_nW_1, mJ_nW_2]; exact k43) q (fun N' f1 => hq N' (Fi_t hF' f1))
  have key : ∀ m k N, k + m = z → n ≤ k → ysk isB b k m = ysk isB b n (z - n) → Fi PQ M N → mI N 60 43 = nI k → nxF l q N := by
    intro m
    induction m with
    | zero =>
      intro k N hk hpk hs hF k43
      have hB1 := BM_Q hF hB
      have e0 : ybt b z k = -1 := if_neg (by omega)
      unfold nxF
      rw [show K_X12_byteAt l [rV (some 60), iV (mI N 60 43)] N = K_X12_byteAt l [rV (some 60), iV (nI k)] N by rw [k43]]
      refine c12_byteAt hB1 (by omega) _ ?_
      rw [e0]
      refine ⟨fun w => absurd w (by decide), fun _ => ?_⟩
      rw [show K_X12_byteAt l [rV (some 60), iV (mI N 60 43)] N = K_X12_byteAt l [rV (some 60), iV (nI k)] N by rw [k43]]
      refine c12_byteAt hB1 (by omega) _ ?_
      rw [e0]
      exact ⟨fun _ => stop k N (by omega) hs.symm hF k43, fun w => absurd w (by decide)⟩
    | succ m ih =>
      intro k N hk hpk hs hF k43
      have hB1 := BM_Q hF hB
      have v1 := (hB1.2.2.2.2.2.2 k (by omega)).1
      have e0 : ybt b z k = nI (b k) := if_pos (by omega)
      rw [ysk_s] at hs
      have go : isB (b k) = true → H_X12_next_0 l q (sI N 60 43 ((mI N 60 43) + 1)) := fun h => by
        rw [if_pos h] at hs
        rw [k43, n1]
        exact nxH (ih (k + 1) _ (by omega) (by omega) hs (Fi_s hF (by unfold PQ; omega)) mI_sI_3)
      have ne : ∀ {j : Nat}, j < 256 → (nI (b k) = nI j ↔ b k = j) := fun hj => nI_eq (by omega) (by omega)
      unfold nxF
      rw [show K_X12_byteAt l [rV (some 60), iV (mI N 60 43)] N = K_X12_byteAt l [rV (some 60), iV (nI k)] N by rw [k43]]
      refine c12_byteAt hB1 (by omega) _ ?_
      rw [e0]
      refine ⟨fun w => go (isB_i.mpr (Or.inl ((ne (j := 32) (by decide)).mp w))), fun w1 => ?_⟩
      rw [show K_X12_byteAt l [rV (some 60), iV (mI N 60 43)] N = K_X12_byteAt l [rV (some 60), iV (nI k)] N by rw [k43]]
      refine c12_byteAt hB1 (by omega) _ ?_
      rw [e0]
      refine ⟨fun w2 => stop k N (by omega) ?_ hF k43, fun w => go (isB_i.mpr (Or.inr ((ne (j := 10) (by decide)).mp w)))⟩
      rw [← hs, if_neg]
      intro h
      rcases isB_i.mp h with h | h
      · exact w1 ((ne (j := 32) (by decide)).mpr h)
      · exact w2 ((ne (j := 10) (by decide)).mpr h)
  exact nxK (key (z - n) n M (by omega) (Nat.le_refl _) rfl (Fi_r _ _) h43)
end S783

