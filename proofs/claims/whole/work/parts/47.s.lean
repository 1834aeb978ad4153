/-! feed -/
section S47
variable {l : Launch} {M : o_M} {nw np ns nt T : Nat}
/-- a byte of a long -/
def byt (b : Int64) (k : Nat) : Int32 := ((b >>> ((8 * nI k).toInt64 &&& 63)) &&& 255).toInt32
theorem byt_lt (b : Int64) (k : Nat) : ∃ n, n < 256 ∧ byt b k = nI n := by
  unfold byt
  generalize b >>> ((8 * nI k).toInt64 &&& 63) = x
  refine ⟨(x.toBitVec &&& 255#64).toNat, ?_, ?_⟩
  · rw [BitVec.toNat_and]
    exact Nat.lt_of_le_of_lt Nat.and_le_right (by decide)
  · have hb : (x.toBitVec &&& 255#64).toNat < 256 := by
      rw [BitVec.toNat_and]
      exact Nat.lt_of_le_of_lt Nat.and_le_right (by decide)
    apply Int32.toBitVec_inj.mp
    apply BitVec.eq_of_toNat_eq
    have e : ((x &&& 255).toInt32).toBitVec = (x.toBitVec &&& 255#64).signExtend 32 := rfl
    rw [e, BitVec.signExtend_eq_setWidth_of_le _ (by decide), BitVec.toNat_setWidth]
    have e2 : (nI (x.toBitVec &&& 255#64).toNat).toBitVec.toNat = (x.toBitVec &&& 255#64).toNat % 2 ^ 32 := by
      show (BitVec.ofNat 32 _).toNat = _
      rw [BitVec.toNat_ofNat]
    rw [e2]
theorem byt_c (b : Int64) (k : Nat) : ((b >>> ((8 * nI k).toInt64 &&& 63)).toInt32).toInt8.toInt32 = (byt b k).toInt8.toInt32 := by
  unfold byt
  generalize b >>> ((8 * nI k).toInt64 &&& 63) = x
  congr 1
  apply Int8.toBitVec_inj.mp
  have e1 : (x.toInt32.toInt8).toBitVec = (x.toBitVec.signExtend 32).signExtend 8 := rfl
  have e2 : ((x &&& 255).toInt32.toInt8).toBitVec = ((x.toBitVec &&& 255#64).signExtend 32).signExtend 8 := rfl
  rw [e1, e2]
  apply BitVec.eq_of_getLsbD_eq
  intro i hi
  rw [BitVec.signExtend_eq_setWidth_of_le _ (by decide), BitVec.signExtend_eq_setWidth_of_le _ (by decide), BitVec.signExtend_eq_setWidth_of_le _ (by decide), BitVec.signExtend_eq_setWidth_of_le _ (by decide)]
  simp only [BitVec.getLsbD_setWidth, BitVec.getLsbD_and]
  have h255 : ∀ i, i < 8 → (255#64).getLsbD i = true := by decide
  rw [h255 i hi]; simp
/-- a memory in which a stretch of a row was written -/
def Wr (M N : o_M) (c t n : Nat) (f : Nat → Int32) : Prop := (∀ a b, mI N a b = if a = c ∧ t ≤ b ∧ b < t + n then f (b - t) else mI M a b) ∧ mJ N = mJ M ∧ mR N = mR M ∧ mN N = mN M ∧ mL N = mL M
theorem Wr_0 (M : o_M) (c t : Nat) (f : Nat → Int32) : Wr M M c t 0 f := ⟨fun a b => by rw [if_neg (by omega)], rfl, rfl, rfl, rfl⟩
theorem Wr_s {M N : o_M} {c t n : Nat} {f : Nat → Int32} (h : Wr M N c t n f) : Wr M (sI N c (t + n) (f n)) c t (n + 1) f := by
  refine ⟨fun a b => ?_, h.2.1, h.2.2.1, h.2.2.2.1, h.2.2.2.2⟩
  rw [mI_sI, h.1]
  by_cases h1 : a = c ∧ b = t + n
  · rw [if_pos h1, if_pos (by omega), h1.2]; congr 1; omega
  · rw [if_neg h1]
    by_cases h2 : a = c ∧ t ≤ b ∧ b < t + n
    · rw [if_pos h2, if_pos (by omega)]
    · rw [if_neg h2, if_neg (by omega)]
theorem Wr_o {M N : o_M} {c t n : Nat} {f : Nat → Int32} (h : Wr M N c t n f) {a b : Nat} (ha : a ≠ c) : mI N a b = mI M a b := by rw [h.1, if_neg (by omega)]
theorem Wr_fr {F : Nat → Prop} {M N : o_M} {c t n : Nat} {f : Nat → Int32} (h : Wr M N c t n f) (hc : ¬ F c) : Fr F M N := fun id hi => ⟨funext fun j => Wr_o h (fun e => hc (by rw [← e]; exact hi)), by rw [h.2.1], by rw [h.2.2.1], by rw [h.2.2.2.1]⟩
theorem P_feed (r : Rel M nw np ns nt T) (a : Int32) (b : Int64) : K_X11_feed l [rV (some 16), iV a, jV b] M (fun r1 M1 => K_X12_feed l [rV (some 60), iV a, jV b] M1 (fun r2 M2 => r1 = r2 ∧ Nx T M2)) := by
  have hs : Nx T M := Nx_s r
  have ⟨r1, r2, r3, r4, r5, r6, r7, r8, r9, r10, r11⟩ := r
  obtain ⟨t, ht, z16, z60, hz⟩ := r10
  refine w_X11_feed l a b M _ (c11_isWithin _ _ _ _ ⟨fun z => ⟨fun z2 => ?_, fun z2 => ?_⟩, fun z => ?_⟩)
  · obtain ⟨n, hn1, hn8, rfl⟩ := rng_nat 1 8 (by decide) (by decide) (b2_n0.mp z)
    rw [z16, nI_add] at z2
    have htn : t + n ≤ 300 := by (simp (disch := omega) only [ile, ilt, ieq, nI_toInt, Int32.reduceToInt] at z2; omega)
    have key2 : ∀ (N1 : o_M), Wr M N1 22 t n (fun k => (byt b k).toInt8.toInt32) → ∀ m k : Nat, k + m = n → ∀ N, Wr (sI N1 16 15 (nI (t + n))) N 84 t k (byt b) → H_X12_feed_31 l (fun r2 M2 => nI (t + n) = r2 ∧ Nx T M2) (nI n) b (nI k) (sI N 60 24 (nI (t + k))) := by
      intro N1 h1 m
      induction m with
      | zero =>
        intro k hk N hN
        have : k = n := by omega
        subst this
        refine w_X12_feed_31 l _ _ _ _ _ ⟨fun _ => ?_, fun y => absurd (nI_le (Nat.le_refl _) (by omega)) y⟩
        simp (disch := omega) only [true_and, mI_sI_1, mI_sI_2, mI_sI_3, mI_nW_1, mI_nW_2, mI_sR, mI_sJ, mI_sA_1, mI_sA_2, mR_sI, mR_sJ, mR_sA, mR_sR_1, mR_sR_2, mR_sR_3, mR_nW_1, mR_nW_2, mN_sI, mN_sJ, mN_sR, mN_sA, mN_nW_1, mN_nW_2, mJ_sI, mJ_sR, mJ_sA, mJ_sJ_1, mJ_sJ_2, mJ_sJ_3, mJ_nW_1, mJ_nW_2]
        refine Nx_s (nw := nw) (np := np) (ns := ns) (nt := nt) ?_
        have hF : ∀ {F : Nat → Prop}, ¬ F 22 → ¬ F 84 → ¬ F 16 → ¬ F 60 → Fr F M (sI N 60 24 (nI (t + k))) := fun f1 f2 f3 f4 => Fr_sI (Fr_t (Fr_sI (Wr_fr h1 f1) f3 _ _) (Wr_fr hN f2)) f4 _ _
        have hR : mR N = mR M := hN.2.2.1.trans h1.2.2.1
        have hNN : mN N = mN M := hN.2.2.2.1.trans h1.2.2.2.1
        have hI : ∀ a j, a ≠ 22 → a ≠ 84 → ¬ (a = 16 ∧ j = 15) → mI N a j = mI M a j := fun a j f1 f2 f3 => by
          rw [Wr_o hN f2, mI_sI, if_neg f3, Wr_o h1 f1]
        refine ⟨wM_k (fun k => by simp (disch := omega) only [true_and, mI_sI_1, mI_sI_2, mI_sI_3, mI_nW_1, mI_nW_2, mI_sR, mI_sJ, mI_sA_1, mI_sA_2, mR_sI, mR_sJ, mR_sA, mR_sR_1, mR_sR_2, mR_sR_3, mR_nW_1, mR_nW_2, mN_sI, mN_sJ, mN_sR, mN_sA, mN_nW_1, mN_nW_2, mJ_sI, mJ_sR, mJ_sA, mJ_sJ_1, mJ_sJ_2, mJ_sJ_3, mJ_nW_1, mJ_nW_2, hR]) (fun x _ _ => by simp (disch := omega) only [true_and, mI_sI_1, mI_sI_2, mI_sI_3, mI_nW_1, mI_nW_2, mI_sR, mI_sJ, mI_sA_1, mI_sA_2, mR_sI, mR_sJ, mR_sA, mR_sR_1, mR_sR_2, mR_sR_3, mR_nW_1, mR_nW_2, mN_sI, mN_sJ, mN_sR, mN_sA, mN_nW_1, mN_nW_2, mJ_sI, mJ_sR, mJ_sA, mJ_sJ_1, mJ_sJ_2, mJ_sJ_3, mJ_nW_1, mJ_nW_2, hNN]) r1, wX_k (fun x k hx => by simp (disch := omega) only [true_and, mI_sI_1, mI_sI_2, mI_sI_3, mI_nW_1, mI_nW_2, mI_sR, mI_sJ, mI_sA_1, mI_sA_2, mR_sI, mR_sJ, mR_sA, mR_sR_1, mR_sR_2, mR_sR_3, mR_nW_1, mR_nW_2, mN_sI, mN_sJ, mN_sR, mN_sA, mN_nW_1, mN_nW_2, mJ_sI, mJ_sR, mJ_sA, mJ_sJ_1, mJ_sJ_2, mJ_sJ_3, mJ_nW_1, mJ_nW_2, hR]) (fun x _ _ => by simp (disch := omega) only [true_and, mI_sI_1, mI_sI_2, mI_sI_3, mI_nW_1, mI_nW_2, mI_sR, mI_sJ, mI_sA_1, mI_sA_2, mR_sI, mR_sJ, mR_sA, mR_sR_1, mR_sR_2, mR_sR_3, mR_nW_1, mR_nW_2, mN_sI, mN_sJ, mN_sR, mN_sA, mN_nW_1, mN_nW_2, mJ_sI, mJ_sR, mJ_sA, mJ_sJ_1, mJ_sJ_2, mJ_sJ_3, mJ_nW_1, mJ_nW_2, hNN]) r2, ?_, ?_, RW_fr (hF (by unfold FW; omega) (by unfold FW; omega) (by unfold FW; omega) (by unfold FW; omega)) r5, RP_fr (hF (by unfold FP; omega) (by unfold FP; omega) (by unfold FP; omega) (by unfold FP; omega)) r6, RS_fr (hF (by unfold FS; omega) (by unfold FS; omega) (by unfold FS; omega) (by unfold FS; omega)) r7, RT_fr (hF (by unfold FT; omega) (by unfold FT; omega) (by unfold FT; omega) (by unfold FT; omega)) r8, RY_fr (hF (by unfold FY; omega) (by unfold FY; omega) (by unfold FY; omega) (by unfold FY; omega)) r9, ?_, ?_⟩
        · unfold RC
          simp (disch := omega) only [true_and, mI_sI_1, mI_sI_2, mI_sI_3, mI_nW_1, mI_nW_2, mI_sR, mI_sJ, mI_sA_1, mI_sA_2, mR_sI, mR_sJ, mR_sA, mR_sR_1, mR_sR_2, mR_sR_3, mR_nW_1, mR_nW_2, mN_sI, mN_sJ, mN_sR, mN_sA, mN_nW_1, mN_nW_2, mJ_sI, mJ_sR, mJ_sA, mJ_sJ_1, mJ_sJ_2, mJ_sJ_3, mJ_nW_1, mJ_nW_2]
          rw [hI 16 11 (by omega) (by omega) (by omega), hI 16 12 (by omega) (by omega) (by omega), hI 16 13 (by omega) (by omega) (by omega), hI 16 14 (by omega) (by omega) (by omega), hI 16 16 (by omega) (by omega) (by omega), hI 16 17 (by omega) (by omega) (by omega), hI 60 0 (by omega) (by omega) (by omega), hI 60 7 (by omega) (by omega) (by omega), hI 60 14 (by omega) (by omega) (by omega), hI 60 25 (by omega) (by omega) (by omega), hI 60 34 (by omega) (by omega) (by omega), hI 60 39 (by omega) (by omega) (by omega)]
          exact r3
        · intro x hx
          rw [mL_sI, hN.2.2.2.2, mL_sI, h1.2.2.2.2] at hx
          exact r4 x hx
        · refine ⟨t + k, htn, ?_, ?_, fun i hi => ?_⟩
          · simp (disch := omega) only [true_and, mI_sI_1, mI_sI_2, mI_sI_3, mI_nW_1, mI_nW_2, mI_sR, mI_sJ, mI_sA_1, mI_sA_2, mR_sI, mR_sJ, mR_sA, mR_sR_1, mR_sR_2, mR_sR_3, mR_nW_1, mR_nW_2, mN_sI, mN_sJ, mN_sR, mN_sA, mN_nW_1, mN_nW_2, mJ_sI, mJ_sR, mJ_sA, mJ_sJ_1, mJ_sJ_2, mJ_sJ_3, mJ_nW_1, mJ_nW_2]; rw [Wr_o hN (by decide)]; simp (disch := omega) only [true_and, mI_sI_1, mI_sI_2, mI_sI_3, mI_nW_1, mI_nW_2, mI_sR, mI_sJ, mI_sA_1, mI_sA_2, mR_sI, mR_sJ, mR_sA, mR_sR_1, mR_sR_2, mR_sR_3, mR_nW_1, mR_nW_2, mN_sI, mN_sJ, mN_sR, mN_sA, mN_nW_1, mN_nW_2, mJ_sI, mJ_sR, mJ_sA, mJ_sJ_1, mJ_sJ_2, mJ_sJ_3, mJ_nW_1, mJ_nW_2]
          · simp (disch := omega) only [true_and, mI_sI_1, mI_sI_2, mI_sI_3, mI_nW_1, mI_nW_2, mI_sR, mI_sJ, mI_sA_1, mI_sA_2, mR_sI, mR_sJ, mR_sA, mR_sR_1, mR_sR_2, mR_sR_3, mR_nW_1, mR_nW_2, mN_sI, mN_sJ, mN_sR, mN_sA, mN_nW_1, mN_nW_2, mJ_sI, mJ_sR, mJ_sA, mJ_sJ_1, mJ_sJ_2, mJ_sJ_3, mJ_nW_1, mJ_nW_2]
          · simp (disch := omega) only [true_and, mI_sI_1, mI_sI_2, mI_sI_3, mI_nW_1, mI_nW_2, mI_sR, mI_sJ, mI_sA_1, mI_sA_2, mR_sI, mR_sJ, mR_sA, mR_sR_1, mR_sR_2, mR_sR_3, mR_nW_1, mR_nW_2, mN_sI, mN_sJ, mN_sR, mN_sA, mN_nW_1, mN_nW_2, mJ_sI, mJ_sR, mJ_sA, mJ_sJ_1, mJ_sJ_2, mJ_sJ_3, mJ_nW_1, mJ_nW_2]
            rw [Wr_o hN (by decide), hN.1]
            simp (disch := omega) only [true_and, mI_sI_1, mI_sI_2, mI_sI_3, mI_nW_1, mI_nW_2, mI_sR, mI_sJ, mI_sA_1, mI_sA_2, mR_sI, mR_sJ, mR_sA, mR_sR_1, mR_sR_2, mR_sR_3, mR_nW_1, mR_nW_2, mN_sI, mN_sJ, mN_sR, mN_sA, mN_nW_1, mN_nW_2, mJ_sI, mJ_sR, mJ_sA, mJ_sJ_1, mJ_sJ_2, mJ_sJ_3, mJ_nW_1, mJ_nW_2]
            rw [h1.1]
            by_cases hit : t ≤ i
            · rw [if_pos (by omega), if_pos (by omega)]
              exact ⟨rfl, byt_lt b _⟩
            · rw [if_neg (by omega), if_neg (by omega), Wr_o h1 (by decide)]
              exact hz i (by omega)
        · intro j hj
          simp (disch := omega) only [true_and, mI_sI_1, mI_sI_2, mI_sI_3, mI_nW_1, mI_nW_2, mI_sR, mI_sJ, mI_sA_1, mI_sA_2, mR_sI, mR_sJ, mR_sA, mR_sR_1, mR_sR_2, mR_sR_3, mR_nW_1, mR_nW_2, mN_sI, mN_sJ, mN_sR, mN_sA, mN_nW_1, mN_nW_2, mJ_sI, mJ_sR, mJ_sA, mJ_sJ_1, mJ_sJ_2, mJ_sJ_3, mJ_nW_1, mJ_nW_2]
          rw [hI 102 j (by omega) (by omega) (by omega)]; exact r11 j hj
      | succ m ih =>
        intro k hk N hN
        have hR : mR N = mR M := hN.2.2.1.trans h1.2.2.1
        have hNN : mN N = mN M := hN.2.2.2.1.trans h1.2.2.2.1
        refine w_X12_feed_31 l _ _ _ _ _ ⟨fun y => ?_, fun _ => ?_⟩
        · rw [nI_leI (by omega) (by omega)] at y; omega
        simp (disch := omega) only [true_and, mI_sI_1, mI_sI_2, mI_sI_3, mI_nW_1, mI_nW_2, mI_sR, mI_sJ, mI_sA_1, mI_sA_2, mR_sI, mR_sJ, mR_sA, mR_sR_1, mR_sR_2, mR_sR_3, mR_nW_1, mR_nW_2, mN_sI, mN_sJ, mN_sR, mN_sA, mN_nW_1, mN_nW_2, mJ_sI, mJ_sR, mJ_sA, mJ_sJ_1, mJ_sJ_2, mJ_sJ_3, mJ_nW_1, mJ_nW_2, hR, hNN, wr23 r1, wn23 r1, n1]
        rw [nI_clamp (by omega)]
        refine ⟨vin (by omega) (by decide), ?_⟩
        have e := ih (k + 1) (by omega) _ (Wr_s hN)
        have ee : sI (sI (sI N 60 24 (nI (t + k))) 84 (t + k) (byt b k)) 60 24 (nI (t + k + 1)) = sI (sI N 84 (t + k) (byt b k)) 60 24 (nI (t + (k + 1))) := by
          unfold sI
          simp only [Prod.mk.injEq, and_true]
          funext x y
          by_cases hx : x = 60 ∧ y = 24
          · simp [hx]; rfl
          · simp only [if_neg hx]
        unfold byt at ee e
        rw [ee]; exact e
    have key1 : ∀ m k : Nat, k + m = n → ∀ N, Wr M N 22 t k (fun k => (byt b k).toInt8.toInt32) → H_X11_feed_31 l (fun r1 M1 => K_X12_feed l [rV (some 60), iV (nI n), jV b] M1 (fun r2 M2 => r1 = r2 ∧ Nx T M2)) (nI n) b (nI k) N := by
      intro m
      induction m with
      | zero =>
        intro k hk N hN
        have : k = n := by omega
        subst this
        have e16 : mI N 16 15 = nI t := by rw [Wr_o hN (by decide)]; exact z16
        have e60 : mI N 60 24 = nI t := by rw [Wr_o hN (by decide)]; exact z60
        refine w_X11_feed_31 l _ _ _ _ _ ⟨fun _ => ?_, fun y => absurd (nI_le (Nat.le_refl _) (by omega)) y⟩
        simp (disch := omega) only [true_and, mI_sI_1, mI_sI_2, mI_sI_3, mI_nW_1, mI_nW_2, mI_sR, mI_sJ, mI_sA_1, mI_sA_2, mR_sI, mR_sJ, mR_sA, mR_sR_1, mR_sR_2, mR_sR_3, mR_nW_1, mR_nW_2, mN_sI, mN_sJ, mN_sR, mN_sA, mN_nW_1, mN_nW_2, mJ_sI, mJ_sR, mJ_sA, mJ_sJ_1, mJ_sJ_2, mJ_sJ_3, mJ_nW_1, mJ_nW_2, e16, nI_add]
        refine w_X12_feed l _ _ _ _ (c12_in _ _ _ _ ⟨fun _ => ?_, fun y => absurd y z⟩)
        simp (disch := omega) only [true_and, mI_sI_1, mI_sI_2, mI_sI_3, mI_nW_1, mI_nW_2, mI_sR, mI_sJ, mI_sA_1, mI_sA_2, mR_sI, mR_sJ, mR_sA, mR_sR_1, mR_sR_2, mR_sR_3, mR_nW_1, mR_nW_2, mN_sI, mN_sJ, mN_sR, mN_sA, mN_nW_1, mN_nW_2, mJ_sI, mJ_sR, mJ_sA, mJ_sJ_1, mJ_sJ_2, mJ_sJ_3, mJ_nW_1, mJ_nW_2, e60, nI_add]
        refine ⟨fun _ => ?_, fun y => absurd z2 y⟩
        have e := key2 N hN k 0 (by omega) _ (Wr_0 _ _ _ _)
        have ee : sI (sI N 16 15 (nI (t + k))) 60 24 (nI (t + 0)) = sI N 16 15 (nI (t + k)) := by
          unfold sI
          simp only [Prod.mk.injEq, and_true]
          funext x y
          by_cases hx : x = 60 ∧ y = 24
          · simp [hx]; exact e60.symm
          · simp only [if_neg hx]
        rw [ee] at e; exact e
      | succ m ih =>
        intro k hk N hN
        have e16 : mI N 16 15 = nI t := by rw [Wr_o hN (by decide)]; exact z16
        refine w_X11_feed_31 l _ _ _ _ _ ⟨fun y => ?_, fun _ => ?_⟩
        · rw [nI_leI (by omega) (by omega)] at y; omega
        rw [e16, nI_add, nI_clamp (by omega), hN.2.2.1, hN.2.2.2.1, xn22 r2, n1, pk_vb, byt_c]
        exact ⟨xr16_5 r2, vin (by omega) (by decide), ih (k + 1) (by omega) _ (Wr_s hN)⟩
    exact key1 n 0 (by omega) M (Wr_0 _ _ _ _)
  · rw [z16] at z2
    refine w_X12_feed l _ _ _ _ (c12_in _ _ _ _ ⟨fun _ => ?_, fun y => absurd y z⟩)
    rw [z60]
    exact ⟨fun y => absurd y z2, fun _ => ⟨rfl, hs⟩⟩
  · exact w_X12_feed l _ _ _ _ (c12_in _ _ _ _ ⟨fun y => absurd z y, fun _ => ⟨rfl, hs⟩⟩)
end S47
