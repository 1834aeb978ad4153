/-! tools: reading a memory that was written to -/
section S37
variable {l : Launch} {M : o_M} {nw np ns nt T : Nat}
theorem mI_sI_1 {M : o_M} {c j a b : Nat} {x : Int32} (h : a ≠ c) : mI (sI M c j x) a b = mI M a b := by rw [mI_sI, if_neg (fun z => h z.1)]
theorem mI_sI_2 {M : o_M} {c j a b : Nat} {x : Int32} (h : b ≠ j) : mI (sI M c j x) a b = mI M a b := by rw [mI_sI, if_neg (fun z => h z.2)]
theorem mI_sI_3 {M : o_M} {c j : Nat} {x : Int32} : mI (sI M c j x) c j = x := by rw [mI_sI, if_pos ⟨rfl, rfl⟩]
theorem mI_sA_1 {M : o_M} {c a b : Nat} {x : Nat → Int32} (h : a ≠ c) : mI (sA M c x) a b = mI M a b := by rw [mI_sA, if_neg h]
theorem mI_sA_2 {M : o_M} {c b : Nat} {x : Nat → Int32} : mI (sA M c x) c b = x b := by rw [mI_sA, if_pos rfl]
theorem mI_nW_1 {M : o_M} {c n a b : Nat} (h : a ≠ c) : mI (nW M c n) a b = mI M a b := by rw [mI_nW, if_neg h]
theorem mI_nW_2 {M : o_M} {c n b : Nat} : mI (nW M c n) c b = 0 := by rw [mI_nW, if_pos rfl]
theorem mR_sR_1 {M : o_M} {c j a b : Nat} {x : Option Nat} (h : a ≠ c) : mR (sR M c j x) a b = mR M a b := by rw [mR_sR, if_neg (fun z => h z.1)]
theorem mR_sR_2 {M : o_M} {c j a b : Nat} {x : Option Nat} (h : b ≠ j) : mR (sR M c j x) a b = mR M a b := by rw [mR_sR, if_neg (fun z => h z.2)]
theorem mR_sR_3 {M : o_M} {c j : Nat} {x : Option Nat} : mR (sR M c j x) c j = x := by rw [mR_sR, if_pos ⟨rfl, rfl⟩]
theorem mR_nW_1 {M : o_M} {c n a b : Nat} (h : a ≠ c) : mR (nW M c n) a b = mR M a b := by rw [mR_nW, if_neg h]
theorem mR_nW_2 {M : o_M} {c n b : Nat} : mR (nW M c n) c b = none := by rw [mR_nW, if_pos rfl]
theorem mN_nW_1 {M : o_M} {c n a : Nat} (h : a ≠ c) : mN (nW M c n) a = mN M a := by rw [mN_nW, if_neg h]
theorem mN_nW_2 {M : o_M} {c n : Nat} : mN (nW M c n) c = n := by rw [mN_nW, if_pos rfl]
theorem mJ_sJ_1 {M : o_M} {c j a b : Nat} {x : Int64} (h : a ≠ c) : mJ (sJ M c j x) a b = mJ M a b := by rw [mJ_sJ, if_neg (fun z => h z.1)]
theorem mJ_sJ_2 {M : o_M} {c j a b : Nat} {x : Int64} (h : b ≠ j) : mJ (sJ M c j x) a b = mJ M a b := by rw [mJ_sJ, if_neg (fun z => h z.2)]
theorem mJ_sJ_3 {M : o_M} {c j : Nat} {x : Int64} : mJ (sJ M c j x) c j = x := by rw [mJ_sJ, if_pos ⟨rfl, rfl⟩]
theorem mJ_nW_1 {M : o_M} {c n a b : Nat} (h : a ≠ c) : mJ (nW M c n) a b = mJ M a b := by rw [mJ_nW, if_neg h]
theorem mJ_nW_2 {M : o_M} {c n b : Nat} : mJ (nW M c n) c b = 0 := by rw [mJ_nW, if_pos rfl]
theorem wM_k {M N : o_M} (h1 : ∀ k, mR N 60 k = mR M 60 k) (h2 : ∀ x, 61 ≤ x → x ≤ 118 → mN N x = mN M x) (h : wM M) : wM N := fun p hp => by
  have hb : ∀ p ∈ o_m60, p.1 ≤ 57 := by decide
  rw [h1, h2 _ (by omega) (by have := hb p hp; omega)]; exact h p hp
theorem wX_k {M N : o_M} (h1 : ∀ a k, a = 16 ∨ a = 23 ∨ a = 26 ∨ a = 29 ∨ a = 35 ∨ a = 38 → mR N a k = mR M a k) (h2 : ∀ x, 17 ≤ x → x ≤ 40 → mN N x = mN M x) (h : wX M) : wX N := by
  have hb : ∀ p ∈ o_x, (p.1 = 16 ∨ p.1 = 23 ∨ p.1 = 26 ∨ p.1 = 29 ∨ p.1 = 35 ∨ p.1 = 38) ∧ 17 ≤ p.2.2.1 ∧ p.2.2.1 ≤ 40 := by decide
  refine ⟨fun p hp => ?_, fun p hp => ?_, ?_⟩
  · rw [h1 _ _ (hb p hp).1, h2 _ (hb p hp).2.1 (hb p hp).2.2]; exact h.1 p hp
  · rw [h1 _ _ (Or.inl rfl)]; exact h.2.1 p hp
  · rw [h1 _ _ (by omega)]; exact h.2.2
/-- the next state: some relation again -/
def Nx (T : Nat) (M : o_M) : Prop := ∃ nw np ns nt T', T' ≤ T + 1 ∧ Rel M nw np ns nt T'
theorem Nx_s (r : Rel M nw np ns nt T) : Nx T M := ⟨nw, np, ns, nt, T, by omega, r⟩
theorem Nx_Sm {N : o_M} (h : Sm M N) (r : Rel M nw np ns nt T) : Nx T N := Nx_s (Rel_Sm h r)
theorem rng_nat {v A B : Int32} (a b : Nat) (hA : A.toInt = a) (hB : B.toInt = b) (h : rng v A B = true) : ∃ i, a ≤ i ∧ i ≤ b ∧ v = nI i := by
  unfold rng at h
  simp only [hA, hB, decide_eq_true_eq] at h
  refine ⟨v.toInt.toNat, by omega, by omega, ?_⟩
  have := Int32.toInt_lt v
  rw [ieq, nI_toInt (by omega)]; omega
theorem rng_pr {n : Nat} (hn : n < 2 ^ 30) : (nI n - 1).toInt = (n : Int) - 1 := by
  have := pk_sub_toInt (a := n) (b := 1) hn (by decide)
  exact this
theorem rng_ix {v : Int32} {n : Nat} (hn : n < 2 ^ 30) (h : rng v 0 (nI n - 1) = true) : ∃ i, i < n ∧ v = nI i := by
  unfold rng at h
  rw [rng_pr hn] at h
  have e0 : (0 : Int32).toInt = 0 := by decide
  simp only [e0, decide_eq_true_eq] at h
  refine ⟨v.toInt.toNat, by omega, ?_⟩
  have := Int32.toInt_lt v
  rw [ieq, nI_toInt (by omega)]; omega
theorem rng_ix1 {i n : Nat} (hn : n < 2 ^ 30) (hi : i < n) : rng (nI i) 0 (nI n - 1) = true := by
  unfold rng
  rw [rng_pr hn, nI_toInt (by omega)]
  have e0 : (0 : Int32).toInt = 0 := by decide
  simp only [e0, decide_eq_true_eq]; omega
/-- types of made objects -/
theorem ty43 (i : Nat) : o_ty (43 + 128 * i) = .inl 10 := by
  have : (43 + 128 * i) % 128 = 43 := by omega
  unfold o_ty; rw [this]; rfl
theorem ty44 (i : Nat) : o_ty (44 + 128 * i) = .inl 2 := by
  have : (44 + 128 * i) % 128 = 44 := by omega
  unfold o_ty; rw [this]; rfl
theorem ty47 (i : Nat) : o_ty (47 + 128 * i) = .inl 6 := by
  have : (47 + 128 * i) % 128 = 47 := by omega
  unfold o_ty; rw [this]; rfl
theorem ty51 (i : Nat) : o_ty (51 + 128 * i) = .inl 7 := by
  have : (51 + 128 * i) % 128 = 51 := by omega
  unfold o_ty; rw [this]; rfl
theorem ty41 (i : Nat) : o_ty (41 + 128 * i) = .inl 9 := by
  have : (41 + 128 * i) % 128 = 41 := by omega
  unfold o_ty; rw [this]; rfl
theorem c11_findWork (r : Rel M nw np ns nt T) (v : Int32) (q : Option Nat → o_M → Prop) (h0 : rng v 0 (nI nw - 1) = false → q none M) (h1 : ∀ i, i < nw → v = nI i → q (some (43 + 128 * i)) M) : K_X11_findWork l [rV (some 16), iV v] M q := by
  obtain ⟨r1, r2, r3, r4, r5, _⟩ := r
  have hb := r3.1
  refine w_X11_findWork l v M q (c11_isWithin _ _ _ _ ⟨fun z => ?_, fun z => ?_⟩) <;> rw [hb.2.1] at z
  · exact h0 (b2_0.mp z)
  · obtain ⟨i, hi, e⟩ := rng_ix (by omega) (b2_n0.mp z)
    subst e
    rw [nI_clamp (by omega), xn17 r2, (r5 i hi).1]
    exact ⟨xr16_0 r2, vin (by omega) (by decide), h1 i hi rfl⟩
theorem c11_findPlayer (r : Rel M nw np ns nt T) (v : Int32) (q : Option Nat → o_M → Prop) (h0 : rng v 0 (nI np - 1) = false → q none M) (h1 : ∀ i, i < np → v = nI i → q (some (44 + 128 * i)) M) : K_X11_findPlayer l [rV (some 16), iV v] M q := by
  obtain ⟨r1, r2, r3, r4, r5, r6, _⟩ := r
  have hb := r3.2.1
  refine w_X11_findPlayer l v M q (c11_isWithin _ _ _ _ ⟨fun z => ?_, fun z => ?_⟩) <;> rw [hb.2.1] at z
  · exact h0 (b2_0.mp z)
  · obtain ⟨i, hi, e⟩ := rng_ix (by omega) (b2_n0.mp z)
    subst e
    rw [nI_clamp (by omega), xn18 r2, (r6.1 i hi).1]
    exact ⟨xr16_1 r2, vin (by omega) (by decide), h1 i hi rfl⟩
theorem c11_findService (r : Rel M nw np ns nt T) (v : Int32) (q : Option Nat → o_M → Prop) (h0 : rng v 0 (nI ns - 1) = false → q none M) (h1 : ∀ i, i < ns → v = nI i → q (some (47 + 128 * i)) M) : K_X11_findService l [rV (some 16), iV v] M q := by
  obtain ⟨r1, r2, r3, r4, r5, r6, r7, _⟩ := r
  have hb := r3.2.2.1
  refine w_X11_findService l v M q (c11_isWithin _ _ _ _ ⟨fun z => ?_, fun z => ?_⟩) <;> rw [hb.2.1] at z
  · exact h0 (b2_0.mp z)
  · obtain ⟨i, hi, e⟩ := rng_ix (by omega) (b2_n0.mp z)
    subst e
    rw [nI_clamp (by omega), xn19 r2, (r7.1 i hi).1.1]
    exact ⟨xr16_2 r2, vin (by omega) (by decide), h1 i hi rfl⟩
theorem k12_isWork (r : Rel M nw np ns nt T) (v : Int32) (q : Int32 → o_M → Prop) (h : q (b2 (rng v 0 (nI nw - 1))) M) : K_X12_isWork l [rV (some 60), iV v] M q := c12_isWork v q (by rw [r.2.2.1.1.2.2]; exact h)
theorem k12_isPlayer (r : Rel M nw np ns nt T) (v : Int32) (q : Int32 → o_M → Prop) (h : q (b2 (rng v 0 (nI np - 1))) M) : K_X12_isPlayer l [rV (some 60), iV v] M q := c12_isPlayer v q (by rw [r.2.2.1.2.1.2.2]; exact h)
theorem k12_isService (r : Rel M nw np ns nt T) (v : Int32) (q : Int32 → o_M → Prop) (h : q (b2 (rng v 0 (nI ns - 1))) M) : K_X12_isService l [rV (some 60), iV v] M q := c12_isService v q (by rw [r.2.2.1.2.2.1.2.2]; exact h)
end S37
