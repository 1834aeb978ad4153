/-! leave, service -/
section S43
variable {l : Launch} {M : o_M} {nw np ns nt T : Nat}
/-- another service's part, point by point -/
theorem f_mx_p {v w : o_v} {nw s i : Nat} {n0 : Int32} (hn : nw ≤ 12) (h64 : ∀ i, i < nw → w 64 i = v 64 i) (h81 : ∀ k, k < 5 → w 81 (5 * s + k) = v 81 (5 * s + k)) : ∀ k, k ≤ 5 → (∀ j, j < k → ∃ a, a < nw ∧ v 81 (5 * s + j) = nI a) → f_mx w s i n0 k = f_mx v s i n0 k
  | 0 => fun _ _ => rfl
  | k + 1 => fun h5 hk => by
    have e : f_wk w s k = f_wk v s k := by unfold f_wk; rw [h81 k (by omega)]
    obtain ⟨a, ha, hv⟩ := hk k (by omega)
    have e2 : f_needOf w (f_wk v s k) i = f_needOf v (f_wk v s k) i := by
      unfold f_needOf f_wk
      rw [hv, nI_clamp (by omega), h64 a ha]
    unfold f_mx
    rw [f_mx_p hn h64 h81 k (by omega) (fun j hj => hk j (by omega)), e, e2]
theorem f_chairOf_p {v w : o_v} {s : Nat} (h82 : ∀ c, c < 12 → w 82 (12 * s + c) = v 82 (12 * s + c)) (h83 : w 83 s = v 83 s) (p : Int32) : f_chairOf w s p = f_chairOf v s p := by
  have : ∀ m c, c + m = 12 → f_chairN w s p m c = f_chairN v s p m c := fun m => by
    induction m with
    | zero => intro c _; rfl
    | succ m ih => intro c hc; simp only [f_chairN, ih (c + 1) (by omega), h82 c (by omega)]
  unfold f_chairOf; rw [this 12 0 rfl, h83]
theorem f_gapsIn_p {v w : o_v} {s : Nat} (h82 : ∀ c, c < 12 → w 82 (12 * s + c) = v 82 (12 * s + c)) : ∀ n, n ≤ 12 → f_gapsIn w s n = f_gapsIn v s n := by
  intro n
  unfold f_gapsIn
  induction n with
  | zero => intro _; rfl
  | succ n ih => intro h; simp only [lp]; rw [ih (by omega)]; unfold f_gpS; rw [h82 n (by omega)]
theorem SV_s {N : o_M} {s nw' : Nat} (hn : nw ≤ 12) (hle : nw ≤ nw') (hR : mR N 19 s = mR M 19 s) (ho : ∀ t, 47 ≤ t → t ≤ 50 → (∀ j, mI N (t + 128 * s) j = mI M (t + 128 * s) j) ∧ (∀ j, mR N (t + 128 * s) j = mR M (t + 128 * s) j) ∧ mN N (t + 128 * s) = mN M (t + 128 * s)) (h76 : mI N 76 s = mI M 76 s) (h77 : mI N 77 s = mI M 77 s) (h78 : mI N 78 s = mI M 78 s) (h79 : mI N 79 s = mI M 79 s) (h80 : mI N 80 s = mI M 80 s) (h83 : mI N 83 s = mI M 83 s) (h81 : ∀ k, k < 5 → mI N 81 (5 * s + k) = mI M 81 (5 * s + k)) (h82 : ∀ c, c < 12 → mI N 82 (12 * s + c) = mI M 82 (12 * s + c)) (h64 : ∀ i, i < nw → mI N 64 i = mI M 64 i) (r : SV M s nw) : SV N s nw' := by
  obtain ⟨n, hn5, en, hk, hd⟩ := r.2.2.1.2
  have hneed : ∀ i, f_need (mI N) s i none = f_need (mI M) s i none := fun i => by
    unfold f_need
    rw [h76, h80, en, nI_clamp (by omega), f_mx_p hn h64 h81 n hn5 (fun j hj => by obtain ⟨w, h1, h2, _⟩ := hk j hj; exact ⟨w, h1, h2⟩)]
  have hch : f_chairs (mI N) s none = f_chairs (mI M) s none := by
    have : ∀ k, f_chN (mI N) s none k = f_chN (mI M) s none k := fun k => by
      induction k with
      | zero => rfl
      | succ k ih => simp only [f_chN, ih, hneed]
    exact this 6
  obtain ⟨a1, a2, a3⟩ := ho 47 (by omega) (by omega)
  obtain ⟨b1, b2, b3⟩ := ho 48 (by omega) (by omega)
  obtain ⟨c1, c2, c3⟩ := ho 49 (by omega) (by omega)
  obtain ⟨d1, d2, d3⟩ := ho 50 (by omega) (by omega)
  obtain ⟨q1, q2, q3, q4, q5, m, hm, em, q6, q7, q8⟩ := r
  refine ⟨?_, ?_, ⟨?_, n, hn5, ?_, fun k hk' => ?_, fun j k h1 h2 => ?_⟩, ⟨fun i hi => ?_, ?_, m, hm, ?_, ?_, ?_, fun p hp => ?_⟩⟩
  · unfold SV1 at *; rw [hR, a2, a2, a2, b3, c3, d3]; exact q1
  · unfold SV2 at *; rw [a1, a1, a1, a1, h76, h77, h78, h79]; exact q2
  · rw [a1, h80]; exact q3.1
  · rw [h80]; exact en
  · obtain ⟨w, g1, g2, g3⟩ := hk k hk'
    exact ⟨w, by omega, by rw [h81 k (by omega)]; exact g2, by rw [b1]; exact g3⟩
  · rw [h81 j (by omega), h81 k (by omega)]; exact hd j k h1 h2
  · rw [c1, hneed]; exact q4 i hi
  · rw [a1, hch]; exact q5
  · rw [hch]; exact em
  · rw [a1, h83]; exact q6
  · rw [h83, a1, f_gapsIn_p h82 m hm]
    rcases q7 with q7 | ⟨q7, q9, q10, q11⟩
    · exact Or.inl q7
    · exact Or.inr ⟨q7, fun c hc => by rw [d1, h82 c (by omega)]; exact q9 c hc, fun c h1 h2 => by rw [h82 c h2]; exact q10 c h1 h2, q11⟩
  · rw [a1, f_chairOf_p h82 h83]; exact q8 p hp
theorem TY_mono {y ns' nt' : Nat} (h1 : ns ≤ ns') (h2 : nt ≤ nt') (h : TY M y ns nt) : TY M y ns' nt' := by
  obtain ⟨a, b, c, d, e⟩ := h
  refine ⟨a, b, c, d, ?_⟩
  rcases e with e | ⟨e, s, hs, e2⟩ | ⟨e, t, z, ht, e2⟩ | e | e
  · exact Or.inl e
  · exact Or.inr (Or.inl ⟨e, s, by omega, e2⟩)
  · exact Or.inr (Or.inr (Or.inl ⟨e, t, z, by omega, e2⟩))
  · exact Or.inr (Or.inr (Or.inr (Or.inl e)))
  · exact Or.inr (Or.inr (Or.inr (Or.inr e)))
theorem P_leave (r : Rel M nw np ns nt T) (a b c : Int32) : K_X11_leave l [rV (some 16), iV a, iV b, iV c] M (fun r1 M1 => K_X12_leave l [rV (some 60), iV a, iV b, iV c] M1 (fun r2 M2 => r1 = r2 ∧ Nx T M2)) := by
  have hs : Nx T M := Nx_s r
  have ⟨r1, r2, r3, r4, r5, r6, r7, r8, r9, r10, r11⟩ := r
  obtain ⟨hn, e16, e60⟩ := r3.2.1
  refine w_X11_leave l a b c M _ (c11_findPlayer r a _ (fun z => ⟨fun _ => ?_, fun b3 e => (by cases e)⟩) (fun i hi e => ⟨fun e => (by cases e), fun b3 e => ?_⟩))
  · exact w_X12_leave l a b c M _ (k12_isPlayer r a _ ⟨fun _ => ⟨rfl, hs⟩, fun y => absurd (b2_0.mpr z) y⟩)
  · subst a
    obtain rfl := Option.some.inj e
    have hin : (nI i).toNatClampNeg = i := nI_clamp (by omega)
    have hrg : ¬ b2 (rng (nI i) 0 (nI np - 1)) = 0 := by rw [rng_ix1 (by omega) hi]; decide
    have v10 : vp_in (nI i) 10 := vin (by omega) (by decide)
    obtain ⟨p0, p1, p2, p3, p4, p5, p6, p7, p8, p9, p10, n, hn6, p11, p12⟩ := r6.1 i hi
    have hnn : (nI n).toNatClampNeg = n := nI_clamp (by omega)
    refine ⟨ty44 i, c11_isSpan b c _ ⟨fun z2 => ⟨fun z3 => ?_, fun z3 => ?_⟩, fun z2 => ?_⟩⟩
    · rw [p8, p11] at z3
      have hlt : n < 6 := by (simp (disch := omega) only [ile, ilt, ieq, nI_toInt, Int32.reduceToInt] at z3; omega)
      obtain ⟨s1, s2, s3⟩ := span_t (b2_n0.mp z2)
      refine w_X2_addLeave l _ b c (ty44 i) M _ ⟨fun y => ?_, fun _ => ?_⟩
      · rw [p8, p11] at y; (simp (disch := omega) only [ile, ilt, ieq, nI_toInt, Int32.reduceToInt] at y; omega)
      rw [show 44 + 128 * i + 1 = 45 + 128 * i by omega, show 44 + 128 * i + 2 = 46 + 128 * i by omega]
      simp (disch := omega) only [true_and, mI_sI_1, mI_sI_2, mI_sI_3, mI_nW_1, mI_nW_2, mI_sR, mI_sJ, mI_sA_1, mI_sA_2, mR_sI, mR_sJ, mR_sA, mR_sR_1, mR_sR_2, mR_sR_3, mR_nW_1, mR_nW_2, mN_sI, mN_sJ, mN_sR, mN_sA, mN_nW_1, mN_nW_2, mJ_sI, mJ_sR, mJ_sA, mJ_sJ_1, mJ_sJ_2, mJ_sJ_3, mJ_nW_1, mJ_nW_2, p8, p11, hnn, p1, p2, p3, p4]
      refine ⟨vin hlt (by decide), vin hlt (by decide), fun N hN => ?_⟩
      have hix : (6 : Int32) * nI i + nI n = nI (6 * i + n) := ixm 6 i n rfl
      have hcx : (nI (6 * i + n)).toNatClampNeg = 6 * i + n := nI_clamp (by omega)
      have v60 : vp_in (nI (6 * i + n)) 60 := vin (by omega) (by decide)
      refine w_X12_leave l (nI i) b c _ _ (c12_isPlayer _ _ ?_)
      subst hN
      simp (disch := omega) only [true_and, mI_sI_1, mI_sI_2, mI_sI_3, mI_nW_1, mI_nW_2, mI_sR, mI_sJ, mI_sA_1, mI_sA_2, mR_sI, mR_sJ, mR_sA, mR_sR_1, mR_sR_2, mR_sR_3, mR_nW_1, mR_nW_2, mN_sI, mN_sJ, mN_sR, mN_sA, mN_nW_1, mN_nW_2, mJ_sI, mJ_sR, mJ_sA, mJ_sJ_1, mJ_sJ_2, mJ_sJ_3, mJ_nW_1, mJ_nW_2, e60]
      refine ⟨fun y => absurd y hrg, fun _ => c12_isDay b _ ⟨fun y => by rw [s1] at y; exact absurd y (by decide), fun _ => c12_isDay c _ ⟨fun y => by rw [s2] at y; exact absurd y (by decide), fun _ => ⟨fun _ => ?_, fun y => absurd s3 y⟩⟩⟩⟩
      simp (disch := omega) only [true_and, mI_sI_1, mI_sI_2, mI_sI_3, mI_nW_1, mI_nW_2, mI_sR, mI_sJ, mI_sA_1, mI_sA_2, mR_sI, mR_sJ, mR_sA, mR_sR_1, mR_sR_2, mR_sR_3, mR_nW_1, mR_nW_2, mN_sI, mN_sJ, mN_sR, mN_sA, mN_nW_1, mN_nW_2, mJ_sI, mJ_sR, mJ_sA, mJ_sJ_1, mJ_sJ_2, mJ_sJ_3, mJ_nW_1, mJ_nW_2, hin, p11, hix, hcx, wr11 r1, wr12 r1, wr13 r1, wn11 r1, wn12 r1, wn13 r1]
      refine ⟨v10, fun _ => ⟨v10, v60, v10, v60, v10, v10, fun N hN => ?_⟩, fun y => ?_⟩
      · subst hN
        simp (disch := omega) only [true_and, mI_sI_1, mI_sI_2, mI_sI_3, mI_nW_1, mI_nW_2, mI_sR, mI_sJ, mI_sA_1, mI_sA_2, mR_sI, mR_sJ, mR_sA, mR_sR_1, mR_sR_2, mR_sR_3, mR_nW_1, mR_nW_2, mN_sI, mN_sJ, mN_sR, mN_sA, mN_nW_1, mN_nW_2, mJ_sI, mJ_sR, mJ_sA, mJ_sJ_1, mJ_sJ_2, mJ_sJ_3, mJ_nW_1, mJ_nW_2, hin, p11, hix, hcx, wr11 r1, wn11 r1]
        refine ⟨v10, Nx_s (nw := nw) (np := np) (ns := ns) (nt := nt) ?_⟩
        refine ⟨wM_k (fun k => by simp (disch := omega) only [true_and, mI_sI_1, mI_sI_2, mI_sI_3, mI_nW_1, mI_nW_2, mI_sR, mI_sJ, mI_sA_1, mI_sA_2, mR_sI, mR_sJ, mR_sA, mR_sR_1, mR_sR_2, mR_sR_3, mR_nW_1, mR_nW_2, mN_sI, mN_sJ, mN_sR, mN_sA, mN_nW_1, mN_nW_2, mJ_sI, mJ_sR, mJ_sA, mJ_sJ_1, mJ_sJ_2, mJ_sJ_3, mJ_nW_1, mJ_nW_2]) (fun x _ _ => by simp (disch := omega) only [true_and, mI_sI_1, mI_sI_2, mI_sI_3, mI_nW_1, mI_nW_2, mI_sR, mI_sJ, mI_sA_1, mI_sA_2, mR_sI, mR_sJ, mR_sA, mR_sR_1, mR_sR_2, mR_sR_3, mR_nW_1, mR_nW_2, mN_sI, mN_sJ, mN_sR, mN_sA, mN_nW_1, mN_nW_2, mJ_sI, mJ_sR, mJ_sA, mJ_sJ_1, mJ_sJ_2, mJ_sJ_3, mJ_nW_1, mJ_nW_2]) r1, wX_k (fun x k hx => by simp (disch := omega) only [true_and, mI_sI_1, mI_sI_2, mI_sI_3, mI_nW_1, mI_nW_2, mI_sR, mI_sJ, mI_sA_1, mI_sA_2, mR_sI, mR_sJ, mR_sA, mR_sR_1, mR_sR_2, mR_sR_3, mR_nW_1, mR_nW_2, mN_sI, mN_sJ, mN_sR, mN_sA, mN_nW_1, mN_nW_2, mJ_sI, mJ_sR, mJ_sA, mJ_sJ_1, mJ_sJ_2, mJ_sJ_3, mJ_nW_1, mJ_nW_2]) (fun x _ _ => by simp (disch := omega) only [true_and, mI_sI_1, mI_sI_2, mI_sI_3, mI_nW_1, mI_nW_2, mI_sR, mI_sJ, mI_sA_1, mI_sA_2, mR_sI, mR_sJ, mR_sA, mR_sR_1, mR_sR_2, mR_sR_3, mR_nW_1, mR_nW_2, mN_sI, mN_sJ, mN_sR, mN_sA, mN_nW_1, mN_nW_2, mJ_sI, mJ_sR, mJ_sA, mJ_sJ_1, mJ_sJ_2, mJ_sJ_3, mJ_nW_1, mJ_nW_2]) r2, (by unfold RC; simp (disch := omega) only [true_and, mI_sI_1, mI_sI_2, mI_sI_3, mI_nW_1, mI_nW_2, mI_sR, mI_sJ, mI_sA_1, mI_sA_2, mR_sI, mR_sJ, mR_sA, mR_sR_1, mR_sR_2, mR_sR_3, mR_nW_1, mR_nW_2, mN_sI, mN_sJ, mN_sR, mN_sA, mN_nW_1, mN_nW_2, mJ_sI, mJ_sR, mJ_sA, mJ_sJ_1, mJ_sJ_2, mJ_sJ_3, mJ_nW_1, mJ_nW_2]; exact r3), r4, RW_fr (by (repeat (first | exact Fr_r _ _ | refine Fr_sI ?_ (by unfold FW; omega) _ _ | refine Fr_sR ?_ (by unfold FW; omega) _ _ | refine Fr_nW ?_ (by unfold FW; omega) _ | refine Fr_sJ ?_ (by unfold FW; omega) _ _ | refine Fr_sA ?_ (by unfold FW; omega) _))) r5, ?_, RS_fr (by (repeat (first | exact Fr_r _ _ | refine Fr_sI ?_ (by unfold FS; omega) _ _ | refine Fr_sR ?_ (by unfold FS; omega) _ _ | refine Fr_nW ?_ (by unfold FS; omega) _ | refine Fr_sJ ?_ (by unfold FS; omega) _ _ | refine Fr_sA ?_ (by unfold FS; omega) _))) r7, RT_fr (by (repeat (first | exact Fr_r _ _ | refine Fr_sI ?_ (by unfold FT; omega) _ _ | refine Fr_sR ?_ (by unfold FT; omega) _ _ | refine Fr_nW ?_ (by unfold FT; omega) _ | refine Fr_sJ ?_ (by unfold FT; omega) _ _ | refine Fr_sA ?_ (by unfold FT; omega) _))) r8, RY_fr (by (repeat (first | exact Fr_r _ _ | refine Fr_sI ?_ (by unfold FY; omega) _ _ | refine Fr_sR ?_ (by unfold FY; omega) _ _ | refine Fr_nW ?_ (by unfold FY; omega) _ | refine Fr_sJ ?_ (by unfold FY; omega) _ _ | refine Fr_sA ?_ (by unfold FY; omega) _))) r9, RZ_k (by simp (disch := omega) only [true_and, mI_sI_1, mI_sI_2, mI_sI_3, mI_nW_1, mI_nW_2, mI_sR, mI_sJ, mI_sA_1, mI_sA_2, mR_sI, mR_sJ, mR_sA, mR_sR_1, mR_sR_2, mR_sR_3, mR_nW_1, mR_nW_2, mN_sI, mN_sJ, mN_sR, mN_sA, mN_nW_1, mN_nW_2, mJ_sI, mJ_sR, mJ_sA, mJ_sJ_1, mJ_sJ_2, mJ_sJ_3, mJ_nW_1, mJ_nW_2]) (by simp (disch := omega) only [true_and, mI_sI_1, mI_sI_2, mI_sI_3, mI_nW_1, mI_nW_2, mI_sR, mI_sJ, mI_sA_1, mI_sA_2, mR_sI, mR_sJ, mR_sA, mR_sR_1, mR_sR_2, mR_sR_3, mR_nW_1, mR_nW_2, mN_sI, mN_sJ, mN_sR, mN_sA, mN_nW_1, mN_nW_2, mJ_sI, mJ_sR, mJ_sA, mJ_sJ_1, mJ_sJ_2, mJ_sJ_3, mJ_nW_1, mJ_nW_2]) (fun j => by simp (disch := omega) only [true_and, mI_sI_1, mI_sI_2, mI_sI_3, mI_nW_1, mI_nW_2, mI_sR, mI_sJ, mI_sA_1, mI_sA_2, mR_sI, mR_sJ, mR_sA, mR_sR_1, mR_sR_2, mR_sR_3, mR_nW_1, mR_nW_2, mN_sI, mN_sJ, mN_sR, mN_sA, mN_nW_1, mN_nW_2, mJ_sI, mJ_sR, mJ_sA, mJ_sJ_1, mJ_sJ_2, mJ_sJ_3, mJ_nW_1, mJ_nW_2]) (fun j => by simp (disch := omega) only [true_and, mI_sI_1, mI_sI_2, mI_sI_3, mI_nW_1, mI_nW_2, mI_sR, mI_sJ, mI_sA_1, mI_sA_2, mR_sI, mR_sJ, mR_sA, mR_sR_1, mR_sR_2, mR_sR_3, mR_nW_1, mR_nW_2, mN_sI, mN_sJ, mN_sR, mN_sA, mN_nW_1, mN_nW_2, mJ_sI, mJ_sR, mJ_sA, mJ_sJ_1, mJ_sJ_2, mJ_sJ_3, mJ_nW_1, mJ_nW_2]) r10, RD_k (fun j => by simp (disch := omega) only [true_and, mI_sI_1, mI_sI_2, mI_sI_3, mI_nW_1, mI_nW_2, mI_sR, mI_sJ, mI_sA_1, mI_sA_2, mR_sI, mR_sJ, mR_sA, mR_sR_1, mR_sR_2, mR_sR_3, mR_nW_1, mR_nW_2, mN_sI, mN_sJ, mN_sR, mN_sA, mN_nW_1, mN_nW_2, mJ_sI, mJ_sR, mJ_sA, mJ_sJ_1, mJ_sJ_2, mJ_sJ_3, mJ_nW_1, mJ_nW_2]) r11⟩
        refine ⟨fun k hk => ?_, fun k h1 h2 => by simp (disch := omega) only [true_and, mI_sI_1, mI_sI_2, mI_sI_3, mI_nW_1, mI_nW_2, mI_sR, mI_sJ, mI_sA_1, mI_sA_2, mR_sI, mR_sJ, mR_sA, mR_sR_1, mR_sR_2, mR_sR_3, mR_nW_1, mR_nW_2, mN_sI, mN_sJ, mN_sR, mN_sA, mN_nW_1, mN_nW_2, mJ_sI, mJ_sR, mJ_sA, mJ_sJ_1, mJ_sJ_2, mJ_sJ_3, mJ_nW_1, mJ_nW_2]; exact r6.2 k h1 h2⟩
        by_cases hik : k = i
        · subst hik
          unfold PL
          simp (disch := omega) only [true_and, mI_sI_1, mI_sI_2, mI_sI_3, mI_nW_1, mI_nW_2, mI_sR, mI_sJ, mI_sA_1, mI_sA_2, mR_sI, mR_sJ, mR_sA, mR_sR_1, mR_sR_2, mR_sR_3, mR_nW_1, mR_nW_2, mN_sI, mN_sJ, mN_sR, mN_sA, mN_nW_1, mN_nW_2, mJ_sI, mJ_sR, mJ_sA, mJ_sJ_1, mJ_sJ_2, mJ_sJ_3, mJ_nW_1, mJ_nW_2, p11, n1]
          refine ⟨p0, p1, p2, p3, p4, p5, p6, p7, p9, p10, n + 1, by omega, rfl, fun j hj => ?_⟩
          by_cases hjn : j = n
          · subst hjn
            simp (disch := omega) only [true_and, mI_sI_1, mI_sI_2, mI_sI_3, mI_nW_1, mI_nW_2, mI_sR, mI_sJ, mI_sA_1, mI_sA_2, mR_sI, mR_sJ, mR_sA, mR_sR_1, mR_sR_2, mR_sR_3, mR_nW_1, mR_nW_2, mN_sI, mN_sJ, mN_sR, mN_sA, mN_nW_1, mN_nW_2, mJ_sI, mJ_sR, mJ_sA, mJ_sJ_1, mJ_sJ_2, mJ_sJ_3, mJ_nW_1, mJ_nW_2]
          · simp (disch := omega) only [true_and, mI_sI_1, mI_sI_2, mI_sI_3, mI_nW_1, mI_nW_2, mI_sR, mI_sJ, mI_sA_1, mI_sA_2, mR_sI, mR_sJ, mR_sA, mR_sR_1, mR_sR_2, mR_sR_3, mR_nW_1, mR_nW_2, mN_sI, mN_sJ, mN_sR, mN_sA, mN_nW_1, mN_nW_2, mJ_sI, mJ_sR, mJ_sA, mJ_sJ_1, mJ_sJ_2, mJ_sJ_3, mJ_nW_1, mJ_nW_2]
            exact p12 j (by omega)
        · have h := r6.1 k hk
          unfold PL at h ⊢
          obtain ⟨q0, q1, q2, q3, q4, q5, q6, q7, q8, q9, q10, m, hm6, q11, q12⟩ := h
          simp (disch := omega) only [true_and, mI_sI_1, mI_sI_2, mI_sI_3, mI_nW_1, mI_nW_2, mI_sR, mI_sJ, mI_sA_1, mI_sA_2, mR_sI, mR_sJ, mR_sA, mR_sR_1, mR_sR_2, mR_sR_3, mR_nW_1, mR_nW_2, mN_sI, mN_sJ, mN_sR, mN_sA, mN_nW_1, mN_nW_2, mJ_sI, mJ_sR, mJ_sA, mJ_sJ_1, mJ_sJ_2, mJ_sJ_3, mJ_nW_1, mJ_nW_2]
          refine ⟨q0, q1, q2, q3, q4, q5, q6, q7, q8, q9, q10, m, hm6, q11, fun j hj => ?_⟩
          simp (disch := omega) only [true_and, mI_sI_1, mI_sI_2, mI_sI_3, mI_nW_1, mI_nW_2, mI_sR, mI_sJ, mI_sA_1, mI_sA_2, mR_sI, mR_sJ, mR_sA, mR_sR_1, mR_sR_2, mR_sR_3, mR_nW_1, mR_nW_2, mN_sI, mN_sJ, mN_sR, mN_sA, mN_nW_1, mN_nW_2, mJ_sI, mJ_sR, mJ_sA, mJ_sJ_1, mJ_sJ_2, mJ_sJ_3, mJ_nW_1, mJ_nW_2]
          exact q12 j hj
      · (simp (disch := omega) only [ile, ilt, ieq, nI_toInt, Int32.reduceToInt] at y; omega)
    · rw [p8, p11] at z3
      have hlt : n = 6 := by (simp (disch := omega) only [ile, ilt, ieq, nI_toInt, Int32.reduceToInt] at z3; omega)
      obtain ⟨s1, s2, s3⟩ := span_t (b2_n0.mp z2)
      refine w_X12_leave l (nI i) b c _ _ (k12_isPlayer r _ _ ⟨fun y => absurd y hrg, fun _ => c12_isDay b _ ⟨fun y => by rw [s1] at y; exact absurd y (by decide), fun _ => c12_isDay c _ ⟨fun y => by rw [s2] at y; exact absurd y (by decide), fun _ => ⟨fun _ => ⟨wr11 r1, (by rw [wn11 r1]; exact v10), fun y => ?_, fun _ => ⟨rfl, hs⟩⟩, fun y => absurd s3 y⟩⟩⟩⟩)
      rw [hin, p11, hlt] at y; exact absurd rfl y
    · refine w_X12_leave l (nI i) b c _ _ (k12_isPlayer r _ _ ⟨fun y => absurd y hrg, fun _ => c12_isDay b _ ⟨fun y => ⟨rfl, hs⟩, fun y1 => c12_isDay c _ ⟨fun y => ⟨rfl, hs⟩, fun y2 => ⟨fun y3 => absurd y3 (span_f (b2_0.mp z2) (b2_n0.mp y1) (b2_n0.mp y2)), fun y => ⟨rfl, hs⟩⟩⟩⟩⟩)
/-- a service without works -/
theorem f_need_0 {v : o_v} {s i : Nat} (h : v 80 s = 0) : f_need v s i none = 0 := by
  unfold f_need f_cap
  rw [h]
  have : f_mx v s i (match (none : Option Nat) with | none => 0 | some w => f_needOf v w i) (0 : Int32).toNatClampNeg = 0 := rfl
  rw [this]; split <;> rfl
theorem f_chairs_0 {v : o_v} {s : Nat} (h : v 80 s = 0) : f_chairs v s none = 0 := by
  unfold f_chairs
  simp only [f_chN, f_need_0 h]; rfl
theorem P_service (r : Rel M nw np ns nt T) (a b c d : Int32) : K_X11_service l [rV (some 16), iV a, iV b, iV c, iV d] M (fun r1 M1 => K_X12_service l [rV (some 60), iV a, iV b, iV c, iV d] M1 (fun r2 M2 => r1 = r2 ∧ Nx T M2)) := by
  have hs : Nx T M := Nx_s r
  have ⟨r1, r2, r3, r4, r5, r6, r7, r8, r9, r10, r11⟩ := r
  have hnw12 := r3.1.1
  obtain ⟨hn, e16, e60⟩ := r3.2.2.1
  have hni : (nI ns).toNatClampNeg = ns := nI_clamp (by omega)
  refine w_X11_service l a b c d M _ (c11_isWithin a 0 _ _ ⟨fun z1 => ?_, fun z1 => c11_isDay b _ ⟨fun z2 => c11_isWithin c 0 23 _ ⟨fun z3 => ?_, fun z3 => c11_isWithin d 1 8 _ ⟨fun z4 => ⟨fun z5 => ?_, fun z5 => ?_⟩, fun z4 => ?_⟩⟩, fun z2 => ?_⟩⟩)
  · exact w_X12_service l a b c d M _ (c12_in _ _ _ _ ⟨fun y1 => ⟨rfl, hs⟩, fun y1 => absurd z1 y1⟩)
  · exact w_X12_service l a b c d M _ (c12_in _ _ _ _ ⟨fun y1 => ⟨rfl, hs⟩, fun y1 => c12_isDay _ _ ⟨fun y2 => ⟨rfl, hs⟩, fun y2 => c12_in _ _ _ _ ⟨fun y2 => ⟨rfl, hs⟩, fun y3 => absurd z3 y3⟩⟩⟩)
  · rw [e16] at z5
    have hlt : ns < 40 := by (simp (disch := omega) only [ile, ilt, ieq, nI_toInt, Int32.reduceToInt] at z5; omega)
    refine ⟨xr16_2 r2, 47 + 128 * ns, RLv_not r4 (by unfold lvi; omega), ty47 ns, w_X6_init l _ a b c d (ty47 ns) _ _ ?_⟩
    rw [show 47 + 128 * ns + 1 = 48 + 128 * ns by omega, show 47 + 128 * ns + 2 = 49 + 128 * ns by omega, show 47 + 128 * ns + 3 = 50 + 128 * ns by omega]
    refine ⟨?_, ?_, ?_, ?_⟩
    · rw [mL_nW]
      simp only [List.mem_append, List.mem_singleton, not_or]
      exact ⟨RLv_not r4 (by unfold lvi; omega), by omega⟩
    · rw [mL_sR, mL_nW, mL_nW]
      simp only [List.mem_append, List.mem_singleton, not_or]
      exact ⟨⟨RLv_not r4 (by unfold lvi; omega), by omega⟩, by omega⟩
    · rw [mL_sR, mL_nW, mL_sR, mL_nW, mL_nW]
      simp only [List.mem_append, List.mem_singleton, not_or]
      exact ⟨⟨⟨RLv_not r4 (by unfold lvi; omega), by omega⟩, by omega⟩, by omega⟩
    rw [e16, hni]
    refine ⟨by simp (disch := omega) only [true_and, mI_sI_1, mI_sI_2, mI_sI_3, mI_nW_1, mI_nW_2, mI_sR, mI_sJ, mI_sA_1, mI_sA_2, mR_sI, mR_sJ, mR_sA, mR_sR_1, mR_sR_2, mR_sR_3, mR_nW_1, mR_nW_2, mN_sI, mN_sJ, mN_sR, mN_sA, mN_nW_1, mN_nW_2, mJ_sI, mJ_sR, mJ_sA, mJ_sJ_1, mJ_sJ_2, mJ_sJ_3, mJ_nW_1, mJ_nW_2, xn19 r2]; exact vin hlt (by decide), ?_⟩
    refine w_X12_service l a b c d _ _ (c12_in _ _ _ _ ⟨fun y1 => absurd y1 z1, fun y1 => c12_isDay _ _ ⟨fun y2 => absurd y2 z2, fun y2 => c12_in _ _ _ _ ⟨fun y3 => absurd y3 z3, fun y3 => c12_in _ _ _ _ ⟨fun y4 => ⟨fun y5 => ?_, fun y5 => ?_⟩, fun y4 => absurd y4 z4⟩⟩⟩⟩)
    · simp (disch := omega) only [true_and, mI_sI_1, mI_sI_2, mI_sI_3, mI_nW_1, mI_nW_2, mI_sR, mI_sJ, mI_sA_1, mI_sA_2, mR_sI, mR_sJ, mR_sA, mR_sR_1, mR_sR_2, mR_sR_3, mR_nW_1, mR_nW_2, mN_sI, mN_sJ, mN_sR, mN_sA, mN_nW_1, mN_nW_2, mJ_sI, mJ_sR, mJ_sA, mJ_sJ_1, mJ_sJ_2, mJ_sJ_3, mJ_nW_1, mJ_nW_2, e60, hni, wr15 r1, wr16 r1, wr17 r1, wr18 r1, wn15 r1, wn16 r1, wn17 r1, wn18 r1, e16]
      have v12 : vp_in (nI ns) 40 := vin hlt (by decide)
      refine ⟨v12, v12, v12, fun N hN => ?_⟩
      subst hN
      simp (disch := omega) only [true_and, mI_sI_1, mI_sI_2, mI_sI_3, mI_nW_1, mI_nW_2, mI_sR, mI_sJ, mI_sA_1, mI_sA_2, mR_sI, mR_sJ, mR_sA, mR_sR_1, mR_sR_2, mR_sR_3, mR_nW_1, mR_nW_2, mN_sI, mN_sJ, mN_sR, mN_sA, mN_nW_1, mN_nW_2, mJ_sI, mJ_sR, mJ_sA, mJ_sJ_1, mJ_sJ_2, mJ_sJ_3, mJ_nW_1, mJ_nW_2, e60, hni, wr18 r1, wn18 r1, e16]
      refine ⟨v12, nw, np, ns + 1, nt, T, by omega, ?_⟩
      obtain ⟨ma, _, ha2, rfl⟩ := rng_nat 0 5 (by decide) (by decide) (b2_n0.mp z1)
      obtain ⟨mb, _, hb2, rfl⟩ := rng_nat 0 400 (by decide) (by decide) (b2_n0.mp z2)
      obtain ⟨mc, _, hc2, rfl⟩ := rng_nat 0 23 (by decide) (by decide) (b2_n0.mp z3)
      obtain ⟨md, _, hd2, rfl⟩ := rng_nat 1 8 (by decide) (by decide) (b2_n0.mp z4)
      refine ⟨wM_k (fun k => by simp (disch := omega) only [true_and, mI_sI_1, mI_sI_2, mI_sI_3, mI_nW_1, mI_nW_2, mI_sR, mI_sJ, mI_sA_1, mI_sA_2, mR_sI, mR_sJ, mR_sA, mR_sR_1, mR_sR_2, mR_sR_3, mR_nW_1, mR_nW_2, mN_sI, mN_sJ, mN_sR, mN_sA, mN_nW_1, mN_nW_2, mJ_sI, mJ_sR, mJ_sA, mJ_sJ_1, mJ_sJ_2, mJ_sJ_3, mJ_nW_1, mJ_nW_2]) (fun x _ _ => by simp (disch := omega) only [true_and, mI_sI_1, mI_sI_2, mI_sI_3, mI_nW_1, mI_nW_2, mI_sR, mI_sJ, mI_sA_1, mI_sA_2, mR_sI, mR_sJ, mR_sA, mR_sR_1, mR_sR_2, mR_sR_3, mR_nW_1, mR_nW_2, mN_sI, mN_sJ, mN_sR, mN_sA, mN_nW_1, mN_nW_2, mJ_sI, mJ_sR, mJ_sA, mJ_sJ_1, mJ_sJ_2, mJ_sJ_3, mJ_nW_1, mJ_nW_2]) r1, wX_k (fun x k hx => by simp (disch := omega) only [true_and, mI_sI_1, mI_sI_2, mI_sI_3, mI_nW_1, mI_nW_2, mI_sR, mI_sJ, mI_sA_1, mI_sA_2, mR_sI, mR_sJ, mR_sA, mR_sR_1, mR_sR_2, mR_sR_3, mR_nW_1, mR_nW_2, mN_sI, mN_sJ, mN_sR, mN_sA, mN_nW_1, mN_nW_2, mJ_sI, mJ_sR, mJ_sA, mJ_sJ_1, mJ_sJ_2, mJ_sJ_3, mJ_nW_1, mJ_nW_2]) (fun x _ _ => by simp (disch := omega) only [true_and, mI_sI_1, mI_sI_2, mI_sI_3, mI_nW_1, mI_nW_2, mI_sR, mI_sJ, mI_sA_1, mI_sA_2, mR_sI, mR_sJ, mR_sA, mR_sR_1, mR_sR_2, mR_sR_3, mR_nW_1, mR_nW_2, mN_sI, mN_sJ, mN_sR, mN_sA, mN_nW_1, mN_nW_2, mJ_sI, mJ_sR, mJ_sA, mJ_sJ_1, mJ_sJ_2, mJ_sJ_3, mJ_nW_1, mJ_nW_2]) r2, ?_, ?_, RW_fr (by (repeat (first | exact Fr_r _ _ | refine Fr_sI ?_ (by unfold FW; omega) _ _ | refine Fr_sR ?_ (by unfold FW; omega) _ _ | refine Fr_nW ?_ (by unfold FW; omega) _ | refine Fr_sJ ?_ (by unfold FW; omega) _ _ | refine Fr_sA ?_ (by unfold FW; omega) _))) r5, RP_fr (by (repeat (first | exact Fr_r _ _ | refine Fr_sI ?_ (by unfold FP; omega) _ _ | refine Fr_sR ?_ (by unfold FP; omega) _ _ | refine Fr_nW ?_ (by unfold FP; omega) _ | refine Fr_sJ ?_ (by unfold FP; omega) _ _ | refine Fr_sA ?_ (by unfold FP; omega) _))) r6, ?_, RT_fr (by (repeat (first | exact Fr_r _ _ | refine Fr_sI ?_ (by unfold FT; omega) _ _ | refine Fr_sR ?_ (by unfold FT; omega) _ _ | refine Fr_nW ?_ (by unfold FT; omega) _ | refine Fr_sJ ?_ (by unfold FT; omega) _ _ | refine Fr_sA ?_ (by unfold FT; omega) _))) r8, ?_, RZ_k (by simp (disch := omega) only [true_and, mI_sI_1, mI_sI_2, mI_sI_3, mI_nW_1, mI_nW_2, mI_sR, mI_sJ, mI_sA_1, mI_sA_2, mR_sI, mR_sJ, mR_sA, mR_sR_1, mR_sR_2, mR_sR_3, mR_nW_1, mR_nW_2, mN_sI, mN_sJ, mN_sR, mN_sA, mN_nW_1, mN_nW_2, mJ_sI, mJ_sR, mJ_sA, mJ_sJ_1, mJ_sJ_2, mJ_sJ_3, mJ_nW_1, mJ_nW_2]) (by simp (disch := omega) only [true_and, mI_sI_1, mI_sI_2, mI_sI_3, mI_nW_1, mI_nW_2, mI_sR, mI_sJ, mI_sA_1, mI_sA_2, mR_sI, mR_sJ, mR_sA, mR_sR_1, mR_sR_2, mR_sR_3, mR_nW_1, mR_nW_2, mN_sI, mN_sJ, mN_sR, mN_sA, mN_nW_1, mN_nW_2, mJ_sI, mJ_sR, mJ_sA, mJ_sJ_1, mJ_sJ_2, mJ_sJ_3, mJ_nW_1, mJ_nW_2]) (fun j => by simp (disch := omega) only [true_and, mI_sI_1, mI_sI_2, mI_sI_3, mI_nW_1, mI_nW_2, mI_sR, mI_sJ, mI_sA_1, mI_sA_2, mR_sI, mR_sJ, mR_sA, mR_sR_1, mR_sR_2, mR_sR_3, mR_nW_1, mR_nW_2, mN_sI, mN_sJ, mN_sR, mN_sA, mN_nW_1, mN_nW_2, mJ_sI, mJ_sR, mJ_sA, mJ_sJ_1, mJ_sJ_2, mJ_sJ_3, mJ_nW_1, mJ_nW_2]) (fun j => by simp (disch := omega) only [true_and, mI_sI_1, mI_sI_2, mI_sI_3, mI_nW_1, mI_nW_2, mI_sR, mI_sJ, mI_sA_1, mI_sA_2, mR_sI, mR_sJ, mR_sA, mR_sR_1, mR_sR_2, mR_sR_3, mR_nW_1, mR_nW_2, mN_sI, mN_sJ, mN_sR, mN_sA, mN_nW_1, mN_nW_2, mJ_sI, mJ_sR, mJ_sA, mJ_sJ_1, mJ_sJ_2, mJ_sJ_3, mJ_nW_1, mJ_nW_2]) r10, RD_k (fun j => by simp (disch := omega) only [true_and, mI_sI_1, mI_sI_2, mI_sI_3, mI_nW_1, mI_nW_2, mI_sR, mI_sJ, mI_sA_1, mI_sA_2, mR_sI, mR_sJ, mR_sA, mR_sR_1, mR_sR_2, mR_sR_3, mR_nW_1, mR_nW_2, mN_sI, mN_sJ, mN_sR, mN_sA, mN_nW_1, mN_nW_2, mJ_sI, mJ_sR, mJ_sA, mJ_sJ_1, mJ_sJ_2, mJ_sJ_3, mJ_nW_1, mJ_nW_2]) r11⟩
      · refine ⟨?_, ?_, ⟨hlt, ?_, ?_⟩, ?_⟩
        · simp (disch := omega) only [true_and, mI_sI_1, mI_sI_2, mI_sI_3, mI_nW_1, mI_nW_2, mI_sR, mI_sJ, mI_sA_1, mI_sA_2, mR_sI, mR_sJ, mR_sA, mR_sR_1, mR_sR_2, mR_sR_3, mR_nW_1, mR_nW_2, mN_sI, mN_sJ, mN_sR, mN_sA, mN_nW_1, mN_nW_2, mJ_sI, mJ_sR, mJ_sA, mJ_sJ_1, mJ_sJ_2, mJ_sJ_3, mJ_nW_1, mJ_nW_2]; exact r3.1
        · simp (disch := omega) only [true_and, mI_sI_1, mI_sI_2, mI_sI_3, mI_nW_1, mI_nW_2, mI_sR, mI_sJ, mI_sA_1, mI_sA_2, mR_sI, mR_sJ, mR_sA, mR_sR_1, mR_sR_2, mR_sR_3, mR_nW_1, mR_nW_2, mN_sI, mN_sJ, mN_sR, mN_sA, mN_nW_1, mN_nW_2, mJ_sI, mJ_sR, mJ_sA, mJ_sJ_1, mJ_sJ_2, mJ_sJ_3, mJ_nW_1, mJ_nW_2]; exact r3.2.1
        · simp (disch := omega) only [true_and, mI_sI_1, mI_sI_2, mI_sI_3, mI_nW_1, mI_nW_2, mI_sR, mI_sJ, mI_sA_1, mI_sA_2, mR_sI, mR_sJ, mR_sA, mR_sR_1, mR_sR_2, mR_sR_3, mR_nW_1, mR_nW_2, mN_sI, mN_sJ, mN_sR, mN_sA, mN_nW_1, mN_nW_2, mJ_sI, mJ_sR, mJ_sA, mJ_sJ_1, mJ_sJ_2, mJ_sJ_3, mJ_nW_1, mJ_nW_2, n1, e16, e60]
        · simp (disch := omega) only [true_and, mI_sI_1, mI_sI_2, mI_sI_3, mI_nW_1, mI_nW_2, mI_sR, mI_sJ, mI_sA_1, mI_sA_2, mR_sI, mR_sJ, mR_sA, mR_sR_1, mR_sR_2, mR_sR_3, mR_nW_1, mR_nW_2, mN_sI, mN_sJ, mN_sR, mN_sA, mN_nW_1, mN_nW_2, mJ_sI, mJ_sR, mJ_sA, mJ_sJ_1, mJ_sJ_2, mJ_sJ_3, mJ_nW_1, mJ_nW_2, n1, e16, e60]
        · simp (disch := omega) only [true_and, mI_sI_1, mI_sI_2, mI_sI_3, mI_nW_1, mI_nW_2, mI_sR, mI_sJ, mI_sA_1, mI_sA_2, mR_sI, mR_sJ, mR_sA, mR_sR_1, mR_sR_2, mR_sR_3, mR_nW_1, mR_nW_2, mN_sI, mN_sJ, mN_sR, mN_sA, mN_nW_1, mN_nW_2, mJ_sI, mJ_sR, mJ_sA, mJ_sJ_1, mJ_sJ_2, mJ_sJ_3, mJ_nW_1, mJ_nW_2]; exact r3.2.2.2
      · intro x hx
        have hx : x ∈ (((mL M ++ [47 + 128 * ns]) ++ [48 + 128 * ns]) ++ [49 + 128 * ns]) ++ [50 + 128 * ns] := hx
        simp only [List.mem_append, List.mem_singleton] at hx
        rcases hx with (((h | h) | h) | h) | h
        · exact lvi_mono (Nat.le_refl _) (Nat.le_refl _) (by omega) (Nat.le_refl _) (r4 x h)
        all_goals subst h; unfold lvi; omega
      · refine ⟨fun i hi => ?_, fun i h1 h2 => by simp (disch := omega) only [true_and, mI_sI_1, mI_sI_2, mI_sI_3, mI_nW_1, mI_nW_2, mI_sR, mI_sJ, mI_sA_1, mI_sA_2, mR_sI, mR_sJ, mR_sA, mR_sR_1, mR_sR_2, mR_sR_3, mR_nW_1, mR_nW_2, mN_sI, mN_sJ, mN_sR, mN_sA, mN_nW_1, mN_nW_2, mJ_sI, mJ_sR, mJ_sA, mJ_sJ_1, mJ_sJ_2, mJ_sJ_3, mJ_nW_1, mJ_nW_2]; exact r7.2 i (by omega) h2⟩
        by_cases hin : i = ns
        · subst hin
          have h0 := r7.2 i (Nat.le_refl _) hlt
          generalize hN : sI _ 60 14 _ = N
          have e80 : mI N 80 i = 0 := by subst hN; simp (disch := omega) only [true_and, mI_sI_1, mI_sI_2, mI_sI_3, mI_nW_1, mI_nW_2, mI_sR, mI_sJ, mI_sA_1, mI_sA_2, mR_sI, mR_sJ, mR_sA, mR_sR_1, mR_sR_2, mR_sR_3, mR_nW_1, mR_nW_2, mN_sI, mN_sJ, mN_sR, mN_sA, mN_nW_1, mN_nW_2, mJ_sI, mJ_sR, mJ_sA, mJ_sJ_1, mJ_sJ_2, mJ_sJ_3, mJ_nW_1, mJ_nW_2]; exact h0.1
          have e83 : mI N 83 i = 0 := by subst hN; simp (disch := omega) only [true_and, mI_sI_1, mI_sI_2, mI_sI_3, mI_nW_1, mI_nW_2, mI_sR, mI_sJ, mI_sA_1, mI_sA_2, mR_sI, mR_sJ, mR_sA, mR_sR_1, mR_sR_2, mR_sR_3, mR_nW_1, mR_nW_2, mN_sI, mN_sJ, mN_sR, mN_sA, mN_nW_1, mN_nW_2, mJ_sI, mJ_sR, mJ_sA, mJ_sJ_1, mJ_sJ_2, mJ_sJ_3, mJ_nW_1, mJ_nW_2]; exact h0.2
          refine ⟨?_, ?_, ?_, ?_⟩
          · subst hN; unfold SV1; simp (disch := omega) only [true_and, mI_sI_1, mI_sI_2, mI_sI_3, mI_nW_1, mI_nW_2, mI_sR, mI_sJ, mI_sA_1, mI_sA_2, mR_sI, mR_sJ, mR_sA, mR_sR_1, mR_sR_2, mR_sR_3, mR_nW_1, mR_nW_2, mN_sI, mN_sJ, mN_sR, mN_sA, mN_nW_1, mN_nW_2, mJ_sI, mJ_sR, mJ_sA, mJ_sJ_1, mJ_sJ_2, mJ_sJ_3, mJ_nW_1, mJ_nW_2]
          · subst hN; unfold SV2; simp (disch := omega) only [true_and, mI_sI_1, mI_sI_2, mI_sI_3, mI_nW_1, mI_nW_2, mI_sR, mI_sJ, mI_sA_1, mI_sA_2, mR_sI, mR_sJ, mR_sA, mR_sR_1, mR_sR_2, mR_sR_3, mR_nW_1, mR_nW_2, mN_sI, mN_sJ, mN_sR, mN_sA, mN_nW_1, mN_nW_2, mJ_sI, mJ_sR, mJ_sA, mJ_sJ_1, mJ_sJ_2, mJ_sJ_3, mJ_nW_1, mJ_nW_2]; exact ⟨⟨ma, by omega, rfl⟩, ⟨mb, hb2, rfl⟩, ⟨mc, hc2, rfl⟩, ⟨md, hd2, rfl⟩⟩
          · refine ⟨?_, 0, by omega, e80, fun k hk => absurd hk (by omega), fun j k _ hk => absurd hk (by omega)⟩
            rw [e80]; subst hN; simp (disch := omega) only [true_and, mI_sI_1, mI_sI_2, mI_sI_3, mI_nW_1, mI_nW_2, mI_sR, mI_sJ, mI_sA_1, mI_sA_2, mR_sI, mR_sJ, mR_sA, mR_sR_1, mR_sR_2, mR_sR_3, mR_nW_1, mR_nW_2, mN_sI, mN_sJ, mN_sR, mN_sA, mN_nW_1, mN_nW_2, mJ_sI, mJ_sR, mJ_sA, mJ_sJ_1, mJ_sJ_2, mJ_sJ_3, mJ_nW_1, mJ_nW_2]
          · refine ⟨fun k hk => ?_, ?_, 0, by omega, f_chairs_0 e80, ?_, Or.inl e83, fun p hp => ?_⟩
            · rw [f_need_0 e80]; subst hN; simp (disch := omega) only [true_and, mI_sI_1, mI_sI_2, mI_sI_3, mI_nW_1, mI_nW_2, mI_sR, mI_sJ, mI_sA_1, mI_sA_2, mR_sI, mR_sJ, mR_sA, mR_sR_1, mR_sR_2, mR_sR_3, mR_nW_1, mR_nW_2, mN_sI, mN_sJ, mN_sR, mN_sA, mN_nW_1, mN_nW_2, mJ_sI, mJ_sR, mJ_sA, mJ_sJ_1, mJ_sJ_2, mJ_sJ_3, mJ_nW_1, mJ_nW_2]
            · rw [f_chairs_0 e80]; subst hN; simp (disch := omega) only [true_and, mI_sI_1, mI_sI_2, mI_sI_3, mI_nW_1, mI_nW_2, mI_sR, mI_sJ, mI_sA_1, mI_sA_2, mR_sI, mR_sJ, mR_sA, mR_sR_1, mR_sR_2, mR_sR_3, mR_nW_1, mR_nW_2, mN_sI, mN_sJ, mN_sR, mN_sA, mN_nW_1, mN_nW_2, mJ_sI, mJ_sR, mJ_sA, mJ_sJ_1, mJ_sJ_2, mJ_sJ_3, mJ_nW_1, mJ_nW_2]
            · rw [e83]; subst hN; simp (disch := omega) only [true_and, mI_sI_1, mI_sI_2, mI_sI_3, mI_nW_1, mI_nW_2, mI_sR, mI_sJ, mI_sA_1, mI_sA_2, mR_sI, mR_sJ, mR_sA, mR_sR_1, mR_sR_2, mR_sR_3, mR_nW_1, mR_nW_2, mN_sI, mN_sJ, mN_sR, mN_sA, mN_nW_1, mN_nW_2, mJ_sI, mJ_sR, mJ_sA, mJ_sJ_1, mJ_sJ_2, mJ_sJ_3, mJ_nW_1, mJ_nW_2]
            · have e : mI N (47 + 128 * i) 10 = 0 := by subst hN; simp (disch := omega) only [true_and, mI_sI_1, mI_sI_2, mI_sI_3, mI_nW_1, mI_nW_2, mI_sR, mI_sJ, mI_sA_1, mI_sA_2, mR_sI, mR_sJ, mR_sA, mR_sR_1, mR_sR_2, mR_sR_3, mR_nW_1, mR_nW_2, mN_sI, mN_sJ, mN_sR, mN_sA, mN_nW_1, mN_nW_2, mJ_sI, mJ_sR, mJ_sA, mJ_sJ_1, mJ_sJ_2, mJ_sJ_3, mJ_nW_1, mJ_nW_2]
              rw [e]
              unfold f_chairOf
              rw [if_pos e83]
              have : ∀ p : Nat, p < 10 → (((0 : Int32) >>> (nI p &&& 31)) &&& 1 == 1) = !((-1 : Int32) == -1) := by decide
              exact this p hp
        · exact SV_s hnw12 (Nat.le_refl _) (by simp (disch := omega) only [true_and, mI_sI_1, mI_sI_2, mI_sI_3, mI_nW_1, mI_nW_2, mI_sR, mI_sJ, mI_sA_1, mI_sA_2, mR_sI, mR_sJ, mR_sA, mR_sR_1, mR_sR_2, mR_sR_3, mR_nW_1, mR_nW_2, mN_sI, mN_sJ, mN_sR, mN_sA, mN_nW_1, mN_nW_2, mJ_sI, mJ_sR, mJ_sA, mJ_sJ_1, mJ_sJ_2, mJ_sJ_3, mJ_nW_1, mJ_nW_2]) (fun t h1 h2 => ⟨fun j => by simp (disch := omega) only [true_and, mI_sI_1, mI_sI_2, mI_sI_3, mI_nW_1, mI_nW_2, mI_sR, mI_sJ, mI_sA_1, mI_sA_2, mR_sI, mR_sJ, mR_sA, mR_sR_1, mR_sR_2, mR_sR_3, mR_nW_1, mR_nW_2, mN_sI, mN_sJ, mN_sR, mN_sA, mN_nW_1, mN_nW_2, mJ_sI, mJ_sR, mJ_sA, mJ_sJ_1, mJ_sJ_2, mJ_sJ_3, mJ_nW_1, mJ_nW_2], fun j => by simp (disch := omega) only [true_and, mI_sI_1, mI_sI_2, mI_sI_3, mI_nW_1, mI_nW_2, mI_sR, mI_sJ, mI_sA_1, mI_sA_2, mR_sI, mR_sJ, mR_sA, mR_sR_1, mR_sR_2, mR_sR_3, mR_nW_1, mR_nW_2, mN_sI, mN_sJ, mN_sR, mN_sA, mN_nW_1, mN_nW_2, mJ_sI, mJ_sR, mJ_sA, mJ_sJ_1, mJ_sJ_2, mJ_sJ_3, mJ_nW_1, mJ_nW_2], by simp (disch := omega) only [true_and, mI_sI_1, mI_sI_2, mI_sI_3, mI_nW_1, mI_nW_2, mI_sR, mI_sJ, mI_sA_1, mI_sA_2, mR_sI, mR_sJ, mR_sA, mR_sR_1, mR_sR_2, mR_sR_3, mR_nW_1, mR_nW_2, mN_sI, mN_sJ, mN_sR, mN_sA, mN_nW_1, mN_nW_2, mJ_sI, mJ_sR, mJ_sA, mJ_sJ_1, mJ_sJ_2, mJ_sJ_3, mJ_nW_1, mJ_nW_2]⟩) (by simp (disch := omega) only [true_and, mI_sI_1, mI_sI_2, mI_sI_3, mI_nW_1, mI_nW_2, mI_sR, mI_sJ, mI_sA_1, mI_sA_2, mR_sI, mR_sJ, mR_sA, mR_sR_1, mR_sR_2, mR_sR_3, mR_nW_1, mR_nW_2, mN_sI, mN_sJ, mN_sR, mN_sA, mN_nW_1, mN_nW_2, mJ_sI, mJ_sR, mJ_sA, mJ_sJ_1, mJ_sJ_2, mJ_sJ_3, mJ_nW_1, mJ_nW_2]) (by simp (disch := omega) only [true_and, mI_sI_1, mI_sI_2, mI_sI_3, mI_nW_1, mI_nW_2, mI_sR, mI_sJ, mI_sA_1, mI_sA_2, mR_sI, mR_sJ, mR_sA, mR_sR_1, mR_sR_2, mR_sR_3, mR_nW_1, mR_nW_2, mN_sI, mN_sJ, mN_sR, mN_sA, mN_nW_1, mN_nW_2, mJ_sI, mJ_sR, mJ_sA, mJ_sJ_1, mJ_sJ_2, mJ_sJ_3, mJ_nW_1, mJ_nW_2]) (by simp (disch := omega) only [true_and, mI_sI_1, mI_sI_2, mI_sI_3, mI_nW_1, mI_nW_2, mI_sR, mI_sJ, mI_sA_1, mI_sA_2, mR_sI, mR_sJ, mR_sA, mR_sR_1, mR_sR_2, mR_sR_3, mR_nW_1, mR_nW_2, mN_sI, mN_sJ, mN_sR, mN_sA, mN_nW_1, mN_nW_2, mJ_sI, mJ_sR, mJ_sA, mJ_sJ_1, mJ_sJ_2, mJ_sJ_3, mJ_nW_1, mJ_nW_2]) (by simp (disch := omega) only [true_and, mI_sI_1, mI_sI_2, mI_sI_3, mI_nW_1, mI_nW_2, mI_sR, mI_sJ, mI_sA_1, mI_sA_2, mR_sI, mR_sJ, mR_sA, mR_sR_1, mR_sR_2, mR_sR_3, mR_nW_1, mR_nW_2, mN_sI, mN_sJ, mN_sR, mN_sA, mN_nW_1, mN_nW_2, mJ_sI, mJ_sR, mJ_sA, mJ_sJ_1, mJ_sJ_2, mJ_sJ_3, mJ_nW_1, mJ_nW_2]) (by simp (disch := omega) only [true_and, mI_sI_1, mI_sI_2, mI_sI_3, mI_nW_1, mI_nW_2, mI_sR, mI_sJ, mI_sA_1, mI_sA_2, mR_sI, mR_sJ, mR_sA, mR_sR_1, mR_sR_2, mR_sR_3, mR_nW_1, mR_nW_2, mN_sI, mN_sJ, mN_sR, mN_sA, mN_nW_1, mN_nW_2, mJ_sI, mJ_sR, mJ_sA, mJ_sJ_1, mJ_sJ_2, mJ_sJ_3, mJ_nW_1, mJ_nW_2]) (by simp (disch := omega) only [true_and, mI_sI_1, mI_sI_2, mI_sI_3, mI_nW_1, mI_nW_2, mI_sR, mI_sJ, mI_sA_1, mI_sA_2, mR_sI, mR_sJ, mR_sA, mR_sR_1, mR_sR_2, mR_sR_3, mR_nW_1, mR_nW_2, mN_sI, mN_sJ, mN_sR, mN_sA, mN_nW_1, mN_nW_2, mJ_sI, mJ_sR, mJ_sA, mJ_sJ_1, mJ_sJ_2, mJ_sJ_3, mJ_nW_1, mJ_nW_2]) (fun k _ => by simp (disch := omega) only [true_and, mI_sI_1, mI_sI_2, mI_sI_3, mI_nW_1, mI_nW_2, mI_sR, mI_sJ, mI_sA_1, mI_sA_2, mR_sI, mR_sJ, mR_sA, mR_sR_1, mR_sR_2, mR_sR_3, mR_nW_1, mR_nW_2, mN_sI, mN_sJ, mN_sR, mN_sA, mN_nW_1, mN_nW_2, mJ_sI, mJ_sR, mJ_sA, mJ_sJ_1, mJ_sJ_2, mJ_sJ_3, mJ_nW_1, mJ_nW_2]) (fun c _ => by simp (disch := omega) only [true_and, mI_sI_1, mI_sI_2, mI_sI_3, mI_nW_1, mI_nW_2, mI_sR, mI_sJ, mI_sA_1, mI_sA_2, mR_sI, mR_sJ, mR_sA, mR_sR_1, mR_sR_2, mR_sR_3, mR_nW_1, mR_nW_2, mN_sI, mN_sJ, mN_sR, mN_sA, mN_nW_1, mN_nW_2, mJ_sI, mJ_sR, mJ_sA, mJ_sJ_1, mJ_sJ_2, mJ_sJ_3, mJ_nW_1, mJ_nW_2]) (fun i _ => by simp (disch := omega) only [true_and, mI_sI_1, mI_sI_2, mI_sI_3, mI_nW_1, mI_nW_2, mI_sR, mI_sJ, mI_sA_1, mI_sA_2, mR_sI, mR_sJ, mR_sA, mR_sR_1, mR_sR_2, mR_sR_3, mR_nW_1, mR_nW_2, mN_sI, mN_sJ, mN_sR, mN_sA, mN_nW_1, mN_nW_2, mJ_sI, mJ_sR, mJ_sA, mJ_sJ_1, mJ_sJ_2, mJ_sJ_3, mJ_nW_1, mJ_nW_2]) (r7.1 i (by omega))
      · exact fun y hy => TY_mono (by omega) (Nat.le_refl _) (TY_fr (by (repeat (first | exact Fr_r _ _ | refine Fr_sI ?_ (by unfold FY; omega) _ _ | refine Fr_sR ?_ (by unfold FY; omega) _ _ | refine Fr_nW ?_ (by unfold FY; omega) _ | refine Fr_sJ ?_ (by unfold FY; omega) _ _ | refine Fr_sA ?_ (by unfold FY; omega) _))) (r9 y hy))
    · simp (disch := omega) only [true_and, mI_sI_1, mI_sI_2, mI_sI_3, mI_nW_1, mI_nW_2, mI_sR, mI_sJ, mI_sA_1, mI_sA_2, mR_sI, mR_sJ, mR_sA, mR_sR_1, mR_sR_2, mR_sR_3, mR_nW_1, mR_nW_2, mN_sI, mN_sJ, mN_sR, mN_sA, mN_nW_1, mN_nW_2, mJ_sI, mJ_sR, mJ_sA, mJ_sJ_1, mJ_sJ_2, mJ_sJ_3, mJ_nW_1, mJ_nW_2, e60] at y5
      (simp (disch := omega) only [ile, ilt, ieq, nI_toInt, Int32.reduceToInt] at y5; omega)
  · rw [e16] at z5
    have hnw : ns = 40 := by (simp (disch := omega) only [ile, ilt, ieq, nI_toInt, Int32.reduceToInt] at z5; omega)
    refine w_X12_service l a b c d _ _ (c12_in _ _ _ _ ⟨fun y1 => absurd y1 z1, fun y1 => c12_isDay _ _ ⟨fun y2 => absurd y2 z2, fun y2 => c12_in _ _ _ _ ⟨fun y3 => absurd y3 z3, fun y3 => c12_in _ _ _ _ ⟨fun y4 => ⟨fun y5 => ?_, fun y5 => ⟨rfl, hs⟩⟩, fun y4 => absurd y4 z4⟩⟩⟩⟩)
    rw [e60, hnw] at y5; exact absurd rfl y5
  · exact w_X12_service l a b c d M _ (c12_in _ _ _ _ ⟨fun y1 => ⟨rfl, hs⟩, fun y1 => c12_isDay _ _ ⟨fun y2 => ⟨rfl, hs⟩, fun y2 => c12_in _ _ _ _ ⟨fun y2 => ⟨rfl, hs⟩, fun y3 => c12_in _ _ _ _ ⟨fun y4 => absurd z4 y4, fun y => ⟨rfl, hs⟩⟩⟩⟩⟩)
  · exact w_X12_service l a b c d M _ (c12_in _ _ _ _ ⟨fun y1 => ⟨rfl, hs⟩, fun y1 => c12_isDay _ _ ⟨fun y2 => ⟨rfl, hs⟩, fun y2 => absurd z2 y2⟩⟩)
end S43
