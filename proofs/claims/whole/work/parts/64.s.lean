/-! the class finds the seating -/
section S64
variable {l : Launch} {M : o_M} {nw np ns nt T : Nat}
/-- the least number from k on, within m, that is chosen -/
def lf (g : Nat → Bool) : Nat → Nat → Option Nat
  | _, 0 => none
  | k, m + 1 => if g k then some k else lf g (k + 1) m
theorem lf_none {g : Nat → Bool} : ∀ m k, (∀ j, k ≤ j → j < k + m → g j = false) → lf g k m = none
  | 0, _ => fun _ => rfl
  | m + 1, k => fun h => by unfold lf; rw [h k (Nat.le_refl _) (by omega)]; exact lf_none m (k + 1) (fun j h1 h2 => h j (by omega) (by omega))
theorem lf_some {g : Nat → Bool} {p : Nat} (hp : g p = true) : ∀ m k, k ≤ p → p < k + m → (∀ j, k ≤ j → j < p → g j = false) → lf g k m = some p
  | 0, _ => fun _ h _ => by omega
  | m + 1, k => fun h1 h2 h3 => by
    unfold lf
    by_cases hkp : k = p
    · subst hkp; rw [hp]; rfl
    · rw [h3 k (Nat.le_refl _) (by omega)]
      exact lf_some hp m (k + 1) (by omega) (by omega) (fun j h1 h2 => h3 j (by omega) h2)
def gsel (can : Nat → Nat → Bool) (P n c S p : Nat) : Bool := can c p && !S.testBit p && (1 + fl can P (n - c - 1) (c + 1) (bs S p) == fl can P (n - c) c S)
def fndS (can : Nat → Nat → Bool) (P n c S : Nat) : Option Nat := lf (gsel can P n c S) 0 P
def nxS (can : Nat → Nat → Bool) (P n c S : Nat) : Nat := match fndS can P n c S with
  | none => S
  | some p => bs S p
def Sq (can : Nat → Nat → Bool) (P n : Nat) : Nat → Nat
  | 0 => 0
  | c + 1 => nxS can P n c (Sq can P n c)
theorem c5_settle (hX : wX M) {P n c S : Nat} {fm : Nat → Nat} {h g : Nat → Option Nat} (hP : P ≤ 10) (hn : n ≤ 12) (hcn : c < n) (hS : S < 1024) (hfm : ∀ c, c < n → fm c < 1024 ∧ ∀ p, (fm c).testBit p = true → p < P) (hSt : St (cnf fm) P n c S h g) (hSR : SR M n S fm h g) (q : o_M → Prop)
    (hq : ∀ N' h' g', Sm M N' → SR N' n (nxS (cnf fm) P n c S) fm h' g' → St (cnf fm) P n (c + 1) (nxS (cnf fm) P n c S) h' g' → h' c = fndS (cnf fm) P n c S → (∀ k, k < c → h' k = h k) → sz h' c n = sz h c n → nxS (cnf fm) P n c S < 1024 → q N') : K_X5_settle l [rV (some 29), iV (nI c)] M q := by
  have hmax := hSt.2.2.2
  have key : ∀ m p, p + m = 10 → (∀ j, j < p → gsel (cnf fm) P n c S j = false) → ∀ N, Sm M N → SR N n S fm h g → H_X5_settle_2 l q (nI c) (nI p) N := by
    intro m
    induction m with
    | zero =>
      intro p hp hno N hN hSR
      have : p = 10 := by omega
      subst this
      have hf : fndS (cnf fm) P n c S = none := lf_none P 0 (fun j _ h2 => hno j (by omega))
      have hc0 : h c = none := by
        cases hc : h c with
        | none => rfl
        | some b =>
          obtain ⟨hM, hlow, hhi, _⟩ := hSt
          have hb := hM.2 c b hc
          have hbS := hhi c b (Nat.le_refl _) hc
          have ht := (take_ok (h := h) hcn hbS hM hc hlow (fun k x hk hx => by
            rw [bs_t, hhi k x (by omega) hx]
            have : b ≠ x := fun e => by
              subst e
              have e1 := (hM.1 k b).mp hx
              have e2 := (hM.1 c b).mp hc
              rw [e1] at e2
              have := Option.some.inj e2
              omega
            simp [this]) hmax).1
          have hg : gsel (cnf fm) P n c S b = true := by unfold gsel; rw [hb.2.2, hbS]; simp [ht]
          rw [hno b (by omega)] at hg; cases hg
      have hnx : nxS (cnf fm) P n c S = S := by unfold nxS; rw [hf]
      refine w_X5_settle_2 l q _ _ N ⟨fun _ => hq N h g hN (by rw [hnx]; exact hSR) ?_ (by rw [hf]; exact hc0) (fun _ _ => rfl) rfl (by rw [hnx]; exact hS), fun z => absurd (by decide) z⟩
      rw [hnx]
      obtain ⟨hM, hlow, hhi, _⟩ := hSt
      refine ⟨hM, fun k x hk hx => ?_, fun k x hk hx => hhi k x (by omega) hx, ?_⟩
      · by_cases hkc : k = c
        · subst hkc; rw [hc0] at hx; cases hx
        · exact hlow k x (by omega) hx
      · have e1 := sz_split (h := h) hcn
        rw [hc0] at e1
        simp only [Option.isSome_none, Bool.toNat_false] at e1
        have e2 := sz_le_fl hM (n - c - 1) (c + 1) S (by omega) (fun k x hk hx => hhi k x (by omega) hx)
        have e3 := fl_none (cnf fm) P (n - c - 1) c S
        rw [show n - c - 1 + 1 = n - c by omega] at e3
        rw [show n - (c + 1) = n - c - 1 by omega]
        omega
    | succ m ih =>
      intro p hp hno N hN hSR
      have hX' := Sm_wX hN hX
      have hSR' := hSR
      obtain ⟨s1, s2, s3, s4, s5⟩ := hSR
      obtain ⟨f1, f2⟩ := hfm c hcn
      refine w_X5_settle_2 l q _ _ N ⟨fun z => ?_, fun _ => ?_⟩
      · (simp (disch := omega) only [ile, ilt, ieq, nI_toInt, Int32.reduceToInt] at z; omega)
      rw [nI_clamp (by omega), s3 c hcn, s2, nI_andn f1, bitp p (by omega), nI_and, and_pow, andn_t _ _ _ f1, xn30 hX', n1]
      have hp2 : ∀ p, p < 10 → 2 ^ p < 2 ^ 31 ∧ 0 < 2 ^ p := by decide
      obtain ⟨b1, b2⟩ := hp2 p (by omega)
      have hno' : gsel (cnf fm) P n c S p = false → H_X5_settle_2 l q (nI c) (nI (p + 1)) N := fun hf => ih (p + 1) (by omega) (fun j hj => by
        by_cases hjp : j = p
        · subst hjp; exact hf
        · exact hno j (by omega)) N hN hSR'
      cases hb : ((fm c).testBit p && !S.testBit p) with
      | false =>
        refine ⟨xr29_0 hX', vin (by omega) (by decide), fun _ => hno' (by unfold gsel; rw [show (cnf fm c p && !S.testBit p) = false from hb]; rfl), fun z => absurd ?_ z⟩
        simp; rfl
      | true =>
        have hb' := hb
        rw [Bool.and_eq_true, Bool.not_eq_true'] at hb'
        have hpP : p < P := f2 p hb'.1
        refine ⟨xr29_0 hX', vin (by omega) (by decide), fun z => ?_, fun _ => ?_⟩
        · simp only [Bool.toNat_true, Nat.one_mul] at z
          have := nI_inj b1 (by omega) (z.trans (show (0 : Int32) = nI 0 from rfl))
          omega
        · refine c5_canTake hX' hP hn hcn hS hfm hb'.1 hb'.2 hSt hSR' _ (fun N' h' g' S' hS' hN' hSRn hM' hc' hlo' hhi' hsz' => ⟨fun y => absurd y (by decide), fun _ => ?_⟩) (fun N' hN' hSRn hlt => ⟨fun _ => ?_, fun y => absurd rfl y⟩)
          · have hlow' : ∀ k x, k < c → h' k = some x → S.testBit x = true := fun k x hk hx => hSt.2.1 k x hk (by rw [← hlo' k hk]; exact hx)
            obtain ⟨t1, t2⟩ := take_ok (h := h) hcn hb'.2 hM' hc' hlow' hhi' (by rw [hsz']; exact hmax)
            have hg : gsel (cnf fm) P n c S p = true := by unfold gsel; rw [show (cnf fm c p && !S.testBit p) = true from hb]; simp; exact t1
            have hf : fndS (cnf fm) P n c S = some p := lf_some hg P 0 (Nat.zero_le _) (by omega) (fun j _ hj => hno j hj)
            have hnx : nxS (cnf fm) P n c S = bs S p := by unfold nxS; rw [hf]
            obtain ⟨u1, u2, u3, u4, u5⟩ := hSRn
            have hset : mI N' 29 6 ||| nI (2 ^ p) = nI (bs S p) := by
              rw [u2, nI_or]
              congr 1
              have e2p : ∀ a, a ||| 2 ^ p = bs a p := fun a => by unfold bs; rw [Nat.one_shiftLeft]
              rw [e2p]
              rcases hS' with e | e
              · rw [e]
              · rw [e]
                apply Nat.eq_of_testBit_eq
                intro x
                rw [bs_t, bs_t]; cases S.testBit x <;> cases decide (p = x) <;> rfl
            rw [hset]
            refine hq _ h' g' (Sm_t (Sm_t hN hN') (Sm_sI _ rfl _)) ?_ (by rw [hnx]; exact t2) (by rw [hf]; exact hc') hlo' hsz' (by rw [hnx]; exact bs_lt hS (by omega))
            rw [hnx]
            exact ⟨by simp (disch := omega) only [true_and, mI_sI_1, mI_sI_2, mI_sI_3, mI_nW_1, mI_nW_2, mI_sR, mI_sJ, mI_sA_1, mI_sA_2, mR_sI, mR_sJ, mR_sA, mR_sR_1, mR_sR_2, mR_sR_3, mR_nW_1, mR_nW_2, mN_sI, mN_sJ, mN_sR, mN_sA, mN_nW_1, mN_nW_2, mJ_sI, mJ_sR, mJ_sA, mJ_sJ_1, mJ_sJ_2, mJ_sJ_3, mJ_nW_1, mJ_nW_2]; exact u1, by simp (disch := omega) only [true_and, mI_sI_1, mI_sI_2, mI_sI_3, mI_nW_1, mI_nW_2, mI_sR, mI_sJ, mI_sA_1, mI_sA_2, mR_sI, mR_sJ, mR_sA, mR_sR_1, mR_sR_2, mR_sR_3, mR_nW_1, mR_nW_2, mN_sI, mN_sJ, mN_sR, mN_sA, mN_nW_1, mN_nW_2, mJ_sI, mJ_sR, mJ_sA, mJ_sJ_1, mJ_sJ_2, mJ_sJ_3, mJ_nW_1, mJ_nW_2], fun a ha => by simp (disch := omega) only [true_and, mI_sI_1, mI_sI_2, mI_sI_3, mI_nW_1, mI_nW_2, mI_sR, mI_sJ, mI_sA_1, mI_sA_2, mR_sI, mR_sJ, mR_sA, mR_sR_1, mR_sR_2, mR_sR_3, mR_nW_1, mR_nW_2, mN_sI, mN_sJ, mN_sR, mN_sA, mN_nW_1, mN_nW_2, mJ_sI, mJ_sR, mJ_sA, mJ_sJ_1, mJ_sJ_2, mJ_sJ_3, mJ_nW_1, mJ_nW_2]; exact u3 a ha, fun a ha => by simp (disch := omega) only [true_and, mI_sI_1, mI_sI_2, mI_sI_3, mI_nW_1, mI_nW_2, mI_sR, mI_sJ, mI_sA_1, mI_sA_2, mR_sI, mR_sJ, mR_sA, mR_sR_1, mR_sR_2, mR_sR_3, mR_nW_1, mR_nW_2, mN_sI, mN_sJ, mN_sR, mN_sA, mN_nW_1, mN_nW_2, mJ_sI, mJ_sR, mJ_sA, mJ_sJ_1, mJ_sJ_2, mJ_sJ_3, mJ_nW_1, mJ_nW_2]; exact u4 a ha, fun a ha => by simp (disch := omega) only [true_and, mI_sI_1, mI_sI_2, mI_sI_3, mI_nW_1, mI_nW_2, mI_sR, mI_sJ, mI_sA_1, mI_sA_2, mR_sI, mR_sJ, mR_sA, mR_sR_1, mR_sR_2, mR_sR_3, mR_nW_1, mR_nW_2, mN_sI, mN_sJ, mN_sR, mN_sA, mN_nW_1, mN_nW_2, mJ_sI, mJ_sR, mJ_sA, mJ_sJ_1, mJ_sJ_2, mJ_sJ_3, mJ_nW_1, mJ_nW_2]; exact u5 a ha⟩
          · refine ih (p + 1) (by omega) (fun j hj => ?_) N' (Sm_t hN hN') hSRn
            by_cases hjp : j = p
            · subst hjp
              unfold gsel
              rw [show (cnf fm c j && !S.testBit j) = true from hb]
              simp; omega
            · exact hno j (by omega)
  exact w_X5_settle l _ M q (key 10 0 (by omega) (fun j hj => by omega) M (Sm_r M) hSR)
theorem cf_cat (f : Nat → Bool) {c : Nat} : ∀ n, c ≤ n → cn f n = cn f c + cf f c n
  | 0 => fun h => by have : c = 0 := by omega
                     subst this; rw [cf_n]; rfl
  | n + 1 => fun h => by
    by_cases hc : c = n + 1
    · subst hc; rw [cf_n]; omega
    · have e := cf_cat f (c := c) n (by omega)
      have e1 : cf f c (n + 1) = cf f c n + (decide (c ≤ n) && f n).toNat := rfl
      have e2 : decide (c ≤ n) = true := by simp; omega
      rw [e1, e2, Bool.true_and]
      simp only [cn]; omega
/-- everyone is seated -/
theorem c5_seatAll (hX : wX M) {P n : Nat} {fm : Nat → Nat} (hP : P ≤ 10) (hn : n ≤ 12) (hfm : ∀ c, c < n → fm c < 1024 ∧ ∀ p, (fm c).testBit p = true → p < P) (hSR : SR M n 0 fm (fun _ => none) (fun _ => none)) (q : o_M → Prop) (hq : ∀ N' h' g' S', Sm M N' → SR N' n S' fm h' g' → Mt (cnf fm) P n h' g' → (∀ c, c < n → h' c = fndS (cnf fm) P n c (Sq (cnf fm) P n c)) → sz h' 0 n = fl (cnf fm) P n 0 0 → q N') : K_X5_seatAll l [rV (some 29)] M q := by
  have set : ∀ m c, c + m = n → ∀ N h g, Sm M N → Sq (cnf fm) P n c < 1024 → SR N n (Sq (cnf fm) P n c) fm h g → St (cnf fm) P n c (Sq (cnf fm) P n c) h g → (∀ k, k < c → h k = fndS (cnf fm) P n k (Sq (cnf fm) P n k)) → sz h 0 n = fl (cnf fm) P n 0 0 → H_X5_seatAll_28 l q (nI c) N := by
    intro m
    induction m with
    | zero =>
      intro c hc N h g hN hS hSR hSt hfd hsz
      have : c = n := by omega
      subst this
      refine w_X5_seatAll_28 l q _ N ⟨fun _ => hq N h g _ hN hSR hSt.1 hfd hsz, fun z => absurd (by rw [hSR.1]; exact nI_le (Nat.le_refl _) (by omega)) z⟩
    | succ m ih =>
      intro c hc N h g hN hS hSR hSt hfd hsz
      refine w_X5_seatAll_28 l q _ N ⟨fun z => ?_, fun _ => c5_settle (Sm_wX hN hX) hP hn (by omega) hS hfm hSt hSR _ (fun N' h' g' hN' hSR' hSt' hc' hlo hs' hS' => ?_)⟩
      · rw [hSR.1, nI_leI (by omega) (by omega)] at z; omega
      · rw [n1]
        refine ih (c + 1) (by omega) N' h' g' (Sm_t hN hN') hS' hSR' hSt' (fun k hk => ?_) ?_
        · by_cases hkc : k = c
          · subst hkc; exact hc'
          · rw [hlo k (by omega)]; exact hfd k (by omega)
        · rw [← hsz]
          unfold sz
          rw [cf_0, cf_0, cf_cat _ n (show c ≤ n by omega), cf_cat (fun k => (h k).isSome) n (show c ≤ n by omega)]
          unfold sz at hs'
          rw [hs', cn_cong (f := fun k => (h' k).isSome) (g := fun k => (h k).isSome) c (fun k hk => by show (h' k).isSome = (h k).isSome; rw [hlo k hk])]
  have begin' : ∀ N h g, Sm M N → SR N n 0 fm h g → Mt (cnf fm) P n h g → fl (cnf fm) P n 0 0 ≤ sz h 0 n → H_X5_seatAll_28 l q 0 N := fun N h g hN hSR hM hle => by
    have e := sz_le_fl hM n 0 0 (by omega) (fun k p _ _ => Nat.zero_testBit p)
    exact set n 0 (by omega) N h g hN (by show (0 : Nat) < 1024; decide) hSR ⟨hM, fun k x hk => by omega, fun k x _ _ => Nat.zero_testBit x, by show sz h 0 n = fl (cnf fm) P (n - 0) 0 0; rw [Nat.sub_zero]; omega⟩ (fun k hk => by omega) (by omega)
  have grow : ∀ m i, i + m = 12 → ∀ N h g, Sm M N → SR N n 0 fm h g → Mt (cnf fm) P n h g → sz h 0 n = i → H_X5_seatAll_4 l q 1 (nI i) N := by
    intro m
    induction m with
    | zero =>
      intro i hi N h g hN hSR hM hsz
      have : i = 12 := by omega
      subst this
      have hszn : sz h 0 n ≤ n := by unfold sz; rw [cf_0]; exact cn_le _ _
      have := fl_m (cnf fm) P n 0 0
      exact w_X5_seatAll_4 l q _ _ N ⟨fun _ => begin' N h g hN hSR hM (by omega), fun z => absurd (by decide) z⟩
    | succ m ih =>
      intro i hi N h g hN hSR hM hsz
      refine w_X5_seatAll_4 l q _ _ N ⟨fun z => ?_, fun _ => ⟨fun z => absurd z (by decide), fun _ => ?_⟩⟩
      · (simp (disch := omega) only [ile, ilt, ieq, nI_toInt, Int32.reduceToInt] at z; omega)
      refine c5_seatOneMore (first := 0) (Sm_wX hN hX) hP hn (Nat.zero_le _) (by decide) hfm hM (fun k p hk => by omega) (fun k p _ _ => Nat.zero_testBit p) hSR _ (fun N' h' g' hN' hSR' hA => ?_) (fun N' hN' hSR' hle => ?_)
      · rw [n1]
        exact ih (i + 1) (by omega) N' h' g' (Sm_t hN hN') hSR' hA.1 (by rw [sz_aug hA, hsz])
      · rw [n1]
        rw [Nat.sub_zero] at hle
        have hb := begin' N' h g (Sm_t hN hN') hSR' hM hle
        exact w_X5_seatAll_4 l q _ _ N' ⟨fun _ => hb, fun _ => ⟨fun _ => hb, fun z => absurd rfl z⟩⟩
  exact w_X5_seatAll l M q (grow 12 0 (by omega) M _ _ (Sm_r M) hSR ⟨fun c p => ⟨fun z => (by cases z), fun z => (by cases z)⟩, fun c p z => by cases z⟩ (by unfold sz; rw [cf_0]; exact cn_0 _ (fun _ _ => rfl)))
theorem c5_countGaps (hX : wX M) {P n S : Nat} {can : Nat → Nat → Bool} {fm : Nat → Nat} {h g : Nat → Option Nat} (hP : P ≤ 10) (hn : n ≤ 12) (hM : Mt can P n h g) (hSR : SR M n S fm h g) (q : Int32 → o_M → Prop) (hq : q (nI (n - sz h 0 n)) M) : K_X5_countGaps l [rV (some 29)] M q := by
  obtain ⟨s1, s2, s3, s4, s5⟩ := hSR
  have key : ∀ m c, c + m = n → H_X5_countGaps_4 l q (nI (c - cn (fun k => (h k).isSome) c)) (nI c) M := by
    intro m
    induction m with
    | zero =>
      intro c hc
      have : c = n := by omega
      subst this
      unfold sz at hq
      rw [cf_0] at hq
      exact w_X5_countGaps_4 l q _ _ M ⟨fun _ => hq, fun z => absurd (by rw [s1]; exact nI_le (Nat.le_refl _) (by omega)) z⟩
    | succ m ih =>
      intro c hc
      have e := ih (c + 1) (by omega)
      simp only [cn] at e
      have hle := cn_le (fun k => (h k).isSome) c
      refine w_X5_countGaps_4 l q _ _ M ⟨fun z => ?_, fun _ => ?_⟩
      · rw [s1, nI_leI (by omega) (by omega)] at z; omega
      rw [nI_clamp (by omega), s4 c (by omega), xn31 hX, n1, n1]
      refine ⟨xr29_1 hX, vin (by omega) (by decide), fun z => ?_, fun z => ?_⟩
      · have hs : (h c).isSome = true := by
          cases hc : h c with
          | none => rw [hc] at z; exact absurd rfl z
          | some b => rfl
        rw [hs] at e
        rw [Bool.toNat_true, show c + 1 - (cn (fun k => (h k).isSome) c + 1) = c - cn (fun k => (h k).isSome) c by omega] at e
        exact e
      · have hs : h c = none := (oI_n1 (fun p hp => by have := (hM.2 c p hp).2.1; omega)).mp z
        rw [hs] at e
        simp only [Option.isSome_none, Bool.toNat_false, Nat.add_zero] at e
        rw [show c - cn (fun k => (h k).isSome) c + 1 = c + 1 - cn (fun k => (h k).isSome) c by omega]
        exact e
  exact w_X5_countGaps l M q (key n 0 (by omega))
end S64
