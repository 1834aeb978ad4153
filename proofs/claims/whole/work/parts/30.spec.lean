/-! tools for specs -/
abbrev o_v := Nat → Nat → Int32
def b2 (b : Bool) : Int32 := if b then 1 else 0
def rng (v a b : Int32) : Bool := decide (a.toInt ≤ v.toInt ∧ v.toInt ≤ b.toInt)
theorem b2_nar (b : Bool) : narrow .boolean (.int (b2 b)) = .int (b2 b) := by cases b <;> decide
theorem b2_0 {b : Bool} : b2 b = 0 ↔ b = false := by cases b <;> decide
theorem b2_n0 {b : Bool} : ¬ b2 b = 0 ↔ b = true := by cases b <;> decide
theorem ilt {x y : Int32} : x < y ↔ x.toInt < y.toInt := Int32.lt_iff_toInt_lt
theorem ile {x y : Int32} : x ≤ y ↔ x.toInt ≤ y.toInt := Int32.le_iff_toInt_le
/-- the model's rows: where they lie, how long they are -/
def o_m60 : List (Nat × Nat) := [(1, 12), (2, 12), (3, 12), (4, 12), (5, 12), (6, 12), (8, 10), (9, 10), (10, 10), (11, 10), (12, 60), (13, 60), (15, 40), (16, 40), (17, 40), (18, 40), (19, 40), (20, 200), (21, 480), (22, 40), (23, 300), (26, 11), (27, 3300), (28, 3300), (29, 3300), (30, 11), (31, 121), (32, 11), (33, 11), (35, 6), (36, 6), (37, 6), (38, 1800), (40, 28), (41, 81), (50, 320), (51, 120), (52, 13312), (53, 12), (54, 5), (55, 5), (56, 5), (57, 6)]
def wM (M : o_M) : Prop := ∀ p ∈ o_m60, mR M 60 p.1 = some (61 + p.1) ∧ mN M (61 + p.1) = p.2
theorem wr1 {M : o_M} (h : wM M) : mR M 60 1 = some 62 := (h (1, 12) (by decide)).1
theorem wn1 {M : o_M} (h : wM M) : mN M 62 = 12 := (h (1, 12) (by decide)).2
theorem wr2 {M : o_M} (h : wM M) : mR M 60 2 = some 63 := (h (2, 12) (by decide)).1
theorem wn2 {M : o_M} (h : wM M) : mN M 63 = 12 := (h (2, 12) (by decide)).2
theorem wr3 {M : o_M} (h : wM M) : mR M 60 3 = some 64 := (h (3, 12) (by decide)).1
theorem wn3 {M : o_M} (h : wM M) : mN M 64 = 12 := (h (3, 12) (by decide)).2
theorem wr4 {M : o_M} (h : wM M) : mR M 60 4 = some 65 := (h (4, 12) (by decide)).1
theorem wn4 {M : o_M} (h : wM M) : mN M 65 = 12 := (h (4, 12) (by decide)).2
theorem wr5 {M : o_M} (h : wM M) : mR M 60 5 = some 66 := (h (5, 12) (by decide)).1
theorem wn5 {M : o_M} (h : wM M) : mN M 66 = 12 := (h (5, 12) (by decide)).2
theorem wr6 {M : o_M} (h : wM M) : mR M 60 6 = some 67 := (h (6, 12) (by decide)).1
theorem wn6 {M : o_M} (h : wM M) : mN M 67 = 12 := (h (6, 12) (by decide)).2
theorem wr8 {M : o_M} (h : wM M) : mR M 60 8 = some 69 := (h (8, 10) (by decide)).1
theorem wn8 {M : o_M} (h : wM M) : mN M 69 = 10 := (h (8, 10) (by decide)).2
theorem wr9 {M : o_M} (h : wM M) : mR M 60 9 = some 70 := (h (9, 10) (by decide)).1
theorem wn9 {M : o_M} (h : wM M) : mN M 70 = 10 := (h (9, 10) (by decide)).2
theorem wr10 {M : o_M} (h : wM M) : mR M 60 10 = some 71 := (h (10, 10) (by decide)).1
theorem wn10 {M : o_M} (h : wM M) : mN M 71 = 10 := (h (10, 10) (by decide)).2
theorem wr11 {M : o_M} (h : wM M) : mR M 60 11 = some 72 := (h (11, 10) (by decide)).1
theorem wn11 {M : o_M} (h : wM M) : mN M 72 = 10 := (h (11, 10) (by decide)).2
theorem wr12 {M : o_M} (h : wM M) : mR M 60 12 = some 73 := (h (12, 60) (by decide)).1
theorem wn12 {M : o_M} (h : wM M) : mN M 73 = 60 := (h (12, 60) (by decide)).2
theorem wr13 {M : o_M} (h : wM M) : mR M 60 13 = some 74 := (h (13, 60) (by decide)).1
theorem wn13 {M : o_M} (h : wM M) : mN M 74 = 60 := (h (13, 60) (by decide)).2
theorem wr15 {M : o_M} (h : wM M) : mR M 60 15 = some 76 := (h (15, 40) (by decide)).1
theorem wn15 {M : o_M} (h : wM M) : mN M 76 = 40 := (h (15, 40) (by decide)).2
theorem wr16 {M : o_M} (h : wM M) : mR M 60 16 = some 77 := (h (16, 40) (by decide)).1
theorem wn16 {M : o_M} (h : wM M) : mN M 77 = 40 := (h (16, 40) (by decide)).2
theorem wr17 {M : o_M} (h : wM M) : mR M 60 17 = some 78 := (h (17, 40) (by decide)).1
theorem wn17 {M : o_M} (h : wM M) : mN M 78 = 40 := (h (17, 40) (by decide)).2
theorem wr18 {M : o_M} (h : wM M) : mR M 60 18 = some 79 := (h (18, 40) (by decide)).1
theorem wn18 {M : o_M} (h : wM M) : mN M 79 = 40 := (h (18, 40) (by decide)).2
theorem wr19 {M : o_M} (h : wM M) : mR M 60 19 = some 80 := (h (19, 40) (by decide)).1
theorem wn19 {M : o_M} (h : wM M) : mN M 80 = 40 := (h (19, 40) (by decide)).2
theorem wr20 {M : o_M} (h : wM M) : mR M 60 20 = some 81 := (h (20, 200) (by decide)).1
theorem wn20 {M : o_M} (h : wM M) : mN M 81 = 200 := (h (20, 200) (by decide)).2
theorem wr21 {M : o_M} (h : wM M) : mR M 60 21 = some 82 := (h (21, 480) (by decide)).1
theorem wn21 {M : o_M} (h : wM M) : mN M 82 = 480 := (h (21, 480) (by decide)).2
theorem wr22 {M : o_M} (h : wM M) : mR M 60 22 = some 83 := (h (22, 40) (by decide)).1
theorem wn22 {M : o_M} (h : wM M) : mN M 83 = 40 := (h (22, 40) (by decide)).2
theorem wr23 {M : o_M} (h : wM M) : mR M 60 23 = some 84 := (h (23, 300) (by decide)).1
theorem wn23 {M : o_M} (h : wM M) : mN M 84 = 300 := (h (23, 300) (by decide)).2
theorem wr26 {M : o_M} (h : wM M) : mR M 60 26 = some 87 := (h (26, 11) (by decide)).1
theorem wn26 {M : o_M} (h : wM M) : mN M 87 = 11 := (h (26, 11) (by decide)).2
theorem wr27 {M : o_M} (h : wM M) : mR M 60 27 = some 88 := (h (27, 3300) (by decide)).1
theorem wn27 {M : o_M} (h : wM M) : mN M 88 = 3300 := (h (27, 3300) (by decide)).2
theorem wr28 {M : o_M} (h : wM M) : mR M 60 28 = some 89 := (h (28, 3300) (by decide)).1
theorem wn28 {M : o_M} (h : wM M) : mN M 89 = 3300 := (h (28, 3300) (by decide)).2
theorem wr29 {M : o_M} (h : wM M) : mR M 60 29 = some 90 := (h (29, 3300) (by decide)).1
theorem wn29 {M : o_M} (h : wM M) : mN M 90 = 3300 := (h (29, 3300) (by decide)).2
theorem wr30 {M : o_M} (h : wM M) : mR M 60 30 = some 91 := (h (30, 11) (by decide)).1
theorem wn30 {M : o_M} (h : wM M) : mN M 91 = 11 := (h (30, 11) (by decide)).2
theorem wr31 {M : o_M} (h : wM M) : mR M 60 31 = some 92 := (h (31, 121) (by decide)).1
theorem wn31 {M : o_M} (h : wM M) : mN M 92 = 121 := (h (31, 121) (by decide)).2
theorem wr32 {M : o_M} (h : wM M) : mR M 60 32 = some 93 := (h (32, 11) (by decide)).1
theorem wn32 {M : o_M} (h : wM M) : mN M 93 = 11 := (h (32, 11) (by decide)).2
theorem wr33 {M : o_M} (h : wM M) : mR M 60 33 = some 94 := (h (33, 11) (by decide)).1
theorem wn33 {M : o_M} (h : wM M) : mN M 94 = 11 := (h (33, 11) (by decide)).2
theorem wr35 {M : o_M} (h : wM M) : mR M 60 35 = some 96 := (h (35, 6) (by decide)).1
theorem wn35 {M : o_M} (h : wM M) : mN M 96 = 6 := (h (35, 6) (by decide)).2
theorem wr36 {M : o_M} (h : wM M) : mR M 60 36 = some 97 := (h (36, 6) (by decide)).1
theorem wn36 {M : o_M} (h : wM M) : mN M 97 = 6 := (h (36, 6) (by decide)).2
theorem wr37 {M : o_M} (h : wM M) : mR M 60 37 = some 98 := (h (37, 6) (by decide)).1
theorem wn37 {M : o_M} (h : wM M) : mN M 98 = 6 := (h (37, 6) (by decide)).2
theorem wr38 {M : o_M} (h : wM M) : mR M 60 38 = some 99 := (h (38, 1800) (by decide)).1
theorem wn38 {M : o_M} (h : wM M) : mN M 99 = 1800 := (h (38, 1800) (by decide)).2
theorem wr40 {M : o_M} (h : wM M) : mR M 60 40 = some 101 := (h (40, 28) (by decide)).1
theorem wn40 {M : o_M} (h : wM M) : mN M 101 = 28 := (h (40, 28) (by decide)).2
theorem wr41 {M : o_M} (h : wM M) : mR M 60 41 = some 102 := (h (41, 81) (by decide)).1
theorem wn41 {M : o_M} (h : wM M) : mN M 102 = 81 := (h (41, 81) (by decide)).2
theorem wr50 {M : o_M} (h : wM M) : mR M 60 50 = some 111 := (h (50, 320) (by decide)).1
theorem wn50 {M : o_M} (h : wM M) : mN M 111 = 320 := (h (50, 320) (by decide)).2
theorem wr51 {M : o_M} (h : wM M) : mR M 60 51 = some 112 := (h (51, 120) (by decide)).1
theorem wn51 {M : o_M} (h : wM M) : mN M 112 = 120 := (h (51, 120) (by decide)).2
theorem wr52 {M : o_M} (h : wM M) : mR M 60 52 = some 113 := (h (52, 13312) (by decide)).1
theorem wn52 {M : o_M} (h : wM M) : mN M 113 = 13312 := (h (52, 13312) (by decide)).2
theorem wr53 {M : o_M} (h : wM M) : mR M 60 53 = some 114 := (h (53, 12) (by decide)).1
theorem wn53 {M : o_M} (h : wM M) : mN M 114 = 12 := (h (53, 12) (by decide)).2
theorem wr54 {M : o_M} (h : wM M) : mR M 60 54 = some 115 := (h (54, 5) (by decide)).1
theorem wn54 {M : o_M} (h : wM M) : mN M 115 = 5 := (h (54, 5) (by decide)).2
theorem wr55 {M : o_M} (h : wM M) : mR M 60 55 = some 116 := (h (55, 5) (by decide)).1
theorem wn55 {M : o_M} (h : wM M) : mN M 116 = 5 := (h (55, 5) (by decide)).2
theorem wr56 {M : o_M} (h : wM M) : mR M 60 56 = some 117 := (h (56, 5) (by decide)).1
theorem wn56 {M : o_M} (h : wM M) : mN M 117 = 5 := (h (56, 5) (by decide)).2
theorem wr57 {M : o_M} (h : wM M) : mR M 60 57 = some 118 := (h (57, 6) (by decide)).1
theorem wn57 {M : o_M} (h : wM M) : mN M 118 = 6 := (h (57, 6) (by decide)).2
theorem vin {j n : Nat} (h : j < n) (hn : n < 2 ^ 31) : vp_in (nI j) n := vp_in_nI h hn
section S12
variable {l : Launch} {M : o_M}
theorem c12_in (v a b : Int32) (q : Int32 → o_M → Prop) (h : q (b2 (rng v a b)) M) : K_X12_in l [iV v, iV a, iV b] M q := by
  refine w_X12_in l v a b M q ⟨fun c => ?_, fun c => ⟨fun d => ?_, fun d => ?_⟩⟩
  · rw [ilt] at c
    have e : rng v a b = false := by unfold rng; simp; omega
    rw [e] at h; exact h
  · rw [ilt] at c d
    have e : rng v a b = false := by unfold rng; simp; omega
    rw [e] at h; exact h
  · rw [ilt] at c d
    have e : rng v a b = true := by unfold rng; simp; omega
    rw [e] at h; exact h
theorem c12_isDay (d : Int32) (q : Int32 → o_M → Prop) (h : q (b2 (rng d 0 400)) M) : K_X12_isDay l [iV d] M q :=
  w_X12_isDay l d M q (c12_in d 0 400 _ ⟨b2_nar _, h⟩)
theorem c12_isInstrument (d : Int32) (q : Int32 → o_M → Prop) (h : q (b2 (rng d 0 5)) M) : K_X12_isInstrument l [iV d] M q :=
  w_X12_isInstrument l d M q (c12_in d 0 5 _ ⟨b2_nar _, h⟩)
theorem c12_isWork (d : Int32) (q : Int32 → o_M → Prop) (h : q (b2 (rng d 0 (mI M 60 0 - 1))) M) : K_X12_isWork l [rV (some 60), iV d] M q :=
  w_X12_isWork l d M q (c12_in d _ _ _ ⟨b2_nar _, h⟩)
theorem c12_isPlayer (d : Int32) (q : Int32 → o_M → Prop) (h : q (b2 (rng d 0 (mI M 60 7 - 1))) M) : K_X12_isPlayer l [rV (some 60), iV d] M q :=
  w_X12_isPlayer l d M q (c12_in d _ _ _ ⟨b2_nar _, h⟩)
theorem c12_isService (d : Int32) (q : Int32 → o_M → Prop) (h : q (b2 (rng d 0 (mI M 60 14 - 1))) M) : K_X12_isService l [rV (some 60), iV d] M q :=
  w_X12_isService l d M q (c12_in d _ _ _ ⟨b2_nar _, h⟩)
/-- whether a work can be played on a day -/
def f_played (v : o_v) (w : Nat) (d : Int32) : Bool := v 65 w == 0 || (v 65 w == 1 && rng d (v 66 w) (v 67 w))
theorem c12_isPlayed (hw : wM M) {w : Nat} (hlt : w < 12) (d : Int32) (q : Int32 → o_M → Prop) (h : q (b2 (f_played (mI M) w d)) M) : K_X12_isPlayed l [rV (some 60), iV (nI w), iV d] M q := by
  have hc : (nI w).toNatClampNeg = w := nI_clamp (by omega)
  refine w_X12_isPlayed l (nI w) d M q ⟨wr4 hw, (by rw [wn4 hw]; exact vin hlt (by decide)), fun c => ?_, fun c => ⟨wr4 hw, (by rw [wn4 hw]; exact vin hlt (by decide)), fun c2 => ?_, fun c2 => ⟨wr5 hw, (by rw [wn5 hw]; exact vin hlt (by decide)), wr6 hw, (by rw [wn6 hw]; exact vin hlt (by decide)), c12_in _ _ _ _ ⟨fun c3 => ?_, fun c3 => ?_⟩⟩⟩⟩
  all_goals rw [hc] at *
  · have e : f_played (mI M) w d = true := by simp [f_played, c]
    rw [e] at h; exact h
  · have e : f_played (mI M) w d = false := by simp [f_played, c, c2]
    rw [e] at h; exact h
  · have e : f_played (mI M) w d = false := by rw [b2_0] at c3; simp [f_played, c2, c3]
    rw [e] at h; exact h
  · have e : f_played (mI M) w d = true := by rw [b2_n0] at c3; simp [f_played, c2, c3]
    rw [e] at h; exact h
end S12
section S12b
variable {l : Launch} {M : o_M}
theorem ixm (c p k : Nat) {C : Int32} (hC : C = nI c) : C * nI p + nI k = nI (c * p + k) := by rw [hC, pk_mul, nI_add]
theorem n1 (k : Nat) : nI k + 1 = nI (k + 1) := nI_1 k
/-- one of the first n leaves of a player holds on a day -/
def f_awayN (v : o_v) (p : Nat) (d : Int32) (n : Nat) : Bool := (List.range n).any fun k => rng d (v 73 (6 * p + k)) (v 74 (6 * p + k))
theorem f_awayN_s (M : o_M) (p : Nat) (d : Int32) (n : Nat) : f_awayN (mI M) p d (n + 1) = (f_awayN (mI M) p d n || rng d (mI M 73 (6 * p + n)) (mI M 74 (6 * p + n))) := by
  simp [f_awayN, List.range_succ, List.any_append]
def f_away (v : o_v) (p : Nat) (d : Int32) : Bool := f_awayN v p d (v 72 p).toNatClampNeg
theorem c12_isAway (hw : wM M) {p n : Nat} (hp : p < 10) (hn : mI M 72 p = nI n) (hn6 : n ≤ 6) (d : Int32) (q : Int32 → o_M → Prop) (h : q (b2 (f_away (mI M) p d)) M) : K_X12_isAway l [rV (some 60), iV (nI p), iV d] M q := by
  have hc : (nI p).toNatClampNeg = p := nI_clamp (by omega)
  have hfa : f_away (mI M) p d = f_awayN (mI M) p d n := by unfold f_away; rw [hn, nI_clamp (by omega)]
  have key : ∀ m k : Nat, k + m = n → H_X12_isAway_5 l q (nI p) d (b2 (f_awayN (mI M) p d k)) (nI k) M := by
    intro m
    induction m with
    | zero =>
      intro k hk
      have hk : k = n := by omega
      subst hk
      refine w_X12_isAway_5 l q _ _ _ _ M ⟨wr11 hw, by rw [wn11 hw]; exact vin hp (by decide), fun c => ⟨b2_nar _, by rw [← hfa]; exact h⟩, fun c => ?_⟩
      rw [hc, hn] at c
      exact absurd (nI_le (Nat.le_refl _) (by omega)) c
    | succ m ih =>
      intro k hk
      have hix : (6 : Int32) * nI p + nI k = nI (6 * p + k) := ixm 6 p k rfl
      have hcx : (nI (6 * p + k)).toNatClampNeg = 6 * p + k := nI_clamp (by omega)
      have hin : vp_in (nI (6 * p + k)) 60 := vin (by omega) (by decide)
      refine w_X12_isAway_5 l q _ _ _ _ M ⟨wr11 hw, by rw [wn11 hw]; exact vin hp (by decide), fun c => ?_, fun c => ⟨fun c2 => ?_, fun c2 => ?_⟩⟩
      · rw [hc, hn, nI_leI (by omega) (by omega)] at c
        omega
      · rw [n1]
        have e := ih (k + 1) (by omega)
        rw [f_awayN_s, b2_n0.mp c2] at e
        exact e
      · rw [hix, wn12 hw, wn13 hw, hcx]
        refine ⟨wr12 hw, hin, wr13 hw, hin, c12_in _ _ _ _ ⟨fun c3 => ?_, fun c3 => ?_⟩⟩
        · rw [n1]
          have e := ih (k + 1) (by omega)
          rw [f_awayN_s, b2_0.mp c2, b2_0.mp c3] at e
          exact e
        · rw [n1]
          have e := ih (k + 1) (by omega)
          rw [f_awayN_s, b2_0.mp c2, b2_n0.mp c3] at e
          exact e
  exact w_X12_isAway l _ _ M q (key n 0 (by omega))
/-- the chair on which a player sits in a service, among the first n: the least one -/
def f_chairN (v : o_v) (s : Nat) (p : Int32) : Nat → Nat → Int32
  | 0, _ => -1
  | m + 1, c => if v 82 (12 * s + c) = p then nI c else f_chairN v s p m (c + 1)
def f_chairOf (v : o_v) (s : Nat) (p : Int32) : Int32 := if v 83 s = 0 then -1 else f_chairN v s p 12 0
theorem c12_chairOf (hw : wM M) {s : Nat} (hs : s < 40) (p : Int32) (q : Int32 → o_M → Prop) (h : q (f_chairOf (mI M) s p) M) : K_X12_chairOf l [rV (some 60), iV (nI s), iV p] M q := by
  have hc : (nI s).toNatClampNeg = s := nI_clamp (by omega)
  by_cases h0 : mI M 83 s = 0
  · refine w_X12_chairOf l _ _ M q (w_X12_chairOf_2 l q _ _ _ M ⟨fun c => absurd c (by decide), fun c => ⟨wr22 hw, by rw [wn22 hw]; exact vin hs (by decide), fun c2 => ?_, fun c2 => ?_⟩⟩)
    · unfold f_chairOf at h; rw [if_pos h0] at h; exact h
    · rw [hc] at c2; exact absurd h0 c2
  · unfold f_chairOf at h
    rw [if_neg h0] at h
    have key : ∀ m c : Nat, c + m = 12 → q (f_chairN (mI M) s p m c) M → H_X12_chairOf_2 l q (nI s) p (nI c) M := by
      intro m
      induction m with
      | zero =>
        intro c hcm hq
        have : c = 12 := by omega
        subst this
        exact w_X12_chairOf_2 l q _ _ _ M ⟨fun _ => hq, fun z => absurd (by decide) z⟩
      | succ m ih =>
        intro c hcm hq
        have hix : (12 : Int32) * nI s + nI c = nI (12 * s + c) := ixm 12 s c rfl
        have hcx : (nI (12 * s + c)).toNatClampNeg = 12 * s + c := nI_clamp (by omega)
        refine w_X12_chairOf_2 l q _ _ _ M ⟨fun z => ?_, fun z => ⟨wr22 hw, by rw [wn22 hw]; exact vin hs (by decide), fun c2 => ?_, fun c2 => ?_⟩⟩
        · rw [show (12 : Int32) = nI 12 from rfl, nI_leI (by decide) (by omega)] at z; omega
        · rw [hc] at c2; exact absurd c2 h0
        · rw [hix, wn21 hw, hcx, n1]
          unfold f_chairN at hq
          refine ⟨wr21 hw, vin (by omega) (by decide), fun c3 => ?_, fun c3 => ?_⟩
          · rw [if_neg c3] at hq; exact ih (c + 1) (by omega) hq
          · rw [if_pos c3] at hq; exact hq
    exact w_X12_chairOf l _ _ M q (key 12 0 (by omega) h)
end S12b
section S12c
variable {l : Launch} {M : o_M}
/-- the need of a work, of a service -/
def f_needOf (v : o_v) (w i : Nat) : Int32 := (v 64 w >>> ((2 * nI i) &&& 31)) &&& 3
theorem c12_needOf (hw : wM M) {w : Nat} (hlt : w < 12) (i : Nat) (q : Int32 → o_M → Prop) (h : q (f_needOf (mI M) w i) M) : K_X12_needOf l [rV (some 60), iV (nI w), iV (nI i)] M q := by
  have hc : (nI w).toNatClampNeg = w := nI_clamp (by omega)
  refine w_X12_needOf l _ _ M q ⟨wr3 hw, by rw [wn3 hw]; exact vin hlt (by decide), ?_⟩
  rw [hc]; exact h
/-- which work is the k-th of a service -/
def f_wk (v : o_v) (s k : Nat) : Nat := (v 81 (5 * s + k)).toNatClampNeg
/-- the greatest need among the first k works of a service, and a start -/
def f_mx (v : o_v) (s i : Nat) (n0 : Int32) : Nat → Int32
  | 0 => n0
  | k + 1 => if f_needOf v (f_wk v s k) i ≤ f_mx v s i n0 k then f_mx v s i n0 k else f_needOf v (f_wk v s k) i
def f_cap (kd n : Int32) : Int32 := if kd = 4 then (if n ≤ 1 then n else 1) else n
/-- the need of a service with one work more (or without) -/
def f_need (v : o_v) (s i : Nat) (more : Option Nat) : Int32 := f_cap (v 76 s) (f_mx v s i (match more with | none => 0 | some w => f_needOf v w i) (v 80 s).toNatClampNeg)
def moreV (more : Option Nat) : Int32 := match more with | none => -1 | some w => nI w
/-- a service of the model: how many works, which ones -/
def okS (M : o_M) (s : Nat) : Prop := ∃ n, n ≤ 5 ∧ mI M 80 s = nI n ∧ ∀ k, k < n → ∃ w, w < 12 ∧ mI M 81 (5 * s + k) = nI w
theorem c12_need (hw : wM M) {s : Nat} (hs : s < 40) (hok : okS M s) (i : Nat) (more : Option Nat) (hm : ∀ w, more = some w → w < 12) (q : Int32 → o_M → Prop) (h : q (f_need (mI M) s i more) M) : K_X12_need l [rV (some 60), iV (nI s), iV (nI i), iV (moreV more)] M q := by
  obtain ⟨n, hn5, hn, hwk⟩ := hok
  have hc : (nI s).toNatClampNeg = s := nI_clamp (by omega)
  have hnc : (mI M 80 s).toNatClampNeg = n := by rw [hn]; exact nI_clamp (by omega)
  have key : ∀ (n0 : Int32), q (f_cap (mI M 76 s) (f_mx (mI M) s i n0 n)) M → ∀ m k : Nat, k + m = n → H_X12_need_20 l q (nI s) (nI i) (f_mx (mI M) s i n0 k) (nI k) M := by
    intro n0 hq m
    induction m with
    | zero =>
      intro k hk
      have : k = n := by omega
      subst this
      refine w_X12_need_20 l q _ _ _ _ M ⟨wr19 hw, by rw [wn19 hw]; exact vin hs (by decide), fun c => ⟨wr15 hw, by rw [wn15 hw]; exact vin hs (by decide), fun c2 => ?_, fun c2 => ⟨fun c3 => ?_, fun c3 => ?_⟩⟩, fun c => ?_⟩
      all_goals rw [hc] at *
      · unfold f_cap at hq; rw [if_neg c2] at hq; exact hq
      · unfold f_cap at hq; rw [if_pos c2, if_pos c3] at hq; exact hq
      · unfold f_cap at hq; rw [if_pos c2, if_neg c3] at hq; exact hq
      · rw [hn] at c; exact absurd (nI_le (Nat.le_refl _) (by omega)) c
    | succ m ih =>
      intro k hk
      obtain ⟨w, hw12, hwv⟩ := hwk k (by omega)
      have hix : (5 : Int32) * nI s + nI k = nI (5 * s + k) := ixm 5 s k rfl
      have hcx : (nI (5 * s + k)).toNatClampNeg = 5 * s + k := nI_clamp (by omega)
      have hfw : f_wk (mI M) s k = w := by unfold f_wk; rw [hwv]; exact nI_clamp (by omega)
      have hin : vp_in (nI (5 * s + k)) 200 := vin (by omega) (by decide)
      refine w_X12_need_20 l q _ _ _ _ M ⟨wr19 hw, by rw [wn19 hw]; exact vin hs (by decide), fun c => ?_, fun c => ?_⟩
      · rw [hc, hn, nI_leI (by omega) (by omega)] at c; omega
      · rw [hix, wn20 hw, hcx, hwv, n1]
        have e := ih (k + 1) (by omega)
        unfold f_mx at e
        rw [hfw] at e
        refine ⟨wr20 hw, hin, c12_needOf hw hw12 i _ ⟨fun c3 => ?_, fun c3 => ?_⟩⟩
        · rw [if_pos c3] at e; exact e
        · rw [if_neg c3] at e
          rw [hwv, wn20 hw]
          exact ⟨wr20 hw, hin, c12_needOf hw hw12 i _ e⟩
  refine w_X12_need l _ _ _ M q ⟨fun c => ?_, fun c => ?_⟩
  · cases more with
    | none => exact absurd rfl c
    | some w =>
      have hw12 := hm w rfl
      refine c12_needOf hw hw12 i _ (key _ ?_ n 0 (by omega))
      unfold f_need at h; rw [hnc] at h; exact h
  · cases more with
    | none => refine key 0 ?_ n 0 (by omega); unfold f_need at h; rw [hnc] at h; exact h
    | some w =>
      have hw12 := hm w rfl
      exact absurd c (show ¬ nI w = -1 from fun z => by
        have h1 : (nI w).toInt = (w : Int) := nI_toInt (by omega)
        rw [z] at h1
        have h2 : (-1 : Int32).toInt = -1 := by decide
        omega)
def f_chN (v : o_v) (s : Nat) (more : Option Nat) : Nat → Int32
  | 0 => 0
  | i + 1 => f_chN v s more i + f_need v s i more
def f_chairs (v : o_v) (s : Nat) (more : Option Nat) : Int32 := f_chN v s more 6
theorem c12_chairs (hw : wM M) {s : Nat} (hs : s < 40) (hok : okS M s) (more : Option Nat) (hm : ∀ w, more = some w → w < 12) (q : Int32 → o_M → Prop) (h : q (f_chairs (mI M) s more) M) : K_X12_chairs l [rV (some 60), iV (nI s), iV (moreV more)] M q := by
  have key : ∀ m i : Nat, i + m = 6 → H_X12_chairs_5 l q (nI s) (moreV more) (f_chN (mI M) s more i) (nI i) M := by
    intro m
    induction m with
    | zero =>
      intro i hi
      have : i = 6 := by omega
      subst this
      exact w_X12_chairs_5 l q _ _ _ _ M ⟨fun _ => h, fun z => absurd (by decide) z⟩
    | succ m ih =>
      intro i hi
      refine w_X12_chairs_5 l q _ _ _ _ M ⟨fun z => ?_, fun z => c12_need hw hs hok i more hm _ ?_⟩
      · rw [show (6 : Int32) = nI 6 from rfl, nI_leI (by decide) (by omega)] at z; omega
      · rw [n1]; exact ih (i + 1) (by omega)
  exact w_X12_chairs l _ _ M q (key 6 0 (by omega))
end S12c
/-! specs of the model: times, weeks, rests, the text in force -/
def lp {σ : Type} (f : Nat → σ → σ) (s : σ) : Nat → σ
  | 0 => s
  | n + 1 => f n (lp f s n)
section S12d
variable {l : Launch} {M : o_M}
def f_begins (v : o_v) (s : Nat) : Int32 := 24 * v 77 s + v 78 s
def f_ends (v : o_v) (s : Nat) : Int32 := f_begins v s + v 79 s
theorem c12_begins (hw : wM M) {s : Nat} (hs : s < 40) (q : Int32 → o_M → Prop) (h : q (f_begins (mI M) s) M) : K_X12_begins l [rV (some 60), iV (nI s)] M q := by
  have hc : (nI s).toNatClampNeg = s := nI_clamp (by omega)
  refine w_X12_begins l _ M q ⟨wr16 hw, by rw [wn16 hw]; exact vin hs (by decide), wr17 hw, by rw [wn17 hw]; exact vin hs (by decide), ?_⟩
  rw [hc]; exact h
theorem c12_ends (hw : wM M) {s : Nat} (hs : s < 40) (q : Int32 → o_M → Prop) (h : q (f_ends (mI M) s) M) : K_X12_ends l [rV (some 60), iV (nI s)] M q := by
  have hc : (nI s).toNatClampNeg = s := nI_clamp (by omega)
  refine w_X12_ends l _ M q (c12_begins hw hs _ ⟨wr18 hw, by rw [wn18 hw]; exact vin hs (by decide), ?_⟩)
  rw [hc]; exact h
/-- the text in force: the text and its rank so far -/
def f_txS (v : o_v) (d : Int32) (t : Nat) (x : Int32 × Int32) : Int32 × Int32 :=
  if v 93 t = -1 then x else if d < v 93 t then x else if v 94 t ≤ x.2 then x else (nI t, v 94 t)
def f_textOn (v : o_v) (d : Int32) (n : Nat) : Int32 := (lp (f_txS v d) (0, -1) n).1
theorem c12_textOn (hw : wM M) {n : Nat} (hn : mI M 60 25 = nI n) (hn10 : n ≤ 10) (d : Int32) (q : Int32 → o_M → Prop) (h : q (f_textOn (mI M) d n) M) : K_X12_textOn l [rV (some 60), iV d] M q := by
  have key : ∀ m k : Nat, k + m = n → H_X12_textOn_7 l q d (lp (f_txS (mI M) d) (0, -1) k).1 (lp (f_txS (mI M) d) (0, -1) k).2 (nI k) M := by
    intro m
    induction m with
    | zero =>
      intro k hk
      have : k = n := by omega
      subst this
      refine w_X12_textOn_7 l q _ _ _ _ M ⟨fun c => h, fun c => ?_⟩
      rw [hn] at c; exact absurd (nI_le (Nat.le_refl _) (by omega)) c
    | succ m ih =>
      intro k hk
      have hcx : (nI k).toNatClampNeg = k := nI_clamp (by omega)
      have e := ih (k + 1) (by omega)
      simp only [lp] at e
      rw [f_txS] at e
      have v1 : vp_in (nI k) (mN M 93) := by rw [wn32 hw]; exact vin (by omega) (by decide)
      have v2 : vp_in (nI k) (mN M 94) := by rw [wn33 hw]; exact vin (by omega) (by decide)
      refine w_X12_textOn_7 l q _ _ _ _ M ⟨fun c => ?_, fun c => ⟨wr32 hw, v1, fun c1 => ?_, fun c1 => ⟨wr32 hw, v1, fun c2 => ?_, fun c2 => ⟨wr33 hw, v2, fun c3 => ?_, fun c3 => ⟨wr33 hw, v2, ?_⟩⟩⟩⟩⟩
      · rw [hn, nI_leI (by omega) (by omega)] at c; omega
      all_goals (rw [n1]; simp only [hcx] at *)
      · rw [if_pos c1] at e; exact e
      · rw [if_neg c1, if_pos c2] at e; exact e
      · rw [if_neg c1, if_neg c2, if_pos c3] at e; exact e
      · rw [if_neg c1, if_neg c2, if_neg c3] at e; exact e
  exact w_X12_textOn l _ M q (key n 0 (by omega))
/-- hours of the other services of the week in which a player sits -/
def f_wkS (v : o_v) (s : Nat) (p : Int32) (k : Nat) (x : Int32) : Int32 :=
  if k = s then x else if v 77 k / 7 = v 77 s / 7 then (if f_chairOf v k p = -1 then x else x + v 79 k) else x
def f_week (v : o_v) (s : Nat) (p : Int32) (n : Nat) : Int32 := lp (f_wkS v s p) 0 n
theorem c12_week (hw : wM M) {s n : Nat} (hs : s < 40) (hn : mI M 60 14 = nI n) (hn40 : n ≤ 40) (p : Int32) (q : Int32 → o_M → Prop) (h : q (f_week (mI M) s p n) M) : K_X12_week l [rV (some 60), iV (nI s), iV p] M q := by
  have hc : (nI s).toNatClampNeg = s := nI_clamp (by omega)
  have key : ∀ m k : Nat, k + m = n → H_X12_week_5 l q (nI s) p (lp (f_wkS (mI M) s p) 0 k) (nI k) M := by
    intro m
    induction m with
    | zero =>
      intro k hk
      have : k = n := by omega
      subst this
      refine w_X12_week_5 l q _ _ _ _ M ⟨fun c => h, fun c => ?_⟩
      rw [hn] at c; exact absurd (nI_le (Nat.le_refl _) (by omega)) c
    | succ m ih =>
      intro k hk
      have hcx : (nI k).toNatClampNeg = k := nI_clamp (by omega)
      have e := ih (k + 1) (by omega)
      simp only [lp] at e
      rw [f_wkS] at e
      have hvs : vp_in (nI s) (mN M 77) := by rw [wn16 hw]; exact vin hs (by decide)
      have hks : nI k = nI s ↔ k = s := nI_eq (by omega) (by omega)
      refine w_X12_week_5 l q _ _ _ _ M ⟨fun c => ?_, fun c => ⟨fun c1 => ?_, fun c1 => ⟨wr16 hw, (by rw [wn16 hw]; exact vin (by omega) (by decide)), wr16 hw, hvs, fun c2 => ?_, fun c2 => c12_chairOf hw (by omega) p _ ⟨fun c3 => ?_, fun c3 => ⟨wr18 hw, (by rw [wn18 hw]; exact vin (by omega) (by decide)), ?_⟩⟩⟩⟩⟩
      · rw [hn, nI_leI (by omega) (by omega)] at c; omega
      · rw [n1, Int32.add_zero]; rw [if_pos (hks.mp c1)] at e; exact e
      · rw [hcx, hc] at c2
        rw [n1, Int32.add_zero]; rw [if_neg (fun z => c1 (hks.mpr z)), if_neg c2] at e; exact e
      · rw [hcx, hc] at c2
        rw [n1, Int32.add_zero]; rw [if_neg (fun z => c1 (hks.mpr z)), if_pos c2, if_pos c3] at e; exact e
      · rw [hcx, hc] at c2
        rw [n1, hcx]; rw [if_neg (fun z => c1 (hks.mpr z)), if_pos c2, if_neg c3] at e; exact e
  exact w_X12_week l _ _ M q (key n 0 (by omega))
def f_rsS (v : o_v) (s : Nat) (p : Int32) (k : Nat) (x : Int32) : Int32 :=
  if k = s then x else if f_begins v s < f_ends v k then x else if f_chairOf v k p = -1 then x else if x ≤ f_begins v s - f_ends v k then x else f_begins v s - f_ends v k
def f_rest (v : o_v) (s : Nat) (p : Int32) (n : Nat) : Int32 := lp (f_rsS v s p) 99 n
theorem c12_rest (hw : wM M) {s n : Nat} (hs : s < 40) (hn : mI M 60 14 = nI n) (hn40 : n ≤ 40) (p : Int32) (q : Int32 → o_M → Prop) (h : q (f_rest (mI M) s p n) M) : K_X12_rest l [rV (some 60), iV (nI s), iV p] M q := by
  have key : ∀ m k : Nat, k + m = n → H_X12_rest_6 l q (nI s) p (lp (f_rsS (mI M) s p) 99 k) (nI k) M := by
    intro m
    induction m with
    | zero =>
      intro k hk
      have : k = n := by omega
      subst this
      refine w_X12_rest_6 l q _ _ _ _ M ⟨fun c => h, fun c => ?_⟩
      rw [hn] at c; exact absurd (nI_le (Nat.le_refl _) (by omega)) c
    | succ m ih =>
      intro k hk
      have hk40 : k < 40 := by omega
      have e := ih (k + 1) (by omega)
      simp only [lp] at e
      rw [f_rsS] at e
      have hks : nI k = nI s ↔ k = s := nI_eq (by omega) (by omega)
      refine w_X12_rest_6 l q _ _ _ _ M ⟨fun c => ?_, fun c => ⟨fun c1 => ?_, fun c1 => c12_ends hw hk40 _ (c12_begins hw hs _ ⟨fun c2 => ?_, fun c2 => c12_chairOf hw hk40 p _ ⟨fun c3 => ?_, fun c3 => c12_begins hw hs _ (c12_ends hw hk40 _ ⟨fun c4 => ?_, fun c4 => c12_begins hw hs _ (c12_ends hw hk40 _ ?_)⟩)⟩⟩)⟩⟩
      · rw [hn, nI_leI (by omega) (by omega)] at c; omega
      all_goals rw [n1]
      · rw [if_pos (hks.mp c1)] at e; exact e
      · rw [if_neg (fun z => c1 (hks.mpr z)), if_pos c2] at e; exact e
      · rw [if_neg (fun z => c1 (hks.mpr z)), if_neg c2, if_pos c3] at e; exact e
      · rw [if_neg (fun z => c1 (hks.mpr z)), if_neg c2, if_neg c3, if_pos c4] at e; exact e
      · rw [if_neg (fun z => c1 (hks.mpr z)), if_neg c2, if_neg c3, if_neg c4] at e; exact e
  exact w_X12_rest l _ _ M q (key n 0 (by omega))
end S12d
/-! specs of the class's leaves -/
section S11
variable {l : Launch} {M : o_M}
theorem cJ_min (x y : Int32) (q : Int32 → o_M → Prop) (h : q (if x ≤ y then x else y) M) : K_J9_min_7cf53 l [iV x, iV y] M q := by
  refine w_J9_min_7cf53 l x y M q ⟨fun c => ?_, fun c => ?_⟩
  · rw [ilt] at c
    rw [if_neg (by rw [ile]; omega)] at h; exact h
  · rw [ilt] at c
    rw [if_pos (by rw [ile]; omega)] at h; exact h
theorem cJ_max (x y : Int32) (q : Int32 → o_M → Prop) (h : q (if x ≤ y then y else x) M) : K_J9_max_7cf53 l [iV x, iV y] M q := by
  refine w_J9_max_7cf53 l x y M q ⟨fun c => ?_, fun c => ?_⟩
  · rw [ilt] at c
    rw [if_pos (by rw [ile]; omega)] at h; exact h
  · rw [ilt] at c
    by_cases e : x = y
    · subst e; simpa using h
    · rw [if_neg (fun z => e (Int32.toInt_inj.mp (by rw [ile] at z; omega)))] at h; exact h
theorem c11_isWithin (v a b : Int32) (q : Int32 → o_M → Prop) (h : q (b2 (rng v a b)) M) : K_X11_isWithin l [iV v, iV a, iV b] M q := by
  refine w_X11_isWithin l v a b M q ⟨fun c => ?_, fun c => ⟨fun d => ?_, fun d => ?_⟩⟩
  · rw [ilt] at c
    have e : rng v a b = false := by unfold rng; simp; omega
    rw [e] at h; exact h
  · rw [ilt] at c d
    have e : rng v a b = false := by unfold rng; simp; omega
    rw [e] at h; exact h
  · rw [ilt] at c d
    have e : rng v a b = true := by unfold rng; simp; omega
    rw [e] at h; exact h
theorem c11_isDay (d : Int32) (q : Int32 → o_M → Prop) (h : q (b2 (rng d 0 400)) M) : K_X11_isDay l [iV d] M q :=
  w_X11_isDay l d M q (c11_isWithin d 0 400 _ ⟨b2_nar _, h⟩)
theorem c11_isInstrument (d : Int32) (q : Int32 → o_M → Prop) (h : q (b2 (rng d 0 5)) M) : K_X11_isInstrument l [iV d] M q :=
  w_X11_isInstrument l d M q (c11_isWithin d 0 5 _ ⟨b2_nar _, h⟩)
def f_span (a b : Int32) : Bool := rng a 0 400 && rng b 0 400 && decide (a.toInt ≤ b.toInt)
theorem c11_isSpan (a b : Int32) (q : Int32 → o_M → Prop) (h : q (b2 (f_span a b)) M) : K_X11_isSpan l [iV a, iV b] M q := by
  refine w_X11_isSpan l a b M q (c11_isDay a _ ⟨fun c => ?_, fun c => c11_isDay b _ ⟨fun c2 => ?_, fun c2 => ⟨fun c3 => ?_, fun c3 => ?_⟩⟩⟩)
  · have e : f_span a b = false := by simp [f_span, b2_0.mp c]
    rw [e] at h; exact h
  · have e : f_span a b = false := by simp [f_span, b2_0.mp c2]
    rw [e] at h; exact h
  · rw [ilt] at c3
    have e : f_span a b = false := by simp [f_span]; intro _ _; omega
    rw [e] at h; exact h
  · rw [ilt] at c3
    have e : f_span a b = true := by simp [f_span, b2_n0.mp c, b2_n0.mp c2]; omega
    rw [e] at h; exact h
theorem c10_canBePlayed {a : Nat} (t0 : o_ty a = .inl 10) (d : Int32) (q : Int32 → o_M → Prop) (h : q (b2 (mI M a 3 == 0 || (mI M a 3 == 1 && rng d (mI M a 4) (mI M a 5)))) M) : K_X10_canBePlayed l [rV (some a), iV d] M q := by
  refine w_X10_canBePlayed l a d t0 M q ⟨fun c => ?_, fun c => ⟨fun c2 => ?_, fun c2 => c11_isWithin _ _ _ _ ⟨fun c3 => ?_, fun c3 => ?_⟩⟩⟩
  · have e : (mI M a 3 == 0 || (mI M a 3 == 1 && rng d (mI M a 4) (mI M a 5))) = true := by simp [c]
    rw [e] at h; exact h
  · have e : (mI M a 3 == 0 || (mI M a 3 == 1 && rng d (mI M a 4) (mI M a 5))) = false := by simp [c, c2]
    rw [e] at h; exact h
  · have e : (mI M a 3 == 0 || (mI M a 3 == 1 && rng d (mI M a 4) (mI M a 5))) = false := by rw [b2_0] at c3; simp [c2, c3]
    rw [e] at h; exact h
  · have e : (mI M a 3 == 0 || (mI M a 3 == 1 && rng d (mI M a 4) (mI M a 5))) = true := by rw [b2_n0] at c3; simp [c2, c3]
    rw [e] at h; exact h
theorem c10_needOf {a : Nat} (t0 : o_ty a = .inl 10) (i : Int32) (q : Int32 → o_M → Prop) (h : q ((mI M a 2 >>> ((2 * i) &&& 31)) &&& 3) M) : K_X10_needOf l [rV (some a), iV i] M q := w_X10_needOf l a i t0 M q h
theorem c2_plays {a : Nat} (t0 : o_ty a = .inl 2) (i : Int32) (q : Int32 → o_M → Prop) (h : q (b2 (i == mI M a 0 || ((mI M a 1 >>> (i &&& 31)) &&& 1) == 1)) M) : K_X2_plays l [rV (some a), iV i] M q := by
  refine w_X2_plays l a i t0 M q ⟨fun c => ?_, fun c => ⟨fun c2 => ?_, fun c2 => ?_⟩⟩
  · have e : (i == mI M a 0 || ((mI M a 1 >>> (i &&& 31)) &&& 1) == 1) = true := by simp [c]
    rw [e] at h; exact h
  · have e : (i == mI M a 0 || ((mI M a 1 >>> (i &&& 31)) &&& 1) == 1) = false := by simp [c, c2]
    rw [e] at h; exact h
  · have e : (i == mI M a 0 || ((mI M a 1 >>> (i &&& 31)) &&& 1) == 1) = true := by simp [c2]
    rw [e] at h; exact h
def g_awayN (v : o_v) (a : Nat) (d : Int32) (n : Nat) : Bool := (List.range n).any fun k => rng d (v (a + 1) k) (v (a + 2) k)
theorem g_awayN_s (M : o_M) (a : Nat) (d : Int32) (n : Nat) : g_awayN (mI M) a d (n + 1) = (g_awayN (mI M) a d n || rng d (mI M (a + 1) n) (mI M (a + 2) n)) := by
  simp [g_awayN, List.range_succ, List.any_append]
theorem g_awayN_mono {M : o_M} {a : Nat} {d : Int32} {k n : Nat} (h : k ≤ n) (hk : g_awayN (mI M) a d k = true) : g_awayN (mI M) a d n = true := by
  induction n with
  | zero => have : k = 0 := by omega
            subst this; exact hk
  | succ n ih =>
    rw [g_awayN_s]
    by_cases e : k = n + 1
    · subst e; rw [g_awayN_s] at hk; exact hk
    · rw [ih (by omega)]; rfl
/-- a player of the class: its rows -/
def okP (M : o_M) (a : Nat) : Prop := o_ty a = .inl 2 ∧ mR M a 3 = some (a + 1) ∧ mR M a 4 = some (a + 2) ∧ mN M (a + 1) = 6 ∧ mN M (a + 2) = 6
theorem c2_hasLeave {a n : Nat} (ha : okP M a) (hn : mI M a 5 = nI n) (h6 : n ≤ 6) (d : Int32) (q : Int32 → o_M → Prop) (h : q (b2 (g_awayN (mI M) a d n)) M) : K_X2_hasLeave l [rV (some a), iV d] M q := by
  obtain ⟨t0, r3, r4, n3, n4⟩ := ha
  have key : ∀ m k : Nat, k + m = n → g_awayN (mI M) a d k = false → H_X2_hasLeave_2 l q a d (nI k) M := by
    intro m
    induction m with
    | zero =>
      intro k hk hf
      have : k = n := by omega
      subst this
      refine w_X2_hasLeave_2 l q a t0 d _ M ⟨fun c => ?_, fun c => ?_⟩
      · rw [hf] at h; exact h
      · rw [hn] at c; exact absurd (nI_le (Nat.le_refl _) (by omega)) c
    | succ m ih =>
      intro k hk hf
      have hcx : (nI k).toNatClampNeg = k := nI_clamp (by omega)
      refine w_X2_hasLeave_2 l q a t0 d _ M ⟨fun c => ?_, fun c => ⟨r3, by rw [n3]; exact vin (by omega) (by decide), r4, by rw [n4]; exact vin (by omega) (by decide), ?_⟩⟩
      · rw [hn, nI_leI (by omega) (by omega)] at c; omega
      · rw [hcx]
        refine c11_isWithin _ _ _ _ ⟨fun c3 => ?_, fun c3 => ?_⟩
        · rw [n1]
          exact ih (k + 1) (by omega) (by rw [g_awayN_s, hf, b2_0.mp c3]; rfl)
        · have e : g_awayN (mI M) a d n = true := g_awayN_mono (k := k + 1) (by omega) (by rw [g_awayN_s, b2_n0.mp c3]; simp)
          rw [e] at h; exact h
  exact w_X2_hasLeave l a d t0 M q (key n 0 (by omega) rfl)
theorem c6_begins {a : Nat} (t0 : o_ty a = .inl 6) (q : Int32 → o_M → Prop) (h : q (24 * mI M a 1 + mI M a 2) M) : K_X6_begins l [rV (some a)] M q := w_X6_begins l a t0 M q h
theorem c6_ends {a : Nat} (t0 : o_ty a = .inl 6) (q : Int32 → o_M → Prop) (h : q (24 * mI M a 1 + mI M a 2 + mI M a 3) M) : K_X6_ends l [rV (some a)] M q := w_X6_ends l a t0 M q (c6_begins t0 _ h)
theorem c6_sits {a : Nat} (t0 : o_ty a = .inl 6) (p : Int32) (q : Int32 → o_M → Prop) (h : q (b2 (((mI M a 10 >>> (p &&& 31)) &&& 1) == 1)) M) : K_X6_sits l [rV (some a), iV p] M q := by
  refine w_X6_sits l a p t0 M q ⟨fun c => ?_, fun c => ?_⟩
  · have e : (((mI M a 10 >>> (p &&& 31)) &&& 1) == 1) = false := by simp [c]
    rw [e] at h; exact h
  · have e : (((mI M a 10 >>> (p &&& 31)) &&& 1) == 1) = true := by simp [c]
    rw [e] at h; exact h
end S11
