/-! the class's rows -/
def o_x : List (Nat × Nat × Nat × Nat) := [(16, 0, 17, 12), (16, 1, 18, 10), (16, 2, 19, 40), (16, 3, 20, 10), (16, 4, 21, 6), (16, 5, 22, 300), (23, 0, 24, 300), (23, 1, 25, 10), (26, 0, 27, 10), (26, 1, 28, 64), (29, 0, 30, 12), (29, 1, 31, 12), (29, 2, 32, 10), (29, 3, 33, 12), (29, 4, 34, 10), (35, 0, 36, 5), (35, 1, 37, 5), (38, 0, 39, 6), (38, 1, 40, 1081)]
def o_xo : List (Nat × Nat) := [(6, 23), (7, 26), (8, 29), (9, 35), (10, 38)]
def wX (M : o_M) : Prop := (∀ p ∈ o_x, mR M p.1 p.2.1 = some p.2.2.1 ∧ mN M p.2.2.1 = p.2.2.2) ∧ (∀ p ∈ o_xo, mR M 16 p.1 = some p.2) ∧ mR M 23 2 = some 22
theorem xr16_0 {M : o_M} (h : wX M) : mR M 16 0 = some 17 := (h.1 (16, 0, 17, 12) (by decide)).1
theorem xn17 {M : o_M} (h : wX M) : mN M 17 = 12 := (h.1 (16, 0, 17, 12) (by decide)).2
theorem xr16_1 {M : o_M} (h : wX M) : mR M 16 1 = some 18 := (h.1 (16, 1, 18, 10) (by decide)).1
theorem xn18 {M : o_M} (h : wX M) : mN M 18 = 10 := (h.1 (16, 1, 18, 10) (by decide)).2
theorem xr16_2 {M : o_M} (h : wX M) : mR M 16 2 = some 19 := (h.1 (16, 2, 19, 40) (by decide)).1
theorem xn19 {M : o_M} (h : wX M) : mN M 19 = 40 := (h.1 (16, 2, 19, 40) (by decide)).2
theorem xr16_3 {M : o_M} (h : wX M) : mR M 16 3 = some 20 := (h.1 (16, 3, 20, 10) (by decide)).1
theorem xn20 {M : o_M} (h : wX M) : mN M 20 = 10 := (h.1 (16, 3, 20, 10) (by decide)).2
theorem xr16_4 {M : o_M} (h : wX M) : mR M 16 4 = some 21 := (h.1 (16, 4, 21, 6) (by decide)).1
theorem xn21 {M : o_M} (h : wX M) : mN M 21 = 6 := (h.1 (16, 4, 21, 6) (by decide)).2
theorem xr16_5 {M : o_M} (h : wX M) : mR M 16 5 = some 22 := (h.1 (16, 5, 22, 300) (by decide)).1
theorem xn22 {M : o_M} (h : wX M) : mN M 22 = 300 := (h.1 (16, 5, 22, 300) (by decide)).2
theorem xr23_0 {M : o_M} (h : wX M) : mR M 23 0 = some 24 := (h.1 (23, 0, 24, 300) (by decide)).1
theorem xn24 {M : o_M} (h : wX M) : mN M 24 = 300 := (h.1 (23, 0, 24, 300) (by decide)).2
theorem xr23_1 {M : o_M} (h : wX M) : mR M 23 1 = some 25 := (h.1 (23, 1, 25, 10) (by decide)).1
theorem xn25 {M : o_M} (h : wX M) : mN M 25 = 10 := (h.1 (23, 1, 25, 10) (by decide)).2
theorem xr26_0 {M : o_M} (h : wX M) : mR M 26 0 = some 27 := (h.1 (26, 0, 27, 10) (by decide)).1
theorem xn27 {M : o_M} (h : wX M) : mN M 27 = 10 := (h.1 (26, 0, 27, 10) (by decide)).2
theorem xr26_1 {M : o_M} (h : wX M) : mR M 26 1 = some 28 := (h.1 (26, 1, 28, 64) (by decide)).1
theorem xn28 {M : o_M} (h : wX M) : mN M 28 = 64 := (h.1 (26, 1, 28, 64) (by decide)).2
theorem xr29_0 {M : o_M} (h : wX M) : mR M 29 0 = some 30 := (h.1 (29, 0, 30, 12) (by decide)).1
theorem xn30 {M : o_M} (h : wX M) : mN M 30 = 12 := (h.1 (29, 0, 30, 12) (by decide)).2
theorem xr29_1 {M : o_M} (h : wX M) : mR M 29 1 = some 31 := (h.1 (29, 1, 31, 12) (by decide)).1
theorem xn31 {M : o_M} (h : wX M) : mN M 31 = 12 := (h.1 (29, 1, 31, 12) (by decide)).2
theorem xr29_2 {M : o_M} (h : wX M) : mR M 29 2 = some 32 := (h.1 (29, 2, 32, 10) (by decide)).1
theorem xn32 {M : o_M} (h : wX M) : mN M 32 = 10 := (h.1 (29, 2, 32, 10) (by decide)).2
theorem xr29_3 {M : o_M} (h : wX M) : mR M 29 3 = some 33 := (h.1 (29, 3, 33, 12) (by decide)).1
theorem xn33 {M : o_M} (h : wX M) : mN M 33 = 12 := (h.1 (29, 3, 33, 12) (by decide)).2
theorem xr29_4 {M : o_M} (h : wX M) : mR M 29 4 = some 34 := (h.1 (29, 4, 34, 10) (by decide)).1
theorem xn34 {M : o_M} (h : wX M) : mN M 34 = 10 := (h.1 (29, 4, 34, 10) (by decide)).2
theorem xr35_0 {M : o_M} (h : wX M) : mR M 35 0 = some 36 := (h.1 (35, 0, 36, 5) (by decide)).1
theorem xn36 {M : o_M} (h : wX M) : mN M 36 = 5 := (h.1 (35, 0, 36, 5) (by decide)).2
theorem xr35_1 {M : o_M} (h : wX M) : mR M 35 1 = some 37 := (h.1 (35, 1, 37, 5) (by decide)).1
theorem xn37 {M : o_M} (h : wX M) : mN M 37 = 5 := (h.1 (35, 1, 37, 5) (by decide)).2
theorem xr38_0 {M : o_M} (h : wX M) : mR M 38 0 = some 39 := (h.1 (38, 0, 39, 6) (by decide)).1
theorem xn39 {M : o_M} (h : wX M) : mN M 39 = 6 := (h.1 (38, 0, 39, 6) (by decide)).2
theorem xr38_1 {M : o_M} (h : wX M) : mR M 38 1 = some 40 := (h.1 (38, 1, 40, 1081) (by decide)).1
theorem xn40 {M : o_M} (h : wX M) : mN M 40 = 1081 := (h.1 (38, 1, 40, 1081) (by decide)).2
theorem xo6 {M : o_M} (h : wX M) : mR M 16 6 = some 23 := h.2.1 (6, 23) (by decide)
theorem xo7 {M : o_M} (h : wX M) : mR M 16 7 = some 26 := h.2.1 (7, 26) (by decide)
theorem xo8 {M : o_M} (h : wX M) : mR M 16 8 = some 29 := h.2.1 (8, 29) (by decide)
theorem xo9 {M : o_M} (h : wX M) : mR M 16 9 = some 35 := h.2.1 (9, 35) (by decide)
theorem xo10 {M : o_M} (h : wX M) : mR M 16 10 = some 38 := h.2.1 (10, 38) (by decide)
theorem Sm_wX {M N : o_M} (h : Sm M N) (hw : wX M) : wX N := by
  unfold wX; rw [h.2.2.1, h.2.2.2.1]; exact hw
/-! the relation -/
def oI (o : Option Nat) : Int32 := match o with
  | none => -1
  | some p => nI p
/-- how many chairs of a seated service are empty -/
def f_gpS (v : o_v) (s c : Nat) (x : Int32) : Int32 := if v 82 (12 * s + c) = -1 then x + 1 else x
def f_gapsIn (v : o_v) (s n : Nat) : Int32 := lp (f_gpS v s) 0 n
def RW (M : o_M) (nw : Nat) : Prop := ∀ i, i < nw → mR M 17 i = some (43 + 128 * i) ∧ mI M (43 + 128 * i) 0 = mI M 62 i ∧ mI M (43 + 128 * i) 1 = mI M 63 i ∧ mI M (43 + 128 * i) 2 = mI M 64 i ∧ mI M (43 + 128 * i) 3 = mI M 65 i ∧ mI M (43 + 128 * i) 4 = (if mI M 65 i = 1 then mI M 66 i else -1) ∧ mI M (43 + 128 * i) 5 = (if mI M 65 i = 1 then mI M 67 i else -1) ∧ (∃ m, 1 ≤ m ∧ m ≤ 90 ∧ mI M 62 i = nI m) ∧ (∃ m, m ≤ 1000 ∧ mI M 63 i = nI m) ∧ ∃ m, m ≤ 4095 ∧ mI M 64 i = nI m
def PL (M : o_M) (i : Nat) : Prop := mR M 18 i = some (44 + 128 * i) ∧ mR M (44 + 128 * i) 3 = some (45 + 128 * i) ∧ mR M (44 + 128 * i) 4 = some (46 + 128 * i) ∧ mN M (45 + 128 * i) = 6 ∧ mN M (46 + 128 * i) = 6 ∧ mI M (44 + 128 * i) 0 = mI M 69 i ∧ mI M (44 + 128 * i) 1 = mI M 70 i ∧ mI M (44 + 128 * i) 2 = mI M 71 i ∧ mI M (44 + 128 * i) 5 = mI M 72 i ∧ (∃ a, a < 6 ∧ mI M 69 i = nI a) ∧ (∃ a, a ≤ 63 ∧ mI M 70 i = nI a) ∧ ∃ n, n ≤ 6 ∧ mI M 72 i = nI n ∧ ∀ k, k < n → mI M (45 + 128 * i) k = mI M 73 (6 * i + k) ∧ mI M (46 + 128 * i) k = mI M 74 (6 * i + k)
def RP (M : o_M) (np : Nat) : Prop := (∀ i, i < np → PL M i) ∧ ∀ i, np ≤ i → i < 10 → mI M 72 i = 0
/-- a service: its row and object -/
def SV1 (M : o_M) (s : Nat) : Prop := mR M 19 s = some (47 + 128 * s) ∧ mR M (47 + 128 * s) 4 = some (48 + 128 * s) ∧ mR M (47 + 128 * s) 5 = some (49 + 128 * s) ∧ mR M (47 + 128 * s) 6 = some (50 + 128 * s) ∧ mN M (48 + 128 * s) = 5 ∧ mN M (49 + 128 * s) = 6 ∧ mN M (50 + 128 * s) = 12
def SV2 (M : o_M) (s : Nat) : Prop := mI M (47 + 128 * s) 0 = mI M 76 s ∧ mI M (47 + 128 * s) 1 = mI M 77 s ∧ mI M (47 + 128 * s) 2 = mI M 78 s ∧ mI M (47 + 128 * s) 3 = mI M 79 s ∧ (∃ a, a < 6 ∧ mI M 76 s = nI a) ∧ (∃ a, a ≤ 400 ∧ mI M 77 s = nI a) ∧ (∃ a, a ≤ 23 ∧ mI M 78 s = nI a) ∧ ∃ a, a ≤ 8 ∧ mI M 79 s = nI a
def SV3 (M : o_M) (s nw : Nat) : Prop := mI M (47 + 128 * s) 7 = mI M 80 s ∧ ∃ n, n ≤ 5 ∧ mI M 80 s = nI n ∧ (∀ k, k < n → ∃ w, w < nw ∧ mI M 81 (5 * s + k) = nI w ∧ mI M (48 + 128 * s) k = nI w) ∧ ∀ j k, j < k → k < n → ¬ mI M 81 (5 * s + j) = mI M 81 (5 * s + k)
def SV4 (M : o_M) (s : Nat) : Prop := (∀ i, i < 6 → mI M (49 + 128 * s) i = f_need (mI M) s i none) ∧ mI M (47 + 128 * s) 8 = f_chairs (mI M) s none ∧ ∃ n, n ≤ 12 ∧ f_chairs (mI M) s none = nI n ∧ mI M (47 + 128 * s) 11 = mI M 83 s ∧ (mI M 83 s = 0 ∨ mI M 83 s = 1 ∧ (∀ c, c < n → mI M (50 + 128 * s) c = mI M 82 (12 * s + c)) ∧ (∀ c, n ≤ c → c < 12 → mI M 82 (12 * s + c) = -1) ∧ mI M (47 + 128 * s) 9 = f_gapsIn (mI M) s n) ∧ ∀ p, p < 10 → (((mI M (47 + 128 * s) 10 >>> (nI p &&& 31)) &&& 1) == 1) = !(f_chairOf (mI M) s (nI p) == -1)
def SV (M : o_M) (s nw : Nat) : Prop := SV1 M s ∧ SV2 M s ∧ SV3 M s nw ∧ SV4 M s
def RS (M : o_M) (ns nw : Nat) : Prop := (∀ s, s < ns → SV M s nw) ∧ ∀ s, ns ≤ s → s < 40 → mI M 80 s = 0 ∧ mI M 83 s = 0
/-- how a step of the class's code and one of the model's are alike -/
def cod (x o w : Int32) : Prop := (o = 0 ∧ x = w ∧ ∃ n, n < 100000 ∧ w = nI n) ∨ (o = 1 ∧ ∃ n, n < 10 ∧ w = nI n ∧ x = -1 - nI n) ∨ (o = 2 ∧ x = -14) ∨ (o = 3 ∧ x = -15) ∨ (o = 4 ∧ x = -16) ∨ (o = 5 ∧ x = -23) ∨ (o = 6 ∧ x = -24) ∨ (o = 7 ∧ x = -20) ∨ (o = 8 ∧ x = -21) ∨ (o = 9 ∧ x = -22) ∨ (o = 10 ∧ x = -28)
/-- how high the pile is after a step -/
def hgt (o : Int32) (n : Nat) : Option Nat := if o = 0 ∨ o = 1 then some (n + 1) else if o = 4 ∨ o = 10 then (if 1 ≤ n then some n else none) else (if 2 ≤ n then some (n - 1) else none)
/-- a part's steps: the pile goes from 0 to 1 and is never high -/
def WFp (op : Nat → Int32) (a b : Nat) : Prop := ∃ ht : Nat → Nat, ht a = 0 ∧ ht b = 1 ∧ a ≤ b ∧ ∀ c, a ≤ c → c < b → ht c ≤ 50 ∧ hgt (op c) (ht c) = some (ht (c + 1))
def TX (M : o_M) (t T : Nat) : Prop := mR M 20 t = some (51 + 128 * t) ∧ mR M (51 + 128 * t) 0 = some (52 + 128 * t) ∧ mR M (51 + 128 * t) 1 = some (53 + 128 * t) ∧ mR M (51 + 128 * t) 2 = some (54 + 128 * t) ∧
  (∃ z, z ≤ 300 ∧ mN M (52 + 128 * t) = z ∧ mI M 87 t = nI z ∧ ∀ i, i < z → mI M 88 (300 * t + i) = mI M (52 + 128 * t) i) ∧
  (∃ b cl, ∃ e : Nat → Nat, b ≤ 8 ∧ cl ≤ 300 ∧ mN M (54 + 128 * t) = b + 2 ∧ mI M (51 + 128 * t) 3 = nI b ∧ mI M 91 t = nI b ∧ mN M (53 + 128 * t) = cl ∧ e 0 = 0 ∧ (∀ j, j ≤ b + 2 → mI M 92 (11 * t + j) = nI (e j) ∧ e j ≤ cl) ∧ (∀ j, j < b + 2 → mI M (54 + 128 * t) j = nI (e (j + 1)) ∧ WFp (fun c => mI M 89 (300 * t + c)) (e j) (e (j + 1))) ∧ ∀ c, c < cl → cod (mI M (53 + 128 * t) c) (mI M 89 (300 * t + c)) (mI M 90 (300 * t + c))) ∧
  ((mI M 93 t = -1 ∧ mI M (51 + 128 * t) 5 = 0) ∨ ∃ d r, d ≤ 400 ∧ r < T ∧ mI M 93 t = nI d ∧ mI M (51 + 128 * t) 4 = nI d ∧ mI M 94 t = nI r ∧ mI M (51 + 128 * t) 5 = nI (r + 1))
def RT (M : o_M) (nt T : Nat) : Prop := ∀ t, t < nt → TX M t T
def TY (M : o_M) (y ns nt : Nat) : Prop := mR M 21 y = some (41 + 128 * y) ∧ mR M (41 + 128 * y) 0 = some (42 + 128 * y) ∧ mN M (42 + 128 * y) = 10 ∧ mI M (41 + 128 * y) 5 = mI M 96 y ∧
  (mI M 96 y = 0 ∨ (mI M 96 y = 1 ∧ ∃ s, s < ns ∧ mI M 97 y = nI s ∧ mR M (41 + 128 * y) 1 = some (47 + 128 * s)) ∨
   (mI M 96 y = 2 ∧ ∃ t z, t < nt ∧ z ≤ 300 ∧ mN M (52 + 128 * t) = z ∧ mR M (41 + 128 * y) 2 = some (52 + 128 * t) ∧ mI M 98 y = nI z ∧ mI M (41 + 128 * y) 4 = nI z ∧ ∀ i, i < z → mJ M 99 (300 * y + i) = (mI M (52 + 128 * t) i).toInt64) ∨
   (mI M 96 y = 3 ∧ ∃ n, n ≤ 10 ∧ mI M 98 y = nI n ∧ mI M (41 + 128 * y) 4 = nI n ∧ ∀ i, i < n → mJ M 99 (300 * y + i) = mJ M (42 + 128 * y) i) ∨
   (mI M 96 y = 4 ∧ ∃ n, n ≤ 10 ∧ mI M 98 y = nI n ∧ mI M (41 + 128 * y) 4 = nI n ∧ ∀ i, i < n → mJ M 99 (300 * y + i) = ((mI M (41 + 128 * y) 3 >>> (nI i &&& 31)) &&& 1).toInt64))
def RY (M : o_M) (ns nt : Nat) : Prop := ∀ y, y < 6 → TY M y ns nt
def RZ (M : o_M) : Prop := ∃ n, n ≤ 300 ∧ mI M 16 15 = nI n ∧ mI M 60 24 = nI n ∧ ∀ i, i < n → mI M 22 i = (mI M 84 i).toInt8.toInt32 ∧ ∃ b, b < 256 ∧ mI M 84 i = nI b
/-- the counts -/
def RC (M : o_M) (nw np ns nt T : Nat) : Prop := (nw ≤ 12 ∧ mI M 16 11 = nI nw ∧ mI M 60 0 = nI nw) ∧ (np ≤ 10 ∧ mI M 16 12 = nI np ∧ mI M 60 7 = nI np) ∧ (ns ≤ 40 ∧ mI M 16 13 = nI ns ∧ mI M 60 14 = nI ns) ∧ (1 ≤ nt ∧ nt ≤ 10 ∧ mI M 16 14 = nI nt ∧ mI M 60 25 = nI nt) ∧ (mI M 16 16 = nI T ∧ mI M 60 34 = nI T) ∧ mI M 16 17 = mI M 60 39
/-- what lives -/
def lvi (nw np ns nt x : Nat) : Prop := x < 41 ∨ (60 ≤ x ∧ x < 128) ∨ ((x % 128 = 41 ∨ x % 128 = 42) ∧ x / 128 < 6) ∨ (x % 128 = 43 ∧ x / 128 < nw) ∨ ((x % 128 = 44 ∨ x % 128 = 45 ∨ x % 128 = 46) ∧ x / 128 < np) ∨ ((x % 128 = 47 ∨ x % 128 = 48 ∨ x % 128 = 49 ∨ x % 128 = 50) ∧ x / 128 < ns) ∨ ((x % 128 = 51 ∨ x % 128 = 52 ∨ x % 128 = 53 ∨ x % 128 = 54) ∧ x / 128 < nt)
def RLv (M : o_M) (nw np ns nt : Nat) : Prop := ∀ x ∈ mL M, lvi nw np ns nt x
/-- the letters of the names -/
def wdL : List Nat := [107, 105, 110, 100, 0, 119, 101, 101, 107, 100, 97, 121, 0, 104, 111, 117, 114, 0, 108, 111, 110, 103, 0, 99, 104, 97, 105, 114, 0, 112, 111, 115, 116, 0, 100, 111, 117, 98, 108, 101, 0, 100, 101, 115, 107, 0, 119, 101, 101, 107, 0, 114, 101, 115, 116, 0, 98, 97, 114, 0, 99, 111, 117, 110, 116, 0, 112, 97, 121, 0, 111, 114, 0, 97, 110, 100, 0, 110, 111, 116, 0]
def RD (M : o_M) : Prop := ∀ j, j < 81 → mI M 102 j = nI (wdL.getD j 0)
def Rel (M : o_M) (nw np ns nt T : Nat) : Prop := wM M ∧ wX M ∧ RC M nw np ns nt T ∧ RLv M nw np ns nt ∧ RW M nw ∧ RP M np ∧ RS M ns nw ∧ RT M nt T ∧ RY M ns nt ∧ RZ M ∧ RD M
/-! what a part of the relation rests on -/
def Fr (F : Nat → Prop) (M N : o_M) : Prop := ∀ id, F id → mI N id = mI M id ∧ mJ N id = mJ M id ∧ mR N id = mR M id ∧ mN N id = mN M id
theorem Fr_r (F : Nat → Prop) (M : o_M) : Fr F M M := fun _ _ => ⟨rfl, rfl, rfl, rfl⟩
theorem Fr_t {F : Nat → Prop} {M N O : o_M} (h : Fr F M N) (g : Fr F N O) : Fr F M O := fun id hi => ⟨(g id hi).1.trans (h id hi).1, (g id hi).2.1.trans (h id hi).2.1, (g id hi).2.2.1.trans (h id hi).2.2.1, (g id hi).2.2.2.trans (h id hi).2.2.2⟩
theorem Fr_sI {F : Nat → Prop} {M N : o_M} (h : Fr F M N) {c : Nat} (hc : ¬ F c) (j : Nat) (x : Int32) : Fr F M (sI N c j x) := fun id hi => by
  refine ⟨?_, (h id hi).2.1, (h id hi).2.2.1, (h id hi).2.2.2⟩
  rw [← (h id hi).1]
  funext k
  rw [mI_sI, if_neg (fun z => hc (by rw [← z.1]; exact hi))]
theorem Fr_sA {F : Nat → Prop} {M N : o_M} (h : Fr F M N) {c : Nat} (hc : ¬ F c) (x : Nat → Int32) : Fr F M (sA N c x) := fun id hi => by
  refine ⟨?_, (h id hi).2.1, (h id hi).2.2.1, (h id hi).2.2.2⟩
  rw [← (h id hi).1]
  funext k
  rw [mI_sA, if_neg (fun z => hc (by rw [← z]; exact hi))]
theorem Fr_sJ {F : Nat → Prop} {M N : o_M} (h : Fr F M N) {c : Nat} (hc : ¬ F c) (j : Nat) (x : Int64) : Fr F M (sJ N c j x) := fun id hi => by
  refine ⟨(h id hi).1, ?_, (h id hi).2.2.1, (h id hi).2.2.2⟩
  rw [← (h id hi).2.1]
  funext k
  rw [mJ_sJ, if_neg (fun z => hc (by rw [← z.1]; exact hi))]
theorem Fr_sR {F : Nat → Prop} {M N : o_M} (h : Fr F M N) {c : Nat} (hc : ¬ F c) (j : Nat) (x : Option Nat) : Fr F M (sR N c j x) := fun id hi => by
  refine ⟨(h id hi).1, (h id hi).2.1, ?_, (h id hi).2.2.2⟩
  rw [← (h id hi).2.2.1]
  funext k
  rw [mR_sR, if_neg (fun z => hc (by rw [← z.1]; exact hi))]
theorem Fr_nW {F : Nat → Prop} {M N : o_M} (h : Fr F M N) {c : Nat} (hc : ¬ F c) (n : Nat) : Fr F M (nW N c n) := fun id hi => by
  have hne : ¬ id = c := fun z => hc (by rw [← z]; exact hi)
  obtain ⟨h1, h2, h3, h4⟩ := h id hi
  refine ⟨?_, ?_, ?_, ?_⟩
  · rw [← h1]; funext k; rw [mI_nW, if_neg hne]
  · rw [← h2]; funext k; rw [mJ_nW, if_neg hne]
  · rw [← h3]; funext k; rw [mR_nW, if_neg hne]
  · rw [← h4, mN_nW, if_neg hne]
theorem Fr_Sm {F : Nat → Prop} {M N : o_M} (h : Sm M N) (hF : ∀ id, F id → (∀ j, scr id j = false) ∧ ¬ (id = 27 ∨ id = 28 ∨ id = 111)) : Fr F M N := fun id hi => ⟨Sm_row h (hF id hi).1, funext fun j => Sm_j h (hF id hi).2, by rw [h.2.2.1], by rw [h.2.2.2.1]⟩
def FW (x : Nat) : Prop := x = 17 ∨ x % 128 = 43 ∨ (62 ≤ x ∧ x ≤ 67)
def FP (x : Nat) : Prop := x = 18 ∨ (44 ≤ x % 128 ∧ x % 128 ≤ 46) ∨ (69 ≤ x ∧ x ≤ 74)
def FS (x : Nat) : Prop := x = 19 ∨ (47 ≤ x % 128 ∧ x % 128 ≤ 50) ∨ (76 ≤ x ∧ x ≤ 83) ∨ x = 64
def FT (x : Nat) : Prop := x = 20 ∨ (51 ≤ x % 128 ∧ x % 128 ≤ 54) ∨ (87 ≤ x ∧ x ≤ 94)
def FY (x : Nat) : Prop := x = 21 ∨ (41 ≤ x % 128 ∧ x % 128 ≤ 42) ∨ (96 ≤ x ∧ x ≤ 99) ∨ x % 128 = 52
def F1 (a : Nat) (x : Nat) : Prop := x = a
theorem RW_fr {M N : o_M} {n : Nat} (h : Fr FW M N) (r : RW M n) : RW N n := fun i hi => by
  have e := fun id hid => (h id hid).1
  rw [(h 17 (Or.inl rfl)).2.2.1, e (43 + 128 * i) (by unfold FW; omega), e 62 (by unfold FW; omega), e 63 (by unfold FW; omega), e 64 (by unfold FW; omega), e 65 (by unfold FW; omega), e 66 (by unfold FW; omega), e 67 (by unfold FW; omega)]
  exact r i hi
theorem PL_fr {M N : o_M} {i : Nat} (h : Fr FP M N) (r : PL M i) : PL N i := by
  have e := fun id hid => (h id hid).1
  unfold PL
  rw [(h 18 (Or.inl rfl)).2.2.1, (h (44 + 128 * i) (by unfold FP; omega)).2.2.1, (h (45 + 128 * i) (by unfold FP; omega)).2.2.2, (h (46 + 128 * i) (by unfold FP; omega)).2.2.2, e (44 + 128 * i) (by unfold FP; omega), e (45 + 128 * i) (by unfold FP; omega), e (46 + 128 * i) (by unfold FP; omega), e 69 (by unfold FP; omega), e 70 (by unfold FP; omega), e 71 (by unfold FP; omega), e 72 (by unfold FP; omega), e 73 (by unfold FP; omega), e 74 (by unfold FP; omega)]
  exact r
theorem RP_fr {M N : o_M} {n : Nat} (h : Fr FP M N) (r : RP M n) : RP N n := ⟨fun i hi => PL_fr h (r.1 i hi), fun i h1 h2 => by rw [(h 72 (by unfold FP; omega)).1]; exact r.2 i h1 h2⟩
theorem f_needOf_e {v w : o_v} (h : w 64 = v 64) : f_needOf w = f_needOf v := by funext a b; unfold f_needOf; rw [h]
theorem f_mx_e {v w : o_v} (h : w 64 = v 64) (h1 : w 81 = v 81) (s i : Nat) (n0 : Int32) : ∀ k, f_mx w s i n0 k = f_mx v s i n0 k
  | 0 => rfl
  | k + 1 => by
    have e : f_wk w s k = f_wk v s k := by unfold f_wk; rw [h1]
    unfold f_mx
    rw [f_mx_e h h1 s i n0 k, f_needOf_e h, e]
theorem f_need_e {v w : o_v} (h : w 64 = v 64) (h1 : w 81 = v 81) (h2 : w 76 = v 76) (h3 : w 80 = v 80) : f_need w = f_need v := by
  funext s i m; unfold f_need; rw [f_mx_e h h1, f_needOf_e h, h2, h3]
theorem f_chairs_e {v w : o_v} (h : f_need w = f_need v) : f_chairs w = f_chairs v := by
  funext s m
  have : ∀ k, f_chN w s m k = f_chN v s m k := fun k => by
    induction k with
    | zero => rfl
    | succ k ih => simp only [f_chN, ih, h]
  exact this 6
theorem f_chairOf_e {v w : o_v} (h : w 82 = v 82) (h1 : w 83 = v 83) : f_chairOf w = f_chairOf v := by
  funext s p
  have : ∀ m c, f_chairN w s p m c = f_chairN v s p m c := fun m => by
    induction m with
    | zero => intro c; rfl
    | succ m ih => intro c; simp only [f_chairN, ih, h]
  unfold f_chairOf; rw [this, h1]
theorem f_gapsIn_e {v w : o_v} (h : w 82 = v 82) : f_gapsIn w = f_gapsIn v := by funext s n; unfold f_gapsIn; have : f_gpS w s = f_gpS v s := by funext c x; unfold f_gpS; rw [h]
                                                                                 rw [this]
theorem SV_fr {M N : o_M} {s nw : Nat} (h : Fr FS M N) (r : SV M s nw) : SV N s nw := by
  have e := fun id hid => (h id hid).1
  have e76 := e 76 (by unfold FS; omega)
  have e80 := e 80 (by unfold FS; omega)
  have e81 := e 81 (by unfold FS; omega)
  have e82 := e 82 (by unfold FS; omega)
  have e83 := e 83 (by unfold FS; omega)
  have e64 := e 64 (by unfold FS; omega)
  have n1 := f_need_e e64 e81 e76 e80
  have n2 := f_chairs_e n1
  unfold SV SV1 SV2 SV3 SV4
  rw [n1, n2, f_chairOf_e e82 e83, f_gapsIn_e e82, (h 19 (Or.inl rfl)).2.2.1, (h (47 + 128 * s) (by unfold FS; omega)).2.2.1, (h (48 + 128 * s) (by unfold FS; omega)).2.2.2, (h (49 + 128 * s) (by unfold FS; omega)).2.2.2, (h (50 + 128 * s) (by unfold FS; omega)).2.2.2, e (47 + 128 * s) (by unfold FS; omega), e (48 + 128 * s) (by unfold FS; omega), e (49 + 128 * s) (by unfold FS; omega), e (50 + 128 * s) (by unfold FS; omega), e76, e 77 (by unfold FS; omega), e 78 (by unfold FS; omega), e 79 (by unfold FS; omega), e80, e81, e82, e83]
  exact r
theorem RS_fr {M N : o_M} {n nw : Nat} (h : Fr FS M N) (r : RS M n nw) : RS N n nw := ⟨fun s hs => SV_fr h (r.1 s hs), fun s h1 h2 => by rw [(h 80 (by unfold FS; omega)).1, (h 83 (by unfold FS; omega)).1]; exact r.2 s h1 h2⟩
theorem TX_fr {M N : o_M} {t T : Nat} (h : Fr FT M N) (r : TX M t T) : TX N t T := by
  have e := fun id hid => (h id hid).1
  unfold TX
  rw [(h 20 (Or.inl rfl)).2.2.1, (h (51 + 128 * t) (by unfold FT; omega)).2.2.1, (h (52 + 128 * t) (by unfold FT; omega)).2.2.2, (h (53 + 128 * t) (by unfold FT; omega)).2.2.2, (h (54 + 128 * t) (by unfold FT; omega)).2.2.2, e (51 + 128 * t) (by unfold FT; omega), e (52 + 128 * t) (by unfold FT; omega), e (53 + 128 * t) (by unfold FT; omega), e (54 + 128 * t) (by unfold FT; omega), e 87 (by unfold FT; omega), e 88 (by unfold FT; omega), e 89 (by unfold FT; omega), e 90 (by unfold FT; omega), e 91 (by unfold FT; omega), e 92 (by unfold FT; omega), e 93 (by unfold FT; omega), e 94 (by unfold FT; omega)]
  exact r
theorem RT_fr {M N : o_M} {n T : Nat} (h : Fr FT M N) (r : RT M n T) : RT N n T := fun t ht => TX_fr h (r t ht)
theorem TY_fr {M N : o_M} {y ns nt : Nat} (h : Fr FY M N) (r : TY M y ns nt) : TY N y ns nt := by
  have e := fun id hid => (h id hid).1
  have e52 : ∀ t, mI N (52 + 128 * t) = mI M (52 + 128 * t) := fun t => e _ (by unfold FY; omega)
  have n52 : ∀ t, mN N (52 + 128 * t) = mN M (52 + 128 * t) := fun t => (h _ (by unfold FY; omega)).2.2.2
  unfold TY
  simp only [e52, n52]
  rw [(h 21 (Or.inl rfl)).2.2.1, (h (41 + 128 * y) (by unfold FY; omega)).2.2.1, (h (42 + 128 * y) (by unfold FY; omega)).2.2.2, (h (42 + 128 * y) (by unfold FY; omega)).2.1, (h 99 (by unfold FY; omega)).2.1, e (41 + 128 * y) (by unfold FY; omega), e 96 (by unfold FY; omega), e 97 (by unfold FY; omega), e 98 (by unfold FY; omega)]
  exact r
theorem RY_fr {M N : o_M} {ns nt : Nat} (h : Fr FY M N) (r : RY M ns nt) : RY N ns nt := fun y hy => TY_fr h (r y hy)
theorem scr_F {x : Nat} (h : FW x ∨ FP x ∨ FS x ∨ FT x ∨ FY x ∨ x = 22 ∨ x = 84 ∨ x = 102) : (∀ j, scr x j = false) ∧ ¬ (x = 27 ∨ x = 28 ∨ x = 111) := by
  unfold FW FP FS FT FY at h
  constructor
  · intro j
    unfold scr
    have e1 : (decide (23 ≤ x) && decide (x ≤ 40)) = false := by simp; omega
    have e2 : (decide (112 ≤ x) && decide (x ≤ 118)) = false := by simp; omega
    have e3 : (x == 60) = false := by simp; omega
    rw [e1, e2, e3]; simp
  · omega
theorem Rel_Sm {M N : o_M} {nw np ns nt T : Nat} (h : Sm M N) (r : Rel M nw np ns nt T) : Rel N nw np ns nt T := by
  obtain ⟨r1, r2, r3, r4, r5, r6, r7, r8, r9, r10, r11⟩ := r
  refine ⟨Sm_wM h r1, Sm_wX h r2, ?_, ?_, RW_fr (Fr_Sm h fun x hx => scr_F (Or.inl hx)) r5, RP_fr (Fr_Sm h fun x hx => scr_F (Or.inr (Or.inl hx))) r6, RS_fr (Fr_Sm h fun x hx => scr_F (Or.inr (Or.inr (Or.inl hx)))) r7, RT_fr (Fr_Sm h fun x hx => scr_F (Or.inr (Or.inr (Or.inr (Or.inl hx))))) r8, RY_fr (Fr_Sm h fun x hx => scr_F (Or.inr (Or.inr (Or.inr (Or.inr (Or.inl hx)))))) r9, ?_, ?_⟩
  · unfold RC
    rw [Sm_row h (id := 16) (fun _ => rfl), Sm_i h (id := 60) (j := 0) rfl, Sm_i h (id := 60) (j := 7) rfl, Sm_i h (id := 60) (j := 14) rfl, Sm_i h (id := 60) (j := 25) rfl, Sm_i h (id := 60) (j := 34) rfl, Sm_i h (id := 60) (j := 39) rfl]
    exact r3
  · unfold RLv; rw [h.2.2.2.2]; exact r4
  · unfold RZ
    rw [Sm_row h (id := 16) (fun _ => rfl), Sm_row h (id := 22) (fun _ => rfl), Sm_row h (id := 84) (fun _ => rfl), Sm_i h (id := 60) (j := 24) rfl]
    exact r10
  · unfold RD; rw [Sm_row h (id := 102) (fun _ => rfl)]; exact r11

