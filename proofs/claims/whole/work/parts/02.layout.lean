/-! OWN LAYER, 1: abstract values, memory, the layout of ids -/
abbrev o_V : Type := Int32 ⊕ (Int64 ⊕ Option Nat)
abbrev o_M : Type := (Nat → Nat → Int32) × (Nat → Nat → Int64) × (Nat → Nat → Option Nat) × (Nat → Nat) × List Nat
def o_tg (t : Nat) : Nat ⊕ FieldType := match t with
  | 16 => .inl 11
  | 17 => .inr (.object "OrchestraYear$Work")
  | 18 => .inr (.object "OrchestraYear$Player")
  | 19 => .inr (.object "OrchestraYear$Service")
  | 20 => .inr (.object "OrchestraYear$Text")
  | 21 => .inr (.object "OrchestraYear$Tray")
  | 22 => .inr .byte
  | 23 => .inl 3
  | 24 => .inr .int
  | 25 => .inr .int
  | 26 => .inl 4
  | 27 => .inr .long
  | 28 => .inr .long
  | 29 => .inl 5
  | 30 => .inr .int
  | 31 => .inr .int
  | 32 => .inr .int
  | 33 => .inr .int
  | 34 => .inr .int
  | 35 => .inl 1
  | 36 => .inr .int
  | 37 => .inr .int
  | 38 => .inl 0
  | 39 => .inr .int
  | 40 => .inr .int
  | 41 => .inl 9
  | 42 => .inr .long
  | 43 => .inl 10
  | 44 => .inl 2
  | 45 => .inr .int
  | 46 => .inr .int
  | 47 => .inl 6
  | 48 => .inr .int
  | 49 => .inr .int
  | 50 => .inr .int
  | 51 => .inl 7
  | 52 => .inr .byte
  | 53 => .inr .int
  | 54 => .inr .int
  | 60 => .inl 12
  | 62 => .inr .int
  | 63 => .inr .int
  | 64 => .inr .int
  | 65 => .inr .int
  | 66 => .inr .int
  | 67 => .inr .int
  | 69 => .inr .int
  | 70 => .inr .int
  | 71 => .inr .int
  | 72 => .inr .int
  | 73 => .inr .int
  | 74 => .inr .int
  | 76 => .inr .int
  | 77 => .inr .int
  | 78 => .inr .int
  | 79 => .inr .int
  | 80 => .inr .int
  | 81 => .inr .int
  | 82 => .inr .int
  | 83 => .inr .boolean
  | 84 => .inr .int
  | 87 => .inr .int
  | 88 => .inr .int
  | 89 => .inr .int
  | 90 => .inr .int
  | 91 => .inr .int
  | 92 => .inr .int
  | 93 => .inr .int
  | 94 => .inr .int
  | 96 => .inr .int
  | 97 => .inr .int
  | 98 => .inr .int
  | 99 => .inr .long
  | 101 => .inr .int
  | 102 => .inr .int
  | 111 => .inr .long
  | 112 => .inr .boolean
  | 113 => .inr .int
  | 114 => .inr .int
  | 115 => .inr .int
  | 116 => .inr .int
  | 117 => .inr .int
  | 118 => .inr .int
  | _ => .inr .float
def o_ty (id : Nat) : Nat ⊕ FieldType := o_tg (id % 128)
def o_cl : List vw_C := [(RX0, TX0, 3), (RX1, TX1, 4), (RX2, TX2, 6), (RX3, TX3, 12), (RX4, TX4, 3), (RX5, TX5, 7), (RX6, TX6, 12), (RX7, TX7, 6), (RX0, TX0, 3), (RX9, TX9, 6), (RX10, TX10, 6), (RX11, TX11, 18), (RX12, TX12, 58)]
def o_nf (ci : Nat) : Nat := match ci with
  | 0 => 3
  | 1 => 4
  | 2 => 6
  | 3 => 12
  | 4 => 3
  | 5 => 7
  | 6 => 12
  | 7 => 6
  | 8 => 0
  | 9 => 6
  | 10 => 6
  | 11 => 18
  | 12 => 58
  | _ => 0
def o_fy (ci : Nat) : Nat → FieldType := match ci with
  | 0 => tyX0
  | 1 => tyX1
  | 2 => tyX2
  | 3 => tyX3
  | 4 => tyX4
  | 5 => tyX5
  | 6 => tyX6
  | 7 => tyX7
  | 8 => tyX8
  | 9 => tyX9
  | 10 => tyX10
  | 11 => tyX11
  | 12 => tyX12
  | _ => fun _ => .int
def o_isN (w : Cond) : Bool := match w with
  | .fieldLinkNest .. => true
  | .methodLinkNest .. => true
  | .castable .. => true
  | _ => false
def o_T : List Cond := lw_tbl.filter goodWord
def o_N : List Cond := lw_tbl.filter o_isN
def o_O : List String := ["OrchestraYear$Work", "OrchestraYear$Player", "OrchestraYear$Service", "OrchestraYear$Text", "OrchestraYear$Tray"]
theorem o_tg_inv9 {a : Nat} (h : o_ty a = .inl 9) : a % 128 = 41 := by
  have hl : a % 128 < 128 := Nat.mod_lt _ (by decide)
  have key : ∀ t, t < 128 → o_tg t = .inl 9 → t = 41 := by decide +kernel
  exact key _ hl h
theorem o_tg_inv10 {a : Nat} (h : o_ty a = .inl 10) : a % 128 = 43 := by
  have hl : a % 128 < 128 := Nat.mod_lt _ (by decide)
  have key : ∀ t, t < 128 → o_tg t = .inl 10 → t = 43 := by decide +kernel
  exact key _ hl h
theorem o_tg_inv2 {a : Nat} (h : o_ty a = .inl 2) : a % 128 = 44 := by
  have hl : a % 128 < 128 := Nat.mod_lt _ (by decide)
  have key : ∀ t, t < 128 → o_tg t = .inl 2 → t = 44 := by decide +kernel
  exact key _ hl h
theorem o_tg_inv6 {a : Nat} (h : o_ty a = .inl 6) : a % 128 = 47 := by
  have hl : a % 128 < 128 := Nat.mod_lt _ (by decide)
  have key : ∀ t, t < 128 → o_tg t = .inl 6 → t = 47 := by decide +kernel
  exact key _ hl h
theorem o_tg_inv7 {a : Nat} (h : o_ty a = .inl 7) : a % 128 = 51 := by
  have hl : a % 128 < 128 := Nat.mod_lt _ (by decide)
  have key : ∀ t, t < 128 → o_tg t = .inl 7 → t = 51 := by decide +kernel
  exact key _ hl h
theorem o_ty16 {a : Nat} (h : o_ty a ≠ .inr .float) : 16 ≤ a := by
  have key : ∀ t, t < 16 → o_tg t = .inr .float := by decide +kernel
  by_cases h1 : 16 ≤ a
  · exact h1
  · exact absurd (show o_tg (a % 128) = _ from key _ (by omega)) h
theorem o_sub9 {a : Nat} (h : o_ty a = .inl 9) : a % 128 = 41 ∧ o_ty (a + 1) = .inr .long := by
  have h1 : a % 128 = 41 := o_tg_inv9 h
  refine ⟨h1, ?_⟩
  · show o_tg ((a + 1) % 128) = _; rw [show (a + 1) % 128 = 42 by omega]; rfl
theorem o_sub10 {a : Nat} (h : o_ty a = .inl 10) : a % 128 = 43 := by
  have h1 : a % 128 = 43 := o_tg_inv10 h
  exact h1
theorem o_sub2 {a : Nat} (h : o_ty a = .inl 2) : a % 128 = 44 ∧ o_ty (a + 1) = .inr .int ∧ o_ty (a + 2) = .inr .int := by
  have h1 : a % 128 = 44 := o_tg_inv2 h
  refine ⟨h1, ?_, ?_⟩
  · show o_tg ((a + 1) % 128) = _; rw [show (a + 1) % 128 = 45 by omega]; rfl
  · show o_tg ((a + 2) % 128) = _; rw [show (a + 2) % 128 = 46 by omega]; rfl
theorem o_sub6 {a : Nat} (h : o_ty a = .inl 6) : a % 128 = 47 ∧ o_ty (a + 1) = .inr .int ∧ o_ty (a + 2) = .inr .int ∧ o_ty (a + 3) = .inr .int := by
  have h1 : a % 128 = 47 := o_tg_inv6 h
  refine ⟨h1, ?_, ?_, ?_⟩
  · show o_tg ((a + 1) % 128) = _; rw [show (a + 1) % 128 = 48 by omega]; rfl
  · show o_tg ((a + 2) % 128) = _; rw [show (a + 2) % 128 = 49 by omega]; rfl
  · show o_tg ((a + 3) % 128) = _; rw [show (a + 3) % 128 = 50 by omega]; rfl
theorem o_sub7 {a : Nat} (h : o_ty a = .inl 7) : a % 128 = 51 ∧ o_ty (a + 1) = .inr .byte ∧ o_ty (a + 2) = .inr .int ∧ o_ty (a + 3) = .inr .int := by
  have h1 : a % 128 = 51 := o_tg_inv7 h
  refine ⟨h1, ?_, ?_, ?_⟩
  · show o_tg ((a + 1) % 128) = _; rw [show (a + 1) % 128 = 52 by omega]; rfl
  · show o_tg ((a + 2) % 128) = _; rw [show (a + 2) % 128 = 53 by omega]; rfl
  · show o_tg ((a + 3) % 128) = _; rw [show (a + 3) % 128 = 54 by omega]; rfl
