/-! the law out of Ev -/
def R_law : String := "OrchestraYearLaw"
def lw_P (b : Addr) (xs : List Int32) (args : Array Value) (s : State) : Prop := args = #[.ref b] ∧ s.IntsAt b xs ∧ xs.length ≤ 2560 ∧ (Jvm.Cond.and given_1 narrow_1).before args s = true
def lw_Q (_ : Array Value) (s : State) (o : Outcome) (t : State) : Prop := o = .returned (some (.int 1)) ∧ Framed s o t [] 600000 7302250
def lw_Z (below : List Frame) (a : Array Value) (s : State) : State → Prop := fun t => ∃ o, t.status = .running ∧ Ended t below o ∧ lw_Q a s o t
/-- the law's own end, with 1 on the stack, nothing written that was there before, its room as the claim has it -/
theorem lw_ret {p : Program} {l : Launch} {e : Env} {s : State} {m : MethodId} {below : List Frame} {meth : Method} {c : Code} {b : Nat} (hx : p.tables.exec = Jvm.exec) (hb : c.code = code) (hr : meth.sig.returnType = ret) (hlocks : meth.locks = false) {pc : Nat} {H : Heap} {ls : Array Slot} (hdg : decode code pc = .ok (.ireturn, 1)) : W p l e room_1 s m #[Value.ref b] below meth c H [] 600000 7302250 (lw_Z below #[Value.ref b] s) (F0 m pc ls [.int 1]) := by
  intro T hT X
  obtain ⟨fs, hret, hrun, hended, hW, hframe⟩ := X.leave (v := some (.int 1)) (hlocks := hlocks) (fun h => by rw [hr] at h; cases h)
  have hmeth' : T.vm.method? m = some meth := X.method'
  refine ⟨T.setFrames fs, ?_, .returned (some (.int 1)), hrun, hended, rfl, ⟨_, rfl⟩, hW, hframe⟩
  jvm_step X.here [X.here.top, hx, hb, hdg, hmeth', hr, ret, narrow_b1]
  (try refine ⟨rfl, ?_⟩); (try refine ⟨rfl, ?_⟩)
  first | (intro acts; rw [hret _ acts rfl rfl rfl]) | rw [hret _ _ rfl rfl rfl]
  exact Steps.refl _
/-- what holds at the law's entry: the machine, the code, the tables' words (any of lw_tbl by 'hts w (by decide +kernel)'), the script of L ints xs at the cell b, what the Statement gives of the start (any of its parts by flat_of_before) -/
def lw_At (p : Program) (s : State) (m : MethodId) (meth : Method) (c : Code) (b L : Nat) (xs : Nat → Int32) : Prop :=
  p.tables.exec = Jvm.exec ∧ c.code = code ∧ meth.sig.returnType = ret ∧ c.maxLocals = 4 ∧ s.vm.findClass R_law = some m.cls ∧ (∀ w ∈ lw_tbl, w.before #[Value.ref b] s = true) ∧ va_X b L xs s s.heap ∧ b < s.heap.size ∧ meth.locks = false ∧ (Jvm.Cond.and given_1 narrow_1).before #[Value.ref b] s = true
def o_M0 : o_M := (fun _ _ => 0, fun _ _ => 0, fun _ _ => none, fun _ => 0, [])
def o_tm (i : Nat) : Term := match i with
  | 0 => .string "OrchestraYear" 101
  | 1 => .string "OrchestraYear$Reader" 116
  | _ => .string "OrchestraYear$Reader" 124
abbrev o_fl : List Cond := flatC (Jvm.Cond.and given_1 narrow_1)
theorem o_fe : ((List.range 3).all fun i => (List.range (o_sl.getD i 0)).all fun j => decide (Cond.eq (.elem (.field (o_tm i) "java/lang/String" "value" "[B") (.int (Int32.ofNat j))) (.int ((o_sb.getD i []).getD j 0)) ∈ o_fl)) = true := by decide +kernel
theorem o_f1 : ((List.range 3).all fun i => decide (Cond.exactly (o_tm i) "java/lang/String" ∈ o_fl) && (decide (Cond.eq (.field (o_tm i) "java/lang/String" "coder" "B") (.int 0) ∈ o_fl) && (decide (Cond.arrayOf (.field (o_tm i) "java/lang/String" "value" "[B") .byte ∈ o_fl) && decide (Cond.eq (.length (.field (o_tm i) "java/lang/String" "value" "[B")) (.int (Int32.ofNat (o_sl.getD i 0))) ∈ o_fl)))) = true := by decide +kernel
theorem o_f2 : ((List.range 3).all fun i => (List.range 3).all fun j => decide (i = j) || (decide (Cond.not (Cond.eq (o_tm i) (o_tm j)) ∈ o_fl) || decide (Cond.not (Cond.eq (o_tm j) (o_tm i)) ∈ o_fl))) = true := by decide +kernel
theorem o_f3 : ((List.range 6).all fun j => decide (Cond.eq (.elem (.static "OrchestraYear" "KIND_ABOVE" "[I") (.int (Int32.ofNat j))) (.int (o_kI j)) ∈ o_fl)) = true := by decide +kernel
theorem o_rall {n : Nat} {f : Nat → Bool} (h : (List.range n).all f = true) : ∀ i, i < n → f i = true := fun i hi => List.all_eq_true.mp h i (List.mem_range.mpr hi)
set_option maxHeartbeats 1000000 in
theorem o_start {p : Program} {e : Env} {s : State} {m : MethodId} {below : List Frame} {meth : Method} {c : Code} (l : Launch) {b L : Nat} {xs : Nat → Int32} (C0 : lw_At p s m meth c b L xs) (hE : E_L_law l (some (L, xs)) (fun r _ => r = 1) 0 [(0, rV (some 8))] [] o_M0 0 0) :
    W p l e room_1 s m #[Value.ref b] below meth c s.heap [] 0 0 (lw_Z below #[Value.ref b] s) (entryFrame m ([Value.ref b] : List Value).toArray 4) := by
  obtain ⟨hx, hb, hr, hml, hown, hts, hX, hbl, hlocks, hgv⟩ := C0
  have hs := flat_of_before _ hgv
  have hA : ∀ a : Nat, a < s.heap.size → ¬ o_A s.heap.size a := fun a h z => absurd z (Nat.not_le.mpr h)
  have hT : ∀ w ∈ o_T, w.before #[Value.ref b] s = true := fun w hw => hts w (List.mem_filter.mp hw).1
  obtain ⟨k0, i0, hKn0⟩ := u_known (C := RX0) (T := TX0) (N := 3) (n := 3) hT iT0 (hT _ itX0)
  obtain ⟨k1, i1, hKn1⟩ := u_known (C := RX1) (T := TX1) (N := 4) (n := 4) hT iT1 (hT _ itX1)
  obtain ⟨k2, i2, hKn2⟩ := u_known (C := RX2) (T := TX2) (N := 6) (n := 6) hT iT2 (hT _ itX2)
  obtain ⟨k3, i3, hKn3⟩ := u_known (C := RX3) (T := TX3) (N := 12) (n := 12) hT iT3 (hT _ itX3)
  obtain ⟨k4, i4, hKn4⟩ := u_known (C := RX4) (T := TX4) (N := 3) (n := 3) hT iT4 (hT _ itX4)
  obtain ⟨k5, i5, hKn5⟩ := u_known (C := RX5) (T := TX5) (N := 7) (n := 7) hT iT5 (hT _ itX5)
  obtain ⟨k6, i6, hKn6⟩ := u_known (C := RX6) (T := TX6) (N := 12) (n := 12) hT iT6 (hT _ itX6)
  obtain ⟨k7, i7, hKn7⟩ := u_known (C := RX7) (T := TX7) (N := 6) (n := 6) hT iT7 (hT _ itX7)
  obtain ⟨k9, i9, hKn9⟩ := u_known (C := RX9) (T := TX9) (N := 6) (n := 6) hT iT9 (hT _ itX9)
  obtain ⟨k10, i10, hKn10⟩ := u_known (C := RX10) (T := TX10) (N := 6) (n := 6) hT iT10 (hT _ itX10)
  obtain ⟨k11, i11, hKn11⟩ := u_known (C := RX11) (T := TX11) (N := 18) (n := 18) hT iT11 (hT _ itX11)
  obtain ⟨k12, i12, hKn12⟩ := u_known (C := RX12) (T := TX12) (N := 58) (n := 58) hT iT12 (hT _ itX12)
  obtain ⟨dC, dI, hKc⟩ : ∃ (dC : Nat → ClassId) (dI : Nat → Nat → Nat), ∀ (k : Nat) (q : vw_C), o_cl[k]? = some q → u_Kn s q.1 q.2.1 q.2.2 (dC k) (dI k) := by
    refine ⟨fun k => match k with | 0 => k0 | 1 => k1 | 2 => k2 | 3 => k3 | 4 => k4 | 5 => k5 | 6 => k6 | 7 => k7 | 8 => k0 | 9 => k9 | 10 => k10 | 11 => k11 | _ => k12, fun k => match k with | 0 => i0 | 1 => i1 | 2 => i2 | 3 => i3 | 4 => i4 | 5 => i5 | 6 => i6 | 7 => i7 | 8 => i0 | 9 => i9 | 10 => i10 | 11 => i11 | _ => i12, ?_⟩
    intro k q hq
    match k, hq with
    | 0, hq => cases hq; exact hKn0
    | 1, hq => cases hq; exact hKn1
    | 2, hq => cases hq; exact hKn2
    | 3, hq => cases hq; exact hKn3
    | 4, hq => cases hq; exact hKn4
    | 5, hq => cases hq; exact hKn5
    | 6, hq => cases hq; exact hKn6
    | 7, hq => cases hq; exact hKn7
    | 8, hq => cases hq; exact hKn0
    | 9, hq => cases hq; exact hKn9
    | 10, hq => cases hq; exact hKn10
    | 11, hq => cases hq; exact hKn11
    | 12, hq => cases hq; exact hKn12
    | k + 13, hq => simp [o_cl] at hq
  have hK : va_K (dC, dI) o_cl [] s := ⟨hKc, fun k q h => by simp at h⟩
  obtain ⟨t0, ht0, hT0⟩ := va_Tof (tm := .static "OrchestraYear" "KIND_ABOVE" "[I") (ty := .int) (N := 6) (f := o_kF) (A := o_A s.heap.size) (args := #[Value.ref b]) (s := s) (by decide) (hs _ (by decide +kernel)) (va_eqt (hs (Cond.eq (.length (.static "OrchestraYear" "KIND_ABOVE" "[I")) (.int 6)) (by decide +kernel))) (fun j hj => va_eqt (hs _ (of_decide_eq_true (o_rall o_f3 j hj)))) hA
  have hZ0 := va_Zof (A := o_A s.heap.size) (hts (.laysStatic "OrchestraYear" "KIND_ABOVE" "[I") (List.mem_append_right _ (o_c3 (i := 135) rfl))) (hT _ izX11) ht0 hA
  have q1 := fun i hi => o_rall o_f1 i hi
  simp only [Bool.and_eq_true, decide_eq_true_eq] at q1
  obtain ⟨adK, adV, hSk, hev⟩ := vk_Sof (N := 3) (tm := o_tm) (len := o_sl) (byt := o_sb) (A := o_A s.heap.size) (args := #[Value.ref b]) (s := s) (by decide) (fun i hi => hs _ (q1 i hi).1) (fun i hi => hs _ (q1 i hi).2.1) (fun i hi => hs _ (q1 i hi).2.2.1) (fun i hi => hs _ (q1 i hi).2.2.2)
    (fun i hi j hj => hs _ (of_decide_eq_true (o_rall (o_rall o_fe i hi) j hj))) (fun i j hi hj hij => by
      have h2 := o_rall (o_rall o_f2 i hi) j hj
      simp only [Bool.or_eq_true, decide_eq_true_eq] at h2
      rcases h2 with h2 | h2 | h2
      · exact absurd h2 hij
      · exact Or.inl (hs _ h2)
      · exact Or.inr (hs _ h2)) hA
  have hZc := va_Zof (A := o_A s.heap.size) (hts (.laysStatic "java/lang/String" "COMPACT_STRINGS" "Z") (List.mem_append_right _ (o_c1 (i := 211) rfl))) (hT _ izJ0) (va_eqi (hs _ (by decide +kernel))) hA (v := .int 1)
  have hZq := va_Zqof (A := o_A s.heap.size) (hts (.laysStatic "jdk/internal/util/Preconditions" "SIOOBE_FORMATTER" "Ljava/util/function/BiFunction;") (List.mem_append_right _ (o_c1 (i := 227) rfl))) (hT _ izJ3) (hs _ (by decide +kernel)) hA
  obtain ⟨t7, hZ7⟩ : ∃ t7, va_Z "jdk/internal/util/Preconditions" "SIOOBE_FORMATTER" "Ljava/util/function/BiFunction;" .null (o_A s.heap.size) s s.heap ∨ va_Z "jdk/internal/util/Preconditions" "SIOOBE_FORMATTER" "Ljava/util/function/BiFunction;" (.ref t7) (o_A s.heap.size) s s.heap := by
    rcases hZq with h | ⟨t, h⟩
    · exact ⟨0, Or.inl h⟩
    · exact ⟨t, Or.inr h⟩
  obtain ⟨ad, a0, a1, a4, a7, a8⟩ : ∃ ad : Nat → Nat, ad 0 = t0 ∧ (∀ i, i < 3 → ad (1 + i) = adK i) ∧ (∀ i, i < 3 → ad (4 + i) = adV i) ∧ ad 7 = t7 ∧ ad 8 = b := by
    refine ⟨fun k => match k with | 0 => t0 | 1 => adK 0 | 2 => adK 1 | 3 => adK 2 | 4 => adV 0 | 5 => adV 1 | 6 => adV 2 | 7 => t7 | _ => b, rfl, ?_, ?_, rfl, rfl⟩
    · intro i hi
      match i, hi with
      | 0, _ => rfl
      | 1, _ => rfl
      | 2, _ => rfl
    · intro i hi
      match i, hi with
      | 0, _ => rfl
      | 1, _ => rfl
      | 2, _ => rfl
  have hcn : o_cn s.heap.size ad s := by
    refine ⟨⟨by rw [a0]; exact hZ0, by rw [a0]; exact hT0⟩, ⟨⟨fun i hi => ?_, fun i j hi hj => ?_⟩, ?_, ?_, ?_⟩, ⟨hZc, by rw [a7]; exact hZ7⟩⟩
    · have := hSk.1 i hi
      dsimp only
      rw [a1 i hi, a4 i hi]; exact this
    · have := hSk.2 i j hi hj
      dsimp only
      rw [a1 i hi, a1 j hj]; exact this
    · rw [show ad 1 = adK 0 from a1 0 (by decide)]; exact vk_R.of (A := #[Value.ref b]) (hts _ (List.mem_append_right _ (o_c1 (i := 201) rfl))) (hev 0 (by decide))
    · rw [show ad 2 = adK 1 from a1 1 (by decide)]; exact vk_R.of (A := #[Value.ref b]) (hts _ (List.mem_append_right _ (o_c2 (i := 32) rfl))) (hev 1 (by decide))
    · rw [show ad 3 = adK 2 from a1 2 (by decide)]; exact vk_R.of (A := #[Value.ref b]) (hts _ (List.mem_append_right _ (o_c2 (i := 45) rfl))) (hev 2 (by decide))
  have hnn : o_nn s := by
    refine ⟨fun w hw => ?_, fun C hC => ?_⟩
    · have h1 := List.mem_filter.mp hw
      have h2 := hts w h1.1
      have h3 := h1.2
      cases w <;> first | exact va_Nw.of rfl h2 | (cases h3; done)
    · simp only [o_O, List.mem_cons, List.not_mem_nil, or_false] at hC
      rcases hC with rfl | rfl | rfl | rfl | rfl
      · exact va_AO.of (hts (.arrayOver (.object "OrchestraYear$Work")) (List.mem_append_right _ (o_c1 (i := 30) rfl)))
      · exact va_AO.of (hts (.arrayOver (.object "OrchestraYear$Player")) (List.mem_append_right _ (o_c1 (i := 32) rfl)))
      · exact va_AO.of (hts (.arrayOver (.object "OrchestraYear$Service")) (List.mem_append_right _ (o_c1 (i := 34) rfl)))
      · exact va_AO.of (hts (.arrayOver (.object "OrchestraYear$Text")) (List.mem_append_right _ (o_c1 (i := 36) rfl)))
      · exact va_AO.of (hts (.arrayOver (.object "OrchestraYear$Tray")) (List.mem_append_right _ (o_c1 (i := 38) rfl)))
  have hl := lv_entry ([.ref b]) (n := 4) (Nat.le_of_ble_eq_true rfl)
  rw [lg_entry_eq]
  generalize (lg_sl ([.ref b]) ++ List.replicate (4 - (lg_sl ([.ref b])).length) Slot.unset).toArray = ls at hl ⊢
  have hl : lv_has ls 4 [(0, .ref b)] := hl
  have hwd : o_wd s.heap.size (dC, dI) s ad (fun _ => 0) o_M0 s.heap := ⟨fun k q h => by simp [o_w, mL, o_M0] at h, ⟨fun i j p q h => by simp [o_w, mL, o_M0] at h, fun k q h => by simp [o_w, mL, o_M0] at h⟩, fun id h => by simp [mL, o_M0] at h, fun id h => by simp [mL, o_M0] at h⟩
  have hlv : lv_has ls 4 (([(0, rV (some 8))] : List (Nat × o_V)).map fun q => (q.1, o_cv ad q.2)) := by
    have e1 : (([(0, rV (some 8))] : List (Nat × o_V)).map fun q => (q.1, o_cv ad q.2)) = [(0, .ref b)] := by simp [o_cv, va_rf, a8]
    rw [e1]; exact hl
  refine hE s.heap.size p e s m #[Value.ref b] below meth c (dC, dI) (lw_Z below #[Value.ref b] s) ad [] ⟨hx, hb, hml, hr, hown, (fun z => by cases z), hT, hnn, hK, Nat.le_refl _⟩ ?_ ad (fun _ => 0) s.heap [] ls hwd va_S.rf ⟨hcn, by show va_X (ad 8) L xs s s.heap ∧ ad 8 < s.heap.size; rw [a8]; exact ⟨hX, hbl⟩⟩ hlv (fun q hq => by simp at hq; subst hq; exact o_lvc (by decide)) (fun v hv => by cases hv) (fun _ _ => rfl) (fun id h => by cases h)
  intro v pc ls' M' ad' ca' H' locs' hdg hro hQ hwd' hS' hlv' hag' hsub'
  obtain ⟨r, rfl, rfl⟩ := hQ
  refine va_forget (fun q hq => hS'.2.2 q hq) ?_
  exact lw_ret hx hb hr hlocks hdg
