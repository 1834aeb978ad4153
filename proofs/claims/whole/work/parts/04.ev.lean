def o_s0 : String := "count long ; pay long * 10 ;"
def o_s1 : String := "kind   weekdayhour   long   chair  post   double desk   week   rest   bar    count  pay    or     and    not    "
def o_s2 : String := "();+-*<="
def o_sl : List Nat := [28, 112, 8]
def o_sb : List (List Int32) := [[99, 111, 117, 110, 116, 32, 108, 111, 110, 103, 32, 59, 32, 112, 97, 121, 32, 108, 111, 110, 103, 32, 42, 32, 49, 48, 32, 59], [107, 105, 110, 100, 32, 32, 32, 119, 101, 101, 107, 100, 97, 121, 104, 111, 117, 114, 32, 32, 32, 108, 111, 110, 103, 32, 32, 32, 99, 104, 97, 105, 114, 32, 32, 112, 111, 115, 116, 32, 32, 32, 100, 111, 117, 98, 108, 101, 32, 100, 101, 115, 107, 32, 32, 32, 119, 101, 101, 107, 32, 32, 32, 114, 101, 115, 116, 32, 32, 32, 98, 97, 114, 32, 32, 32, 32, 99, 111, 117, 110, 116, 32, 32, 112, 97, 121, 32, 32, 32, 32, 111, 114, 32, 32, 32, 32, 32, 97, 110, 100, 32, 32, 32, 32, 110, 111, 116, 32, 32, 32, 32], [40, 41, 59, 43, 45, 42, 60, 61]]
/-! OWN LAYER, 3: the judgement Ev, the contract Ctr -/
def o_rm (d mc ms : Nat) : Room := { frames := d, cells := mc, slots := ms, locals := 40 * d }
def o_ri (ret : Option FieldType) : Instr := match ret with
  | none => .return_
  | some .long => .lreturn
  | some (.object _) => .areturn
  | some (.array _) => .areturn
  | some _ => .ireturn
/-- the value fits the type that is returned -/
def o_ro (ret : Option FieldType) (v : Option o_V) : Prop := match ret, v with
  | none, none => True
  | some .long, some (.inr (.inl _)) => True
  | some (.object _), some (.inr (.inr _)) => True
  | some (.array _), some (.inr (.inr _)) => True
  | some .int, some (.inl _) => True
  | some .boolean, some (.inl x) => narrow .boolean (.int x) = .int x
  | some .byte, some (.inl x) => narrow .byte (.int x) = .int x
  | some .char, some (.inl x) => narrow .char (.int x) = .int x
  | _, _ => False
def o_kF (j : Nat) : Value := .int (match j with
  | 0 => -1
  | 1 => 0
  | 2 => 0
  | 3 => 2
  | 4 => 0
  | _ => 1)
/-- what stands outside the world: constants of the classes -/
def o_cn (base : Nat) (ad : Nat → Nat) (U : State) : Prop :=
  (va_Z "OrchestraYear" "KIND_ABOVE" "[I" (.ref (ad 0)) (o_A base) U U.heap ∧ va_T .int (ad 0) 6 o_kF (o_A base) U U.heap) ∧
  (vk_S 3 o_sl o_sb (fun i => ad (1 + i)) (fun i => ad (4 + i)) (o_A base) U U.heap ∧ vk_R "OrchestraYear" 101 o_s0 (ad 1) U ∧ vk_R "OrchestraYear$Reader" 116 o_s1 (ad 2) U ∧ vk_R "OrchestraYear$Reader" 124 o_s2 (ad 3) U) ∧
  (va_Z "java/lang/String" "COMPACT_STRINGS" "Z" (.int 1) (o_A base) U U.heap ∧ (va_Z "jdk/internal/util/Preconditions" "SIOOBE_FORMATTER" "Ljava/util/function/BiFunction;" .null (o_A base) U U.heap ∨ va_Z "jdk/internal/util/Preconditions" "SIOOBE_FORMATTER" "Ljava/util/function/BiFunction;" (.ref (ad 7)) (o_A base) U U.heap))
def o_nn (U : State) : Prop := (∀ w ∈ o_N, va_Nw w U) ∧ ∀ C ∈ o_O, va_AO C U
def o_cx (base : Nat) (own : String) (cc : ByteArray) (nL : Nat) (ret : Option FieldType) (ini : Bool) (p : Program) (s : State) (m : MethodId) (args : Array Value) (meth : Method) (c : Code) (D : va_G) : Prop :=
  p.tables.exec = Jvm.exec ∧ c.code = cc ∧ c.maxLocals = nL ∧ meth.sig.returnType = ret ∧ s.vm.findClass own = some m.cls ∧ (ini = true → meth.name = "<init>") ∧ (∀ w ∈ o_T, w.before args s = true) ∧ o_nn s ∧ va_K D o_cl [] s ∧ base ≤ s.heap.size
def o_rt (base : Nat) (cc : ByteArray) (ret : Option FieldType) (mc ms : Nat) (Q : Option o_V → o_M → Prop) (p : Program) (l : Launch) (e : Env) (R : Room) (s : State) (m : MethodId) (args : Array Value) (below : List Frame) (meth : Method) (c : Code) (D : va_G) (Z : State → Prop) (ad0 : Nat → Nat) (L0 : List Nat) : Prop :=
  ∀ (v : Option o_V) (pc : Nat) (ls : Array Slot) (M : o_M) (ad : Nat → Nat) (ca : Nat → ClassId) (H : Heap) (locs : List Loc), decode cc pc = .ok (o_ri ret, 1) → o_ro ret v → Q v M → o_wd base D s ad ca M H → va_S (o_A base) s.heap H locs → (∀ x ∈ v, o_lv (mL M) x) → (∀ id, o_li L0 id → ad id = ad0 id) → (∀ id ∈ L0, id ∈ mL M) →
    W p l e R s m args below meth c H locs mc ms Z (F0 m pc ls (v.toList.map (o_cv ad)))
def o_sc (base : Nat) (sc : Option (Nat × (Nat → Int32))) (ad : Nat → Nat) (U : State) : Prop := match sc with
  | none => True
  | some q => va_X (ad 8) q.1 q.2 U U.heap ∧ ad 8 < base
def Ev (l : Launch) (sc : Option (Nat × (Nat → Int32))) (R : Room) (own : String) (cc : ByteArray) (nL : Nat) (ret : Option FieldType) (ini : Bool) (mc ms : Nat) (Q : Option o_V → o_M → Prop) (pc : Nat) (lv : List (Nat × o_V)) (st : List o_V) (M : o_M) (k n : Nat) : Prop :=
  ∀ (base : Nat) (p : Program) (e : Env) (s : State) (m : MethodId) (args : Array Value) (below : List Frame) (meth : Method) (c : Code) (D : va_G) (Z : State → Prop) (ad0 : Nat → Nat) (L0 : List Nat), o_cx base own cc nL ret ini p s m args meth c D → o_rt base cc ret mc ms Q p l e R s m args below meth c D Z ad0 L0 →
    ∀ (ad : Nat → Nat) (ca : Nat → ClassId) (H : Heap) (locs : List Loc) (ls : Array Slot), o_wd base D s ad ca M H → va_S (o_A base) s.heap H locs → o_cn base ad s ∧ o_sc base sc ad s → lv_has ls nL (lv.map fun q => (q.1, o_cv ad q.2)) → (∀ q ∈ lv, o_lv (mL M) q.2) → (∀ v ∈ st, o_lv (mL M) v) → (∀ id, o_li L0 id → ad id = ad0 id) → (∀ id ∈ L0, id ∈ mL M) →
      W p l e R s m args below meth c H locs k n Z (F0 m pc ls (st.map (o_cv ad)))
def o_pre (base : Nat) (D : va_G) (ad : Nat → Nat) (ca : Nat → ClassId) (M : o_M) (U : State) : Prop := o_wd base D U ad ca M U.heap ∧ o_cn base ad U ∧ o_nn U ∧ va_K D o_cl [] U ∧ base ≤ U.heap.size
def o_Q (base : Nat) (D : va_G) (ad : Nat → Nat) (L : List Nat) (Q : Option o_V → o_M → Prop) : Array Value → State → Outcome → State → Prop := fun _ st oc t =>
  (∃ (v : Option o_V) (M : o_M) (ad' : Nat → Nat) (ca : Nat → ClassId), oc = .returned (v.map (o_cv ad')) ∧ Q v M ∧ (∀ x ∈ v, o_lv (mL M) x) ∧ (∀ id, o_li L id → ad' id = ad id) ∧ (∀ id ∈ L, id ∈ mL M) ∧ o_wd base D t ad' ca M t.heap) ∧ va_F (o_A base) st t
def Ctr (l : Launch) (y : MethodName) (cc : ByteArray) (nL : Nat) (ret : Option FieldType) (d mc ms : Nat) (As : List o_V) (M : o_M) (Q : Option o_V → o_M → Prop) : Prop :=
  (∀ v ∈ As, o_lv (mL M) v) → ∀ (base : Nat) (D : va_G) (ad : Nat → Nat) (ca : Nat → ClassId), Met l y (.code y cc nL ret :: o_T) (o_rm d mc ms) (va_Pc (As.map (o_cv ad)) (o_pre base D ad ca M)) (o_Q base D ad (mL M) Q) mc ms (o_A base)
/-! moving what is said of a state to another one -/
theorem o_ac_moved {u U : State} (hvm : u.vm.Alike U.vm) {ca : Nat → ClassId} {id : Nat} (h : o_ac u ca id) : o_ac U ca id := fun t ht => ⟨arrOfT_moved hvm (h t ht).1, (h t ht).2.moved hvm⟩
theorem o_wd_moved {base : Nat} {D : va_G} {u U : State} {ad : Nat → Nat} {ca : Nat → ClassId} {M : o_M} {H : Heap} (hvm : u.vm.Alike U.vm) (h : o_wd base D u ad ca M H) : o_wd base D U ad ca M H := ⟨h.1, h.2.1, h.2.2.1, fun id hi => ⟨(h.2.2.2 id hi).1, o_ac_moved hvm (h.2.2.2 id hi).2⟩⟩
theorem o_cn_moved {base : Nat} {ad : Nat → Nat} {u U : State} (hW : u.WarmedH U.vm) (hq : ∀ a : Nat, a < u.heap.size → ¬ o_A base a → U.heap[a]? = u.heap[a]?) (h : o_cn base ad u) : o_cn base ad U := by
  have hvm := hW.alike
  obtain ⟨⟨a1, a2⟩, ⟨b1, b2, b3, b4⟩, ⟨c1, c2⟩⟩ := h
  refine ⟨⟨(a1.kept hq).moved hvm, (a2.kept hq).moved hvm⟩, ⟨vk_S.moved hvm (b1.kept hq), b2.warm hW, b3.warm hW, b4.warm hW⟩, ⟨(c1.kept hq).moved hvm, ?_⟩⟩
  rcases c2 with c2 | c2
  · exact Or.inl ((c2.kept hq).moved hvm)
  · exact Or.inr ((c2.kept hq).moved hvm)
theorem o_cn_ad {base : Nat} {ad ad' : Nat → Nat} {u : State} (he : ∀ i, i < 16 → ad' i = ad i) (h : o_cn base ad u) : o_cn base ad' u := by
  obtain ⟨⟨a1, a2⟩, ⟨b1, b2, b3, b4⟩, ⟨c1, c2⟩⟩ := h
  refine ⟨⟨by rw [he 0 (by decide)]; exact a1, by rw [he 0 (by decide)]; exact a2⟩, ⟨⟨fun i hi => ?_, fun i j hi hj => ?_⟩, by rw [he 1 (by decide)]; exact b2, by rw [he 2 (by decide)]; exact b3, by rw [he 3 (by decide)]; exact b4⟩, ⟨c1, by rw [he 7 (by decide)]; exact c2⟩⟩
  · have := b1.1 i hi
    dsimp only at this ⊢
    rw [he (1 + i) (by omega), he (4 + i) (by omega)]
    exact this
  · have := b1.2 i j hi hj
    dsimp only at this ⊢
    rw [he (1 + i) (by omega), he (1 + j) (by omega)]
    exact this
theorem o_sc_ad {base : Nat} {sc : Option (Nat × (Nat → Int32))} {ad ad' : Nat → Nat} {u : State} (he : ∀ i, i < 16 → ad' i = ad i) (h : o_sc base sc ad u) : o_sc base sc ad' u := by
  cases sc with
  | none => trivial
  | some q => unfold o_sc at h ⊢; dsimp only at h ⊢; rw [he 8 (by decide)]; exact h
theorem o_nw_warm {w : Cond} (hw : o_isN w = true) {s U : State} (hW : s.WarmedH U.vm) (h : va_Nw w s) : va_Nw w U := by
  cases w <;> first | exact va_Nw.warmF hW h | exact va_Nw.warmM hW h | exact va_Nw.warmC hW h | (cases hw)
theorem o_nn_moved {u U : State} (hW : u.WarmedH U.vm) (h : o_nn u) : o_nn U := ⟨fun w hw => o_nw_warm (List.mem_filter.mp hw).2 hW (h.1 w hw), fun C hC => (h.2 C hC).moved hW.alike⟩
theorem o_nw_same {w : Cond} (hw : o_isN w = true) {u U : State} (hv : u.vm = U.vm) (h : va_Nw w u) : va_Nw w U := by
  cases w <;> first | exact va_Nw.same rfl hv h | (cases hw)
/-- the same tables, the same heap -/
theorem o_pre_blind {base : Nat} {D : va_G} {ad : Nat → Nat} {ca : Nat → ClassId} {M : o_M} {u U : State} (hv : u.vm = U.vm) (hh : u.heap = U.heap) (h : o_pre base D ad ca M u) : o_pre base D ad ca M U := by
  have hal : u.vm.Alike U.vm := by rw [hv]; exact Vm.Alike.refl _
  have hq : ∀ a : Nat, a < u.heap.size → ¬ o_A base a → U.heap[a]? = u.heap[a]? := fun a _ _ => by rw [hh]
  obtain ⟨h1, ⟨⟨a1, a2⟩, ⟨b1, b2, b3, b4⟩, ⟨c1, c2⟩⟩, ⟨h3, h4⟩, h5, h6⟩ := h
  refine ⟨by rw [← hh]; exact o_wd_moved hal h1, ⟨⟨(a1.kept hq).moved hal, (a2.kept hq).moved hal⟩, ⟨vk_S.moved hal (b1.kept hq), b2.same hv.symm, b3.same hv.symm, b4.same hv.symm⟩, ⟨(c1.kept hq).moved hal, ?_⟩⟩, ⟨fun w hw => o_nw_same (List.mem_filter.mp hw).2 hv (h3 w hw), fun C hC => (h4 C hC).moved hal⟩, va_K.moved hal h5, by rw [← hh]; exact h6⟩
  rcases c2 with c2 | c2
  · exact Or.inl ((c2.kept hq).moved hal)
  · exact Or.inr ((c2.kept hq).moved hal)
