/-! OWN LAYER, 5: rules of Ev, an instruction each -/
section OR
variable {l : Launch} {sc : Option (Nat × (Nat → Int32))} {R : Room} {own : String} {cc : ByteArray} {nL : Nat} {ret : Option FieldType} {ini : Bool} {mc ms : Nat} {Q : Option o_V → o_M → Prop} {pc : Nat} {lv : List (Nat × o_V)} {st : List o_V} {M : o_M} {k n : Nat}
theorem q_s0 {L : List Nat} {v : o_V} (h : ∀ w ∈ v :: st, o_lv L w) : ∀ w ∈ st, o_lv L w := fun w hw => h w (List.mem_cons_of_mem _ hw)
theorem q_s1 {L : List Nat} {v : o_V} (hv : o_lv L v) (h : ∀ w ∈ st, o_lv L w) : ∀ w ∈ v :: st, o_lv L w := fun w hw => by
  rcases List.mem_cons.mp hw with rfl | h1
  · exact hv
  · exact h w h1
theorem q_sh {L : List Nat} {v : o_V} (h : ∀ w ∈ v :: st, o_lv L w) : o_lv L v := h v List.mem_cons_self
theorem e_iadd {x : Int32} {y : Int32}  (hdg : decode cc pc = .ok (.iadd, 1)) (kk : Ev l sc R own cc nL ret ini mc ms Q (pc + 1) lv (iV (x + y) :: st) M k n) : Ev l sc R own cc nL ret ini mc ms Q pc lv (iV y :: iV x :: st) M k n := by
  intro base p e s m args below meth c D Z ad0 L0 hcx hrt ad ca H locs ls hwd hS hcn hls hlv hst hag hsub
  exact lv_iadd hcx.1 hcx.2.1 hdg (kk base p e s m args below meth c D Z ad0 L0 hcx hrt ad ca H locs ls hwd hS hcn hls hlv (q_s1 (o_lv_i _ _) (q_s0 (q_s0 hst))) hag hsub)
theorem e_isub {x : Int32} {y : Int32}  (hdg : decode cc pc = .ok (.isub, 1)) (kk : Ev l sc R own cc nL ret ini mc ms Q (pc + 1) lv (iV (x - y) :: st) M k n) : Ev l sc R own cc nL ret ini mc ms Q pc lv (iV y :: iV x :: st) M k n := by
  intro base p e s m args below meth c D Z ad0 L0 hcx hrt ad ca H locs ls hwd hS hcn hls hlv hst hag hsub
  exact lv_isub hcx.1 hcx.2.1 hdg (kk base p e s m args below meth c D Z ad0 L0 hcx hrt ad ca H locs ls hwd hS hcn hls hlv (q_s1 (o_lv_i _ _) (q_s0 (q_s0 hst))) hag hsub)
theorem e_imul {x : Int32} {y : Int32}  (hdg : decode cc pc = .ok (.imul, 1)) (kk : Ev l sc R own cc nL ret ini mc ms Q (pc + 1) lv (iV (x * y) :: st) M k n) : Ev l sc R own cc nL ret ini mc ms Q pc lv (iV y :: iV x :: st) M k n := by
  intro base p e s m args below meth c D Z ad0 L0 hcx hrt ad ca H locs ls hwd hS hcn hls hlv hst hag hsub
  exact lv_imul hcx.1 hcx.2.1 hdg (kk base p e s m args below meth c D Z ad0 L0 hcx hrt ad ca H locs ls hwd hS hcn hls hlv (q_s1 (o_lv_i _ _) (q_s0 (q_s0 hst))) hag hsub)
theorem e_iand {x : Int32} {y : Int32}  (hdg : decode cc pc = .ok (.iand, 1)) (kk : Ev l sc R own cc nL ret ini mc ms Q (pc + 1) lv (iV (x &&& y) :: st) M k n) : Ev l sc R own cc nL ret ini mc ms Q pc lv (iV y :: iV x :: st) M k n := by
  intro base p e s m args below meth c D Z ad0 L0 hcx hrt ad ca H locs ls hwd hS hcn hls hlv hst hag hsub
  exact lv_iand hcx.1 hcx.2.1 hdg (kk base p e s m args below meth c D Z ad0 L0 hcx hrt ad ca H locs ls hwd hS hcn hls hlv (q_s1 (o_lv_i _ _) (q_s0 (q_s0 hst))) hag hsub)
theorem e_ior {x : Int32} {y : Int32}  (hdg : decode cc pc = .ok (.ior, 1)) (kk : Ev l sc R own cc nL ret ini mc ms Q (pc + 1) lv (iV (x ||| y) :: st) M k n) : Ev l sc R own cc nL ret ini mc ms Q pc lv (iV y :: iV x :: st) M k n := by
  intro base p e s m args below meth c D Z ad0 L0 hcx hrt ad ca H locs ls hwd hS hcn hls hlv hst hag hsub
  exact lv_ior hcx.1 hcx.2.1 hdg (kk base p e s m args below meth c D Z ad0 L0 hcx hrt ad ca H locs ls hwd hS hcn hls hlv (q_s1 (o_lv_i _ _) (q_s0 (q_s0 hst))) hag hsub)
theorem e_ixor {x : Int32} {y : Int32}  (hdg : decode cc pc = .ok (.ixor, 1)) (kk : Ev l sc R own cc nL ret ini mc ms Q (pc + 1) lv (iV (x ^^^ y) :: st) M k n) : Ev l sc R own cc nL ret ini mc ms Q pc lv (iV y :: iV x :: st) M k n := by
  intro base p e s m args below meth c D Z ad0 L0 hcx hrt ad ca H locs ls hwd hS hcn hls hlv hst hag hsub
  exact lv_ixor hcx.1 hcx.2.1 hdg (kk base p e s m args below meth c D Z ad0 L0 hcx hrt ad ca H locs ls hwd hS hcn hls hlv (q_s1 (o_lv_i _ _) (q_s0 (q_s0 hst))) hag hsub)
theorem e_ishl {x : Int32} {y : Int32}  (hdg : decode cc pc = .ok (.ishl, 1)) (kk : Ev l sc R own cc nL ret ini mc ms Q (pc + 1) lv (iV (x <<< (y &&& 31)) :: st) M k n) : Ev l sc R own cc nL ret ini mc ms Q pc lv (iV y :: iV x :: st) M k n := by
  intro base p e s m args below meth c D Z ad0 L0 hcx hrt ad ca H locs ls hwd hS hcn hls hlv hst hag hsub
  exact lv_ishl hcx.1 hcx.2.1 hdg (kk base p e s m args below meth c D Z ad0 L0 hcx hrt ad ca H locs ls hwd hS hcn hls hlv (q_s1 (o_lv_i _ _) (q_s0 (q_s0 hst))) hag hsub)
theorem e_ishr {x : Int32} {y : Int32}  (hdg : decode cc pc = .ok (.ishr, 1)) (kk : Ev l sc R own cc nL ret ini mc ms Q (pc + 1) lv (iV (x >>> (y &&& 31)) :: st) M k n) : Ev l sc R own cc nL ret ini mc ms Q pc lv (iV y :: iV x :: st) M k n := by
  intro base p e s m args below meth c D Z ad0 L0 hcx hrt ad ca H locs ls hwd hS hcn hls hlv hst hag hsub
  exact lv_ishr hcx.1 hcx.2.1 hdg (kk base p e s m args below meth c D Z ad0 L0 hcx hrt ad ca H locs ls hwd hS hcn hls hlv (q_s1 (o_lv_i _ _) (q_s0 (q_s0 hst))) hag hsub)
theorem e_ladd {x : Int64} {y : Int64}  (hdg : decode cc pc = .ok (.ladd, 1)) (kk : Ev l sc R own cc nL ret ini mc ms Q (pc + 1) lv (jV (x + y) :: st) M k n) : Ev l sc R own cc nL ret ini mc ms Q pc lv (jV y :: jV x :: st) M k n := by
  intro base p e s m args below meth c D Z ad0 L0 hcx hrt ad ca H locs ls hwd hS hcn hls hlv hst hag hsub
  exact lv_ladd hcx.1 hcx.2.1 hdg (kk base p e s m args below meth c D Z ad0 L0 hcx hrt ad ca H locs ls hwd hS hcn hls hlv (q_s1 (o_lv_j _ _) (q_s0 (q_s0 hst))) hag hsub)
theorem e_lsub {x : Int64} {y : Int64}  (hdg : decode cc pc = .ok (.lsub, 1)) (kk : Ev l sc R own cc nL ret ini mc ms Q (pc + 1) lv (jV (x - y) :: st) M k n) : Ev l sc R own cc nL ret ini mc ms Q pc lv (jV y :: jV x :: st) M k n := by
  intro base p e s m args below meth c D Z ad0 L0 hcx hrt ad ca H locs ls hwd hS hcn hls hlv hst hag hsub
  exact lv_lsub hcx.1 hcx.2.1 hdg (kk base p e s m args below meth c D Z ad0 L0 hcx hrt ad ca H locs ls hwd hS hcn hls hlv (q_s1 (o_lv_j _ _) (q_s0 (q_s0 hst))) hag hsub)
theorem e_lmul {x : Int64} {y : Int64}  (hdg : decode cc pc = .ok (.lmul, 1)) (kk : Ev l sc R own cc nL ret ini mc ms Q (pc + 1) lv (jV (x * y) :: st) M k n) : Ev l sc R own cc nL ret ini mc ms Q pc lv (jV y :: jV x :: st) M k n := by
  intro base p e s m args below meth c D Z ad0 L0 hcx hrt ad ca H locs ls hwd hS hcn hls hlv hst hag hsub
  exact lv_lmul hcx.1 hcx.2.1 hdg (kk base p e s m args below meth c D Z ad0 L0 hcx hrt ad ca H locs ls hwd hS hcn hls hlv (q_s1 (o_lv_j _ _) (q_s0 (q_s0 hst))) hag hsub)
theorem e_land {x : Int64} {y : Int64}  (hdg : decode cc pc = .ok (.land, 1)) (kk : Ev l sc R own cc nL ret ini mc ms Q (pc + 1) lv (jV (x &&& y) :: st) M k n) : Ev l sc R own cc nL ret ini mc ms Q pc lv (jV y :: jV x :: st) M k n := by
  intro base p e s m args below meth c D Z ad0 L0 hcx hrt ad ca H locs ls hwd hS hcn hls hlv hst hag hsub
  exact lv_land hcx.1 hcx.2.1 hdg (kk base p e s m args below meth c D Z ad0 L0 hcx hrt ad ca H locs ls hwd hS hcn hls hlv (q_s1 (o_lv_j _ _) (q_s0 (q_s0 hst))) hag hsub)
theorem e_lor {x : Int64} {y : Int64}  (hdg : decode cc pc = .ok (.lor, 1)) (kk : Ev l sc R own cc nL ret ini mc ms Q (pc + 1) lv (jV (x ||| y) :: st) M k n) : Ev l sc R own cc nL ret ini mc ms Q pc lv (jV y :: jV x :: st) M k n := by
  intro base p e s m args below meth c D Z ad0 L0 hcx hrt ad ca H locs ls hwd hS hcn hls hlv hst hag hsub
  exact lv_lor hcx.1 hcx.2.1 hdg (kk base p e s m args below meth c D Z ad0 L0 hcx hrt ad ca H locs ls hwd hS hcn hls hlv (q_s1 (o_lv_j _ _) (q_s0 (q_s0 hst))) hag hsub)
theorem e_lxor {x : Int64} {y : Int64}  (hdg : decode cc pc = .ok (.lxor, 1)) (kk : Ev l sc R own cc nL ret ini mc ms Q (pc + 1) lv (jV (x ^^^ y) :: st) M k n) : Ev l sc R own cc nL ret ini mc ms Q pc lv (jV y :: jV x :: st) M k n := by
  intro base p e s m args below meth c D Z ad0 L0 hcx hrt ad ca H locs ls hwd hS hcn hls hlv hst hag hsub
  exact lv_lxor hcx.1 hcx.2.1 hdg (kk base p e s m args below meth c D Z ad0 L0 hcx hrt ad ca H locs ls hwd hS hcn hls hlv (q_s1 (o_lv_j _ _) (q_s0 (q_s0 hst))) hag hsub)
theorem e_lcmp {x : Int64} {y : Int64}  (hdg : decode cc pc = .ok (.lcmp, 1)) (kk : Ev l sc R own cc nL ret ini mc ms Q (pc + 1) lv (iV (lg_cmp x y) :: st) M k n) : Ev l sc R own cc nL ret ini mc ms Q pc lv (jV y :: jV x :: st) M k n := by
  intro base p e s m args below meth c D Z ad0 L0 hcx hrt ad ca H locs ls hwd hS hcn hls hlv hst hag hsub
  exact W.lcmp hcx.1 hcx.2.1 hdg (kk base p e s m args below meth c D Z ad0 L0 hcx hrt ad ca H locs ls hwd hS hcn hls hlv (q_s1 (o_lv_i _ _) (q_s0 (q_s0 hst))) hag hsub)
theorem e_idiv {x : Int32} {y : Int32}  (hdg : decode cc pc = .ok (.idiv, 1)) (hne : ¬ y = 0) (kk : Ev l sc R own cc nL ret ini mc ms Q (pc + 1) lv (iV (x / y) :: st) M k n) : Ev l sc R own cc nL ret ini mc ms Q pc lv (iV y :: iV x :: st) M k n := by
  intro base p e s m args below meth c D Z ad0 L0 hcx hrt ad ca H locs ls hwd hS hcn hls hlv hst hag hsub
  exact lv_idiv hcx.1 hcx.2.1 hdg hne (kk base p e s m args below meth c D Z ad0 L0 hcx hrt ad ca H locs ls hwd hS hcn hls hlv (q_s1 (o_lv_i _ _) (q_s0 (q_s0 hst))) hag hsub)
theorem e_irem {x : Int32} {y : Int32}  (hdg : decode cc pc = .ok (.irem, 1)) (hne : ¬ y = 0) (kk : Ev l sc R own cc nL ret ini mc ms Q (pc + 1) lv (iV (x - x / y * y) :: st) M k n) : Ev l sc R own cc nL ret ini mc ms Q pc lv (iV y :: iV x :: st) M k n := by
  intro base p e s m args below meth c D Z ad0 L0 hcx hrt ad ca H locs ls hwd hS hcn hls hlv hst hag hsub
  exact lv_irem hcx.1 hcx.2.1 hdg hne (kk base p e s m args below meth c D Z ad0 L0 hcx hrt ad ca H locs ls hwd hS hcn hls hlv (q_s1 (o_lv_i _ _) (q_s0 (q_s0 hst))) hag hsub)
theorem e_ldiv {x : Int64} {y : Int64}  (hdg : decode cc pc = .ok (.ldiv, 1)) (hne : ¬ y = 0) (kk : Ev l sc R own cc nL ret ini mc ms Q (pc + 1) lv (jV (x / y) :: st) M k n) : Ev l sc R own cc nL ret ini mc ms Q pc lv (jV y :: jV x :: st) M k n := by
  intro base p e s m args below meth c D Z ad0 L0 hcx hrt ad ca H locs ls hwd hS hcn hls hlv hst hag hsub
  exact lv_ldiv hcx.1 hcx.2.1 hdg hne (kk base p e s m args below meth c D Z ad0 L0 hcx hrt ad ca H locs ls hwd hS hcn hls hlv (q_s1 (o_lv_j _ _) (q_s0 (q_s0 hst))) hag hsub)
theorem e_ineg {x : Int32}  (hdg : decode cc pc = .ok (.ineg, 1)) (kk : Ev l sc R own cc nL ret ini mc ms Q (pc + 1) lv (iV (-x) :: st) M k n) : Ev l sc R own cc nL ret ini mc ms Q pc lv (iV x :: st) M k n := by
  intro base p e s m args below meth c D Z ad0 L0 hcx hrt ad ca H locs ls hwd hS hcn hls hlv hst hag hsub
  exact lv_ineg hcx.1 hcx.2.1 hdg (kk base p e s m args below meth c D Z ad0 L0 hcx hrt ad ca H locs ls hwd hS hcn hls hlv (q_s1 (o_lv_i _ _) (q_s0 hst)) hag hsub)
theorem e_lneg {x : Int64}  (hdg : decode cc pc = .ok (.lneg, 1)) (kk : Ev l sc R own cc nL ret ini mc ms Q (pc + 1) lv (jV (-x) :: st) M k n) : Ev l sc R own cc nL ret ini mc ms Q pc lv (jV x :: st) M k n := by
  intro base p e s m args below meth c D Z ad0 L0 hcx hrt ad ca H locs ls hwd hS hcn hls hlv hst hag hsub
  exact lv_lneg hcx.1 hcx.2.1 hdg (kk base p e s m args below meth c D Z ad0 L0 hcx hrt ad ca H locs ls hwd hS hcn hls hlv (q_s1 (o_lv_j _ _) (q_s0 hst)) hag hsub)
theorem e_lshl {x : Int64} {y : Int32}  (hdg : decode cc pc = .ok (.lshl, 1)) (kk : Ev l sc R own cc nL ret ini mc ms Q (pc + 1) lv (jV (x <<< (y.toInt64 &&& 63)) :: st) M k n) : Ev l sc R own cc nL ret ini mc ms Q pc lv (iV y :: jV x :: st) M k n := by
  intro base p e s m args below meth c D Z ad0 L0 hcx hrt ad ca H locs ls hwd hS hcn hls hlv hst hag hsub
  exact lv_lshl hcx.1 hcx.2.1 hdg rfl (kk base p e s m args below meth c D Z ad0 L0 hcx hrt ad ca H locs ls hwd hS hcn hls hlv (q_s1 (o_lv_j _ _) (q_s0 (q_s0 hst))) hag hsub)
theorem e_lshr {x : Int64} {y : Int32}  (hdg : decode cc pc = .ok (.lshr, 1)) (kk : Ev l sc R own cc nL ret ini mc ms Q (pc + 1) lv (jV (x >>> (y.toInt64 &&& 63)) :: st) M k n) : Ev l sc R own cc nL ret ini mc ms Q pc lv (iV y :: jV x :: st) M k n := by
  intro base p e s m args below meth c D Z ad0 L0 hcx hrt ad ca H locs ls hwd hS hcn hls hlv hst hag hsub
  exact lv_lshr hcx.1 hcx.2.1 hdg rfl (kk base p e s m args below meth c D Z ad0 L0 hcx hrt ad ca H locs ls hwd hS hcn hls hlv (q_s1 (o_lv_j _ _) (q_s0 (q_s0 hst))) hag hsub)
theorem e_i2l {x : Int32}  (hdg : decode cc pc = .ok (.i2l, 1)) (kk : Ev l sc R own cc nL ret ini mc ms Q (pc + 1) lv (jV (x.toInt64) :: st) M k n) : Ev l sc R own cc nL ret ini mc ms Q pc lv (iV x :: st) M k n := by
  intro base p e s m args below meth c D Z ad0 L0 hcx hrt ad ca H locs ls hwd hS hcn hls hlv hst hag hsub
  exact lv_i2l hcx.1 hcx.2.1 hdg rfl (kk base p e s m args below meth c D Z ad0 L0 hcx hrt ad ca H locs ls hwd hS hcn hls hlv (q_s1 (o_lv_j _ _) (q_s0 hst)) hag hsub)
theorem e_l2i {x : Int64}  (hdg : decode cc pc = .ok (.l2i, 1)) (kk : Ev l sc R own cc nL ret ini mc ms Q (pc + 1) lv (iV (x.toInt32) :: st) M k n) : Ev l sc R own cc nL ret ini mc ms Q pc lv (jV x :: st) M k n := by
  intro base p e s m args below meth c D Z ad0 L0 hcx hrt ad ca H locs ls hwd hS hcn hls hlv hst hag hsub
  exact lv_l2i hcx.1 hcx.2.1 hdg rfl (kk base p e s m args below meth c D Z ad0 L0 hcx hrt ad ca H locs ls hwd hS hcn hls hlv (q_s1 (o_lv_i _ _) (q_s0 hst)) hag hsub)
theorem e_i2b {x : Int32}  (hdg : decode cc pc = .ok (.i2b, 1)) (kk : Ev l sc R own cc nL ret ini mc ms Q (pc + 1) lv (iV (x.toInt8.toInt32) :: st) M k n) : Ev l sc R own cc nL ret ini mc ms Q pc lv (iV x :: st) M k n := by
  intro base p e s m args below meth c D Z ad0 L0 hcx hrt ad ca H locs ls hwd hS hcn hls hlv hst hag hsub
  exact lv_i2b hcx.1 hcx.2.1 hdg rfl (kk base p e s m args below meth c D Z ad0 L0 hcx hrt ad ca H locs ls hwd hS hcn hls hlv (q_s1 (o_lv_i _ _) (q_s0 hst)) hag hsub)
theorem e_i2c {x : Int32}  (hdg : decode cc pc = .ok (.i2c, 1)) (kk : Ev l sc R own cc nL ret ini mc ms Q (pc + 1) lv (iV ((x.toUInt32 % 65536).toInt32) :: st) M k n) : Ev l sc R own cc nL ret ini mc ms Q pc lv (iV x :: st) M k n := by
  intro base p e s m args below meth c D Z ad0 L0 hcx hrt ad ca H locs ls hwd hS hcn hls hlv hst hag hsub
  exact lv_i2c hcx.1 hcx.2.1 hdg rfl (kk base p e s m args below meth c D Z ad0 L0 hcx hrt ad ca H locs ls hwd hS hcn hls hlv (q_s1 (o_lv_i _ _) (q_s0 hst)) hag hsub)
theorem e_iconst  {c0 : Int} {v : Int32} (hdg : decode cc pc = .ok (.iconst c0, 1)) (hv : Int32.ofInt c0 = v) (kk : Ev l sc R own cc nL ret ini mc ms Q (pc + 1) lv (iV (v) :: st) M k n) : Ev l sc R own cc nL ret ini mc ms Q pc lv st M k n := by
  intro base p e s m args below meth c D Z ad0 L0 hcx hrt ad ca H locs ls hwd hS hcn hls hlv hst hag hsub
  exact lv_iconst hcx.1 hcx.2.1 hdg hv (kk base p e s m args below meth c D Z ad0 L0 hcx hrt ad ca H locs ls hwd hS hcn hls hlv (q_s1 (o_lv_i _ _) hst) hag hsub)
theorem e_bipush  {c0 : Int} {v : Int32} (hdg : decode cc pc = .ok (.bipush c0, 2)) (hv : (Int8.ofInt c0).toInt32 = v) (kk : Ev l sc R own cc nL ret ini mc ms Q (pc + 2) lv (iV (v) :: st) M k n) : Ev l sc R own cc nL ret ini mc ms Q pc lv st M k n := by
  intro base p e s m args below meth c D Z ad0 L0 hcx hrt ad ca H locs ls hwd hS hcn hls hlv hst hag hsub
  exact lv_bipush hcx.1 hcx.2.1 hdg hv (kk base p e s m args below meth c D Z ad0 L0 hcx hrt ad ca H locs ls hwd hS hcn hls hlv (q_s1 (o_lv_i _ _) hst) hag hsub)
theorem e_sipush  {c0 : Int} {v : Int32} (hdg : decode cc pc = .ok (.sipush c0, 3)) (hv : (Int16.ofInt c0).toInt32 = v) (kk : Ev l sc R own cc nL ret ini mc ms Q (pc + 3) lv (iV (v) :: st) M k n) : Ev l sc R own cc nL ret ini mc ms Q pc lv st M k n := by
  intro base p e s m args below meth c D Z ad0 L0 hcx hrt ad ca H locs ls hwd hS hcn hls hlv hst hag hsub
  exact lv_sipush hcx.1 hcx.2.1 hdg hv (kk base p e s m args below meth c D Z ad0 L0 hcx hrt ad ca H locs ls hwd hS hcn hls hlv (q_s1 (o_lv_i _ _) hst) hag hsub)
theorem e_lconst  {c0 : Fin 2} {v : Int64} (hdg : decode cc pc = .ok (.lconst c0, 1)) (hv : Int64.ofNat (c0 : Nat) = v) (kk : Ev l sc R own cc nL ret ini mc ms Q (pc + 1) lv (jV (v) :: st) M k n) : Ev l sc R own cc nL ret ini mc ms Q pc lv st M k n := by
  intro base p e s m args below meth c D Z ad0 L0 hcx hrt ad ca H locs ls hwd hS hcn hls hlv hst hag hsub
  exact lv_lconst hcx.1 hcx.2.1 hdg hv (kk base p e s m args below meth c D Z ad0 L0 hcx hrt ad ca H locs ls hwd hS hcn hls hlv (q_s1 (o_lv_j _ _) hst) hag hsub)
theorem e_ldc {index : Nat} {v : Int32} (hw : Cond.constant own index v ∈ o_T) (hdg : decode cc pc = .ok (.ldc index, 2)) (kk : Ev l sc R own cc nL ret ini mc ms Q (pc + 2) lv (iV v :: st) M k n) : Ev l sc R own cc nL ret ini mc ms Q pc lv st M k n := by
  intro base p e s m args below meth c D Z ad0 L0 hcx hrt ad ca H locs ls hwd hS hcn hls hlv hst hag hsub
  exact lv_ldc hcx.1 hcx.2.1 hcx.2.2.2.2.1 (hcx.2.2.2.2.2.2.1 _ hw) hdg (kk base p e s m args below meth c D Z ad0 L0 hcx hrt ad ca H locs ls hwd hS hcn hls hlv (q_s1 (o_lv_i _ _) hst) hag hsub)
theorem e_ldc2 {index : Nat} {v : Int64} (hw : Cond.constantLong own index v ∈ o_T) (hdg : decode cc pc = .ok (.ldc2_w index, 3)) (kk : Ev l sc R own cc nL ret ini mc ms Q (pc + 3) lv (jV v :: st) M k n) : Ev l sc R own cc nL ret ini mc ms Q pc lv st M k n := by
  intro base p e s m args below meth c D Z ad0 L0 hcx hrt ad ca H locs ls hwd hS hcn hls hlv hst hag hsub
  exact lv_ldc2 hcx.1 hcx.2.1 hcx.2.2.2.2.1 (hcx.2.2.2.2.2.2.1 _ hw) hdg (kk base p e s m args below meth c D Z ad0 L0 hcx hrt ad ca H locs ls hwd hS hcn hls hlv (q_s1 (o_lv_j _ _) hst) hag hsub)
theorem e_null (hdg : decode cc pc = .ok (.aconst_null, 1)) (kk : Ev l sc R own cc nL ret ini mc ms Q (pc + 1) lv (rV none :: st) M k n) : Ev l sc R own cc nL ret ini mc ms Q pc lv st M k n := by
  intro base p e s m args below meth c D Z ad0 L0 hcx hrt ad ca H locs ls hwd hS hcn hls hlv hst hag hsub
  exact lv_null hcx.1 hcx.2.1 hdg (kk base p e s m args below meth c D Z ad0 L0 hcx hrt ad ca H locs ls hwd hS hcn hls hlv (q_s1 (o_lv_n _) hst) hag hsub)
theorem o_ld {ad : Nat → Nat} {ls : Array Slot} {i : Nat} {v : o_V} (hl : lv_has ls nL (lv.map fun q => (q.1, o_cv ad q.2))) (h : (i, v) ∈ lv) : ls[i]? = some (.val (o_cv ad v)) := hl.2.2 (i, o_cv ad v) (List.mem_map.mpr ⟨(i, v), h, rfl⟩)
def o_lu : List (Nat × o_V) → Nat → Option o_V
  | [], _ => none
  | (j, v) :: t, i => match Nat.beq j i with
    | true => some v
    | false => o_lu t i
theorem o_lu_mem : ∀ {lv : List (Nat × o_V)} {i : Nat} {v : o_V}, o_lu lv i = some v → (i, v) ∈ lv
  | [], i, v, h => by cases h
  | (j, w) :: t, i, v, h => by
    unfold o_lu at h
    split at h
    · next hb =>
      have : j = i := Nat.eq_of_beq_eq_true hb
      cases h; subst this; exact List.mem_cons_self
    · exact List.mem_cons_of_mem _ (o_lu_mem h)
theorem e_iload {i : Nat} {x : Int32} (hl : o_lu lv i = some (iV x)) (hdg : decode cc pc = .ok (.iload i, 2)) (kk : Ev l sc R own cc nL ret ini mc ms Q (pc + 2) lv (iV x :: st) M k n) : Ev l sc R own cc nL ret ini mc ms Q pc lv st M k n := by
  intro base p e s m args below meth c D Z ad0 L0 hcx hrt ad ca H locs ls hwd hS hcn hls hlv hst hag hsub
  exact lv_iload hcx.1 hcx.2.1 hdg (o_ld hls (o_lu_mem hl)) (kk base p e s m args below meth c D Z ad0 L0 hcx hrt ad ca H locs ls hwd hS hcn hls hlv (q_s1 (hlv _ (o_lu_mem hl)) hst) hag hsub)
theorem e_iload_n {j : Fin 4} {i : Nat} {x : Int32} (hdg : decode cc pc = .ok (.iload_n j, 1)) (hi : (j : Nat) = i) (hl : o_lu lv i = some (iV x)) (kk : Ev l sc R own cc nL ret ini mc ms Q (pc + 1) lv (iV x :: st) M k n) : Ev l sc R own cc nL ret ini mc ms Q pc lv st M k n := by
  intro base p e s m args below meth c D Z ad0 L0 hcx hrt ad ca H locs ls hwd hS hcn hls hlv hst hag hsub
  exact lv_iload_n hcx.1 hcx.2.1 hdg hi (o_ld hls (o_lu_mem hl)) (kk base p e s m args below meth c D Z ad0 L0 hcx hrt ad ca H locs ls hwd hS hcn hls hlv (q_s1 (hlv _ (o_lu_mem hl)) hst) hag hsub)
theorem e_lload {i : Nat} {x : Int64} (hl : o_lu lv i = some (jV x)) (hdg : decode cc pc = .ok (.lload i, 2)) (kk : Ev l sc R own cc nL ret ini mc ms Q (pc + 2) lv (jV x :: st) M k n) : Ev l sc R own cc nL ret ini mc ms Q pc lv st M k n := by
  intro base p e s m args below meth c D Z ad0 L0 hcx hrt ad ca H locs ls hwd hS hcn hls hlv hst hag hsub
  exact lv_lload hcx.1 hcx.2.1 hdg (o_ld hls (o_lu_mem hl)) (kk base p e s m args below meth c D Z ad0 L0 hcx hrt ad ca H locs ls hwd hS hcn hls hlv (q_s1 (hlv _ (o_lu_mem hl)) hst) hag hsub)
theorem e_lload_n {j : Fin 4} {i : Nat} {x : Int64} (hdg : decode cc pc = .ok (.lload_n j, 1)) (hi : (j : Nat) = i) (hl : o_lu lv i = some (jV x)) (kk : Ev l sc R own cc nL ret ini mc ms Q (pc + 1) lv (jV x :: st) M k n) : Ev l sc R own cc nL ret ini mc ms Q pc lv st M k n := by
  intro base p e s m args below meth c D Z ad0 L0 hcx hrt ad ca H locs ls hwd hS hcn hls hlv hst hag hsub
  exact lv_lload_n hcx.1 hcx.2.1 hdg hi (o_ld hls (o_lu_mem hl)) (kk base p e s m args below meth c D Z ad0 L0 hcx hrt ad ca H locs ls hwd hS hcn hls hlv (q_s1 (hlv _ (o_lu_mem hl)) hst) hag hsub)
theorem e_aload {i : Nat} {x : Option Nat} (hl : o_lu lv i = some (rV x)) (hdg : decode cc pc = .ok (.aload i, 2)) (kk : Ev l sc R own cc nL ret ini mc ms Q (pc + 2) lv (rV x :: st) M k n) : Ev l sc R own cc nL ret ini mc ms Q pc lv st M k n := by
  intro base p e s m args below meth c D Z ad0 L0 hcx hrt ad ca H locs ls hwd hS hcn hls hlv hst hag hsub
  have hk := (kk base p e s m args below meth c D Z ad0 L0 hcx hrt ad ca H locs ls hwd hS hcn hls hlv (q_s1 (hlv _ (o_lu_mem hl)) hst) hag hsub)
  have h1 := o_ld hls (o_lu_mem hl)
  cases x with
  | none => exact lv_aloadN hcx.1 hcx.2.1 hdg h1 hk
  | some a => exact lv_aload hcx.1 hcx.2.1 hdg h1 hk
theorem e_aload_n {j : Fin 4} {i : Nat} {x : Option Nat} (hdg : decode cc pc = .ok (.aload_n j, 1)) (hi : (j : Nat) = i) (hl : o_lu lv i = some (rV x)) (kk : Ev l sc R own cc nL ret ini mc ms Q (pc + 1) lv (rV x :: st) M k n) : Ev l sc R own cc nL ret ini mc ms Q pc lv st M k n := by
  intro base p e s m args below meth c D Z ad0 L0 hcx hrt ad ca H locs ls hwd hS hcn hls hlv hst hag hsub
  have hk := (kk base p e s m args below meth c D Z ad0 L0 hcx hrt ad ca H locs ls hwd hS hcn hls hlv (q_s1 (hlv _ (o_lu_mem hl)) hst) hag hsub)
  have h1 := o_ld hls (o_lu_mem hl)
  cases x with
  | none => exact lv_aload_nN hcx.1 hcx.2.1 hdg hi h1 hk
  | some a => exact lv_aload_n hcx.1 hcx.2.1 hdg hi h1 hk
def o_st1 (i : Nat) (v : o_V) (lv : List (Nat × o_V)) : List (Nat × o_V) := (i, v) :: lv.filter (fun q => !(q.1 == i) && !(q.1 + 1 == i && o_cat q.2 == 2))
def o_st2 (i : Nat) (v : o_V) (lv : List (Nat × o_V)) : List (Nat × o_V) := (i, v) :: lv.filter (fun q => !(q.1 == i) && (!(q.1 == i + 1) && !(q.1 + 1 == i && o_cat q.2 == 2)))
theorem o_st1_map (ad : Nat → Nat) (i : Nat) (v : o_V) (lv : List (Nat × o_V)) : (i, o_cv ad v) :: (lv.map fun q => (q.1, o_cv ad q.2)).filter (fun q => !(q.1 == i) && !(q.1 + 1 == i && q.2.category == 2)) = (o_st1 i v lv).map fun q => (q.1, o_cv ad q.2) := by
  simp only [o_st1, List.map_cons, List.filter_map, Function.comp_def, o_cv_cat]
theorem o_st2_map (ad : Nat → Nat) (i : Nat) (v : o_V) (lv : List (Nat × o_V)) : (i, o_cv ad v) :: (lv.map fun q => (q.1, o_cv ad q.2)).filter (fun q => !(q.1 == i) && (!(q.1 == i + 1) && !(q.1 + 1 == i && q.2.category == 2))) = (o_st2 i v lv).map fun q => (q.1, o_cv ad q.2) := by
  simp only [o_st2, List.map_cons, List.filter_map, Function.comp_def, o_cv_cat]
theorem o_st1_lv {L : List Nat} {i : Nat} {v : o_V} (hv : o_lv L v) (h : ∀ q ∈ lv, o_lv L q.2) : ∀ q ∈ o_st1 i v lv, o_lv L q.2 := fun q hq => by
  rcases List.mem_cons.mp hq with rfl | h1
  · exact hv
  · exact h q (List.mem_filter.mp h1).1
theorem o_st2_lv {L : List Nat} {i : Nat} {v : o_V} (hv : o_lv L v) (h : ∀ q ∈ lv, o_lv L q.2) : ∀ q ∈ o_st2 i v lv, o_lv L q.2 := fun q hq => by
  rcases List.mem_cons.mp hq with rfl | h1
  · exact hv
  · exact h q (List.mem_filter.mp h1).1
theorem e_istore {i : Nat} {x : Int32} {lv' : List (Nat × o_V)} (hn : i < nL) (hl : o_st1 i (iV x) lv = lv') (hdg : decode cc pc = .ok (.istore i, 2)) (kk : Ev l sc R own cc nL ret ini mc ms Q (pc + 2) lv' st M k n) : Ev l sc R own cc nL ret ini mc ms Q pc lv (iV x :: st) M k n := by
  subst hl
  intro base p e s m args below meth c D Z ad0 L0 hcx hrt ad ca H locs ls hwd hS hcn hls hlv hst hag hsub
  exact lv_istore hcx.1 hcx.2.1 hdg hls hn (o_st1_map ad i (iV x) lv) (fun ls' hl' => kk base p e s m args below meth c D Z ad0 L0 hcx hrt ad ca H locs ls' hwd hS hcn hl' (o_st1_lv (q_sh hst) hlv) (q_s0 hst) hag hsub)
theorem e_istore_n {j : Fin 4} {i : Nat} {x : Int32} {lv' : List (Nat × o_V)} (hdg : decode cc pc = .ok (.istore_n j, 1)) (hi : (j : Nat) = i) (hn : i < nL) (hl : o_st1 i (iV x) lv = lv') (kk : Ev l sc R own cc nL ret ini mc ms Q (pc + 1) lv' st M k n) : Ev l sc R own cc nL ret ini mc ms Q pc lv (iV x :: st) M k n := by
  subst hl
  intro base p e s m args below meth c D Z ad0 L0 hcx hrt ad ca H locs ls hwd hS hcn hls hlv hst hag hsub
  exact lv_istore_n hcx.1 hcx.2.1 hdg hi hls hn (o_st1_map ad i (iV x) lv) (fun ls' hl' => kk base p e s m args below meth c D Z ad0 L0 hcx hrt ad ca H locs ls' hwd hS hcn hl' (o_st1_lv (q_sh hst) hlv) (q_s0 hst) hag hsub)
theorem e_lstore {i : Nat} {x : Int64} {lv' : List (Nat × o_V)} (hn : i + 1 < nL) (hl : o_st2 i (jV x) lv = lv') (hdg : decode cc pc = .ok (.lstore i, 2)) (kk : Ev l sc R own cc nL ret ini mc ms Q (pc + 2) lv' st M k n) : Ev l sc R own cc nL ret ini mc ms Q pc lv (jV x :: st) M k n := by
  subst hl
  intro base p e s m args below meth c D Z ad0 L0 hcx hrt ad ca H locs ls hwd hS hcn hls hlv hst hag hsub
  exact lv_lstore hcx.1 hcx.2.1 hdg hls hn (o_st2_map ad i (jV x) lv) (fun ls' hl' => kk base p e s m args below meth c D Z ad0 L0 hcx hrt ad ca H locs ls' hwd hS hcn hl' (o_st2_lv (q_sh hst) hlv) (q_s0 hst) hag hsub)
theorem e_lstore_n {j : Fin 4} {i : Nat} {x : Int64} {lv' : List (Nat × o_V)} (hdg : decode cc pc = .ok (.lstore_n j, 1)) (hi : (j : Nat) = i) (hn : i + 1 < nL) (hl : o_st2 i (jV x) lv = lv') (kk : Ev l sc R own cc nL ret ini mc ms Q (pc + 1) lv' st M k n) : Ev l sc R own cc nL ret ini mc ms Q pc lv (jV x :: st) M k n := by
  subst hl
  intro base p e s m args below meth c D Z ad0 L0 hcx hrt ad ca H locs ls hwd hS hcn hls hlv hst hag hsub
  exact lv_lstore_n hcx.1 hcx.2.1 hdg hi hls hn (o_st2_map ad i (jV x) lv) (fun ls' hl' => kk base p e s m args below meth c D Z ad0 L0 hcx hrt ad ca H locs ls' hwd hS hcn hl' (o_st2_lv (q_sh hst) hlv) (q_s0 hst) hag hsub)
theorem e_astore {i : Nat} {x : Option Nat} {lv' : List (Nat × o_V)} (hn : i < nL) (hl : o_st1 i (rV x) lv = lv') (hdg : decode cc pc = .ok (.astore i, 2)) (kk : Ev l sc R own cc nL ret ini mc ms Q (pc + 2) lv' st M k n) : Ev l sc R own cc nL ret ini mc ms Q pc lv (rV x :: st) M k n := by
  subst hl
  intro base p e s m args below meth c D Z ad0 L0 hcx hrt ad ca H locs ls hwd hS hcn hls hlv hst hag hsub
  have hm := o_st1_map ad i (rV x) lv
  have hk : ∀ ls' : Array Slot, lv_has ls' nL ((o_st1 i (rV x) lv).map fun q => (q.1, o_cv ad q.2)) → _ := fun ls' hl' => kk base p e s m args below meth c D Z ad0 L0 hcx hrt ad ca H locs ls' hwd hS hcn hl' (o_st1_lv (q_sh hst) hlv) (q_s0 hst) hag hsub
  cases x with
  | none => exact lv_astoreN hcx.1 hcx.2.1 hdg hls hn hm hk
  | some a => exact lv_astore hcx.1 hcx.2.1 hdg hls hn hm hk
theorem e_astore_n {j : Fin 4} {i : Nat} {x : Option Nat} {lv' : List (Nat × o_V)} (hdg : decode cc pc = .ok (.astore_n j, 1)) (hi : (j : Nat) = i) (hn : i < nL) (hl : o_st1 i (rV x) lv = lv') (kk : Ev l sc R own cc nL ret ini mc ms Q (pc + 1) lv' st M k n) : Ev l sc R own cc nL ret ini mc ms Q pc lv (rV x :: st) M k n := by
  subst hl
  intro base p e s m args below meth c D Z ad0 L0 hcx hrt ad ca H locs ls hwd hS hcn hls hlv hst hag hsub
  have hm := o_st1_map ad i (rV x) lv
  have hk : ∀ ls' : Array Slot, lv_has ls' nL ((o_st1 i (rV x) lv).map fun q => (q.1, o_cv ad q.2)) → _ := fun ls' hl' => kk base p e s m args below meth c D Z ad0 L0 hcx hrt ad ca H locs ls' hwd hS hcn hl' (o_st1_lv (q_sh hst) hlv) (q_s0 hst) hag hsub
  cases x with
  | none => exact lv_astore_nN hcx.1 hcx.2.1 hdg hi hls hn hm hk
  | some a => exact lv_astore_n hcx.1 hcx.2.1 hdg hi hls hn hm hk
theorem e_iinc {i : Nat} {c0 : Int} {x v : Int32} {lv' : List (Nat × o_V)} (hlu : o_lu lv i = some (iV x)) (hv : Int32.ofInt c0 = v) (hn : i < nL) (hl : o_st1 i (iV (x + v)) lv = lv') (hdg : decode cc pc = .ok (.iinc i c0, 3)) (kk : Ev l sc R own cc nL ret ini mc ms Q (pc + 3) lv' st M k n) : Ev l sc R own cc nL ret ini mc ms Q pc lv st M k n := by
  subst hl; subst hv
  intro base p e s m args below meth c D Z ad0 L0 hcx hrt ad ca H locs ls hwd hS hcn hls hlv hst hag hsub
  obtain ⟨q, hq⟩ := List.getElem?_of_mem (o_lu_mem hlu)
  exact lv_iinc (x := x) (k := q) hcx.1 hcx.2.1 hdg hls (by rw [List.getElem?_map, hq]; rfl) rfl hn (o_st1_map ad i (iV (x + Int32.ofInt c0)) lv) (fun ls' hl' => kk base p e s m args below meth c D Z ad0 L0 hcx hrt ad ca H locs ls' hwd hS hcn hl' (o_st1_lv (o_lv_i _ _) hlv) hst hag hsub)
theorem e_dup {v : o_V} (hc : o_cat v = 1) (hdg : decode cc pc = .ok (.dup, 1)) (kk : Ev l sc R own cc nL ret ini mc ms Q (pc + 1) lv (v :: v :: st) M k n) : Ev l sc R own cc nL ret ini mc ms Q pc lv (v :: st) M k n := by
  intro base p e s m args below meth c D Z ad0 L0 hcx hrt ad ca H locs ls hwd hS hcn hls hlv hst hag hsub
  exact lv_dup hcx.1 hcx.2.1 hdg ((o_cv_cat ad v).trans hc) (kk base p e s m args below meth c D Z ad0 L0 hcx hrt ad ca H locs ls hwd hS hcn hls hlv (q_s1 (q_sh hst) hst) hag hsub)
theorem e_pop {v : o_V} (hc : o_cat v = 1) (hdg : decode cc pc = .ok (.pop, 1)) (kk : Ev l sc R own cc nL ret ini mc ms Q (pc + 1) lv st M k n) : Ev l sc R own cc nL ret ini mc ms Q pc lv (v :: st) M k n := by
  intro base p e s m args below meth c D Z ad0 L0 hcx hrt ad ca H locs ls hwd hS hcn hls hlv hst hag hsub
  exact lv_pop hcx.1 hcx.2.1 hdg ((o_cv_cat ad v).trans hc) (kk base p e s m args below meth c D Z ad0 L0 hcx hrt ad ca H locs ls hwd hS hcn hls hlv (q_s0 hst) hag hsub)
theorem e_dup2 {v w : o_V} (hc : o_cat v = 1) (hd : o_cat w = 1) (hdg : decode cc pc = .ok (.dup2, 1)) (kk : Ev l sc R own cc nL ret ini mc ms Q (pc + 1) lv (v :: w :: v :: w :: st) M k n) : Ev l sc R own cc nL ret ini mc ms Q pc lv (v :: w :: st) M k n := by
  intro base p e s m args below meth c D Z ad0 L0 hcx hrt ad ca H locs ls hwd hS hcn hls hlv hst hag hsub
  exact lv_dup2_11 hcx.1 hcx.2.1 hdg ((o_cv_cat ad v).trans hc) ((o_cv_cat ad w).trans hd) (kk base p e s m args below meth c D Z ad0 L0 hcx hrt ad ca H locs ls hwd hS hcn hls hlv (q_s1 (q_sh hst) (q_s1 (q_sh (q_s0 hst)) hst)) hag hsub)
theorem e_dup_x1 {v w : o_V} (hc : o_cat v = 1) (hd : o_cat w = 1) (hdg : decode cc pc = .ok (.dup_x1, 1)) (kk : Ev l sc R own cc nL ret ini mc ms Q (pc + 1) lv (v :: w :: v :: st) M k n) : Ev l sc R own cc nL ret ini mc ms Q pc lv (v :: w :: st) M k n := by
  intro base p e s m args below meth c D Z ad0 L0 hcx hrt ad ca H locs ls hwd hS hcn hls hlv hst hag hsub
  exact lv_dup_x1 hcx.1 hcx.2.1 hdg ((o_cv_cat ad v).trans hc) ((o_cv_cat ad w).trans hd) (kk base p e s m args below meth c D Z ad0 L0 hcx hrt ad ca H locs ls hwd hS hcn hls hlv (q_s1 (q_sh hst) (q_s1 (q_sh (q_s0 hst)) (q_s1 (q_sh hst) (q_s0 (q_s0 hst))))) hag hsub)
theorem e_if_eq {x : Int32} {off : Int} {tgt : Nat} (hdg : decode cc pc = .ok (.ifCond .eq off, 3)) (ht : (pc : Int) + off = (tgt : Int)) (kt : x = 0 → Ev l sc R own cc nL ret ini mc ms Q tgt lv st M k n) (kf : ¬ x = 0 → Ev l sc R own cc nL ret ini mc ms Q (pc + 3) lv st M k n) : Ev l sc R own cc nL ret ini mc ms Q pc lv (iV x :: st) M k n := by
  intro base p e s m args below meth c D Z ad0 L0 hcx hrt ad ca H locs ls hwd hS hcn hls hlv hst hag hsub
  exact lv_if_eq hcx.1 hcx.2.1 hdg ht (fun h => (kt h base p e s m args below meth c D Z ad0 L0 hcx hrt ad ca H locs ls hwd hS hcn hls hlv (q_s0 hst) hag hsub)) (fun h => (kf h base p e s m args below meth c D Z ad0 L0 hcx hrt ad ca H locs ls hwd hS hcn hls hlv (q_s0 hst) hag hsub))
theorem e_ic_eq {x y : Int32} {off : Int} {tgt : Nat} (hdg : decode cc pc = .ok (.if_icmp .eq off, 3)) (ht : (pc : Int) + off = (tgt : Int)) (kt : x = y → Ev l sc R own cc nL ret ini mc ms Q tgt lv st M k n) (kf : ¬ x = y → Ev l sc R own cc nL ret ini mc ms Q (pc + 3) lv st M k n) : Ev l sc R own cc nL ret ini mc ms Q pc lv (iV y :: iV x :: st) M k n := by
  intro base p e s m args below meth c D Z ad0 L0 hcx hrt ad ca H locs ls hwd hS hcn hls hlv hst hag hsub
  exact lv_icmp_eq hcx.1 hcx.2.1 hdg ht (fun h => (kt h base p e s m args below meth c D Z ad0 L0 hcx hrt ad ca H locs ls hwd hS hcn hls hlv (q_s0 (q_s0 hst)) hag hsub)) (fun h => (kf h base p e s m args below meth c D Z ad0 L0 hcx hrt ad ca H locs ls hwd hS hcn hls hlv (q_s0 (q_s0 hst)) hag hsub))
theorem e_if_ne {x : Int32} {off : Int} {tgt : Nat} (hdg : decode cc pc = .ok (.ifCond .ne off, 3)) (ht : (pc : Int) + off = (tgt : Int)) (kt : ¬ x = 0 → Ev l sc R own cc nL ret ini mc ms Q tgt lv st M k n) (kf : x = 0 → Ev l sc R own cc nL ret ini mc ms Q (pc + 3) lv st M k n) : Ev l sc R own cc nL ret ini mc ms Q pc lv (iV x :: st) M k n := by
  intro base p e s m args below meth c D Z ad0 L0 hcx hrt ad ca H locs ls hwd hS hcn hls hlv hst hag hsub
  exact lv_if_ne hcx.1 hcx.2.1 hdg ht (fun h => (kt h base p e s m args below meth c D Z ad0 L0 hcx hrt ad ca H locs ls hwd hS hcn hls hlv (q_s0 hst) hag hsub)) (fun h => (kf h base p e s m args below meth c D Z ad0 L0 hcx hrt ad ca H locs ls hwd hS hcn hls hlv (q_s0 hst) hag hsub))
theorem e_ic_ne {x y : Int32} {off : Int} {tgt : Nat} (hdg : decode cc pc = .ok (.if_icmp .ne off, 3)) (ht : (pc : Int) + off = (tgt : Int)) (kt : ¬ x = y → Ev l sc R own cc nL ret ini mc ms Q tgt lv st M k n) (kf : x = y → Ev l sc R own cc nL ret ini mc ms Q (pc + 3) lv st M k n) : Ev l sc R own cc nL ret ini mc ms Q pc lv (iV y :: iV x :: st) M k n := by
  intro base p e s m args below meth c D Z ad0 L0 hcx hrt ad ca H locs ls hwd hS hcn hls hlv hst hag hsub
  exact lv_icmp_ne hcx.1 hcx.2.1 hdg ht (fun h => (kt h base p e s m args below meth c D Z ad0 L0 hcx hrt ad ca H locs ls hwd hS hcn hls hlv (q_s0 (q_s0 hst)) hag hsub)) (fun h => (kf h base p e s m args below meth c D Z ad0 L0 hcx hrt ad ca H locs ls hwd hS hcn hls hlv (q_s0 (q_s0 hst)) hag hsub))
theorem e_if_lt {x : Int32} {off : Int} {tgt : Nat} (hdg : decode cc pc = .ok (.ifCond .lt off, 3)) (ht : (pc : Int) + off = (tgt : Int)) (kt : x < 0 → Ev l sc R own cc nL ret ini mc ms Q tgt lv st M k n) (kf : ¬ x < 0 → Ev l sc R own cc nL ret ini mc ms Q (pc + 3) lv st M k n) : Ev l sc R own cc nL ret ini mc ms Q pc lv (iV x :: st) M k n := by
  intro base p e s m args below meth c D Z ad0 L0 hcx hrt ad ca H locs ls hwd hS hcn hls hlv hst hag hsub
  exact lv_if_lt hcx.1 hcx.2.1 hdg ht (fun h => (kt h base p e s m args below meth c D Z ad0 L0 hcx hrt ad ca H locs ls hwd hS hcn hls hlv (q_s0 hst) hag hsub)) (fun h => (kf h base p e s m args below meth c D Z ad0 L0 hcx hrt ad ca H locs ls hwd hS hcn hls hlv (q_s0 hst) hag hsub))
theorem e_ic_lt {x y : Int32} {off : Int} {tgt : Nat} (hdg : decode cc pc = .ok (.if_icmp .lt off, 3)) (ht : (pc : Int) + off = (tgt : Int)) (kt : x < y → Ev l sc R own cc nL ret ini mc ms Q tgt lv st M k n) (kf : ¬ x < y → Ev l sc R own cc nL ret ini mc ms Q (pc + 3) lv st M k n) : Ev l sc R own cc nL ret ini mc ms Q pc lv (iV y :: iV x :: st) M k n := by
  intro base p e s m args below meth c D Z ad0 L0 hcx hrt ad ca H locs ls hwd hS hcn hls hlv hst hag hsub
  exact lv_icmp_lt hcx.1 hcx.2.1 hdg ht (fun h => (kt h base p e s m args below meth c D Z ad0 L0 hcx hrt ad ca H locs ls hwd hS hcn hls hlv (q_s0 (q_s0 hst)) hag hsub)) (fun h => (kf h base p e s m args below meth c D Z ad0 L0 hcx hrt ad ca H locs ls hwd hS hcn hls hlv (q_s0 (q_s0 hst)) hag hsub))
theorem e_if_ge {x : Int32} {off : Int} {tgt : Nat} (hdg : decode cc pc = .ok (.ifCond .ge off, 3)) (ht : (pc : Int) + off = (tgt : Int)) (kt : 0 ≤ x → Ev l sc R own cc nL ret ini mc ms Q tgt lv st M k n) (kf : ¬ 0 ≤ x → Ev l sc R own cc nL ret ini mc ms Q (pc + 3) lv st M k n) : Ev l sc R own cc nL ret ini mc ms Q pc lv (iV x :: st) M k n := by
  intro base p e s m args below meth c D Z ad0 L0 hcx hrt ad ca H locs ls hwd hS hcn hls hlv hst hag hsub
  exact lv_if_ge hcx.1 hcx.2.1 hdg ht (fun h => (kt h base p e s m args below meth c D Z ad0 L0 hcx hrt ad ca H locs ls hwd hS hcn hls hlv (q_s0 hst) hag hsub)) (fun h => (kf h base p e s m args below meth c D Z ad0 L0 hcx hrt ad ca H locs ls hwd hS hcn hls hlv (q_s0 hst) hag hsub))
theorem e_ic_ge {x y : Int32} {off : Int} {tgt : Nat} (hdg : decode cc pc = .ok (.if_icmp .ge off, 3)) (ht : (pc : Int) + off = (tgt : Int)) (kt : y ≤ x → Ev l sc R own cc nL ret ini mc ms Q tgt lv st M k n) (kf : ¬ y ≤ x → Ev l sc R own cc nL ret ini mc ms Q (pc + 3) lv st M k n) : Ev l sc R own cc nL ret ini mc ms Q pc lv (iV y :: iV x :: st) M k n := by
  intro base p e s m args below meth c D Z ad0 L0 hcx hrt ad ca H locs ls hwd hS hcn hls hlv hst hag hsub
  exact lv_icmp_ge hcx.1 hcx.2.1 hdg ht (fun h => (kt h base p e s m args below meth c D Z ad0 L0 hcx hrt ad ca H locs ls hwd hS hcn hls hlv (q_s0 (q_s0 hst)) hag hsub)) (fun h => (kf h base p e s m args below meth c D Z ad0 L0 hcx hrt ad ca H locs ls hwd hS hcn hls hlv (q_s0 (q_s0 hst)) hag hsub))
theorem e_if_gt {x : Int32} {off : Int} {tgt : Nat} (hdg : decode cc pc = .ok (.ifCond .gt off, 3)) (ht : (pc : Int) + off = (tgt : Int)) (kt : 0 < x → Ev l sc R own cc nL ret ini mc ms Q tgt lv st M k n) (kf : ¬ 0 < x → Ev l sc R own cc nL ret ini mc ms Q (pc + 3) lv st M k n) : Ev l sc R own cc nL ret ini mc ms Q pc lv (iV x :: st) M k n := by
  intro base p e s m args below meth c D Z ad0 L0 hcx hrt ad ca H locs ls hwd hS hcn hls hlv hst hag hsub
  exact lv_if_gt hcx.1 hcx.2.1 hdg ht (fun h => (kt h base p e s m args below meth c D Z ad0 L0 hcx hrt ad ca H locs ls hwd hS hcn hls hlv (q_s0 hst) hag hsub)) (fun h => (kf h base p e s m args below meth c D Z ad0 L0 hcx hrt ad ca H locs ls hwd hS hcn hls hlv (q_s0 hst) hag hsub))
theorem e_ic_gt {x y : Int32} {off : Int} {tgt : Nat} (hdg : decode cc pc = .ok (.if_icmp .gt off, 3)) (ht : (pc : Int) + off = (tgt : Int)) (kt : y < x → Ev l sc R own cc nL ret ini mc ms Q tgt lv st M k n) (kf : ¬ y < x → Ev l sc R own cc nL ret ini mc ms Q (pc + 3) lv st M k n) : Ev l sc R own cc nL ret ini mc ms Q pc lv (iV y :: iV x :: st) M k n := by
  intro base p e s m args below meth c D Z ad0 L0 hcx hrt ad ca H locs ls hwd hS hcn hls hlv hst hag hsub
  exact lv_icmp_gt hcx.1 hcx.2.1 hdg ht (fun h => (kt h base p e s m args below meth c D Z ad0 L0 hcx hrt ad ca H locs ls hwd hS hcn hls hlv (q_s0 (q_s0 hst)) hag hsub)) (fun h => (kf h base p e s m args below meth c D Z ad0 L0 hcx hrt ad ca H locs ls hwd hS hcn hls hlv (q_s0 (q_s0 hst)) hag hsub))
theorem e_if_le {x : Int32} {off : Int} {tgt : Nat} (hdg : decode cc pc = .ok (.ifCond .le off, 3)) (ht : (pc : Int) + off = (tgt : Int)) (kt : x ≤ 0 → Ev l sc R own cc nL ret ini mc ms Q tgt lv st M k n) (kf : ¬ x ≤ 0 → Ev l sc R own cc nL ret ini mc ms Q (pc + 3) lv st M k n) : Ev l sc R own cc nL ret ini mc ms Q pc lv (iV x :: st) M k n := by
  intro base p e s m args below meth c D Z ad0 L0 hcx hrt ad ca H locs ls hwd hS hcn hls hlv hst hag hsub
  exact lv_if_le hcx.1 hcx.2.1 hdg ht (fun h => (kt h base p e s m args below meth c D Z ad0 L0 hcx hrt ad ca H locs ls hwd hS hcn hls hlv (q_s0 hst) hag hsub)) (fun h => (kf h base p e s m args below meth c D Z ad0 L0 hcx hrt ad ca H locs ls hwd hS hcn hls hlv (q_s0 hst) hag hsub))
theorem e_ic_le {x y : Int32} {off : Int} {tgt : Nat} (hdg : decode cc pc = .ok (.if_icmp .le off, 3)) (ht : (pc : Int) + off = (tgt : Int)) (kt : x ≤ y → Ev l sc R own cc nL ret ini mc ms Q tgt lv st M k n) (kf : ¬ x ≤ y → Ev l sc R own cc nL ret ini mc ms Q (pc + 3) lv st M k n) : Ev l sc R own cc nL ret ini mc ms Q pc lv (iV y :: iV x :: st) M k n := by
  intro base p e s m args below meth c D Z ad0 L0 hcx hrt ad ca H locs ls hwd hS hcn hls hlv hst hag hsub
  exact lv_icmp_le hcx.1 hcx.2.1 hdg ht (fun h => (kt h base p e s m args below meth c D Z ad0 L0 hcx hrt ad ca H locs ls hwd hS hcn hls hlv (q_s0 (q_s0 hst)) hag hsub)) (fun h => (kf h base p e s m args below meth c D Z ad0 L0 hcx hrt ad ca H locs ls hwd hS hcn hls hlv (q_s0 (q_s0 hst)) hag hsub))
theorem e_goto {off : Int} {tgt : Nat} (hdg : decode cc pc = .ok (.goto off, 3)) (ht : (pc : Int) + off = (tgt : Int)) (kk : Ev l sc R own cc nL ret ini mc ms Q tgt lv st M k n) : Ev l sc R own cc nL ret ini mc ms Q pc lv st M k n := by
  intro base p e s m args below meth c D Z ad0 L0 hcx hrt ad ca H locs ls hwd hS hcn hls hlv hst hag hsub
  exact lv_goto hcx.1 hcx.2.1 hdg ht (kk base p e s m args below meth c D Z ad0 L0 hcx hrt ad ca H locs ls hwd hS hcn hls hlv hst hag hsub)
theorem e_ifnull {o : Option Nat} {off : Int} {tgt : Nat} (hdg : decode cc pc = .ok (.ifnull off, 3)) (ht : (pc : Int) + off = (tgt : Int)) (kt : o = none → Ev l sc R own cc nL ret ini mc ms Q tgt lv st M k n) (kf : ∀ a, o = some a → Ev l sc R own cc nL ret ini mc ms Q (pc + 3) lv st M k n) : Ev l sc R own cc nL ret ini mc ms Q pc lv (rV o :: st) M k n := by
  intro base p e s m args below meth c D Z ad0 L0 hcx hrt ad ca H locs ls hwd hS hcn hls hlv hst hag hsub
  cases o with
  | none => exact lv_ifnullN hcx.1 hcx.2.1 hdg ht (kt rfl base p e s m args below meth c D Z ad0 L0 hcx hrt ad ca H locs ls hwd hS hcn hls hlv (q_s0 hst) hag hsub)
  | some a => exact lv_ifnull hcx.1 hcx.2.1 hdg (kf a rfl base p e s m args below meth c D Z ad0 L0 hcx hrt ad ca H locs ls hwd hS hcn hls hlv (q_s0 hst) hag hsub)
theorem e_ifnonnull {o : Option Nat} {off : Int} {tgt : Nat} (hdg : decode cc pc = .ok (.ifnonnull off, 3)) (ht : (pc : Int) + off = (tgt : Int)) (kt : ∀ a, o = some a → Ev l sc R own cc nL ret ini mc ms Q tgt lv st M k n) (kf : o = none → Ev l sc R own cc nL ret ini mc ms Q (pc + 3) lv st M k n) : Ev l sc R own cc nL ret ini mc ms Q pc lv (rV o :: st) M k n := by
  intro base p e s m args below meth c D Z ad0 L0 hcx hrt ad ca H locs ls hwd hS hcn hls hlv hst hag hsub
  cases o with
  | none => exact lv_ifnonnullN hcx.1 hcx.2.1 hdg (kf rfl base p e s m args below meth c D Z ad0 L0 hcx hrt ad ca H locs ls hwd hS hcn hls hlv (q_s0 hst) hag hsub)
  | some a => exact lv_ifnonnull hcx.1 hcx.2.1 hdg ht (kt a rfl base p e s m args below meth c D Z ad0 L0 hcx hrt ad ca H locs ls hwd hS hcn hls hlv (q_s0 hst) hag hsub)
theorem o_ad_inj {base : Nat} {D : va_G} {U : State} {ad : Nat → Nat} {ca : Nat → ClassId} {H : Heap} (hwd : o_wd base D U ad ca M H) {a b : Nat} (ha : a ∈ mL M) (hb : b ∈ mL M) (h : ad a = ad b) : a = b := by
  obtain ⟨i, hi⟩ := List.getElem?_of_mem ha
  obtain ⟨j, hj⟩ := List.getElem?_of_mem hb
  have := o_wd_one hwd.2.1 hi hj h
  subst this
  exact Option.some.inj (hi.symm.trans hj)
theorem e_ac_eq {a b : Nat} (h1 : 16 ≤ a) (h2 : 16 ≤ b) {off : Int} {tgt : Nat} (hdg : decode cc pc = .ok (.if_acmp .eq off, 3)) (ht : (pc : Int) + off = (tgt : Int)) (kt : a = b → Ev l sc R own cc nL ret ini mc ms Q tgt lv st M k n) (kf : ¬ a = b → Ev l sc R own cc nL ret ini mc ms Q (pc + 3) lv st M k n) : Ev l sc R own cc nL ret ini mc ms Q pc lv (rV (some b) :: rV (some a) :: st) M k n := by
  intro base p e s m args below meth c D Z ad0 L0 hcx hrt ad ca H locs ls hwd hS hcn hls hlv hst hag hsub
  have ha := o_li_in (o_lv_of (q_sh (q_s0 hst))) h1
  have hb := o_li_in (o_lv_of (q_sh hst)) h2
  exact lv_acmp_eq (rx := some (ad a)) (ry := some (ad b)) hcx.1 hcx.2.1 hdg ht (fun h => (kt (o_ad_inj hwd ha hb (Option.some.inj h)) base p e s m args below meth c D Z ad0 L0 hcx hrt ad ca H locs ls hwd hS hcn hls hlv (q_s0 (q_s0 hst)) hag hsub)) (fun h => (kf (fun z => h (by rw [z])) base p e s m args below meth c D Z ad0 L0 hcx hrt ad ca H locs ls hwd hS hcn hls hlv (q_s0 (q_s0 hst)) hag hsub))
theorem e_ac_ne {a b : Nat} (h1 : 16 ≤ a) (h2 : 16 ≤ b) {off : Int} {tgt : Nat} (hdg : decode cc pc = .ok (.if_acmp .ne off, 3)) (ht : (pc : Int) + off = (tgt : Int)) (kt : ¬ a = b → Ev l sc R own cc nL ret ini mc ms Q tgt lv st M k n) (kf : a = b → Ev l sc R own cc nL ret ini mc ms Q (pc + 3) lv st M k n) : Ev l sc R own cc nL ret ini mc ms Q pc lv (rV (some b) :: rV (some a) :: st) M k n := by
  intro base p e s m args below meth c D Z ad0 L0 hcx hrt ad ca H locs ls hwd hS hcn hls hlv hst hag hsub
  have ha := o_li_in (o_lv_of (q_sh (q_s0 hst))) h1
  have hb := o_li_in (o_lv_of (q_sh hst)) h2
  exact lv_acmp_ne (rx := some (ad a)) (ry := some (ad b)) hcx.1 hcx.2.1 hdg ht (fun h => (kt (fun z => h (by rw [z])) base p e s m args below meth c D Z ad0 L0 hcx hrt ad ca H locs ls hwd hS hcn hls hlv (q_s0 (q_s0 hst)) hag hsub)) (fun h => (kf (o_ad_inj hwd ha hb (Option.some.inj h)) base p e s m args below meth c D Z ad0 L0 hcx hrt ad ca H locs ls hwd hS hcn hls hlv (q_s0 (q_s0 hst)) hag hsub))
theorem e_tabOut {x : Int32} {dflt lo hi : Int} {offs : Array Int} {len tgt : Nat} (hdg : decode cc pc = .ok (.tableswitch dflt lo hi offs, len)) (h : x.toInt < lo ∨ hi < x.toInt) (ht : (pc : Int) + dflt = (tgt : Int)) (kk : Ev l sc R own cc nL ret ini mc ms Q tgt lv st M k n) : Ev l sc R own cc nL ret ini mc ms Q pc lv (iV x :: st) M k n := by
  intro base p e s m args below meth c D Z ad0 L0 hcx hrt ad ca H locs ls hwd hS hcn hls hlv hst hag hsub
  exact lv_tableOut hcx.1 hcx.2.1 hdg h ht (kk base p e s m args below meth c D Z ad0 L0 hcx hrt ad ca H locs ls hwd hS hcn hls hlv (q_s0 hst) hag hsub)
theorem e_tabIn {x : Int32} {dflt lo hi off : Int} {offs : Array Int} {len tgt : Nat} (hdg : decode cc pc = .ok (.tableswitch dflt lo hi offs, len)) (h1 : ¬ x.toInt < lo) (h2 : ¬ hi < x.toInt) (ho : offs[(x.toInt - lo).toNat]? = some off) (ht : (pc : Int) + off = (tgt : Int)) (kk : Ev l sc R own cc nL ret ini mc ms Q tgt lv st M k n) : Ev l sc R own cc nL ret ini mc ms Q pc lv (iV x :: st) M k n := by
  intro base p e s m args below meth c D Z ad0 L0 hcx hrt ad ca H locs ls hwd hS hcn hls hlv hst hag hsub
  exact lv_tableIn hcx.1 hcx.2.1 hdg h1 h2 ho ht (kk base p e s m args below meth c D Z ad0 L0 hcx hrt ad ca H locs ls hwd hS hcn hls hlv (q_s0 hst) hag hsub)
theorem e_iret {x : Int32} (hri : o_ri ret = .ireturn) (hro : o_ro ret (some (iV x))) (hdg : decode cc pc = .ok (.ireturn, 1)) (hq : Q (some (iV x)) M) : Ev l sc R own cc nL ret ini mc ms Q pc lv [iV x] M mc ms := by
  intro base p e s m args below meth c D Z ad0 L0 hcx hrt ad ca H locs ls hwd hS hcn hls hlv hst hag hsub
  exact hrt (some (iV x)) pc ls M ad ca H locs (by rw [hri]; exact hdg) hro hq hwd hS (fun w hw => by cases hw; exact o_lv_i _ _) hag hsub
theorem e_lret {x : Int64} (hri : o_ri ret = .lreturn) (hro : o_ro ret (some (jV x))) (hdg : decode cc pc = .ok (.lreturn, 1)) (hq : Q (some (jV x)) M) : Ev l sc R own cc nL ret ini mc ms Q pc lv [jV x] M mc ms := by
  intro base p e s m args below meth c D Z ad0 L0 hcx hrt ad ca H locs ls hwd hS hcn hls hlv hst hag hsub
  exact hrt (some (jV x)) pc ls M ad ca H locs (by rw [hri]; exact hdg) hro hq hwd hS (fun w hw => by cases hw; exact o_lv_j _ _) hag hsub
theorem e_aret {x : Option Nat} (hri : o_ri ret = .areturn) (hro : o_ro ret (some (rV x))) (hdg : decode cc pc = .ok (.areturn, 1)) (hq : Q (some (rV x)) M) : Ev l sc R own cc nL ret ini mc ms Q pc lv [rV x] M mc ms := by
  intro base p e s m args below meth c D Z ad0 L0 hcx hrt ad ca H locs ls hwd hS hcn hls hlv hst hag hsub
  exact hrt (some (rV x)) pc ls M ad ca H locs (by rw [hri]; exact hdg) hro hq hwd hS (fun w hw => by cases hw; exact q_sh hst) hag hsub
theorem e_ret (hri : ret = none) (hdg : decode cc pc = .ok (.return_, 1)) (hq : Q none M) : Ev l sc R own cc nL ret ini mc ms Q pc lv [] M mc ms := by
  intro base p e s m args below meth c D Z ad0 L0 hcx hrt ad ca H locs ls hwd hS hcn hls hlv hst hag hsub
  exact hrt none pc ls M ad ca H locs (by rw [hri]; exact hdg) (by rw [hri]; exact trivial) hq hwd hS (fun w hw => by cases hw) hag hsub
theorem e_widen {k' n' : Nat} (h1 : k ≤ k') (h2 : n ≤ n') (kk : Ev l sc R own cc nL ret ini mc ms Q pc lv st M k' n') : Ev l sc R own cc nL ret ini mc ms Q pc lv st M k n := by
  intro base p e s m args below meth c D Z ad0 L0 hcx hrt ad ca H locs ls hwd hS hcn hls hlv hst hag hsub
  exact W.widen h1 h2 (kk base p e s m args below meth c D Z ad0 L0 hcx hrt ad ca H locs ls hwd hS hcn hls hlv hst hag hsub)
theorem e_eq {lv' : List (Nat × o_V)} {st' : List o_V} {M' : o_M} (h1 : lv = lv') (h2 : st = st') (h3 : M = M') (kk : Ev l sc R own cc nL ret ini mc ms Q pc lv' st' M' k n) : Ev l sc R own cc nL ret ini mc ms Q pc lv st M k n := by
  subst h1; subst h2; subst h3; exact kk
theorem e_lv {lv' : List (Nat × o_V)} (h1 : ∀ q ∈ lv', o_lu lv q.1 = some q.2) (kk : Ev l sc R own cc nL ret ini mc ms Q pc lv' st M k n) : Ev l sc R own cc nL ret ini mc ms Q pc lv st M k n := by
  intro base p e s m args below meth c D Z ad0 L0 hcx hrt ad ca H locs ls hwd hS hcn hls hlv hst hag hsub
  exact kk base p e s m args below meth c D Z ad0 L0 hcx hrt ad ca H locs ls hwd hS hcn ⟨hls.1, hls.2.1, fun q hq => by obtain ⟨q', hq', rfl⟩ := List.mem_map.mp hq; exact o_ld hls (o_lu_mem (h1 q' hq'))⟩ (fun q hq => hlv _ (o_lu_mem (h1 q hq))) hst hag hsub
end OR
