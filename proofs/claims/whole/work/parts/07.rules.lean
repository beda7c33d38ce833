section ZR
variable {μ : z_Mt} {tg : Bool} {pc : Nat} {L : List (Nat × Value)} {st : List Value} {w : List va_E} {uc us : Nat} {Q : z_R}
theorem z_iadd {x y : Int32}  (n : Nat) (hd : decode (z_b μ) pc = .ok (.iadd, 1)) (hn : pc + 1 = n) (k : z_go μ tg n L (.int (x + y) :: st) w uc us Q) : z_go μ tg pc L (.int y :: .int x :: st) w uc us Q := by
  subst hn
  intro l G p e s m args below meth c H locs ls hH hP hS hl
  exact lv_iadd hH.1 hH.2.1 hd (k l G p e s m args below meth c H locs ls hH hP hS hl)
theorem z_isub {x y : Int32}  (n : Nat) (hd : decode (z_b μ) pc = .ok (.isub, 1)) (hn : pc + 1 = n) (k : z_go μ tg n L (.int (x - y) :: st) w uc us Q) : z_go μ tg pc L (.int y :: .int x :: st) w uc us Q := by
  subst hn
  intro l G p e s m args below meth c H locs ls hH hP hS hl
  exact lv_isub hH.1 hH.2.1 hd (k l G p e s m args below meth c H locs ls hH hP hS hl)
theorem z_imul {x y : Int32}  (n : Nat) (hd : decode (z_b μ) pc = .ok (.imul, 1)) (hn : pc + 1 = n) (k : z_go μ tg n L (.int (x * y) :: st) w uc us Q) : z_go μ tg pc L (.int y :: .int x :: st) w uc us Q := by
  subst hn
  intro l G p e s m args below meth c H locs ls hH hP hS hl
  exact lv_imul hH.1 hH.2.1 hd (k l G p e s m args below meth c H locs ls hH hP hS hl)
theorem z_iand {x y : Int32}  (n : Nat) (hd : decode (z_b μ) pc = .ok (.iand, 1)) (hn : pc + 1 = n) (k : z_go μ tg n L (.int (x &&& y) :: st) w uc us Q) : z_go μ tg pc L (.int y :: .int x :: st) w uc us Q := by
  subst hn
  intro l G p e s m args below meth c H locs ls hH hP hS hl
  exact lv_iand hH.1 hH.2.1 hd (k l G p e s m args below meth c H locs ls hH hP hS hl)
theorem z_ior {x y : Int32}  (n : Nat) (hd : decode (z_b μ) pc = .ok (.ior, 1)) (hn : pc + 1 = n) (k : z_go μ tg n L (.int (x ||| y) :: st) w uc us Q) : z_go μ tg pc L (.int y :: .int x :: st) w uc us Q := by
  subst hn
  intro l G p e s m args below meth c H locs ls hH hP hS hl
  exact lv_ior hH.1 hH.2.1 hd (k l G p e s m args below meth c H locs ls hH hP hS hl)
theorem z_ladd {x y : Int64}  (n : Nat) (hd : decode (z_b μ) pc = .ok (.ladd, 1)) (hn : pc + 1 = n) (k : z_go μ tg n L (.long (x + y) :: st) w uc us Q) : z_go μ tg pc L (.long y :: .long x :: st) w uc us Q := by
  subst hn
  intro l G p e s m args below meth c H locs ls hH hP hS hl
  exact lv_ladd hH.1 hH.2.1 hd (k l G p e s m args below meth c H locs ls hH hP hS hl)
theorem z_lsub {x y : Int64}  (n : Nat) (hd : decode (z_b μ) pc = .ok (.lsub, 1)) (hn : pc + 1 = n) (k : z_go μ tg n L (.long (x - y) :: st) w uc us Q) : z_go μ tg pc L (.long y :: .long x :: st) w uc us Q := by
  subst hn
  intro l G p e s m args below meth c H locs ls hH hP hS hl
  exact lv_lsub hH.1 hH.2.1 hd (k l G p e s m args below meth c H locs ls hH hP hS hl)
theorem z_lmul {x y : Int64}  (n : Nat) (hd : decode (z_b μ) pc = .ok (.lmul, 1)) (hn : pc + 1 = n) (k : z_go μ tg n L (.long (x * y) :: st) w uc us Q) : z_go μ tg pc L (.long y :: .long x :: st) w uc us Q := by
  subst hn
  intro l G p e s m args below meth c H locs ls hH hP hS hl
  exact lv_lmul hH.1 hH.2.1 hd (k l G p e s m args below meth c H locs ls hH hP hS hl)
theorem z_lor {x y : Int64}  (n : Nat) (hd : decode (z_b μ) pc = .ok (.lor, 1)) (hn : pc + 1 = n) (k : z_go μ tg n L (.long (x ||| y) :: st) w uc us Q) : z_go μ tg pc L (.long y :: .long x :: st) w uc us Q := by
  subst hn
  intro l G p e s m args below meth c H locs ls hH hP hS hl
  exact lv_lor hH.1 hH.2.1 hd (k l G p e s m args below meth c H locs ls hH hP hS hl)
theorem z_idiv {x y : Int32} (hz : ¬ y = 0) (n : Nat) (hd : decode (z_b μ) pc = .ok (.idiv, 1)) (hn : pc + 1 = n) (k : z_go μ tg n L (.int (x / y) :: st) w uc us Q) : z_go μ tg pc L (.int y :: .int x :: st) w uc us Q := by
  subst hn
  intro l G p e s m args below meth c H locs ls hH hP hS hl
  exact lv_idiv hH.1 hH.2.1 hd hz (k l G p e s m args below meth c H locs ls hH hP hS hl)
theorem z_irem {x y : Int32} (hz : ¬ y = 0) (n : Nat) (hd : decode (z_b μ) pc = .ok (.irem, 1)) (hn : pc + 1 = n) (k : z_go μ tg n L (.int (x - x / y * y) :: st) w uc us Q) : z_go μ tg pc L (.int y :: .int x :: st) w uc us Q := by
  subst hn
  intro l G p e s m args below meth c H locs ls hH hP hS hl
  exact lv_irem hH.1 hH.2.1 hd hz (k l G p e s m args below meth c H locs ls hH hP hS hl)
theorem z_ldiv {x y : Int64} (hz : ¬ y = 0) (n : Nat) (hd : decode (z_b μ) pc = .ok (.ldiv, 1)) (hn : pc + 1 = n) (k : z_go μ tg n L (.long (x / y) :: st) w uc us Q) : z_go μ tg pc L (.long y :: .long x :: st) w uc us Q := by
  subst hn
  intro l G p e s m args below meth c H locs ls hH hP hS hl
  exact lv_ldiv hH.1 hH.2.1 hd hz (k l G p e s m args below meth c H locs ls hH hP hS hl)
theorem z_lrem {x y : Int64} (hz : ¬ y = 0) (n : Nat) (hd : decode (z_b μ) pc = .ok (.lrem, 1)) (hn : pc + 1 = n) (k : z_go μ tg n L (.long (x - x / y * y) :: st) w uc us Q) : z_go μ tg pc L (.long y :: .long x :: st) w uc us Q := by
  subst hn
  intro l G p e s m args below meth c H locs ls hH hP hS hl
  exact lv_lrem hH.1 hH.2.1 hd hz (k l G p e s m args below meth c H locs ls hH hP hS hl)
theorem z_lneg {x : Int64} (n : Nat) (hd : decode (z_b μ) pc = .ok (.lneg, 1)) (hn : pc + 1 = n) (k : z_go μ tg n L (.long (-x) :: st) w uc us Q) : z_go μ tg pc L (.long x :: st) w uc us Q := by
  subst hn
  intro l G p e s m args below meth c H locs ls hH hP hS hl
  exact lv_lneg hH.1 hH.2.1 hd (k l G p e s m args below meth c H locs ls hH hP hS hl)
theorem z_ishr {x y : Int32}  (n : Nat) (hd : decode (z_b μ) pc = .ok (.ishr, 1)) (hn : pc + 1 = n) (k : z_go μ tg n L (.int (x >>> (y &&& 31)) :: st) w uc us Q) : z_go μ tg pc L (.int y :: .int x :: st) w uc us Q := by
  subst hn
  intro l G p e s m args below meth c H locs ls hH hP hS hl
  exact lv_ishr hH.1 hH.2.1 hd (k l G p e s m args below meth c H locs ls hH hP hS hl)
theorem z_lshl {x : Int64} {y : Int32} (n : Nat) (hd : decode (z_b μ) pc = .ok (.lshl, 1)) (hn : pc + 1 = n) (k : z_go μ tg n L (.long (x <<< (y.toInt64 &&& 63)) :: st) w uc us Q) : z_go μ tg pc L (.int y :: .long x :: st) w uc us Q := by
  subst hn
  intro l G p e s m args below meth c H locs ls hH hP hS hl
  exact lv_lshl hH.1 hH.2.1 hd rfl (k l G p e s m args below meth c H locs ls hH hP hS hl)
theorem z_i2l {x : Int32} (n : Nat) (hd : decode (z_b μ) pc = .ok (.i2l, 1)) (hn : pc + 1 = n) (k : z_go μ tg n L (.long x.toInt64 :: st) w uc us Q) : z_go μ tg pc L (.int x :: st) w uc us Q := by
  subst hn
  intro l G p e s m args below meth c H locs ls hH hP hS hl
  exact lv_i2l hH.1 hH.2.1 hd rfl (k l G p e s m args below meth c H locs ls hH hP hS hl)
theorem z_l2i {x : Int64} (n : Nat) (hd : decode (z_b μ) pc = .ok (.l2i, 1)) (hn : pc + 1 = n) (k : z_go μ tg n L (.int x.toInt32 :: st) w uc us Q) : z_go μ tg pc L (.long x :: st) w uc us Q := by
  subst hn
  intro l G p e s m args below meth c H locs ls hH hP hS hl
  exact lv_l2i hH.1 hH.2.1 hd rfl (k l G p e s m args below meth c H locs ls hH hP hS hl)
theorem z_i2b {x : Int32} (n : Nat) (hd : decode (z_b μ) pc = .ok (.i2b, 1)) (hn : pc + 1 = n) (k : z_go μ tg n L (.int x.toInt8.toInt32 :: st) w uc us Q) : z_go μ tg pc L (.int x :: st) w uc us Q := by
  subst hn
  intro l G p e s m args below meth c H locs ls hH hP hS hl
  exact lv_i2b hH.1 hH.2.1 hd rfl (k l G p e s m args below meth c H locs ls hH hP hS hl)
theorem z_i2c {x : Int32} (n : Nat) (hd : decode (z_b μ) pc = .ok (.i2c, 1)) (hn : pc + 1 = n) (k : z_go μ tg n L (.int (x.toUInt32 % 65536).toInt32 :: st) w uc us Q) : z_go μ tg pc L (.int x :: st) w uc us Q := by
  subst hn
  intro l G p e s m args below meth c H locs ls hH hP hS hl
  exact lv_i2c hH.1 hH.2.1 hd rfl (k l G p e s m args below meth c H locs ls hH hP hS hl)
theorem z_lcmp {x y : Int64}  (n : Nat) (hd : decode (z_b μ) pc = .ok (.lcmp, 1)) (hn : pc + 1 = n) (k : z_go μ tg n L (.int (lg_cmp x y) :: st) w uc us Q) : z_go μ tg pc L (.long y :: .long x :: st) w uc us Q := by
  subst hn
  intro l G p e s m args below meth c H locs ls hH hP hS hl
  exact W.lcmp hH.1 hH.2.1 hd (k l G p e s m args below meth c H locs ls hH hP hS hl)
theorem z_iconst {i : Int} (v : Int32) (n : Nat) (hd : decode (z_b μ) pc = .ok (.iconst i, 1)) (hv : Int32.ofInt i = v) (hn : pc + 1 = n) (k : z_go μ tg n L (.int v :: st) w uc us Q) : z_go μ tg pc L st w uc us Q := by
  subst hn
  intro l G p e s m args below meth c H locs ls hH hP hS hl
  exact lv_iconst hH.1 hH.2.1 hd hv (k l G p e s m args below meth c H locs ls hH hP hS hl)
theorem z_bipush {i : Int} (v : Int32) (n : Nat) (hd : decode (z_b μ) pc = .ok (.bipush i, 2)) (hv : (Int8.ofInt i).toInt32 = v) (hn : pc + 2 = n) (k : z_go μ tg n L (.int v :: st) w uc us Q) : z_go μ tg pc L st w uc us Q := by
  subst hn
  intro l G p e s m args below meth c H locs ls hH hP hS hl
  exact lv_bipush hH.1 hH.2.1 hd hv (k l G p e s m args below meth c H locs ls hH hP hS hl)
theorem z_sipush {i : Int} (v : Int32) (n : Nat) (hd : decode (z_b μ) pc = .ok (.sipush i, 3)) (hv : (Int16.ofInt i).toInt32 = v) (hn : pc + 3 = n) (k : z_go μ tg n L (.int v :: st) w uc us Q) : z_go μ tg pc L st w uc us Q := by
  subst hn
  intro l G p e s m args below meth c H locs ls hH hP hS hl
  exact lv_sipush hH.1 hH.2.1 hd hv (k l G p e s m args below meth c H locs ls hH hP hS hl)
theorem z_lconst {i : Fin 2} (v : Int64) (n : Nat) (hd : decode (z_b μ) pc = .ok (.lconst i, 1)) (hv : Int64.ofNat (i : Nat) = v) (hn : pc + 1 = n) (k : z_go μ tg n L (.long v :: st) w uc us Q) : z_go μ tg pc L st w uc us Q := by
  subst hn
  intro l G p e s m args below meth c H locs ls hH hP hS hl
  exact lv_lconst hH.1 hH.2.1 hd hv (k l G p e s m args below meth c H locs ls hH hP hS hl)
theorem z_ldc {i : Nat} (v : Int32) (n : Nat) (hd : decode (z_b μ) pc = .ok (.ldc i, 2)) (hc : Cond.constant (z_y μ).cls i v ∈ z_T) (hn : pc + 2 = n) (k : z_go μ tg n L (.int v :: st) w uc us Q) : z_go μ tg pc L st w uc us Q := by
  subst hn
  intro l G p e s m args below meth c H locs ls hH hP hS hl
  exact lv_ldc hH.1 hH.2.1 hH.2.2.2.2.1 (hH.2.2.2.2.2.1 _ hc) hd (k l G p e s m args below meth c H locs ls hH hP hS hl)
theorem z_ldc2 {i : Nat} (v : Int64) (n : Nat) (hd : decode (z_b μ) pc = .ok (.ldc2_w i, 3)) (hc : Cond.constantLong (z_y μ).cls i v ∈ z_T) (hn : pc + 3 = n) (k : z_go μ tg n L (.long v :: st) w uc us Q) : z_go μ tg pc L st w uc us Q := by
  subst hn
  intro l G p e s m args below meth c H locs ls hH hP hS hl
  exact lv_ldc2 hH.1 hH.2.1 hH.2.2.2.2.1 (hH.2.2.2.2.2.1 _ hc) hd (k l G p e s m args below meth c H locs ls hH hP hS hl)
theorem z_ldcS {i t : Nat} {tx : String} (n : Nat) (hd : decode (z_b μ) pc = .ok (.ldc i, 2)) (hc : ((z_y μ).cls, i, tx, t) ∈ z_xr) (hn : pc + 2 = n) (k : z_go μ tg n L (.ref t :: st) w uc us Q) : z_go μ tg pc L st w uc us Q := by
  subst hn
  intro l G p e s m args below meth c H locs ls hH hP hS hl
  exact va_ldcS hH.1 hH.2.1 hH.2.2.2.2.1 (hH.2.2.2.2.2.2.2.2.2.2.2.2.2.1 _ hc) hd (k l G p e s m args below meth c H locs ls hH hP hS hl)
theorem z_iload_n {i : Fin 4} {x : Int32} (j n : Nat) (hd : decode (z_b μ) pc = .ok (.iload_n i, 1)) (hj : L[j]? = some ((i : Nat), .int x)) (hn : pc + 1 = n) (k : z_go μ tg n L (.int x :: st) w uc us Q) : z_go μ tg pc L st w uc us Q := by
  subst hn
  intro l G p e s m args below meth c H locs ls hH hP hS hl
  exact lv_iload_n hH.1 hH.2.1 hd rfl (lv_at hl j (z_Lat G hj)) (k l G p e s m args below meth c H locs ls hH hP hS hl)
theorem z_iload {i : Nat} {x : Int32} (j n : Nat) (hd : decode (z_b μ) pc = .ok (.iload i, 2)) (hj : L[j]? = some (i, .int x)) (hn : pc + 2 = n) (k : z_go μ tg n L (.int x :: st) w uc us Q) : z_go μ tg pc L st w uc us Q := by
  subst hn
  intro l G p e s m args below meth c H locs ls hH hP hS hl
  exact lv_iload hH.1 hH.2.1 hd (lv_at hl j (z_Lat G hj)) (k l G p e s m args below meth c H locs ls hH hP hS hl)
theorem z_lload_n {i : Fin 4} {x : Int64} (j n : Nat) (hd : decode (z_b μ) pc = .ok (.lload_n i, 1)) (hj : L[j]? = some ((i : Nat), .long x)) (hn : pc + 1 = n) (k : z_go μ tg n L (.long x :: st) w uc us Q) : z_go μ tg pc L st w uc us Q := by
  subst hn
  intro l G p e s m args below meth c H locs ls hH hP hS hl
  exact lv_lload_n hH.1 hH.2.1 hd rfl (lv_at hl j (z_Lat G hj)) (k l G p e s m args below meth c H locs ls hH hP hS hl)
theorem z_lload {i : Nat} {x : Int64} (j n : Nat) (hd : decode (z_b μ) pc = .ok (.lload i, 2)) (hj : L[j]? = some (i, .long x)) (hn : pc + 2 = n) (k : z_go μ tg n L (.long x :: st) w uc us Q) : z_go μ tg pc L st w uc us Q := by
  subst hn
  intro l G p e s m args below meth c H locs ls hH hP hS hl
  exact lv_lload hH.1 hH.2.1 hd (lv_at hl j (z_Lat G hj)) (k l G p e s m args below meth c H locs ls hH hP hS hl)
theorem z_aload_n {i : Fin 4} {x : Nat} (j n : Nat) (hd : decode (z_b μ) pc = .ok (.aload_n i, 1)) (hj : L[j]? = some ((i : Nat), .ref x)) (hn : pc + 1 = n) (k : z_go μ tg n L (.ref x :: st) w uc us Q) : z_go μ tg pc L st w uc us Q := by
  subst hn
  intro l G p e s m args below meth c H locs ls hH hP hS hl
  exact lv_aload_n hH.1 hH.2.1 hd rfl (lv_at hl j (z_Lat G hj)) (k l G p e s m args below meth c H locs ls hH hP hS hl)
theorem z_aload {i : Nat} {x : Nat} (j n : Nat) (hd : decode (z_b μ) pc = .ok (.aload i, 2)) (hj : L[j]? = some (i, .ref x)) (hn : pc + 2 = n) (k : z_go μ tg n L (.ref x :: st) w uc us Q) : z_go μ tg pc L st w uc us Q := by
  subst hn
  intro l G p e s m args below meth c H locs ls hH hP hS hl
  exact lv_aload hH.1 hH.2.1 hd (lv_at hl j (z_Lat G hj)) (k l G p e s m args below meth c H locs ls hH hP hS hl)
theorem z_istore_n {i : Fin 4} {x : Int32} (L2 : List (Nat × Value)) (n : Nat) (hd : decode (z_b μ) pc = .ok (.istore_n i, 1)) (hi : (i : Nat) < z_n μ) (hL : ((i : Nat), Value.int x) :: L.filter (fun q => !(q.1 == (i : Nat)) && !(q.1 + 1 == (i : Nat) && q.2.category == 2)) = L2) (hn : pc + 1 = n) (k : z_go μ tg n L2 st w uc us Q) : z_go μ tg pc L (.int x :: st) w uc us Q := by
  subst hn
  intro l G p e s m args below meth c H locs ls hH hP hS hl
  exact lv_istore_n hH.1 hH.2.1 hd rfl hl hi (lv' := z_L G L2) (by rw [← hL, z_Lfilter1]; rfl) (fun ls2 hl2 => k l G p e s m args below meth c H locs ls2 hH hP hS hl2)
theorem z_istore {i : Nat} {x : Int32} (L2 : List (Nat × Value)) (n : Nat) (hd : decode (z_b μ) pc = .ok (.istore i, 2)) (hi : (i : Nat) < z_n μ) (hL : (i, Value.int x) :: L.filter (fun q => !(q.1 == i) && !(q.1 + 1 == i && q.2.category == 2)) = L2) (hn : pc + 2 = n) (k : z_go μ tg n L2 st w uc us Q) : z_go μ tg pc L (.int x :: st) w uc us Q := by
  subst hn
  intro l G p e s m args below meth c H locs ls hH hP hS hl
  exact lv_istore hH.1 hH.2.1 hd hl hi (lv' := z_L G L2) (by rw [← hL, z_Lfilter1]; rfl) (fun ls2 hl2 => k l G p e s m args below meth c H locs ls2 hH hP hS hl2)
theorem z_lstore_n {i : Fin 4} {x : Int64} (L2 : List (Nat × Value)) (n : Nat) (hd : decode (z_b μ) pc = .ok (.lstore_n i, 1)) (hi : (i : Nat) + 1 < z_n μ) (hL : ((i : Nat), Value.long x) :: L.filter (fun q => !(q.1 == (i : Nat)) && (!(q.1 == (i : Nat) + 1) && !(q.1 + 1 == (i : Nat) && q.2.category == 2))) = L2) (hn : pc + 1 = n) (k : z_go μ tg n L2 st w uc us Q) : z_go μ tg pc L (.long x :: st) w uc us Q := by
  subst hn
  intro l G p e s m args below meth c H locs ls hH hP hS hl
  exact lv_lstore_n hH.1 hH.2.1 hd rfl hl hi (lv' := z_L G L2) (by rw [← hL, z_Lfilter2]; rfl) (fun ls2 hl2 => k l G p e s m args below meth c H locs ls2 hH hP hS hl2)
theorem z_lstore {i : Nat} {x : Int64} (L2 : List (Nat × Value)) (n : Nat) (hd : decode (z_b μ) pc = .ok (.lstore i, 2)) (hi : (i : Nat) + 1 < z_n μ) (hL : (i, Value.long x) :: L.filter (fun q => !(q.1 == i) && (!(q.1 == i + 1) && !(q.1 + 1 == i && q.2.category == 2))) = L2) (hn : pc + 2 = n) (k : z_go μ tg n L2 st w uc us Q) : z_go μ tg pc L (.long x :: st) w uc us Q := by
  subst hn
  intro l G p e s m args below meth c H locs ls hH hP hS hl
  exact lv_lstore hH.1 hH.2.1 hd hl hi (lv' := z_L G L2) (by rw [← hL, z_Lfilter2]; rfl) (fun ls2 hl2 => k l G p e s m args below meth c H locs ls2 hH hP hS hl2)
theorem z_astore_n {i : Fin 4} {x : Nat} (L2 : List (Nat × Value)) (n : Nat) (hd : decode (z_b μ) pc = .ok (.astore_n i, 1)) (hi : (i : Nat) < z_n μ) (hL : ((i : Nat), Value.ref x) :: L.filter (fun q => !(q.1 == (i : Nat)) && !(q.1 + 1 == (i : Nat) && q.2.category == 2)) = L2) (hn : pc + 1 = n) (k : z_go μ tg n L2 st w uc us Q) : z_go μ tg pc L (.ref x :: st) w uc us Q := by
  subst hn
  intro l G p e s m args below meth c H locs ls hH hP hS hl
  exact lv_astore_n hH.1 hH.2.1 hd rfl hl hi (lv' := z_L G L2) (by rw [← hL, z_Lfilter1]; rfl) (fun ls2 hl2 => k l G p e s m args below meth c H locs ls2 hH hP hS hl2)
theorem z_astore {i : Nat} {x : Nat} (L2 : List (Nat × Value)) (n : Nat) (hd : decode (z_b μ) pc = .ok (.astore i, 2)) (hi : (i : Nat) < z_n μ) (hL : (i, Value.ref x) :: L.filter (fun q => !(q.1 == i) && !(q.1 + 1 == i && q.2.category == 2)) = L2) (hn : pc + 2 = n) (k : z_go μ tg n L2 st w uc us Q) : z_go μ tg pc L (.ref x :: st) w uc us Q := by
  subst hn
  intro l G p e s m args below meth c H locs ls hH hP hS hl
  exact lv_astore hH.1 hH.2.1 hd hl hi (lv' := z_L G L2) (by rw [← hL, z_Lfilter1]; rfl) (fun ls2 hl2 => k l G p e s m args below meth c H locs ls2 hH hP hS hl2)
theorem z_iinc {i : Nat} {d : Int} {x : Int32} (v : Int32) (L2 : List (Nat × Value)) (j n : Nat) (hd : decode (z_b μ) pc = .ok (.iinc i d, 3)) (hj : L[j]? = some (i, .int x)) (hv : x + Int32.ofInt d = v) (hi : i < z_n μ) (hL : (i, Value.int v) :: L.filter (fun q => !(q.1 == i) && !(q.1 + 1 == i && q.2.category == 2)) = L2) (hn : pc + 3 = n) (k : z_go μ tg n L2 st w uc us Q) : z_go μ tg pc L st w uc us Q := by
  subst hn
  intro l G p e s m args below meth c H locs ls hH hP hS hl
  exact lv_iinc hH.1 hH.2.1 hd hl (z_Lat G hj) hv hi (lv' := z_L G L2) (by rw [← hL, z_Lfilter1]; rfl) (fun ls2 hl2 => k l G p e s m args below meth c H locs ls2 hH hP hS hl2)
theorem z_dup {v : Value} (hv : v.category = 1) (n : Nat) (hd : decode (z_b μ) pc = .ok (.dup, 1)) (hn : pc + 1 = n) (k : z_go μ tg n L (v :: v :: st) w uc us Q) : z_go μ tg pc L (v :: st) w uc us Q := by
  subst hn
  intro l G p e s m args below meth c H locs ls hH hP hS hl
  exact lv_dup hH.1 hH.2.1 hd (by rw [z_v_cat]; exact hv) (k l G p e s m args below meth c H locs ls hH hP hS hl)
theorem z_pop {v : Value} (hv : v.category = 1) (n : Nat) (hd : decode (z_b μ) pc = .ok (.pop, 1)) (hn : pc + 1 = n) (k : z_go μ tg n L (st) w uc us Q) : z_go μ tg pc L (v :: st) w uc us Q := by
  subst hn
  intro l G p e s m args below meth c H locs ls hH hP hS hl
  exact lv_pop hH.1 hH.2.1 hd (by rw [z_v_cat]; exact hv) (k l G p e s m args below meth c H locs ls hH hP hS hl)
theorem z_dup2 {v u : Value} (hv : v.category = 1) (hu : u.category = 1) (n : Nat) (hd : decode (z_b μ) pc = .ok (.dup2, 1)) (hn : pc + 1 = n) (k : z_go μ tg n L (v :: u :: v :: u :: st) w uc us Q) : z_go μ tg pc L (v :: u :: st) w uc us Q := by
  subst hn
  intro l G p e s m args below meth c H locs ls hH hP hS hl
  exact lv_dup2_11 hH.1 hH.2.1 hd (by rw [z_v_cat]; exact hv) (by rw [z_v_cat]; exact hu) (k l G p e s m args below meth c H locs ls hH hP hS hl)
theorem z_if_eq {x : Int32} {off : Int} (t n : Nat) (hd : decode (z_b μ) pc = .ok (.ifCond .eq off, 3)) (ht : (pc : Int) + off = (t : Int)) (hn : pc + 3 = n) (kt : x = 0 → z_go μ tg t L st w uc us Q) (kf : ¬ x = 0 → z_go μ tg n L st w uc us Q) : z_go μ tg pc L (.int x :: st) w uc us Q := by
  subst hn
  intro l G p e s m args below meth c H locs ls hH hP hS hl
  exact lv_if_eq hH.1 hH.2.1 hd ht (fun hc => kt hc l G p e s m args below meth c H locs ls hH hP hS hl) (fun hc => kf hc l G p e s m args below meth c H locs ls hH hP hS hl)
theorem z_icmp_eq {x y : Int32} {off : Int} (t n : Nat) (hd : decode (z_b μ) pc = .ok (.if_icmp .eq off, 3)) (ht : (pc : Int) + off = (t : Int)) (hn : pc + 3 = n) (kt : x = y → z_go μ tg t L st w uc us Q) (kf : ¬ x = y → z_go μ tg n L st w uc us Q) : z_go μ tg pc L (.int y :: .int x :: st) w uc us Q := by
  subst hn
  intro l G p e s m args below meth c H locs ls hH hP hS hl
  exact lv_icmp_eq hH.1 hH.2.1 hd ht (fun hc => kt hc l G p e s m args below meth c H locs ls hH hP hS hl) (fun hc => kf hc l G p e s m args below meth c H locs ls hH hP hS hl)
theorem z_if_ne {x : Int32} {off : Int} (t n : Nat) (hd : decode (z_b μ) pc = .ok (.ifCond .ne off, 3)) (ht : (pc : Int) + off = (t : Int)) (hn : pc + 3 = n) (kt : ¬ x = 0 → z_go μ tg t L st w uc us Q) (kf : x = 0 → z_go μ tg n L st w uc us Q) : z_go μ tg pc L (.int x :: st) w uc us Q := by
  subst hn
  intro l G p e s m args below meth c H locs ls hH hP hS hl
  exact lv_if_ne hH.1 hH.2.1 hd ht (fun hc => kt hc l G p e s m args below meth c H locs ls hH hP hS hl) (fun hc => kf hc l G p e s m args below meth c H locs ls hH hP hS hl)
theorem z_icmp_ne {x y : Int32} {off : Int} (t n : Nat) (hd : decode (z_b μ) pc = .ok (.if_icmp .ne off, 3)) (ht : (pc : Int) + off = (t : Int)) (hn : pc + 3 = n) (kt : ¬ x = y → z_go μ tg t L st w uc us Q) (kf : x = y → z_go μ tg n L st w uc us Q) : z_go μ tg pc L (.int y :: .int x :: st) w uc us Q := by
  subst hn
  intro l G p e s m args below meth c H locs ls hH hP hS hl
  exact lv_icmp_ne hH.1 hH.2.1 hd ht (fun hc => kt hc l G p e s m args below meth c H locs ls hH hP hS hl) (fun hc => kf hc l G p e s m args below meth c H locs ls hH hP hS hl)
theorem z_if_lt {x : Int32} {off : Int} (t n : Nat) (hd : decode (z_b μ) pc = .ok (.ifCond .lt off, 3)) (ht : (pc : Int) + off = (t : Int)) (hn : pc + 3 = n) (kt : x < 0 → z_go μ tg t L st w uc us Q) (kf : ¬ x < 0 → z_go μ tg n L st w uc us Q) : z_go μ tg pc L (.int x :: st) w uc us Q := by
  subst hn
  intro l G p e s m args below meth c H locs ls hH hP hS hl
  exact lv_if_lt hH.1 hH.2.1 hd ht (fun hc => kt hc l G p e s m args below meth c H locs ls hH hP hS hl) (fun hc => kf hc l G p e s m args below meth c H locs ls hH hP hS hl)
theorem z_icmp_lt {x y : Int32} {off : Int} (t n : Nat) (hd : decode (z_b μ) pc = .ok (.if_icmp .lt off, 3)) (ht : (pc : Int) + off = (t : Int)) (hn : pc + 3 = n) (kt : x < y → z_go μ tg t L st w uc us Q) (kf : ¬ x < y → z_go μ tg n L st w uc us Q) : z_go μ tg pc L (.int y :: .int x :: st) w uc us Q := by
  subst hn
  intro l G p e s m args below meth c H locs ls hH hP hS hl
  exact lv_icmp_lt hH.1 hH.2.1 hd ht (fun hc => kt hc l G p e s m args below meth c H locs ls hH hP hS hl) (fun hc => kf hc l G p e s m args below meth c H locs ls hH hP hS hl)
theorem z_if_ge {x : Int32} {off : Int} (t n : Nat) (hd : decode (z_b μ) pc = .ok (.ifCond .ge off, 3)) (ht : (pc : Int) + off = (t : Int)) (hn : pc + 3 = n) (kt : 0 ≤ x → z_go μ tg t L st w uc us Q) (kf : ¬ 0 ≤ x → z_go μ tg n L st w uc us Q) : z_go μ tg pc L (.int x :: st) w uc us Q := by
  subst hn
  intro l G p e s m args below meth c H locs ls hH hP hS hl
  exact lv_if_ge hH.1 hH.2.1 hd ht (fun hc => kt hc l G p e s m args below meth c H locs ls hH hP hS hl) (fun hc => kf hc l G p e s m args below meth c H locs ls hH hP hS hl)
theorem z_icmp_ge {x y : Int32} {off : Int} (t n : Nat) (hd : decode (z_b μ) pc = .ok (.if_icmp .ge off, 3)) (ht : (pc : Int) + off = (t : Int)) (hn : pc + 3 = n) (kt : y ≤ x → z_go μ tg t L st w uc us Q) (kf : ¬ y ≤ x → z_go μ tg n L st w uc us Q) : z_go μ tg pc L (.int y :: .int x :: st) w uc us Q := by
  subst hn
  intro l G p e s m args below meth c H locs ls hH hP hS hl
  exact lv_icmp_ge hH.1 hH.2.1 hd ht (fun hc => kt hc l G p e s m args below meth c H locs ls hH hP hS hl) (fun hc => kf hc l G p e s m args below meth c H locs ls hH hP hS hl)
theorem z_if_gt {x : Int32} {off : Int} (t n : Nat) (hd : decode (z_b μ) pc = .ok (.ifCond .gt off, 3)) (ht : (pc : Int) + off = (t : Int)) (hn : pc + 3 = n) (kt : 0 < x → z_go μ tg t L st w uc us Q) (kf : ¬ 0 < x → z_go μ tg n L st w uc us Q) : z_go μ tg pc L (.int x :: st) w uc us Q := by
  subst hn
  intro l G p e s m args below meth c H locs ls hH hP hS hl
  exact lv_if_gt hH.1 hH.2.1 hd ht (fun hc => kt hc l G p e s m args below meth c H locs ls hH hP hS hl) (fun hc => kf hc l G p e s m args below meth c H locs ls hH hP hS hl)
theorem z_icmp_gt {x y : Int32} {off : Int} (t n : Nat) (hd : decode (z_b μ) pc = .ok (.if_icmp .gt off, 3)) (ht : (pc : Int) + off = (t : Int)) (hn : pc + 3 = n) (kt : y < x → z_go μ tg t L st w uc us Q) (kf : ¬ y < x → z_go μ tg n L st w uc us Q) : z_go μ tg pc L (.int y :: .int x :: st) w uc us Q := by
  subst hn
  intro l G p e s m args below meth c H locs ls hH hP hS hl
  exact lv_icmp_gt hH.1 hH.2.1 hd ht (fun hc => kt hc l G p e s m args below meth c H locs ls hH hP hS hl) (fun hc => kf hc l G p e s m args below meth c H locs ls hH hP hS hl)
theorem z_if_le {x : Int32} {off : Int} (t n : Nat) (hd : decode (z_b μ) pc = .ok (.ifCond .le off, 3)) (ht : (pc : Int) + off = (t : Int)) (hn : pc + 3 = n) (kt : x ≤ 0 → z_go μ tg t L st w uc us Q) (kf : ¬ x ≤ 0 → z_go μ tg n L st w uc us Q) : z_go μ tg pc L (.int x :: st) w uc us Q := by
  subst hn
  intro l G p e s m args below meth c H locs ls hH hP hS hl
  exact lv_if_le hH.1 hH.2.1 hd ht (fun hc => kt hc l G p e s m args below meth c H locs ls hH hP hS hl) (fun hc => kf hc l G p e s m args below meth c H locs ls hH hP hS hl)
theorem z_icmp_le {x y : Int32} {off : Int} (t n : Nat) (hd : decode (z_b μ) pc = .ok (.if_icmp .le off, 3)) (ht : (pc : Int) + off = (t : Int)) (hn : pc + 3 = n) (kt : x ≤ y → z_go μ tg t L st w uc us Q) (kf : ¬ x ≤ y → z_go μ tg n L st w uc us Q) : z_go μ tg pc L (.int y :: .int x :: st) w uc us Q := by
  subst hn
  intro l G p e s m args below meth c H locs ls hH hP hS hl
  exact lv_icmp_le hH.1 hH.2.1 hd ht (fun hc => kt hc l G p e s m args below meth c H locs ls hH hP hS hl) (fun hc => kf hc l G p e s m args below meth c H locs ls hH hP hS hl)
theorem z_goto {off : Int} (t : Nat) (hd : decode (z_b μ) pc = .ok (.goto off, 3)) (ht : (pc : Int) + off = (t : Int)) (k : z_go μ tg t L st w uc us Q) : z_go μ tg pc L st w uc us Q := by
  intro l G p e s m args below meth c H locs ls hH hP hS hl
  exact lv_goto hH.1 hH.2.1 hd ht (k l G p e s m args below meth c H locs ls hH hP hS hl)
theorem z_tabIn {dflt lo hi : Int} {offs : Array Int} {len : Nat} {x : Int32} {off : Int} (t : Nat) (hd : decode (z_b μ) pc = .ok (.tableswitch dflt lo hi offs, len)) (h1 : ¬ x.toInt < lo) (h2 : ¬ hi < x.toInt) (ho : offs[(x.toInt - lo).toNat]? = some off) (ht : (pc : Int) + off = (t : Int)) (k : z_go μ tg t L st w uc us Q) : z_go μ tg pc L (.int x :: st) w uc us Q := by
  intro l G p e s m args below meth c H locs ls hH hP hS hl
  exact lv_tableIn hH.1 hH.2.1 hd h1 h2 ho ht (k l G p e s m args below meth c H locs ls hH hP hS hl)
theorem z_tabOut {dflt lo hi : Int} {offs : Array Int} {len : Nat} {x : Int32} (t : Nat) (hd : decode (z_b μ) pc = .ok (.tableswitch dflt lo hi offs, len)) (h1 : x.toInt < lo ∨ hi < x.toInt) (ht : (pc : Int) + dflt = (t : Int)) (k : z_go μ tg t L st w uc us Q) : z_go μ tg pc L (.int x :: st) w uc us Q := by
  intro l G p e s m args below meth c H locs ls hH hP hS hl
  exact lv_tableOut hH.1 hH.2.1 hd h1 ht (k l G p e s m args below meth c H locs ls hH hP hS hl)
theorem z_topi {x : Int32} (k : ∀ v : Int32, v = x → z_go μ tg pc L (.int v :: st) w uc us Q) : z_go μ tg pc L (.int x :: st) w uc us Q := k x rfl
theorem z_topl {x : Int64} (k : ∀ v : Int64, v = x → z_go μ tg pc L (.long v :: st) w uc us Q) : z_go μ tg pc L (.long x :: st) w uc us Q := k x rfl
end ZR
