section ZT
abbrev z_RX : Type := z_R × (String → List va_E → Prop)
/-- what a thrown exception leaves -/
def z_XC (G : z_G) (XQ : String → List va_E → Prop) : String → State → State → Prop := fun E st t => (∃ w, XQ E w ∧ z_P G false w t t.heap) ∧ va_F (z_A G) st t
/-- what the throwing methods know besides: constructors that are declared -/
def z_yd : List MethodName := [Bundle.initS "java/lang/RuntimeException", Bundle.initS "java/lang/Exception", Bundle.initS "java/lang/Throwable"]
def z_Y (U : State) : Prop := ∀ x ∈ z_yd, va_Nw (.declares x) U
theorem z_Y.warm {s U : State} (hW : s.WarmedH U.vm) (h : z_Y s) : z_Y U := fun x hx => va_Nw.warmD hW (h x hx)
theorem z_Y.same {s U : State} (hW : s.vm = U.vm) (h : z_Y s) : z_Y U := fun x hx => va_Nw.same rfl hW (h x hx)
/-- a method that may throw, at pc -/
def z_gv (μ : z_Mt) (tg : Bool) (pc : Nat) (L : List (Nat × Value)) (st : List Value) (w : List va_E) (uc us : Nat) (Q : z_RX) : Prop :=
  ∀ (l : Launch) (_ : l.stackTraces = false) (G : z_G) (p : Program) (e : Env) (s : State) (_ : z_Y s) (m : MethodId) (args : Array Value) (below : List Frame) (meth : Method) (c : Code) (_ : ∀ x ∈ c.exceptionTable.toList, False) (H : Heap) (locs : List Loc) (ls : Array Slot),
    z_H μ G p s m args meth c → z_P G tg w s H → va_S (z_A G) s.heap H locs → lv_has ls (z_n μ) (z_L G L) →
    W p l e (z_rm μ) s m args below meth c H locs uc us (vx_MQ below (z_Q G tg Q.1) (z_XC G Q.2) args s (z_rm μ).cells (z_rm μ).slots (z_A G)) (F0 m pc ls (st.map (z_v G)))
/-- .. and its contract -/
def z_V (μ : z_Mt) (av : List Value) (w : List va_E) (Q : z_RX) : Prop :=
  ∀ (l : Launch) (G : z_G), l.stackTraces = false → vx_Met l (z_y μ) (z_wd μ) (z_rm μ) (va_Pc (av.map (z_v G)) (fun U => (z_P G false w U U.heap ∧ z_X G U U.heap) ∧ z_Y U)) (z_Q G false Q.1) (z_XC G Q.2) (z_rm μ).cells (z_rm μ).slots (z_A G)
variable {μ ν : z_Mt} {tg : Bool} {pc : Nat} {L : List (Nat × Value)} {st stk : List Value} {w : List va_E} {uc us : Nat} {Q : z_RX} {Q1 : z_R} {C : cS} {M : mS} {o : Nat → Int64} {X : List va_E}
theorem v_of (k : z_go μ tg pc L st w uc us Q.1) : z_gv μ tg pc L st w uc us Q := by
  intro l hq9 G p e s hy9 m args below meth c ht9 H locs ls hH hP hS hl
  exact vx_ret (k l G p e s m args below meth c H locs ls hH hP hS hl)
theorem v_enter {av : List Value} (hy : plainName (z_y μ).cls = true) (hn : (lg_sl av).length ≤ z_n μ) (k : z_gv μ false 0 (lv_args 0 av) [] w 0 0 Q) : z_V μ av w Q := by
  intro l G hq9
  refine vx_ofW (cc := z_b μ) (maxL := z_n μ) (ret := z_r μ) hy rfl ?_
  intro p e s m args below meth c s₁ B hml ht9 hv
  obtain ⟨rfl, ⟨hP, hX⟩, hy9⟩ := hv
  have hts := atoms_spec (ws := z_wd μ) B.pre
  rw [lg_entry_eq]
  have hl := lv_entry (av.map (z_v G)) (n := z_n μ) (by rw [z_Lsl]; exact hn)
  rw [z_Largs] at hl
  exact k l hq9 G p e s hy9 m _ below meth c ht9 s.heap [] _ ⟨B.exec, B.bytes, B.returns, hml, findClass_of_methodNamed B.named, fun w hw => hts w (List.mem_cons_of_mem _ hw), B.notSynchronized, (name_of_methodNamed B.named B.method).1, Nat.le_trans (Nat.le_add_right _ _) hP.1.1, hX⟩ hP va_S.rf hl
theorem z_P_kept {G : z_G} {s t : State} {H : Heap} (hP : z_P G tg w s H) (hvm : s.vm.Alike t.vm) (hz : H.size ≤ t.heap.size) (hk : ∀ q : Nat, q < H.size → t.heap[q]? = H[q]?) : z_P G false w t t.heap :=
  ⟨⟨Nat.le_trans hP.1.1 hz, fun h => by cases h⟩, hP.2.1.kept (fun k q hq => hk q.1 ((hP.2.1 k q hq).lt)), va_K.moved hvm hP.2.2⟩
def z_nms : List String := ["java/lang/RuntimeException", "java/lang/Exception"]
theorem v_throw {cls text : String} {ik is ic t : Nat} (hcls : Bundle.fit cls = true) (hwd : ∀ w ∈ [Cond.classLink (z_y μ).cls ik cls, .initialized cls], w ∈ z_T) (hin : ∀ w ∈ (vx_atS (z_y μ).cls ic cls z_nms).filter goodWord, w ∈ z_T) (hno : ∀ w ∈ (vx_atS (z_y μ).cls ic cls z_nms).filter (fun w => !goodWord w), w ∈ [Cond.castable cls cls, .declares (Bundle.initS "java/lang/RuntimeException"), .declares (Bundle.initS "java/lang/Exception"), .declares (Bundle.initS "java/lang/Throwable")])
    (hot : ∀ w ∈ Cond.classLink (z_y μ).cls ik cls :: Cond.initialized cls :: vx_atS (z_y μ).cls ic cls z_nms, vx_ot w = true) (hxc : cls ∈ z_xc) (hstr : ((z_y μ).cls, is, text, t) ∈ z_xr)
    (d0 : decode (z_b μ) pc = .ok (.new ik, 3)) (d3 : decode (z_b μ) (pc + 3) = .ok (.dup, 1)) (d4 : decode (z_b μ) (pc + 4) = .ok (.ldc is, 2)) (d6 : decode (z_b μ) (pc + 6) = .ok (.invokespecial ic, 3)) (d9 : decode (z_b μ) (pc + 9) = .ok (.athrow, 1))
    (hR : 5 < (z_rm μ).frames ∧ (st.map fun v => v.category).sum + 82 ≤ (z_rm μ).locals ∧ uc + 1 ≤ (z_rm μ).cells ∧ us + 6 ≤ (z_rm μ).slots) (hQ : Q.2 cls w) : z_gv μ tg pc L st w uc us Q := by
  intro l hq9 G p e s hy9 m args below meth c ht9 H locs ls hH hP hS hl
  have hts := hH.2.2.2.2.2.1
  have hX := hH.2.2.2.2.2.2.2.2.2
  refine vx_throwS (A := z_A G) (names := z_nms) hH.1 hH.2.1 hq9 hH.2.2.2.2.1 hcls (by decide) (hts _ (hwd _ List.mem_cons_self)) (hts _ (hwd _ (List.mem_cons_of_mem _ List.mem_cons_self))) (hX.2.2.2.2.1 _ hstr)
    (vx_hat (fun w hw => hts w (hin w hw)) hno (vx_c (va_Nw.use rfl (hX.2.2.2.2.2.2.2.2.2.1 _ hxc)) (vx_c (va_Nw.use rfl (hy9 _ (List.mem_of_getElem? (i := 0) rfl))) (vx_c (va_Nw.use rfl (hy9 _ (List.mem_of_getElem? (i := 1) rfl))) (vx_c (va_Nw.use rfl (hy9 _ (List.mem_of_getElem? (i := 2) rfl))) vx_n))))) hot (hX.2.2.2.2.2.1 _ (List.mem_of_getElem? (i := 0) rfl)) (hX.2.2.2.2.2.1 _ (List.mem_of_getElem? (i := 1) rfl)) hS (hl.1.trans hH.2.2.2.1.symm)
    d0 d3 d4 d6 d9 (fun x hx => (ht9 x hx).elim) hR.1 (by rw [z_sum]; exact hR.2.1) hR.2.2.1 hR.2.2.2 hH.2.2.2.2.2.2.1 (fun t hvm hz hk => ⟨⟨w, hQ, z_P_kept hP hvm hz hk⟩, Nat.le_trans hS.1 hz, fun q g1 g2 => (hk q (Nat.lt_of_lt_of_le g1 hS.1)).trans (hS.2.1 q g1 g2)⟩) hS.2.2 hR.2.2.1 hR.2.2.2
theorem v_throwN {text : String} {ik is ic t : Nat} (hwd : ∀ w ∈ [Cond.classLink (z_y μ).cls ik n_E, .initialized n_E], w ∈ z_T) (hin : ∀ w ∈ ((n_at (z_y μ).cls ic).filter vx_no).filter goodWord, w ∈ z_T) (hno : ∀ w ∈ ((n_at (z_y μ).cls ic).filter vx_no).filter (fun w => !goodWord w), w ∈ [Cond.castable n_E n_E, .declares (Bundle.initS "java/lang/RuntimeException"), .declares (Bundle.initS "java/lang/Exception"), .declares (Bundle.initS "java/lang/Throwable")])
    (hot : ∀ w ∈ Cond.classLink (z_y μ).cls ik n_E :: Cond.initialized n_E :: (n_at (z_y μ).cls ic).filter vx_no, vx_ot w = true) (hxc : n_E ∈ z_xc) (hstr : ((z_y μ).cls, is, text, t) ∈ z_xr)
    (d0 : decode (z_b μ) pc = .ok (.new ik, 3)) (d3 : decode (z_b μ) (pc + 3) = .ok (.dup, 1)) (d4 : decode (z_b μ) (pc + 4) = .ok (.ldc is, 2)) (d6 : decode (z_b μ) (pc + 6) = .ok (.invokespecial ic, 3)) (d9 : decode (z_b μ) (pc + 9) = .ok (.athrow, 1))
    (hR : 5 < (z_rm μ).frames ∧ (st.map fun v => v.category).sum + 82 ≤ (z_rm μ).locals ∧ uc + 1 ≤ (z_rm μ).cells ∧ us + 6 ≤ (z_rm μ).slots) (hQ : Q.2 n_E w) : z_gv μ tg pc L st w uc us Q := by
  intro l hq9 G p e s hy9 m args below meth c ht9 H locs ls hH hP hS hl
  have hts := hH.2.2.2.2.2.1
  have hX := hH.2.2.2.2.2.2.2.2.2
  refine n_throw (A := z_A G) hH.1 hH.2.1 hq9 hH.2.2.2.2.1 (hts _ (hwd _ List.mem_cons_self)) (hts _ (hwd _ (List.mem_cons_of_mem _ List.mem_cons_self))) (hX.2.2.2.2.1 _ hstr)
    (vx_hat (fun w hw => hts w (hin w hw)) hno (vx_c (va_Nw.use rfl (hX.2.2.2.2.2.2.2.2.2.1 _ hxc)) (vx_c (va_Nw.use rfl (hy9 _ (List.mem_of_getElem? (i := 0) rfl))) (vx_c (va_Nw.use rfl (hy9 _ (List.mem_of_getElem? (i := 1) rfl))) (vx_c (va_Nw.use rfl (hy9 _ (List.mem_of_getElem? (i := 2) rfl))) vx_n))))) hot (hX.2.2.2.2.2.1 _ (List.mem_of_getElem? (i := 0) rfl)) (hX.2.2.2.2.2.1 _ (List.mem_of_getElem? (i := 1) rfl)) hS (hl.1.trans hH.2.2.2.1.symm)
    d0 d3 d4 d6 d9 (fun x hx => (ht9 x hx).elim) hR.1 (by rw [z_sum]; exact hR.2.1) hR.2.2.1 hR.2.2.2 hH.2.2.2.2.2.2.1 (fun t hvm hz hk => ⟨⟨w, hQ, z_P_kept hP hvm hz hk⟩, Nat.le_trans hS.1 hz, fun q g1 g2 => (hk q (Nat.lt_of_lt_of_le g1 hS.1)).trans (hS.2.1 q g1 g2)⟩) hS.2.2 hR.2.2.1 hR.2.2.2
theorem vz_aload_n {i : Fin 4} {x : Nat} (j n : Nat) (hd : decode (z_b μ) pc = .ok (.aload_n i, 1)) (hj : L[j]? = some ((i : Nat), .ref x)) (hn : pc + 1 = n) (k : z_gv μ tg n L (.ref x :: st) w uc us Q) : z_gv μ tg pc L st w uc us Q := by
  subst hn
  intro l hq9 G p e s hy9 m args below meth c ht9 H locs ls hH hP hS hl
  exact lv_aload_n hH.1 hH.2.1 hd rfl (lv_at hl j (z_Lat G hj)) (k l hq9 G p e s hy9 m args below meth c ht9 H locs ls hH hP hS hl)
theorem vz_iload_n {i : Fin 4} {x : Int32} (j n : Nat) (hd : decode (z_b μ) pc = .ok (.iload_n i, 1)) (hj : L[j]? = some ((i : Nat), .int x)) (hn : pc + 1 = n) (k : z_gv μ tg n L (.int x :: st) w uc us Q) : z_gv μ tg pc L st w uc us Q := by
  subst hn
  intro l hq9 G p e s hy9 m args below meth c ht9 H locs ls hH hP hS hl
  exact lv_iload_n hH.1 hH.2.1 hd rfl (lv_at hl j (z_Lat G hj)) (k l hq9 G p e s hy9 m args below meth c ht9 H locs ls hH hP hS hl)
theorem vz_sipush {i : Int} (v : Int32) (n : Nat) (hd : decode (z_b μ) pc = .ok (.sipush i, 3)) (hv : (Int16.ofInt i).toInt32 = v) (hn : pc + 3 = n) (k : z_gv μ tg n L (.int v :: st) w uc us Q) : z_gv μ tg pc L st w uc us Q := by
  subst hn
  intro l hq9 G p e s hy9 m args below meth c ht9 H locs ls hH hP hS hl
  exact lv_sipush hH.1 hH.2.1 hd hv (k l hq9 G p e s hy9 m args below meth c ht9 H locs ls hH hP hS hl)
theorem vz_if_ne {x : Int32} {off : Int} (t n : Nat) (hd : decode (z_b μ) pc = .ok (.ifCond .ne off, 3)) (ht : (pc : Int) + off = (t : Int)) (hn : pc + 3 = n) (kt : ¬ x = 0 → z_gv μ tg t L st w uc us Q) (kf : x = 0 → z_gv μ tg n L st w uc us Q) : z_gv μ tg pc L (.int x :: st) w uc us Q := by
  subst hn
  intro l hq9 G p e s hy9 m args below meth c ht9 H locs ls hH hP hS hl
  exact lv_if_ne hH.1 hH.2.1 hd ht (fun hc => kt hc l hq9 G p e s hy9 m args below meth c ht9 H locs ls hH hP hS hl) (fun hc => kf hc l hq9 G p e s hy9 m args below meth c ht9 H locs ls hH hP hS hl)
theorem vz_if_lt {x : Int32} {off : Int} (t n : Nat) (hd : decode (z_b μ) pc = .ok (.ifCond .lt off, 3)) (ht : (pc : Int) + off = (t : Int)) (hn : pc + 3 = n) (kt : x < 0 → z_gv μ tg t L st w uc us Q) (kf : ¬ x < 0 → z_gv μ tg n L st w uc us Q) : z_gv μ tg pc L (.int x :: st) w uc us Q := by
  subst hn
  intro l hq9 G p e s hy9 m args below meth c ht9 H locs ls hH hP hS hl
  exact lv_if_lt hH.1 hH.2.1 hd ht (fun hc => kt hc l hq9 G p e s hy9 m args below meth c ht9 H locs ls hH hP hS hl) (fun hc => kf hc l hq9 G p e s hy9 m args below meth c ht9 H locs ls hH hP hS hl)
theorem vz_icmp_le {x y : Int32} {off : Int} (t n : Nat) (hd : decode (z_b μ) pc = .ok (.if_icmp .le off, 3)) (ht : (pc : Int) + off = (t : Int)) (hn : pc + 3 = n) (kt : x ≤ y → z_gv μ tg t L st w uc us Q) (kf : ¬ x ≤ y → z_gv μ tg n L st w uc us Q) : z_gv μ tg pc L (.int y :: .int x :: st) w uc us Q := by
  subst hn
  intro l hq9 G p e s hy9 m args below meth c ht9 H locs ls hH hP hS hl
  exact lv_icmp_le hH.1 hH.2.1 hd ht (fun hc => kt hc l hq9 G p e s hy9 m args below meth c ht9 H locs ls hH hP hS hl) (fun hc => kf hc l hq9 G p e s hy9 m args below meth c ht9 H locs ls hH hP hS hl)
theorem vz_get {idx ci kf b : Nat} {fs : List Value} {v : Value} (j n : Nat) (hd : decode (z_b μ) pc = .ok (.getfield idx, 3)) (hok : z_okF (z_y μ).cls idx ci kf) (hb : b = 200 + j) (hw : w[j]? = some (.inr (ci, fs))) (hv : fs[kf]? = some v) (hn : pc + 3 = n) (k : z_gv μ tg n L (v :: st) w uc us Q) : z_gv μ tg pc L (.ref b :: st) w uc us Q := by
  subst hn
  intro l hq9 G p e s hy9 m args below meth c ht9 H locs ls hH hP hS hl
  obtain ⟨⟨C, T, N⟩, hc, hk, hin, hlk⟩ := hok
  rw [List.map_cons, z_ref_new G hb]
  exact va_get (D := G.1) (ci := ci) (C := C) (T := T) (N := N) (v := z_v G v) hH.1 hH.2.1 hH.2.2.2.2.2.1 hin hH.2.2.2.2.1 hP.2.2 hP.2.1 j (z_ws_at G hw) hc kf hk (hH.2.2.2.2.2.1 _ hlk) (fun _ h => h) (by rw [List.getElem?_map, hv]; rfl) hd (k l hq9 G p e s hy9 m args below meth c ht9 H locs ls hH hP hS hl)
theorem vz_callx {l : Launch} {G : z_G} {p : Program} {e : Env} {s : State} {m : MethodId} {args : Array Value} {below : List Frame} {meth : Method} {c : Code} {H : Heap} {locs : List Loc} {ls : Array Slot} {mc ms : Nat} {st0 : List Value} {a : Array Value} (hq9 : l.stackTraces = false) (hy9 : z_Y s) (ht9 : ∀ x ∈ c.exceptionTable.toList, False) (hH : z_H μ G p s m args meth c) (hS : va_S (z_A G) s.heap H locs) (hl : lv_has ls (z_n μ) (z_L G L))
    (hr : va_Run p l e (z_rm μ) s m args below meth c H locs uc us mc ms (F0 m pc ls st0) (st.map (z_v G)) (z_Q G tg Q1 a) (z_A G)) (k : ∀ r w1, Q1 r w1 → z_gv μ tg (pc + 3) L (r.toList ++ st) w1 (uc + mc) (us + ms) Q) :
    W p l e (z_rm μ) s m args below meth c H locs uc us (vx_MQ below (z_Q G tg Q.1) (z_XC G Q.2) args s (z_rm μ).cells (z_rm μ).slots (z_A G)) (F0 m pc ls st0) := by
  intro T hT X
  obtain ⟨v, st₀, t, T', L9, h0, X', hL, e1, e2, ⟨⟨r, w1, q1, hv, qP, qX⟩, hz, hk⟩, st9⟩ := hr T hT X
  cases hv
  rw [h0] at hz hk
  have hvm : s.vm.Alike t.vm := by rw [← e2]; exact X'.warmed.alike
  have hP1 : z_P G tg w1 s T'.heap := by rw [e1]; exact qP.alike hvm.symm
  have hS1 : va_S (z_A G) s.heap T'.heap (locs ++ L9) := ⟨Nat.le_trans hS.1 (by rw [e1]; exact hz), fun q g1 g2 => by rw [e1, hk q (Nat.lt_of_lt_of_le g1 hS.1) g2]; exact hS.2.1 q g1 g2, fun q hq => by
      rcases List.mem_append.mp hq with h | h
      · exact hS.2.2 q h
      · exact hL q h⟩
  have hW := k r w1 q1 l hq9 G p e s hy9 m args below meth c ht9 T'.heap (locs ++ L9) ls hH hP1 hS1 hl
  have he : (r.toList ++ st).map (z_v G) = (r.map (z_v G)).toList ++ st.map (z_v G) := by cases r <;> simp
  rw [he] at hW
  obtain ⟨t2, a1, b1⟩ := hW T' rfl X'
  exact ⟨t2, st9 t2 a1, b1⟩
theorem vz_callV0 {idx b na : Nat} {As : List Value} (hd : decode (z_b μ) pc = .ok (.invokevirtual idx, 3)) (hok : z_okV μ ν idx na) (hna : As.length = na) (hst : (st.map fun v => v.category).sum ≤ 8)
    (hrv : ∀ (G : z_G) (s : State) (H : Heap) (locs : List Loc), z_X G s s.heap → z_P G tg w s H → va_S (z_A G) s.heap H locs → ∃ cell : Cell, H[z_a G b]? = some cell ∧ cell.vm.isStatics = false ∧ s.vm.findClass (z_y ν).cls = some cell.cls)
    (hc : uc + (z_rm ν).cells ≤ (z_rm μ).cells ∧ us + (z_rm ν).slots ≤ (z_rm μ).slots) (hM : z_M ν tg (.ref b :: As) w Q1) (k : ∀ r w1, Q1 r w1 → z_gv μ tg (pc + 3) L (r.toList ++ st) w1 (uc + (z_rm ν).cells) (us + (z_rm ν).slots) Q) : z_gv μ tg pc L (As.reverse ++ .ref b :: st) w uc us Q := by
  intro l hq9 G p e s hy9 m args below meth c ht9 H locs ls hH hP hS hl
  have he : (As.reverse ++ .ref b :: st).map (z_v G) = (As.map (z_v G)).reverse ++ Value.ref (z_a G b) :: st.map (z_v G) := by simp [z_v]
  rw [he]
  refine vz_callx (a := (Value.ref (z_a G b) :: As.map (z_v G)).toArray) hq9 hy9 ht9 hH hS hl (va_runV (As := As.map (z_v G)) (rest := st.map (z_v G)) ⟨hH.1, hH.2.1, hH.2.2.2.1, hH.2.2.2.2.1, hH.2.2.2.2.2.1⟩ (hM l G) (cwV na hH.2.2.2.2.2.1 (z_goodC hok.1) rfl rfl rfl ⟨rfl, hok.2.1⟩ hok.2.2) ⟨z_blind G _ w, hrv G s H locs hH.2.2.2.2.2.2.2.2.2 hP hS, z_pre _ hH.2.2.2.2.2.2.2.2.2 hP hS⟩ rfl (by rw [List.length_map]; exact hna) hl.1 rfl (lv_room (by rw [z_sum]; exact hst)) hd hc) k
theorem vz_ciV {idx b na : Nat} {P : Int32 → cS → Prop} (As : List Value) (n : Nat) (hd : decode (z_b μ) pc = .ok (.invokevirtual idx, 3)) (hok : z_okV μ ν idx na) (hs : stk = As.reverse ++ .ref b :: st) (hna : As.length = na) (hst : (st.map fun v => v.category).sum ≤ 8)
    (hrv : ∀ (G : z_G) (s : State) (H : Heap) (locs : List Loc), z_X G s s.heap → z_P G tg (wz C M o X) s H → va_S (z_A G) s.heap H locs → ∃ cell : Cell, H[z_a G b]? = some cell ∧ cell.vm.isStatics = false ∧ s.vm.findClass (z_y ν).cls = some cell.cls)
    (h0 : (z_rm ν).cells = 0 ∧ (z_rm ν).slots = 0) (hc : uc ≤ (z_rm μ).cells ∧ us ≤ (z_rm μ).slots) (hn : pc + 3 = n) (hM : z_M ν tg (.ref b :: As) (wz C M o X) (zc_i M o X P)) (k : ∀ r C1, P r C1 → z_gv μ tg n L (.int r :: st) (wz C1 M o X) uc us Q) : z_gv μ tg pc L stk (wz C M o X) uc us Q := by
  subst hs; subst hn
  refine vz_callV0 hd hok hna hst hrv (by rw [h0.1, h0.2]; exact hc) hM (fun r w1 hr => ?_)
  obtain ⟨v, C1, rfl, rfl, h⟩ := hr
  rw [h0.1, h0.2]
  exact k v C1 h
theorem vgci_1 {idx : Nat} (v : Int32) (n : Nat) (hd : decode (z_b μ) pc = .ok (.getfield idx, 3)) (hok : z_okF (z_y μ).cls idx 8 5) (hv : c_i C 1 = v) (hn : pc + 3 = n) (k : z_gv μ tg n L (.int v :: st) (wz C M o X) uc us Q) : z_gv μ tg pc L (.ref 200 :: st) (wz C M o X) uc us Q := by subst hv; exact vz_get 0 n hd hok rfl rfl rfl hn k
theorem vgci_16 {idx : Nat} (v : Int32) (n : Nat) (hd : decode (z_b μ) pc = .ok (.getfield idx, 3)) (hok : z_okF (z_y μ).cls idx 4 2) (hv : c_i C 16 = v) (hn : pc + 3 = n) (k : z_gv μ tg n L (.int v :: st) (wz C M o X) uc us Q) : z_gv μ tg pc L (.ref 225 :: st) (wz C M o X) uc us Q := by subst hv; exact vz_get 25 n hd hok rfl rfl rfl hn k
theorem vgr_0_9 {idx : Nat} (n : Nat) (hd : decode (z_b μ) pc = .ok (.getfield idx, 3)) (hok : z_okF (z_y μ).cls idx 8 9) (hn : pc + 3 = n) (k : z_gv μ tg n L (.ref 225 :: st) (wz C M o X) uc us Q) : z_gv μ tg pc L (.ref 200 :: st) (wz C M o X) uc us Q := vz_get 0 n hd hok rfl rfl rfl hn k
set_option maxRecDepth 100000 in
set_option maxHeartbeats 4000000 in
theorem t_X10_beginB (M : mS) (o : Nat → Int64) (X : List va_E) (C : cS) (Q : cS → Prop) (h : p_X10_beginB C Q) : z_go q_X10_begin false 17 [(0, .ref 200)] [] (wz C M o X) 0 0 (zc_v M o X Q) := by
  unfold p_X10_beginB at h
  refine z_aload_n 0 18 dX10_begin_17 rfl rfl ?_
  refine gr_0_9 21 dX10_begin_18 of_X10_57 rfl ?_
  refine z_aload_n 0 22 dX10_begin_21 rfl rfl ?_
  refine gr_cur (c_cur C) 25 dX10_begin_22 of_X10_23 rfl rfl ?_
  refine z_cvV [.ref (200 + pO (c_cur C))] 28 dX10_begin_25 ok_X10_begin_110 rfl rfl (Nat.le_of_ble_eq_true rfl) rc_25 ⟨rfl, rfl⟩ ⟨Nat.zero_le _, Nat.zero_le _⟩ rfl (t_X6_start false M o X (c_cur C) C _ h) (fun Cz1 h => ?_)
  exact z_vret dX10_begin_28 rfl ⟨Nat.zero_le _, Nat.zero_le _⟩ ⟨Cz1, rfl, rfl, h⟩
set_option maxRecDepth 100000 in
set_option maxHeartbeats 4000000 in
theorem tb_X10_run_43 (_ : Bool) (M : mS) (o : Nat → Int64) (X : List va_E) (R9 : Int32 → Int32 → cS → Prop) (Q : Int32 → cS → Prop) (K64 : Int32 → cS → Prop) (hR9 : ∀ (l1 : Int32) (l2 : Int32) (C : cS), R9 l1 l2 C → z_go q_X10_run false 43 [(1, .int l1), (2, .int l2), (0, .ref 200)] [] (wz C M o X) 0 0 (zc_i M o X Q)) (hK64 : ∀ (l2 : Int32) (C : cS), K64 l2 C → z_go q_X10_run false 64 [(2, .int l2)] [] (wz C M o X) 0 0 (zc_i M o X Q)) (l1 : Int32) (l2 : Int32) (C : cS) (h : b_X10_run_43 R9 Q K64 l1 l2 C) : z_go q_X10_run false 43 [(1, .int l1), (2, .int l2), (0, .ref 200)] [] (wz C M o X) 0 0 (zc_i M o X Q) := by
  unfold b_X10_run_43 at h
  refine z_iload_n 1 44 dX10_run_43 rfl rfl ?_
  refine z_iload_n 0 45 dX10_run_44 rfl rfl ?_
  refine z_icmp_ge 64 48 dX10_run_45 rfl rfl (fun hcz1 => ?_) (fun hcz1 => ?_)
  · replace h := h.1 hcz1
    refine z_pick [(2, .int l2)] [1] rfl ?_
    exact hK64 l2 C h
  · replace h := h.2 hcz1
    refine z_aload_n 2 49 dX10_run_48 rfl rfl ?_
    refine gr_0_9 52 dX10_run_49 of_X10_57 rfl ?_
    refine z_ciV [] 55 dX10_run_52 ok_X10_run_124 rfl rfl (Nat.le_of_ble_eq_true rfl) rc_25 ⟨rfl, rfl⟩ ⟨Nat.zero_le _, Nat.zero_le _⟩ rfl (t_X6_step false M o X  C _ h) (fun rz3 Cz2 h => ?_)
    refine z_if_eq 64 58 dX10_run_55 rfl rfl (fun hcz4 => ?_) (fun hcz4 => ?_)
    · replace h := h.1 hcz4
      refine z_pick [(2, .int l2)] [1] rfl ?_
      exact hK64 l2 Cz2 h
    · replace h := h.2 hcz4
      obtain ⟨vz5, hvz5⟩ : ∃ v : Int32, v = l2 + 1 := ⟨_, rfl⟩
      replace h := h vz5 hvz5
      refine z_iinc vz5 [(2, .int vz5), (1, .int l1), (0, .ref 200)] 1 61 dX10_run_58 rfl hvz5.symm (Nat.le_of_ble_eq_true rfl) rfl rfl ?_
      refine z_goto 43 dX10_run_61 rfl ?_
      refine z_pick [(1, .int l1), (2, .int vz5), (0, .ref 200)] [1, 0, 2] rfl ?_
      exact hR9 l1 vz5 Cz2 h
theorem tw_X10_run_43 (_ : Bool) (M : mS) (o : Nat → Int64) (X : List va_E) (Q : Int32 → cS → Prop) (K64 : Int32 → cS → Prop) (hK64 : ∀ (l2 : Int32) (C : cS), K64 l2 C → z_go q_X10_run false 64 [(2, .int l2)] [] (wz C M o X) 0 0 (zc_i M o X Q)) : ∀ (n : Nat) (l1 : Int32) (l2 : Int32) (C : cS), w_X10_run_43 Q K64 n l1 l2 C → z_go q_X10_run false 43 [(1, .int l1), (2, .int l2), (0, .ref 200)] [] (wz C M o X) 0 0 (zc_i M o X Q) := by
  intro n
  induction n with
  | zero => intro l1 l2 C h; exact h.elim
  | succ n ih => intro l1 l2 C h; exact tb_X10_run_43 false M o X _ Q K64 ih hK64 l1 l2 C h
set_option maxRecDepth 100000 in
set_option maxHeartbeats 4000000 in
theorem t_X10_runB (M : mS) (o : Nat → Int64) (X : List va_E) (a1 : Int32) (C : cS) (Q : Int32 → cS → Prop) (h : p_X10_runB a1 C Q) : z_go q_X10_run false 41 [(0, .ref 200), (1, .int a1)] [] (wz C M o X) 0 0 (zc_i M o X Q) := by
  unfold p_X10_runB at h
  refine z_iconst 0 42 dX10_run_41 rfl rfl ?_
  refine z_istore_n [(2, .int 0), (0, .ref 200), (1, .int a1)] 43 dX10_run_42 (Nat.le_of_ble_eq_true rfl) rfl rfl ?_
  obtain ⟨nz8, h⟩ := h
  refine z_pick [(1, .int a1), (2, .int 0), (0, .ref 200)] [2, 0, 1] rfl ?_
  refine tw_X10_run_43 false M o X Q _ (fun lz6 Cz7 h => ?_) nz8 a1 0 C h
  · refine z_iload_n 0 65 dX10_run_64 rfl rfl ?_
    exact z_iret dX10_run_65 rfl ⟨Nat.zero_le _, Nat.zero_le _⟩ ⟨lz6, Cz7, rfl, rfl, h⟩
set_option maxRecDepth 100000 in
set_option maxHeartbeats 4000000 in
theorem t_X10_saidB (M : mS) (o : Nat → Int64) (X : List va_E) (a1 : Int32) (C : cS) (Q : Int32 → cS → Prop) (h : p_X10_saidB a1 C Q) : z_go q_X10_said false 21 [(0, .ref 200), (1, .int a1)] [] (wz C M o X) 0 0 (zc_i M o X Q) := by
  unfold p_X10_saidB at h
  refine z_aload_n 0 22 dX10_said_21 rfl rfl ?_
  refine gr_0_9 25 dX10_said_22 of_X10_57 rfl ?_
  refine gr_25_8 28 dX10_said_25 of_X10_156 rfl ?_
  refine z_iload_n 1 29 dX10_said_28 rfl rfl ?_
  obtain ⟨hbz1, h⟩ := h
  refine gca_16 ((c_a C 16) a1.toNatClampNeg) 30 dX10_said_29 hbz1 rfl rfl ?_
  exact z_iret dX10_said_30 rfl ⟨Nat.zero_le _, Nat.zero_le _⟩ ⟨(c_a C 16) a1.toNatClampNeg, C, rfl, rfl, h⟩
theorem xi_ISE : ∀ w ∈ (vx_atS RX10 107 "java/lang/IllegalStateException" z_nms).filter goodWord, w ∈ z_T := fun w hw => List.mem_filter.mpr ⟨(by decide +kernel : ∀ w ∈ (vx_atS RX10 107 "java/lang/IllegalStateException" z_nms).filter goodWord, w ∈ lw_tbl) w hw, (List.mem_filter.mp hw).2⟩
theorem xn_ISE : ∀ w ∈ (vx_atS RX10 107 "java/lang/IllegalStateException" z_nms).filter (fun w => !goodWord w), w ∈ [Cond.castable "java/lang/IllegalStateException" "java/lang/IllegalStateException", .declares (Bundle.initS "java/lang/RuntimeException"), .declares (Bundle.initS "java/lang/Exception"), .declares (Bundle.initS "java/lang/Throwable")] := by decide +kernel
theorem xi_IAE : ∀ w ∈ (vx_atS RX10 118 "java/lang/IllegalArgumentException" z_nms).filter goodWord, w ∈ z_T := fun w hw => List.mem_filter.mpr ⟨(by decide +kernel : ∀ w ∈ (vx_atS RX10 118 "java/lang/IllegalArgumentException" z_nms).filter goodWord, w ∈ lw_tbl) w hw, (List.mem_filter.mp hw).2⟩
theorem xn_IAE : ∀ w ∈ (vx_atS RX10 118 "java/lang/IllegalArgumentException" z_nms).filter (fun w => !goodWord w), w ∈ [Cond.castable "java/lang/IllegalArgumentException" "java/lang/IllegalArgumentException", .declares (Bundle.initS "java/lang/RuntimeException"), .declares (Bundle.initS "java/lang/Exception"), .declares (Bundle.initS "java/lang/Throwable")] := by decide +kernel
theorem xo_ISE : ∀ w ∈ Cond.classLink RX10 103 "java/lang/IllegalStateException" :: Cond.initialized "java/lang/IllegalStateException" :: vx_atS RX10 107 "java/lang/IllegalStateException" z_nms, vx_ot w = true := by decide +kernel
theorem xw_ISE : ∀ w ∈ [Cond.classLink RX10 103 "java/lang/IllegalStateException", .initialized "java/lang/IllegalStateException"], w ∈ z_T := z_all (by decide +kernel)
theorem xo_IAE : ∀ w ∈ Cond.classLink RX10 114 "java/lang/IllegalArgumentException" :: Cond.initialized "java/lang/IllegalArgumentException" :: vx_atS RX10 118 "java/lang/IllegalArgumentException" z_nms, vx_ot w = true := by decide +kernel
theorem xw_IAE : ∀ w ∈ [Cond.classLink RX10 114 "java/lang/IllegalArgumentException", .initialized "java/lang/IllegalArgumentException"], w ∈ z_T := z_all (by decide +kernel)
theorem xi_NSE : ∀ w ∈ ((n_at RX10 155).filter vx_no).filter goodWord, w ∈ z_T := fun w hw => List.mem_filter.mpr ⟨(by decide +kernel : ∀ w ∈ ((n_at RX10 155).filter vx_no).filter goodWord, w ∈ lw_tbl) w hw, (List.mem_filter.mp hw).2⟩
theorem xn_NSE : ∀ w ∈ ((n_at RX10 155).filter vx_no).filter (fun w => !goodWord w), w ∈ [Cond.castable n_E n_E, .declares (Bundle.initS "java/lang/RuntimeException"), .declares (Bundle.initS "java/lang/Exception"), .declares (Bundle.initS "java/lang/Throwable")] := by decide +kernel
theorem xo_NSE : ∀ w ∈ Cond.classLink RX10 151 n_E :: Cond.initialized n_E :: ((n_at RX10 155).filter vx_no), vx_ot w = true := by decide +kernel
theorem xw_NSE : ∀ w ∈ [Cond.classLink RX10 151 n_E, .initialized n_E], w ∈ z_T := z_all (by decide +kernel)
set_option maxRecDepth 100000 in
set_option maxHeartbeats 4000000 in
theorem t_X10_begin (M : mS) (o : Nat → Int64) (X : List va_E) (C : cS) (Q : cS → Prop) (QX : String → cS → Prop) (h : p_X10_begin C Q QX) : z_V q_X10_begin [.ref 200] (wz C M o X) ((zc_v M o X Q), (fun E w => ∃ C : cS, w = wz C M o X ∧ QX E C)) := by
  unfold p_X10_begin at h
  refine v_enter (by decide) (Nat.le_of_ble_eq_true rfl) ?_
  refine vz_aload_n 0 1 dX10_begin_0 rfl rfl ?_
  refine vgci_1 (c_i C 1) 4 dX10_begin_1 of_X10_93 rfl rfl ?_
  refine vz_if_ne 17 7 dX10_begin_4 rfl rfl (fun hc => ?_) (fun hc => ?_)
  · exact v_of (t_X10_beginB M o X C Q (h.1 hc))
  · exact v_throw (cls := "java/lang/IllegalStateException") (by decide) xw_ISE xi_ISE xn_ISE xo_ISE (List.mem_of_getElem? (i := 0) rfl) (List.mem_of_getElem? (i := 0) rfl) dX10_begin_7 dX10_begin_10 dX10_begin_11 dX10_begin_13 dX10_begin_16 ⟨by decide, Nat.le_of_ble_eq_true rfl, Nat.le_of_ble_eq_true rfl, Nat.le_of_ble_eq_true rfl⟩ ⟨C, rfl, h.2 hc⟩
set_option maxRecDepth 100000 in
set_option maxHeartbeats 4000000 in
theorem t_X10_run (M : mS) (o : Nat → Int64) (X : List va_E) (a1 : Int32) (C : cS) (Q : Int32 → cS → Prop) (QX : String → cS → Prop) (h : p_X10_run a1 C Q QX) : z_V q_X10_run [.ref 200, .int a1] (wz C M o X) ((zc_i M o X Q), (fun E w => ∃ C : cS, w = wz C M o X ∧ QX E C)) := by
  unfold p_X10_run at h
  refine v_enter (by decide) (Nat.le_of_ble_eq_true rfl) ?_
  refine vz_iload_n 1 1 dX10_run_0 rfl rfl ?_
  refine vz_if_lt 11 4 dX10_run_1 rfl rfl (fun hc => ?_) (fun hc => ?_)
  · exact v_throw (cls := "java/lang/IllegalArgumentException") (by decide) xw_IAE xi_IAE xn_IAE xo_IAE (List.mem_of_getElem? (i := 1) rfl) (List.mem_of_getElem? (i := 1) rfl) dX10_run_11 dX10_run_14 dX10_run_15 dX10_run_17 dX10_run_20 ⟨by decide, Nat.le_of_ble_eq_true rfl, Nat.le_of_ble_eq_true rfl, Nat.le_of_ble_eq_true rfl⟩ ⟨C, rfl, h.1 hc⟩
  · replace h := h.2 hc
    refine vz_iload_n 1 5 dX10_run_4 rfl rfl ?_
    refine vz_sipush 2000 8 dX10_run_5 rfl rfl ?_
    refine vz_icmp_le 21 11 dX10_run_8 rfl rfl (fun hc => ?_) (fun hc => ?_)
    · replace h := h.1 hc
      refine vz_aload_n 0 22 dX10_run_21 rfl rfl ?_
      refine vgr_0_9 25 dX10_run_22 of_X10_57 rfl ?_
      refine vgci_16 (c_i C 16) 28 dX10_run_25 of_X10_119 rfl rfl ?_
      refine vz_if_ne 41 31 dX10_run_28 rfl rfl (fun hc => ?_) (fun hc => ?_)
      · exact v_of (t_X10_runB M o X a1 C Q (h.1 hc))
      · exact v_throw (cls := "java/lang/IllegalStateException") (by decide) xw_ISE xi_ISE xn_ISE xo_ISE (List.mem_of_getElem? (i := 0) rfl) (List.mem_of_getElem? (i := 2) rfl) dX10_run_31 dX10_run_34 dX10_run_35 dX10_run_37 dX10_run_40 ⟨by decide, Nat.le_of_ble_eq_true rfl, Nat.le_of_ble_eq_true rfl, Nat.le_of_ble_eq_true rfl⟩ ⟨C, rfl, h.2 hc⟩
    · exact v_throw (cls := "java/lang/IllegalArgumentException") (by decide) xw_IAE xi_IAE xn_IAE xo_IAE (List.mem_of_getElem? (i := 1) rfl) (List.mem_of_getElem? (i := 1) rfl) dX10_run_11 dX10_run_14 dX10_run_15 dX10_run_17 dX10_run_20 ⟨by decide, Nat.le_of_ble_eq_true rfl, Nat.le_of_ble_eq_true rfl, Nat.le_of_ble_eq_true rfl⟩ ⟨C, rfl, h.2 hc⟩
set_option maxRecDepth 100000 in
set_option maxHeartbeats 4000000 in
theorem t_X10_said (M : mS) (o : Nat → Int64) (X : List va_E) (a1 : Int32) (C : cS) (Q : Int32 → cS → Prop) (QX : String → cS → Prop) (h : p_X10_said a1 C Q QX) : z_V q_X10_said [.ref 200, .int a1] (wz C M o X) ((zc_i M o X Q), (fun E w => ∃ C : cS, w = wz C M o X ∧ QX E C)) := by
  unfold p_X10_said at h
  refine v_enter (by decide) (Nat.le_of_ble_eq_true rfl) ?_
  refine vz_aload_n 0 1 dX10_said_0 rfl rfl ?_
  refine vgr_0_9 4 dX10_said_1 of_X10_57 rfl ?_
  refine vz_iload_n 1 5 dX10_said_4 rfl rfl ?_
  refine vz_ciV [.int a1] 8 dX10_said_5 ok_X10_said_147 rfl rfl (Nat.le_of_ble_eq_true rfl) rc_25 ⟨rfl, rfl⟩ ⟨Nat.zero_le _, Nat.zero_le _⟩ rfl (t_X6_hasSaid false M o X a1 C _ h) (fun r C1 h => ?_)
  refine vz_if_ne 21 11 dX10_said_8 rfl rfl (fun hc => ?_) (fun hc => ?_)
  · exact v_of (t_X10_saidB M o X a1 C1 Q (h.1 hc))
  · exact v_throwN xw_NSE xi_NSE xn_NSE xo_NSE (List.mem_of_getElem? (i := 2) rfl) (List.mem_of_getElem? (i := 3) rfl) dX10_said_11 dX10_said_14 dX10_said_15 dX10_said_17 dX10_said_20 ⟨by decide, Nat.le_of_ble_eq_true rfl, Nat.le_of_ble_eq_true rfl, Nat.le_of_ble_eq_true rfl⟩ ⟨C1, rfl, h.2 hc⟩
end ZT
