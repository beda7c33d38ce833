section ZC
abbrev z_cl : List vw_C := [(RX2, TX2, 1), (RX3, TX3, 12), (RX4, TX4, 5), (RX5, TX5, 3), (RX6, TX6, 10), (RX7, TX7, 2), (RX8, TX8, 6), (RX9, TX9, 4), (RX10, TX10, 12), (RX11, TX11, 70)]
def z_T : List Cond := lw_tbl.filter goodWord
theorem z_in (i : Nat) {w : Cond} (h : lw_tbl[i]? = some w) (hg : goodWord w = true) : w ∈ z_T := List.mem_filter.mpr ⟨List.mem_of_getElem? h, hg⟩
theorem z_goodT : GoodIn z_T z_T := fun w h => ⟨h, good_of_word (List.mem_filter.mp h).2⟩
theorem z_goodC {l : List Cond} (h : ∀ w ∈ l, w ∈ z_T) : GoodIn z_T (l ++ z_T) := fun w hw => (List.mem_append.mp hw).elim (fun h1 => z_goodT w (h w h1)) (fun h1 => z_goodT w h1)
def z_tys (G : z_G) : List (ClassId × FieldType) := [(G.2.1 0, .byte), (G.2.1 1, .int), (G.2.1 2, .long), (G.2.1 3, .boolean)]
/-- the cells w stand; if 'tg', nothing else was made since -/
def z_P (G : z_G) (tg : Bool) (w : List va_E) (U : State) (H : Heap) : Prop :=
  (G.2.2.1 + w.length ≤ H.size ∧ (tg = true → H.size = G.2.2.1 + w.length)) ∧ va_P G.1 z_cl (z_ws G 0 w) H ∧ va_K G.1 z_cl (z_tys G) U
theorem z_P.alike {G : z_G} {tg : Bool} {w : List va_E} {s U : State} {H : Heap} (hvm : s.vm.Alike U.vm) (h : z_P G tg w s H) : z_P G tg w U H := ⟨h.1, h.2.1, va_K.moved hvm h.2.2⟩
/-- a method: its name, bytes, locals, answer, room -/
abbrev z_Mt : Type := MethodName × ByteArray × Nat × Option FieldType × Room
abbrev z_y (μ : z_Mt) : MethodName := μ.1
abbrev z_b (μ : z_Mt) : ByteArray := μ.2.1
abbrev z_n (μ : z_Mt) : Nat := μ.2.2.1
abbrev z_r (μ : z_Mt) : Option FieldType := μ.2.2.2.1
abbrev z_rm (μ : z_Mt) : Room := μ.2.2.2.2
abbrev z_wd (μ : z_Mt) : List Cond := .code (z_y μ) (z_b μ) (z_n μ) (z_r μ) :: z_T
abbrev z_R : Type := Option Value → List va_E → Prop
def z_Q (G : z_G) (tg : Bool) (Q : z_R) : Array Value → State → Outcome → State → Prop := fun _ st oc t =>
  (∃ (r : Option Value) (w : List va_E), Q r w ∧ oc = .returned (r.map (z_v G)) ∧ z_P G tg w t t.heap ∧ z_X G t t.heap) ∧ va_F (z_A G) st t
def z_H (μ : z_Mt) (G : z_G) (p : Program) (s : State) (m : MethodId) (args : Array Value) (meth : Method) (c : Code) : Prop :=
  p.tables.exec = Jvm.exec ∧ c.code = z_b μ ∧ meth.sig.returnType = z_r μ ∧ c.maxLocals = z_n μ ∧ s.vm.findClass (z_y μ).cls = some m.cls ∧ (∀ w ∈ z_T, w.before args s = true) ∧ meth.locks = false ∧ meth.name = (z_y μ).name ∧ G.2.2.1 ≤ s.heap.size ∧ z_X G s s.heap
/-- the method μ, at pc, with locals L, stack st, cells w, uc cells of us slots made by now: it comes to its end with Q -/
def z_go (μ : z_Mt) (tg : Bool) (pc : Nat) (L : List (Nat × Value)) (st : List Value) (w : List va_E) (uc us : Nat) (Q : z_R) : Prop :=
  ∀ (l : Launch) (G : z_G) (p : Program) (e : Env) (s : State) (m : MethodId) (args : Array Value) (below : List Frame) (meth : Method) (c : Code) (H : Heap) (locs : List Loc) (ls : Array Slot),
    z_H μ G p s m args meth c → z_P G tg w s H → va_S (z_A G) s.heap H locs → lv_has ls (z_n μ) (z_L G L) →
    W p l e (z_rm μ) s m args below meth c H locs uc us (MQ below (z_Q G tg Q) args s (z_rm μ).cells (z_rm μ).slots (z_A G)) (F0 m pc ls (st.map (z_v G)))
/-- the method's contract: from the cells w with arguments av to its end with Q -/
def z_M (μ : z_Mt) (tg : Bool) (av : List Value) (w : List va_E) (Q : z_R) : Prop :=
  ∀ (l : Launch) (G : z_G), Met l (z_y μ) (z_wd μ) (z_rm μ) (va_Pc (av.map (z_v G)) (fun U => z_P G tg w U U.heap ∧ z_X G U U.heap)) (z_Q G tg Q) (z_rm μ).cells (z_rm μ).slots (z_A G)
theorem z_enter {μ : z_Mt} {tg : Bool} {av : List Value} {w : List va_E} {Q : z_R} (hy : plainName (z_y μ).cls = true) (hn : (lg_sl av).length ≤ z_n μ) (k : z_go μ tg 0 (lv_args 0 av) [] w 0 0 Q) : z_M μ tg av w Q := by
  intro l G
  refine Met.ofW (cc := z_b μ) (maxL := z_n μ) (ret := z_r μ) hy rfl ?_
  intro p e s m args below meth c s₁ B hml hv
  obtain ⟨rfl, hP, hX⟩ := hv
  have hts := atoms_spec (ws := z_wd μ) B.pre
  rw [lg_entry_eq]
  have hl := lv_entry (av.map (z_v G)) (n := z_n μ) (by rw [z_Lsl]; exact hn)
  rw [z_Largs] at hl
  exact k l G p e s m _ below meth c s.heap [] _ ⟨B.exec, B.bytes, B.returns, hml, findClass_of_methodNamed B.named, fun w hw => hts w (List.mem_cons_of_mem _ hw), B.notSynchronized, (name_of_methodNamed B.named B.method).1, Nat.le_trans (Nat.le_add_right _ _) hP.1.1, hX⟩ hP va_S.rf hl
/-- fewer locals are known -/
theorem z_loc {μ : z_Mt} {tg : Bool} {pc : Nat} {L : List (Nat × Value)} {st : List Value} {w : List va_E} {uc us : Nat} {Q : z_R} (L' : List (Nat × Value)) (h : ∀ q ∈ L', q ∈ L) (k : z_go μ tg pc L' st w uc us Q) : z_go μ tg pc L st w uc us Q := by
  intro l G p e s m args below meth c H locs ls hH hP hS hl
  refine k l G p e s m args below meth c H locs ls hH hP hS ⟨hl.1, hl.2.1, fun q hq => ?_⟩
  obtain ⟨q0, h0, rfl⟩ := List.mem_map.mp hq
  exact hl.2.2 _ (List.mem_map.mpr ⟨q0, h q0 h0, rfl⟩)
theorem z_widen {μ : z_Mt} {tg : Bool} {pc : Nat} {L : List (Nat × Value)} {st : List Value} {w : List va_E} {uc us uc' us' : Nat} {Q : z_R} (h1 : uc ≤ uc') (h2 : us ≤ us') (k : z_go μ tg pc L st w uc' us' Q) : z_go μ tg pc L st w uc us Q := by
  intro l G p e s m args below meth c H locs ls hH hP hS hl
  exact W.widen h1 h2 (k l G p e s m args below meth c H locs ls hH hP hS hl)
theorem z_post {μ : z_Mt} {tg : Bool} {av : List Value} {w : List va_E} {Q Q' : z_R} (h : ∀ r w, Q r w → Q' r w) (k : z_M μ tg av w Q) : z_M μ tg av w Q' := by
  intro l G p e ha hc hk s m args below hf happ hpre hK
  obtain ⟨n, o, h1, h2, h3, ⟨⟨r, w1, q1, q2⟩, q3⟩, q4⟩ := k l G p e ha hc hk s m args below hf happ hpre hK
  exact ⟨n, o, h1, h2, h3, ⟨⟨r, w1, h r w1 q1, q2⟩, q3⟩, q4⟩
end ZC
