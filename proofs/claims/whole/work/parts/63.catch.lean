/-! AN EXCEPTION IS CAUGHT by a row of the method's own table -/
section ZC23
/-- the search through the rows ts comes to the row that begins at pc, and leaves the tables vm2 -/
def cz_F (e : Env) (S : State) (f : JFrame) (a : Addr) (ts : List ExceptionTableEntry) (pc : Nat) (vm2 : Vm) : Prop :=
  ∀ (Q : Handler → Pre) (E : CtlPost) (d : Bool) (acts : List Action), wp (findHandler.go f a ts) Q E e d acts S ↔ Q (.found pc) d acts (S.setVm vm2)
/-- a row that covers: its class is resolved; it takes the exception, or the search goes on -/
theorem cz_row {e : Env} {S : State} {f : JFrame} {a : Addr} {x : ExceptionTableEntry} {ts : List ExceptionTableEntry} {cc : ClassId} {cell : Cell} {b : Bool} (hx : covers x f.pc = true) (h0 : x.catchType ≠ 0)
    (hl : S.vm.ClassLinks e.platform f.method.cls x.catchType cc) (hcell : S.heap[a]? = some cell) (hobj : ∀ k, cell.vm ≠ .statics k) (hk : ∃ k, S.vm.classes[cell.cls]? = some k) (hc : ∃ k, S.vm.classes[cc]? = some k)
    (hfit : S.vm.assignable cell.cls cc = b) (Q : Handler → Pre) (E : CtlPost) (d : Bool) (acts : List Action) :
    wp (findHandler.go f a (x :: ts)) Q E e d acts S ↔ (if b = true then Q (.found x.handlerPc) d acts (S.setVm (S.vm.noted f.method.cls x.catchType (.cls cc))) else wp (findHandler.go f a ts) Q E e d acts (S.setVm (S.vm.noted f.method.cls x.catchType (.cls cc)))) := by
  have al : S.vm.Alike (S.vm.noted f.method.cls x.catchType (.cls cc)) := (Vm.Alike.refl S.vm).noted _ _ _
  obtain ⟨r1, r2⟩ := (resolveClass_links e.toSetting hl).op (op := VmOp.resolveClass f.method.cls x.catchType) rfl
  obtain ⟨ka, hka⟩ := hk
  obtain ⟨kb, hkb⟩ := hc
  obtain ⟨ka', hka', -⟩ := al.2.2 _ _ hka
  obtain ⟨kb', hkb', -⟩ := al.2.2 _ _ hkb
  have hb : (S.vm.noted f.method.cls x.catchType (.cls cc)).assignable cell.cls cc = b := by rw [al.assignable]; exact hfit
  simp only [covers] at hx
  cases b <;> simp [findHandler.go, hx, h0, r1, r2, hcell, hobj, hka', hkb', hb, VmOp.dirties, VmOp.acts]
/-- the row x catches in the state S, whose tables grew out of s0's -/
theorem cz_hit {e : Env} {s0 S : State} {f : JFrame} {a : Addr} {x : ExceptionTableEntry} {cc : ClassId} {cell : Cell} (hW : s0.WarmedH S.vm) (hx : covers x f.pc = true) (h0 : x.catchType ≠ 0)
    (hl : s0.vm.ClassLinks e.platform f.method.cls x.catchType cc) (hcell : S.heap[a]? = some cell) (hobj : ∀ k, cell.vm ≠ .statics k) (hk : ∃ k, s0.vm.classes[cell.cls]? = some k) (hfit : s0.vm.assignable cell.cls cc = true) (ts : List ExceptionTableEntry) :
    ∃ vm2, s0.WarmedH vm2 ∧ cz_F e S f a (x :: ts) x.handlerPc vm2 := by
  obtain ⟨dk, _, _, kt, hd, _, _, _, _, hkt, _, hopen⟩ := hl.here
  obtain ⟨k1, hk1⟩ := hk
  obtain ⟨k1', hk1', -⟩ := hW.alike.2.2 _ _ hk1
  obtain ⟨kt', hkt', -⟩ := hW.alike.2.2 _ _ hkt
  refine ⟨_, hW.noted hd hopen (State.rightAt_cls hl), fun Q E d acts => ?_⟩
  rw [cz_row hx h0 (hW.classLinks hl) hcell hobj ⟨k1', hk1'⟩ ⟨kt', hkt'⟩ (b := true) (by rw [hW.alike.assignable]; exact hfit)]
  rfl
/-- .. the row x doesn't take it, the rows behind it do -/
theorem cz_pass {e : Env} {s0 S : State} {f : JFrame} {a : Addr} {x : ExceptionTableEntry} {cc : ClassId} {cell : Cell} (hW : s0.WarmedH S.vm) (hx : covers x f.pc = true) (h0 : x.catchType ≠ 0)
    (hl : s0.vm.ClassLinks e.platform f.method.cls x.catchType cc) (hcell : S.heap[a]? = some cell) (hobj : ∀ k, cell.vm ≠ .statics k) (hk : ∃ k, s0.vm.classes[cell.cls]? = some k) (hfit : s0.vm.assignable cell.cls cc = false) {ts : List ExceptionTableEntry} {pc : Nat}
    (go : ∀ S' : State, s0.WarmedH S'.vm → S'.heap[a]? = some cell → ∃ vm2, s0.WarmedH vm2 ∧ cz_F e S' f a ts pc vm2) : ∃ vm2, s0.WarmedH vm2 ∧ cz_F e S f a (x :: ts) pc vm2 := by
  obtain ⟨dk, _, _, kt, hd, _, _, _, _, hkt, _, hopen⟩ := hl.here
  obtain ⟨k1, hk1⟩ := hk
  obtain ⟨k1', hk1', -⟩ := hW.alike.2.2 _ _ hk1
  obtain ⟨kt', hkt', -⟩ := hW.alike.2.2 _ _ hkt
  obtain ⟨vm2, g1, g2⟩ := go (S.setVm (S.vm.noted f.method.cls x.catchType (.cls cc))) (hW.noted hd hopen (State.rightAt_cls hl)) hcell
  refine ⟨vm2, g1, fun Q E d acts => ?_⟩
  rw [cz_row hx h0 (hW.classLinks hl) hcell hobj ⟨k1', hk1'⟩ ⟨kt', hkt'⟩ (b := false) (by rw [hW.alike.assignable]; exact hfit)]
  exact g2 Q E d acts
/-- one step of the machine, into the handler -/
theorem cz_step {e : Env} {S : State} {a : Addr} {f : JFrame} {r : List Frame} {pc : Nat} {vm2 : Vm} {mt : Method} {cd : Code} (hm : S.vm.method? f.method = some mt) (hc : mt.code = some cd) (h : cz_F e S f a cd.exceptionTable.toList pc vm2) :
    (stepThrowing e S a (.java f :: r)).Is ((S.setVm vm2).setFrames (.java { f with pc := pc, stack := [.ref a] } :: r)) [] := by
  have h' : ∀ (Q : Handler → Pre) (E : CtlPost) (d : Bool) (acts : List Action), wp (findHandler f a) Q E e d acts S ↔ Q (.found pc) d acts (S.setVm vm2) := fun Q E d acts => by rw [W.findHandler_eq hm hc]; exact h Q E d acts
  simp only [stepThrowing, searchFrame, vmDo]
  generalize hr : Sem.go _ e false [] S = res
  obtain ⟨as, rfl, ha⟩ := Sem.eq_ok_of hr (a := Handler.found pc) (s' := S.setVm vm2) (acts' := []) (by simp [h' _ _ _ _])
  exact ⟨rfl, ha⟩
variable {p : Program} {l : Launch} {e : Env} {R : Room} {s : State} {m : MethodId} {args : Array Value} {below : List Frame} {meth : Method} {c : Code} {H : Heap} {locs : List Loc} {cells slots : Nat} {Q : State → Prop} {ls : Array Slot} {rest : List Value} {pc hp : Nat}
/-- the exception q, laid over this frame, is caught: the frame goes on at hp with q alone on its stack -/
theorem cz_catch {q : Addr} {ce : Cell} (hcell : H[q]? = some ce)
    (hfind : ∀ S : State, s.WarmedH S.vm → S.heap[q]? = some ce → ∃ vm2, s.WarmedH vm2 ∧ cz_F e S (F0 m pc ls rest) q c.exceptionTable.toList hp vm2)
    (kk : W p l e R s m args below meth c H locs cells slots Q (F0 m hp ls [.ref q])) : vx_W p l e R s m args below meth c H locs cells slots Q (F0 m pc ls rest) q := by
  intro T hT X
  have h9 : (((T.setTop (F0 m pc ls rest)).pushFrame (.throwing q)).heap)[q]? = some ce := by
    show T.heap[q]? = some ce
    rw [hT]; exact hcell
  obtain ⟨vm2, g1, g2⟩ := hfind ((T.setTop (F0 m pc ls rest)).pushFrame (.throwing q)) X.warmed h9
  obtain ⟨t, a1, b1⟩ := kk (T.setVm vm2) hT (X.noted g1)
  refine ⟨t, ?_, b1⟩
  have hat : At T (F0 m pc ls rest).method c below := X.here
  obtain ⟨hgo, hw⟩ := hat.throwing q
  refine Steps.head hgo hw ?_
  rw [stepThread_throwing (frames_entered hat.top _), (cz_step (S := (T.setTop (F0 m pc ls rest)).pushFrame (.throwing q)) (f := F0 m pc ls rest) (mt := meth) (cd := c) X.method' X.code g2).1]
  obtain ⟨g₀, hg⟩ := Option.isSome_iff_exists.mp hat.top
  obtain ⟨r, hr⟩ := State.topJava?_eq_some.mp hg
  have hr2 : (T.setVm vm2).frames = .java g₀ :: r := hr
  have sw : ∀ (u : State) (F G : List Frame), ((u.setFrames F).setVm vm2).setFrames G = (u.setVm vm2).setFrames G := fun u F G => by
    have h1 : (u.setFrames F).setVm vm2 = (u.setVm vm2).setFrames F := rfl
    rw [h1, State.setFrames_setFrames]
  rw [State.setTop_of_frames _ hr2] at a1
  rw [hr, List.tail_cons, State.pushFrame, sw, State.setTop_of_frames _ hr, sw]
  exact a1
end ZC23
