section ZO
variable {μ : z_Mt} {tg : Bool} {pc : Nat} {L : List (Nat × Value)} {st : List Value} {w : List va_E} {uc us : Nat} {Q : z_R}
abbrev z_Enm : String := "java/lang/Enum"
/-- Enum.ordinal of an act: Enum is not said to be initialised, so the three instructions are walked here -/
theorem z_ord {idx b : Nat} (i n : Nat) (hd : decode (z_b μ) pc = .ok (.invokevirtual idx, 3)) (hk : ∀ w ∈ [Cond.methodLink (z_y μ).cls idx ⟨z_Act, "ordinal", "()I"⟩, .sameMethod z_Act z_Enm "ordinal" "()I", .selects z_Act ⟨z_Act, "ordinal", "()I"⟩ yJx29ce0_ordinal_8abf5, .instanceMethod yJx29ce0_ordinal_8abf5, .code yJx29ce0_ordinal_8abf5 cJx29ce0_ordinal_8abf5 1 (some .int), .fieldLink z_Enm 7 z_Enm "ordinal" "I"], w ∈ z_T)
    (hi : i < 26) (hb : b = 2 + i) (hf : 1 ≤ (z_rm μ).frames ∧ (st.map fun v => v.category).sum + 12 ≤ (z_rm μ).locals) (hn : pc + 3 = n) (k : z_go μ tg n L (.int (nI i) :: st) w uc us Q) : z_go μ tg pc L (.ref b :: st) w uc us Q := by
  subst hn
  subst hb
  intro l G p e s m args below meth c H locs ls hH hP hS hl T hT X
  have hts := fun w h => hH.2.2.2.2.2.1 w (hk w h)
  have hlink := hts _ List.mem_cons_self
  have hsame := hts _ (List.mem_cons_of_mem _ List.mem_cons_self)
  have hsel := hts _ (List.mem_cons_of_mem _ (List.mem_cons_of_mem _ List.mem_cons_self))
  have hinst := hts _ (List.mem_cons_of_mem _ (List.mem_cons_of_mem _ (List.mem_cons_of_mem _ List.mem_cons_self)))
  have hcode := hts _ (List.mem_cons_of_mem _ (List.mem_cons_of_mem _ (List.mem_cons_of_mem _ (List.mem_cons_of_mem _ List.mem_cons_self))))
  have hfl := hts _ (List.mem_cons_of_mem _ (List.mem_cons_of_mem _ (List.mem_cons_of_mem _ (List.mem_cons_of_mem _ (List.mem_cons_of_mem _ List.mem_cons_self)))))
  have hX := hH.2.2.2.2.2.2.2.2.2
  obtain ⟨cell, h1, h2, h3, -⟩ := (hX.2.2.1 _ (List.mem_of_getElem? (i := 0) rfl) i hi).kept hS.2.1
  obtain ⟨cf, kf, fi, f, cell2, g1, g2, g3, g4, g5, -⟩ := (hX.2.2.2.1 _ (List.mem_of_getElem? (i := 0) rfl) i hi).kept hS.2.1
  cases h1.symm.trans g3
  have hd0 : va_Decl s ⟨z_Enm, "ordinal", "()I"⟩ := va_Decl.of hinst hcode
  obtain ⟨r0, r, hn, hrm, hstR, hsigR⟩ := hd0
  obtain ⟨cn, ck, r1, hcn, hck, hni, hf9, hn1⟩ := Cond.sameMethod_found hsame
  cases hn.symm.trans hn1
  obtain ⟨mk, methM, hnamed, hmethM, -, habM⟩ := Cond.instanceMethod_spec hinst
  obtain ⟨methN, cN, hmN, hcN, hbN, hlN, hrN, hlkN, -⟩ := Cond.code_spec hnamed hcode
  cases hmethM.symm.trans hmN
  obtain ⟨c2, r2, m2, q1, q2, q3, q4, kP, hkP, hkPi⟩ := Cond.selects_spec hsel
  cases h3.symm.trans q1
  cases hf9.symm.trans q2
  cases hnamed.symm.trans q3
  have hselP : selectMethod e.platform s.vm cell.cls r0 = .method mk := by rw [Launch.admits_selectMethod X.admits]; exact q4
  have hlen : ∀ sig, parseMethodDescriptor "()I" = some sig → ([] : List Value).length = sig.parameters.length := by
    intro sig h
    have h9 : (parseMethodDescriptor "()I").map (fun d => d.parameters.length) = some 0 := by decide +kernel
    rw [h] at h9
    exact (Option.some.inj h9).symm
  obtain ⟨vm₁, X₁, hstep₁⟩ := X.invokevirtualUp hH.1 hH.2.2.2.2.1 hlink hsame (by decide) hn hrm hstR (a := z_a G (2 + i)) (cell := cell) (by rw [hT]; exact h1)
    (fun z h => by rw [h] at h2; cases h2) hselP hmethM habM hkP hkPi (g := F0 m pc ls (.ref (z_a G (2 + i)) :: st.map (z_v G))) rfl (argsL := []) (rest := st.map (z_v G)) (hlen _ hsigR) rfl (by rw [hH.2.1]; exact hd)
  have hpl : e.platform.magicAccessors = ({} : Platform).magicAccessors := by rw [X.admits.platform]
  obtain ⟨ci', cfl, k', i', f', hi', hlinks, hright⟩ := Cond.fieldLink_spec (findClass_of_methodNamed hnamed) hfl e.platform hpl
  cases g1.symm.trans hi'
  obtain ⟨hkk, hff⟩ := State.fieldFound?_spec g1
  obtain ⟨vm', hgives, hW', hready, hfi⟩ := State.fieldEntry (e := e) X₁.warmed hlinks hright hkk hff
  have X₂ := X₁.noted hW'
  obtain ⟨t2, a1, b1⟩ := k l G p e s m args below meth c H locs ls hH hP hS hl _ (show ((T.setVm vm₁).setVm vm').heap = H from hT) X₂
  refine ⟨t2, hstep₁ _ fun acts => ?_, b1⟩
  have hmT : (T.setVm vm₁).vm.method? mk = some methM := by
    rw [X₁.warmed.alike.method?]; exact hmethM
  have hroom := X₁.notFull (g := F0 m pc ls (st.map (z_v G))) (vars := cN.maxLocals) (hl.1.trans hH.2.2.2.1.symm) hf.1 (by rw [hlN]; show 2 * 0 + _ + 12 ≤ _; rw [z_sum]; have := hf.2; omega)
  have hb' := hbN
  have hX1 : At (T.setVm vm₁) (F0 m pc ls (st.map (z_v G))).method c below := X₁.here
  exact Steps.intGetterInline (s := T.setVm vm₁) (g := F0 m pc ls (st.map (z_v G))) (len := 3) (ig := .invokevirtual idx) (index := 7) hX1 hH.1 acts hmT hcN hlkN
    (State.plainMethod.of_named (x := yJx29ce0_ordinal_8abf5) (by decide +kernel) (X₁.named hnamed) hmT) hrN hlN
    (by rw [hbN]; exact dJx29ce0_ordinal_8abf5_0) (by rw [hbN]; exact dJx29ce0_ordinal_8abf5_1) (by rw [hbN]; exact dJx29ce0_ordinal_8abf5_4) hroom (by rw [hH.2.1]; exact hd)
    (X₁.warmed.alike.symm.trans hW'.alike) hgives hready hfi g2 (by show T.heap[_]? = _; rw [hT]; exact g3) g4 g5 a1
end ZO
