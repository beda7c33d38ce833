/-! THE LAW: its rules, its sites -/
section ZL27
def R_law : String := "TwinHalvesLaw"
def lw_P (b : Addr) (xs : List Int32) (args : Array Value) (s : State) : Prop := args = #[.ref b] ∧ s.IntsAt b xs ∧ xs.length ≤ 3074 ∧ (Jvm.Cond.and given_1 narrow_1).before args s = true
def lw_Q (_ : Array Value) (s : State) (o : Outcome) (t : State) : Prop := o = .returned (some (.int 1)) ∧ Framed s o t [] 601024 7292999
def lw_Z (below : List Frame) (a : Array Value) (s : State) : State → Prop := fun t => ∃ o, t.status = .running ∧ Ended t below o ∧ lw_Q a s o t
/-- the law's own end, with 1 on the stack, nothing written that was there before, its room as the claim has it -/
theorem lw_ret {p : Program} {l : Launch} {e : Env} {s : State} {m : MethodId} {below : List Frame} {meth : Method} {c : Code} {b : Nat} (hx : p.tables.exec = Jvm.exec) (hb : c.code = code) (hr : meth.sig.returnType = ret) (hlocks : meth.locks = false) {pc : Nat} {H : Heap} {ls : Array Slot} (hdg : decode code pc = .ok (.ireturn, 1)) : W p l e room_1 s m #[Value.ref b] below meth c H [] 601024 7292999 (lw_Z below #[Value.ref b] s) (F0 m pc ls [.int 1]) := by
  intro T hT X
  obtain ⟨fs, hret, hrun, hended, hW, hframe⟩ := X.leave (v := some (.int 1)) (hlocks := hlocks) (fun h => by rw [hr] at h; cases h)
  have hmeth' : T.vm.method? m = some meth := X.method'
  refine ⟨T.setFrames fs, ?_, .returned (some (.int 1)), hrun, hended, rfl, ⟨_, rfl⟩, hW, hframe⟩
  jvm_step X.here [X.here.top, hx, hb, hdg, hmeth', hr, ret, narrow_b1]
  (try refine ⟨rfl, ?_⟩); (try refine ⟨rfl, ?_⟩)
  first | (intro acts; rw [hret _ acts rfl rfl rfl]) | rw [hret _ _ rfl rfl rfl]
  exact Steps.refl _
/-- what holds at the law's entry: the machine, the code, the tables' words (any of lw_tbl by 'hts w (by decide +kernel)'), the script of L ints xs at the cell b, what the Statement gives of the start (any of its parts by flat_of_before) -/
def lw_At (p : Program) (s : State) (m : MethodId) (meth : Method) (c : Code) (b L : Nat) (xs : Nat → Int32) : Prop :=
  p.tables.exec = Jvm.exec ∧ c.code = code ∧ meth.sig.returnType = ret ∧ c.maxLocals = 7 ∧ s.vm.findClass R_law = some m.cls ∧ (∀ w ∈ lw_tbl, w.before #[Value.ref b] s = true) ∧ va_X b L xs s s.heap ∧ b < s.heap.size ∧ meth.locks = false ∧ (Jvm.Cond.and given_1 narrow_1).before #[Value.ref b] s = true
/-- the law as a method -/
abbrev q_L_law : z_Mt := (yL_law, cL_law, 7, ret, room_1)
def zQ (b N : Nat) (xs : Nat → Int32) : z_K := ((fun G s args _ => zS b N xs G s ∧ args = #[Value.ref b] ∧ G.2.2.1 = s.heap.size), (fun _ s args below => lw_Z below args s))
variable {μ ν : z_Mt} {tg : Bool} {pc : Nat} {L : List (Nat × Value)} {st stk : List Value} {w : List va_E} {uc us : Nat} {Q : z_K} {Q1 : z_R} {C : cS} {M : mS} {o : Nat → Int64} {X : List va_E} {b N : Nat} {xs : Nat → Int32}
theorem zQ_s : ∀ G s a c, (zQ b N xs).1 G s a c → zS b N xs G s := fun _ _ _ _ h => h.1
theorem l_ret (hd : decode cL_law pc = .ok (.ireturn, 1)) (hu : uc ≤ 601024 ∧ us ≤ 7292999) : z_gk q_L_law tg pc L [.int 1] w uc us (zQ b N xs) := by
  intro l hq9 G p e s hy9 m args below meth c hz9 H locs ls hH hP hS hl
  obtain ⟨-, rfl, hg⟩ := hz9
  refine va_forget (fun q hq => ?_) (W.widen hu.1 hu.2 (lw_ret hH.1 hH.2.1 hH.2.2.1 hH.2.2.2.2.2.2.1 hd))
  rw [← hg]
  exact hS.2.2 q hq
/-- what is made besides is no longer told -/
theorem k_tg (k : z_gk μ false pc L st w uc us Q) : z_gk μ true pc L st w uc us Q := by
  intro l hq9 G p e s hy9 m args below meth c hz9 H locs ls hH hP hS hl
  exact k l hq9 G p e s hy9 m args below meth c hz9 H locs ls hH ⟨⟨hP.1.1, fun h => by cases h⟩, hP.2⟩ hS hl
theorem k_callH {idx na : Nat} {hh : List (Nat × Nat × Nat × Nat)} (As : List Value) (n : Nat) (hd : decode (z_b μ) pc = .ok (.invokestatic idx, 3)) (hok : ∀ w ∈ [Cond.methodLink (z_y μ).cls idx (z_y ν), .static (z_y ν), .initialized (z_y ν).cls, .codeWith (z_y ν) (z_b ν) (z_n ν) (z_r ν) hh], w ∈ z_T) (hD : z_okD (z_y ν) na) (hF : z_fit μ ν) (hs : stk = As.reverse ++ st) (hna : As.length = na) (hst : (st.map fun v => v.category).sum ≤ 8)
    (hc : uc + (z_rm ν).cells ≤ (z_rm μ).cells ∧ us + (z_rm ν).slots ≤ (z_rm μ).slots) (hn : pc + 3 = n) (hM : z_MW ν hh As w Q1) (k : ∀ r w1, Q1 r w1 → z_gk μ false n L (r.toList ++ st) w1 (uc + (z_rm ν).cells) (us + (z_rm ν).slots) Q) : z_gk μ false pc L stk w uc us Q := by
  subst hn; subst hs
  intro l hq9 G p e s hy9 m args below meth c hz9 H locs ls hH hP hS hl
  have he : (As.reverse ++ st).map (z_v G) = (As.map (z_v G)).reverse ++ st.map (z_v G) := by simp
  rw [he]
  exact kz_callx (a := (As.map (z_v G)).toArray) hq9 hy9 hz9 hH hS hl (vx_runSW (As := As.map (z_v G)) (rest := st.map (z_v G)) ⟨hH.1, hH.2.1, hH.2.2.2.1, hH.2.2.2.2.1, hH.2.2.2.2.2.1⟩ (hM l G hq9) (vx_cwSW na hH.2.2.2.2.2.1 (z_goodC hok) rfl rfl rfl hD hF) ⟨z_blindY G _ w, z_preY _ hH.2.2.2.2.2.2.2.2.2 hy9 hP hS⟩ rfl (by rw [List.length_map]; exact hna) hl.1 rfl (lv_room (by rw [z_sum]; exact hst)) hd hc) k
theorem k_callSS {idx na : Nat} (As : List Value) (n : Nat) (hK : ∀ G s a c, Q.1 G s a c → zS b N xs G s) (hd : decode (z_b μ) pc = .ok (.invokestatic idx, 3)) (hok : z_okS μ ν idx na) (hs : stk = As.reverse ++ st) (hna : As.length = na) (hst : (st.map fun v => v.category).sum ≤ 8)
    (hc : uc + (z_rm ν).cells ≤ (z_rm μ).cells ∧ us + (z_rm ν).slots ≤ (z_rm μ).slots) (hn : pc + 3 = n) (hM : z_MS b N xs ν tg As w Q1) (k : ∀ r w1, Q1 r w1 → z_gk μ tg n L (r.toList ++ st) w1 (uc + (z_rm ν).cells) (us + (z_rm ν).slots) Q) : z_gk μ tg pc L stk w uc us Q := by
  subst hn; subst hs
  intro l hq9 G p e s hy9 m args below meth c hz9 H locs ls hH hP hS hl
  have he : (As.reverse ++ st).map (z_v G) = (As.map (z_v G)).reverse ++ st.map (z_v G) := by simp
  rw [he]
  obtain ⟨g1, g2, g3, g4⟩ := hK _ _ _ _ hz9
  refine kz_callx (a := (As.map (z_v G)).toArray) hq9 hy9 hz9 hH hS hl (va_runS (As := As.map (z_v G)) (rest := st.map (z_v G)) ⟨hH.1, hH.2.1, hH.2.2.2.1, hH.2.2.2.2.1, hH.2.2.2.2.2.1⟩ (hM l G hq9) (va_cwS na hH.2.2.2.2.2.1 (z_goodC hok.1) rfl rfl rfl hok.2.1 hok.2.2) ⟨fun a U g mk h => ?_, fun U hU hW => ?_⟩ rfl (by rw [List.length_map]; exact hna) hl.1 rfl (lv_room (by rw [z_sum]; exact hst)) hd hc) k
  · obtain ⟨h1, ⟨⟨h2, h3⟩, h4⟩, h5, h6, h7, h8⟩ := h
    exact ⟨h1, ⟨⟨h2.alike (Vm.Alike.refl U.vm), z_X.same rfl h3⟩, z_Y.same rfl h4⟩, h5, va_X.moved (Vm.Alike.refl U.vm) h6, h7, h8⟩
  · refine ⟨rfl, ⟨⟨by rw [hU]; exact hP.alike hW.alike, z_X_end hH.2.2.2.2.2.2.2.2.2 hS hU hW⟩, hy9.warm hW⟩, g1, va_X.moved hW.alike (va_X.kept g2 (by rw [hU]; exact hS.2.1 b g3 g4)), by rw [hU]; exact Nat.lt_of_lt_of_le g3 hS.1, g4⟩
theorem oL_37 : z_okV q_L_law q_X10_feed 37 5 := ⟨z_all (by decide +kernel), ⟨by decide, by decide, by decide +kernel⟩, ⟨by decide, by decide⟩⟩
theorem oL_41 : z_okV q_L_law q_X11_feed 41 5 := ⟨z_all (by decide +kernel), ⟨by decide, by decide, by decide +kernel⟩, ⟨by decide, by decide⟩⟩
theorem oL_42 : z_okV q_L_law q_X10_end 42 1 := ⟨z_all (by decide +kernel), ⟨by decide, by decide, by decide +kernel⟩, ⟨by decide, by decide⟩⟩
theorem oL_45 : z_okV q_L_law q_X11_end 45 1 := ⟨z_all (by decide +kernel), ⟨by decide, by decide, by decide +kernel⟩, ⟨by decide, by decide⟩⟩
theorem oL_46 : z_okV q_L_law q_X10_program 46 0 := ⟨z_all (by decide +kernel), ⟨by decide, by decide, by decide +kernel⟩, ⟨by decide, by decide⟩⟩
theorem oL_50 : z_okV q_L_law q_X11_program 50 0 := ⟨z_all (by decide +kernel), ⟨by decide, by decide, by decide +kernel⟩, ⟨by decide, by decide⟩⟩
theorem oL_51 : z_okV q_L_law q_X10_fault 51 0 := ⟨z_all (by decide +kernel), ⟨by decide, by decide, by decide +kernel⟩, ⟨by decide, by decide⟩⟩
theorem oL_54 : z_okV q_L_law q_X11_fault 54 0 := ⟨z_all (by decide +kernel), ⟨by decide, by decide, by decide +kernel⟩, ⟨by decide, by decide⟩⟩
theorem oL_58 : z_okV q_L_law q_X11_begin 58 0 := ⟨z_all (by decide +kernel), ⟨by decide, by decide, by decide +kernel⟩, ⟨by decide, by decide⟩⟩
theorem oL_59 : z_okV q_L_law q_X11_thrown 59 0 := ⟨z_all (by decide +kernel), ⟨by decide, by decide, by decide +kernel⟩, ⟨by decide, by decide⟩⟩
theorem oL_65 : z_okV q_L_law q_X11_run 65 1 := ⟨z_all (by decide +kernel), ⟨by decide, by decide, by decide +kernel⟩, ⟨by decide, by decide⟩⟩
theorem oL_66 : z_okV q_L_law q_X10_about 66 1 := ⟨z_all (by decide +kernel), ⟨by decide, by decide, by decide +kernel⟩, ⟨by decide, by decide⟩⟩
theorem oL_69 : z_okV q_L_law q_X11_about 69 1 := ⟨z_all (by decide +kernel), ⟨by decide, by decide, by decide +kernel⟩, ⟨by decide, by decide⟩⟩
theorem oL_72 : z_okV q_L_law q_X11_said 72 1 := ⟨z_all (by decide +kernel), ⟨by decide, by decide, by decide +kernel⟩, ⟨by decide, by decide⟩⟩
theorem oL_73 : z_okV q_L_law q_X10_act 73 4 := ⟨z_all (by decide +kernel), ⟨by decide, by decide, by decide +kernel⟩, ⟨by decide, by decide⟩⟩
theorem oL_77 : z_okV q_L_law q_X11_act 77 4 := ⟨z_all (by decide +kernel), ⟨by decide, by decide, by decide +kernel⟩, ⟨by decide, by decide⟩⟩
theorem oL_78 : z_okV q_L_law q_X10_pass 78 1 := ⟨z_all (by decide +kernel), ⟨by decide, by decide, by decide +kernel⟩, ⟨by decide, by decide⟩⟩
theorem oL_81 : z_okV q_L_law q_X11_pass 81 1 := ⟨z_all (by decide +kernel), ⟨by decide, by decide, by decide +kernel⟩, ⟨by decide, by decide⟩⟩
theorem oL_82 : z_okV q_L_law q_X10_turn 82 0 := ⟨z_all (by decide +kernel), ⟨by decide, by decide, by decide +kernel⟩, ⟨by decide, by decide⟩⟩
theorem oL_86 : z_okV q_L_law q_X11_turn 86 0 := ⟨z_all (by decide +kernel), ⟨by decide, by decide, by decide +kernel⟩, ⟨by decide, by decide⟩⟩
theorem oL_87 : z_okV q_L_law q_X10_memory 87 1 := ⟨z_all (by decide +kernel), ⟨by decide, by decide, by decide +kernel⟩, ⟨by decide, by decide⟩⟩
theorem oL_90 : z_okV q_L_law q_X11_memory 90 1 := ⟨z_all (by decide +kernel), ⟨by decide, by decide, by decide +kernel⟩, ⟨by decide, by decide⟩⟩
theorem oL_91 : z_okV q_L_law q_X10_hand 91 2 := ⟨z_all (by decide +kernel), ⟨by decide, by decide, by decide +kernel⟩, ⟨by decide, by decide⟩⟩
theorem oL_95 : z_okV q_L_law q_X11_hand 95 2 := ⟨z_all (by decide +kernel), ⟨by decide, by decide, by decide +kernel⟩, ⟨by decide, by decide⟩⟩
theorem oL_96 : z_okV q_L_law q_X10_stack 96 2 := ⟨z_all (by decide +kernel), ⟨by decide, by decide, by decide +kernel⟩, ⟨by decide, by decide⟩⟩
theorem oL_99 : z_okV q_L_law q_X11_stack 99 2 := ⟨z_all (by decide +kernel), ⟨by decide, by decide, by decide +kernel⟩, ⟨by decide, by decide⟩⟩
theorem oL_100 : z_okV q_L_law q_X10_slot 100 3 := ⟨z_all (by decide +kernel), ⟨by decide, by decide, by decide +kernel⟩, ⟨by decide, by decide⟩⟩
theorem oL_104 : z_okV q_L_law q_X11_slot 104 3 := ⟨z_all (by decide +kernel), ⟨by decide, by decide, by decide +kernel⟩, ⟨by decide, by decide⟩⟩
theorem oL_105 : z_okV q_L_law q_X10_reach 105 1 := ⟨z_all (by decide +kernel), ⟨by decide, by decide, by decide +kernel⟩, ⟨by decide, by decide⟩⟩
theorem oL_108 : z_okV q_L_law q_X11_reach 108 1 := ⟨z_all (by decide +kernel), ⟨by decide, by decide, by decide +kernel⟩, ⟨by decide, by decide⟩⟩
theorem oL_109 : z_okV q_L_law q_X10_show 109 1 := ⟨z_all (by decide +kernel), ⟨by decide, by decide, by decide +kernel⟩, ⟨by decide, by decide⟩⟩
theorem oL_112 : z_okV q_L_law q_X11_show 112 1 := ⟨z_all (by decide +kernel), ⟨by decide, by decide, by decide +kernel⟩, ⟨by decide, by decide⟩⟩
theorem oL_113 : z_okV q_L_law q_X10_letter 113 1 := ⟨z_all (by decide +kernel), ⟨by decide, by decide, by decide +kernel⟩, ⟨by decide, by decide⟩⟩
theorem oL_116 : z_okV q_L_law q_X11_letter 116 1 := ⟨z_all (by decide +kernel), ⟨by decide, by decide, by decide +kernel⟩, ⟨by decide, by decide⟩⟩
theorem oL_25 : z_okS q_L_law q_L_cell 25 2 := ⟨z_all (by decide +kernel), ⟨by decide, by decide, by decide +kernel⟩, ⟨by decide, by decide⟩⟩
theorem oL_31 : z_okI q_L_law q_X10_init 31 2 := ⟨z_all (by decide +kernel), rfl, rfl, ⟨by decide, by decide, by decide +kernel⟩, ⟨by decide, by decide⟩⟩
theorem oL_36 : z_okI q_L_law q_X11_init 36 2 := ⟨z_all (by decide +kernel), rfl, rfl, ⟨by decide, by decide, by decide +kernel⟩, ⟨by decide, by decide⟩⟩
theorem oL_55 : ∀ w ∈ [Cond.methodLink (z_y q_L_law).cls 55 (z_y q_L_begin), .static (z_y q_L_begin), .initialized (z_y q_L_begin).cls, .codeWith (z_y q_L_begin) (z_b q_L_begin) (z_n q_L_begin) (z_r q_L_begin) hb_L], w ∈ z_T := z_all (by decide +kernel)
theorem oL_62 : ∀ w ∈ [Cond.methodLink (z_y q_L_law).cls 62 (z_y q_L_run), .static (z_y q_L_run), .initialized (z_y q_L_run).cls, .codeWith (z_y q_L_run) (z_b q_L_run) (z_n q_L_run) (z_r q_L_run) hr_L], w ∈ z_T := z_all (by decide +kernel)
theorem oL_70 : ∀ w ∈ [Cond.methodLink (z_y q_L_law).cls 70 (z_y q_L_said), .static (z_y q_L_said), .initialized (z_y q_L_said).cls, .codeWith (z_y q_L_said) (z_b q_L_said) (z_n q_L_said) (z_r q_L_said) hs_L], w ∈ z_T := z_all (by decide +kernel)
end ZL27
