/-! L.begin, L.run, L.said, L.cell -/
section ZO26
variable {μ ν : z_Mt} {tg : Bool} {pc : Nat} {L : List (Nat × Value)} {st stk : List Value} {w : List va_E} {uc us : Nat} {Q : z_K} {Q1 : z_R} {C : cS} {M : mS} {o : Nat → Int64} {X : List va_E} {b N : Nat} {xs : Nat → Int32}
/-- the contract of a method with an exception table that throws nothing -/
def z_MW (μ : z_Mt) (hh : List (Nat × Nat × Nat × Nat)) (av : List Value) (w : List va_E) (Q : z_R) : Prop :=
  ∀ (l : Launch) (G : z_G), l.stackTraces = false → Met l (z_y μ) (.codeWith (z_y μ) (z_b μ) (z_n μ) (z_r μ) hh :: z_T) (z_rm μ) (va_Pc (av.map (z_v G)) (fun U => (z_P G false w U U.heap ∧ z_X G U U.heap) ∧ z_Y U)) (z_Q G false Q) (z_rm μ).cells (z_rm μ).slots (z_A G)
theorem w_enter {hh : List (Nat × Nat × Nat × Nat)} {av : List Value} (hy : plainName (z_y μ).cls = true) (hn : (lg_sl av).length ≤ z_n μ) (k : z_gk μ false 0 (lv_args 0 av) [] w 0 0 ((fun _ _ _ c => c.exceptionTable.toList = tableOf hh), z_mq μ false Q1)) : z_MW μ hh av w Q1 := by
  intro l G hq9
  refine va_MetW (cc := z_b μ) (maxL := z_n μ) (ret := z_r μ) (hh := hh) hy rfl ?_
  intro p e s m args below meth c s₁ B hml hv
  obtain ⟨rfl, ⟨hP, hX⟩, hy9⟩ := hv
  have hts := atoms_spec (ws := Cond.codeWith (z_y μ) (z_b μ) (z_n μ) (z_r μ) hh :: z_T) B.pre
  rw [lg_entry_eq]
  have hl := lv_entry (av.map (z_v G)) (n := z_n μ) (by rw [z_Lsl]; exact hn)
  rw [z_Largs] at hl
  exact k l hq9 G p e s hy9 m _ below meth c (vx_table (x := z_y μ) B (hts _ List.mem_cons_self)) s.heap [] _ ⟨B.exec, B.bytes, B.returns, hml, findClass_of_methodNamed B.named, fun w hw => hts w (List.mem_cons_of_mem _ hw), B.notSynchronized, (name_of_methodNamed B.named B.method).1, Nat.le_trans (Nat.le_add_right _ _) hP.1.1, hX⟩ hP va_S.rf hl
/-- a row of the table that takes E, a row that doesn't -/
theorem z_takes {e : Env} {s : State} {m : MethodId} {args : Array Value} {own E : String} {ty : Nat} {ce : Cell} (hpl : e.platform.magicAccessors = ({} : Platform).magicAccessors) (hown : s.vm.findClass own = some m.cls) (hlink : (Cond.classLink own ty E).before args s = true) (hcast : va_Nw (.castable E E) s) (hcl : s.vm.findClass E = some ce.cls) :
    ∃ cc, s.vm.ClassLinks e.platform m.cls ty cc ∧ s.vm.assignable ce.cls cc = true ∧ ∃ k, s.vm.classes[ce.cls]? = some k := by
  obtain ⟨c3, c4, hc3, hc4, hasg⟩ := Cond.castable_spec (va_Nw.use (A := args) rfl hcast)
  obtain ⟨c5, hc5, hcl5⟩ := Cond.classLink_spec hown hlink e.platform hpl
  cases Option.some.inj (hc3.symm.trans hcl)
  cases Option.some.inj (hc4.symm.trans hc5)
  exact ⟨_, hcl5, hasg, Vm.classAt_of_findClass hcl⟩
theorem z_leaves {e : Env} {s : State} {m : MethodId} {args : Array Value} {own E F : String} {ty : Nat} {ce : Cell} (hpl : e.platform.magicAccessors = ({} : Platform).magicAccessors) (hown : s.vm.findClass own = some m.cls) (hlink : (Cond.classLink own ty F).before args s = true) (hno : va_Nc E F s) (hcl : s.vm.findClass E = some ce.cls) :
    ∃ cc, s.vm.ClassLinks e.platform m.cls ty cc ∧ s.vm.assignable ce.cls cc = false ∧ ∃ k, s.vm.classes[ce.cls]? = some k := by
  obtain ⟨c3, c4, hc3, hc4, hasg⟩ := hno
  obtain ⟨c5, hc5, hcl5⟩ := Cond.classLink_spec hown hlink e.platform hpl
  cases Option.some.inj (hc3.symm.trans hcl)
  cases Option.some.inj (hc4.symm.trans hc5)
  exact ⟨_, hcl5, hasg, Vm.classAt_of_findClass hcl⟩
theorem ne_st {ce : Cell} (h : ce.vm = .none) : ∀ k, ce.vm ≠ .statics k := fun k q => by rw [h] at q; cases q
/-- the first row takes E -/
theorem k_hit1 {E : String} {a1 b1 hp ty : Nat} {ts : List (Nat × Nat × Nat × Nat)} {i : Fin 4} (L2 : List (Nat × Value)) (hT : ∀ G s a c, Q.1 G s a c → c.exceptionTable.toList = tableOf ((a1, b1, hp, ty) :: ts)) (hcv : a1 ≤ pc ∧ pc < b1) (h0 : ty ≠ 0) (hw : Cond.classLink (z_y μ).cls ty E ∈ z_T) (hE : E ∈ z_xc)
    (hd : decode (z_b μ) hp = .ok (.astore_n i, 1)) (hi : (i : Nat) < z_n μ) (hL : L.filter (fun q => !(q.1 == (i : Nat)) && !(q.1 + 1 == (i : Nat) && q.2.category == 2)) = L2) (k : z_gk μ false (hp + 1) L2 [] w uc us Q) : z_gx μ E pc L st w uc us Q := by
  refine k_store L2 hd hi hL (fun l G e p s m args meth c ls q ce hpl hz9 hH hcv2 hcl S hW hce => ?_) k
  obtain ⟨cc, g1, g2, g3⟩ := z_takes (e := e) (m := m) (args := args) hpl hH.2.2.2.2.1 (hH.2.2.2.2.2.1 _ hw) (hH.2.2.2.2.2.2.2.2.2.2.2.2.2.2.2.2.2.2.1 _ hE) hcl
  rw [hT _ _ _ _ hz9]
  exact cz_hit (x := ⟨a1, b1, hp, ty⟩) hW (by show (decide (a1 ≤ pc) && decide (pc < b1)) = true; rw [decide_eq_true hcv.1, decide_eq_true hcv.2]; rfl) h0 g1 hce (ne_st hcv2) g3 g2 _
/-- the first row doesn't take E, the second does -/
theorem k_hit2 {E F : String} {a1 b1 h1 t1 a2 b2 hp ty : Nat} {ts : List (Nat × Nat × Nat × Nat)} {i : Fin 4} (L2 : List (Nat × Value)) (hT : ∀ G s a c, Q.1 G s a c → c.exceptionTable.toList = tableOf ((a1, b1, h1, t1) :: (a2, b2, hp, ty) :: ts)) (hcv1 : a1 ≤ pc ∧ pc < b1) (hcv : a2 ≤ pc ∧ pc < b2) (h01 : t1 ≠ 0) (h0 : ty ≠ 0) (hw1 : Cond.classLink (z_y μ).cls t1 F ∈ z_T) (hw : Cond.classLink (z_y μ).cls ty E ∈ z_T) (hE : E ∈ z_xc) (hno : ∀ G s, z_X G s s.heap → va_Nc E F s)
    (hd : decode (z_b μ) hp = .ok (.astore_n i, 1)) (hi : (i : Nat) < z_n μ) (hL : L.filter (fun q => !(q.1 == (i : Nat)) && !(q.1 + 1 == (i : Nat) && q.2.category == 2)) = L2) (k : z_gk μ false (hp + 1) L2 [] w uc us Q) : z_gx μ E pc L st w uc us Q := by
  refine k_store L2 hd hi hL (fun l G e p s m args meth c ls q ce hpl hz9 hH hcv2 hcl S hW hce => ?_) k
  obtain ⟨cc, g1, g2, g3⟩ := z_takes (e := e) (m := m) (args := args) hpl hH.2.2.2.2.1 (hH.2.2.2.2.2.1 _ hw) (hH.2.2.2.2.2.2.2.2.2.2.2.2.2.2.2.2.2.2.1 _ hE) hcl
  obtain ⟨cc2, f1, f2, f3⟩ := z_leaves (e := e) (m := m) (args := args) hpl hH.2.2.2.2.1 (hH.2.2.2.2.2.1 _ hw1) (hno G s hH.2.2.2.2.2.2.2.2.2) hcl
  rw [hT _ _ _ _ hz9]
  refine cz_pass (x := ⟨a1, b1, h1, t1⟩) hW (by show (decide (a1 ≤ pc) && decide (pc < b1)) = true; rw [decide_eq_true hcv1.1, decide_eq_true hcv1.2]; rfl) h01 f1 hce (ne_st hcv2) f3 f2 (fun S' hW' hce' => ?_)
  exact cz_hit (x := ⟨a2, b2, hp, ty⟩) hW' (by show (decide (a2 ≤ pc) && decide (pc < b2)) = true; rw [decide_eq_true hcv.1, decide_eq_true hcv.2]; rfl) h0 g1 hce' (ne_st hcv2) g3 g2 _
theorem oL_begin_7 : z_okV q_L_begin q_X10_begin 7 0 := ⟨z_all (by decide +kernel), ⟨by decide, by decide, by decide +kernel⟩, ⟨by decide, by decide⟩⟩
theorem oL_run_14 : z_okV q_L_run q_X10_run 14 1 := ⟨z_all (by decide +kernel), ⟨by decide, by decide, by decide +kernel⟩, ⟨by decide, by decide⟩⟩
theorem oL_said_20 : z_okV q_L_said q_X10_said 20 1 := ⟨z_all (by decide +kernel), ⟨by decide, by decide, by decide +kernel⟩, ⟨by decide, by decide⟩⟩
theorem cL_12 : Cond.classLink RL 12 "java/lang/IllegalStateException" ∈ z_T := z_one (by decide +kernel)
theorem cL_18 : Cond.classLink RL 18 "java/lang/IllegalArgumentException" ∈ z_T := z_one (by decide +kernel)
theorem cL_23 : Cond.classLink RL 23 "java/util/NoSuchElementException" ∈ z_T := z_one (by decide +kernel)
abbrev hb_L : List (Nat × Nat × Nat × Nat) := [(0, 4, 7, 12)]
abbrev hr_L : List (Nat × Nat × Nat × Nat) := [(0, 9, 12, 18), (0, 9, 15, 12)]
abbrev hs_L : List (Nat × Nat × Nat × Nat) := [(0, 9, 12, 23)]
theorem t_L_begin {P0 P1 : cS → Prop} (h : p_X10_begin C P0 (fun E C1 => E = "java/lang/IllegalStateException" ∧ P1 C1)) : z_MW q_L_begin hb_L [.ref 200] (wz C M o X) (fun r w => (∃ C1, r = some (.int 0) ∧ w = wz C1 M o X ∧ P0 C1) ∨ (∃ C1, r = some (.int 1) ∧ w = wz C1 M o X ∧ P1 C1)) := by
  refine w_enter (by decide) (Nat.le_of_ble_eq_true rfl) ?_
  refine kz_aload_n 0 1 dL_begin_0 rfl rfl ?_
  refine k_callT (st := []) [] 4 dL_begin_1 oL_begin_7 rfl (Nat.zero_le _) rc_0 ⟨by decide, by decide⟩ rfl (t_X10_begin M o X C P0 _ h) (fun r w1 hr => ?_) (fun E w1 hx => ?_)
  · obtain ⟨C1, rfl, rfl, h1⟩ := hr
    refine k_of (z_goto 10 dL_begin_4 rfl (z_iconst 0 11 dL_begin_10 rfl rfl ?_))
    exact z_iret dL_begin_11 rfl ⟨by decide, by decide⟩ (Or.inl ⟨C1, rfl, rfl, h1⟩)
  · obtain ⟨C1, rfl, rfl, h1⟩ := hx
    refine k_hit1 (i := 1) [(0, .ref 200)] (fun _ _ _ _ h => h) (by decide) (by decide) cL_12 (List.mem_of_getElem? (i := 0) rfl) dL_begin_7 (by decide) rfl ?_
    refine k_of (z_iconst 1 9 dL_begin_8 rfl rfl ?_)
    exact z_iret dL_begin_9 rfl ⟨by decide, by decide⟩ (Or.inr ⟨C1, rfl, rfl, h1⟩)
/-- the out row behind both worlds -/
abbrev zo (f : Nat → Int64) : List va_E := [.inl (2, 1, .inr (.inl f))]
theorem t_L_run {f : Nat → Int64} {a : Int32} {P0 : Int32 → cS → Prop} {P1 P2 : cS → Prop} (h : p_X10_run a C P0 (fun E C1 => (E = "java/lang/IllegalArgumentException" ∧ P1 C1) ∨ (E = "java/lang/IllegalStateException" ∧ P2 C1))) :
    z_MW q_L_run hr_L [.ref 200, .int a, .ref 268] (wz C M o (zo f)) (fun r w => (∃ v C1, r = some (.int 0) ∧ w = wz C1 M o (zo (vp_updL f 0 ((v : Int32).toInt64))) ∧ P0 v C1) ∨ (∃ C1, r = some (.int 1) ∧ w = wz C1 M o (zo f) ∧ P1 C1) ∨ (∃ C1, r = some (.int 2) ∧ w = wz C1 M o (zo f) ∧ P2 C1)) := by
  refine w_enter (by decide) (Nat.le_of_ble_eq_true rfl) ?_
  refine kz_aload_n 2 1 dL_run_0 rfl rfl ?_
  refine kz_iconst 0 2 dL_run_1 rfl rfl ?_
  refine kz_aload_n 0 3 dL_run_2 rfl rfl ?_
  refine kz_iload_n 1 4 dL_run_3 rfl rfl ?_
  refine k_callT (st := [.int 0, .ref 268]) [.int a] 7 dL_run_4 oL_run_14 rfl (Nat.le_of_ble_eq_true rfl) rc_0 ⟨by decide, by decide⟩ rfl (t_X10_run M o (zo f) a C P0 _ h) (fun r w1 hr => ?_) (fun E w1 hx => ?_)
  · obtain ⟨v, C1, rfl, rfl, h1⟩ := hr
    refine k_of (z_i2l 8 dL_run_7 rfl ?_)
    refine z_last 68 (wz C1 M o (zo (vp_updL f 0 ((v : Int32).toInt64)))) 9 dL_run_8 rfl rfl ((ni_in (a := 0) (by decide)).mpr (by decide)) rfl rfl ?_
    refine z_goto 18 dL_run_9 rfl (z_iconst 0 19 dL_run_18 rfl rfl ?_)
    exact z_iret dL_run_19 rfl ⟨by decide, by decide⟩ (Or.inl ⟨v, C1, rfl, rfl, h1⟩)
  · obtain ⟨C1, rfl, ⟨rfl, h1⟩ | ⟨rfl, h1⟩⟩ := hx
    · refine k_hit1 (i := 3) [(0, .ref 200), (1, .int a), (2, .ref 268)] (fun _ _ _ _ h => h) (by decide) (by decide) cL_18 (List.mem_of_getElem? (i := 1) rfl) dL_run_12 (by decide) rfl ?_
      refine k_of (z_iconst 1 14 dL_run_13 rfl rfl ?_)
      exact z_iret dL_run_14 rfl ⟨by decide, by decide⟩ (Or.inr (Or.inl ⟨C1, rfl, rfl, h1⟩))
    · refine k_hit2 (i := 3) (F := "java/lang/IllegalArgumentException") [(0, .ref 200), (1, .int a), (2, .ref 268)] (fun _ _ _ _ h => h) (by decide) (by decide) (by decide) (by decide) cL_18 cL_12 (List.mem_of_getElem? (i := 0) rfl) (fun G s hX => hX.2.2.2.2.2.2.2.2.2.2) dL_run_15 (by decide) rfl ?_
      refine k_of (z_iconst 2 17 dL_run_16 rfl rfl ?_)
      exact z_iret dL_run_17 rfl ⟨by decide, by decide⟩ (Or.inr (Or.inr ⟨C1, rfl, rfl, h1⟩))
theorem t_L_said {f : Nat → Int64} {a : Int32} {P0 : Int32 → cS → Prop} {P1 : cS → Prop} (h : p_X10_said a C P0 (fun E C1 => E = "java/util/NoSuchElementException" ∧ P1 C1)) :
    z_MW q_L_said hs_L [.ref 200, .int a, .ref 268] (wz C M o (zo f)) (fun r w => (∃ v C1, r = some (.int 0) ∧ w = wz C1 M o (zo (vp_updL f 0 ((v : Int32).toInt64))) ∧ P0 v C1) ∨ (∃ C1, r = some (.int 1) ∧ w = wz C1 M o (zo f) ∧ P1 C1)) := by
  refine w_enter (by decide) (Nat.le_of_ble_eq_true rfl) ?_
  refine kz_aload_n 2 1 dL_said_0 rfl rfl ?_
  refine kz_iconst 0 2 dL_said_1 rfl rfl ?_
  refine kz_aload_n 0 3 dL_said_2 rfl rfl ?_
  refine kz_iload_n 1 4 dL_said_3 rfl rfl ?_
  refine k_callT (st := [.int 0, .ref 268]) [.int a] 7 dL_said_4 oL_said_20 rfl (Nat.le_of_ble_eq_true rfl) rc_0 ⟨by decide, by decide⟩ rfl (t_X10_said M o (zo f) a C P0 _ h) (fun r w1 hr => ?_) (fun E w1 hx => ?_)
  · obtain ⟨v, C1, rfl, rfl, h1⟩ := hr
    refine k_of (z_i2l 8 dL_said_7 rfl ?_)
    refine z_last 68 (wz C1 M o (zo (vp_updL f 0 ((v : Int32).toInt64)))) 9 dL_said_8 rfl rfl ((ni_in (a := 0) (by decide)).mpr (by decide)) rfl rfl ?_
    refine z_goto 15 dL_said_9 rfl (z_iconst 0 16 dL_said_15 rfl rfl ?_)
    exact z_iret dL_said_16 rfl ⟨by decide, by decide⟩ (Or.inl ⟨v, C1, rfl, rfl, h1⟩)
  · obtain ⟨C1, rfl, rfl, h1⟩ := hx
    refine k_hit1 (i := 3) [(0, .ref 200), (1, .int a), (2, .ref 268)] (fun _ _ _ _ h => h) (by decide) (by decide) cL_23 (List.mem_of_getElem? (i := 2) rfl) dL_said_12 (by decide) rfl ?_
    refine k_of (z_iconst 1 14 dL_said_13 rfl rfl ?_)
    exact z_iret dL_said_14 rfl ⟨by decide, by decide⟩ (Or.inr ⟨C1, rfl, rfl, h1⟩)
/-- the contract of a method that reads the script -/
def z_MS (b N : Nat) (xs : Nat → Int32) (μ : z_Mt) (tg : Bool) (av : List Value) (w : List va_E) (Q : z_R) : Prop :=
  ∀ (l : Launch) (G : z_G), l.stackTraces = false → Met l (z_y μ) (z_wd μ) (z_rm μ) (va_Pc (av.map (z_v G)) (fun U => ((z_P G tg w U U.heap ∧ z_X G U U.heap) ∧ z_Y U) ∧ zS b N xs G U)) (z_Q G tg Q) (z_rm μ).cells (z_rm μ).slots (z_A G)
theorem s_enter {av : List Value} (hy : plainName (z_y μ).cls = true) (hn : (lg_sl av).length ≤ z_n μ) (k : z_gk μ tg 0 (lv_args 0 av) [] w 0 0 ((fun G s _ _ => zS b N xs G s), z_mq μ tg Q1)) : z_MS b N xs μ tg av w Q1 := by
  intro l G hq9
  refine Met.ofW (cc := z_b μ) (maxL := z_n μ) (ret := z_r μ) hy rfl ?_
  intro p e s m args below meth c s₁ B hml hv
  obtain ⟨rfl, ⟨⟨hP, hX⟩, hy9⟩, hz9⟩ := hv
  have hts := atoms_spec (ws := z_wd μ) B.pre
  rw [lg_entry_eq]
  have hl := lv_entry (av.map (z_v G)) (n := z_n μ) (by rw [z_Lsl]; exact hn)
  rw [z_Largs] at hl
  exact k l hq9 G p e s hy9 m _ below meth c hz9 s.heap [] _ ⟨B.exec, B.bytes, B.returns, hml, findClass_of_methodNamed B.named, fun w hw => hts w (List.mem_cons_of_mem _ hw), B.notSynchronized, (name_of_methodNamed B.named B.method).1, Nat.le_trans (Nat.le_add_right _ _) hP.1.1, hX⟩ hP va_S.rf hl
def cellv (N : Nat) (xs : Nat → Int32) (k : Nat) : Int32 := if k < N then xs k else 0
theorem t_L_cell {k : Nat} (hN : N ≤ 3074) (hk : k < 2147483648) : z_MS b N xs q_L_cell tg [.ref 199, .int (nI k)] w (fun r w1 => r = some (.int (cellv N xs k)) ∧ w1 = w) := by
  refine s_enter (by decide) (Nat.le_of_ble_eq_true rfl) ?_
  refine kz_iload_n 1 1 dL_cell_0 rfl rfl ?_
  refine kz_aload_n 0 2 dL_cell_1 rfl rfl ?_
  refine k_slen (b := b) (N := N) (xs := xs) 3 (fun _ _ _ _ h => h) dL_cell_2 rfl ?_
  refine kz_icmp_ge 12 6 dL_cell_3 rfl rfl (fun hc => ?_) (fun hc => ?_)
  · refine k_of (z_iconst 0 13 dL_cell_12 rfl rfl ?_)
    refine z_iret dL_cell_13 rfl ⟨by decide, by decide⟩ ⟨?_, rfl⟩
    unfold cellv
    rw [ni_le (by omega) hk] at hc
    rw [if_neg (by omega)]
  · rw [ni_le (by omega) hk] at hc
    refine kz_aload_n 0 7 dL_cell_6 rfl rfl ?_
    refine kz_iload_n 1 8 dL_cell_7 rfl rfl ?_
    refine k_sld (b := b) (N := N) (xs := xs) 9 (fun _ _ _ _ h => h) dL_cell_8 ((ni_in hk).mpr (by omega)) rfl ?_
    rw [ni_cl hk]
    refine k_of (z_goto 13 dL_cell_9 rfl ?_)
    refine z_iret dL_cell_13 rfl ⟨by decide, by decide⟩ ⟨?_, rfl⟩
    unfold cellv
    rw [if_pos (by omega)]
end ZO26
