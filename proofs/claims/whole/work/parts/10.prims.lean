section ZB
variable {μ ν : z_Mt} {tg : Bool} {pc : Nat} {L : List (Nat × Value)} {st : List Value} {w : List va_E} {uc us : Nat} {Q Q1 : z_R}
theorem z_all {l : List Cond} (h : l.all (fun w => decide (w ∈ lw_tbl) && goodWord w) = true) : ∀ w ∈ l, w ∈ z_T := by
  intro w hw
  have h1 := List.all_eq_true.mp h w hw
  simp only [Bool.and_eq_true, decide_eq_true_eq] at h1
  exact List.mem_filter.mpr h1
theorem z_one {w : Cond} (h : (decide (w ∈ lw_tbl) && goodWord w) = true) : w ∈ z_T := by
  simp only [Bool.and_eq_true, decide_eq_true_eq] at h
  exact List.mem_filter.mpr h
theorem z_max {idx : Nat} {x y : Int32} (n : Nat) (hd : decode (z_b μ) pc = .ok (.invokestatic idx, 3)) (hk : ∀ w ∈ [Cond.methodLink (z_y μ).cls idx Lib.Math.max.name, .static Lib.Math.max.name, .initialized "java/lang/Math", .code Lib.Math.max.name Lib.Math.max.code 2 (some .int)], w ∈ z_T) (hf : 1 ≤ (z_rm μ).frames ∧ (st.map fun v => v.category).sum + 13 ≤ (z_rm μ).locals ∧ uc ≤ (z_rm μ).cells ∧ us ≤ (z_rm μ).slots) (hn : pc + 3 = n) (k : z_go μ tg n L (.int (if x < y then y else x) :: st) w uc us Q) : z_go μ tg pc L (.int y :: .int x :: st) w uc us Q := by
  subst hn
  intro l G p e s m args below meth c H locs ls hH hP hS hl
  have hts := hH.2.2.2.2.2.1
  exact va_mmax hH.1 hH.2.1 (hH.2.2.2.1.trans hl.1.symm) hH.2.2.2.2.1 (hts _ (hk _ List.mem_cons_self)) (hts _ (hk _ (List.mem_cons_of_mem _ List.mem_cons_self))) (hts _ (hk _ (List.mem_cons_of_mem _ (List.mem_cons_of_mem _ List.mem_cons_self)))) (hts _ (hk _ (List.mem_cons_of_mem _ (List.mem_cons_of_mem _ (List.mem_cons_of_mem _ List.mem_cons_self))))) hf.1 (by rw [z_sum]; exact hf.2.1) hf.2.2.1 hf.2.2.2 hd (k l G p e s m args below meth c H locs ls hH hP hS hl)
theorem z_min {idx : Nat} {x y : Int32} (n : Nat) (hd : decode (z_b μ) pc = .ok (.invokestatic idx, 3)) (hk : ∀ w ∈ [Cond.methodLink (z_y μ).cls idx Lib.Math.min.name, .static Lib.Math.min.name, .initialized "java/lang/Math", .code Lib.Math.min.name Lib.Math.min.code 2 (some .int)], w ∈ z_T) (hf : 1 ≤ (z_rm μ).frames ∧ (st.map fun v => v.category).sum + 13 ≤ (z_rm μ).locals ∧ uc ≤ (z_rm μ).cells ∧ us ≤ (z_rm μ).slots) (hn : pc + 3 = n) (k : z_go μ tg n L (.int (if y < x then y else x) :: st) w uc us Q) : z_go μ tg pc L (.int y :: .int x :: st) w uc us Q := by
  subst hn
  intro l G p e s m args below meth c H locs ls hH hP hS hl
  have hts := hH.2.2.2.2.2.1
  exact va_mmin hH.1 hH.2.1 (hH.2.2.2.1.trans hl.1.symm) hH.2.2.2.2.1 (hts _ (hk _ List.mem_cons_self)) (hts _ (hk _ (List.mem_cons_of_mem _ List.mem_cons_self))) (hts _ (hk _ (List.mem_cons_of_mem _ (List.mem_cons_of_mem _ List.mem_cons_self)))) (hts _ (hk _ (List.mem_cons_of_mem _ (List.mem_cons_of_mem _ (List.mem_cons_of_mem _ List.mem_cons_self))))) hf.1 (by rw [z_sum]; exact hf.2.1) hf.2.2.1 hf.2.2.2 hd (k l G p e s m args below meth c H locs ls hH hP hS hl)
theorem z_obj {idx b : Nat} (n : Nat) (hd : decode (z_b μ) pc = .ok (.invokespecial idx, 3)) (hk : ∀ w ∈ [Cond.methodLink (z_y μ).cls idx Lib.objectInit, .instanceMethod Lib.objectInit, .code Lib.objectInit ⟨#[0xb1]⟩ 1 none], w ∈ z_T) (hf : 1 ≤ (z_rm μ).frames ∧ (st.map fun v => v.category).sum + 12 ≤ (z_rm μ).locals) (hn : pc + 3 = n) (k : z_go μ tg n L st w uc us Q) : z_go μ tg pc L (.ref b :: st) w uc us Q := by
  subst hn
  intro l G p e s m args below meth c H locs ls hH hP hS hl
  have hts := hH.2.2.2.2.2.1
  exact W.objInit hH.1 hH.2.1 hH.2.2.2.2.1 (hts _ (hk _ List.mem_cons_self)) (hts _ (hk _ (List.mem_cons_of_mem _ List.mem_cons_self))) (hts _ (hk _ (List.mem_cons_of_mem _ (List.mem_cons_of_mem _ List.mem_cons_self)))) rfl (hl.1.trans hH.2.2.2.1.symm) rfl hd hf.1 (by show 2 * 0 + _ + 12 ≤ _; rw [z_sum]; have := hf.2; omega) (k l G p e s m args below meth c H locs ls hH hP hS hl)
theorem z_copy {idx a0 a1 N0 N1 : Nat} {f g : Nat → Int32} {sp dp m9 : Int32} (j0 j1 : Nat) (w2 : List va_E) (n : Nat) (htg : tg = false) (hd : decode (z_b μ) pc = .ok (.invokestatic idx, 3)) (hk : ∀ w ∈ [Cond.methodLink (z_y μ).cls idx arraycopyName, .native arraycopyName, .static arraycopyName, .initialized "java/lang/System"], w ∈ z_T) (hb0 : a0 = 200 + j0) (hb1 : a1 = 200 + j1) (hw0 : w[j0]? = some (.inl (1, N0, .inl f))) (hw1 : w[j1]? = some (.inl (1, N1, .inl g)))
    (h1 : ¬ sp < 0) (h2 : ¬ dp < 0) (h3 : ¬ m9 < 0) (h4 : sp.toNatClampNeg + m9.toNatClampNeg ≤ N0) (h5 : dp.toNatClampNeg + m9.toNatClampNeg ≤ N1) (hf : 1 ≤ (z_rm μ).frames ∧ (st.map fun v => v.category).sum + (nativeFrameWords "java/lang/System" "arraycopy" 5 + 11) ≤ (z_rm μ).locals)
    (hw2 : w.set j1 (.inl (1, N1, .inl (va_cpy f g sp.toNatClampNeg dp.toNatClampNeg m9.toNatClampNeg))) = w2) (hn : pc + 3 = n) (k : z_go μ tg n L st w2 uc us Q) : z_go μ tg pc L (.int m9 :: .int dp :: .ref a1 :: .int sp :: .ref a0 :: st) w uc us Q := by
  subst hn
  subst hw2
  intro l G p e s m args below meth c H locs ls hH hP hS hl
  have hts := hH.2.2.2.2.2.1
  rw [List.map_cons, List.map_cons, List.map_cons, List.map_cons, List.map_cons, z_ref_new G hb0, z_ref_new G hb1]
  refine va_copyi (D := G.1) (ty := .int) hH.1 hH.2.1 (hH.2.2.2.1.trans hl.1.symm) hH.2.2.2.2.1 (hts _ (hk _ List.mem_cons_self)) (hts _ (hk _ (List.mem_cons_of_mem _ List.mem_cons_self))) (hts _ (hk _ (List.mem_cons_of_mem _ (List.mem_cons_of_mem _ List.mem_cons_self)))) (hts _ (hk _ (List.mem_cons_of_mem _ (List.mem_cons_of_mem _ (List.mem_cons_of_mem _ List.mem_cons_self))))) hP.2.2 hP.2.1 (z_D G w) hS j0 j1 1 1 (z_ws_at G hw0) (z_ws_at G hw1) rfl rfl rfl h1 h2 h3 h4 h5 (fun i _ => rfl) hf.1 (by rw [z_sum]; exact hf.2) hd fun H1 locs1 hP1 _ hS1 => ?_
  have he : (G.2.2.1 + j1, (Sum.inl (G.2.1 1, N1, .inl (va_cpy f g sp.toNatClampNeg dp.toNatClampNeg m9.toNatClampNeg)) : va_E)) = (G.2.2.1 + j1, z_e G (.inl (1, N1, .inl (va_cpy f g sp.toNatClampNeg dp.toNatClampNeg m9.toNatClampNeg)))) := rfl
  rw [he, z_ws_set0] at hP1
  refine k l G p e s m args below meth c H1 locs1 ls hH ⟨⟨?_, fun h => by rw [htg] at h; cases h⟩, hP1, hP.2.2⟩ hS1 hl
  have hlen : j1 < w.length := (List.getElem?_eq_some_iff.mp hw1).1
  have hpos : 0 < w.length := by omega
  have hlast : (w.set j1 (.inl (1, N1, .inl (va_cpy f g sp.toNatClampNeg dp.toNatClampNeg m9.toNatClampNeg))))[w.length - 1]? = some ((w.set j1 (.inl (1, N1, .inl (va_cpy f g sp.toNatClampNeg dp.toNatClampNeg m9.toNatClampNeg))))[w.length - 1]'(by rw [List.length_set]; omega)) := List.getElem?_eq_getElem _
  have h9 := (hP1 _ _ (z_ws_at G hlast)).lt
  rw [List.length_set]
  simp only at h9
  omega
def z_okU (μ ν : z_Mt) (idx n : Nat) (C : String) (x : MethodName) : Prop := (∀ w ∈ [Cond.methodLink (z_y μ).cls idx x, .sameMethod x.cls (z_y ν).cls x.name x.desc, .selects C x (z_y ν), .instanceMethod (z_y ν), .initialized (z_y ν).cls, .code (z_y ν) (z_b ν) (z_n ν) (z_r ν)], w ∈ z_T) ∧ z_y ν = ⟨(z_y ν).cls, x.name, x.desc⟩ ∧ ((z_y ν).cls ≠ "java/lang/invoke/MethodHandle" ∧ (z_y ν).cls ≠ "java/lang/invoke/VarHandle" ∧ (parseMethodDescriptor x.desc).map (fun d => d.parameters.length) = some n) ∧ z_fit μ ν
theorem z_callU {idx b na : Nat} {C : String} {x : MethodName} (As : List Value) (n : Nat) (hd : decode (z_b μ) pc = .ok (.invokevirtual idx, 3)) (hok : z_okU μ ν idx na C x) (hna : As.length = na) (hst : (st.map fun v => v.category).sum ≤ 8)
    (hrv : ∀ (G : z_G) (s : State) (H : Heap) (locs : List Loc), z_X G s s.heap → z_P G tg w s H → va_S (z_A G) s.heap H locs → ∃ cell : Cell, H[z_a G b]? = some cell ∧ cell.vm.isStatics = false ∧ s.vm.findClass C = some cell.cls)
    (hc : uc + (z_rm ν).cells ≤ (z_rm μ).cells ∧ us + (z_rm ν).slots ≤ (z_rm μ).slots) (hn : pc + 3 = n) (hM : z_M ν tg (.ref b :: As) w Q1) (k : ∀ r w1, Q1 r w1 → z_go μ tg n L (r.toList ++ st) w1 (uc + (z_rm ν).cells) (us + (z_rm ν).slots) Q) : z_go μ tg pc L (As.reverse ++ .ref b :: st) w uc us Q := by
  subst hn
  intro l G p e s m args below meth c H locs ls hH hP hS hl
  have he : (As.reverse ++ .ref b :: st).map (z_v G) = (As.map (z_v G)).reverse ++ Value.ref (z_a G b) :: st.map (z_v G) := by simp [z_v]
  rw [he]
  exact z_callx (a := (Value.ref (z_a G b) :: As.map (z_v G)).toArray) hH hS hl (va_runU (As := As.map (z_v G)) (rest := st.map (z_v G)) ⟨hH.1, hH.2.1, hH.2.2.2.1, hH.2.2.2.2.1, hH.2.2.2.2.2.1⟩ (hM l G) (va_cwU na hH.2.2.2.2.2.1 (z_goodC hok.1) rfl rfl rfl hok.2.1 hok.2.2.1 hok.2.2.2) ⟨z_blind G _ w, hrv G s H locs hH.2.2.2.2.2.2.2.2.2 hP hS, z_pre _ hH.2.2.2.2.2.2.2.2.2 hP hS⟩ rfl (by rw [List.length_map]; exact hna) hl.1 rfl (lv_room (by rw [z_sum]; exact hst)) hd hc) k
theorem z_getsQ {idx : Nat} (n : Nat) (hd : decode (z_b μ) pc = .ok (.getstatic idx, 3)) (hlk : Cond.fieldLink (z_y μ).cls idx "jdk/internal/util/Preconditions" "SIOOBE_FORMATTER" "Ljava/util/function/BiFunction;" ∈ z_T) (hn : pc + 3 = n) (k : ∀ v : Value, v = .null ∨ v = .ref 120 → z_go μ tg n L (v :: st) w uc us Q) : z_go μ tg pc L st w uc us Q := by
  subst hn
  intro l G p e s m args below meth c H locs ls hH hP hS hl
  obtain ⟨⟨v, hv, hZ⟩, -⟩ := hH.2.2.2.2.2.2.2.2.2.2.2.2.2.2.2.2.2
  exact va_gets hH.1 hH.2.1 hZ hS hH.2.2.2.2.1 (hH.2.2.2.2.2.1 _ hlk) (fun _ h => h) hd (k v hv l G p e s m args below meth c H locs ls hH hP hS hl)
/-- a switch's other cases -/
theorem z_tab {dflt lo hi : Int} {offs : Array Int} {len : Nat} {x : Int32} (ks : List Int32) (t : Nat) (hd : decode (z_b μ) pc = .ok (.tableswitch dflt lo hi offs, len)) (hx : ∀ q ∈ ks, ¬ x = q) (hall : (List.range ((hi - lo).toNat + 1)).all (fun j => (offs[j]? == some dflt) || ks.contains (Int32.ofInt (lo + j))) = true) (hb : lo ≤ hi) (ht : (pc : Int) + dflt = (t : Int)) (k : z_go μ tg t L st w uc us Q) : z_go μ tg pc L (.int x :: st) w uc us Q := by
  by_cases h1 : x.toInt < lo
  · exact z_tabOut t hd (Or.inl h1) ht k
  · by_cases h2 : hi < x.toInt
    · exact z_tabOut t hd (Or.inr h2) ht k
    · have h3 := List.all_eq_true.mp hall (x.toInt - lo).toNat (List.mem_range.mpr (by omega))
      have h4 : lo + ((x.toInt - lo).toNat : Int) = x.toInt := by omega
      simp only [Bool.or_eq_true, beq_iff_eq] at h3
      rcases h3 with h3 | h3
      · exact z_tabIn t hd h1 h2 h3 ht k
      · rw [h4] at h3
        have h5 : Int32.ofInt x.toInt = x := Int32.ofInt_toInt x
        rw [h5] at h3
        exact absurd rfl (hx x (List.contains_iff_mem.mp h3))
end ZB
