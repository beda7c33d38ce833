section ZH
variable {μ ν : z_Mt} {tg : Bool} {pc : Nat} {L : List (Nat × Value)} {st stk : List Value} {w : List va_E} {uc us : Nat} {Q : z_R} {C : cS} {M : mS} {o : Nat → Int64} {X : List va_E}
theorem z_lit {i : Int32} {n : Nat} (h : (decide (i < 0) || decide (n ≤ i.toNatClampNeg)) = false) : vp_in i n := by
  intro q
  rcases q with q | q
  · rw [decide_eq_true q] at h; cases h
  · rw [decide_eq_true q] at h; simp at h
theorem z_pick (L2 : List (Nat × Value)) (ks : List Nat) (h : lv_pick L ks = L2) (k : z_go μ tg pc L2 st w uc us Q) : z_go μ tg pc L st w uc us Q := by
  refine z_loc L2 (fun q hq => ?_) k
  rw [← h] at hq
  obtain ⟨k, -, hk⟩ := List.mem_filterMap.mp hq
  exact List.mem_of_getElem? hk
/-- calls of methods that make nothing; the answers as the two states' predicates have them -/
theorem z_ciV {idx b na : Nat} {P : Int32 → cS → Prop} (As : List Value) (n : Nat) (hd : decode (z_b μ) pc = .ok (.invokevirtual idx, 3)) (hok : z_okV μ ν idx na) (hs : stk = As.reverse ++ .ref b :: st) (hna : As.length = na) (hst : (st.map fun v => v.category).sum ≤ 8)
    (hrv : ∀ (G : z_G) (s : State) (H : Heap) (locs : List Loc), z_X G s s.heap → z_P G tg (wz C M o X) s H → va_S (z_A G) s.heap H locs → ∃ cell : Cell, H[z_a G b]? = some cell ∧ cell.vm.isStatics = false ∧ s.vm.findClass (z_y ν).cls = some cell.cls)
    (h0 : (z_rm ν).cells = 0 ∧ (z_rm ν).slots = 0) (hc : uc ≤ (z_rm μ).cells ∧ us ≤ (z_rm μ).slots) (hn : pc + 3 = n) (hM : z_M ν tg (.ref b :: As) (wz C M o X) (zc_i M o X P)) (k : ∀ r C1, P r C1 → z_go μ tg n L (.int r :: st) (wz C1 M o X) uc us Q) : z_go μ tg pc L stk (wz C M o X) uc us Q := by
  subst hs; subst hn
  refine z_callV0 hd hok hna hst hrv (by rw [h0.1, h0.2]; exact hc) hM (fun r w1 hr => ?_)
  obtain ⟨v, C1, rfl, rfl, h⟩ := hr
  rw [h0.1, h0.2]
  exact k v C1 h
theorem z_clV {idx b na : Nat} {P : Int64 → cS → Prop} (As : List Value) (n : Nat) (hd : decode (z_b μ) pc = .ok (.invokevirtual idx, 3)) (hok : z_okV μ ν idx na) (hs : stk = As.reverse ++ .ref b :: st) (hna : As.length = na) (hst : (st.map fun v => v.category).sum ≤ 8)
    (hrv : ∀ (G : z_G) (s : State) (H : Heap) (locs : List Loc), z_X G s s.heap → z_P G tg (wz C M o X) s H → va_S (z_A G) s.heap H locs → ∃ cell : Cell, H[z_a G b]? = some cell ∧ cell.vm.isStatics = false ∧ s.vm.findClass (z_y ν).cls = some cell.cls)
    (h0 : (z_rm ν).cells = 0 ∧ (z_rm ν).slots = 0) (hc : uc ≤ (z_rm μ).cells ∧ us ≤ (z_rm μ).slots) (hn : pc + 3 = n) (hM : z_M ν tg (.ref b :: As) (wz C M o X) (zc_l M o X P)) (k : ∀ r C1, P r C1 → z_go μ tg n L (.long r :: st) (wz C1 M o X) uc us Q) : z_go μ tg pc L stk (wz C M o X) uc us Q := by
  subst hs; subst hn
  refine z_callV0 hd hok hna hst hrv (by rw [h0.1, h0.2]; exact hc) hM (fun r w1 hr => ?_)
  obtain ⟨v, C1, rfl, rfl, h⟩ := hr
  rw [h0.1, h0.2]
  exact k v C1 h
theorem z_cvV {idx b na : Nat} {P : cS → Prop} (As : List Value) (n : Nat) (hd : decode (z_b μ) pc = .ok (.invokevirtual idx, 3)) (hok : z_okV μ ν idx na) (hs : stk = As.reverse ++ .ref b :: st) (hna : As.length = na) (hst : (st.map fun v => v.category).sum ≤ 8)
    (hrv : ∀ (G : z_G) (s : State) (H : Heap) (locs : List Loc), z_X G s s.heap → z_P G tg (wz C M o X) s H → va_S (z_A G) s.heap H locs → ∃ cell : Cell, H[z_a G b]? = some cell ∧ cell.vm.isStatics = false ∧ s.vm.findClass (z_y ν).cls = some cell.cls)
    (h0 : (z_rm ν).cells = 0 ∧ (z_rm ν).slots = 0) (hc : uc ≤ (z_rm μ).cells ∧ us ≤ (z_rm μ).slots) (hn : pc + 3 = n) (hM : z_M ν tg (.ref b :: As) (wz C M o X) (zc_v M o X P)) (k : ∀ C1, P C1 → z_go μ tg n L st (wz C1 M o X) uc us Q) : z_go μ tg pc L stk (wz C M o X) uc us Q := by
  subst hs; subst hn
  refine z_callV0 hd hok hna hst hrv (by rw [h0.1, h0.2]; exact hc) hM (fun r w1 hr => ?_)
  obtain ⟨C1, rfl, rfl, h⟩ := hr
  rw [h0.1, h0.2]
  exact k C1 h
theorem z_miV {idx b na : Nat} {P : Int32 → mS → Prop} (As : List Value) (n : Nat) (hd : decode (z_b μ) pc = .ok (.invokevirtual idx, 3)) (hok : z_okV μ ν idx na) (hs : stk = As.reverse ++ .ref b :: st) (hna : As.length = na) (hst : (st.map fun v => v.category).sum ≤ 8)
    (hrv : ∀ (G : z_G) (s : State) (H : Heap) (locs : List Loc), z_X G s s.heap → z_P G tg (wz C M o X) s H → va_S (z_A G) s.heap H locs → ∃ cell : Cell, H[z_a G b]? = some cell ∧ cell.vm.isStatics = false ∧ s.vm.findClass (z_y ν).cls = some cell.cls)
    (h0 : (z_rm ν).cells = 0 ∧ (z_rm ν).slots = 0) (hc : uc ≤ (z_rm μ).cells ∧ us ≤ (z_rm μ).slots) (hn : pc + 3 = n) (hM : z_M ν tg (.ref b :: As) (wz C M o X) (zm_i C o X P)) (k : ∀ r M1, P r M1 → z_go μ tg n L (.int r :: st) (wz C M1 o X) uc us Q) : z_go μ tg pc L stk (wz C M o X) uc us Q := by
  subst hs; subst hn
  refine z_callV0 hd hok hna hst hrv (by rw [h0.1, h0.2]; exact hc) hM (fun r w1 hr => ?_)
  obtain ⟨v, M1, rfl, rfl, h⟩ := hr
  rw [h0.1, h0.2]
  exact k v M1 h
theorem z_mvV {idx b na : Nat} {P : mS → Prop} (As : List Value) (n : Nat) (hd : decode (z_b μ) pc = .ok (.invokevirtual idx, 3)) (hok : z_okV μ ν idx na) (hs : stk = As.reverse ++ .ref b :: st) (hna : As.length = na) (hst : (st.map fun v => v.category).sum ≤ 8)
    (hrv : ∀ (G : z_G) (s : State) (H : Heap) (locs : List Loc), z_X G s s.heap → z_P G tg (wz C M o X) s H → va_S (z_A G) s.heap H locs → ∃ cell : Cell, H[z_a G b]? = some cell ∧ cell.vm.isStatics = false ∧ s.vm.findClass (z_y ν).cls = some cell.cls)
    (h0 : (z_rm ν).cells = 0 ∧ (z_rm ν).slots = 0) (hc : uc ≤ (z_rm μ).cells ∧ us ≤ (z_rm μ).slots) (hn : pc + 3 = n) (hM : z_M ν tg (.ref b :: As) (wz C M o X) (zm_v C o X P)) (k : ∀ M1, P M1 → z_go μ tg n L st (wz C M1 o X) uc us Q) : z_go μ tg pc L stk (wz C M o X) uc us Q := by
  subst hs; subst hn
  refine z_callV0 hd hok hna hst hrv (by rw [h0.1, h0.2]; exact hc) hM (fun r w1 hr => ?_)
  obtain ⟨M1, rfl, rfl, h⟩ := hr
  rw [h0.1, h0.2]
  exact k M1 h
theorem z_ciS {idx na : Nat} {P : Int32 → cS → Prop} (As : List Value) (n : Nat) (hd : decode (z_b μ) pc = .ok (.invokestatic idx, 3)) (hok : z_okS μ ν idx na) (hs : stk = As.reverse ++ st) (hna : As.length = na) (hst : (st.map fun v => v.category).sum ≤ 8)
    (h0 : (z_rm ν).cells = 0 ∧ (z_rm ν).slots = 0) (hc : uc ≤ (z_rm μ).cells ∧ us ≤ (z_rm μ).slots) (hn : pc + 3 = n) (hM : z_M ν tg As (wz C M o X) (zc_i M o X P)) (k : ∀ r C1, P r C1 → z_go μ tg n L (.int r :: st) (wz C1 M o X) uc us Q) : z_go μ tg pc L stk (wz C M o X) uc us Q := by
  subst hs
  refine z_callS As n hd hok hna hst (by rw [h0.1, h0.2]; exact hc) hn hM (fun r w1 hr => ?_)
  obtain ⟨v, C1, rfl, rfl, h⟩ := hr
  rw [h0.1, h0.2]
  exact k v C1 h
theorem z_ciSN {idx na : Nat} {host : String} {P : Int32 → cS → Prop} (As : List Value) (n : Nat) (hd : decode (z_b μ) pc = .ok (.invokestatic idx, 3)) (hok : z_okSN μ ν idx na host) (hs : stk = As.reverse ++ st) (hna : As.length = na) (hst : (st.map fun v => v.category).sum ≤ 8)
    (h0 : (z_rm ν).cells = 0 ∧ (z_rm ν).slots = 0) (hc : uc ≤ (z_rm μ).cells ∧ us ≤ (z_rm μ).slots) (hn : pc + 3 = n) (hM : z_M ν tg As (wz C M o X) (zc_i M o X P)) (k : ∀ r C1, P r C1 → z_go μ tg n L (.int r :: st) (wz C1 M o X) uc us Q) : z_go μ tg pc L stk (wz C M o X) uc us Q := by
  subst hs
  refine z_callSN As n hd hok hna hst (by rw [h0.1, h0.2]; exact hc) hn hM (fun r w1 hr => ?_)
  obtain ⟨v, C1, rfl, rfl, h⟩ := hr
  rw [h0.1, h0.2]
  exact k v C1 h
theorem z_miS {idx na : Nat} {P : Int32 → mS → Prop} (As : List Value) (n : Nat) (hd : decode (z_b μ) pc = .ok (.invokestatic idx, 3)) (hok : z_okS μ ν idx na) (hs : stk = As.reverse ++ st) (hna : As.length = na) (hst : (st.map fun v => v.category).sum ≤ 8)
    (h0 : (z_rm ν).cells = 0 ∧ (z_rm ν).slots = 0) (hc : uc ≤ (z_rm μ).cells ∧ us ≤ (z_rm μ).slots) (hn : pc + 3 = n) (hM : z_M ν tg As (wz C M o X) (zm_i C o X P)) (k : ∀ r M1, P r M1 → z_go μ tg n L (.int r :: st) (wz C M1 o X) uc us Q) : z_go μ tg pc L stk (wz C M o X) uc us Q := by
  subst hs
  refine z_callS As n hd hok hna hst (by rw [h0.1, h0.2]; exact hc) hn hM (fun r w1 hr => ?_)
  obtain ⟨v, M1, rfl, rfl, h⟩ := hr
  rw [h0.1, h0.2]
  exact k v M1 h
/-- a call that leaves the world: its answer is a number that P has -/
def zk_i (w : List va_E) (P : Int32 → Prop) : z_R := fun r w1 => ∃ v : Int32, r = some (.int v) ∧ w1 = w ∧ P v
theorem z_kiV {idx b na : Nat} {P : Int32 → Prop} (As : List Value) (n : Nat) (hd : decode (z_b μ) pc = .ok (.invokevirtual idx, 3)) (hok : z_okV μ ν idx na) (hs : stk = As.reverse ++ .ref b :: st) (hna : As.length = na) (hst : (st.map fun v => v.category).sum ≤ 8)
    (hrv : ∀ (G : z_G) (s : State) (H : Heap) (locs : List Loc), z_X G s s.heap → z_P G tg w s H → va_S (z_A G) s.heap H locs → ∃ cell : Cell, H[z_a G b]? = some cell ∧ cell.vm.isStatics = false ∧ s.vm.findClass (z_y ν).cls = some cell.cls)
    (h0 : (z_rm ν).cells = 0 ∧ (z_rm ν).slots = 0) (hc : uc ≤ (z_rm μ).cells ∧ us ≤ (z_rm μ).slots) (hn : pc + 3 = n) (hM : z_M ν tg (.ref b :: As) w (zk_i w P)) (k : ∀ r, P r → z_go μ tg n L (.int r :: st) w uc us Q) : z_go μ tg pc L stk w uc us Q := by
  subst hs; subst hn
  refine z_callV0 hd hok hna hst hrv (by rw [h0.1, h0.2]; exact hc) hM (fun r w1 hr => ?_)
  obtain ⟨v, rfl, rfl, h⟩ := hr
  rw [h0.1, h0.2]
  exact k v h
theorem z_kiS {idx na : Nat} {P : Int32 → Prop} (As : List Value) (n : Nat) (hd : decode (z_b μ) pc = .ok (.invokestatic idx, 3)) (hok : z_okS μ ν idx na) (hs : stk = As.reverse ++ st) (hna : As.length = na) (hst : (st.map fun v => v.category).sum ≤ 8)
    (h0 : (z_rm ν).cells = 0 ∧ (z_rm ν).slots = 0) (hc : uc ≤ (z_rm μ).cells ∧ us ≤ (z_rm μ).slots) (hn : pc + 3 = n) (hM : z_M ν tg As w (zk_i w P)) (k : ∀ r, P r → z_go μ tg n L (.int r :: st) w uc us Q) : z_go μ tg pc L stk w uc us Q := by
  subst hs
  refine z_callS As n hd hok hna hst (by rw [h0.1, h0.2]; exact hc) hn hM (fun r w1 hr => ?_)
  obtain ⟨v, rfl, rfl, h⟩ := hr
  rw [h0.1, h0.2]
  exact k v h
def zk_v (w : List va_E) : z_R := fun r w1 => r = none ∧ w1 = w
theorem z_kvS {idx na : Nat} (As : List Value) (n : Nat) (hd : decode (z_b μ) pc = .ok (.invokestatic idx, 3)) (hok : z_okS μ ν idx na) (hs : stk = As.reverse ++ st) (hna : As.length = na) (hst : (st.map fun v => v.category).sum ≤ 8)
    (h0 : (z_rm ν).cells = 0 ∧ (z_rm ν).slots = 0) (hc : uc ≤ (z_rm μ).cells ∧ us ≤ (z_rm μ).slots) (hn : pc + 3 = n) (hM : z_M ν tg As w (zk_v w)) (k : z_go μ tg n L st w uc us Q) : z_go μ tg pc L stk w uc us Q := by
  subst hs
  refine z_callS As n hd hok hna hst (by rw [h0.1, h0.2]; exact hc) hn hM (fun r w1 hr => ?_)
  obtain ⟨rfl, rfl⟩ := hr
  rw [h0.1, h0.2]
  exact k
theorem rc_0 (G : z_G) (s : State) (H : Heap) (locs : List Loc) (hX : z_X G s s.heap) (hP : z_P G tg (wz C M o X) s H) (hS : va_S (z_A G) s.heap H locs) : ∃ cell : Cell, H[z_a G 200]? = some cell ∧ cell.vm.isStatics = false ∧ s.vm.findClass RX10 = some cell.cls := z_recv (j := 0) (ci := 8) rfl rfl rfl G s H locs hX hP hS
theorem rc_2 (G : z_G) (s : State) (H : Heap) (locs : List Loc) (hX : z_X G s s.heap) (hP : z_P G tg (wz C M o X) s H) (hS : va_S (z_A G) s.heap H locs) : ∃ cell : Cell, H[z_a G 202]? = some cell ∧ cell.vm.isStatics = false ∧ s.vm.findClass RX5 = some cell.cls := z_recv (j := 2) (ci := 3) rfl rfl rfl G s H locs hX hP hS
theorem rc_3 (G : z_G) (s : State) (H : Heap) (locs : List Loc) (hX : z_X G s s.heap) (hP : z_P G tg (wz C M o X) s H) (hS : va_S (z_A G) s.heap H locs) : ∃ cell : Cell, H[z_a G 203]? = some cell ∧ cell.vm.isStatics = false ∧ s.vm.findClass RX8 = some cell.cls := z_recv (j := 3) (ci := 6) rfl rfl rfl G s H locs hX hP hS
theorem rc_18 (G : z_G) (s : State) (H : Heap) (locs : List Loc) (hX : z_X G s s.heap) (hP : z_P G tg (wz C M o X) s H) (hS : va_S (z_A G) s.heap H locs) : ∃ cell : Cell, H[z_a G 218]? = some cell ∧ cell.vm.isStatics = false ∧ s.vm.findClass RX3 = some cell.cls := z_recv (j := 18) (ci := 1) rfl rfl rfl G s H locs hX hP hS
theorem rc_24 (G : z_G) (s : State) (H : Heap) (locs : List Loc) (hX : z_X G s s.heap) (hP : z_P G tg (wz C M o X) s H) (hS : va_S (z_A G) s.heap H locs) : ∃ cell : Cell, H[z_a G 224]? = some cell ∧ cell.vm.isStatics = false ∧ s.vm.findClass RX2 = some cell.cls := z_recv (j := 24) (ci := 0) rfl rfl rfl G s H locs hX hP hS
theorem rc_25 (G : z_G) (s : State) (H : Heap) (locs : List Loc) (hX : z_X G s s.heap) (hP : z_P G tg (wz C M o X) s H) (hS : va_S (z_A G) s.heap H locs) : ∃ cell : Cell, H[z_a G 225]? = some cell ∧ cell.vm.isStatics = false ∧ s.vm.findClass RX6 = some cell.cls := z_recv (j := 25) (ci := 4) rfl rfl rfl G s H locs hX hP hS
theorem rc_28 (G : z_G) (s : State) (H : Heap) (locs : List Loc) (hX : z_X G s s.heap) (hP : z_P G tg (wz C M o X) s H) (hS : va_S (z_A G) s.heap H locs) : ∃ cell : Cell, H[z_a G 228]? = some cell ∧ cell.vm.isStatics = false ∧ s.vm.findClass RX9 = some cell.cls := z_recv (j := 28) (ci := 7) rfl rfl rfl G s H locs hX hP hS
theorem rc_31 (G : z_G) (s : State) (H : Heap) (locs : List Loc) (hX : z_X G s s.heap) (hP : z_P G tg (wz C M o X) s H) (hS : va_S (z_A G) s.heap H locs) : ∃ cell : Cell, H[z_a G 231]? = some cell ∧ cell.vm.isStatics = false ∧ s.vm.findClass RX7 = some cell.cls := z_recv (j := 31) (ci := 5) rfl rfl rfl G s H locs hX hP hS
theorem rc_33 (G : z_G) (s : State) (H : Heap) (locs : List Loc) (hX : z_X G s s.heap) (hP : z_P G tg (wz C M o X) s H) (hS : va_S (z_A G) s.heap H locs) : ∃ cell : Cell, H[z_a G 233]? = some cell ∧ cell.vm.isStatics = false ∧ s.vm.findClass RX11 = some cell.cls := z_recv (j := 33) (ci := 9) rfl rfl rfl G s H locs hX hP hS
theorem rc_p (b : Bool) (G : z_G) (s : State) (H : Heap) (locs : List Loc) (hX : z_X G s s.heap) (hP : z_P G tg (wz C M o X) s H) (hS : va_S (z_A G) s.heap H locs) : ∃ cell : Cell, H[z_a G (200 + pO b)]? = some cell ∧ cell.vm.isStatics = false ∧ s.vm.findClass RX4 = some cell.cls := by
  cases b
  · exact z_recv (j := 8) (ci := 2) rfl rfl rfl G s H locs hX hP hS
  · exact z_recv (j := 13) (ci := 2) rfl rfl rfl G s H locs hX hP hS
end ZH
