/-! WALKS THAT KNOW MORE OF THEIR ENTRY: the law, and what it calls of its own -/
section ZK24
abbrev z_K : Type := (z_G → State → Array Value → Code → Prop) × (z_G → State → Array Value → List Frame → State → Prop)
def z_gk (μ : z_Mt) (tg : Bool) (pc : Nat) (L : List (Nat × Value)) (st : List Value) (w : List va_E) (uc us : Nat) (Q : z_K) : Prop :=
  ∀ (l : Launch) (_ : l.stackTraces = false) (G : z_G) (p : Program) (e : Env) (s : State) (_ : z_Y s) (m : MethodId) (args : Array Value) (below : List Frame) (meth : Method) (c : Code) (_ : Q.1 G s args c) (H : Heap) (locs : List Loc) (ls : Array Slot),
    z_H μ G p s m args meth c → z_P G tg w s H → va_S (z_A G) s.heap H locs → lv_has ls (z_n μ) (z_L G L) →
    W p l e (z_rm μ) s m args below meth c H locs uc us (Q.2 G s args below) (F0 m pc ls (st.map (z_v G)))
variable {μ ν : z_Mt} {tg : Bool} {pc : Nat} {L : List (Nat × Value)} {st stk : List Value} {w : List va_E} {uc us : Nat} {Q : z_K} {Q1 : z_R} {C : cS} {M : mS} {o : Nat → Int64} {X : List va_E}
/-- the end of a walk with an answer, as a method's -/
abbrev z_mq (μ : z_Mt) (tg : Bool) (R : z_R) : z_G → State → Array Value → List Frame → State → Prop := fun G s args below => MQ below (z_Q G tg R) args s (z_rm μ).cells (z_rm μ).slots (z_A G)
theorem k_of {K : z_G → State → Array Value → Code → Prop} {R : z_R} (k : z_go μ tg pc L st w uc us R) : z_gk μ tg pc L st w uc us (K, z_mq μ tg R) := by
  intro l hq9 G p e s hy9 m args below meth c hz9 H locs ls hH hP hS hl
  exact k l G p e s m args below meth c H locs ls hH hP hS hl
theorem kz_loc {μ : z_Mt} {tg : Bool} {pc : Nat} {L : List (Nat × Value)} {st : List Value} {w : List va_E} {uc us : Nat} {Q : z_K} (L' : List (Nat × Value)) (h : ∀ q ∈ L', q ∈ L) (k : z_gk μ tg pc L' st w uc us Q) : z_gk μ tg pc L st w uc us Q := by
  intro l hq9 G p e s hy9 m args below meth c hz9 H locs ls hH hP hS hl
  refine k l hq9 G p e s hy9 m args below meth c hz9 H locs ls hH hP hS ⟨hl.1, hl.2.1, fun q hq => ?_⟩
  obtain ⟨q0, h0, rfl⟩ := List.mem_map.mp hq
  exact hl.2.2 _ (List.mem_map.mpr ⟨q0, h q0 h0, rfl⟩)
theorem kz_widen {μ : z_Mt} {tg : Bool} {pc : Nat} {L : List (Nat × Value)} {st : List Value} {w : List va_E} {uc us uc' us' : Nat} {Q : z_K} (h1 : uc ≤ uc') (h2 : us ≤ us') (k : z_gk μ tg pc L st w uc' us' Q) : z_gk μ tg pc L st w uc us Q := by
  intro l hq9 G p e s hy9 m args below meth c hz9 H locs ls hH hP hS hl
  exact W.widen h1 h2 (k l hq9 G p e s hy9 m args below meth c hz9 H locs ls hH hP hS hl)
theorem kz_iadd {x y : Int32}  (n : Nat) (hd : decode (z_b μ) pc = .ok (.iadd, 1)) (hn : pc + 1 = n) (k : z_gk μ tg n L (.int (x + y) :: st) w uc us Q) : z_gk μ tg pc L (.int y :: .int x :: st) w uc us Q := by
  subst hn
  intro l hq9 G p e s hy9 m args below meth c hz9 H locs ls hH hP hS hl
  exact lv_iadd hH.1 hH.2.1 hd (k l hq9 G p e s hy9 m args below meth c hz9 H locs ls hH hP hS hl)
theorem kz_isub {x y : Int32}  (n : Nat) (hd : decode (z_b μ) pc = .ok (.isub, 1)) (hn : pc + 1 = n) (k : z_gk μ tg n L (.int (x - y) :: st) w uc us Q) : z_gk μ tg pc L (.int y :: .int x :: st) w uc us Q := by
  subst hn
  intro l hq9 G p e s hy9 m args below meth c hz9 H locs ls hH hP hS hl
  exact lv_isub hH.1 hH.2.1 hd (k l hq9 G p e s hy9 m args below meth c hz9 H locs ls hH hP hS hl)
theorem kz_iand {x y : Int32}  (n : Nat) (hd : decode (z_b μ) pc = .ok (.iand, 1)) (hn : pc + 1 = n) (k : z_gk μ tg n L (.int (x &&& y) :: st) w uc us Q) : z_gk μ tg pc L (.int y :: .int x :: st) w uc us Q := by
  subst hn
  intro l hq9 G p e s hy9 m args below meth c hz9 H locs ls hH hP hS hl
  exact lv_iand hH.1 hH.2.1 hd (k l hq9 G p e s hy9 m args below meth c hz9 H locs ls hH hP hS hl)
theorem kz_i2l {x : Int32} (n : Nat) (hd : decode (z_b μ) pc = .ok (.i2l, 1)) (hn : pc + 1 = n) (k : z_gk μ tg n L (.long x.toInt64 :: st) w uc us Q) : z_gk μ tg pc L (.int x :: st) w uc us Q := by
  subst hn
  intro l hq9 G p e s hy9 m args below meth c hz9 H locs ls hH hP hS hl
  exact lv_i2l hH.1 hH.2.1 hd rfl (k l hq9 G p e s hy9 m args below meth c hz9 H locs ls hH hP hS hl)
theorem kz_lcmp {x y : Int64}  (n : Nat) (hd : decode (z_b μ) pc = .ok (.lcmp, 1)) (hn : pc + 1 = n) (k : z_gk μ tg n L (.int (lg_cmp x y) :: st) w uc us Q) : z_gk μ tg pc L (.long y :: .long x :: st) w uc us Q := by
  subst hn
  intro l hq9 G p e s hy9 m args below meth c hz9 H locs ls hH hP hS hl
  exact W.lcmp hH.1 hH.2.1 hd (k l hq9 G p e s hy9 m args below meth c hz9 H locs ls hH hP hS hl)
theorem kz_iconst {i : Int} (v : Int32) (n : Nat) (hd : decode (z_b μ) pc = .ok (.iconst i, 1)) (hv : Int32.ofInt i = v) (hn : pc + 1 = n) (k : z_gk μ tg n L (.int v :: st) w uc us Q) : z_gk μ tg pc L st w uc us Q := by
  subst hn
  intro l hq9 G p e s hy9 m args below meth c hz9 H locs ls hH hP hS hl
  exact lv_iconst hH.1 hH.2.1 hd hv (k l hq9 G p e s hy9 m args below meth c hz9 H locs ls hH hP hS hl)
theorem kz_bipush {i : Int} (v : Int32) (n : Nat) (hd : decode (z_b μ) pc = .ok (.bipush i, 2)) (hv : (Int8.ofInt i).toInt32 = v) (hn : pc + 2 = n) (k : z_gk μ tg n L (.int v :: st) w uc us Q) : z_gk μ tg pc L st w uc us Q := by
  subst hn
  intro l hq9 G p e s hy9 m args below meth c hz9 H locs ls hH hP hS hl
  exact lv_bipush hH.1 hH.2.1 hd hv (k l hq9 G p e s hy9 m args below meth c hz9 H locs ls hH hP hS hl)
theorem kz_iload_n {i : Fin 4} {x : Int32} (j n : Nat) (hd : decode (z_b μ) pc = .ok (.iload_n i, 1)) (hj : L[j]? = some ((i : Nat), .int x)) (hn : pc + 1 = n) (k : z_gk μ tg n L (.int x :: st) w uc us Q) : z_gk μ tg pc L st w uc us Q := by
  subst hn
  intro l hq9 G p e s hy9 m args below meth c hz9 H locs ls hH hP hS hl
  exact lv_iload_n hH.1 hH.2.1 hd rfl (lv_at hl j (z_Lat G hj)) (k l hq9 G p e s hy9 m args below meth c hz9 H locs ls hH hP hS hl)
theorem kz_iload {i : Nat} {x : Int32} (j n : Nat) (hd : decode (z_b μ) pc = .ok (.iload i, 2)) (hj : L[j]? = some (i, .int x)) (hn : pc + 2 = n) (k : z_gk μ tg n L (.int x :: st) w uc us Q) : z_gk μ tg pc L st w uc us Q := by
  subst hn
  intro l hq9 G p e s hy9 m args below meth c hz9 H locs ls hH hP hS hl
  exact lv_iload hH.1 hH.2.1 hd (lv_at hl j (z_Lat G hj)) (k l hq9 G p e s hy9 m args below meth c hz9 H locs ls hH hP hS hl)
theorem kz_aload_n {i : Fin 4} {x : Nat} (j n : Nat) (hd : decode (z_b μ) pc = .ok (.aload_n i, 1)) (hj : L[j]? = some ((i : Nat), .ref x)) (hn : pc + 1 = n) (k : z_gk μ tg n L (.ref x :: st) w uc us Q) : z_gk μ tg pc L st w uc us Q := by
  subst hn
  intro l hq9 G p e s hy9 m args below meth c hz9 H locs ls hH hP hS hl
  exact lv_aload_n hH.1 hH.2.1 hd rfl (lv_at hl j (z_Lat G hj)) (k l hq9 G p e s hy9 m args below meth c hz9 H locs ls hH hP hS hl)
theorem kz_istore {i : Nat} {x : Int32} (L2 : List (Nat × Value)) (n : Nat) (hd : decode (z_b μ) pc = .ok (.istore i, 2)) (hi : (i : Nat) < z_n μ) (hL : (i, Value.int x) :: L.filter (fun q => !(q.1 == i) && !(q.1 + 1 == i && q.2.category == 2)) = L2) (hn : pc + 2 = n) (k : z_gk μ tg n L2 st w uc us Q) : z_gk μ tg pc L (.int x :: st) w uc us Q := by
  subst hn
  intro l hq9 G p e s hy9 m args below meth c hz9 H locs ls hH hP hS hl
  exact lv_istore hH.1 hH.2.1 hd hl hi (lv' := z_L G L2) (by rw [← hL, z_Lfilter1]; rfl) (fun ls2 hl2 => k l hq9 G p e s hy9 m args below meth c hz9 H locs ls2 hH hP hS hl2)
theorem kz_astore_n {i : Fin 4} {x : Nat} (L2 : List (Nat × Value)) (n : Nat) (hd : decode (z_b μ) pc = .ok (.astore_n i, 1)) (hi : (i : Nat) < z_n μ) (hL : ((i : Nat), Value.ref x) :: L.filter (fun q => !(q.1 == (i : Nat)) && !(q.1 + 1 == (i : Nat) && q.2.category == 2)) = L2) (hn : pc + 1 = n) (k : z_gk μ tg n L2 st w uc us Q) : z_gk μ tg pc L (.ref x :: st) w uc us Q := by
  subst hn
  intro l hq9 G p e s hy9 m args below meth c hz9 H locs ls hH hP hS hl
  exact lv_astore_n hH.1 hH.2.1 hd rfl hl hi (lv' := z_L G L2) (by rw [← hL, z_Lfilter1]; rfl) (fun ls2 hl2 => k l hq9 G p e s hy9 m args below meth c hz9 H locs ls2 hH hP hS hl2)
theorem kz_iinc {i : Nat} {d : Int} {x : Int32} (v : Int32) (L2 : List (Nat × Value)) (j n : Nat) (hd : decode (z_b μ) pc = .ok (.iinc i d, 3)) (hj : L[j]? = some (i, .int x)) (hv : x + Int32.ofInt d = v) (hi : i < z_n μ) (hL : (i, Value.int v) :: L.filter (fun q => !(q.1 == i) && !(q.1 + 1 == i && q.2.category == 2)) = L2) (hn : pc + 3 = n) (k : z_gk μ tg n L2 st w uc us Q) : z_gk μ tg pc L st w uc us Q := by
  subst hn
  intro l hq9 G p e s hy9 m args below meth c hz9 H locs ls hH hP hS hl
  exact lv_iinc hH.1 hH.2.1 hd hl (z_Lat G hj) hv hi (lv' := z_L G L2) (by rw [← hL, z_Lfilter1]; rfl) (fun ls2 hl2 => k l hq9 G p e s hy9 m args below meth c hz9 H locs ls2 hH hP hS hl2)
theorem kz_dup {v : Value} (hv : v.category = 1) (n : Nat) (hd : decode (z_b μ) pc = .ok (.dup, 1)) (hn : pc + 1 = n) (k : z_gk μ tg n L (v :: v :: st) w uc us Q) : z_gk μ tg pc L (v :: st) w uc us Q := by
  subst hn
  intro l hq9 G p e s hy9 m args below meth c hz9 H locs ls hH hP hS hl
  exact lv_dup hH.1 hH.2.1 hd (by rw [z_v_cat]; exact hv) (k l hq9 G p e s hy9 m args below meth c hz9 H locs ls hH hP hS hl)
theorem kz_if_eq {x : Int32} {off : Int} (t n : Nat) (hd : decode (z_b μ) pc = .ok (.ifCond .eq off, 3)) (ht : (pc : Int) + off = (t : Int)) (hn : pc + 3 = n) (kt : x = 0 → z_gk μ tg t L st w uc us Q) (kf : ¬ x = 0 → z_gk μ tg n L st w uc us Q) : z_gk μ tg pc L (.int x :: st) w uc us Q := by
  subst hn
  intro l hq9 G p e s hy9 m args below meth c hz9 H locs ls hH hP hS hl
  exact lv_if_eq hH.1 hH.2.1 hd ht (fun hc => kt hc l hq9 G p e s hy9 m args below meth c hz9 H locs ls hH hP hS hl) (fun hc => kf hc l hq9 G p e s hy9 m args below meth c hz9 H locs ls hH hP hS hl)
theorem kz_if_ne {x : Int32} {off : Int} (t n : Nat) (hd : decode (z_b μ) pc = .ok (.ifCond .ne off, 3)) (ht : (pc : Int) + off = (t : Int)) (hn : pc + 3 = n) (kt : ¬ x = 0 → z_gk μ tg t L st w uc us Q) (kf : x = 0 → z_gk μ tg n L st w uc us Q) : z_gk μ tg pc L (.int x :: st) w uc us Q := by
  subst hn
  intro l hq9 G p e s hy9 m args below meth c hz9 H locs ls hH hP hS hl
  exact lv_if_ne hH.1 hH.2.1 hd ht (fun hc => kt hc l hq9 G p e s hy9 m args below meth c hz9 H locs ls hH hP hS hl) (fun hc => kf hc l hq9 G p e s hy9 m args below meth c hz9 H locs ls hH hP hS hl)
theorem kz_icmp_eq {x y : Int32} {off : Int} (t n : Nat) (hd : decode (z_b μ) pc = .ok (.if_icmp .eq off, 3)) (ht : (pc : Int) + off = (t : Int)) (hn : pc + 3 = n) (kt : x = y → z_gk μ tg t L st w uc us Q) (kf : ¬ x = y → z_gk μ tg n L st w uc us Q) : z_gk μ tg pc L (.int y :: .int x :: st) w uc us Q := by
  subst hn
  intro l hq9 G p e s hy9 m args below meth c hz9 H locs ls hH hP hS hl
  exact lv_icmp_eq hH.1 hH.2.1 hd ht (fun hc => kt hc l hq9 G p e s hy9 m args below meth c hz9 H locs ls hH hP hS hl) (fun hc => kf hc l hq9 G p e s hy9 m args below meth c hz9 H locs ls hH hP hS hl)
theorem kz_icmp_gt {x y : Int32} {off : Int} (t n : Nat) (hd : decode (z_b μ) pc = .ok (.if_icmp .gt off, 3)) (ht : (pc : Int) + off = (t : Int)) (hn : pc + 3 = n) (kt : y < x → z_gk μ tg t L st w uc us Q) (kf : ¬ y < x → z_gk μ tg n L st w uc us Q) : z_gk μ tg pc L (.int y :: .int x :: st) w uc us Q := by
  subst hn
  intro l hq9 G p e s hy9 m args below meth c hz9 H locs ls hH hP hS hl
  exact lv_icmp_gt hH.1 hH.2.1 hd ht (fun hc => kt hc l hq9 G p e s hy9 m args below meth c hz9 H locs ls hH hP hS hl) (fun hc => kf hc l hq9 G p e s hy9 m args below meth c hz9 H locs ls hH hP hS hl)
theorem kz_icmp_ge {x y : Int32} {off : Int} (t n : Nat) (hd : decode (z_b μ) pc = .ok (.if_icmp .ge off, 3)) (ht : (pc : Int) + off = (t : Int)) (hn : pc + 3 = n) (kt : y ≤ x → z_gk μ tg t L st w uc us Q) (kf : ¬ y ≤ x → z_gk μ tg n L st w uc us Q) : z_gk μ tg pc L (.int y :: .int x :: st) w uc us Q := by
  subst hn
  intro l hq9 G p e s hy9 m args below meth c hz9 H locs ls hH hP hS hl
  exact lv_icmp_ge hH.1 hH.2.1 hd ht (fun hc => kt hc l hq9 G p e s hy9 m args below meth c hz9 H locs ls hH hP hS hl) (fun hc => kf hc l hq9 G p e s hy9 m args below meth c hz9 H locs ls hH hP hS hl)
theorem kz_goto {off : Int} (t : Nat) (hd : decode (z_b μ) pc = .ok (.goto off, 3)) (ht : (pc : Int) + off = (t : Int)) (k : z_gk μ tg t L st w uc us Q) : z_gk μ tg pc L st w uc us Q := by
  intro l hq9 G p e s hy9 m args below meth c hz9 H locs ls hH hP hS hl
  exact lv_goto hH.1 hH.2.1 hd ht (k l hq9 G p e s hy9 m args below meth c hz9 H locs ls hH hP hS hl)
theorem kz_tabIn {dflt lo hi : Int} {offs : Array Int} {len : Nat} {x : Int32} {off : Int} (t : Nat) (hd : decode (z_b μ) pc = .ok (.tableswitch dflt lo hi offs, len)) (h1 : ¬ x.toInt < lo) (h2 : ¬ hi < x.toInt) (ho : offs[(x.toInt - lo).toNat]? = some off) (ht : (pc : Int) + off = (t : Int)) (k : z_gk μ tg t L st w uc us Q) : z_gk μ tg pc L (.int x :: st) w uc us Q := by
  intro l hq9 G p e s hy9 m args below meth c hz9 H locs ls hH hP hS hl
  exact lv_tableIn hH.1 hH.2.1 hd h1 h2 ho ht (k l hq9 G p e s hy9 m args below meth c hz9 H locs ls hH hP hS hl)
theorem kz_tabOut {dflt lo hi : Int} {offs : Array Int} {len : Nat} {x : Int32} (t : Nat) (hd : decode (z_b μ) pc = .ok (.tableswitch dflt lo hi offs, len)) (h1 : x.toInt < lo ∨ hi < x.toInt) (ht : (pc : Int) + dflt = (t : Int)) (k : z_gk μ tg t L st w uc us Q) : z_gk μ tg pc L (.int x :: st) w uc us Q := by
  intro l hq9 G p e s hy9 m args below meth c hz9 H locs ls hH hP hS hl
  exact lv_tableOut hH.1 hH.2.1 hd h1 ht (k l hq9 G p e s hy9 m args below meth c hz9 H locs ls hH hP hS hl)
theorem kz_lald {b N : Nat} {f : Nat → Int64} {i : Int32} (j n : Nat) (hd : decode (z_b μ) pc = .ok (.laload, 1)) (hb : b = 200 + j) (hw : w[j]? = some (.inl (2, N, .inr (.inl f)))) (hin : vp_in i N) (hn : pc + 1 = n) (k : z_gk μ tg n L (.long (f i.toNatClampNeg) :: st) w uc us Q) : z_gk μ tg pc L (.int i :: .ref b :: st) w uc us Q := by
  subst hn
  intro l hq9 G p e s hy9 m args below meth c hz9 H locs ls hH hP hS hl
  rw [List.map_cons, List.map_cons, z_ref_new G hb]
  exact va_lald (D := G.1) hH.1 hH.2.1 hP.2.2 hP.2.1 j 2 (z_ws_at G hw) rfl hin hd (k l hq9 G p e s hy9 m args below meth c hz9 H locs ls hH hP hS hl)
theorem kz_last {b N : Nat} {f : Nat → Int64} {i : Int32} {x : Int64} (j : Nat) (w2 : List va_E) (n : Nat) (hd : decode (z_b μ) pc = .ok (.lastore, 1)) (hb : b = 200 + j) (hw : w[j]? = some (.inl (2, N, .inr (.inl (f))))) (hin : vp_in i N) (hw2 : w.set j (.inl (2, N, .inr (.inl (vp_updL f i.toNatClampNeg x)))) = w2) (hn : pc + 1 = n) (k : z_gk μ tg n L st w2 uc us Q) : z_gk μ tg pc L (.long x :: .int i :: .ref b :: st) w uc us Q := by
  subst hn
  subst hw2
  intro l hq9 G p e s hy9 m args below meth c hz9 H locs ls hH hP hS hl
  rw [List.map_cons, List.map_cons, List.map_cons, z_ref_new G hb]
  have ha := z_ws_at G hw
  refine W.last hH.1 hH.2.1 (hP.2.1 j _ ha) ((hP.2.2.2 2 (G.2.1 2, _) rfl).1 N (fun j => .long (f j))) (fun q => by cases q) (by show ¬ (i < 0 ∨ (arrV _ _ _).slots.size ≤ _); rw [arrV_size]; exact hin) rfl rfl hd fun H1 e1 z oq => ?_
  have hP2 : va_P G.1 z_cl ((z_ws G 0 w).set j (G.2.2.1 + j, z_e G (.inl (2, N, .inr (.inl (vp_updL f i.toNatClampNeg x)))))) H1 := by
    refine hP.2.1.set (z_D G w) ha ?_ oq
    show H1[G.2.2.1 + j]? = some (vp_cell _ _)
    rw [e1]
    show some ((vp_cell _ _).setSlot _ _) = _
    rw [vp_cell_l, vp_cell_l, arrV_store]
    congr 2
    funext q
    by_cases hq : q = i.toNatClampNeg
    · subst hq
      simp [updV, upd, vp_updL, vp_nar]
      try rfl
    · simp [updV, upd, vp_updL, hq]
  rw [z_ws_set0] at hP2
  exact k l hq9 G p e s hy9 m args below meth c hz9 H1 _ ls hH (z_P_set hP z hP2) (hS.put z oq ((z_D G w).2 j _ ha)) hl
theorem kz_newa {at9 : ArrayType} {x : Int32} (kd N : Nat) (a0 : vp_A) (n : Nat) (htg : tg = true) (hd : decode (z_b μ) pc = .ok (.newarray at9, 2)) (hk : kd < 4) (hat : newarray.typeOf at9 = z_kty kd) (hcl : Cond.arrayClass (z_kty kd) ∈ z_T) (ha : ∀ cA : ClassId, vp_cell cA a0 = arrV cA N (fun _ => defaultValue (z_kty kd))) (hx : ¬ x < 0) (hN : x.toNatClampNeg = N) (hbytes : N * componentBytes (z_kty kd) ≤ 536870912) (hc : uc + 1 ≤ (z_rm μ).cells ∧ us + N ≤ (z_rm μ).slots) (hn : pc + 2 = n) (k : z_gk μ tg n L (.ref (200 + w.length) :: st) (w ++ [.inl (kd, a0)]) (uc + 1) (us + N) Q) : z_gk μ tg pc L (.int x :: st) w uc us Q := by
  subst hn
  intro l hq9 G p e s hy9 m args below meth c hz9 H locs ls hH hP hS hl
  have hsz : H.size = G.2.2.1 + w.length := hP.1.2 htg
  refine va_newaK (h := G.2.2.1 + w.length) hH.1 hH.2.1 (by rw [hat]; exact hH.2.2.2.2.2.1 _ hcl) rfl hd rfl hx hN (by rw [hat]; exact hbytes) hc.1 hc.2 hsz fun H1 cA e1 z1 o1 hAr hNm => ?_
  rw [hat] at e1 hNm
  have hcA : cA = G.2.1 kd := by
    have h1 : va_RA s (G.2.1 kd) (z_kty kd) := by
      rcases (show kd = 0 ∨ kd = 1 ∨ kd = 2 ∨ kd = 3 by omega) with rfl | rfl | rfl | rfl
      · exact (hP.2.2.2 0 (G.2.1 0, .byte) rfl).2
      · exact (hP.2.2.2 1 (G.2.1 1, .int) rfl).2
      · exact (hP.2.2.2 2 (G.2.1 2, .long) rfl).2
      · exact (hP.2.2.2 3 (G.2.1 3, .boolean) rfl).2
    have h2 : s.vm.findClass ("[" ++ (z_kty kd).toString) = some (G.2.1 kd) := by
      rcases (show kd = 0 ∨ kd = 1 ∨ kd = 2 ∨ kd = 3 by omega) with rfl | rfl | rfl | rfl <;> exact h1
    exact Option.some.inj (hNm.symm.trans h2)
  subst hcA
  have hP2 : va_P G.1 z_cl (z_ws G 0 (w ++ [.inl (kd, a0)])) H1 := by
    rw [z_ws_app]
    refine (hP.2.1.kept fun q x hx => o1 x.1 (by have := (hP.2.1 q x hx).lt; omega)).app ?_
    intro q x hx
    have hz : q < 1 := (List.getElem?_eq_some_iff.mp hx).1
    rw [show q = 0 by omega] at hx
    cases hx
    show H1[G.2.2.1 + (0 + w.length)]? = some (vp_cell _ _)
    rw [Nat.zero_add, ha]
    exact e1
  have hK := k l hq9 G p e s hy9 m args below meth c hz9 H1 locs ls hH ⟨by rw [z1, List.length_append]; simp only [List.length_cons, List.length_nil]; omega, hP2, hP.2.2⟩ ⟨by have := hS.1; omega, fun q h1 h2 => (o1 q (by have := hS.1; omega)).trans (hS.2.1 q h1 h2), hS.2.2⟩ hl
  rw [List.map_cons, z_ref_new G rfl] at hK
  exact hK
theorem kz_new {idx ci : Nat} (fs : List Value) (n : Nat) (htg : tg = true) (hd : decode (z_b μ) pc = .ok (.new idx, 3)) (hok : z_okN (z_y μ).cls idx ci fs) (hc : uc + 1 ≤ (z_rm μ).cells ∧ us + fs.length ≤ (z_rm μ).slots) (hn : pc + 3 = n) (k : z_gk μ tg n L (.ref (200 + w.length) :: st) (w ++ [.inr (ci, fs)]) (uc + 1) (us + fs.length) Q) : z_gk μ tg pc L st w uc us Q := by
  subst hn
  intro l hq9 G p e s hy9 m args below meth c hz9 H locs ls hH hP hS hl
  obtain ⟨⟨C, T, N⟩, ty, hcl, hin, hty, h1, h2, h3, hlen, hdef, hmap⟩ := hok
  have hsz : H.size = G.2.2.1 + w.length := hP.1.2 htg
  have hKn := hP.2.2.1 ci _ hcl
  rw [hlen] at hc k
  refine W.newcK (h := G.2.2.1 + w.length) hH.1 hH.2.1 hH.2.2.2.2.1 (hH.2.2.2.2.2.1 _ h1) (hH.2.2.2.2.2.1 _ h2) (hH.2.2.2.2.2.1 _ h3) rfl hd hc.1 hc.2 hKn.2.1 hsz fun H1 kC hkC e1 z1 o1 => ?_
  have hP2 : va_P G.1 z_cl (z_ws G 0 (w ++ [.inr (ci, fs)])) H1 := by
    rw [z_ws_app]
    refine (hP.2.1.kept fun q x hx => o1 x.1 (by have := (hP.2.1 q x hx).lt; omega)).app ?_
    intro q x hx
    have hz : q < 1 := (List.getElem?_eq_some_iff.mp hx).1
    rw [show q = 0 by omega] at hx
    cases hx
    refine ⟨_, hcl, ?_⟩
    show t_OB (G.2.2.1 + (0 + w.length)) _ _ _ H1 (vp_V (fs.map (z_v G)))
    rw [hmap G, Nat.zero_add]
    exact (u_born ty hH.2.2.2.2.2.1 hin hKn hkC e1 hty).to hdef
  have hK := k l hq9 G p e s hy9 m args below meth c hz9 H1 locs ls hH ⟨by rw [z1, List.length_append]; simp only [List.length_cons, List.length_nil]; omega, hP2, hP.2.2⟩ ⟨by have := hS.1; omega, fun q h1 h2 => (o1 q (by have := hS.1; omega)).trans (hS.2.1 q h1 h2), hS.2.2⟩ hl
  rw [List.map_cons, z_ref_new G rfl] at hK
  exact hK
theorem kz_callx {l : Launch} {G : z_G} {p : Program} {e : Env} {s : State} {m : MethodId} {args : Array Value} {below : List Frame} {meth : Method} {c : Code} {H : Heap} {locs : List Loc} {ls : Array Slot} {mc ms : Nat} {st0 : List Value} {a : Array Value} (hq9 : l.stackTraces = false) (hy9 : z_Y s) (hz9 : Q.1 G s args c) (hH : z_H μ G p s m args meth c) (hS : va_S (z_A G) s.heap H locs) (hl : lv_has ls (z_n μ) (z_L G L))
    (hr : va_Run p l e (z_rm μ) s m args below meth c H locs uc us mc ms (F0 m pc ls st0) (st.map (z_v G)) (z_Q G tg Q1 a) (z_A G)) (k : ∀ r w1, Q1 r w1 → z_gk μ tg (pc + 3) L (r.toList ++ st) w1 (uc + mc) (us + ms) Q) :
    W p l e (z_rm μ) s m args below meth c H locs uc us (Q.2 G s args below) (F0 m pc ls st0) := by
  intro T hT X
  obtain ⟨v, st₀, t, T', L9, h0, X', hL, e1, e2, ⟨⟨r, w1, q1, hv, qP, qX⟩, hz, hk⟩, st9⟩ := hr T hT X
  cases hv
  rw [h0] at hz hk
  have hvm : s.vm.Alike t.vm := by rw [← e2]; exact X'.warmed.alike
  have hP1 : z_P G tg w1 s T'.heap := by rw [e1]; exact qP.alike hvm.symm
  have hS1 : va_S (z_A G) s.heap T'.heap (locs ++ L9) := ⟨Nat.le_trans hS.1 (by rw [e1]; exact hz), fun q g1 g2 => by rw [e1, hk q (Nat.lt_of_lt_of_le g1 hS.1) g2]; exact hS.2.1 q g1 g2, fun q hq => by
      rcases List.mem_append.mp hq with h | h
      · exact hS.2.2 q h
      · exact hL q h⟩
  have hW := k r w1 q1 l hq9 G p e s hy9 m args below meth c hz9 T'.heap (locs ++ L9) ls hH hP1 hS1 hl
  have he : (r.toList ++ st).map (z_v G) = (r.map (z_v G)).toList ++ st.map (z_v G) := by cases r <;> simp
  rw [he] at hW
  obtain ⟨t2, a1, b1⟩ := hW T' rfl X'
  exact ⟨t2, st9 t2 a1, b1⟩
theorem kz_callV0 {idx b na : Nat} {As : List Value} (hd : decode (z_b μ) pc = .ok (.invokevirtual idx, 3)) (hok : z_okV μ ν idx na) (hna : As.length = na) (hst : (st.map fun v => v.category).sum ≤ 8)
    (hrv : ∀ (G : z_G) (s : State) (H : Heap) (locs : List Loc), z_X G s s.heap → z_P G tg w s H → va_S (z_A G) s.heap H locs → ∃ cell : Cell, H[z_a G b]? = some cell ∧ cell.vm.isStatics = false ∧ s.vm.findClass (z_y ν).cls = some cell.cls)
    (hc : uc + (z_rm ν).cells ≤ (z_rm μ).cells ∧ us + (z_rm ν).slots ≤ (z_rm μ).slots) (hM : z_M ν tg (.ref b :: As) w Q1) (k : ∀ r w1, Q1 r w1 → z_gk μ tg (pc + 3) L (r.toList ++ st) w1 (uc + (z_rm ν).cells) (us + (z_rm ν).slots) Q) : z_gk μ tg pc L (As.reverse ++ .ref b :: st) w uc us Q := by
  intro l hq9 G p e s hy9 m args below meth c hz9 H locs ls hH hP hS hl
  have he : (As.reverse ++ .ref b :: st).map (z_v G) = (As.map (z_v G)).reverse ++ Value.ref (z_a G b) :: st.map (z_v G) := by simp [z_v]
  rw [he]
  refine kz_callx (a := (Value.ref (z_a G b) :: As.map (z_v G)).toArray) hq9 hy9 hz9 hH hS hl (va_runV (As := As.map (z_v G)) (rest := st.map (z_v G)) ⟨hH.1, hH.2.1, hH.2.2.2.1, hH.2.2.2.2.1, hH.2.2.2.2.2.1⟩ (hM l G) (cwV na hH.2.2.2.2.2.1 (z_goodC hok.1) rfl rfl rfl ⟨rfl, hok.2.1⟩ hok.2.2) ⟨z_blind G _ w, hrv G s H locs hH.2.2.2.2.2.2.2.2.2 hP hS, z_pre _ hH.2.2.2.2.2.2.2.2.2 hP hS⟩ rfl (by rw [List.length_map]; exact hna) hl.1 rfl (lv_room (by rw [z_sum]; exact hst)) hd hc) k
theorem kz_callS {idx na : Nat} (As : List Value) (n : Nat) (hd : decode (z_b μ) pc = .ok (.invokestatic idx, 3)) (hok : z_okS μ ν idx na) (hna : As.length = na) (hst : (st.map fun v => v.category).sum ≤ 8)
    (hc : uc + (z_rm ν).cells ≤ (z_rm μ).cells ∧ us + (z_rm ν).slots ≤ (z_rm μ).slots) (hn : pc + 3 = n) (hM : z_M ν tg As w Q1) (k : ∀ r w1, Q1 r w1 → z_gk μ tg n L (r.toList ++ st) w1 (uc + (z_rm ν).cells) (us + (z_rm ν).slots) Q) : z_gk μ tg pc L (As.reverse ++ st) w uc us Q := by
  subst hn
  intro l hq9 G p e s hy9 m args below meth c hz9 H locs ls hH hP hS hl
  have he : (As.reverse ++ st).map (z_v G) = (As.map (z_v G)).reverse ++ st.map (z_v G) := by simp
  rw [he]
  exact kz_callx (a := (As.map (z_v G)).toArray) hq9 hy9 hz9 hH hS hl (va_runS (As := As.map (z_v G)) (rest := st.map (z_v G)) ⟨hH.1, hH.2.1, hH.2.2.2.1, hH.2.2.2.2.1, hH.2.2.2.2.2.1⟩ (hM l G) (va_cwS na hH.2.2.2.2.2.1 (z_goodC hok.1) rfl rfl rfl hok.2.1 hok.2.2) ⟨z_blind G _ w, z_pre _ hH.2.2.2.2.2.2.2.2.2 hP hS⟩ rfl (by rw [List.length_map]; exact hna) hl.1 rfl (lv_room (by rw [z_sum]; exact hst)) hd hc) k
theorem kz_callI {idx b na : Nat} (As : List Value) (n : Nat) (hd : decode (z_b μ) pc = .ok (.invokespecial idx, 3)) (hok : z_okI μ ν idx na) (hna : As.length = na) (hst : (st.map fun v => v.category).sum ≤ 8)
    (hc : uc + (z_rm ν).cells ≤ (z_rm μ).cells ∧ us + (z_rm ν).slots ≤ (z_rm μ).slots) (hn : pc + 3 = n) (hM : z_M ν tg (.ref b :: As) w Q1) (k : ∀ r w1, Q1 r w1 → z_gk μ tg n L (r.toList ++ st) w1 (uc + (z_rm ν).cells) (us + (z_rm ν).slots) Q) : z_gk μ tg pc L (As.reverse ++ .ref b :: st) w uc us Q := by
  subst hn
  intro l hq9 G p e s hy9 m args below meth c hz9 H locs ls hH hP hS hl
  have he : (As.reverse ++ .ref b :: st).map (z_v G) = (As.map (z_v G)).reverse ++ Value.ref (z_a G b) :: st.map (z_v G) := by simp [z_v]
  rw [he]
  have hts := hH.2.2.2.2.2.1
  obtain ⟨h1, h2, h3, h4, h5⟩ := hok
  have hM := hM l G
  unfold z_wd at hM
  rw [h2] at hM
  exact kz_callx (a := (Value.ref (z_a G b) :: As.map (z_v G)).toArray) hq9 hy9 hz9 hH hS hl (va_runI (As := As.map (z_v G)) (rest := st.map (z_v G)) ⟨hH.1, hH.2.1, hH.2.2.2.1, hH.2.2.2.2.1, hts⟩ hM (cwI na hts (z_goodC (l := [.code (z_y ν) (z_b ν) (z_n ν) none]) (fun w h => h1 w (List.mem_cons_of_mem _ (List.mem_cons_of_mem _ (List.mem_cons_of_mem _ h))))) rfl rfl rfl (hts _ (h1 _ (List.mem_cons_of_mem _ (List.mem_cons_of_mem _ List.mem_cons_self)))) (hts _ (h1 _ List.mem_cons_self)) (hts _ (h1 _ (List.mem_cons_of_mem _ List.mem_cons_self))) h3 h4 h5) ⟨z_blind G _ w, z_pre _ hH.2.2.2.2.2.2.2.2.2 hP hS⟩ rfl (by rw [List.length_map]; exact hna) hl.1 rfl (lv_room (by rw [z_sum]; exact hst)) hd hc) k
theorem kz_pick (L2 : List (Nat × Value)) (ks : List Nat) (h : lv_pick L ks = L2) (k : z_gk μ tg pc L2 st w uc us Q) : z_gk μ tg pc L st w uc us Q := by
  refine kz_loc L2 (fun q hq => ?_) k
  rw [← h] at hq
  obtain ⟨k, -, hk⟩ := List.mem_filterMap.mp hq
  exact List.mem_of_getElem? hk
theorem kz_ciV {idx b na : Nat} {P : Int32 → cS → Prop} (As : List Value) (n : Nat) (hd : decode (z_b μ) pc = .ok (.invokevirtual idx, 3)) (hok : z_okV μ ν idx na) (hs : stk = As.reverse ++ .ref b :: st) (hna : As.length = na) (hst : (st.map fun v => v.category).sum ≤ 8)
    (hrv : ∀ (G : z_G) (s : State) (H : Heap) (locs : List Loc), z_X G s s.heap → z_P G tg (wz C M o X) s H → va_S (z_A G) s.heap H locs → ∃ cell : Cell, H[z_a G b]? = some cell ∧ cell.vm.isStatics = false ∧ s.vm.findClass (z_y ν).cls = some cell.cls)
    (h0 : (z_rm ν).cells = 0 ∧ (z_rm ν).slots = 0) (hc : uc ≤ (z_rm μ).cells ∧ us ≤ (z_rm μ).slots) (hn : pc + 3 = n) (hM : z_M ν tg (.ref b :: As) (wz C M o X) (zc_i M o X P)) (k : ∀ r C1, P r C1 → z_gk μ tg n L (.int r :: st) (wz C1 M o X) uc us Q) : z_gk μ tg pc L stk (wz C M o X) uc us Q := by
  subst hs; subst hn
  refine kz_callV0 hd hok hna hst hrv (by rw [h0.1, h0.2]; exact hc) hM (fun r w1 hr => ?_)
  obtain ⟨v, C1, rfl, rfl, h⟩ := hr
  rw [h0.1, h0.2]
  exact k v C1 h
theorem kz_miV {idx b na : Nat} {P : Int32 → mS → Prop} (As : List Value) (n : Nat) (hd : decode (z_b μ) pc = .ok (.invokevirtual idx, 3)) (hok : z_okV μ ν idx na) (hs : stk = As.reverse ++ .ref b :: st) (hna : As.length = na) (hst : (st.map fun v => v.category).sum ≤ 8)
    (hrv : ∀ (G : z_G) (s : State) (H : Heap) (locs : List Loc), z_X G s s.heap → z_P G tg (wz C M o X) s H → va_S (z_A G) s.heap H locs → ∃ cell : Cell, H[z_a G b]? = some cell ∧ cell.vm.isStatics = false ∧ s.vm.findClass (z_y ν).cls = some cell.cls)
    (h0 : (z_rm ν).cells = 0 ∧ (z_rm ν).slots = 0) (hc : uc ≤ (z_rm μ).cells ∧ us ≤ (z_rm μ).slots) (hn : pc + 3 = n) (hM : z_M ν tg (.ref b :: As) (wz C M o X) (zm_i C o X P)) (k : ∀ r M1, P r M1 → z_gk μ tg n L (.int r :: st) (wz C M1 o X) uc us Q) : z_gk μ tg pc L stk (wz C M o X) uc us Q := by
  subst hs; subst hn
  refine kz_callV0 hd hok hna hst hrv (by rw [h0.1, h0.2]; exact hc) hM (fun r w1 hr => ?_)
  obtain ⟨v, M1, rfl, rfl, h⟩ := hr
  rw [h0.1, h0.2]
  exact k v M1 h
theorem kz_mvV {idx b na : Nat} {P : mS → Prop} (As : List Value) (n : Nat) (hd : decode (z_b μ) pc = .ok (.invokevirtual idx, 3)) (hok : z_okV μ ν idx na) (hs : stk = As.reverse ++ .ref b :: st) (hna : As.length = na) (hst : (st.map fun v => v.category).sum ≤ 8)
    (hrv : ∀ (G : z_G) (s : State) (H : Heap) (locs : List Loc), z_X G s s.heap → z_P G tg (wz C M o X) s H → va_S (z_A G) s.heap H locs → ∃ cell : Cell, H[z_a G b]? = some cell ∧ cell.vm.isStatics = false ∧ s.vm.findClass (z_y ν).cls = some cell.cls)
    (h0 : (z_rm ν).cells = 0 ∧ (z_rm ν).slots = 0) (hc : uc ≤ (z_rm μ).cells ∧ us ≤ (z_rm μ).slots) (hn : pc + 3 = n) (hM : z_M ν tg (.ref b :: As) (wz C M o X) (zm_v C o X P)) (k : ∀ M1, P M1 → z_gk μ tg n L st (wz C M1 o X) uc us Q) : z_gk μ tg pc L stk (wz C M o X) uc us Q := by
  subst hs; subst hn
  refine kz_callV0 hd hok hna hst hrv (by rw [h0.1, h0.2]; exact hc) hM (fun r w1 hr => ?_)
  obtain ⟨M1, rfl, rfl, h⟩ := hr
  rw [h0.1, h0.2]
  exact k M1 h
theorem kz_newaE {at9 : ArrayType} {x : Int32} (kd N : Nat) (a0 : vp_A) (b : Nat) (w2 : List va_E) (uc2 us2 n : Nat) (htg : tg = true) (hd : decode (z_b μ) pc = .ok (.newarray at9, 2)) (hk : kd < 4) (hat : newarray.typeOf at9 = z_kty kd) (hcl : Cond.arrayClass (z_kty kd) ∈ z_T) (ha : ∀ cA : ClassId, vp_cell cA a0 = arrV cA N (fun _ => defaultValue (z_kty kd))) (hx : ¬ x < 0) (hN : x.toNatClampNeg = N) (hbytes : N * componentBytes (z_kty kd) ≤ 536870912) (hc : uc + 1 ≤ (z_rm μ).cells ∧ us + N ≤ (z_rm μ).slots) (hb : 200 + w.length = b) (hw2 : w ++ [.inl (kd, a0)] = w2) (hu : uc + 1 = uc2) (hs : us + N ≤ us2) (hn : pc + 2 = n) (k : z_gk μ tg n L (.ref b :: st) w2 uc2 us2 Q) : z_gk μ tg pc L (.int x :: st) w uc us Q := by
  subst hb; subst hw2; subst hu
  exact kz_newa kd N a0 n htg hd hk hat hcl ha hx hN hbytes hc hn (kz_widen (Nat.le_refl _) hs k)
theorem kz_newE {idx ci : Nat} (fs : List Value) (b : Nat) (w2 : List va_E) (uc2 us2 n : Nat) (htg : tg = true) (hd : decode (z_b μ) pc = .ok (.new idx, 3)) (hok : z_okN (z_y μ).cls idx ci fs) (hc : uc + 1 ≤ (z_rm μ).cells ∧ us + fs.length ≤ (z_rm μ).slots) (hb : 200 + w.length = b) (hw2 : w ++ [.inr (ci, fs)] = w2) (hu : uc + 1 = uc2) (hs : us + fs.length = us2) (hn : pc + 3 = n) (k : z_gk μ tg n L (.ref b :: st) w2 uc2 us2 Q) : z_gk μ tg pc L st w uc us Q := by
  subst hb; subst hw2; subst hu; subst hs
  exact kz_new fs n htg hd hok hc hn k
theorem kz_con {idx b na : Nat} (As : List Value) (w2 : List va_E) (uc2 us2 n : Nat) (hd : decode (z_b μ) pc = .ok (.invokespecial idx, 3)) (hok : z_okI μ ν idx na) (hs : stk = As.reverse ++ .ref b :: st) (hna : As.length = na) (hst : (st.map fun v => v.category).sum ≤ 8)
    (hc : uc + (z_rm ν).cells ≤ (z_rm μ).cells ∧ us + (z_rm ν).slots ≤ (z_rm μ).slots) (hu : uc + (z_rm ν).cells = uc2) (hu2 : us + (z_rm ν).slots = us2) (hn : pc + 3 = n) (hM : z_M ν tg (.ref b :: As) w (fun r w1 => r = none ∧ w1 = w2)) (k : z_gk μ tg n L st w2 uc2 us2 Q) : z_gk μ tg pc L stk w uc us Q := by
  subst hs; subst hu; subst hu2
  refine kz_callI As n hd hok hna hst hc hn hM (fun r w1 hr => ?_)
  obtain ⟨rfl, rfl⟩ := hr
  exact k
end ZK24
