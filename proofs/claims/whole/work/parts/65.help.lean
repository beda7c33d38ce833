/-! THE LAW'S OWN HELPERS: the script; calls that may throw; begin, run, said -/
section ZH25
/-- the script: N ints at b, told by the number 199 -/
def zS (b N : Nat) (xs : Nat → Int32) (G : z_G) (U : State) : Prop := z_a G 199 = b ∧ va_X b N xs U U.heap ∧ b < U.heap.size ∧ ¬ z_A G b
variable {μ ν : z_Mt} {tg : Bool} {pc : Nat} {L : List (Nat × Value)} {st stk : List Value} {w : List va_E} {uc us : Nat} {Q : z_K} {Q1 : z_R} {C : cS} {M : mS} {o : Nat → Int64} {X : List va_E} {b N : Nat} {xs : Nat → Int32}
theorem k_sld {x : Int32} (n : Nat) (hK : ∀ G s a c, Q.1 G s a c → zS b N xs G s) (hd : decode (z_b μ) pc = .ok (.iaload, 1)) (hin : vp_in x N) (hn : pc + 1 = n) (k : z_gk μ tg n L (.int (xs x.toNatClampNeg) :: st) w uc us Q) : z_gk μ tg pc L (.int x :: .ref 199 :: st) w uc us Q := by
  subst hn
  intro l hq9 G p e s hy9 m args below meth c hz9 H locs ls hH hP hS hl
  obtain ⟨h1, h2, h3, h4⟩ := hK _ _ _ _ hz9
  have he : (Value.int x :: .ref 199 :: st).map (z_v G) = .int x :: .ref b :: st.map (z_v G) := by
    show Value.int x :: .ref (z_a G 199) :: st.map (z_v G) = _
    rw [h1]
  rw [he]
  exact va_sld hH.1 hH.2.1 h2 h3 h4 hS hin hd (k l hq9 G p e s hy9 m args below meth c hz9 H locs ls hH hP hS hl)
theorem k_slen (n : Nat) (hK : ∀ G s a c, Q.1 G s a c → zS b N xs G s) (hd : decode (z_b μ) pc = .ok (.arraylength, 1)) (hn : pc + 1 = n) (k : z_gk μ tg n L (.int (nI N) :: st) w uc us Q) : z_gk μ tg pc L (.ref 199 :: st) w uc us Q := by
  subst hn
  intro l hq9 G p e s hy9 m args below meth c hz9 H locs ls hH hP hS hl
  obtain ⟨h1, h2, h3, h4⟩ := hK _ _ _ _ hz9
  have he : (Value.ref 199 :: st).map (z_v G) = .ref b :: st.map (z_v G) := by
    show Value.ref (z_a G 199) :: st.map (z_v G) = _
    rw [h1]
  rw [he]
  exact va_slen hH.1 hH.2.1 h2 h3 h4 hS hd (k l hq9 G p e s hy9 m args below meth c hz9 H locs ls hH hP hS hl)
/-- an exception of the class E lies over the frame at pc -/
def z_gx (μ : z_Mt) (E : String) (pc : Nat) (L : List (Nat × Value)) (st : List Value) (w : List va_E) (uc us : Nat) (Q : z_K) : Prop :=
  ∀ (l : Launch) (_ : l.stackTraces = false) (G : z_G) (p : Program) (e : Env) (s : State) (_ : z_Y s) (m : MethodId) (args : Array Value) (below : List Frame) (meth : Method) (c : Code) (_ : Q.1 G s args c) (H : Heap) (locs : List Loc) (ls : Array Slot) (q : Addr) (ce : Cell),
    z_H μ G p s m args meth c → z_P G false w s H → va_S (z_A G) s.heap H locs → lv_has ls (z_n μ) (z_L G L) → H[q]? = some ce → ce.vm = .none → s.vm.findClass E = some ce.cls →
    vx_W p l e (z_rm μ) s m args below meth c H locs uc us (Q.2 G s args below) (F0 m pc ls (st.map (z_v G))) q
theorem z_blindY (G : z_G) (av : List Value) (w : List va_E) : FrameBlind (va_Pc av (fun U => (z_P G false w U U.heap ∧ z_X G U U.heap) ∧ z_Y U)) := by
  intro a U g mk h
  obtain ⟨h1, ⟨h2, h3⟩, h4⟩ := h
  exact ⟨h1, ⟨h2.alike (Vm.Alike.refl U.vm), z_X.same rfl h3⟩, z_Y.same rfl h4⟩
theorem z_preY {G : z_G} {s : State} {H : Heap} {locs : List Loc} (av : List Value) (hX : z_X G s s.heap) (hY : z_Y s) (hP : z_P G false w s H) (hS : va_S (z_A G) s.heap H locs) : ∀ U : State, U.heap = H → s.WarmedH U.vm → va_Pc av (fun U => (z_P G false w U U.heap ∧ z_X G U U.heap) ∧ z_Y U) av.toArray U := fun U hU hW => ⟨rfl, ⟨by rw [hU]; exact hP.alike hW.alike, z_X_end hX hS hU hW⟩, hY.warm hW⟩
theorem k_callT {idx b na : Nat} {R1 : z_RX} (As : List Value) (n : Nat) (hd : decode (z_b μ) pc = .ok (.invokevirtual idx, 3)) (hok : z_okV μ ν idx na) (hna : As.length = na) (hst : (st.map fun v => v.category).sum ≤ 8)
    (hrv : ∀ (G : z_G) (s : State) (H : Heap) (locs : List Loc), z_X G s s.heap → z_P G false w s H → va_S (z_A G) s.heap H locs → ∃ cell : Cell, H[z_a G b]? = some cell ∧ cell.vm.isStatics = false ∧ s.vm.findClass (z_y ν).cls = some cell.cls)
    (hc : uc + (z_rm ν).cells ≤ (z_rm μ).cells ∧ us + (z_rm ν).slots ≤ (z_rm μ).slots) (hn : pc + 3 = n) (hM : z_V ν (.ref b :: As) w R1)
    (k : ∀ r w1, R1.1 r w1 → z_gk μ false n L (r.toList ++ st) w1 (uc + (z_rm ν).cells) (us + (z_rm ν).slots) Q) (kx : ∀ E w1, R1.2 E w1 → z_gx μ E pc L st w1 (uc + (z_rm ν).cells) (us + (z_rm ν).slots) Q) : z_gk μ false pc L (As.reverse ++ .ref b :: st) w uc us Q := by
  subst hn
  intro l hq9 G p e s hy9 m args below meth c hz9 H locs ls hH hP hS hl
  have he : (As.reverse ++ .ref b :: st).map (z_v G) = (As.map (z_v G)).reverse ++ Value.ref (z_a G b) :: st.map (z_v G) := by simp [z_v]
  rw [he]
  have hX := hH.2.2.2.2.2.2.2.2.2
  have hr := vx_runV (p := p) (e := e) (R := z_rm μ) (below := below) (meth := meth) (locs := locs) (cells := uc) (slots := us) (g := F0 m pc ls ((As.map (z_v G)).reverse ++ Value.ref (z_a G b) :: st.map (z_v G))) (As := As.map (z_v G)) (rest := st.map (z_v G)) ⟨hH.1, hH.2.1, hH.2.2.2.1, hH.2.2.2.2.1, hH.2.2.2.2.2.1⟩ (hM l G hq9)
    (cwV na hH.2.2.2.2.2.1 (z_goodC hok.1) rfl rfl rfl ⟨rfl, hok.2.1⟩ hok.2.2) ⟨z_blindY G _ w, hrv G s H locs hX hP hS, z_preY _ hX hy9 hP hS⟩ rfl (by rw [List.length_map]; exact hna) hl.1 rfl (lv_room (by rw [z_sum]; exact hst)) hd hc
  intro T hT XX
  rcases hr T hT XX with ⟨v, st₀, t, T', L9, h0, X', hL, e1, e2, ⟨⟨r, w1, q1, hv, qP, qX⟩, hz, hk⟩, st9⟩ | ⟨q, st₀, t, T', L9, E, ce, h0, X', hL, e1, e2, ⟨⟨w1, q1, qP⟩, hz, hk⟩, hce, hcv, hcl, st9⟩
  · cases hv
    rw [h0] at hz hk
    have hvm : s.vm.Alike t.vm := by rw [← e2]; exact X'.warmed.alike
    have hS1 : va_S (z_A G) s.heap T'.heap (locs ++ L9) := ⟨Nat.le_trans hS.1 (by rw [e1]; exact hz), fun q g1 g2 => by rw [e1, hk q (Nat.lt_of_lt_of_le g1 hS.1) g2]; exact hS.2.1 q g1 g2, fun q hq => by
      rcases List.mem_append.mp hq with h | h
      · exact hS.2.2 q h
      · exact hL q h⟩
    have hW := k r w1 q1 l hq9 G p e s hy9 m args below meth c hz9 T'.heap (locs ++ L9) ls hH (by rw [e1]; exact qP.alike hvm.symm) hS1 hl
    have he2 : (r.toList ++ st).map (z_v G) = (r.map (z_v G)).toList ++ st.map (z_v G) := by cases r <;> simp
    rw [he2] at hW
    obtain ⟨t2, a1, b1⟩ := hW T' rfl X'
    exact ⟨t2, st9 t2 a1, b1⟩
  · rw [h0] at hz hk
    have hvm : s.vm.Alike t.vm := by rw [← e2]; exact X'.warmed.alike
    have hS1 : va_S (z_A G) s.heap T'.heap (locs ++ L9) := ⟨Nat.le_trans hS.1 (by rw [e1]; exact hz), fun q g1 g2 => by rw [e1, hk q (Nat.lt_of_lt_of_le g1 hS.1) g2]; exact hS.2.1 q g1 g2, fun q hq => by
      rcases List.mem_append.mp hq with h | h
      · exact hS.2.2 q h
      · exact hL q h⟩
    have hW := kx E w1 q1 l hq9 G p e s hy9 m args below meth c hz9 T'.heap (locs ++ L9) ls q ce hH (by rw [e1]; exact qP.alike hvm.symm) hS1 hl (by rw [e1]; exact hce) hcv hcl
    obtain ⟨t2, a1, b1⟩ := hW T' rfl X'
    exact ⟨t2, st9.trans a1, b1⟩
/-- at the handler: the exception is stored in the local i -/
theorem k_store {i : Fin 4} {E : String} {hp : Nat} (L2 : List (Nat × Value)) (hd : decode (z_b μ) hp = .ok (.astore_n i, 1)) (hi : (i : Nat) < z_n μ) (hL : L.filter (fun q => !(q.1 == (i : Nat)) && !(q.1 + 1 == (i : Nat) && q.2.category == 2)) = L2)
    (hfind : ∀ (l : Launch) (G : z_G) (e : Env) (p : Program) (s : State) (m : MethodId) (args : Array Value) (meth : Method) (c : Code) (ls : Array Slot) (q : Addr) (ce : Cell), e.platform.magicAccessors = ({} : Platform).magicAccessors → Q.1 G s args c → z_H μ G p s m args meth c → ce.vm = .none → s.vm.findClass E = some ce.cls → ∀ S : State, s.WarmedH S.vm → S.heap[q]? = some ce → ∃ vm2, s.WarmedH vm2 ∧ cz_F e S (F0 m pc ls (st.map (z_v G))) q c.exceptionTable.toList hp vm2)
    (k : z_gk μ false (hp + 1) L2 [] w uc us Q) : z_gx μ E pc L st w uc us Q := by
  intro l hq9 G p e s hy9 m args below meth c hz9 H locs ls q ce hH hP hS hl hce hcv hcl T hT XX
  have hpl : e.platform.magicAccessors = ({} : Platform).magicAccessors := by rw [XX.admits.platform]
  refine cz_catch hce (hfind l G e p s m args meth c ls q ce hpl hz9 hH hcv hcl) ?_ T hT XX
  refine lv_astore_n hH.1 hH.2.1 hd rfl hl hi rfl (fun ls2 hl2 => ?_)
  refine k l hq9 G p e s hy9 m args below meth c hz9 H locs ls2 hH hP hS ⟨hl2.1, hl2.2.1, fun z hz => hl2.2.2 z ?_⟩
  rw [← hL, ← z_Lfilter1] at hz
  exact List.mem_cons_of_mem _ hz
end ZH25
