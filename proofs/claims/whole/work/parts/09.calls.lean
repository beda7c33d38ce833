section ZA
variable {μ ν : z_Mt} {tg : Bool} {pc : Nat} {L : List (Nat × Value)} {st : List Value} {w : List va_E} {uc us : Nat} {Q Q1 : z_R}
theorem z_iald {b N : Nat} {f : Nat → Int32} {i : Int32} (j n : Nat) (hd : decode (z_b μ) pc = .ok (.iaload, 1)) (hb : b = 200 + j) (hw : w[j]? = some (.inl (1, N, .inl f))) (hin : vp_in i N) (hn : pc + 1 = n) (k : z_go μ tg n L (.int (f i.toNatClampNeg) :: st) w uc us Q) : z_go μ tg pc L (.int i :: .ref b :: st) w uc us Q := by
  subst hn
  intro l G p e s m args below meth c H locs ls hH hP hS hl
  rw [List.map_cons, List.map_cons, z_ref_new G hb]
  exact va_iald (D := G.1) hH.1 hH.2.1 hP.2.2 hP.2.1 j 1 (z_ws_at G hw) rfl hin hd (k l G p e s m args below meth c H locs ls hH hP hS hl)
theorem z_bald {b N : Nat} {f : Nat → Int32} {i : Int32} (j n : Nat) (hd : decode (z_b μ) pc = .ok (.baload, 1)) (hb : b = 200 + j) (hw : w[j]? = some (.inl (0, N, .inl f))) (hin : vp_in i N) (hn : pc + 1 = n) (k : z_go μ tg n L (.int (f i.toNatClampNeg) :: st) w uc us Q) : z_go μ tg pc L (.int i :: .ref b :: st) w uc us Q := by
  subst hn
  intro l G p e s m args below meth c H locs ls hH hP hS hl
  rw [List.map_cons, List.map_cons, z_ref_new G hb]
  exact va_bald (D := G.1) hH.1 hH.2.1 hP.2.2 hP.2.1 j 0 (z_ws_at G hw) rfl hin hd (k l G p e s m args below meth c H locs ls hH hP hS hl)
theorem z_zald {b N : Nat} {f : Nat → Int32} {i : Int32} (j n : Nat) (hd : decode (z_b μ) pc = .ok (.baload, 1)) (hb : b = 200 + j) (hw : w[j]? = some (.inl (3, N, .inl f))) (hin : vp_in i N) (hn : pc + 1 = n) (k : z_go μ tg n L (.int (f i.toNatClampNeg) :: st) w uc us Q) : z_go μ tg pc L (.int i :: .ref b :: st) w uc us Q := by
  subst hn
  intro l G p e s m args below meth c H locs ls hH hP hS hl
  rw [List.map_cons, List.map_cons, z_ref_new G hb]
  exact va_zald (D := G.1) hH.1 hH.2.1 hP.2.2 hP.2.1 j 3 (z_ws_at G hw) rfl hin hd (k l G p e s m args below meth c H locs ls hH hP hS hl)
theorem z_lald {b N : Nat} {f : Nat → Int64} {i : Int32} (j n : Nat) (hd : decode (z_b μ) pc = .ok (.laload, 1)) (hb : b = 200 + j) (hw : w[j]? = some (.inl (2, N, .inr (.inl f)))) (hin : vp_in i N) (hn : pc + 1 = n) (k : z_go μ tg n L (.long (f i.toNatClampNeg) :: st) w uc us Q) : z_go μ tg pc L (.int i :: .ref b :: st) w uc us Q := by
  subst hn
  intro l G p e s m args below meth c H locs ls hH hP hS hl
  rw [List.map_cons, List.map_cons, z_ref_new G hb]
  exact va_lald (D := G.1) hH.1 hH.2.1 hP.2.2 hP.2.1 j 2 (z_ws_at G hw) rfl hin hd (k l G p e s m args below meth c H locs ls hH hP hS hl)
theorem z_iast {b N : Nat} {f : Nat → Int32} {i : Int32} {x : Int32} (j : Nat) (w2 : List va_E) (n : Nat) (hd : decode (z_b μ) pc = .ok (.iastore, 1)) (hb : b = 200 + j) (hw : w[j]? = some (.inl (1, N, .inl (f)))) (hin : vp_in i N) (hw2 : w.set j (.inl (1, N, .inl (upd f i.toNatClampNeg x))) = w2) (hn : pc + 1 = n) (k : z_go μ tg n L st w2 uc us Q) : z_go μ tg pc L (.int x :: .int i :: .ref b :: st) w uc us Q := by
  subst hn
  subst hw2
  intro l G p e s m args below meth c H locs ls hH hP hS hl
  rw [List.map_cons, List.map_cons, List.map_cons, z_ref_new G hb]
  have ha := z_ws_at G hw
  refine W.iast hH.1 hH.2.1 (hP.2.1 j _ ha) ((hP.2.2.2 1 (G.2.1 1, _) rfl).1 N (fun j => .int (f j))) (fun q => by cases q) (by show ¬ (i < 0 ∨ (arrV _ _ _).slots.size ≤ _); rw [arrV_size]; exact hin) rfl rfl hd fun H1 e1 z oq => ?_
  have hP2 : va_P G.1 z_cl ((z_ws G 0 w).set j (G.2.2.1 + j, z_e G (.inl (1, N, .inl (upd f i.toNatClampNeg x))))) H1 := by
    refine hP.2.1.set (z_D G w) ha ?_ oq
    show H1[G.2.2.1 + j]? = some (vp_cell _ _)
    rw [e1]
    show some ((vp_cell _ _).setSlot _ _) = _
    rw [vp_cell_i, vp_cell_i, arrV_store]
    congr 2
    funext q
    by_cases hq : q = i.toNatClampNeg
    · subst hq
      simp [updV, upd, vp_updL, vp_nar]
      try rfl
    · simp [updV, upd, vp_updL, hq]
  rw [z_ws_set0] at hP2
  exact k l G p e s m args below meth c H1 _ ls hH (z_P_set hP z hP2) (hS.put z oq ((z_D G w).2 j _ ha)) hl
theorem z_bast {b N : Nat} {f : Nat → Int32} {i : Int32} {x : Int32} (j : Nat) (w2 : List va_E) (n : Nat) (hd : decode (z_b μ) pc = .ok (.bastore, 1)) (hb : b = 200 + j) (hw : w[j]? = some (.inl (0, N, .inl (f)))) (hin : vp_in i N) (hw2 : w.set j (.inl (0, N, .inl (upd f i.toNatClampNeg (vp_nar .byte x)))) = w2) (hn : pc + 1 = n) (k : z_go μ tg n L st w2 uc us Q) : z_go μ tg pc L (.int x :: .int i :: .ref b :: st) w uc us Q := by
  subst hn
  subst hw2
  intro l G p e s m args below meth c H locs ls hH hP hS hl
  rw [List.map_cons, List.map_cons, List.map_cons, z_ref_new G hb]
  have ha := z_ws_at G hw
  refine W.bast hH.1 hH.2.1 (hP.2.1 j _ ha) ((hP.2.2.2 0 (G.2.1 0, _) rfl).1 N (fun j => .int (f j))) (fun q => by cases q) (by show ¬ (i < 0 ∨ (arrV _ _ _).slots.size ≤ _); rw [arrV_size]; exact hin) rfl rfl hd fun H1 e1 z oq => ?_
  have hP2 : va_P G.1 z_cl ((z_ws G 0 w).set j (G.2.2.1 + j, z_e G (.inl (0, N, .inl (upd f i.toNatClampNeg (vp_nar .byte x)))))) H1 := by
    refine hP.2.1.set (z_D G w) ha ?_ oq
    show H1[G.2.2.1 + j]? = some (vp_cell _ _)
    rw [e1]
    show some ((vp_cell _ _).setSlot _ _) = _
    rw [vp_cell_i, vp_cell_i, arrV_store]
    congr 2
    funext q
    by_cases hq : q = i.toNatClampNeg
    · subst hq
      simp [updV, upd, vp_updL, vp_nar]
      try rfl
    · simp [updV, upd, vp_updL, hq]
  rw [z_ws_set0] at hP2
  exact k l G p e s m args below meth c H1 _ ls hH (z_P_set hP z hP2) (hS.put z oq ((z_D G w).2 j _ ha)) hl
theorem z_zast {b N : Nat} {f : Nat → Int32} {i : Int32} {x : Int32} (j : Nat) (w2 : List va_E) (n : Nat) (hd : decode (z_b μ) pc = .ok (.bastore, 1)) (hb : b = 200 + j) (hw : w[j]? = some (.inl (3, N, .inl (f)))) (hin : vp_in i N) (hw2 : w.set j (.inl (3, N, .inl (upd f i.toNatClampNeg (vp_nar .boolean x)))) = w2) (hn : pc + 1 = n) (k : z_go μ tg n L st w2 uc us Q) : z_go μ tg pc L (.int x :: .int i :: .ref b :: st) w uc us Q := by
  subst hn
  subst hw2
  intro l G p e s m args below meth c H locs ls hH hP hS hl
  rw [List.map_cons, List.map_cons, List.map_cons, z_ref_new G hb]
  have ha := z_ws_at G hw
  refine W.zast hH.1 hH.2.1 (hP.2.1 j _ ha) ((hP.2.2.2 3 (G.2.1 3, _) rfl).1 N (fun j => .int (f j))) (fun q => by cases q) (by show ¬ (i < 0 ∨ (arrV _ _ _).slots.size ≤ _); rw [arrV_size]; exact hin) rfl rfl hd fun H1 e1 z oq => ?_
  have hP2 : va_P G.1 z_cl ((z_ws G 0 w).set j (G.2.2.1 + j, z_e G (.inl (3, N, .inl (upd f i.toNatClampNeg (vp_nar .boolean x)))))) H1 := by
    refine hP.2.1.set (z_D G w) ha ?_ oq
    show H1[G.2.2.1 + j]? = some (vp_cell _ _)
    rw [e1]
    show some ((vp_cell _ _).setSlot _ _) = _
    rw [vp_cell_i, vp_cell_i, arrV_store]
    congr 2
    funext q
    by_cases hq : q = i.toNatClampNeg
    · subst hq
      simp [updV, upd, vp_updL, vp_nar]
      try rfl
    · simp [updV, upd, vp_updL, hq]
  rw [z_ws_set0] at hP2
  exact k l G p e s m args below meth c H1 _ ls hH (z_P_set hP z hP2) (hS.put z oq ((z_D G w).2 j _ ha)) hl
theorem z_last {b N : Nat} {f : Nat → Int64} {i : Int32} {x : Int64} (j : Nat) (w2 : List va_E) (n : Nat) (hd : decode (z_b μ) pc = .ok (.lastore, 1)) (hb : b = 200 + j) (hw : w[j]? = some (.inl (2, N, .inr (.inl (f))))) (hin : vp_in i N) (hw2 : w.set j (.inl (2, N, .inr (.inl (vp_updL f i.toNatClampNeg x)))) = w2) (hn : pc + 1 = n) (k : z_go μ tg n L st w2 uc us Q) : z_go μ tg pc L (.long x :: .int i :: .ref b :: st) w uc us Q := by
  subst hn
  subst hw2
  intro l G p e s m args below meth c H locs ls hH hP hS hl
  rw [List.map_cons, List.map_cons, List.map_cons, z_ref_new G hb]
  have ha := z_ws_at G hw
  refine W.last hH.1 hH.2.1 (hP.2.1 j _ ha) ((hP.2.2.2 2 (G.2.1 2, _) rfl).1 N (fun j => .long (f j))) (fun q => by cases q) (by show ¬ (i < 0 ∨ (arrV _ _ _).slots.size ≤ _); rw [arrV_size]; exact hin) rfl rfl hd fun H1 e1 z oq => ?_
  have hP2 : va_P G.1 z_cl ((z_ws G 0 w).set j (G.2.2.1 + j, z_e G (.inl (2, N, .inr (.inl (vp_updL f i.toNatClampNeg x)))))) H1 := by
    refine hP.2.1.set (z_D G w) ha ?_ oq
    show H1[G.2.2.1 + j]? = some (vp_cell _ _)
    rw [e1]
    show some ((vp_cell _ _).setSlot _ _) = _
    rw [vp_cell_l, vp_cell_l, arrV_store]
    congr 2
    funext q
    by_cases hq : q = i.toNatClampNeg
    · subst hq
      simp [updV, upd, vp_updL, vp_nar]
      try rfl
    · simp [updV, upd, vp_updL, hq]
  rw [z_ws_set0] at hP2
  exact k l G p e s m args below meth c H1 _ ls hH (z_P_set hP z hP2) (hS.put z oq ((z_D G w).2 j _ ha)) hl
theorem z_alen {b kd : Nat} {x : vp_A} (v : Int32) (j n : Nat) (hd : decode (z_b μ) pc = .ok (.arraylength, 1)) (hb : b = 200 + j) (hw : w[j]? = some (.inl (kd, x))) (hk : kd < 4) (hv : Int32.ofNat x.1 = v) (hn : pc + 1 = n) (k : z_go μ tg n L (.int v :: st) w uc us Q) : z_go μ tg pc L (.ref b :: st) w uc us Q := by
  subst hn
  intro l G p e s m args below meth c H locs ls hH hP hS hl
  rw [List.map_cons, z_ref_new G hb]
  have hty : ∃ ty, (z_tys G)[kd]? = some (G.2.1 kd, ty) := by
    rcases (show kd = 0 ∨ kd = 1 ∨ kd = 2 ∨ kd = 3 by omega) with rfl | rfl | rfl | rfl <;> exact ⟨_, rfl⟩
  obtain ⟨ty, hty⟩ := hty
  exact va_alen (D := G.1) hH.1 hH.2.1 hP.2.2 hP.2.1 j kd (z_ws_at G hw) hty hv hd (k l G p e s m args below meth c H locs ls hH hP hS hl)
def z_kty : Nat → FieldType
  | 0 => .byte
  | 1 => .int
  | 2 => .long
  | _ => .boolean
theorem z_newa {at9 : ArrayType} {x : Int32} (kd N : Nat) (a0 : vp_A) (n : Nat) (htg : tg = true) (hd : decode (z_b μ) pc = .ok (.newarray at9, 2)) (hk : kd < 4) (hat : newarray.typeOf at9 = z_kty kd) (hcl : Cond.arrayClass (z_kty kd) ∈ z_T) (ha : ∀ cA : ClassId, vp_cell cA a0 = arrV cA N (fun _ => defaultValue (z_kty kd))) (hx : ¬ x < 0) (hN : x.toNatClampNeg = N) (hbytes : N * componentBytes (z_kty kd) ≤ 536870912) (hc : uc + 1 ≤ (z_rm μ).cells ∧ us + N ≤ (z_rm μ).slots) (hn : pc + 2 = n) (k : z_go μ tg n L (.ref (200 + w.length) :: st) (w ++ [.inl (kd, a0)]) (uc + 1) (us + N) Q) : z_go μ tg pc L (.int x :: st) w uc us Q := by
  subst hn
  intro l G p e s m args below meth c H locs ls hH hP hS hl
  have hsz : H.size = G.2.2.1 + w.length := hP.1.2 htg
  refine va_newaK (h := G.2.2.1 + w.length) hH.1 hH.2.1 (by rw [hat]; exact hH.2.2.2.2.2.1 _ hcl) rfl hd rfl hx hN (by rw [hat]; exact hbytes) hc.1 hc.2 hsz fun H1 cA e1 z1 o1 hAr hNm => ?_
  rw [hat] at e1 hNm
  have hcA : cA = G.2.1 kd := by
    have h1 : va_RA s (G.2.1 kd) (z_kty kd) := by
      rcases (show kd = 0 ∨ kd = 1 ∨ kd = 2 ∨ kd = 3 by omega) with rfl | rfl | rfl | rfl
      · exact (hP.2.2.2 0 (G.2.1 0, .byte) rfl).2
      · exact (hP.2.2.2 1 (G.2.1 1, .int) rfl).2
      · exact (hP.2.2.2 2 (G.2.1 2, .long) rfl).2
      · exact (hP.2.2.2 3 (G.2.1 3, .boolean) rfl).2
    have h2 : s.vm.findClass ("[" ++ (z_kty kd).toString) = some (G.2.1 kd) := by
      rcases (show kd = 0 ∨ kd = 1 ∨ kd = 2 ∨ kd = 3 by omega) with rfl | rfl | rfl | rfl <;> exact h1
    exact Option.some.inj (hNm.symm.trans h2)
  subst hcA
  have hP2 : va_P G.1 z_cl (z_ws G 0 (w ++ [.inl (kd, a0)])) H1 := by
    rw [z_ws_app]
    refine (hP.2.1.kept fun q x hx => o1 x.1 (by have := (hP.2.1 q x hx).lt; omega)).app ?_
    intro q x hx
    have hz : q < 1 := (List.getElem?_eq_some_iff.mp hx).1
    rw [show q = 0 by omega] at hx
    cases hx
    show H1[G.2.2.1 + (0 + w.length)]? = some (vp_cell _ _)
    rw [Nat.zero_add, ha]
    exact e1
  have hK := k l G p e s m args below meth c H1 locs ls hH ⟨by rw [z1, List.length_append]; simp only [List.length_cons, List.length_nil]; omega, hP2, hP.2.2⟩ ⟨by have := hS.1; omega, fun q h1 h2 => (o1 q (by have := hS.1; omega)).trans (hS.2.1 q h1 h2), hS.2.2⟩ hl
  rw [List.map_cons, z_ref_new G rfl] at hK
  exact hK
/-- a new object: its class ci, its fields' default values fs -/
def z_okN (own : String) (idx ci : Nat) (fs : List Value) : Prop := ∃ (q : vw_C) (ty : Nat → FieldType), z_cl[ci]? = some q ∧ (∀ w ∈ u_ws q.1 q.2.1 q.2.2, w ∈ z_T) ∧ (∀ k, k < q.2.2 → parseFieldDescriptor (q.2.1 k).2.2.1 = some (ty k)) ∧ Cond.classLink own idx q.1 ∈ z_T ∧ Cond.instantiable q.1 q.2.2 ∈ z_T ∧ Cond.initialized q.1 ∈ z_T ∧ fs.length = q.2.2 ∧ (∀ j, j < q.2.2 → defaultValue (ty j) = vp_V fs j) ∧ ∀ G : z_G, fs.map (z_v G) = fs
theorem z_new {idx ci : Nat} (fs : List Value) (n : Nat) (htg : tg = true) (hd : decode (z_b μ) pc = .ok (.new idx, 3)) (hok : z_okN (z_y μ).cls idx ci fs) (hc : uc + 1 ≤ (z_rm μ).cells ∧ us + fs.length ≤ (z_rm μ).slots) (hn : pc + 3 = n) (k : z_go μ tg n L (.ref (200 + w.length) :: st) (w ++ [.inr (ci, fs)]) (uc + 1) (us + fs.length) Q) : z_go μ tg pc L st w uc us Q := by
  subst hn
  intro l G p e s m args below meth c H locs ls hH hP hS hl
  obtain ⟨⟨C, T, N⟩, ty, hcl, hin, hty, h1, h2, h3, hlen, hdef, hmap⟩ := hok
  have hsz : H.size = G.2.2.1 + w.length := hP.1.2 htg
  have hKn := hP.2.2.1 ci _ hcl
  rw [hlen] at hc k
  refine W.newcK (h := G.2.2.1 + w.length) hH.1 hH.2.1 hH.2.2.2.2.1 (hH.2.2.2.2.2.1 _ h1) (hH.2.2.2.2.2.1 _ h2) (hH.2.2.2.2.2.1 _ h3) rfl hd hc.1 hc.2 hKn.2.1 hsz fun H1 kC hkC e1 z1 o1 => ?_
  have hP2 : va_P G.1 z_cl (z_ws G 0 (w ++ [.inr (ci, fs)])) H1 := by
    rw [z_ws_app]
    refine (hP.2.1.kept fun q x hx => o1 x.1 (by have := (hP.2.1 q x hx).lt; omega)).app ?_
    intro q x hx
    have hz : q < 1 := (List.getElem?_eq_some_iff.mp hx).1
    rw [show q = 0 by omega] at hx
    cases hx
    refine ⟨_, hcl, ?_⟩
    show t_OB (G.2.2.1 + (0 + w.length)) _ _ _ H1 (vp_V (fs.map (z_v G)))
    rw [hmap G, Nat.zero_add]
    exact (u_born ty hH.2.2.2.2.2.1 hin hKn hkC e1 hty).to hdef
  have hK := k l G p e s m args below meth c H1 locs ls hH ⟨by rw [z1, List.length_append]; simp only [List.length_cons, List.length_nil]; omega, hP2, hP.2.2⟩ ⟨by have := hS.1; omega, fun q h1 h2 => (o1 q (by have := hS.1; omega)).trans (hS.2.1 q h1 h2), hS.2.2⟩ hl
  rw [List.map_cons, z_ref_new G rfl] at hK
  exact hK
theorem z_gets {C nm ds : String} {idx : Nat} (v : Value) (n : Nat) (hd : decode (z_b μ) pc = .ok (.getstatic idx, 3)) (hq : (C, nm, ds, v) ∈ z_xz) (hlk : Cond.fieldLink (z_y μ).cls idx C nm ds ∈ z_T) (hn : pc + 3 = n) (k : z_go μ tg n L (v :: st) w uc us Q) : z_go μ tg pc L st w uc us Q := by
  subst hn
  intro l G p e s m args below meth c H locs ls hH hP hS hl
  exact va_gets hH.1 hH.2.1 (hH.2.2.2.2.2.2.2.2.2.1 _ hq) hS hH.2.2.2.2.1 (hH.2.2.2.2.2.1 _ hlk) (fun _ h => h) hd (k l G p e s m args below meth c H locs ls hH hP hS hl)
theorem z_getsN {C nm ds host : String} {idx : Nat} (v : Value) (n : Nat) (hd : decode (z_b μ) pc = .ok (.getstatic idx, 3)) (hq : (C, nm, ds, v) ∈ z_xz) (hlk : ((z_y μ).cls, idx, C, nm, ds, host) ∈ z_xl) (hn : pc + 3 = n) (k : z_go μ tg n L (v :: st) w uc us Q) : z_go μ tg pc L st w uc us Q := by
  subst hn
  intro l G p e s m args below meth c H locs ls hH hP hS hl
  exact va_getsN hH.1 hH.2.1 (hH.2.2.2.2.2.2.2.2.2.1 _ hq) hS hH.2.2.2.2.1 (va_Nw.use rfl (hH.2.2.2.2.2.2.2.2.2.2.2.2.2.2.2.2.1 _ hlk)) (fun _ h => h) hd (k l G p e s m args below meth c H locs ls hH hP hS hl)
theorem z_getX {o nm ds : String} {N idx b : Nat} {ad : Nat → Nat} {f : Nat → Value} (i n : Nat) (hd : decode (z_b μ) pc = .ok (.getfield idx, 3)) (hq : (o, nm, ds, N, ad, f) ∈ z_xf) (hi : i < N) (hb : b = ad i) (hlk : Cond.fieldLink (z_y μ).cls idx o nm ds ∈ z_T) (hn : pc + 3 = n) (k : z_go μ tg n L (f i :: st) w uc us Q) : z_go μ tg pc L (.ref b :: st) w uc us Q := by
  subst hn
  subst hb
  intro l G p e s m args below meth c H locs ls hH hP hS hl
  exact va_getX (i := i) (N := N) (v := fun i => z_v G (f i)) (ad := fun i => z_a G (ad i)) hH.1 hH.2.1 (fun i hi => hH.2.2.2.2.2.2.2.2.2.2.2.2.1 _ hq i hi) hi hS hH.2.2.2.2.1 (hH.2.2.2.2.2.1 _ hlk) (fun _ h => h) hd (k l G p e s m args below meth c H locs ls hH hP hS hl)
theorem z_tiald {N b : Nat} {ad ln : Nat → Nat} {f : Nat → Nat → Value} {x : Int32} (i n : Nat) (hd : decode (z_b μ) pc = .ok (.iaload, 1)) (hq : ((.int : FieldType), N, ad, ln, f) ∈ z_xt) (hi : i < N) (hb : b = ad i) (hin : vp_in x (ln i)) (hn : pc + 1 = n) (k : z_go μ tg n L (f i x.toNatClampNeg :: st) w uc us Q) : z_go μ tg pc L (.int x :: .ref b :: st) w uc us Q := by
  subst hn
  subst hb
  intro l G p e s m args below meth c H locs ls hH hP hS hl
  exact va_ti hH.1 hH.2.1 (hH.2.2.2.2.2.2.2.2.2.2.1 _ hq i hi) hS hin rfl hd (k l G p e s m args below meth c H locs ls hH hP hS hl)
theorem z_tbald {N b : Nat} {ad ln : Nat → Nat} {f : Nat → Nat → Value} {x : Int32} (i n : Nat) (hd : decode (z_b μ) pc = .ok (.baload, 1)) (hq : ((.byte : FieldType), N, ad, ln, f) ∈ z_xt) (hi : i < N) (hb : b = ad i) (hin : vp_in x (ln i)) (hn : pc + 1 = n) (k : z_go μ tg n L (f i x.toNatClampNeg :: st) w uc us Q) : z_go μ tg pc L (.int x :: .ref b :: st) w uc us Q := by
  subst hn
  subst hb
  intro l G p e s m args below meth c H locs ls hH hP hS hl
  exact va_tb hH.1 hH.2.1 (hH.2.2.2.2.2.2.2.2.2.2.1 _ hq i hi) hS hin rfl hd (k l G p e s m args below meth c H locs ls hH hP hS hl)
theorem z_taald {N b : Nat} {C : String} {ad ln : Nat → Nat} {f : Nat → Nat → Value} {x : Int32} (i n : Nat) (hd : decode (z_b μ) pc = .ok (.aaload, 1)) (hq : ((FieldType.object C), N, ad, ln, f) ∈ z_xt) (hi : i < N) (hb : b = ad i) (hin : vp_in x (ln i)) (hn : pc + 1 = n) (k : z_go μ tg n L (f i x.toNatClampNeg :: st) w uc us Q) : z_go μ tg pc L (.int x :: .ref b :: st) w uc us Q := by
  subst hn
  subst hb
  intro l G p e s m args below meth c H locs ls hH hP hS hl
  exact vb_tq hH.1 hH.2.1 (hH.2.2.2.2.2.2.2.2.2.2.1 _ hq i hi) hS hin rfl hd (k l G p e s m args below meth c H locs ls hH hP hS hl)
theorem z_talen {N b : Nat} {ty : FieldType} {ad ln : Nat → Nat} {f : Nat → Nat → Value} (i n : Nat) (hd : decode (z_b μ) pc = .ok (.arraylength, 1)) (hq : (ty, N, ad, ln, f) ∈ z_xt) (hi : i < N) (hb : b = ad i) (hn : pc + 1 = n) (k : z_go μ tg n L (.int (Int32.ofNat (ln i)) :: st) w uc us Q) : z_go μ tg pc L (.ref b :: st) w uc us Q := by
  subst hn
  subst hb
  intro l G p e s m args below meth c H locs ls hH hP hS hl
  obtain ⟨cell, h1, h2, h3, h4, h5, h6, h7⟩ := hH.2.2.2.2.2.2.2.2.2.2.1 _ hq i hi
  exact W.alen (n := Int32.ofNat (ln i)) hH.1 hH.2.1 (by rw [hS.2.1 _ (Array.getElem?_eq_some_iff.mp h1).1 h7]; exact h1) h2 h5 rfl rfl hd (k l G p e s m args below meth c H locs ls hH hP hS hl)
/-- what stands behind a call -/
theorem z_callx {l : Launch} {G : z_G} {p : Program} {e : Env} {s : State} {m : MethodId} {args : Array Value} {below : List Frame} {meth : Method} {c : Code} {H : Heap} {locs : List Loc} {ls : Array Slot} {mc ms : Nat} {st0 : List Value} {a : Array Value} (hH : z_H μ G p s m args meth c) (hS : va_S (z_A G) s.heap H locs) (hl : lv_has ls (z_n μ) (z_L G L))
    (hr : va_Run p l e (z_rm μ) s m args below meth c H locs uc us mc ms (F0 m pc ls st0) (st.map (z_v G)) (z_Q G tg Q1 a) (z_A G)) (k : ∀ r w1, Q1 r w1 → z_go μ tg (pc + 3) L (r.toList ++ st) w1 (uc + mc) (us + ms) Q) :
    W p l e (z_rm μ) s m args below meth c H locs uc us (MQ below (z_Q G tg Q) args s (z_rm μ).cells (z_rm μ).slots (z_A G)) (F0 m pc ls st0) := by
  intro T hT X
  obtain ⟨v, st₀, t, T', L9, h0, X', hL, e1, e2, ⟨⟨r, w1, q1, hv, qP, qX⟩, hz, hk⟩, st9⟩ := hr T hT X
  cases hv
  rw [h0] at hz hk
  have hvm : s.vm.Alike t.vm := by rw [← e2]; exact X'.warmed.alike
  have hP1 : z_P G tg w1 s T'.heap := by rw [e1]; exact qP.alike hvm.symm
  have hS1 : va_S (z_A G) s.heap T'.heap (locs ++ L9) := ⟨Nat.le_trans hS.1 (by rw [e1]; exact hz), fun q g1 g2 => by rw [e1, hk q (Nat.lt_of_lt_of_le g1 hS.1) g2]; exact hS.2.1 q g1 g2, fun q hq => by
      rcases List.mem_append.mp hq with h | h
      · exact hS.2.2 q h
      · exact hL q h⟩
  have hW := k r w1 q1 l G p e s m args below meth c T'.heap (locs ++ L9) ls hH hP1 hS1 hl
  have he : (r.toList ++ st).map (z_v G) = (r.map (z_v G)).toList ++ st.map (z_v G) := by cases r <;> simp
  rw [he] at hW
  obtain ⟨t2, a1, b1⟩ := hW T' rfl X'
  exact ⟨t2, st9 t2 a1, b1⟩
theorem z_blind (G : z_G) (av : List Value) (w : List va_E) : FrameBlind (va_Pc av (fun U => z_P G tg w U U.heap ∧ z_X G U U.heap)) := by
  intro a U g mk h
  obtain ⟨h1, h2, h3⟩ := h
  exact ⟨h1, h2.alike (Vm.Alike.refl U.vm), z_X.same rfl h3⟩
theorem z_pre {G : z_G} {s : State} {H : Heap} {locs : List Loc} (av : List Value) (hX : z_X G s s.heap) (hP : z_P G tg w s H) (hS : va_S (z_A G) s.heap H locs) : ∀ U : State, U.heap = H → s.WarmedH U.vm → va_Pc av (fun U => z_P G tg w U U.heap ∧ z_X G U U.heap) av.toArray U := fun U hU hW => ⟨rfl, by rw [hU]; exact hP.alike hW.alike, z_X_end hX hS hU hW⟩
def z_fit (μ ν : z_Mt) : Prop := (z_rm ν).frames + 1 ≤ (z_rm μ).frames ∧ 8 + (z_n ν + 11) + (z_rm ν).locals ≤ (z_rm μ).locals
def z_okD (y : MethodName) (n : Nat) : Prop := y.cls ≠ "java/lang/invoke/MethodHandle" ∧ y.cls ≠ "java/lang/invoke/VarHandle" ∧ (parseMethodDescriptor y.desc).map (fun d => d.parameters.length) = some n
/-- a call site: the entry idx links to the method ν of n arguments -/
def z_okV (μ ν : z_Mt) (idx n : Nat) : Prop := (∀ w ∈ [Cond.methodLink (z_y μ).cls idx (z_y ν), .instanceMethod (z_y ν), .selects (z_y ν).cls (z_y ν) (z_y ν), .initialized (z_y ν).cls, .code (z_y ν) (z_b ν) (z_n ν) (z_r ν)], w ∈ z_T) ∧ z_okD (z_y ν) n ∧ z_fit μ ν
theorem z_callV0 {idx b na : Nat} {As : List Value} (hd : decode (z_b μ) pc = .ok (.invokevirtual idx, 3)) (hok : z_okV μ ν idx na) (hna : As.length = na) (hst : (st.map fun v => v.category).sum ≤ 8)
    (hrv : ∀ (G : z_G) (s : State) (H : Heap) (locs : List Loc), z_X G s s.heap → z_P G tg w s H → va_S (z_A G) s.heap H locs → ∃ cell : Cell, H[z_a G b]? = some cell ∧ cell.vm.isStatics = false ∧ s.vm.findClass (z_y ν).cls = some cell.cls)
    (hc : uc + (z_rm ν).cells ≤ (z_rm μ).cells ∧ us + (z_rm ν).slots ≤ (z_rm μ).slots) (hM : z_M ν tg (.ref b :: As) w Q1) (k : ∀ r w1, Q1 r w1 → z_go μ tg (pc + 3) L (r.toList ++ st) w1 (uc + (z_rm ν).cells) (us + (z_rm ν).slots) Q) : z_go μ tg pc L (As.reverse ++ .ref b :: st) w uc us Q := by
  intro l G p e s m args below meth c H locs ls hH hP hS hl
  have he : (As.reverse ++ .ref b :: st).map (z_v G) = (As.map (z_v G)).reverse ++ Value.ref (z_a G b) :: st.map (z_v G) := by simp [z_v]
  rw [he]
  refine z_callx (a := (Value.ref (z_a G b) :: As.map (z_v G)).toArray) hH hS hl (va_runV (As := As.map (z_v G)) (rest := st.map (z_v G)) ⟨hH.1, hH.2.1, hH.2.2.2.1, hH.2.2.2.2.1, hH.2.2.2.2.2.1⟩ (hM l G) (cwV na hH.2.2.2.2.2.1 (z_goodC hok.1) rfl rfl rfl ⟨rfl, hok.2.1⟩ hok.2.2) ⟨z_blind G _ w, hrv G s H locs hH.2.2.2.2.2.2.2.2.2 hP hS, z_pre _ hH.2.2.2.2.2.2.2.2.2 hP hS⟩ rfl (by rw [List.length_map]; exact hna) hl.1 rfl (lv_room (by rw [z_sum]; exact hst)) hd hc) k
theorem z_recv {ci j b : Nat} {q : vw_C} {fs : List Value} (hb : b = 200 + j) (hw : w[j]? = some (.inr (ci, fs))) (hq : z_cl[ci]? = some q) (G : z_G) (s : State) (H : Heap) (locs : List Loc) (_ : z_X G s s.heap) (hP : z_P G tg w s H) (_ : va_S (z_A G) s.heap H locs) : ∃ cell : Cell, H[z_a G b]? = some cell ∧ cell.vm.isStatics = false ∧ s.vm.findClass q.1 = some cell.cls := by
  subst hb
  rw [z_a_new]
  exact va_recv hP.2.2 hP.2.1 hq (z_ws_at G hw)
theorem z_recvX {C : String} {N b : Nat} {ad : Nat → Nat} (i : Nat) (hq : (C, N, ad) ∈ z_xo) (hi : i < N) (hb : b = ad i) (G : z_G) (s : State) (H : Heap) (locs : List Loc) (hX : z_X G s s.heap) (_ : z_P G tg w s H) (hS : va_S (z_A G) s.heap H locs) : ∃ cell : Cell, H[z_a G b]? = some cell ∧ cell.vm.isStatics = false ∧ s.vm.findClass C = some cell.cls := by
  subst hb
  obtain ⟨cell, h1, h2, h3, -⟩ := (hX.2.2.1 _ hq i hi).kept hS.2.1
  exact ⟨cell, h1, h2, h3⟩
/-- an own object's method -/
theorem z_callV {idx ci b na : Nat} {q : vw_C} {fs : List Value} (As : List Value) (j n : Nat) (hd : decode (z_b μ) pc = .ok (.invokevirtual idx, 3)) (hok : z_okV μ ν idx na) (hna : As.length = na) (hst : (st.map fun v => v.category).sum ≤ 8) (hb : b = 200 + j) (hw : w[j]? = some (.inr (ci, fs))) (hq : z_cl[ci]? = some q) (hqc : q.1 = (z_y ν).cls)
    (hc : uc + (z_rm ν).cells ≤ (z_rm μ).cells ∧ us + (z_rm ν).slots ≤ (z_rm μ).slots) (hn : pc + 3 = n) (hM : z_M ν tg (.ref b :: As) w Q1) (k : ∀ r w1, Q1 r w1 → z_go μ tg n L (r.toList ++ st) w1 (uc + (z_rm ν).cells) (us + (z_rm ν).slots) Q) : z_go μ tg pc L (As.reverse ++ .ref b :: st) w uc us Q := by
  subst hn
  exact z_callV0 hd hok hna hst (by rw [← hqc]; exact z_recv hb hw hq) hc hM k
def z_okS (μ ν : z_Mt) (idx n : Nat) : Prop := (∀ w ∈ [Cond.methodLink (z_y μ).cls idx (z_y ν), .static (z_y ν), .initialized (z_y ν).cls, .code (z_y ν) (z_b ν) (z_n ν) (z_r ν)], w ∈ z_T) ∧ z_okD (z_y ν) n ∧ z_fit μ ν
theorem z_callS {idx na : Nat} (As : List Value) (n : Nat) (hd : decode (z_b μ) pc = .ok (.invokestatic idx, 3)) (hok : z_okS μ ν idx na) (hna : As.length = na) (hst : (st.map fun v => v.category).sum ≤ 8)
    (hc : uc + (z_rm ν).cells ≤ (z_rm μ).cells ∧ us + (z_rm ν).slots ≤ (z_rm μ).slots) (hn : pc + 3 = n) (hM : z_M ν tg As w Q1) (k : ∀ r w1, Q1 r w1 → z_go μ tg n L (r.toList ++ st) w1 (uc + (z_rm ν).cells) (us + (z_rm ν).slots) Q) : z_go μ tg pc L (As.reverse ++ st) w uc us Q := by
  subst hn
  intro l G p e s m args below meth c H locs ls hH hP hS hl
  have he : (As.reverse ++ st).map (z_v G) = (As.map (z_v G)).reverse ++ st.map (z_v G) := by simp
  rw [he]
  exact z_callx (a := (As.map (z_v G)).toArray) hH hS hl (va_runS (As := As.map (z_v G)) (rest := st.map (z_v G)) ⟨hH.1, hH.2.1, hH.2.2.2.1, hH.2.2.2.2.1, hH.2.2.2.2.2.1⟩ (hM l G) (va_cwS na hH.2.2.2.2.2.1 (z_goodC hok.1) rfl rfl rfl hok.2.1 hok.2.2) ⟨z_blind G _ w, z_pre _ hH.2.2.2.2.2.2.2.2.2 hP hS⟩ rfl (by rw [List.length_map]; exact hna) hl.1 rfl (lv_room (by rw [z_sum]; exact hst)) hd hc) k
def z_okSN (μ ν : z_Mt) (idx n : Nat) (host : String) : Prop := ((z_y μ).cls, idx, z_y ν, host) ∈ z_xm ∧ (∀ w ∈ [Cond.static (z_y ν), .initialized (z_y ν).cls, .code (z_y ν) (z_b ν) (z_n ν) (z_r ν)], w ∈ z_T) ∧ z_okD (z_y ν) n ∧ z_fit μ ν
theorem z_callSN {idx na : Nat} {host : String} (As : List Value) (n : Nat) (hd : decode (z_b μ) pc = .ok (.invokestatic idx, 3)) (hok : z_okSN μ ν idx na host) (hna : As.length = na) (hst : (st.map fun v => v.category).sum ≤ 8)
    (hc : uc + (z_rm ν).cells ≤ (z_rm μ).cells ∧ us + (z_rm ν).slots ≤ (z_rm μ).slots) (hn : pc + 3 = n) (hM : z_M ν tg As w Q1) (k : ∀ r w1, Q1 r w1 → z_go μ tg n L (r.toList ++ st) w1 (uc + (z_rm ν).cells) (us + (z_rm ν).slots) Q) : z_go μ tg pc L (As.reverse ++ st) w uc us Q := by
  subst hn
  intro l G p e s m args below meth c H locs ls hH hP hS hl
  have he : (As.reverse ++ st).map (z_v G) = (As.map (z_v G)).reverse ++ st.map (z_v G) := by simp
  rw [he]
  have hts := hH.2.2.2.2.2.1
  exact z_callx (a := (As.map (z_v G)).toArray) hH hS hl (va_runSN (As := As.map (z_v G)) (rest := st.map (z_v G)) ⟨hH.1, hH.2.1, hH.2.2.2.1, hH.2.2.2.2.1, hts⟩ (hM l G) ⟨va_cnB na hts (z_goodC (l := [.code (z_y ν) (z_b ν) (z_n ν) (z_r ν)]) (fun w h => hok.2.1 w (List.mem_cons_of_mem _ (List.mem_cons_of_mem _ h)))) rfl rfl rfl (hH.2.2.2.2.2.2.2.2.2.2.2.2.2.2.2.1 _ hok.1) (hts _ (hok.2.1 _ (List.mem_cons_of_mem _ List.mem_cons_self))) hok.2.2.1 hok.2.2.2, hts _ (hok.2.1 _ List.mem_cons_self), trivial⟩ ⟨z_blind G _ w, z_pre _ hH.2.2.2.2.2.2.2.2.2 hP hS⟩ rfl (by rw [List.length_map]; exact hna) hl.1 rfl (lv_room (by rw [z_sum]; exact hst)) hd hc) k
def z_okI (μ ν : z_Mt) (idx n : Nat) : Prop := (∀ w ∈ [Cond.methodLink (z_y μ).cls idx (z_y ν), .instanceMethod (z_y ν), .initialized (z_y ν).cls, .code (z_y ν) (z_b ν) (z_n ν) none], w ∈ z_T) ∧ z_r ν = none ∧ (z_y ν).name = "<init>" ∧ z_okD (z_y ν) n ∧ z_fit μ ν
theorem z_callI {idx b na : Nat} (As : List Value) (n : Nat) (hd : decode (z_b μ) pc = .ok (.invokespecial idx, 3)) (hok : z_okI μ ν idx na) (hna : As.length = na) (hst : (st.map fun v => v.category).sum ≤ 8)
    (hc : uc + (z_rm ν).cells ≤ (z_rm μ).cells ∧ us + (z_rm ν).slots ≤ (z_rm μ).slots) (hn : pc + 3 = n) (hM : z_M ν tg (.ref b :: As) w Q1) (k : ∀ r w1, Q1 r w1 → z_go μ tg n L (r.toList ++ st) w1 (uc + (z_rm ν).cells) (us + (z_rm ν).slots) Q) : z_go μ tg pc L (As.reverse ++ .ref b :: st) w uc us Q := by
  subst hn
  intro l G p e s m args below meth c H locs ls hH hP hS hl
  have he : (As.reverse ++ .ref b :: st).map (z_v G) = (As.map (z_v G)).reverse ++ Value.ref (z_a G b) :: st.map (z_v G) := by simp [z_v]
  rw [he]
  have hts := hH.2.2.2.2.2.1
  obtain ⟨h1, h2, h3, h4, h5⟩ := hok
  have hM := hM l G
  unfold z_wd at hM
  rw [h2] at hM
  exact z_callx (a := (Value.ref (z_a G b) :: As.map (z_v G)).toArray) hH hS hl (va_runI (As := As.map (z_v G)) (rest := st.map (z_v G)) ⟨hH.1, hH.2.1, hH.2.2.2.1, hH.2.2.2.2.1, hts⟩ hM (cwI na hts (z_goodC (l := [.code (z_y ν) (z_b ν) (z_n ν) none]) (fun w h => h1 w (List.mem_cons_of_mem _ (List.mem_cons_of_mem _ (List.mem_cons_of_mem _ h))))) rfl rfl rfl (hts _ (h1 _ (List.mem_cons_of_mem _ (List.mem_cons_of_mem _ List.mem_cons_self)))) (hts _ (h1 _ List.mem_cons_self)) (hts _ (h1 _ (List.mem_cons_of_mem _ List.mem_cons_self))) h3 h4 h5) ⟨z_blind G _ w, z_pre _ hH.2.2.2.2.2.2.2.2.2 hP hS⟩ rfl (by rw [List.length_map]; exact hna) hl.1 rfl (lv_room (by rw [z_sum]; exact hst)) hd hc) k
def z_okIN (μ ν : z_Mt) (idx n : Nat) (host : String) : Prop := ((z_y μ).cls, idx, z_y ν, host) ∈ z_xm ∧ (∀ w ∈ [Cond.instanceMethod (z_y ν), .initialized (z_y ν).cls, .code (z_y ν) (z_b ν) (z_n ν) none], w ∈ z_T) ∧ z_r ν = none ∧ (z_y ν).name = "<init>" ∧ z_okD (z_y ν) n ∧ z_fit μ ν
theorem z_callIN {idx b na : Nat} {host : String} (As : List Value) (n : Nat) (hd : decode (z_b μ) pc = .ok (.invokespecial idx, 3)) (hok : z_okIN μ ν idx na host) (hna : As.length = na) (hst : (st.map fun v => v.category).sum ≤ 8)
    (hc : uc + (z_rm ν).cells ≤ (z_rm μ).cells ∧ us + (z_rm ν).slots ≤ (z_rm μ).slots) (hn : pc + 3 = n) (hM : z_M ν tg (.ref b :: As) w Q1) (k : ∀ r w1, Q1 r w1 → z_go μ tg n L (r.toList ++ st) w1 (uc + (z_rm ν).cells) (us + (z_rm ν).slots) Q) : z_go μ tg pc L (As.reverse ++ .ref b :: st) w uc us Q := by
  subst hn
  intro l G p e s m args below meth c H locs ls hH hP hS hl
  have he : (As.reverse ++ .ref b :: st).map (z_v G) = (As.map (z_v G)).reverse ++ Value.ref (z_a G b) :: st.map (z_v G) := by simp [z_v]
  rw [he]
  have hts := hH.2.2.2.2.2.1
  obtain ⟨h0, h1, h2, h3, h4, h5⟩ := hok
  have hM := hM l G
  unfold z_wd at hM
  rw [h2] at hM
  exact z_callx (a := (Value.ref (z_a G b) :: As.map (z_v G)).toArray) hH hS hl (va_runIN (As := As.map (z_v G)) (rest := st.map (z_v G)) ⟨hH.1, hH.2.1, hH.2.2.2.1, hH.2.2.2.2.1, hts⟩ hM ⟨va_cnB na hts (z_goodC (l := [.code (z_y ν) (z_b ν) (z_n ν) none]) (fun w h => h1 w (List.mem_cons_of_mem _ (List.mem_cons_of_mem _ h)))) rfl rfl rfl (hH.2.2.2.2.2.2.2.2.2.2.2.2.2.2.2.1 _ h0) (hts _ (h1 _ (List.mem_cons_of_mem _ List.mem_cons_self))) h4 h5, h3, hts _ (h1 _ List.mem_cons_self)⟩ ⟨z_blind G _ w, z_pre _ hH.2.2.2.2.2.2.2.2.2 hP hS⟩ rfl (by rw [List.length_map]; exact hna) hl.1 rfl (lv_room (by rw [z_sum]; exact hst)) hd hc) k
end ZA
