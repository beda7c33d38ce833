section ZK
variable {μ : z_Mt} {tg : Bool} {pc : Nat} {L : List (Nat × Value)} {st : List Value} {w : List va_E} {uc us : Nat} {Q : z_R}
theorem z_a_new (G : z_G) (j : Nat) : z_a G (200 + j) = G.2.2.1 + j := by
  unfold z_a
  rw [if_neg (by omega)]
  omega
theorem z_ref_new (G : z_G) {b j : Nat} (hb : b = 200 + j) : z_v G (.ref b) = .ref (G.2.2.1 + j) := by
  subst hb
  show Value.ref (z_a G (200 + j)) = _
  rw [z_a_new]
/-- the entry idx of own's pool is field k of class ci -/
def z_okF (own : String) (idx ci k : Nat) : Prop := ∃ q : vw_C, z_cl[ci]? = some q ∧ k < q.2.2 ∧ (∀ w ∈ u_ws q.1 q.2.1 q.2.2, w ∈ z_T) ∧ Cond.fieldLink own idx (q.2.1 k).1 (q.2.1 k).2.1 (q.2.1 k).2.2.1 ∈ z_T
/-- .. of type ty, final or not -/
def z_okP (own : String) (idx ci k : Nat) (ty : FieldType) (fin : Bool) : Prop := ∃ (q : vw_C) (ty0 : Nat → FieldType), z_cl[ci]? = some q ∧ k < q.2.2 ∧ (∀ w ∈ u_ws q.1 q.2.1 q.2.2, w ∈ z_T) ∧ Cond.fieldLink own idx (q.2.1 k).1 (q.2.1 k).2.1 (q.2.1 k).2.2.1 ∈ z_T ∧
  (∀ k, k < q.2.2 → parseFieldDescriptor (q.2.1 k).2.2.1 = some (ty0 k)) ∧ (∀ a, a < q.2.2 → ∀ b, b < q.2.2 → a ≠ b → (q.2.1 a).2.1 ≠ (q.2.1 b).2.1) ∧ (q.2.1 k).2.2.2 = fin ∧ parseFieldDescriptor (q.2.1 k).2.2.1 = some ty ∧ (fin = true → (q.2.1 k).1 = own)
theorem z_get {idx ci kf b : Nat} {fs : List Value} {v : Value} (j n : Nat) (hd : decode (z_b μ) pc = .ok (.getfield idx, 3)) (hok : z_okF (z_y μ).cls idx ci kf) (hb : b = 200 + j) (hw : w[j]? = some (.inr (ci, fs))) (hv : fs[kf]? = some v) (hn : pc + 3 = n) (k : z_go μ tg n L (v :: st) w uc us Q) : z_go μ tg pc L (.ref b :: st) w uc us Q := by
  subst hn
  intro l G p e s m args below meth c H locs ls hH hP hS hl
  obtain ⟨⟨C, T, N⟩, hc, hk, hin, hlk⟩ := hok
  rw [List.map_cons, z_ref_new G hb]
  exact va_get (D := G.1) (ci := ci) (C := C) (T := T) (N := N) (v := z_v G v) hH.1 hH.2.1 hH.2.2.2.2.2.1 hin hH.2.2.2.2.1 hP.2.2 hP.2.1 j (z_ws_at G hw) hc kf hk (hH.2.2.2.2.2.1 _ hlk) (fun _ h => h) (by rw [List.getElem?_map, hv]; rfl) hd (k l G p e s m args below meth c H locs ls hH hP hS hl)
/-- what stands behind a store -/
theorem z_P_set {G : z_G} {s : State} {H H1 : Heap} {j : Nat} {x : va_E} (hP : z_P G tg w s H) (hz : H1.size = H.size) (h : va_P G.1 z_cl (z_ws G 0 (w.set j x)) H1) : z_P G tg (w.set j x) s H1 :=
  ⟨by rw [List.length_set, hz]; exact hP.1, h, hP.2.2⟩
theorem z_put {idx ci kf b : Nat} {fs : List Value} {v : Value} {ty : FieldType} (j : Nat) (w2 : List va_E) (n : Nat) (hd : decode (z_b μ) pc = .ok (.putfield idx, 3)) (hok : z_okP (z_y μ).cls idx ci kf ty false) (hb : b = 200 + j) (hw : w[j]? = some (.inr (ci, fs))) (hl9 : kf < fs.length) (hty : ∀ G : z_G, narrow ty (z_v G v) = z_v G v ∧ fits ty (z_v G v) = true) (hw2 : w.set j (.inr (ci, fs.set kf v)) = w2) (hn : pc + 3 = n) (k : z_go μ tg n L st w2 uc us Q) : z_go μ tg pc L (v :: .ref b :: st) w uc us Q := by
  subst hn
  subst hw2
  intro l G p e s m args below meth c H locs ls hH hP hS hl
  obtain ⟨⟨C, T, N⟩, ty0, hc, hk, hin, hlk, ht0, hnm, hfin, hpt, -⟩ := hok
  rw [List.map_cons, List.map_cons, z_ref_new G hb]
  have hapart := va_apart (own := (z_y μ).cls) hH.2.2.2.2.2.1 hin ty0 ht0 hnm hP.2.2 hc
  obtain ⟨r, h1, cell, q1, q2, q3, q4⟩ := hP.2.1 j _ (z_ws_at G hw)
  have hr : r = (C, T, N) := Option.some.inj (h1.symm.trans hc)
  subst hr
  obtain ⟨hSl, hfc, kC, hkC, hkind⟩ := hP.2.2.1 ci _ hc
  obtain ⟨cf, kf9, fi, f, hi, hsl⟩ := hSl kf hk
  have hlay := hH.2.2.2.2.2.1 _ (hin _ (u_in_lay hk))
  unfold u_lay at hlay
  rw [if_neg (by rw [hfin]; decide)] at hlay
  have hst := (u_facts hfc hkC (u_lays hH.2.2.2.2.2.1 hin hk) hi).1
  have h6 := u_store hfc hkC hkind hlay hi hpt (hty G).1 (hty G).2
  refine W.putK hH.1 hH.2.1 (f := f) ⟨hH.2.2.2.2.1, hH.2.2.2.2.2.1 _ hlk, ⟨_, _, _, hi⟩, hst⟩ (by rw [q2]; exact h6) q1 q3 (by rw [hsl]; exact k2_hasslot (q4 kf hk)) rfl rfl hd fun H' e1 e2 e3 => ?_
  rw [hsl] at e1 ⊢
  have hP2 : va_P G.1 z_cl ((z_ws G 0 w).set j (G.2.2.1 + j, .inr (ci, (fs.map (z_v G)).set kf (z_v G v)))) H' := hP.2.1.set (z_D G w) (z_ws_at G hw) ⟨_, hc, t_OB.to (V := updV (vp_V (fs.map (z_v G))) kf (z_v G v)) ⟨_, e1, q2, q3, t_set q4 hapart hk (z_v G v)⟩ (fun j _ => vp_updV_set (by rw [List.length_map]; exact hl9) (z_v G v) j)⟩ e3
  have he : (Sum.inr (ci, (fs.map (z_v G)).set kf (z_v G v)) : va_E) = z_e G (.inr (ci, fs.set kf v)) := by simp [z_e, List.map_set]
  rw [he, z_ws_set0] at hP2
  exact k l G p e s m args below meth c H' _ ls hH (z_P_set hP e2 hP2) (hS.put e2 e3 ((z_D G w).2 j _ (z_ws_at G hw))) hl
theorem z_putF {idx ci kf b : Nat} {fs : List Value} {v : Value} {ty : FieldType} (j : Nat) (w2 : List va_E) (n : Nat) (hd : decode (z_b μ) pc = .ok (.putfield idx, 3)) (hok : z_okP (z_y μ).cls idx ci kf ty true) (hini : (z_y μ).name = "<init>") (hb : b = 200 + j) (hw : w[j]? = some (.inr (ci, fs))) (hl9 : kf < fs.length) (hty : ∀ G : z_G, narrow ty (z_v G v) = z_v G v ∧ fits ty (z_v G v) = true) (hw2 : w.set j (.inr (ci, fs.set kf v)) = w2) (hn : pc + 3 = n) (k : z_go μ tg n L st w2 uc us Q) : z_go μ tg pc L (v :: .ref b :: st) w uc us Q := by
  subst hn
  subst hw2
  intro l G p e s m args below meth c H locs ls hH hP hS hl
  obtain ⟨⟨C, T, N⟩, ty0, hc, hk, hin, hlk, ht0, hnm, hfin, hpt, hdecl⟩ := hok
  have hdecl := hdecl rfl
  rw [List.map_cons, List.map_cons, z_ref_new G hb]
  have hapart := va_apart (own := (z_y μ).cls) hH.2.2.2.2.2.1 hin ty0 ht0 hnm hP.2.2 hc
  obtain ⟨r, h1, cell, q1, q2, q3, q4⟩ := hP.2.1 j _ (z_ws_at G hw)
  have hr : r = (C, T, N) := Option.some.inj (h1.symm.trans hc)
  subst hr
  obtain ⟨hSl, hfc, kC, hkC, hkind⟩ := hP.2.2.1 ci _ hc
  obtain ⟨cf, kf9, fi, f, hi, hsl⟩ := hSl kf hk
  have hlay := hH.2.2.2.2.2.1 _ (hin _ (u_in_lay hk))
  unfold u_lay at hlay
  rw [if_pos hfin] at hlay
  have hst := (u_facts hfc hkC (u_lays hH.2.2.2.2.2.1 hin hk) hi).1
  have hcf : m.cls = cf := by
    obtain ⟨_, _, c', _, _, _, -, -, hf', -, -, -, hown2, -⟩ := Cond.laysFinal_spec hlay
    have e1 : c' = cf := by have := hi.symm.trans hf'; simp at this; exact this.1.symm
    rw [hdecl] at hown2
    rw [← e1]; exact Option.some.inj (hH.2.2.2.2.1.symm.trans hown2)
  have h6 := u_fits hfc hkC hkind (Or.inr hlay) hi hpt (hty G).1 (hty G).2
  refine W.putFinK hH.1 hH.2.1 hH.2.2.2.2.1 (hH.2.2.2.2.2.1 _ hlk) hi hst hcf (hH.2.2.2.2.2.2.2.1.trans hini) (by rw [q2]; exact h6) q1 q3 (by rw [hsl]; exact k2_hasslot (q4 kf hk)) rfl rfl hd fun H' e1 e2 e3 => ?_
  rw [hsl] at e1 ⊢
  have hP2 : va_P G.1 z_cl ((z_ws G 0 w).set j (G.2.2.1 + j, .inr (ci, (fs.map (z_v G)).set kf (z_v G v)))) H' := hP.2.1.set (z_D G w) (z_ws_at G hw) ⟨_, hc, t_OB.to (V := updV (vp_V (fs.map (z_v G))) kf (z_v G v)) ⟨_, e1, q2, q3, t_set q4 hapart hk (z_v G v)⟩ (fun j _ => vp_updV_set (by rw [List.length_map]; exact hl9) (z_v G v) j)⟩ e3
  have he : (Sum.inr (ci, (fs.map (z_v G)).set kf (z_v G v)) : va_E) = z_e G (.inr (ci, fs.set kf v)) := by simp [z_e, List.map_set]
  rw [he, z_ws_set0] at hP2
  exact k l G p e s m args below meth c H' _ ls hH (z_P_set hP e2 hP2) (hS.put e2 e3 ((z_D G w).2 j _ (z_ws_at G hw))) hl
/-- returns -/
theorem z_X_end {G : z_G} {s t : State} {H : Heap} {locs : List Loc} (hX : z_X G s s.heap) (hS : va_S (z_A G) s.heap H locs) (ht : t.heap = H) (hW : s.WarmedH t.vm) : z_X G t t.heap := by
  rw [ht]
  exact z_X.warm hW (hX.kept hS.2.1)
theorem z_iret {x : Int32} (hd : decode (z_b μ) pc = .ok (.ireturn, 1)) (hr : z_r μ = some .int) (hc : uc ≤ (z_rm μ).cells ∧ us ≤ (z_rm μ).slots) (k : Q (some (.int x)) w) : z_go μ tg pc L [.int x] w uc us Q := by
  intro l G p e s m args below meth c H locs ls hH hP hS hl
  refine W.widen hc.1 hc.2 ?_
  exact W.iret (v := x) hH.1 hH.2.1 (hH.2.2.1.trans hr) (fun t ht hW => ⟨⟨some (.int x), w, k, rfl, by rw [ht]; exact hP.alike hW.alike, z_X_end hH.2.2.2.2.2.2.2.2.2 hS ht hW⟩, hS.F ht⟩) hS.2.2 hd hH.2.2.2.2.2.2.1
theorem z_zret {x : Int32} {ty : FieldType} (hd : decode (z_b μ) pc = .ok (.ireturn, 1)) (hr : z_r μ = some ty) (hty : narrow ty (.int x) = .int x) (hc : uc ≤ (z_rm μ).cells ∧ us ≤ (z_rm μ).slots) (k : Q (some (.int x)) w) : z_go μ tg pc L [.int x] w uc us Q := by
  intro l G p e s m args below meth c H locs ls hH hP hS hl
  refine W.widen hc.1 hc.2 ?_
  exact W.zret (v := x) hH.1 hH.2.1 (hH.2.2.1.trans hr) hty (fun t ht hW => ⟨⟨some (.int x), w, k, rfl, by rw [ht]; exact hP.alike hW.alike, z_X_end hH.2.2.2.2.2.2.2.2.2 hS ht hW⟩, hS.F ht⟩) hS.2.2 hd hH.2.2.2.2.2.2.1
theorem z_lret {x : Int64} (hd : decode (z_b μ) pc = .ok (.lreturn, 1)) (hr : z_r μ = some .long) (hc : uc ≤ (z_rm μ).cells ∧ us ≤ (z_rm μ).slots) (k : Q (some (.long x)) w) : z_go μ tg pc L [.long x] w uc us Q := by
  intro l G p e s m args below meth c H locs ls hH hP hS hl
  refine W.widen hc.1 hc.2 ?_
  exact W.lret (v := x) hH.1 hH.2.1 (hH.2.2.1.trans hr) (fun t ht hW => ⟨⟨some (.long x), w, k, rfl, by rw [ht]; exact hP.alike hW.alike, z_X_end hH.2.2.2.2.2.2.2.2.2 hS ht hW⟩, hS.F ht⟩) hS.2.2 hd hH.2.2.2.2.2.2.1
theorem z_vret (hd : decode (z_b μ) pc = .ok (.return_, 1)) (hr : z_r μ = none) (hc : uc ≤ (z_rm μ).cells ∧ us ≤ (z_rm μ).slots) (k : Q none w) : z_go μ tg pc L [] w uc us Q := by
  intro l G p e s m args below meth c H locs ls hH hP hS hl
  refine W.widen hc.1 hc.2 ?_
  exact W.vret hH.1 hH.2.1 (hH.2.2.1.trans hr) (fun t ht hW => ⟨⟨none, w, k, rfl, by rw [ht]; exact hP.alike hW.alike, z_X_end hH.2.2.2.2.2.2.2.2.2 hS ht hW⟩, hS.F ht⟩) hS.2.2 hd hH.2.2.2.2.2.2.1
end ZK
