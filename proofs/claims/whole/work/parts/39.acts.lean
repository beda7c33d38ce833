/-! the other ACTS: class and reference -/
section ZA3
variable {C : cS} {M : mS} {sz pr B O fl pa ro h mm ps nx v t i n a r r2 r3 k : Nat} {st ad sl mv P : Nat → Nat} {x y s b hd rw9 : Int32}
theorem e_thing (R : RelM C M sz pr B O fl pa ro h mm ps nx st ad sl mv P) (w : gW (c_a C 10) (c_a C 11) O sz st ad x y 2 b) :
    ∃ v, v < 1300 ∧ b = nI v ∧ (st v = 1 ∨ st v = 2) ∧ (∀ Q, Q (nI (ad v)) C → p_X3_home y C Q) ∧ (∀ Q, Q (nI (sl v)) C → p_X3_slotsOf y C Q) ∧
      (∀ Q, Q (if m_a M 0 v = 0 then 0 else 1) C → p_X3_isRow y C Q) ∧ (∀ Q, Q (if m_a M 0 v = 0 then 3 else 2) C → p_X3_kindOf 2 y C Q) := by
  obtain ⟨G, ⟨⟨s0, s9, s11, s12, s13, s14, s15⟩, Sm⟩, T, H, -⟩ := R
  obtain ⟨v, hv, hb, hl, hho⟩ := j_home G s0 H w
  have ha := G.at hv hl
  have g1 := G.1
  have b1 : ad v < 2147483648 := by omega
  have hin : vp_in (nI (ad v)) (2 * c_sz C) := by rw [s0]; exact (ni_in b1).mpr (by omega)
  obtain ⟨q1, q2, -⟩ := H v hv (by omega)
  have hrow : ∀ Q, Q (if m_a M 0 v = 0 then 0 else 1) C → p_X3_isRow y C Q := by
    intro Q hQ
    refine hho _ ⟨hin, ?_⟩
    rw [ni_cl b1, q1]
    by_cases e : m_a M 0 v = 0
    · rw [if_pos e] at hQ ⊢
      exact ⟨fun _ => hQ, fun q => absurd q (by decide)⟩
    · rw [if_neg e] at hQ ⊢
      exact ⟨fun q => absurd rfl q, fun _ => hQ⟩
  refine ⟨v, hv, hb, hl, hho, fun Q hQ => hho _ ⟨hin, ?_⟩, hrow, fun Q hQ => ⟨fun _ => hrow _ ?_, fun q => absurd rfl q⟩⟩
  · rw [ni_cl b1, q2]; exact hQ
  · by_cases e : m_a M 0 v = 0
    · rw [if_pos e] at hQ ⊢
      exact ⟨fun _ => hQ, fun q => absurd rfl q⟩
    · rw [if_neg e] at hQ ⊢
      exact ⟨fun q => absurd q (by decide), fun _ => hQ⟩
theorem RelM.give (R : RelM C M sz pr B O fl pa ro h mm ps (8 + h) st ad sl mv P) (hr : r < 58) (hE : gE st ad x y s b) :
    RelM (c_aU (c_aU C 12 (nI r) x) 13 (nI r) y) (m_aU (m_aU M 6 (nI r) s) 7 (nI r) b) sz pr B O fl pa ro h mm ps (8 + h) st ad sl mv P := by
  obtain ⟨G, S, T, H, Rt, V, K⟩ := R
  have rc : (nI r).toNatClampNeg = r := ni_cl (by omega)
  refine ⟨G, S, T, H, gR.put (r := r) hE ?_ ?_ ?_ ?_ Rt, V, K⟩
  · show upd (c_a C 12) (nI r).toNatClampNeg x = _; rw [rc]
  · show upd (c_a C 13) (nI r).toNatClampNeg y = _; rw [rc]
  · show upd (m_a M 6) (nI r).toNatClampNeg s = _; rw [rc]
  · show upd (m_a M 7) (nI r).toNatClampNeg b = _; rw [rc]
theorem a_give (R : RelM C M sz pr B O fl pa ro h mm ps (8 + h) st ad sl mv P) (k4 : c_a C 14 4 = m_i M 10) (k6 : c_a C 14 6 = m_i M 12) (kc : c_i C 10 = nI k) (km : m_i M 1 = nI k) (kb : 1 ≤ k ∧ k ≤ 6) (hr : r < 8) (hE : gE st ad x y s b) :
    aEqN C M (p_X2_give (nI r) x y C) (fun Q => p_X11_give (nI r) s b M (fun M2 => Q 0 M2)) :=
  ⟨0, _, _, fun Q hQ => ⟨(ni_in (by omega)).mpr (by omega), hQ⟩, fun Q hQ => ⟨(ni_in (by omega)).mpr (by omega), hQ⟩, ⟨_, _, _, _, _, _, _, _, _, _, k, _, _, _, _, _, R.give (by omega) hE, k4, k6, kc, km, kb⟩, ((wrC.rf C).u (by decide)).u (by decide), ((wrM.rf M).u (by decide)).u (by decide), by decide⟩
theorem gE.num : gE st ad 0 y 0 y := ⟨rfl, Or.inl ⟨rfl, rfl⟩⟩
theorem gE.nob : gE st ad 1 0 1 0 := ⟨rfl, Or.inr (Or.inl ⟨rfl, rfl, rfl⟩)⟩
theorem aEqN.tr {pc : (Int32 → cS → Prop) → Prop} {pm : (Int32 → mS → Prop) → Prop} {C0 : cS} {M0 : mS} (f1 : wrC C0 C) (f2 : wrM M0 M) (h : aEqN C M pc pm) : aEqN C0 M0 pc pm := by
  obtain ⟨e, C1, M1, h1, h2, h3, h4, h5⟩ := h
  exact ⟨e, C1, M1, h1, h2, h3, f1.tr h4, f2.tr h5.1, h5.2⟩
theorem aEqN.mp {pc pc' : (Int32 → cS → Prop) → Prop} {pm pm' : (Int32 → mS → Prop) → Prop} (h : aEqN C M pc pm) (h1 : ∀ Q, pc Q → pc' Q) (h2 : ∀ Q, pm Q → pm' Q) : aEqN C M pc' pm' := by
  obtain ⟨e, C1, M1, q1, q2, q3⟩ := h
  exact ⟨e, C1, M1, fun Q hQ => h1 Q (q1 Q hQ), fun Q hQ => h2 Q (q2 Q hQ), q3⟩
/-- what a root has -/
theorem root_of (R : RelM C M sz pr B O fl pa ro h mm ps (8 + h) st ad sl mv P) (hr : r < 8 + h) : gE st ad (c_a C 12 r) (c_a C 13 r) (m_a M 6 r) (m_a M 7 r) := (R.2.2.2.2.1 r hr).2 hr
theorem rin (hr : r < 58) : vp_in (nI r) 58 := (ni_in (by omega)).mpr hr
theorem rcl (hr : r < 58) : (nI r).toNatClampNeg = r := ni_cl (by omega)
/-- a hand's number -/
theorem e_num (A : RelA C M) (hr : r < 8) : c_a C 12 r = m_a M 6 r ∧ (m_a M 6 r = 0 → c_a C 13 r = m_a M 7 r) := by
  obtain ⟨sz, pr, B, O, fl, pa, ro, h, mm, ps, k, st, ad, sl, mv, P, R, -⟩ := A
  obtain ⟨e1, e2 | e2 | e2⟩ := root_of R (r := r) (by omega)
  · exact ⟨e1, fun _ => e2.2⟩
  · exact ⟨e1, fun q => by rw [q] at e2; exact absurd e2.1 (by decide)⟩
  · exact ⟨e1, fun q => by rw [q] at e2; exact absurd e2.1 (by decide)⟩
theorem a_hasNum {pc : Int32 → cS → (Int32 → cS → Prop) → Prop} {pm : Int32 → mS → (Int32 → mS → Prop) → Prop} (A : RelA C M) (hr : r < 8) (k : ∀ w, aEqN C M (pc w C) (pm w M)) :
    aEqN C M (fun Q => p_X2_hasNumber (nI r) C (fun z Cz => ((z = 0 → Q 1 Cz) ∧ (¬ z = 0 → p_X2_number (nI r) Cz (fun w Cw => pc w Cw Q))))) (fun Q => p_X11_isNumber (nI r) M (fun z Mz => ((z = 0 → Q 1 Mz) ∧ (¬ z = 0 → vp_in (nI r) 58 ∧ pm ((m_a Mz 7) (nI r).toNatClampNeg) Mz Q)))) := by
  obtain ⟨e1, e2⟩ := e_num A hr
  by_cases q : m_a M 6 r = 0
  · refine (k (m_a M 7 r)).mp (fun Q hQ => ⟨rin (by omega), ?_⟩) (fun Q hQ => ⟨rin (by omega), ?_⟩)
    · rw [rcl (by omega), e1]
      refine ⟨fun z => absurd q z, fun _ => ⟨fun z => absurd z (by decide), fun _ => ⟨rin (by omega), ?_⟩⟩⟩
      rw [rcl (by omega), e2 q]
      exact hQ
    · rw [rcl (by omega)]
      exact ⟨fun z => absurd q z, fun _ => ⟨fun z => absurd z (by decide), fun _ => ⟨rin (by omega), hQ⟩⟩⟩
  · refine a_sameN A 1 (fun Q hQ => ⟨rin (by omega), ?_⟩) (fun Q hQ => ⟨rin (by omega), ?_⟩)
    · rw [rcl (by omega), e1]
      exact ⟨fun _ => ⟨fun _ => hQ, fun z => absurd rfl z⟩, fun z => absurd z q⟩
    · rw [rcl (by omega)]
      exact ⟨fun _ => ⟨fun _ => hQ, fun z => absurd rfl z⟩, fun z => absurd z q⟩
theorem e_slotOf (R : RelM C M sz pr B O fl pa ro h mm ps (8 + h) st ad sl mv P) (hr : r < 8) (hv : v < 1300) (h1 : st v = 1) (hx : c_a C 12 r = 2) (hy : c_a C 13 r = nI (ad v)) (j : Int32) :
    ((j < 0 ∨ ¬ j < nI (sl v)) → ∀ Q, Q (-1) C → p_X3_slotOf (nI r) j C Q) ∧ (∀ i, i < sl v → j = nI i → ∀ Q, Q (nI (ad v + 2 + i)) C → p_X3_slotOf (nI r) j C Q) := by
  have w : gW (c_a C 10) (c_a C 11) O sz st ad 2 (nI (ad v)) 2 (nI v) := ⟨rfl, Or.inr (Or.inr ⟨rfl, v, hv, rfl, Or.inl ⟨Or.inl h1, rfl⟩⟩)⟩
  obtain ⟨u, hu, hb, -, t1, t2, -⟩ := e_thing R w
  have hu2 : v = u := (ni_eq (by omega) (by omega)).mp hb
  subst hu2
  have g4 := (R.1.2.2.2.1 v hv).1
  refine ⟨fun hj Q hQ => ⟨rin (by omega), ?_⟩, fun i hi hj Q hQ => ⟨rin (by omega), ?_⟩⟩
  · rw [rcl (by omega), hx, hy]
    refine ⟨fun q => absurd rfl q, fun _ => ⟨fun _ => hQ, fun q => t2 _ ⟨fun z => ?_, fun _ => hQ⟩⟩⟩
    rcases hj with hj | hj
    · exact absurd hj q
    · exact absurd z hj
  · rw [rcl (by omega), hx, hy]
    subst hj
    refine ⟨fun q => absurd rfl q, fun _ => ⟨fun q => absurd q (nI_pos (by omega)), fun _ => t2 _ ⟨fun _ => ?_, fun z => absurd ((ni_lt (by omega) (by omega)).mpr hi) z⟩⟩⟩
    rw [hy]
    refine t1 _ ?_
    rw [ni_al, nI_add]
    exact hQ
theorem slot_cases {j : Int32} (hs : n ≤ 40) : (j < 0 ∨ ¬ j < nI n) ∨ ∃ i, i < n ∧ j = nI i := by
  by_cases q : j < 0
  · exact Or.inl (Or.inl q)
  · obtain ⟨i, hi, rfl⟩ := ni_ex q
    by_cases q2 : i < n
    · exact Or.inr ⟨i, q2, rfl⟩
    · exact Or.inl (Or.inr (by rw [ni_lt (by omega) (by omega)]; exact q2))
/-- get -/
theorem a_get (A : RelA C M) (hr : r < 8) (hr2 : r2 < 8) (j : Int32) : aEqN C M (p_X2_readSlot (nI r) (nI r2) j C) (p_X11_reads (nI r) (nI r2) j M) := by
  have A0 := A
  obtain ⟨sz, pr, B, O, fl, pa, ro, h, mm, ps, k, st, ad, sl, mv, P, R, k4, k6, kc, km, kb⟩ := A
  have w := root_of R (r := r2) (by omega)
  by_cases hs : m_a M 6 r2 = 2
  · have hx : c_a C 12 r2 = 2 := w.1.trans hs
    obtain ⟨-, ⟨e, -⟩ | ⟨e, -⟩ | ⟨-, v, hv, hb, h1, hy⟩⟩ := w
    · rw [hs] at e; exact absurd e (by decide)
    · rw [hs] at e; exact absurd e (by decide)
    have g4 := (R.1.2.2.2.1 v hv).1
    obtain ⟨f1, f2⟩ := e_slotOf R hr2 hv h1 hx hy j
    have T := R.2.2.1
    have hsl : m_a M 1 (nI v).toNatClampNeg = nI (sl v) := by rw [ni_cl (by omega)]; exact (T v hv).1
    have cls : ∀ Q, p_X3_slotOf (nI r2) j C (fun rz5 Cz4 => ((¬ rz5 = (-1) → p_X3_bringH rz5 Cz4 (fun rz8 Cz7 => ((rz8 = 0 → Q 8 Cz7) ∧ (¬ rz8 = 0 → vp_in rz5 (2 * c_sz Cz7) ∧ p_X2_give (nI r) ((c_a Cz7 10) rz5.toNatClampNeg) ((c_a Cz7 11) rz5.toNatClampNeg) Cz7 (fun rz12 Cz11 => Q rz12 Cz11))))) ∧ (rz5 = (-1) → Q 3 Cz4))) → p_X2_readSlot (nI r) (nI r2) j C Q := by
      intro Q hQ
      refine ⟨rin (by omega), ?_⟩
      rw [rcl (by omega)]
      exact ⟨fun q => absurd hx q, fun _ => ⟨fun _ => hQ, fun q => absurd q (by decide)⟩⟩
    rcases slot_cases (j := j) g4 with hj | ⟨i, hi, hj⟩
    · refine a_sameN A0 3 (fun Q hQ => cls Q (f1 hj _ ⟨fun q => absurd rfl q, fun _ => hQ⟩)) (fun Q hQ => ⟨rin (by omega), ?_⟩)
      rw [rcl (by omega)]
      refine ⟨fun q => absurd hs q, fun _ => ⟨fun _ => ⟨rin (by omega), fun u hu => ?_⟩, fun q => absurd q (by decide)⟩⟩
      rw [hb] at hu
      subst hu
      refine ⟨fun _ => hQ, fun q => ⟨(ni_in (by omega)).mpr hv, ?_⟩⟩
      rw [hsl]
      refine ⟨fun z => ?_, fun _ => hQ⟩
      rcases hj with hj | hj
      · exact absurd hj q
      · exact absurd z hj
    · subst hj
      have hat := R.1.at hv (Or.inl h1)
      have g1 := R.1.1
      obtain ⟨e, C1, M1, fl', mm', st', ad', mv', P', b1, b2, b3, b4, b5, b6, b7, b8, b9, b10, b11⟩ := j_bringH R hv h1 hi
      have q4 : c_a C1 14 4 = m_i M1 10 := by rw [b6.2, b7.2]; exact k4
      have q6 : c_a C1 14 6 = m_i M1 12 := by rw [b8.1, b8.2]; exact k6
      have qc : c_i C1 10 = nI k := by rw [b6.1.2.2.2.2.1 10 (by omega)]; exact kc
      have qm : m_i M1 1 = nI k := by rw [b7.1.1 1 (by omega)]; exact km
      have cls2 : ∀ Q, ((e = 0 → Q 8 C1) ∧ (¬ e = 0 → p_X2_give (nI r) (c_a C1 10 (ad v + 2 + i)) (c_a C1 11 (ad v + 2 + i)) C1 (fun rz12 Cz11 => Q rz12 Cz11))) → p_X2_readSlot (nI r) (nI r2) (nI i) C Q := by
        intro Q hQ
        refine cls Q (f2 i hi rfl _ ⟨fun _ => b2 _ ⟨hQ.1, fun q => ⟨?_, ?_⟩⟩, fun q => absurd q (by rw [ni_m1 (by omega)]; exact id)⟩)
        · rw [b4.2.1.1.1]; exact (ni_in (by omega)).mpr (by omega)
        · rw [ni_cl (by omega)]; exact hQ.2 q
      have ref : ∀ Q, ((e = 0 → Q 8 M1) ∧ (¬ e = 0 → p_X11_give (nI r) (m_a M1 4 (40 * v + i)) (m_a M1 5 (40 * v + i)) M1 (fun M2 => Q 0 M2))) → p_X11_reads (nI r) (nI r2) (nI i) M Q := by
        intro Q hQ
        refine ⟨rin (by omega), ?_⟩
        rw [rcl (by omega)]
        refine ⟨fun q => absurd hs q, fun _ => ⟨fun _ => ⟨rin (by omega), fun u hu => ?_⟩, fun q => absurd q (by decide)⟩⟩
        rw [hb] at hu
        subst hu
        refine ⟨fun q => absurd q (nI_pos (by omega)), fun _ => ⟨(ni_in (by omega)).mpr hv, ?_⟩⟩
        rw [hsl]
        refine ⟨fun _ u hu => ?_, fun q => absurd ((ni_lt (by omega) (by omega)).mpr hi) q⟩
        rw [ni_lm, nI_add] at hu
        subst hu
        refine ⟨(ni_in (by omega)).mpr (by omega), ?_⟩
        have ec : (nI (40 * v + i)).toNatClampNeg = 40 * v + i := ni_cl (by omega)
        rw [ec]
        rcases b3 with ⟨c1, c2, c3⟩ | ⟨c1, c2⟩
        · subst c2 c3
          refine c1 _ ⟨fun _ => ?_, fun q => absurd rfl q⟩
          exact hQ.2 (by decide)
        · refine c1 _ ⟨fun q => absurd q (by decide), fun _ => ?_⟩
          refine c2 _ ⟨fun q => ?_, fun q => ?_⟩
          · exact hQ.2 q
          · exact hQ.1 q
      rcases b1 with b1 | b1
      · subst b1
        exact ⟨8, C1, M1, fun Q hQ => cls2 Q ⟨fun _ => hQ, fun q => absurd rfl q⟩, fun Q hQ => ref Q ⟨fun _ => hQ, fun q => absurd rfl q⟩, ⟨_, _, _, _, _, _, _, _, _, _, k, _, _, _, _, _, b4, q4, q6, qc, qm, kb⟩, b6.1, b7.1, by decide⟩
      · subst b1
        have gv := a_give b4 q4 q6 qc qm kb hr (b5 rfl)
        refine (gv.mp (fun Q hQ => cls2 Q ⟨fun q => absurd q (by decide), fun _ => hQ⟩) (fun Q hQ => ref Q ⟨fun q => absurd q (by decide), fun _ => hQ⟩)).tr b6.1 b7.1
  · have hx : ¬ c_a C 12 r2 = 2 := by rw [w.1]; exact hs
    refine a_sameN A0 2 (fun Q hQ => ⟨rin (by omega), ?_⟩) (fun Q hQ => ⟨rin (by omega), ?_⟩)
    · rw [rcl (by omega)]
      exact ⟨fun _ => ⟨fun q => absurd rfl q, fun _ => hQ⟩, fun q => absurd q hx⟩
    · rw [rcl (by omega)]
      exact ⟨fun _ => ⟨fun q => absurd rfl q, fun _ => hQ⟩, fun q => absurd q hs⟩
/-- put -/
theorem a_put (A : RelA C M) (hr : r < 8) (hr2 : r2 < 8) (j : Int32) : aEqN C M (p_X2_writeSlot (nI r) j (nI r2) C) (p_X11_writes (nI r) j (nI r2) M) := by
  have A0 := A
  obtain ⟨sz, pr, B, O, fl, pa, ro, h, mm, ps, k, st, ad, sl, mv, P, R, k4, k6, kc, km, kb⟩ := A
  have w := root_of R (r := r) (by omega)
  have w2 := root_of R (r := r2) (by omega)
  by_cases hs : m_a M 6 r = 2
  · have hx : c_a C 12 r = 2 := w.1.trans hs
    obtain ⟨-, ⟨e, -⟩ | ⟨e, -⟩ | ⟨-, v, hv, hb, h1, hy⟩⟩ := w
    · rw [hs] at e; exact absurd e (by decide)
    · rw [hs] at e; exact absurd e (by decide)
    have g4 := (R.1.2.2.2.1 v hv).1
    obtain ⟨f1, f2⟩ := e_slotOf R hr hv h1 hx hy j
    have T := R.2.2.1
    have vc : (nI v).toNatClampNeg = v := ni_cl (by omega)
    have hsl : m_a M 1 v = nI (sl v) := (T v hv).1
    have ww : gW (c_a C 10) (c_a C 11) O sz st ad 2 (nI (ad v)) 2 (nI v) := ⟨rfl, Or.inr (Or.inr ⟨rfl, v, hv, rfl, Or.inl ⟨Or.inl h1, rfl⟩⟩)⟩
    obtain ⟨u, hu, hub, -, t1, t2, t3, -⟩ := e_thing R ww
    have hu2 : v = u := (ni_eq (by omega) (by omega)).mp hub
    subst hu2
    have cls : ∀ Q, p_X3_slotOf (nI r) j C (fun rz5 Cz4 => ((¬ rz5 = (-1) → vp_in (nI r) 58 ∧ p_X3_isRow ((c_a Cz4 13) r) Cz4 (fun rz9 Cz8 => ((¬ rz9 = 0 → j_X2_writeSlot_58 Q (nI r2) rz5 Cz8) ∧ (rz9 = 0 → p_X2_hasNumber (nI r2) Cz8 (fun rz14 Cz13 => ((¬ rz14 = 0 → j_X2_writeSlot_58 Q (nI r2) rz5 Cz13) ∧ (rz14 = 0 → Q 5 Cz13))))))) ∧ (rz5 = (-1) → Q 3 Cz4))) → p_X2_writeSlot (nI r) j (nI r2) C Q := by
      intro Q hQ
      refine ⟨rin (by omega), ?_⟩
      rw [rcl (by omega)]
      exact ⟨fun q => absurd hx q, fun _ => ⟨fun _ => hQ, fun q => absurd q (by decide)⟩⟩
    rcases slot_cases (j := j) g4 with hj | ⟨i, hi, hj⟩
    · refine a_sameN A0 3 (fun Q hQ => cls Q (f1 hj _ ⟨fun q => absurd rfl q, fun _ => hQ⟩)) (fun Q hQ => ⟨rin (by omega), ?_⟩)
      rw [rcl (by omega)]
      refine ⟨fun q => absurd hs q, fun _ => ⟨fun _ => ⟨rin (by omega), fun u hu => ?_⟩, fun q => absurd q (by decide)⟩⟩
      rw [hb] at hu
      subst hu
      refine ⟨fun _ => hQ, fun q => ⟨(ni_in (by omega)).mpr hv, ?_⟩⟩
      rw [vc, hsl]
      refine ⟨fun z => ?_, fun _ => hQ⟩
      rcases hj with hj | hj
      · exact absurd hj q
      · exact absurd z hj
    · subst hj
      have hat := R.1.at hv (Or.inl h1)
      have g1 := R.1.1
      have R2 := R.put hv h1 hi w2
      have cw : ∀ Q, ((¬ m_a M 0 v = 0 ∨ m_a M 6 r2 = 0) → j_X2_writeSlot_58 Q (nI r2) (nI (ad v + 2 + i)) C) → ((m_a M 0 v = 0 ∧ ¬ m_a M 6 r2 = 0) → Q 5 C) → p_X2_writeSlot (nI r) (nI i) (nI r2) C Q := by
        intro Q h1 h2
        refine cls Q (f2 i hi rfl _ ⟨fun _ => ⟨rin (by omega), ?_⟩, fun q => absurd q (by rw [ni_m1 (by omega)]; exact id)⟩)
        rw [hy]
        refine t3 _ ?_
        by_cases e : m_a M 0 v = 0
        · rw [if_pos e]
          refine ⟨fun q => absurd rfl q, fun _ => ⟨rin (by omega), ?_⟩⟩
          rw [rcl (by omega), w2.1]
          refine ⟨fun q => ⟨fun z => absurd rfl z, fun _ => h2 ⟨e, q⟩⟩, fun q => ⟨fun _ => h1 (Or.inr q), fun z => absurd z (by decide)⟩⟩
        · rw [if_neg e]
          exact ⟨fun _ => h1 (Or.inl e), fun q => absurd q (by decide)⟩
      have rw' : ∀ Q, ((¬ m_a M 0 v = 0 ∨ m_a M 6 r2 = 0) → j_X11_writes_55 Q (nI i) (nI r2) (nI v) M) → ((m_a M 0 v = 0 ∧ ¬ m_a M 6 r2 = 0) → Q 5 M) → p_X11_writes (nI r) (nI i) (nI r2) M Q := by
        intro Q h1 h2
        refine ⟨rin (by omega), ?_⟩
        rw [rcl (by omega)]
        refine ⟨fun q => absurd hs q, fun _ => ⟨fun _ => ⟨rin (by omega), fun u hu => ?_⟩, fun q => absurd q (by decide)⟩⟩
        rw [hb] at hu
        subst hu
        refine ⟨fun q => absurd q (nI_pos (by omega)), fun _ => ⟨(ni_in (by omega)).mpr hv, ?_⟩⟩
        rw [vc, hsl]
        refine ⟨fun _ => ⟨fun q => h1 (Or.inl q), fun e => ⟨rin (by omega), ?_⟩⟩, fun q => absurd ((ni_lt (by omega) (by omega)).mpr hi) q⟩
        rw [rcl (by omega)]
        refine ⟨fun q => ⟨fun z => absurd rfl z, fun _ => h2 ⟨e, q⟩⟩, fun q => ⟨fun _ => h1 (Or.inr q), fun z => absurd z (by decide)⟩⟩
      by_cases e : m_a M 0 v = 0 ∧ ¬ m_a M 6 r2 = 0
      · exact a_sameN A0 5 (fun Q hQ => cw Q (fun q => by rcases q with q | q; exact absurd e.1 q; exact absurd q e.2) (fun _ => hQ)) (fun Q hQ => rw' Q (fun q => by rcases q with q | q; exact absurd e.1 q; exact absurd q e.2) (fun _ => hQ))
      · refine ⟨0, _, _, fun Q hQ => cw Q (fun _ => ⟨rin (by omega), ?_, ?_⟩) (fun q => absurd q e), fun Q hQ => rw' Q (fun _ => ⟨rin (by omega), ?_, ?_⟩) (fun q => absurd q e), ⟨_, _, _, _, _, _, _, _, _, _, k, _, _, _, _, _, R2, k4, k6, kc, km, kb⟩, ((wrC.rf C).u (by decide)).u (by decide), ((wrM.rf M).u (by decide)).u (by decide), by decide⟩
        · rw [R.2.1.1.1]; exact (ni_in (by omega)).mpr (by omega)
        · rw [rcl (by omega)]; exact hQ
        · rw [ni_lm, nI_add]; exact (ni_in (by omega)).mpr (by omega)
        · rw [ni_lm, nI_add, rcl (by omega)]; exact hQ
  · have hx : ¬ c_a C 12 r = 2 := by rw [w.1]; exact hs
    refine a_sameN A0 2 (fun Q hQ => ⟨rin (by omega), ?_⟩) (fun Q hQ => ⟨rin (by omega), ?_⟩)
    · rw [rcl (by omega)]
      exact ⟨fun _ => ⟨fun q => absurd rfl q, fun _ => hQ⟩, fun q => absurd q hx⟩
    · rw [rcl (by omega)]
      exact ⟨fun _ => ⟨fun q => absurd rfl q, fun _ => hQ⟩, fun q => absurd q hs⟩
end ZA3
