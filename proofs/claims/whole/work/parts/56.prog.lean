/-! .. program, as it is called -/
section ZP16
variable {C C1 : cS} {M M1 : mS} {n k j e w t s na nl op i : Nat} {b : Bool} {y z : Int32}
theorem a_program (T : RelT C M) (W : wtM M) (hb : c_spa C ≠ c_cur C) :
    (∃ na C1 M1, (∀ Q, Q (nI na) C1 → p_X10_program C Q) ∧ (∀ Q, Q (nI na) M1 → p_X11_program M Q) ∧ prog C1 M1 (c_cur C1) na ∧ c_cur C1 = c_spa C ∧ c_spa C1 = c_cur C ∧ c_i C1 1 = 1 ∧ c_i C1 2 = 0 ∧ m_i M1 27 = 0 ∧ (∀ k, 16 ≤ k → k ≤ 21 → c_i C1 k = 0) ∧ m_i M1 28 = 0 ∧ c_i C1 0 = 0 ∧ m_i M1 19 = 0 ∧ m_i M1 2 = 0 ∧ pgC (c_spa C) C C1 ∧ pgM M M1) ∨
    (∃ e C1 M1, (∀ Q, Q e C1 → p_X10_program C Q) ∧ (∀ Q, Q e M1 → p_X11_program M Q) ∧ c_cur C1 = c_cur C ∧ c_spa C1 = c_spa C ∧ c_i C1 1 = c_i C 1 ∧ c_i C1 2 = m_i M1 27 ∧ (∀ k, 16 ≤ k → k ≤ 21 → c_i C1 k = c_i C k) ∧ m_i M1 26 = m_i M 26 ∧ m_i M1 28 = m_i M 28 ∧ (∀ k, 22 ≤ k → m_a M1 k = m_a M k) ∧ c_i C1 0 = 0 ∧ m_i M1 19 = 0 ∧ m_i M1 2 = 0 ∧ pgC (c_spa C) C C1 ∧ pgM M M1) := by
  obtain ⟨n, u, h1, h2, h3, h4, h5⟩ := T
  let C0 : cS := c_iS (c_iS (c_pnS (c_iS (c_iS C 0 0) 3 0) (c_spa C) 0) 5 0) 6 (nI n)
  let M0 : mS := m_iS (m_iS (m_iS M 2 0) 22 0) 20 0
  have T0 : TK C0 M0 n u 0 0 := ⟨rfl, rfl, Nat.le_refl _, h1, fun j hj => by omega, rfl, rfl, h3, h4, h5, W⟩
  have cn : c_pn C0 (c_spa C) = 0 := by
    show c_pn (c_iS (c_iS (c_pnS (c_iS (c_iS C 0 0) 3 0) (c_spa C) 0) 5 0) 6 (nI n)) (c_spa C) = 0
    rw [cs_pn_iS, cs_pn_iS, cs_pn_pnS, if_pos rfl]
  rcases a_text (b := c_spa C) T0 cn rfl with ⟨C1, M1, na, f1, f2, f3, f4, f5, f6, f7, f8, f9, f10⟩ | ⟨C1, M1, v, f0, f1, f2, f3, f4, f5, f6⟩
  · left
    obtain ⟨g1, g2, g3, g4, g5, g6, g7⟩ := f1
    obtain ⟨k1, k2, k3⟩ := f2
    let MA : mS := m_iS (m_iS (m_iS M1 19 0) 27 (m_i M1 22)) 26 (m_i M1 24)
    obtain ⟨M2, c1, c2, c3, N, c4⟩ := e_cpy f5 na 0 (M := MA) (by omega) f7 (fun x hx => by omega) (fun x hx => by omega)
    let CF : cS := c_iS (c_iS (c_iS (c_iS (c_iS (c_iS (c_iS (c_curS (c_spaS (c_iS C1 2 0) (c_cur C1)) (c_spa C1)) 1 1) 16 0) 17 0) 18 0) 19 0) 20 0) 21 0
    have cur1 : c_cur C1 = c_cur C := g2
    have spa1 : c_spa C1 = c_spa C := g3
    have cur2 : c_cur CF = c_spa C := spa1
    have m26 : m_i M2 26 = nI na := by
      rw [c1.1]
      show m_i M1 24 = _
      exact f7
    refine ⟨na, CF, m_iS M2 28 0, fun Q hQ => ?_, fun Q hQ => ?_, ⟨f5, ?_, m26, fun i hi => ?_⟩, cur2, cur1, rfl, rfl, ?_, fun k q1 q2 => ?_, rfl, ?_, ?_, ?_, ⟨g1, g4, fun k q1 q2 => ?_, fun k q => ?_, fun d q => ?_⟩, ⟨fun k q1 q2 => ?_, fun k q => ?_, ?_⟩⟩
    · intro v hv2
      rw [h2] at hv2
      subst hv2
      refine f9 _ ⟨fun _ => ?_, fun r => absurd rfl r⟩
      show Q (c_pn CF (c_cur CF)) CF
      rw [cur2]
      have e : c_pn CF (c_spa C) = nI na := f6
      rw [e]
      exact hQ
    · refine f10 Q _ ?_
      refine e_good (M := m_iS (m_iS M1 19 0) 27 (m_i M1 22)) f4 _ ⟨fun _ => ⟨N, c4 _ _ ?_⟩, fun r => absurd r (by decide)⟩
      show Q (m_i M2 26) (m_iS M2 28 0)
      rw [m26]
      exact hQ
    · rw [cur2]; exact f6
    · rw [cur2]
      obtain ⟨op, o1, o2, o3, o4, o5⟩ := f8 i hi
      have l3 := (tk_len op o1).2.2.1
      have r15 : m_a M2 15 = m_a M1 15 := c1.2.1 15 (by omega)
      have r16 : m_a M2 16 = m_a M1 16 := c1.2.1 16 (by omega)
      have r17 : m_a M2 17 = m_a M1 17 := c1.2.1 17 (by omega)
      refine ⟨op, o1, o2, ?_, ?_, fun j hj => ?_⟩
      · show m_a M2 22 i = _
        rw [(c2 i hi).1, r15]; exact o3
      · show _ = m_a M2 23 i
        rw [(c2 i hi).2, r16]; exact o4
      · obtain ⟨b1, b2, b3⟩ := o5 j hj
        refine ⟨?_, b2, b3⟩
        show _ = m_a M2 24 (3 * i + j)
        rw [c3 (3 * i + j) (by omega), r17]
        exact b1
    · show m_i M2 27 = 0
      rw [c1.1]; exact f4
    · have e : k = 16 ∨ k = 17 ∨ k = 18 ∨ k = 19 ∨ k = 20 ∨ k = 21 := by omega
      rcases e with e | e | e | e | e | e <;> subst e <;> rfl
    · show c_i C1 0 = 0
      rw [g5 0 (by omega)]; rfl
    · show m_i M2 19 = 0
      rw [c1.1]; rfl
    · show m_i M2 2 = 0
      rw [c1.1]
      show m_i M1 2 = 0
      rw [k1 2 (by omega)]; rfl
    · show c_i (c_iS (c_iS (c_iS (c_iS (c_iS (c_iS (c_iS (c_curS (c_spaS (c_iS C1 2 0) (c_cur C1)) (c_spa C1)) 1 1) 16 0) 17 0) 18 0) 19 0) 20 0) 21 0) k = _
      rw [cs_i_iS, if_neg (by omega), cs_i_iS, if_neg (by omega), cs_i_iS, if_neg (by omega), cs_i_iS, if_neg (by omega), cs_i_iS, if_neg (by omega), cs_i_iS, if_neg (by omega), cs_i_iS, if_neg (by omega), cs_i_curS, cs_i_spaS, cs_i_iS, if_neg (by omega), g5 k (by omega)]
      show c_i (c_iS (c_iS (c_pnS (c_iS (c_iS C 0 0) 3 0) (c_spa C) 0) 5 0) 6 (nI n)) k = _
      rw [cs_i_iS, if_neg (by omega), cs_i_iS, if_neg (by omega), cs_i_pnS, cs_i_iS, if_neg (by omega), cs_i_iS, if_neg (by omega)]
    · show c_a C1 k = _
      rw [g6 k q]; rfl
    · obtain ⟨d1, d2, d3⟩ := g7 d q
      refine ⟨?_, d2, fun k => d3 k⟩
      show c_pn C1 d = _
      rw [d1]
      show c_pn (c_iS (c_iS (c_pnS (c_iS (c_iS C 0 0) 3 0) (c_spa C) 0) 5 0) 6 (nI n)) d = _
      rw [cs_pn_iS, cs_pn_iS, cs_pn_pnS, if_neg q]; rfl
    · rw [ms_i_iS, if_neg (by omega), c1.1]
      show m_i (m_iS (m_iS (m_iS M1 19 0) 27 (m_i M1 22)) 26 (m_i M1 24)) k = _
      rw [ms_i_iS, if_neg (by omega), ms_i_iS, if_neg (by omega), ms_i_iS, if_neg (by omega), k1 k (by omega)]
      show m_i (m_iS (m_iS (m_iS M 2 0) 22 0) 20 0) k = _
      rw [ms_i_iS, if_neg (by omega), ms_i_iS, if_neg (by omega), ms_i_iS, if_neg (by omega)]
    · show m_a M2 k = _
      rw [c1.2.1 k (by omega)]
      show m_a M1 k = _
      rw [k2 k (by omega)]; rfl
    · show m_l M2 0 = _
      rw [c1.2.2]
      exact k3
  · right
    obtain ⟨g1, g2, g3, g4, g5, g6, g7⟩ := f1
    obtain ⟨k1, k2, k3⟩ := f2
    refine ⟨(-1) - c_i C1 4, c_iS C1 2 v, m_iS (m_iS M1 19 0) 27 (m_i M1 22), fun Q hQ => ?_, fun Q hQ => ?_, g2, g3, ?_, f3.symm, fun k q1 q2 => ?_, ?_, ?_, fun k q => ?_, ?_, rfl, ?_, ⟨g1, g4, fun k q1 q2 => ?_, fun k q => ?_, fun d q => ?_⟩, ⟨fun k q1 q2 => ?_, fun k q => ?_, ?_⟩⟩
    · intro v2 hv2
      rw [h2] at hv2
      subst hv2
      exact f5 _ ⟨fun r => absurd r f0, fun _ => hQ⟩
    · refine f6 Q _ ?_
      refine e_bad (M := m_iS (m_iS M1 19 0) 27 (m_i M1 22)) (by show ¬ m_i M1 22 = 0; rw [f3]; exact f0) _ ⟨fun r => absurd rfl r, fun _ => ?_⟩
      show Q ((-1) - m_i M1 23) _
      rw [← f4]
      exact hQ
    · show c_i C1 1 = _
      rw [g5 1 (by omega)]; rfl
    · rw [cs_i_iS, if_neg (by omega), g5 k (by omega)]
      show c_i (c_iS (c_iS (c_pnS (c_iS (c_iS C 0 0) 3 0) (c_spa C) 0) 5 0) 6 (nI n)) k = _
      rw [cs_i_iS, if_neg (by omega), cs_i_iS, if_neg (by omega), cs_i_pnS, cs_i_iS, if_neg (by omega), cs_i_iS, if_neg (by omega)]
    · show m_i M1 26 = _
      rw [k1 26 (by omega)]; rfl
    · show m_i M1 28 = _
      rw [k1 28 (by omega)]; rfl
    · show m_a M1 k = _
      rw [k2 k (by omega)]; rfl
    · show c_i C1 0 = 0
      rw [g5 0 (by omega)]; rfl
    · show m_i M1 2 = 0
      rw [k1 2 (by omega)]; rfl
    · rw [cs_i_iS, if_neg (by omega), g5 k (by omega)]
      show c_i (c_iS (c_iS (c_pnS (c_iS (c_iS C 0 0) 3 0) (c_spa C) 0) 5 0) 6 (nI n)) k = _
      rw [cs_i_iS, if_neg (by omega), cs_i_iS, if_neg (by omega), cs_i_pnS, cs_i_iS, if_neg (by omega), cs_i_iS, if_neg (by omega)]
    · show c_a C1 k = _
      rw [g6 k q]; rfl
    · obtain ⟨d1, d2, d3⟩ := g7 d q
      refine ⟨?_, d2, fun k => d3 k⟩
      show c_pn C1 d = _
      rw [d1]
      show c_pn (c_iS (c_iS (c_pnS (c_iS (c_iS C 0 0) 3 0) (c_spa C) 0) 5 0) 6 (nI n)) d = _
      rw [cs_pn_iS, cs_pn_iS, cs_pn_pnS, if_neg q]; rfl
    · rw [ms_i_iS, if_neg (by omega), ms_i_iS, if_neg (by omega), k1 k (by omega)]
      show m_i (m_iS (m_iS (m_iS M 2 0) 22 0) 20 0) k = _
      rw [ms_i_iS, if_neg (by omega), ms_i_iS, if_neg (by omega), ms_i_iS, if_neg (by omega)]
    · show m_a M1 k = _
      rw [k2 k (by omega)]; rfl
    · show m_l M1 0 = _
      exact k3
end ZP16
