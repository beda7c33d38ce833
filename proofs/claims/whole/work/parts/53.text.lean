/-! .. an ACT from its first token on; the whole text -/
section ZR13
variable {C C1 : cS} {M M1 : mS} {n k j e w t s na nl op : Nat} {b : Bool} {y z : Int32}
def cK (b : Bool) (Q : Int32 → cS → Prop) (t : Nat) (rz2 : Int32) (Cz1 : cS) : Prop := ((¬ rz2 = 0 → p_X8_kindAt (nI t) Cz1 (fun rz5 Cz4 => ((¬ rz5 = 3 → j_X5_readAct_30 b Q (nI t) 0 Cz4) ∧ (rz5 = 3 → j_X5_readAct_30 b Q (nI t) 1 Cz4)))) ∧ (rz2 = 0 → Q (nI t + 1) Cz1))
theorem rA1 {Q : Int32 → cS → Prop} (h : p_X5_mayBegin (nI t) b C (cK b Q t)) : p_X5_readAct (nI t) b C Q := h
theorem mB1 {P : Int32 → cS → Prop} (h : p_X8_kindAt (nI t) C (fun rz2 Cz1 => ((rz2 = 3 → j_X5_mayBegin_26 b P (nI t) rz2 Cz1) ∧ (¬ rz2 = 3 → ((rz2 = 2 → j_X5_mayBegin_26 b P (nI t) rz2 Cz1) ∧ (¬ rz2 = 2 → p_X5_refuse 2 (nI t) Cz1 (fun rz27 Cz26 => (rz27 = 0 ∨ rz27 = 1) ∧ P rz27 Cz26))))))) : p_X5_mayBegin (nI t) b C P := h
theorem wp29 {Q : Int32 → mS → Prop} {K : mS → Prop} {N : Nat} (h : p_X11_good M (fun rz3 Mz2 => ((rz3 = 0 → K Mz2) ∧ (¬ rz3 = 0 → vp_in (m_i Mz2 21) 2001 ∧ ((((m_a Mz2 11) (m_i Mz2 21).toNatClampNeg) = 0 → K Mz2) ∧ (¬ ((m_a Mz2 11) (m_i Mz2 21).toNatClampNeg) = 0 → p_X11_readAct Mz2 (fun Mz7 => w_X11_program_29 Q K N Mz7))))))) : w_X11_program_29 Q K (N + 1) M := h
theorem a_readAct (R : RD C M b n k t na nl) (ht : t < k) : rdE b C M n k t na (p_X5_readAct (nI t) b C) (p_X11_readAct M) := by
  obtain ⟨T, c3, m22, m21, htk, cn, m24, hna, m25, hA, B⟩ := id R
  have hnl := lb_le B
  obtain ⟨t1, t2, t3, t4, t5, t6, t7⟩ := id T
  obtain ⟨e, E⟩ := T.ex1 (j := t) (by omega)
  obtain ⟨e1, E1⟩ := T.ex1 (j := t + 1) (by omega)
  have p1 : nI t + 1 = nI (t + 1) := nI_1 t
  have p2 : nI t + 2 = nI (t + 2) := ni_al t 2
  have i0 : vp_in (nI t) 2001 := (ni_in (by omega)).mpr (by omega)
  have i1 : vp_in (nI (t + 1)) 2001 := (ni_in (by omega)).mpr (by omega)
  have k3 := E.kd1 3 (by decide)
  have k2 := E.kd1 2 (by decide)
  have s1 : m_a M 11 t = 1 ↔ e = 2 := E.so1 2 (by decide)
  have s3 : m_a M 11 t = 3 ↔ e = 3 := E.so1 3 (by decide)
  have k4 := E1.kd1 4 (by decide)
  have s5 : m_a M 11 (t + 1) = 5 ↔ e1 = 4 := E1.so1 4 (by decide)
  have cl0 : (nI t).toNatClampNeg = t := ni_cl (by omega)
  have cl1 : (nI (t + 1)).toNatClampNeg = t + 1 := ni_cl (by omega)
  have c150 : na < 150 → c_pn C b < 150 := fun h => by rw [cn, ni_ltl (by omega) (by decide)]; exact h
  have n150 : ¬ na < 150 → ¬ c_pn C b < 150 := fun h => by rw [cn, ni_ltl (by omega) (by decide)]; exact h
  have m150 : m_i M 24 = 150 ↔ ¬ na < 150 := by rw [m24, ni_eql (by omega) (by decide)]; show na = 150 ↔ _; omega
  by_cases he2 : e = 2
  · -- an act stands first
    have ne3 : ¬ e = 3 := by omega
    by_cases h150 : na < 150
    · subst he2
      obtain ⟨op, o1, o2, o3⟩ := E.2.2.2.2.2.2.2.1 rfl
      have wC : ∀ Q, j_X5_readAct_112 b Q (nI t) (nI na) (nI op) (nI na) 0 C → p_X5_readAct (nI t) b C Q := by
        intro Q h
        refine rA1 (mB1 (e_kindAt T (by omega) _ ⟨fun r => absurd (k3.mp r) ne3, fun _ => ⟨fun _ => ⟨fun _ => ⟨fun _ => ⟨fun _ => ⟨fun _ => ?_, fun r => absurd r (by decide)⟩, fun r => absurd (c150 h150) r⟩, fun r => absurd rfl r⟩, fun r => absurd (k3.mp r) ne3⟩, fun r => absurd (k2.mpr rfl) r⟩⟩))
        refine e_kindAt T (by omega) _ ⟨fun _ => ⟨fun _ => ⟨fun _ => ?_, fun r => absurd rfl r⟩, fun r => absurd rfl r⟩, fun r => absurd (k3.mp r) ne3⟩
        refine e_stands (w := 2) T (by omega) E (by decide) (fun _ => ⟨fun _ v hv2 => e_valueAt T ht _ ⟨fun _ => ?_, fun r => absurd rfl r⟩, fun r => absurd r (by decide)⟩) (fun r => absurd rfl r)
        subst hv2
        rw [cn, o2]
        exact h
      have wM : ∀ Q, j_X11_readAct_246 Q M → p_X11_readAct M Q := by
        intro Q h
        unfold p_X11_readAct
        rw [m21, cl0]
        refine ⟨i0, fun _ => ?_, fun r => absurd (s3.mp r) ne3⟩
        unfold j_X11_readAct_18
        rw [m21, cl0]
        exact ⟨i0, fun _ => ⟨fun _ => ⟨fun _ => ⟨fun _ => h, fun r => absurd rfl r⟩, fun r => absurd h150 (m150.mp r)⟩, fun r => absurd rfl r⟩, fun r => absurd (s1.mpr rfl) r⟩
      rcases a_112 (lab := 0) T c3 m22 m21 ht (Nat.le_refl t) cn m24 h150 m25 hA (lb_none B) E o1 o3 with ⟨x1, x2, x3, x4, x5, x6, x7, x8, x9, x10⟩ | ⟨x1, x2, x3, x4, x5, x6, x7, x8⟩
      · exact Or.inl ⟨x1, x2, x3, x4, x5, x6, x7, x8, fun Q hQ => wC Q (x9 Q hQ), fun Q hQ => wM Q (x10 Q hQ)⟩
      · exact Or.inr ⟨x1, x2, x3, x4, x5, x6, fun Q hQ => wC Q (x7 Q hQ), fun Q hQ => wM Q (x8 Q hQ)⟩
    · refine Or.inr ⟨nI t + 1, c_iS (c_iS C 3 5) 4 (m_a M 12 t), m_iS (m_iS M 22 5) 23 (m_a M 12 t), ⟨by show ¬ (5 : Int32) = 0; decide, rfl, rfl⟩, ((pfC.rf b C).i (by decide)).i (by decide), ((pfM.rf M).i (by decide)).i (by decide), fun Q hQ => ?_, fun Q hQ => ?_⟩
      · refine rA1 (mB1 (e_kindAt T (by omega) _ ⟨fun r => absurd (k3.mp r) ne3, fun _ => ⟨fun _ => ⟨fun _ => ⟨fun _ => ⟨fun r => absurd r (n150 h150), fun _ => e_refuse T (by omega) E 5 _ ⟨fun _ => ⟨fun r => absurd rfl r, fun _ => hQ⟩, fun r => absurd rfl r⟩⟩, fun r => absurd rfl r⟩, fun r => absurd (k3.mp r) ne3⟩, fun r => absurd (k2.mpr he2) r⟩⟩))
      · unfold p_X11_readAct
        rw [m21, cl0]
        refine ⟨i0, fun _ => ?_, fun r => absurd (s3.mp r) ne3⟩
        unfold j_X11_readAct_18
        rw [m21, cl0]
        refine ⟨i0, fun _ => ⟨fun _ => ⟨fun r => absurd (m150.mpr h150) r, fun _ => ?_⟩, fun r => absurd rfl r⟩, fun r => absurd (s1.mpr he2) r⟩
        rw [m21, cl0]
        exact ⟨i0, e_fails m22 5 _ _ hQ⟩
  by_cases he3 : e = 3
  · have ns1 : ¬ m_a M 11 t = 1 := fun r => he2 (s1.mp r)
    have q := E.2.2.2.2.2.2.2.2 he3
    -- the reference's way to its labels
    have wM : ∀ Q, j_X11_readAct_51 Q 1 M → p_X11_readAct M Q := by
      intro Q h
      unfold p_X11_readAct
      rw [m21, cl0]
      refine ⟨i0, fun r => absurd (s3.mpr he3) r, fun _ => ?_⟩
      unfold j_X11_readAct_18
      rw [m21, cl0]
      exact ⟨i0, fun r => absurd r ns1, fun _ => ⟨fun _ => h, fun r => absurd r (by decide)⟩⟩
    by_cases h4 : e1 = 4
    · have ht1 : t + 1 < k := E1.2.2.2.2.1.mp (by omega)
      have hw5 : ∀ Q, (∀ (P : Int32 → mS → Prop), P = (fun rz32 Mz31 => ((rz32 = (-1) → j_X11_readAct_111 Q 1 Mz31) ∧ (¬ rz32 = (-1) → vp_in (m_i Mz31 21) 2001 ∧ p_X11_fails 3 ((m_a Mz31 12) (m_i Mz31 21).toNatClampNeg) Mz31 (fun Mz35 => Q Mz35)))) → p_X11_labelOf (m_l M 1 t) (m_a M 13 t) M P) → p_X11_readAct M Q := by
        intro Q h
        refine wM Q ⟨fun r => absurd r (by decide), fun _ => ?_⟩
        rw [m21, p1, cl0, cl1]
        exact ⟨i1, fun r => absurd (s5.mpr h4) r, fun _ => ⟨i0, h _ rfl⟩⟩
      have hwC : ∀ Q, p_X4_actLabelled b (c_l C 0 t) C (fun rz13 Cz12 => ((rz13 = (-1) → (((c_pn Cz12 b) < 150 → cK b Q t 1 Cz12) ∧ (¬ (c_pn Cz12 b) < 150 → p_X5_refuse 5 (nI t) Cz12 (fun rz17 Cz16 => ((rz17 = 0 → cK b Q t 0 Cz16) ∧ (¬ rz17 = 0 → cK b Q t 1 Cz16)))))) ∧ (¬ rz13 = (-1) → p_X5_refuse 3 (nI t) Cz12 (fun rz20 Cz19 => (rz20 = 0 ∨ rz20 = 1) ∧ cK b Q t rz20 Cz19)))) → p_X5_readAct (nI t) b C Q := by
        intro Q h
        refine rA1 (mB1 (e_kindAt T (by omega) _ ⟨fun _ => ⟨fun r => absurd (k3.mpr he3) r, fun _ => ?_⟩, fun r => absurd (k3.mpr he3) r⟩))
        rw [p1]
        exact e_kindAt T (by omega) _ ⟨fun r => absurd (k4.mpr h4) r, fun _ => ⟨fun r => absurd r (by decide), fun _ => e_nameAt T ht _ h⟩⟩
      rcases a_lab B cn hna m25 q with ⟨i, a, x1, x2, x3, x4, x5⟩ | ⟨x4, x5⟩
      · have na1 : ∀ a, a < 150 → ¬ nI a = (-1 : Int32) := fun a ha r => by
          have := neg_lt (x := -1) (by decide) a (by omega)
          rw [r] at this
          exact absurd this (Int32.lt_irrefl)
        refine Or.inr ⟨nI t + 1, c_iS (c_iS C 3 3) 4 (m_a M 12 t), m_iS (m_iS M 22 3) 23 (m_a M 12 t), ⟨by show ¬ (3 : Int32) = 0; decide, rfl, rfl⟩, ((pfC.rf b C).i (by decide)).i (by decide), ((pfM.rf M).i (by decide)).i (by decide), fun Q hQ => hwC Q (x4 _ ⟨fun r => absurd r (na1 a (by omega)), fun _ => e_refuse T (by omega) E 3 _ ⟨Or.inl rfl, fun r => absurd rfl r, fun _ => hQ⟩⟩), fun Q hQ => hw5 Q fun P hP => ?_⟩
        subst hP
        refine x5 _ ⟨fun r => absurd r (na1 i (by omega)), fun _ => ?_⟩
        rw [m21, cl0]
        exact ⟨i0, e_fails m22 3 _ _ hQ⟩
      by_cases h150 : na < 150
      · -- a label, then its act
        let ML : mS := m_iS (m_aU (m_aU (m_lU (m_iS (m_iS M 21 (nI (t + 1))) 21 (nI (t + 2))) 3 (nI nl) (m_l M 1 t)) 20 (nI nl) (m_a M 13 t)) 21 (nI nl) (nI na)) 25 (nI (nl + 1))
        have TL : TT C ML n k := ⟨t1, t2, t3, t4, fun j hj => (t5 j hj).rw ⟨rfl, rfl, rfl, rfl⟩ ⟨rfl, rfl, rfl, rfl, rfl⟩, t6, t7⟩
        have fL : pfM M ML := ((((((pfM.rf M).i (by decide)).i (by decide)).l (by decide)).u (by decide)).u (by decide)).i (by decide)
        have hAL : ∀ i, i < na → act1 C ML b k i := fun i hi => (hA i hi).fr rfl rfl rfl (fun _ _ => rfl) rfl rfl rfl rfl rfl (fun _ _ => ⟨rfl, rfl, rfl, rfl⟩)
        have BL : lbR (vp_updL (c_pl C b) na (c_l C 0 t)) (m_l ML 3) (m_a ML 20) (m_a ML 21) (na + 1) (nl + 1) := by
          have h := lb_some B q
          have cl : (nI nl).toNatClampNeg = nl := ni_cl (by omega)
          show lbR _ (vp_updL (m_l M 3) (nI nl).toNatClampNeg (m_l M 1 t)) (upd (m_a M 20) (nI nl).toNatClampNeg (m_a M 13 t)) (upd (m_a M 21) (nI nl).toNatClampNeg (nI na)) (na + 1) (nl + 1)
          rw [cl]
          exact h
        have vC : ∀ Q, j_X5_readAct_59 b Q (nI t) 1 (nI (t + 2)) C → p_X5_readAct (nI t) b C Q := by
          intro Q h
          refine hwC Q (x4 _ ⟨fun _ => ⟨fun _ => ⟨fun _ => e_kindAt T (by omega) _ ⟨fun r => absurd (k3.mpr he3) r, fun _ => ⟨fun r => absurd r (by decide), fun _ => ⟨fun r => absurd r (by decide), fun _ => ?_⟩⟩⟩, fun r => absurd r (by decide)⟩, fun r => absurd (c150 h150) r⟩, fun r => absurd rfl r⟩)
          rw [p1, p2]
          exact e_stands (w := 4) T (by omega) E1 (by decide) (fun _ => ⟨fun r => absurd r (by decide), fun _ => h⟩) (fun r => absurd h4 r)
        have vM : ∀ Q, j_X11_readAct_246 Q ML → p_X11_readAct M Q := by
          intro Q h
          refine hw5 Q fun P hP => ?_
          subst hP
          refine x5 _ ⟨fun _ => ⟨fun _ => ⟨fun r => absurd r (by decide), fun _ v hv2 => ?_⟩, fun r => absurd h150 (m150.mp r)⟩, fun r => absurd rfl r⟩
          subst hv2
          rw [m21, m24, m25, p1, cl0, cl1, nI_1, nI_1]
          exact ⟨i1, fun _ => ⟨i0, (ni_in (by omega)).mpr (by omega), h⟩, fun r => absurd (s5.mpr h4) r⟩
        obtain ⟨e2, E2⟩ := TL.ex1 (j := t + 2) (by omega)
        by_cases g2 : e2 = 2
        · subst g2
          obtain ⟨op, o1, o2, o3⟩ := E2.2.2.2.2.2.2.2.1 rfl
          have ht2 : t + 2 < k := E2.2.2.2.2.1.mp (by omega)
          have vC2 : ∀ Q, j_X5_readAct_112 b Q (nI (t + 2)) (nI na) (nI op) (nI na) (c_l C 0 t) C → p_X5_readAct (nI t) b C Q := by
            intro Q h
            refine vC Q (e_stands (w := 2) TL (by omega) E2 (by decide) (fun _ => ⟨fun _ v hv2 => e_valueAt TL ht2 _ ⟨fun r => absurd r (by decide), fun _ => e_nameAt T ht _ ?_⟩, fun r => absurd r (by decide)⟩) (fun r => absurd rfl r))
            subst hv2
            rw [cn, o2]
            exact h
          rcases a_112 (t := t) (lab := c_l C 0 t) TL c3 m22 rfl ht2 (by omega) cn m24 h150 rfl hAL BL E2 o1 o3 with ⟨y1, y2, y3, y4, y5, y6, y7, y8, y9, y10⟩ | ⟨y1, y2, y3, y4, y5, y6, y7, y8⟩
          · exact Or.inl ⟨y1, y2, y3, y4, y5, y6, y7, fL.tr y8, fun Q hQ => vC2 Q (y9 Q hQ), fun Q hQ => vM Q (y10 Q hQ)⟩
          · exact Or.inr ⟨y1, y2, y3, y4, y5, fL.tr y6, fun Q hQ => vC2 Q (y7 Q hQ), fun Q hQ => vM Q (y8 Q hQ)⟩
        · refine Or.inr ⟨nI t + 1, c_iS (c_iS C 3 2) 4 (m_a ML 12 (t + 2)), m_iS (m_iS ML 22 2) 23 (m_a ML 12 (t + 2)), ⟨two_ne, rfl, rfl⟩, ((pfC.rf b C).i (by decide)).i (by decide), (fL.i (by decide)).i (by decide), fun Q hQ => vC Q (e_stands (w := 2) TL (by omega) E2 (by decide) (fun r => absurd r g2) (fun _ => ⟨fun r => absurd rfl r, fun _ => hQ⟩)), fun Q hQ => vM Q ?_⟩
          have l21 : m_i ML 21 = nI (t + 2) := rfl
          unfold j_X11_readAct_246
          rw [l21, ni_cl (a := t + 2) (by omega)]
          exact ⟨(ni_in (by omega)).mpr (by omega), fun r => absurd ((E2.so1 2 (by decide)).mp r) g2, fun _ => e_fails (M := ML) m22 2 _ _ hQ⟩
      · refine Or.inr ⟨nI t + 1, c_iS (c_iS C 3 5) 4 (m_a M 12 t), m_iS (m_iS M 22 5) 23 (m_a M 12 t), ⟨by show ¬ (5 : Int32) = 0; decide, rfl, rfl⟩, ((pfC.rf b C).i (by decide)).i (by decide), ((pfM.rf M).i (by decide)).i (by decide), fun Q hQ => hwC Q (x4 _ ⟨fun _ => ⟨fun r => absurd r (n150 h150), fun _ => e_refuse T (by omega) E 5 _ ⟨fun _ => ⟨fun r => absurd rfl r, fun _ => hQ⟩, fun r => absurd rfl r⟩⟩, fun r => absurd rfl r⟩), fun Q hQ => hw5 Q fun P hP => ?_⟩
        subst hP
        refine x5 _ ⟨fun _ => ⟨fun r => absurd (m150.mpr h150) r, fun _ => ?_⟩, fun r => absurd rfl r⟩
        rw [m21, cl0]
        exact ⟨i0, e_fails m22 5 _ _ hQ⟩
    · have ns5 : ¬ m_a M 11 (t + 1) = 5 := fun r => h4 (s5.mp r)
      have hwM : ∀ Q, j_X11_readAct_111 Q 1 M → p_X11_readAct M Q := by
        intro Q h
        refine wM Q ⟨fun r => absurd r (by decide), fun _ => ?_⟩
        rw [m21, p1, cl1]
        exact ⟨i1, fun _ => h, fun r => absurd r ns5⟩
      by_cases h150 : na < 150
      · refine Or.inr ⟨nI t + 1, c_iS (c_iS C 3 2) 4 (m_a M 12 (t + 1)), m_iS (m_iS (m_iS M 21 (nI (t + 1))) 22 2) 23 (m_a M 12 (t + 1)), ⟨two_ne, rfl, rfl⟩, ((pfC.rf b C).i (by decide)).i (by decide), (((pfM.rf M).i (by decide)).i (by decide)).i (by decide), fun Q hQ => ?_, fun Q hQ => hwM Q ⟨fun _ => ⟨fun r => absurd r (by decide), fun _ v hv2 => ?_⟩, fun r => absurd h150 (m150.mp r)⟩⟩
        · refine rA1 (mB1 (e_kindAt T (by omega) _ ⟨fun _ => ⟨fun r => absurd (k3.mpr he3) r, fun _ => ?_⟩, fun r => absurd (k3.mpr he3) r⟩))
          have kn : p_X8_kindAt (nI (t + 1)) C (fun rz23 Cz22 => ((¬ rz23 = 4 → j_X5_mayBegin_49 b (cK b Q t) (nI t) Cz22) ∧ (rz23 = 4 → j_X5_mayBegin_50 b (cK b Q t) (nI t) 1 Cz22))) := by
            refine e_kindAt T (by omega) _ ⟨fun _ => ⟨fun _ => ⟨fun _ => ⟨fun _ => ?_, fun r => absurd r (by decide)⟩, fun r => absurd (c150 h150) r⟩, fun r => absurd rfl r⟩, fun r => absurd (k4.mp r) h4⟩
            refine e_kindAt T (by omega) _ ⟨fun r => absurd (k3.mpr he3) r, fun _ => ⟨fun r => absurd r (by decide), fun _ => ⟨fun r => absurd r (by decide), fun _ => ?_⟩⟩⟩
            have st : p_X5_stands (nI (t + 1)) 4 C (fun rz26 Cz25 => ((rz26 = 0 → Q (nI t + 1) Cz25) ∧ (¬ rz26 = 0 → j_X5_readAct_59 b Q (nI t) 1 (nI t + 2) Cz25))) :=
              e_stands (w := 4) T (by omega) E1 (by decide) (fun r => absurd r h4) (fun _ => ⟨fun _ => hQ, fun r => absurd rfl r⟩)
            rw [← p1] at st
            exact st
          rw [← p1] at kn
          exact kn
        · subst hv2
          rw [m21, p1, cl1]
          exact ⟨i1, fun r => absurd r ns5, fun _ => e_fails (M := m_iS M 21 (nI (t + 1))) m22 2 _ _ hQ⟩
      · refine Or.inr ⟨nI t + 1, c_iS (c_iS C 3 5) 4 (m_a M 12 t), m_iS (m_iS M 22 5) 23 (m_a M 12 t), ⟨by show ¬ (5 : Int32) = 0; decide, rfl, rfl⟩, ((pfC.rf b C).i (by decide)).i (by decide), ((pfM.rf M).i (by decide)).i (by decide), fun Q hQ => ?_, fun Q hQ => hwM Q ⟨fun r => absurd (m150.mpr h150) r, fun _ => ?_⟩⟩
        · refine rA1 (mB1 (e_kindAt T (by omega) _ ⟨fun _ => ⟨fun r => absurd (k3.mpr he3) r, fun _ => ?_⟩, fun r => absurd (k3.mpr he3) r⟩))
          rw [p1]
          exact e_kindAt T (by omega) _ ⟨fun _ => ⟨fun _ => ⟨fun r => absurd r (n150 h150), fun _ => e_refuse T (by omega) E 5 _ ⟨fun _ => ⟨fun r => absurd rfl r, fun _ => hQ⟩, fun r => absurd rfl r⟩⟩, fun r => absurd rfl r⟩, fun r => absurd (k4.mp r) h4⟩
        · rw [m21, cl0]
          exact ⟨i0, e_fails m22 5 _ _ hQ⟩
  · refine Or.inr ⟨nI t + 1, c_iS (c_iS C 3 2) 4 (m_a M 12 t), m_iS (m_iS M 22 2) 23 (m_a M 12 t), ⟨two_ne, rfl, rfl⟩, ((pfC.rf b C).i (by decide)).i (by decide), ((pfM.rf M).i (by decide)).i (by decide), fun Q hQ => rA1 (mB1 (e_kindAt T (by omega) _ ⟨fun r => absurd (k3.mp r) he3, fun _ => ⟨fun r => absurd (k2.mp r) he2, fun _ => e_refuse T (by omega) E 2 _ ⟨Or.inl rfl, fun r => absurd rfl r, fun _ => hQ⟩⟩⟩)), fun Q hQ => ?_⟩
    unfold p_X11_readAct
    rw [m21, cl0]
    refine ⟨i0, fun _ => ?_, fun r => absurd (s3.mp r) he3⟩
    unfold j_X11_readAct_18
    rw [m21, cl0]
    exact ⟨i0, fun r => absurd (s1.mp r) he2, fun _ => ⟨fun r => absurd rfl r, fun _ => e_fails m22 2 _ _ hQ⟩⟩
/-- all acts from token t on -/
theorem a_acts : ∀ (d : Nat) {C : cS} {M : mS} {t na nl : Nat}, k - t ≤ d → RD C M b n k t na nl →
    (∃ C1 M1 na1 nl1, RD C1 M1 b n k k na1 nl1 ∧ pfC b C C1 ∧ pfM M M1 ∧ (∃ N, ∀ Q K, K C1 → w_X5_readText_38 b Q K N (nI t) C) ∧ (∃ N, ∀ Q K, K M1 → w_X11_program_29 Q K N M)) ∨
    (∃ C1 M1, flt C1 M1 ∧ pfC b C C1 ∧ pfM M M1 ∧ (∃ N, ∀ Q K, K C1 → w_X5_readText_38 b Q K N (nI t) C) ∧ (∃ N, ∀ Q K, K M1 → w_X11_program_29 Q K N M)) := by
  have fin : ∀ {C : cS} {M : mS} {na nl : Nat}, RD C M b n k k na nl → (∃ C1 M1 na1 nl1, RD C1 M1 b n k k na1 nl1 ∧ pfC b C C1 ∧ pfM M M1 ∧ (∃ N, ∀ Q K, K C1 → w_X5_readText_38 b Q K N (nI k) C) ∧ (∃ N, ∀ Q K, K M1 → w_X11_program_29 Q K N M)) := by
    intro C M na nl R
    obtain ⟨T, c3, m22, m21, htk, -⟩ := id R
    obtain ⟨t1, t2, t3, t4, t5, t6, t7⟩ := T
    refine ⟨C, M, na, nl, R, pfC.rf b C, pfM.rf M, ⟨1, fun Q K hK => ⟨fun _ => hK, fun r => absurd (by rw [t1, ni_le (by omega) (by omega)]; omega) r⟩⟩, ⟨1, fun Q K hK => wp29 (e_good m22 _ ⟨fun r => absurd r (by decide), fun _ => ?_⟩)⟩⟩
    rw [m21, ni_cl (by omega)]
    exact ⟨(ni_in (by omega)).mpr (by omega), fun _ => hK, fun r => absurd t6 r⟩
  intro d
  induction d with
  | zero =>
    intro C M t na nl hd R
    have htk := R.2.2.2.2.1
    have e : t = k := by omega
    subst e
    exact Or.inl (fin R)
  | succ d ih =>
    intro C M t na nl hd R
    obtain ⟨T, c3, m22, m21, htk, -⟩ := id R
    by_cases e : t = k
    · subst e
      exact Or.inl (fin R)
    have ht : t < k := by omega
    have TT' := T
    obtain ⟨t1, t2, t3, t4, t5, t6, t7⟩ := T
    have g1 : ¬ c_i C 5 ≤ nI t := by rw [t1, ni_le (by omega) (by omega)]; omega
    obtain ⟨e0, E⟩ := TT'.ex1 (j := t) (by omega)
    have s0 : ¬ m_a M 11 t = 0 := fun r => by
      have := (E.so1 6 (by decide)).mp r
      have := E.2.2.2.2.1.mpr ht
      omega
    have wM : ∀ (N : Nat) Q K, p_X11_readAct M (fun M => w_X11_program_29 Q K N M) → w_X11_program_29 Q K (N + 1) M := by
      intro N Q K h
      refine wp29 (e_good m22 _ ⟨fun r => absurd r (by decide), fun _ => ?_⟩)
      rw [m21, ni_cl (by omega)]
      exact ⟨(ni_in (by omega)).mpr (by omega), fun r => absurd r s0, fun _ => h⟩
    rcases a_readAct R ht with ⟨x1, x2, C1, M1, x3, x4, x5, x6, x7, x8⟩ | ⟨x1, C1, M1, x2, x3, x4, x5, x6⟩
    · have hx : x1 ≤ k := x4.2.2.2.2.1
      have hv3 : (if nI t + 1 < nI x1 then nI x1 else nI t + 1) = nI x1 := by
        rw [nI_1]
        by_cases q : t + 1 < x1
        · rw [if_pos (by rw [ni_lt (by omega) (by omega)]; exact q)]
        · rw [if_neg (by rw [ni_lt (by omega) (by omega)]; exact q)]
          congr 1
          omega
      rcases ih (by omega) x4 with ⟨C2, M2, n1, n2, y1, y2, y3, ⟨N1, y4⟩, ⟨N2, y5⟩⟩ | ⟨C2, M2, y1, y2, y3, ⟨N1, y4⟩, ⟨N2, y5⟩⟩
      · refine Or.inl ⟨C2, M2, n1, n2, y1, x5.tr y2, x6.tr y3, ⟨N1 + 1, fun Q K hK => ⟨fun r => absurd r g1, fun _ => ⟨fun r => absurd c3 r, fun _ => x7 _ fun v hv2 => ?_⟩⟩⟩, ⟨N2 + 1, fun Q K hK => wM N2 Q K (x8 _ (y5 Q K hK))⟩⟩
        rw [hv3] at hv2
        subst hv2
        exact y4 Q K hK
      · refine Or.inr ⟨C2, M2, y1, x5.tr y2, x6.tr y3, ⟨N1 + 1, fun Q K hK => ⟨fun r => absurd r g1, fun _ => ⟨fun r => absurd c3 r, fun _ => x7 _ fun v hv2 => ?_⟩⟩⟩, ⟨N2 + 1, fun Q K hK => wM N2 Q K (x8 _ (y5 Q K hK))⟩⟩
        rw [hv3] at hv2
        subst hv2
        exact y4 Q K hK
    · refine Or.inr ⟨C1, M1, x2, x3, x4, ⟨2, fun Q K hK => ⟨fun r => absurd r g1, fun _ => ⟨fun r => absurd c3 r, fun _ => x5 _ fun v _ => ⟨fun _ => hK, fun _ => ⟨fun _ => hK, fun r => absurd r x2.1⟩⟩⟩⟩⟩, ⟨2, fun Q K hK => wM 1 Q K (x6 _ (wp29 (e_bad (by rw [← x2.2.1]; exact x2.1) _ ⟨fun _ => hK, fun r => absurd rfl r⟩)))⟩⟩
end ZR13
