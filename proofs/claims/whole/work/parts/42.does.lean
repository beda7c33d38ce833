/-! ACTS by their numbers: perform and does -/
section ZD
variable {C : cS} {M : mS} {k r r2 r3 : Nat} {x y z x' y' z' : Int32}
theorem rk_13 (h1 : r2 < 8) (h2 : r3 < 8) (e2 : c_a C 13 r2 = m_a M 7 r2) (e3 : c_a C 13 r3 = m_a M 7 r3) : ∀ Q, Q ((m_a M 7 r2) + (m_a M 7 r3)) C → p_X2_reckon 13 (nI r2) (nI r3) C Q := by
  intro Q hQ
  have c2 : c_a C 13 (nI r2).toNatClampNeg = m_a M 7 r2 := by rw [rcl (by omega)]; exact e2
  have c3 : c_a C 13 (nI r3).toNatClampNeg = m_a M 7 r3 := by rw [rcl (by omega)]; exact e3
  exact ⟨by decide, (ni_in (by decide)).mpr (by decide), fun w hw => by
      have hw : w = 14 := hw.trans (by decide +kernel)
      subst hw
      exact ⟨fun _ => ⟨rin (by omega), by rw [c2]; exact ⟨rin (by omega), by rw [c3]; exact hQ⟩⟩, fun q => absurd (by decide) q⟩⟩
theorem op_13 (A : RelA C M) (h0 : r < 8) (h1 : r2 < 8) (h2 : r3 < 8) : aEqN C M (p_X2_perform 13 (nI r) (nI r2) (nI r3) C) (p_X11_does 13 (nI r) (nI r2) (nI r3) M) := by
  obtain ⟨e1, e2⟩ := e_num A h1
  obtain ⟨f1, f2⟩ := e_num A h2
  have c2 : (nI r2).toNatClampNeg = r2 := rcl (by omega)
  have c3 : (nI r3).toNatClampNeg = r3 := rcl (by omega)
  have top : ∀ Q, p_X2_hasNumber (nI r2) C (fun a C1 => ((a = 0 → Q 1 C1) ∧ (¬ a = 0 → p_X2_hasNumber (nI r3) C1 (fun b C2 => ((b = 0 → Q 1 C2) ∧ (¬ b = 0 → p_X2_reckon 13 (nI r2) (nI r3) C2 (fun v C3 => p_X2_give (nI r) 0 v C3 Q))))))) → p_X2_perform 13 (nI r) (nI r2) (nI r3) C Q := by
    intro Q hQ
    exact ⟨by decide, (ni_in (by decide)).mpr (by decide), fun w hw => by
    have hw : w = 14 := hw.trans (by decide +kernel)
    subst hw
    exact ⟨fun q => absurd q (by decide), fun _ => ⟨fun q => absurd q (by decide), fun _ => ⟨fun q => absurd q (by decide), fun _ => ⟨fun q => absurd q (by decide), fun _ => ⟨fun q => absurd q (by decide), fun _ => ⟨fun q => absurd q (by decide), fun _ => ⟨fun q => absurd q (by decide), fun _ => ⟨fun q => absurd q (by decide), fun _ => ⟨fun q => absurd q (by decide), fun _ => ⟨fun q => absurd q (by decide), fun _ => ⟨fun q => absurd q (by decide), fun _ => ⟨fun q => absurd q (by decide), fun _ => ⟨fun q => absurd q (by decide), fun _ => ⟨fun _ => hQ, fun q => absurd (by decide) q⟩⟩⟩⟩⟩⟩⟩⟩⟩⟩⟩⟩⟩⟩⟩
  have bot : ∀ Q, p_X11_reckons 13 (nI r) (nI r2) (nI r3) M Q → p_X11_does 13 (nI r) (nI r2) (nI r3) M Q := by
    intro Q hQ
    exact ⟨fun q => absurd q (by decide), fun _ => ⟨fun q => absurd q (by decide), fun _ => ⟨fun q => absurd q (by decide), fun _ => ⟨fun q => absurd q (by decide), fun _ => ⟨fun q => absurd q (by decide), fun _ => ⟨fun q => absurd q (by decide), fun _ => ⟨fun q => absurd q (by decide), fun _ => ⟨fun q => absurd q (by decide), fun _ => ⟨fun q => absurd q (by decide), fun _ => ⟨fun q => absurd q (by decide), fun _ => ⟨fun q => absurd q (by decide), fun _ => ⟨fun q => absurd q (by decide), fun _ => ⟨fun q => absurd q (by decide), fun _ => ⟨fun q => absurd q (by decide), fun _ => hQ⟩⟩⟩⟩⟩⟩⟩⟩⟩⟩⟩⟩⟩⟩
  by_cases q2 : m_a M 6 r2 = 0
  · by_cases q3 : m_a M 6 r3 = 0
    · refine (a_set A h0 ((m_a M 7 r2) + (m_a M 7 r3))).mp (fun Q hQ => top Q ⟨rin (by omega), ?_⟩) (fun Q hQ => bot Q ⟨rin (by omega), ?_⟩)
      · rw [c2, e1]
        refine ⟨fun z => absurd q2 z, fun _ => ⟨fun z => absurd z (by decide), fun _ => ⟨rin (by omega), ?_⟩⟩⟩
        rw [c3, f1]
        refine ⟨fun z => absurd q3 z, fun _ => ⟨fun z => absurd z (by decide), fun _ => ?_⟩⟩
        exact rk_13 (M := M) h1 h2 (e2 q2) (f2 q3) _ hQ
      · rw [c2]
        refine ⟨fun z => absurd q2 z, fun _ => ⟨fun z => absurd z (by decide), fun _ => ⟨rin (by omega), ?_⟩⟩⟩
        rw [c3]
        refine ⟨fun z => absurd q3 z, fun _ => ⟨fun _ => ⟨rin (by omega), fun u hu => ⟨rin (by omega), fun w hw => ?_⟩⟩, fun z => absurd z (by decide)⟩⟩
        subst hu hw
        exact ⟨fun q => absurd rfl q, fun _ => hQ⟩
    · refine a_sameN A 1 (fun Q hQ => top Q ⟨rin (by omega), ?_⟩) (fun Q hQ => bot Q ⟨rin (by omega), ?_⟩)
      · rw [c2, e1]
        refine ⟨fun z => absurd q2 z, fun _ => ⟨fun z => absurd z (by decide), fun _ => ⟨rin (by omega), ?_⟩⟩⟩
        rw [c3, f1]
        exact ⟨fun _ => ⟨fun _ => hQ, fun z => absurd rfl z⟩, fun z => absurd z q3⟩
      · rw [c2]
        refine ⟨fun z => absurd q2 z, fun _ => ⟨fun z => absurd z (by decide), fun _ => ⟨rin (by omega), ?_⟩⟩⟩
        rw [c3]
        exact ⟨fun _ => ⟨fun z => absurd rfl z, fun _ => hQ⟩, fun z => absurd z q3⟩
  · refine a_sameN A 1 (fun Q hQ => top Q ⟨rin (by omega), ?_⟩) (fun Q hQ => bot Q ⟨rin (by omega), ?_⟩)
    · rw [c2, e1]
      exact ⟨fun _ => ⟨fun _ => hQ, fun z => absurd rfl z⟩, fun z => absurd z q2⟩
    · rw [c2]
      exact ⟨fun _ => ⟨fun _ => hQ, fun z => absurd rfl z⟩, fun z => absurd z q2⟩
theorem rk_14 (h1 : r2 < 8) (h2 : r3 < 8) (e2 : c_a C 13 r2 = m_a M 7 r2) (e3 : c_a C 13 r3 = m_a M 7 r3) : ∀ Q, Q ((m_a M 7 r2) - (m_a M 7 r3)) C → p_X2_reckon 14 (nI r2) (nI r3) C Q := by
  intro Q hQ
  have c2 : c_a C 13 (nI r2).toNatClampNeg = m_a M 7 r2 := by rw [rcl (by omega)]; exact e2
  have c3 : c_a C 13 (nI r3).toNatClampNeg = m_a M 7 r3 := by rw [rcl (by omega)]; exact e3
  exact ⟨by decide, (ni_in (by decide)).mpr (by decide), fun w hw => by
      have hw : w = 15 := hw.trans (by decide +kernel)
      subst hw
      exact ⟨fun q => absurd q (by decide), fun _ => ⟨fun _ => ⟨rin (by omega), by rw [c2]; exact ⟨rin (by omega), by rw [c3]; exact hQ⟩⟩, fun q => absurd (by decide) q⟩⟩⟩
theorem op_14 (A : RelA C M) (h0 : r < 8) (h1 : r2 < 8) (h2 : r3 < 8) : aEqN C M (p_X2_perform 14 (nI r) (nI r2) (nI r3) C) (p_X11_does 14 (nI r) (nI r2) (nI r3) M) := by
  obtain ⟨e1, e2⟩ := e_num A h1
  obtain ⟨f1, f2⟩ := e_num A h2
  have c2 : (nI r2).toNatClampNeg = r2 := rcl (by omega)
  have c3 : (nI r3).toNatClampNeg = r3 := rcl (by omega)
  have top : ∀ Q, p_X2_hasNumber (nI r2) C (fun a C1 => ((a = 0 → Q 1 C1) ∧ (¬ a = 0 → p_X2_hasNumber (nI r3) C1 (fun b C2 => ((b = 0 → Q 1 C2) ∧ (¬ b = 0 → p_X2_reckon 14 (nI r2) (nI r3) C2 (fun v C3 => p_X2_give (nI r) 0 v C3 Q))))))) → p_X2_perform 14 (nI r) (nI r2) (nI r3) C Q := by
    intro Q hQ
    exact ⟨by decide, (ni_in (by decide)).mpr (by decide), fun w hw => by
    have hw : w = 15 := hw.trans (by decide +kernel)
    subst hw
    exact ⟨fun q => absurd q (by decide), fun _ => ⟨fun q => absurd q (by decide), fun _ => ⟨fun q => absurd q (by decide), fun _ => ⟨fun q => absurd q (by decide), fun _ => ⟨fun q => absurd q (by decide), fun _ => ⟨fun q => absurd q (by decide), fun _ => ⟨fun q => absurd q (by decide), fun _ => ⟨fun q => absurd q (by decide), fun _ => ⟨fun q => absurd q (by decide), fun _ => ⟨fun q => absurd q (by decide), fun _ => ⟨fun q => absurd q (by decide), fun _ => ⟨fun q => absurd q (by decide), fun _ => ⟨fun q => absurd q (by decide), fun _ => ⟨fun _ => hQ, fun q => absurd (by decide) q⟩⟩⟩⟩⟩⟩⟩⟩⟩⟩⟩⟩⟩⟩⟩
  have bot : ∀ Q, p_X11_reckons 14 (nI r) (nI r2) (nI r3) M Q → p_X11_does 14 (nI r) (nI r2) (nI r3) M Q := by
    intro Q hQ
    exact ⟨fun q => absurd q (by decide), fun _ => ⟨fun q => absurd q (by decide), fun _ => ⟨fun q => absurd q (by decide), fun _ => ⟨fun q => absurd q (by decide), fun _ => ⟨fun q => absurd q (by decide), fun _ => ⟨fun q => absurd q (by decide), fun _ => ⟨fun q => absurd q (by decide), fun _ => ⟨fun q => absurd q (by decide), fun _ => ⟨fun q => absurd q (by decide), fun _ => ⟨fun q => absurd q (by decide), fun _ => ⟨fun q => absurd q (by decide), fun _ => ⟨fun q => absurd q (by decide), fun _ => ⟨fun q => absurd q (by decide), fun _ => ⟨fun q => absurd q (by decide), fun _ => hQ⟩⟩⟩⟩⟩⟩⟩⟩⟩⟩⟩⟩⟩⟩
  by_cases q2 : m_a M 6 r2 = 0
  · by_cases q3 : m_a M 6 r3 = 0
    · refine (a_set A h0 ((m_a M 7 r2) - (m_a M 7 r3))).mp (fun Q hQ => top Q ⟨rin (by omega), ?_⟩) (fun Q hQ => bot Q ⟨rin (by omega), ?_⟩)
      · rw [c2, e1]
        refine ⟨fun z => absurd q2 z, fun _ => ⟨fun z => absurd z (by decide), fun _ => ⟨rin (by omega), ?_⟩⟩⟩
        rw [c3, f1]
        refine ⟨fun z => absurd q3 z, fun _ => ⟨fun z => absurd z (by decide), fun _ => ?_⟩⟩
        exact rk_14 (M := M) h1 h2 (e2 q2) (f2 q3) _ hQ
      · rw [c2]
        refine ⟨fun z => absurd q2 z, fun _ => ⟨fun z => absurd z (by decide), fun _ => ⟨rin (by omega), ?_⟩⟩⟩
        rw [c3]
        refine ⟨fun z => absurd q3 z, fun _ => ⟨fun _ => ⟨rin (by omega), fun u hu => ⟨rin (by omega), fun w hw => ?_⟩⟩, fun z => absurd z (by decide)⟩⟩
        subst hu hw
        exact ⟨fun _ => ⟨fun q => absurd rfl q, fun _ => hQ⟩, fun q => absurd q (by decide)⟩
    · refine a_sameN A 1 (fun Q hQ => top Q ⟨rin (by omega), ?_⟩) (fun Q hQ => bot Q ⟨rin (by omega), ?_⟩)
      · rw [c2, e1]
        refine ⟨fun z => absurd q2 z, fun _ => ⟨fun z => absurd z (by decide), fun _ => ⟨rin (by omega), ?_⟩⟩⟩
        rw [c3, f1]
        exact ⟨fun _ => ⟨fun _ => hQ, fun z => absurd rfl z⟩, fun z => absurd z q3⟩
      · rw [c2]
        refine ⟨fun z => absurd q2 z, fun _ => ⟨fun z => absurd z (by decide), fun _ => ⟨rin (by omega), ?_⟩⟩⟩
        rw [c3]
        exact ⟨fun _ => ⟨fun z => absurd rfl z, fun _ => hQ⟩, fun z => absurd z q3⟩
  · refine a_sameN A 1 (fun Q hQ => top Q ⟨rin (by omega), ?_⟩) (fun Q hQ => bot Q ⟨rin (by omega), ?_⟩)
    · rw [c2, e1]
      exact ⟨fun _ => ⟨fun _ => hQ, fun z => absurd rfl z⟩, fun z => absurd z q2⟩
    · rw [c2]
      exact ⟨fun _ => ⟨fun _ => hQ, fun z => absurd rfl z⟩, fun z => absurd z q2⟩
theorem rk_15 (h1 : r2 < 8) (h2 : r3 < 8) (e2 : c_a C 13 r2 = m_a M 7 r2) (e3 : c_a C 13 r3 = m_a M 7 r3) : ∀ Q, Q ((m_a M 7 r2) * (m_a M 7 r3)) C → p_X2_reckon 15 (nI r2) (nI r3) C Q := by
  intro Q hQ
  have c2 : c_a C 13 (nI r2).toNatClampNeg = m_a M 7 r2 := by rw [rcl (by omega)]; exact e2
  have c3 : c_a C 13 (nI r3).toNatClampNeg = m_a M 7 r3 := by rw [rcl (by omega)]; exact e3
  exact ⟨by decide, (ni_in (by decide)).mpr (by decide), fun w hw => by
      have hw : w = 16 := hw.trans (by decide +kernel)
      subst hw
      exact ⟨fun q => absurd q (by decide), fun _ => ⟨fun q => absurd q (by decide), fun _ => ⟨fun _ => ⟨rin (by omega), by rw [c2]; exact ⟨rin (by omega), by rw [c3]; exact hQ⟩⟩, fun q => absurd (by decide) q⟩⟩⟩⟩
theorem op_15 (A : RelA C M) (h0 : r < 8) (h1 : r2 < 8) (h2 : r3 < 8) : aEqN C M (p_X2_perform 15 (nI r) (nI r2) (nI r3) C) (p_X11_does 15 (nI r) (nI r2) (nI r3) M) := by
  obtain ⟨e1, e2⟩ := e_num A h1
  obtain ⟨f1, f2⟩ := e_num A h2
  have c2 : (nI r2).toNatClampNeg = r2 := rcl (by omega)
  have c3 : (nI r3).toNatClampNeg = r3 := rcl (by omega)
  have top : ∀ Q, p_X2_hasNumber (nI r2) C (fun a C1 => ((a = 0 → Q 1 C1) ∧ (¬ a = 0 → p_X2_hasNumber (nI r3) C1 (fun b C2 => ((b = 0 → Q 1 C2) ∧ (¬ b = 0 → p_X2_reckon 15 (nI r2) (nI r3) C2 (fun v C3 => p_X2_give (nI r) 0 v C3 Q))))))) → p_X2_perform 15 (nI r) (nI r2) (nI r3) C Q := by
    intro Q hQ
    exact ⟨by decide, (ni_in (by decide)).mpr (by decide), fun w hw => by
    have hw : w = 16 := hw.trans (by decide +kernel)
    subst hw
    exact ⟨fun q => absurd q (by decide), fun _ => ⟨fun q => absurd q (by decide), fun _ => ⟨fun q => absurd q (by decide), fun _ => ⟨fun q => absurd q (by decide), fun _ => ⟨fun q => absurd q (by decide), fun _ => ⟨fun q => absurd q (by decide), fun _ => ⟨fun q => absurd q (by decide), fun _ => ⟨fun q => absurd q (by decide), fun _ => ⟨fun q => absurd q (by decide), fun _ => ⟨fun q => absurd q (by decide), fun _ => ⟨fun q => absurd q (by decide), fun _ => ⟨fun q => absurd q (by decide), fun _ => ⟨fun q => absurd q (by decide), fun _ => ⟨fun _ => hQ, fun q => absurd (by decide) q⟩⟩⟩⟩⟩⟩⟩⟩⟩⟩⟩⟩⟩⟩⟩
  have bot : ∀ Q, p_X11_reckons 15 (nI r) (nI r2) (nI r3) M Q → p_X11_does 15 (nI r) (nI r2) (nI r3) M Q := by
    intro Q hQ
    exact ⟨fun q => absurd q (by decide), fun _ => ⟨fun q => absurd q (by decide), fun _ => ⟨fun q => absurd q (by decide), fun _ => ⟨fun q => absurd q (by decide), fun _ => ⟨fun q => absurd q (by decide), fun _ => ⟨fun q => absurd q (by decide), fun _ => ⟨fun q => absurd q (by decide), fun _ => ⟨fun q => absurd q (by decide), fun _ => ⟨fun q => absurd q (by decide), fun _ => ⟨fun q => absurd q (by decide), fun _ => ⟨fun q => absurd q (by decide), fun _ => ⟨fun q => absurd q (by decide), fun _ => ⟨fun q => absurd q (by decide), fun _ => ⟨fun q => absurd q (by decide), fun _ => hQ⟩⟩⟩⟩⟩⟩⟩⟩⟩⟩⟩⟩⟩⟩
  by_cases q2 : m_a M 6 r2 = 0
  · by_cases q3 : m_a M 6 r3 = 0
    · refine (a_set A h0 ((m_a M 7 r2) * (m_a M 7 r3))).mp (fun Q hQ => top Q ⟨rin (by omega), ?_⟩) (fun Q hQ => bot Q ⟨rin (by omega), ?_⟩)
      · rw [c2, e1]
        refine ⟨fun z => absurd q2 z, fun _ => ⟨fun z => absurd z (by decide), fun _ => ⟨rin (by omega), ?_⟩⟩⟩
        rw [c3, f1]
        refine ⟨fun z => absurd q3 z, fun _ => ⟨fun z => absurd z (by decide), fun _ => ?_⟩⟩
        exact rk_15 (M := M) h1 h2 (e2 q2) (f2 q3) _ hQ
      · rw [c2]
        refine ⟨fun z => absurd q2 z, fun _ => ⟨fun z => absurd z (by decide), fun _ => ⟨rin (by omega), ?_⟩⟩⟩
        rw [c3]
        refine ⟨fun z => absurd q3 z, fun _ => ⟨fun _ => ⟨rin (by omega), fun u hu => ⟨rin (by omega), fun w hw => ?_⟩⟩, fun z => absurd z (by decide)⟩⟩
        subst hu hw
        exact ⟨fun _ => ⟨fun _ => ⟨fun q => absurd rfl q, fun _ => hQ⟩, fun q => absurd q (by decide)⟩, fun q => absurd q (by decide)⟩
    · refine a_sameN A 1 (fun Q hQ => top Q ⟨rin (by omega), ?_⟩) (fun Q hQ => bot Q ⟨rin (by omega), ?_⟩)
      · rw [c2, e1]
        refine ⟨fun z => absurd q2 z, fun _ => ⟨fun z => absurd z (by decide), fun _ => ⟨rin (by omega), ?_⟩⟩⟩
        rw [c3, f1]
        exact ⟨fun _ => ⟨fun _ => hQ, fun z => absurd rfl z⟩, fun z => absurd z q3⟩
      · rw [c2]
        refine ⟨fun z => absurd q2 z, fun _ => ⟨fun z => absurd z (by decide), fun _ => ⟨rin (by omega), ?_⟩⟩⟩
        rw [c3]
        exact ⟨fun _ => ⟨fun z => absurd rfl z, fun _ => hQ⟩, fun z => absurd z q3⟩
  · refine a_sameN A 1 (fun Q hQ => top Q ⟨rin (by omega), ?_⟩) (fun Q hQ => bot Q ⟨rin (by omega), ?_⟩)
    · rw [c2, e1]
      exact ⟨fun _ => ⟨fun _ => hQ, fun z => absurd rfl z⟩, fun z => absurd z q2⟩
    · rw [c2]
      exact ⟨fun _ => ⟨fun _ => hQ, fun z => absurd rfl z⟩, fun z => absurd z q2⟩
theorem rk_16 (h1 : r2 < 8) (h2 : r3 < 8) (e2 : c_a C 13 r2 = m_a M 7 r2) (e3 : c_a C 13 r3 = m_a M 7 r3) : ∀ Q, Q (if (m_a M 7 r3) ≤ (m_a M 7 r2) then 0 else 1) C → p_X2_reckon 16 (nI r2) (nI r3) C Q := by
  intro Q hQ
  have c2 : c_a C 13 (nI r2).toNatClampNeg = m_a M 7 r2 := by rw [rcl (by omega)]; exact e2
  have c3 : c_a C 13 (nI r3).toNatClampNeg = m_a M 7 r3 := by rw [rcl (by omega)]; exact e3
  refine ⟨by decide, (ni_in (by decide)).mpr (by decide), fun w hw => ?_⟩
  have hw : w = 17 := hw.trans (by decide +kernel)
  subst hw
  refine ⟨fun q => absurd q (by decide), fun _ => ⟨fun q => absurd q (by decide), fun _ => ⟨fun q => absurd q (by decide), fun _ => ?_⟩⟩⟩
  refine ⟨rin (by omega), ?_⟩
  rw [c2]
  refine ⟨rin (by omega), ?_⟩
  rw [c3]
  by_cases q : m_a M 7 r3 ≤ m_a M 7 r2
  · rw [if_pos q] at hQ; exact ⟨fun _ => hQ, fun z => absurd q z⟩
  · rw [if_neg q] at hQ; exact ⟨fun z => absurd z q, fun _ => hQ⟩
theorem op_16 (A : RelA C M) (h0 : r < 8) (h1 : r2 < 8) (h2 : r3 < 8) : aEqN C M (p_X2_perform 16 (nI r) (nI r2) (nI r3) C) (p_X11_does 16 (nI r) (nI r2) (nI r3) M) := by
  obtain ⟨e1, e2⟩ := e_num A h1
  obtain ⟨f1, f2⟩ := e_num A h2
  have c2 : (nI r2).toNatClampNeg = r2 := rcl (by omega)
  have c3 : (nI r3).toNatClampNeg = r3 := rcl (by omega)
  have top : ∀ Q, p_X2_hasNumber (nI r2) C (fun a C1 => ((a = 0 → Q 1 C1) ∧ (¬ a = 0 → p_X2_hasNumber (nI r3) C1 (fun b C2 => ((b = 0 → Q 1 C2) ∧ (¬ b = 0 → p_X2_reckon 16 (nI r2) (nI r3) C2 (fun v C3 => p_X2_give (nI r) 0 v C3 Q))))))) → p_X2_perform 16 (nI r) (nI r2) (nI r3) C Q := by
    intro Q hQ
    exact ⟨by decide, (ni_in (by decide)).mpr (by decide), fun w hw => by
    have hw : w = 17 := hw.trans (by decide +kernel)
    subst hw
    exact ⟨fun q => absurd q (by decide), fun _ => ⟨fun q => absurd q (by decide), fun _ => ⟨fun q => absurd q (by decide), fun _ => ⟨fun q => absurd q (by decide), fun _ => ⟨fun q => absurd q (by decide), fun _ => ⟨fun q => absurd q (by decide), fun _ => ⟨fun q => absurd q (by decide), fun _ => ⟨fun q => absurd q (by decide), fun _ => ⟨fun q => absurd q (by decide), fun _ => ⟨fun q => absurd q (by decide), fun _ => ⟨fun q => absurd q (by decide), fun _ => ⟨fun q => absurd q (by decide), fun _ => ⟨fun q => absurd q (by decide), fun _ => ⟨fun _ => hQ, fun q => absurd (by decide) q⟩⟩⟩⟩⟩⟩⟩⟩⟩⟩⟩⟩⟩⟩⟩
  have bot : ∀ Q, p_X11_reckons 16 (nI r) (nI r2) (nI r3) M Q → p_X11_does 16 (nI r) (nI r2) (nI r3) M Q := by
    intro Q hQ
    exact ⟨fun q => absurd q (by decide), fun _ => ⟨fun q => absurd q (by decide), fun _ => ⟨fun q => absurd q (by decide), fun _ => ⟨fun q => absurd q (by decide), fun _ => ⟨fun q => absurd q (by decide), fun _ => ⟨fun q => absurd q (by decide), fun _ => ⟨fun q => absurd q (by decide), fun _ => ⟨fun q => absurd q (by decide), fun _ => ⟨fun q => absurd q (by decide), fun _ => ⟨fun q => absurd q (by decide), fun _ => ⟨fun q => absurd q (by decide), fun _ => ⟨fun q => absurd q (by decide), fun _ => ⟨fun q => absurd q (by decide), fun _ => ⟨fun q => absurd q (by decide), fun _ => hQ⟩⟩⟩⟩⟩⟩⟩⟩⟩⟩⟩⟩⟩⟩
  by_cases q2 : m_a M 6 r2 = 0
  · by_cases q3 : m_a M 6 r3 = 0
    · refine (a_set A h0 (if (m_a M 7 r3) ≤ (m_a M 7 r2) then 0 else 1)).mp (fun Q hQ => top Q ⟨rin (by omega), ?_⟩) (fun Q hQ => bot Q ⟨rin (by omega), ?_⟩)
      · rw [c2, e1]
        refine ⟨fun z => absurd q2 z, fun _ => ⟨fun z => absurd z (by decide), fun _ => ⟨rin (by omega), ?_⟩⟩⟩
        rw [c3, f1]
        refine ⟨fun z => absurd q3 z, fun _ => ⟨fun z => absurd z (by decide), fun _ => ?_⟩⟩
        exact rk_16 (M := M) h1 h2 (e2 q2) (f2 q3) _ hQ
      · rw [c2]
        refine ⟨fun z => absurd q2 z, fun _ => ⟨fun z => absurd z (by decide), fun _ => ⟨rin (by omega), ?_⟩⟩⟩
        rw [c3]
        refine ⟨fun z => absurd q3 z, fun _ => ⟨fun _ => ⟨rin (by omega), fun u hu => ⟨rin (by omega), fun w hw => ?_⟩⟩, fun z => absurd z (by decide)⟩⟩
        subst hu hw
        exact ⟨fun _ => ⟨fun _ => ⟨fun _ => (by
    by_cases q : m_a M 7 r3 ≤ m_a M 7 r2
    · rw [if_pos q] at hQ; exact ⟨fun _ => hQ, fun z => absurd q z⟩
    · rw [if_neg q] at hQ; exact ⟨fun z => absurd z q, fun _ => hQ⟩), fun q => absurd q (by decide)⟩, fun q => absurd q (by decide)⟩, fun q => absurd q (by decide)⟩
    · refine a_sameN A 1 (fun Q hQ => top Q ⟨rin (by omega), ?_⟩) (fun Q hQ => bot Q ⟨rin (by omega), ?_⟩)
      · rw [c2, e1]
        refine ⟨fun z => absurd q2 z, fun _ => ⟨fun z => absurd z (by decide), fun _ => ⟨rin (by omega), ?_⟩⟩⟩
        rw [c3, f1]
        exact ⟨fun _ => ⟨fun _ => hQ, fun z => absurd rfl z⟩, fun z => absurd z q3⟩
      · rw [c2]
        refine ⟨fun z => absurd q2 z, fun _ => ⟨fun z => absurd z (by decide), fun _ => ⟨rin (by omega), ?_⟩⟩⟩
        rw [c3]
        exact ⟨fun _ => ⟨fun z => absurd rfl z, fun _ => hQ⟩, fun z => absurd z q3⟩
  · refine a_sameN A 1 (fun Q hQ => top Q ⟨rin (by omega), ?_⟩) (fun Q hQ => bot Q ⟨rin (by omega), ?_⟩)
    · rw [c2, e1]
      exact ⟨fun _ => ⟨fun _ => hQ, fun z => absurd rfl z⟩, fun z => absurd z q2⟩
    · rw [c2]
      exact ⟨fun _ => ⟨fun _ => hQ, fun z => absurd rfl z⟩, fun z => absurd z q2⟩
theorem op_0 (A : RelA C M) (h0 : r < 8) : aEqN C M (p_X2_perform 0 (nI r) y z C) (p_X11_does 0 (nI r) y z' M) := by
  refine (a_set A h0 y).mp (fun Q hQ => ?_) (fun Q hQ => ?_)
  · exact ⟨by decide, (ni_in (by decide)).mpr (by decide), fun w hw => by
    have hw : w = 1 := hw.trans (by decide +kernel)
    subst hw
    exact ⟨fun _ => hQ, fun q => absurd (by decide) q⟩⟩
  · exact ⟨fun _ => hQ, fun q => absurd (by decide) q⟩
theorem op_1 (A : RelA C M) (h0 : r < 8) (h1 : r2 < 8) : aEqN C M (p_X2_perform 1 (nI r) (nI r2) z C) (p_X11_does 1 (nI r) (nI r2) z' M) := by
  refine (a_copy A h0 h1).mp (fun Q hQ => ?_) (fun Q hQ => ?_)
  · exact ⟨by decide, (ni_in (by decide)).mpr (by decide), fun w hw => by
    have hw : w = 2 := hw.trans (by decide +kernel)
    subst hw
    exact ⟨fun q => absurd q (by decide), fun _ => ⟨fun _ => hQ, fun q => absurd (by decide) q⟩⟩⟩
  · exact ⟨fun q => absurd q (by decide), fun _ => ⟨fun _ => hQ, fun q => absurd (by decide) q⟩⟩
theorem op_2 (A : RelA C M) (h0 : r < 8) : aEqN C M (p_X2_perform 2 (nI r) y z C) (p_X11_does 2 (nI r) y' z' M) := by
  refine (a_none A h0).mp (fun Q hQ => ?_) (fun Q hQ => ?_)
  · exact ⟨by decide, (ni_in (by decide)).mpr (by decide), fun w hw => by
    have hw : w = 3 := hw.trans (by decide +kernel)
    subst hw
    exact ⟨fun q => absurd q (by decide), fun _ => ⟨fun q => absurd q (by decide), fun _ => ⟨fun _ => hQ, fun q => absurd (by decide) q⟩⟩⟩⟩
  · exact ⟨fun q => absurd q (by decide), fun _ => ⟨fun q => absurd q (by decide), fun _ => ⟨fun _ => hQ, fun q => absurd (by decide) q⟩⟩⟩
theorem op_3 (A : RelA C M) (h0 : r < 8) : aEqN C M (p_X2_perform 3 (nI r) y z C) (p_X11_does 3 (nI r) y z' M) := by
  refine (a_make A h0 (Or.inl ⟨rfl, rfl⟩) y).mp (fun Q hQ => ?_) (fun Q hQ => ?_)
  · exact ⟨by decide, (ni_in (by decide)).mpr (by decide), fun w hw => by
    have hw : w = 4 := hw.trans (by decide +kernel)
    subst hw
    exact ⟨fun q => absurd q (by decide), fun _ => ⟨fun q => absurd q (by decide), fun _ => ⟨fun q => absurd q (by decide), fun _ => ⟨fun _ => hQ, fun q => absurd (by decide) q⟩⟩⟩⟩⟩
  · exact ⟨fun q => absurd q (by decide), fun _ => ⟨fun q => absurd q (by decide), fun _ => ⟨fun q => absurd q (by decide), fun _ => ⟨fun _ => ⟨fun q => absurd rfl q, fun _ => hQ⟩, fun q => absurd (by decide) q⟩⟩⟩⟩
theorem op_4 (A : RelA C M) (h0 : r < 8) : aEqN C M (p_X2_perform 4 (nI r) y z C) (p_X11_does 4 (nI r) y z' M) := by
  refine (a_make A h0 (Or.inr ⟨rfl, rfl⟩) y).mp (fun Q hQ => ?_) (fun Q hQ => ?_)
  · exact ⟨by decide, (ni_in (by decide)).mpr (by decide), fun w hw => by
    have hw : w = 5 := hw.trans (by decide +kernel)
    subst hw
    exact ⟨fun q => absurd q (by decide), fun _ => ⟨fun q => absurd q (by decide), fun _ => ⟨fun q => absurd q (by decide), fun _ => ⟨fun q => absurd q (by decide), fun _ => ⟨fun _ => hQ, fun q => absurd (by decide) q⟩⟩⟩⟩⟩⟩
  · exact ⟨fun q => absurd q (by decide), fun _ => ⟨fun q => absurd q (by decide), fun _ => ⟨fun q => absurd q (by decide), fun _ => ⟨fun _ => ⟨fun _ => hQ, fun q => absurd q (by decide)⟩, fun q => absurd (by decide) q⟩⟩⟩⟩
theorem op_5 (A : RelA C M) (h0 : r < 8) (h1 : r2 < 8) : aEqN C M (p_X2_perform 5 (nI r) (nI r2) z C) (p_X11_does 5 (nI r) (nI r2) z' M) := by
  refine ((a_hasNum (pc := fun w Cw Q => p_X2_makeThing (nI r) w 3 Cw Q) (pm := fun w Mw Q => ((¬ (5 : Int32) = 5 → p_X11_makes (nI r) w 0 Mw Q) ∧ ((5 : Int32) = 5 → p_X11_makes (nI r) w 1 Mw Q))) A h1 (fun w => (a_make A h0 (Or.inl ⟨rfl, rfl⟩) w).mp (fun Q h9 => h9) (fun Q h9 => ⟨fun q => absurd rfl q, fun _ => h9⟩)))).mp (fun Q hQ => ?_) (fun Q hQ => ?_)
  · exact ⟨by decide, (ni_in (by decide)).mpr (by decide), fun w hw => by
    have hw : w = 6 := hw.trans (by decide +kernel)
    subst hw
    exact ⟨fun q => absurd q (by decide), fun _ => ⟨fun q => absurd q (by decide), fun _ => ⟨fun q => absurd q (by decide), fun _ => ⟨fun q => absurd q (by decide), fun _ => ⟨fun q => absurd q (by decide), fun _ => ⟨fun _ => hQ, fun q => absurd (by decide) q⟩⟩⟩⟩⟩⟩⟩
  · exact ⟨fun q => absurd q (by decide), fun _ => ⟨fun q => absurd q (by decide), fun _ => ⟨fun q => absurd q (by decide), fun _ => ⟨fun q => absurd q (by decide), fun _ => ⟨fun _ => hQ, fun q => absurd (by decide) q⟩⟩⟩⟩⟩
theorem op_6 (A : RelA C M) (h0 : r < 8) (h1 : r2 < 8) : aEqN C M (p_X2_perform 6 (nI r) (nI r2) z C) (p_X11_does 6 (nI r) (nI r2) z' M) := by
  refine ((a_hasNum (pc := fun w Cw Q => p_X2_makeThing (nI r) w 4 Cw Q) (pm := fun w Mw Q => ((¬ (6 : Int32) = 5 → p_X11_makes (nI r) w 0 Mw Q) ∧ ((6 : Int32) = 5 → p_X11_makes (nI r) w 1 Mw Q))) A h1 (fun w => (a_make A h0 (Or.inr ⟨rfl, rfl⟩) w).mp (fun Q h9 => h9) (fun Q h9 => ⟨fun _ => h9, fun q => absurd q (by decide)⟩)))).mp (fun Q hQ => ?_) (fun Q hQ => ?_)
  · exact ⟨by decide, (ni_in (by decide)).mpr (by decide), fun w hw => by
    have hw : w = 7 := hw.trans (by decide +kernel)
    subst hw
    exact ⟨fun q => absurd q (by decide), fun _ => ⟨fun q => absurd q (by decide), fun _ => ⟨fun q => absurd q (by decide), fun _ => ⟨fun q => absurd q (by decide), fun _ => ⟨fun q => absurd q (by decide), fun _ => ⟨fun q => absurd q (by decide), fun _ => ⟨fun _ => hQ, fun q => absurd (by decide) q⟩⟩⟩⟩⟩⟩⟩⟩
  · exact ⟨fun q => absurd q (by decide), fun _ => ⟨fun q => absurd q (by decide), fun _ => ⟨fun q => absurd q (by decide), fun _ => ⟨fun q => absurd q (by decide), fun _ => ⟨fun _ => hQ, fun q => absurd (by decide) q⟩⟩⟩⟩⟩
theorem op_7 (A : RelA C M) (h0 : r < 8) (h1 : r2 < 8) : aEqN C M (p_X2_perform 7 (nI r) (nI r2) z C) (p_X11_does 7 (nI r) (nI r2) z M) := by
  refine (a_get A h0 h1 z).mp (fun Q hQ => ?_) (fun Q hQ => ?_)
  · exact ⟨by decide, (ni_in (by decide)).mpr (by decide), fun w hw => by
    have hw : w = 8 := hw.trans (by decide +kernel)
    subst hw
    exact ⟨fun q => absurd q (by decide), fun _ => ⟨fun q => absurd q (by decide), fun _ => ⟨fun q => absurd q (by decide), fun _ => ⟨fun q => absurd q (by decide), fun _ => ⟨fun q => absurd q (by decide), fun _ => ⟨fun q => absurd q (by decide), fun _ => ⟨fun q => absurd q (by decide), fun _ => ⟨fun _ => hQ, fun q => absurd (by decide) q⟩⟩⟩⟩⟩⟩⟩⟩⟩
  · exact ⟨fun q => absurd q (by decide), fun _ => ⟨fun q => absurd q (by decide), fun _ => ⟨fun q => absurd q (by decide), fun _ => ⟨fun q => absurd q (by decide), fun _ => ⟨fun q => absurd q (by decide), fun _ => ⟨fun _ => hQ, fun q => absurd (by decide) q⟩⟩⟩⟩⟩⟩
theorem op_8 (A : RelA C M) (h0 : r < 8) (h1 : r2 < 8) (h2 : r3 < 8) : aEqN C M (p_X2_perform 8 (nI r) (nI r2) (nI r3) C) (p_X11_does 8 (nI r) (nI r2) (nI r3) M) := by
  refine (a_hasNum (pc := fun w Cw Q => p_X2_readSlot (nI r) (nI r2) w Cw Q) (pm := fun w Mw Q => p_X11_reads (nI r) (nI r2) w Mw Q) A h2 (fun w => a_get A h0 h1 w)).mp (fun Q hQ => ?_) (fun Q hQ => ?_)
  · exact ⟨by decide, (ni_in (by decide)).mpr (by decide), fun w hw => by
    have hw : w = 9 := hw.trans (by decide +kernel)
    subst hw
    exact ⟨fun q => absurd q (by decide), fun _ => ⟨fun q => absurd q (by decide), fun _ => ⟨fun q => absurd q (by decide), fun _ => ⟨fun q => absurd q (by decide), fun _ => ⟨fun q => absurd q (by decide), fun _ => ⟨fun q => absurd q (by decide), fun _ => ⟨fun q => absurd q (by decide), fun _ => ⟨fun q => absurd q (by decide), fun _ => ⟨fun _ => hQ, fun q => absurd (by decide) q⟩⟩⟩⟩⟩⟩⟩⟩⟩⟩
  · exact ⟨fun q => absurd q (by decide), fun _ => ⟨fun q => absurd q (by decide), fun _ => ⟨fun q => absurd q (by decide), fun _ => ⟨fun q => absurd q (by decide), fun _ => ⟨fun q => absurd q (by decide), fun _ => ⟨fun q => absurd q (by decide), fun _ => ⟨fun _ => hQ, fun q => absurd (by decide) q⟩⟩⟩⟩⟩⟩⟩
theorem op_9 (A : RelA C M) (h0 : r < 8) (h2 : r3 < 8) : aEqN C M (p_X2_perform 9 (nI r) y (nI r3) C) (p_X11_does 9 (nI r) y (nI r3) M) := by
  refine (a_put A h0 h2 y).mp (fun Q hQ => ?_) (fun Q hQ => ?_)
  · exact ⟨by decide, (ni_in (by decide)).mpr (by decide), fun w hw => by
    have hw : w = 10 := hw.trans (by decide +kernel)
    subst hw
    exact ⟨fun q => absurd q (by decide), fun _ => ⟨fun q => absurd q (by decide), fun _ => ⟨fun q => absurd q (by decide), fun _ => ⟨fun q => absurd q (by decide), fun _ => ⟨fun q => absurd q (by decide), fun _ => ⟨fun q => absurd q (by decide), fun _ => ⟨fun q => absurd q (by decide), fun _ => ⟨fun q => absurd q (by decide), fun _ => ⟨fun q => absurd q (by decide), fun _ => ⟨fun _ => hQ, fun q => absurd (by decide) q⟩⟩⟩⟩⟩⟩⟩⟩⟩⟩⟩
  · exact ⟨fun q => absurd q (by decide), fun _ => ⟨fun q => absurd q (by decide), fun _ => ⟨fun q => absurd q (by decide), fun _ => ⟨fun q => absurd q (by decide), fun _ => ⟨fun q => absurd q (by decide), fun _ => ⟨fun q => absurd q (by decide), fun _ => ⟨fun q => absurd q (by decide), fun _ => ⟨fun _ => hQ, fun q => absurd (by decide) q⟩⟩⟩⟩⟩⟩⟩⟩
theorem op_10 (A : RelA C M) (h0 : r < 8) (h1 : r2 < 8) (h2 : r3 < 8) : aEqN C M (p_X2_perform 10 (nI r) (nI r2) (nI r3) C) (p_X11_does 10 (nI r) (nI r2) (nI r3) M) := by
  refine (a_hasNum (pc := fun w Cw Q => p_X2_writeSlot (nI r) w (nI r3) Cw Q) (pm := fun w Mw Q => p_X11_writes (nI r) w (nI r3) Mw Q) A h1 (fun w => a_put A h0 h2 w)).mp (fun Q hQ => ?_) (fun Q hQ => ?_)
  · exact ⟨by decide, (ni_in (by decide)).mpr (by decide), fun w hw => by
    have hw : w = 11 := hw.trans (by decide +kernel)
    subst hw
    exact ⟨fun q => absurd q (by decide), fun _ => ⟨fun q => absurd q (by decide), fun _ => ⟨fun q => absurd q (by decide), fun _ => ⟨fun q => absurd q (by decide), fun _ => ⟨fun q => absurd q (by decide), fun _ => ⟨fun q => absurd q (by decide), fun _ => ⟨fun q => absurd q (by decide), fun _ => ⟨fun q => absurd q (by decide), fun _ => ⟨fun q => absurd q (by decide), fun _ => ⟨fun q => absurd q (by decide), fun _ => ⟨fun _ => hQ, fun q => absurd (by decide) q⟩⟩⟩⟩⟩⟩⟩⟩⟩⟩⟩⟩
  · exact ⟨fun q => absurd q (by decide), fun _ => ⟨fun q => absurd q (by decide), fun _ => ⟨fun q => absurd q (by decide), fun _ => ⟨fun q => absurd q (by decide), fun _ => ⟨fun q => absurd q (by decide), fun _ => ⟨fun q => absurd q (by decide), fun _ => ⟨fun q => absurd q (by decide), fun _ => ⟨fun q => absurd q (by decide), fun _ => ⟨fun _ => hQ, fun q => absurd (by decide) q⟩⟩⟩⟩⟩⟩⟩⟩⟩
theorem op_11 (A : RelA C M) (h0 : r < 8) (h1 : r2 < 8) : aEqN C M (p_X2_perform 11 (nI r) (nI r2) z C) (p_X11_does 11 (nI r) (nI r2) z' M) := by
  refine (a_size A h0 h1).mp (fun Q hQ => ?_) (fun Q hQ => ?_)
  · exact ⟨by decide, (ni_in (by decide)).mpr (by decide), fun w hw => by
    have hw : w = 12 := hw.trans (by decide +kernel)
    subst hw
    exact ⟨fun q => absurd q (by decide), fun _ => ⟨fun q => absurd q (by decide), fun _ => ⟨fun q => absurd q (by decide), fun _ => ⟨fun q => absurd q (by decide), fun _ => ⟨fun q => absurd q (by decide), fun _ => ⟨fun q => absurd q (by decide), fun _ => ⟨fun q => absurd q (by decide), fun _ => ⟨fun q => absurd q (by decide), fun _ => ⟨fun q => absurd q (by decide), fun _ => ⟨fun q => absurd q (by decide), fun _ => ⟨fun q => absurd q (by decide), fun _ => ⟨fun _ => hQ, fun q => absurd (by decide) q⟩⟩⟩⟩⟩⟩⟩⟩⟩⟩⟩⟩⟩
  · exact ⟨fun q => absurd q (by decide), fun _ => ⟨fun q => absurd q (by decide), fun _ => ⟨fun q => absurd q (by decide), fun _ => ⟨fun q => absurd q (by decide), fun _ => ⟨fun q => absurd q (by decide), fun _ => ⟨fun q => absurd q (by decide), fun _ => ⟨fun q => absurd q (by decide), fun _ => ⟨fun q => absurd q (by decide), fun _ => ⟨fun q => absurd q (by decide), fun _ => ⟨fun _ => hQ, fun q => absurd (by decide) q⟩⟩⟩⟩⟩⟩⟩⟩⟩⟩
theorem op_12 (A : RelA C M) (h0 : r < 8) (h1 : r2 < 8) : aEqN C M (p_X2_perform 12 (nI r) (nI r2) z C) (p_X11_does 12 (nI r) (nI r2) z' M) := by
  refine (a_kind A h0 h1).mp (fun Q hQ => ?_) (fun Q hQ => ?_)
  · exact ⟨by decide, (ni_in (by decide)).mpr (by decide), fun w hw => by
    have hw : w = 13 := hw.trans (by decide +kernel)
    subst hw
    exact ⟨fun q => absurd q (by decide), fun _ => ⟨fun q => absurd q (by decide), fun _ => ⟨fun q => absurd q (by decide), fun _ => ⟨fun q => absurd q (by decide), fun _ => ⟨fun q => absurd q (by decide), fun _ => ⟨fun q => absurd q (by decide), fun _ => ⟨fun q => absurd q (by decide), fun _ => ⟨fun q => absurd q (by decide), fun _ => ⟨fun q => absurd q (by decide), fun _ => ⟨fun q => absurd q (by decide), fun _ => ⟨fun q => absurd q (by decide), fun _ => ⟨fun q => absurd q (by decide), fun _ => ⟨fun _ => hQ, fun q => absurd (by decide) q⟩⟩⟩⟩⟩⟩⟩⟩⟩⟩⟩⟩⟩⟩
  · exact ⟨fun q => absurd q (by decide), fun _ => ⟨fun q => absurd q (by decide), fun _ => ⟨fun q => absurd q (by decide), fun _ => ⟨fun q => absurd q (by decide), fun _ => ⟨fun q => absurd q (by decide), fun _ => ⟨fun q => absurd q (by decide), fun _ => ⟨fun q => absurd q (by decide), fun _ => ⟨fun q => absurd q (by decide), fun _ => ⟨fun q => absurd q (by decide), fun _ => ⟨fun q => absurd q (by decide), fun _ => ⟨fun _ => hQ, fun q => absurd (by decide) q⟩⟩⟩⟩⟩⟩⟩⟩⟩⟩⟩
theorem op_17 (A : RelA C M) (h0 : r < 8) (h1 : r2 < 8) (h2 : r3 < 8) : aEqN C M (p_X2_perform 17 (nI r) (nI r2) (nI r3) C) (p_X11_does 17 (nI r) (nI r2) (nI r3) M) := by
  refine (a_same17 A h0 h1 h2).mp (fun Q hQ => ?_) (fun Q hQ => ?_)
  · exact ⟨by decide, (ni_in (by decide)).mpr (by decide), fun w hw => by
    have hw : w = 18 := hw.trans (by decide +kernel)
    subst hw
    exact ⟨fun q => absurd q (by decide), fun _ => ⟨fun q => absurd q (by decide), fun _ => ⟨fun q => absurd q (by decide), fun _ => ⟨fun q => absurd q (by decide), fun _ => ⟨fun q => absurd q (by decide), fun _ => ⟨fun q => absurd q (by decide), fun _ => ⟨fun q => absurd q (by decide), fun _ => ⟨fun q => absurd q (by decide), fun _ => ⟨fun q => absurd q (by decide), fun _ => ⟨fun q => absurd q (by decide), fun _ => ⟨fun q => absurd q (by decide), fun _ => ⟨fun q => absurd q (by decide), fun _ => ⟨fun q => absurd q (by decide), fun _ => ⟨fun q => absurd q (by decide), fun _ => ⟨fun _ => hQ, fun q => absurd (by decide) q⟩⟩⟩⟩⟩⟩⟩⟩⟩⟩⟩⟩⟩⟩⟩⟩
  · exact ⟨fun q => absurd q (by decide), fun _ => ⟨fun q => absurd q (by decide), fun _ => ⟨fun q => absurd q (by decide), fun _ => ⟨fun q => absurd q (by decide), fun _ => ⟨fun q => absurd q (by decide), fun _ => ⟨fun q => absurd q (by decide), fun _ => ⟨fun q => absurd q (by decide), fun _ => ⟨fun q => absurd q (by decide), fun _ => ⟨fun q => absurd q (by decide), fun _ => ⟨fun q => absurd q (by decide), fun _ => ⟨fun q => absurd q (by decide), fun _ => ⟨fun _ => hQ, fun q => absurd (by decide) q⟩⟩⟩⟩⟩⟩⟩⟩⟩⟩⟩⟩
theorem op_18 (A : RelA C M) (h0 : r < 8) : aEqN C M (p_X2_perform 18 (nI r) y z C) (p_X11_does 18 (nI r) y' z' M) := by
  refine (a_push A h0).mp (fun Q hQ => ?_) (fun Q hQ => ?_)
  · exact ⟨by decide, (ni_in (by decide)).mpr (by decide), fun w hw => by
    have hw : w = 19 := hw.trans (by decide +kernel)
    subst hw
    exact ⟨fun q => absurd q (by decide), fun _ => ⟨fun q => absurd q (by decide), fun _ => ⟨fun q => absurd q (by decide), fun _ => ⟨fun q => absurd q (by decide), fun _ => ⟨fun q => absurd q (by decide), fun _ => ⟨fun q => absurd q (by decide), fun _ => ⟨fun q => absurd q (by decide), fun _ => ⟨fun q => absurd q (by decide), fun _ => ⟨fun q => absurd q (by decide), fun _ => ⟨fun q => absurd q (by decide), fun _ => ⟨fun q => absurd q (by decide), fun _ => ⟨fun q => absurd q (by decide), fun _ => ⟨fun q => absurd q (by decide), fun _ => ⟨fun q => absurd q (by decide), fun _ => ⟨fun q => absurd q (by decide), fun _ => ⟨fun _ => hQ, fun q => absurd (by decide) q⟩⟩⟩⟩⟩⟩⟩⟩⟩⟩⟩⟩⟩⟩⟩⟩⟩
  · exact ⟨fun q => absurd q (by decide), fun _ => ⟨fun q => absurd q (by decide), fun _ => ⟨fun q => absurd q (by decide), fun _ => ⟨fun q => absurd q (by decide), fun _ => ⟨fun q => absurd q (by decide), fun _ => ⟨fun q => absurd q (by decide), fun _ => ⟨fun q => absurd q (by decide), fun _ => ⟨fun q => absurd q (by decide), fun _ => ⟨fun q => absurd q (by decide), fun _ => ⟨fun q => absurd q (by decide), fun _ => ⟨fun q => absurd q (by decide), fun _ => ⟨fun q => absurd q (by decide), fun _ => ⟨fun _ => hQ, fun q => absurd (by decide) q⟩⟩⟩⟩⟩⟩⟩⟩⟩⟩⟩⟩⟩
theorem op_19 (A : RelA C M) (h0 : r < 8) : aEqN C M (p_X2_perform 19 (nI r) y z C) (p_X11_does 19 (nI r) y' z' M) := by
  refine (a_pop A h0).mp (fun Q hQ => ?_) (fun Q hQ => ?_)
  · exact ⟨by decide, (ni_in (by decide)).mpr (by decide), fun w hw => by
    have hw : w = 20 := hw.trans (by decide +kernel)
    subst hw
    exact ⟨fun q => absurd q (by decide), fun _ => ⟨fun q => absurd q (by decide), fun _ => ⟨fun q => absurd q (by decide), fun _ => ⟨fun q => absurd q (by decide), fun _ => ⟨fun q => absurd q (by decide), fun _ => ⟨fun q => absurd q (by decide), fun _ => ⟨fun q => absurd q (by decide), fun _ => ⟨fun q => absurd q (by decide), fun _ => ⟨fun q => absurd q (by decide), fun _ => ⟨fun q => absurd q (by decide), fun _ => ⟨fun q => absurd q (by decide), fun _ => ⟨fun q => absurd q (by decide), fun _ => ⟨fun q => absurd q (by decide), fun _ => ⟨fun q => absurd q (by decide), fun _ => ⟨fun q => absurd q (by decide), fun _ => ⟨fun q => absurd q (by decide), fun _ => ⟨fun _ => hQ, fun q => absurd (by decide) q⟩⟩⟩⟩⟩⟩⟩⟩⟩⟩⟩⟩⟩⟩⟩⟩⟩⟩
  · exact ⟨fun q => absurd q (by decide), fun _ => ⟨fun q => absurd q (by decide), fun _ => ⟨fun q => absurd q (by decide), fun _ => ⟨fun q => absurd q (by decide), fun _ => ⟨fun q => absurd q (by decide), fun _ => ⟨fun q => absurd q (by decide), fun _ => ⟨fun q => absurd q (by decide), fun _ => ⟨fun q => absurd q (by decide), fun _ => ⟨fun q => absurd q (by decide), fun _ => ⟨fun q => absurd q (by decide), fun _ => ⟨fun q => absurd q (by decide), fun _ => ⟨fun q => absurd q (by decide), fun _ => ⟨fun q => absurd q (by decide), fun _ => ⟨fun _ => hQ, fun q => absurd (by decide) q⟩⟩⟩⟩⟩⟩⟩⟩⟩⟩⟩⟩⟩⟩
/-- ACTS 0 to 19 -/
theorem a_does (A : RelA C M) (hk : k < 20) (hok : okA k x y z 0) (he : ∀ j, j < nt k → argJ x y z j = argJ x' y' z' j) : aEqN C M (p_X2_perform k x y z C) (p_X11_does (nI k) x' y' z' M) := by
  have hc : k = 0 ∨ k = 1 ∨ k = 2 ∨ k = 3 ∨ k = 4 ∨ k = 5 ∨ k = 6 ∨ k = 7 ∨ k = 8 ∨ k = 9 ∨ k = 10 ∨ k = 11 ∨ k = 12 ∨ k = 13 ∨ k = 14 ∨ k = 15 ∨ k = 16 ∨ k = 17 ∨ k = 18 ∨ k = 19 := by omega
  rcases hc with rfl | rfl | rfl | rfl | rfl | rfl | rfl | rfl | rfl | rfl | rfl | rfl | rfl | rfl | rfl | rfl | rfl | rfl | rfl | rfl
  · have g0 : x = x' := he 0 (by decide)
    have g1 : y = y' := he 1 (by decide)
    subst g0 g1
    obtain ⟨r0, q0, e0⟩ := hok 0 (by decide) (by decide) (by decide)
    have e0 : x = nI r0 := e0
    subst e0
    exact op_0 A q0
  · have g0 : x = x' := he 0 (by decide)
    have g1 : y = y' := he 1 (by decide)
    subst g0 g1
    obtain ⟨r0, q0, e0⟩ := hok 0 (by decide) (by decide) (by decide)
    obtain ⟨r1, q1, e1⟩ := hok 1 (by decide) (by decide) (by decide)
    have e0 : x = nI r0 := e0
    have e1 : y = nI r1 := e1
    subst e0 e1
    exact op_1 A q0 q1
  · have g0 : x = x' := he 0 (by decide)
    subst g0
    obtain ⟨r0, q0, e0⟩ := hok 0 (by decide) (by decide) (by decide)
    have e0 : x = nI r0 := e0
    subst e0
    exact op_2 A q0
  · have g0 : x = x' := he 0 (by decide)
    have g1 : y = y' := he 1 (by decide)
    subst g0 g1
    obtain ⟨r0, q0, e0⟩ := hok 0 (by decide) (by decide) (by decide)
    have e0 : x = nI r0 := e0
    subst e0
    exact op_3 A q0
  · have g0 : x = x' := he 0 (by decide)
    have g1 : y = y' := he 1 (by decide)
    subst g0 g1
    obtain ⟨r0, q0, e0⟩ := hok 0 (by decide) (by decide) (by decide)
    have e0 : x = nI r0 := e0
    subst e0
    exact op_4 A q0
  · have g0 : x = x' := he 0 (by decide)
    have g1 : y = y' := he 1 (by decide)
    subst g0 g1
    obtain ⟨r0, q0, e0⟩ := hok 0 (by decide) (by decide) (by decide)
    obtain ⟨r1, q1, e1⟩ := hok 1 (by decide) (by decide) (by decide)
    have e0 : x = nI r0 := e0
    have e1 : y = nI r1 := e1
    subst e0 e1
    exact op_5 A q0 q1
  · have g0 : x = x' := he 0 (by decide)
    have g1 : y = y' := he 1 (by decide)
    subst g0 g1
    obtain ⟨r0, q0, e0⟩ := hok 0 (by decide) (by decide) (by decide)
    obtain ⟨r1, q1, e1⟩ := hok 1 (by decide) (by decide) (by decide)
    have e0 : x = nI r0 := e0
    have e1 : y = nI r1 := e1
    subst e0 e1
    exact op_6 A q0 q1
  · have g0 : x = x' := he 0 (by decide)
    have g1 : y = y' := he 1 (by decide)
    have g2 : z = z' := he 2 (by decide)
    subst g0 g1 g2
    obtain ⟨r0, q0, e0⟩ := hok 0 (by decide) (by decide) (by decide)
    obtain ⟨r1, q1, e1⟩ := hok 1 (by decide) (by decide) (by decide)
    have e0 : x = nI r0 := e0
    have e1 : y = nI r1 := e1
    subst e0 e1
    exact op_7 A q0 q1
  · have g0 : x = x' := he 0 (by decide)
    have g1 : y = y' := he 1 (by decide)
    have g2 : z = z' := he 2 (by decide)
    subst g0 g1 g2
    obtain ⟨r0, q0, e0⟩ := hok 0 (by decide) (by decide) (by decide)
    obtain ⟨r1, q1, e1⟩ := hok 1 (by decide) (by decide) (by decide)
    obtain ⟨r2, q2, e2⟩ := hok 2 (by decide) (by decide) (by decide)
    have e0 : x = nI r0 := e0
    have e1 : y = nI r1 := e1
    have e2 : z = nI r2 := e2
    subst e0 e1 e2
    exact op_8 A q0 q1 q2
  · have g0 : x = x' := he 0 (by decide)
    have g1 : y = y' := he 1 (by decide)
    have g2 : z = z' := he 2 (by decide)
    subst g0 g1 g2
    obtain ⟨r0, q0, e0⟩ := hok 0 (by decide) (by decide) (by decide)
    obtain ⟨r2, q2, e2⟩ := hok 2 (by decide) (by decide) (by decide)
    have e0 : x = nI r0 := e0
    have e2 : z = nI r2 := e2
    subst e0 e2
    exact op_9 A q0 q2
  · have g0 : x = x' := he 0 (by decide)
    have g1 : y = y' := he 1 (by decide)
    have g2 : z = z' := he 2 (by decide)
    subst g0 g1 g2
    obtain ⟨r0, q0, e0⟩ := hok 0 (by decide) (by decide) (by decide)
    obtain ⟨r1, q1, e1⟩ := hok 1 (by decide) (by decide) (by decide)
    obtain ⟨r2, q2, e2⟩ := hok 2 (by decide) (by decide) (by decide)
    have e0 : x = nI r0 := e0
    have e1 : y = nI r1 := e1
    have e2 : z = nI r2 := e2
    subst e0 e1 e2
    exact op_10 A q0 q1 q2
  · have g0 : x = x' := he 0 (by decide)
    have g1 : y = y' := he 1 (by decide)
    subst g0 g1
    obtain ⟨r0, q0, e0⟩ := hok 0 (by decide) (by decide) (by decide)
    obtain ⟨r1, q1, e1⟩ := hok 1 (by decide) (by decide) (by decide)
    have e0 : x = nI r0 := e0
    have e1 : y = nI r1 := e1
    subst e0 e1
    exact op_11 A q0 q1
  · have g0 : x = x' := he 0 (by decide)
    have g1 : y = y' := he 1 (by decide)
    subst g0 g1
    obtain ⟨r0, q0, e0⟩ := hok 0 (by decide) (by decide) (by decide)
    obtain ⟨r1, q1, e1⟩ := hok 1 (by decide) (by decide) (by decide)
    have e0 : x = nI r0 := e0
    have e1 : y = nI r1 := e1
    subst e0 e1
    exact op_12 A q0 q1
  · have g0 : x = x' := he 0 (by decide)
    have g1 : y = y' := he 1 (by decide)
    have g2 : z = z' := he 2 (by decide)
    subst g0 g1 g2
    obtain ⟨r0, q0, e0⟩ := hok 0 (by decide) (by decide) (by decide)
    obtain ⟨r1, q1, e1⟩ := hok 1 (by decide) (by decide) (by decide)
    obtain ⟨r2, q2, e2⟩ := hok 2 (by decide) (by decide) (by decide)
    have e0 : x = nI r0 := e0
    have e1 : y = nI r1 := e1
    have e2 : z = nI r2 := e2
    subst e0 e1 e2
    exact op_13 A q0 q1 q2
  · have g0 : x = x' := he 0 (by decide)
    have g1 : y = y' := he 1 (by decide)
    have g2 : z = z' := he 2 (by decide)
    subst g0 g1 g2
    obtain ⟨r0, q0, e0⟩ := hok 0 (by decide) (by decide) (by decide)
    obtain ⟨r1, q1, e1⟩ := hok 1 (by decide) (by decide) (by decide)
    obtain ⟨r2, q2, e2⟩ := hok 2 (by decide) (by decide) (by decide)
    have e0 : x = nI r0 := e0
    have e1 : y = nI r1 := e1
    have e2 : z = nI r2 := e2
    subst e0 e1 e2
    exact op_14 A q0 q1 q2
  · have g0 : x = x' := he 0 (by decide)
    have g1 : y = y' := he 1 (by decide)
    have g2 : z = z' := he 2 (by decide)
    subst g0 g1 g2
    obtain ⟨r0, q0, e0⟩ := hok 0 (by decide) (by decide) (by decide)
    obtain ⟨r1, q1, e1⟩ := hok 1 (by decide) (by decide) (by decide)
    obtain ⟨r2, q2, e2⟩ := hok 2 (by decide) (by decide) (by decide)
    have e0 : x = nI r0 := e0
    have e1 : y = nI r1 := e1
    have e2 : z = nI r2 := e2
    subst e0 e1 e2
    exact op_15 A q0 q1 q2
  · have g0 : x = x' := he 0 (by decide)
    have g1 : y = y' := he 1 (by decide)
    have g2 : z = z' := he 2 (by decide)
    subst g0 g1 g2
    obtain ⟨r0, q0, e0⟩ := hok 0 (by decide) (by decide) (by decide)
    obtain ⟨r1, q1, e1⟩ := hok 1 (by decide) (by decide) (by decide)
    obtain ⟨r2, q2, e2⟩ := hok 2 (by decide) (by decide) (by decide)
    have e0 : x = nI r0 := e0
    have e1 : y = nI r1 := e1
    have e2 : z = nI r2 := e2
    subst e0 e1 e2
    exact op_16 A q0 q1 q2
  · have g0 : x = x' := he 0 (by decide)
    have g1 : y = y' := he 1 (by decide)
    have g2 : z = z' := he 2 (by decide)
    subst g0 g1 g2
    obtain ⟨r0, q0, e0⟩ := hok 0 (by decide) (by decide) (by decide)
    obtain ⟨r1, q1, e1⟩ := hok 1 (by decide) (by decide) (by decide)
    obtain ⟨r2, q2, e2⟩ := hok 2 (by decide) (by decide) (by decide)
    have e0 : x = nI r0 := e0
    have e1 : y = nI r1 := e1
    have e2 : z = nI r2 := e2
    subst e0 e1 e2
    exact op_17 A q0 q1 q2
  · have g0 : x = x' := he 0 (by decide)
    subst g0
    obtain ⟨r0, q0, e0⟩ := hok 0 (by decide) (by decide) (by decide)
    have e0 : x = nI r0 := e0
    subst e0
    exact op_18 A q0
  · have g0 : x = x' := he 0 (by decide)
    subst g0
    obtain ⟨r0, q0, e0⟩ := hok 0 (by decide) (by decide) (by decide)
    have e0 : x = nI r0 := e0
    subst e0
    exact op_19 A q0
end ZD
