/-! .. begin, run, about, said -/
section ZY19
variable {C C1 : cS} {M M1 : mS} {n k j e w t s pc cs sd na nl op x lim : Nat} {b : Bool} {y z : Int32}
/-- what both tell of a run -/
def fcts (C : cS) (M : mS) : Prop := c_i C 16 = m_i M 28 ∧ c_i C 17 = (if m_i M 28 = 3 then m_i M 29 else 0) ∧ ((m_i M 28 = 1 ∨ m_i M 28 = 3) → ∃ pc, pc < 150 ∧ c_i C 18 = nI pc ∧ m_i M 30 = nI pc ∧ c_pa C 2 (c_rp C) pc = m_a M 23 pc) ∧ c_i C 19 = (if m_i M 28 = 0 then 0 else m_i M 31) ∧ c_i C 20 = (if m_i M 28 = 0 then 0 else m_i M 32) ∧ c_i C 21 = (if m_i M 28 = 0 then 0 else m_i M 33)
theorem fc_idle (h : idle C M) : fcts C M := by
  obtain ⟨h1, h2⟩ := h
  unfold fcts
  rw [h2, h1 16 (by decide) (by decide), h1 17 (by decide) (by decide), h1 19 (by decide) (by decide), h1 20 (by decide) (by decide), h1 21 (by decide) (by decide)]
  exact ⟨rfl, rfl, fun q => absurd q (by decide), rfl, rfl, rfl⟩
theorem fc_rn (P : prog C M (c_cur C) na) (R : rn C M na s pc cs sd) (h : c_i C 17 = (if s = 3 then m_i M 29 else 0)) : fcts C M := by
  obtain ⟨p1, p2, p3, p4⟩ := P
  obtain ⟨r1, r2, r3, r4, r5, r6, r7, r8, r9, r10, r11, r12, r13⟩ := R
  have n0 : ¬ m_i M 28 = 0 := by rw [r4]; exact nI_ne0 (by omega) (by omega)
  refine ⟨r3.trans r4.symm, ?_, fun q => ?_, ?_, ?_, ?_⟩
  · rw [h]
    by_cases e : s = 3
    · subst e; rw [if_pos rfl, if_pos (by rw [r4]; rfl)]
    · rw [if_neg e, if_neg (by rw [r4, ni_eql (by omega) (by decide)]; exact e)]
  · have hs : s ≠ 2 := by
      intro e
      subst e
      rw [r4] at q
      exact absurd q (by decide)
    obtain ⟨x1, x2, x3⟩ := r5 hs
    obtain ⟨op, o1, o2, o3, o4, o5⟩ := p4 pc x1
    exact ⟨pc, by omega, x2, x3, by rw [r1]; exact o4⟩
  · rw [if_neg n0]; exact r6
  · rw [if_neg n0, r7, r8]
  · rw [if_neg n0, r11, r12]
theorem RelP.fc (P : RelP lim C M) : fcts C M := by
  obtain ⟨p1, p2, p3, p4⟩ := P
  rcases p4 with ⟨q1, q2, q3⟩ | ⟨q1, na, q2, q3⟩
  · exact fc_idle q3
  · rcases q3 with q3 | ⟨s, pc, cs, sd, q4, q5, q6⟩
    · exact fc_idle q3
    · exact fc_rn q2 q4 q5
theorem c_about (R : Rel lim C M) (a : Int32) : cEq lim (p_X10_about a C) (p_X11_about a M) := by
  obtain ⟨f0, f1, f2, f4, f5, f6⟩ := R.2.2.1.fc
  have wM : ∀ Q, ((m_i M 28 = 1 ∨ m_i M 28 = 3) → j_X11_about_26 Q a 1 (m_iS M 2 0)) → (¬ (m_i M 28 = 1 ∨ m_i M 28 = 3) → j_X11_about_26 Q a 0 (m_iS M 2 0)) → p_X11_about a M Q := by
    intro Q h1 h2
    exact ⟨fun q => h1 (Or.inl q), fun q => ⟨fun q2 => h2 (fun r => r.elim q q2), fun q2 => h1 (Or.inr q2)⟩⟩
  have hN1 : (m_i M 28 = 1 ∨ m_i M 28 = 3) → ∀ Q, Q 1 C → p_X6_hasNext C Q := by
    intro h Q hQ
    unfold p_X6_hasNext
    rw [f0]
    exact ⟨fun _ => hQ, fun q => ⟨fun q2 => absurd h (fun r => r.elim q q2), fun _ => hQ⟩⟩
  have hN0 : ¬ (m_i M 28 = 1 ∨ m_i M 28 = 3) → ∀ Q, Q 0 C → p_X6_hasNext C Q := by
    intro h Q hQ
    unfold p_X6_hasNext
    rw [f0]
    exact ⟨fun q => absurd (Or.inl q) h, fun q => ⟨fun _ => hQ, fun q2 => absurd (Or.inr q2) h⟩⟩
  have R0 := R.thr 0
  by_cases e0 : a = 0
  · subst e0
    exact ⟨c_i C 16, C, _, fun Q hQ => ⟨fun _ => hQ, fun r => absurd rfl r⟩, fun Q hQ => by rw [f0] at hQ; exact wM Q (fun _ => ⟨fun _ => hQ, fun r => absurd rfl r⟩) (fun _ => ⟨fun _ => hQ, fun r => absurd rfl r⟩), R0⟩
  by_cases e1 : a = 1
  · subst e1
    refine ⟨c_i C 17, C, _, fun Q hQ => ⟨fun r => absurd r e0, fun _ => ⟨fun _ => hQ, fun r => absurd rfl r⟩⟩, fun Q hQ => ?_, R0⟩
    have g : ((¬ (m_i M 28) = 3 → Q 0 (m_iS M 2 0)) ∧ ((m_i M 28) = 3 → Q (m_i M 29) (m_iS M 2 0))) := by
      rw [f1] at hQ
      refine ⟨fun q => ?_, fun q => ?_⟩
      · rw [if_neg q] at hQ; exact hQ
      · rw [if_pos q] at hQ; exact hQ
    exact wM Q (fun _ => ⟨fun r => absurd r e0, fun _ => ⟨fun _ => g, fun r => absurd rfl r⟩⟩) (fun _ => ⟨fun r => absurd r e0, fun _ => ⟨fun _ => g, fun r => absurd rfl r⟩⟩)
  by_cases e2 : a = 2
  · subst e2
    by_cases hx : m_i M 28 = 1 ∨ m_i M 28 = 3
    · obtain ⟨pc, x1, x2, x3, x4⟩ := f2 hx
      refine ⟨nI pc, C, _, fun Q hQ => ⟨fun r => absurd r e0, fun _ => ⟨fun r => absurd r e1, fun _ => ⟨fun _ => hN1 hx _ ⟨fun r => absurd r (by decide), fun _ => ?_⟩, fun r => absurd rfl r⟩⟩⟩, fun Q hQ => wM Q (fun _ => ⟨fun r => absurd r e0, fun _ => ⟨fun r => absurd r e1, fun _ => ⟨fun _ => ⟨fun r => absurd r (by decide), fun _ => ?_⟩, fun r => absurd rfl r⟩⟩⟩) (fun r => absurd hx r), R0⟩
      · rw [x2]; exact hQ
      · show Q (m_i M 30) _
        rw [x3]; exact hQ
    · exact ⟨-1, C, _, fun Q hQ => ⟨fun r => absurd r e0, fun _ => ⟨fun r => absurd r e1, fun _ => ⟨fun _ => hN0 hx _ ⟨fun _ => hQ, fun r => absurd rfl r⟩, fun r => absurd rfl r⟩⟩⟩, fun Q hQ => wM Q (fun r => absurd r hx) (fun _ => ⟨fun r => absurd r e0, fun _ => ⟨fun r => absurd r e1, fun _ => ⟨fun _ => ⟨fun _ => hQ, fun r => absurd rfl r⟩, fun r => absurd rfl r⟩⟩⟩), R0⟩
  by_cases e3 : a = 3
  · subst e3
    by_cases hx : m_i M 28 = 1 ∨ m_i M 28 = 3
    · obtain ⟨pc, x1, x2, x3, x4⟩ := f2 hx
      have ip : vp_in (nI pc) 150 := (ni_in (by omega)).mpr x1
      refine ⟨m_a M 23 pc, C, _, fun Q hQ => ⟨fun r => absurd r e0, fun _ => ⟨fun r => absurd r e1, fun _ => ⟨fun r => absurd r e2, fun _ => ⟨fun _ => hN1 hx _ ⟨fun r => absurd r (by decide), fun _ => ?_⟩, fun r => absurd rfl r⟩⟩⟩⟩, fun Q hQ => wM Q (fun _ => ⟨fun r => absurd r e0, fun _ => ⟨fun r => absurd r e1, fun _ => ⟨fun r => absurd r e2, fun _ => ⟨fun _ => ⟨fun r => absurd r (by decide), fun _ => ?_⟩, fun r => absurd rfl r⟩⟩⟩⟩) (fun r => absurd hx r), R0⟩
      · rw [x2, ni_cl (by omega), x4]; exact ⟨ip, hQ⟩
      · show vp_in (m_i M 30) 150 ∧ Q (m_a M 23 (m_i M 30).toNatClampNeg) _
        rw [x3, ni_cl (by omega)]; exact ⟨ip, hQ⟩
    · exact ⟨-1, C, _, fun Q hQ => ⟨fun r => absurd r e0, fun _ => ⟨fun r => absurd r e1, fun _ => ⟨fun r => absurd r e2, fun _ => ⟨fun _ => hN0 hx _ ⟨fun _ => hQ, fun r => absurd rfl r⟩, fun r => absurd rfl r⟩⟩⟩⟩, fun Q hQ => wM Q (fun r => absurd r hx) (fun _ => ⟨fun r => absurd r e0, fun _ => ⟨fun r => absurd r e1, fun _ => ⟨fun r => absurd r e2, fun _ => ⟨fun _ => ⟨fun _ => hQ, fun r => absurd rfl r⟩, fun r => absurd rfl r⟩⟩⟩⟩), R0⟩
  have pk : ∀ {c m : Int32} {Q : Int32 → mS → Prop}, c = (if m_i M 28 = 0 then 0 else m) → Q c (m_iS M 2 0) → ((¬ (m_i M 28) = 0 → Q m (m_iS M 2 0)) ∧ ((m_i M 28) = 0 → Q 0 (m_iS M 2 0))) := by
    intro c m Q h hQ
    rw [h] at hQ
    refine ⟨fun q => ?_, fun q => ?_⟩
    · rw [if_neg q] at hQ; exact hQ
    · rw [if_pos q] at hQ; exact hQ
  by_cases e4 : a = 4
  · subst e4
    exact ⟨c_i C 19, C, _, fun Q hQ => ⟨fun r => absurd r e0, fun _ => ⟨fun r => absurd r e1, fun _ => ⟨fun r => absurd r e2, fun _ => ⟨fun r => absurd r e3, fun _ => ⟨fun _ => hQ, fun r => absurd rfl r⟩⟩⟩⟩⟩, fun Q hQ => wM Q (fun _ => ⟨fun r => absurd r e0, fun _ => ⟨fun r => absurd r e1, fun _ => ⟨fun r => absurd r e2, fun _ => ⟨fun r => absurd r e3, fun _ => ⟨fun _ => pk f4 hQ, fun r => absurd rfl r⟩⟩⟩⟩⟩) (fun _ => ⟨fun r => absurd r e0, fun _ => ⟨fun r => absurd r e1, fun _ => ⟨fun r => absurd r e2, fun _ => ⟨fun r => absurd r e3, fun _ => ⟨fun _ => pk f4 hQ, fun r => absurd rfl r⟩⟩⟩⟩⟩), R0⟩
  by_cases e5 : a = 5
  · subst e5
    exact ⟨c_i C 20, C, _, fun Q hQ => ⟨fun r => absurd r e0, fun _ => ⟨fun r => absurd r e1, fun _ => ⟨fun r => absurd r e2, fun _ => ⟨fun r => absurd r e3, fun _ => ⟨fun r => absurd r e4, fun _ => ⟨fun _ => hQ, fun r => absurd rfl r⟩⟩⟩⟩⟩⟩, fun Q hQ => wM Q (fun _ => ⟨fun r => absurd r e0, fun _ => ⟨fun r => absurd r e1, fun _ => ⟨fun r => absurd r e2, fun _ => ⟨fun r => absurd r e3, fun _ => ⟨fun r => absurd r e4, fun _ => ⟨fun _ => pk f5 hQ, fun r => absurd rfl r⟩⟩⟩⟩⟩⟩) (fun _ => ⟨fun r => absurd r e0, fun _ => ⟨fun r => absurd r e1, fun _ => ⟨fun r => absurd r e2, fun _ => ⟨fun r => absurd r e3, fun _ => ⟨fun r => absurd r e4, fun _ => ⟨fun _ => pk f5 hQ, fun r => absurd rfl r⟩⟩⟩⟩⟩⟩), R0⟩
  by_cases e6 : a = 6
  · subst e6
    exact ⟨c_i C 21, C, _, fun Q hQ => ⟨fun r => absurd r e0, fun _ => ⟨fun r => absurd r e1, fun _ => ⟨fun r => absurd r e2, fun _ => ⟨fun r => absurd r e3, fun _ => ⟨fun r => absurd r e4, fun _ => ⟨fun r => absurd r e5, fun _ => ⟨fun _ => hQ, fun r => absurd rfl r⟩⟩⟩⟩⟩⟩⟩, fun Q hQ => wM Q (fun _ => ⟨fun r => absurd r e0, fun _ => ⟨fun r => absurd r e1, fun _ => ⟨fun r => absurd r e2, fun _ => ⟨fun r => absurd r e3, fun _ => ⟨fun r => absurd r e4, fun _ => ⟨fun r => absurd r e5, fun _ => ⟨fun _ => pk f6 hQ, fun r => absurd rfl r⟩⟩⟩⟩⟩⟩⟩) (fun _ => ⟨fun r => absurd r e0, fun _ => ⟨fun r => absurd r e1, fun _ => ⟨fun r => absurd r e2, fun _ => ⟨fun r => absurd r e3, fun _ => ⟨fun r => absurd r e4, fun _ => ⟨fun r => absurd r e5, fun _ => ⟨fun _ => pk f6 hQ, fun r => absurd rfl r⟩⟩⟩⟩⟩⟩⟩), R0⟩
  exact ⟨-1, C, _, fun Q hQ => ⟨fun r => absurd r e0, fun _ => ⟨fun r => absurd r e1, fun _ => ⟨fun r => absurd r e2, fun _ => ⟨fun r => absurd r e3, fun _ => ⟨fun r => absurd r e4, fun _ => ⟨fun r => absurd r e5, fun _ => ⟨fun r => absurd r e6, fun _ => hQ⟩⟩⟩⟩⟩⟩⟩, fun Q hQ => wM Q (fun _ => ⟨fun r => absurd r e0, fun _ => ⟨fun r => absurd r e1, fun _ => ⟨fun r => absurd r e2, fun _ => ⟨fun r => absurd r e3, fun _ => ⟨fun r => absurd r e4, fun _ => ⟨fun r => absurd r e5, fun _ => ⟨fun r => absurd r e6, fun _ => hQ⟩⟩⟩⟩⟩⟩⟩) (fun _ => ⟨fun r => absurd r e0, fun _ => ⟨fun r => absurd r e1, fun _ => ⟨fun r => absurd r e2, fun _ => ⟨fun r => absurd r e3, fun _ => ⟨fun r => absurd r e4, fun _ => ⟨fun r => absurd r e5, fun _ => ⟨fun r => absurd r e6, fun _ => hQ⟩⟩⟩⟩⟩⟩⟩), R0⟩
theorem c_said (R : Rel lim C M) (hl : lim < 2147483648) (a : Int32) : ∃ e C1 M1, (∀ Q, Q e M1 → p_X11_said a M Q) ∧ Rel lim C1 M1 ∧ ((m_i M1 2 = 0 ∧ ∀ Q QX, Q e C1 → p_X10_said a C Q QX) ∨ (m_i M1 2 = 1 ∧ ∀ Q QX, QX "java/util/NoSuchElementException" C1 → p_X10_said a C Q QX)) := by
  obtain ⟨f0, f1, f2, f4, f5, f6⟩ := R.2.2.1.fc
  have bad : (¬ (¬ m_i M 28 = 0 ∧ ¬ a < 0 ∧ ¬ m_i M 33 ≤ a ∧ ¬ 300 ≤ a)) → ∃ e C1 M1, (∀ Q, Q e M1 → p_X11_said a M Q) ∧ Rel lim C1 M1 ∧ ((m_i M1 2 = 0 ∧ ∀ Q QX, Q e C1 → p_X10_said a C Q QX) ∨ (m_i M1 2 = 1 ∧ ∀ Q QX, QX "java/util/NoSuchElementException" C1 → p_X10_said a C Q QX)) := by
    intro h
    have h30 : ∀ Q : Int32 → mS → Prop, Q 0 (m_iS M 2 1) → j_X11_said_30 Q a M := fun Q hQ => ⟨fun _ => ⟨fun _ => hQ, fun r => absurd rfl r⟩, fun r => absurd rfl r⟩
    refine ⟨0, C, m_iS M 2 1, fun Q hQ => ⟨fun _ => h30 Q hQ, fun q1 => ⟨fun _ => h30 Q hQ, fun q2 => ⟨fun _ => h30 Q hQ, fun q3 => ⟨fun _ => h30 Q hQ, fun q4 => absurd ⟨q1, q2, q3, q4⟩ h⟩⟩⟩⟩, R.thr 1, Or.inr ⟨rfl, fun Q QX hQ => ?_⟩⟩
    refine ⟨fun _ => ⟨fun r => absurd rfl r, fun _ => hQ⟩, fun q2 => ⟨fun _ => ⟨fun r => absurd rfl r, fun _ => hQ⟩, fun q3 => ⟨fun _ => ⟨fun r => absurd rfl r, fun _ => hQ⟩, fun q4 => ?_⟩⟩⟩
    exfalso
    by_cases z0 : m_i M 28 = 0
    · rw [f6, if_pos z0] at q3
      obtain ⟨m, hm, rfl⟩ := ni_ex q2
      exact q3 ((ni_lle hm (by decide)).mpr (Nat.zero_le _))
    · rw [f6, if_neg z0] at q3
      exact h ⟨z0, q2, q3, q4⟩
  by_cases h : ¬ m_i M 28 = 0 ∧ ¬ a < 0 ∧ ¬ m_i M 33 ≤ a ∧ ¬ 300 ≤ a
  · obtain ⟨z0, h1, h2, h3⟩ := h
    obtain ⟨m, hm, rfl⟩ := ni_ex h1
    have m3 : m < 300 := by
      rw [ni_lle hm (by decide)] at h3
      have h3 : ¬ 300 ≤ m := h3
      omega
    have i3 : vp_in (nI m) 300 := (ni_in hm).mpr m3
    have eq : c_a C 16 m = m_a M 26 m := by
      obtain ⟨p1, p2, p3, p4⟩ := R.2.2.1
      rcases p4 with ⟨q1, q2, q3⟩ | ⟨q1, na, q2, q3⟩
      · exact absurd q3.2 z0
      · rcases q3 with q3 | ⟨s, pc, cs, sd, q4, q5, q6⟩
        · exact absurd q3.2 z0
        · obtain ⟨r1, r2, r3, r4, r5, r6, r7, r8, r9, r10, r11, r12, r13⟩ := q4
          rw [r12, ni_le (by omega) hm] at h2
          exact r13 m (by omega) m3
    refine ⟨m_a M 26 m, C, m_iS M 2 0, fun Q hQ => ⟨fun r => absurd r z0, fun _ => ⟨fun r => absurd r h1, fun _ => ⟨fun r => absurd r h2, fun _ => ⟨fun r => absurd r h3, fun _ => ⟨fun r => absurd r (by decide), fun _ => ⟨fun r => absurd r (by decide), fun _ => ⟨i3, ?_⟩⟩⟩⟩⟩⟩⟩, R.thr 0, Or.inl ⟨rfl, fun Q QX hQ => ⟨fun r => absurd r h1, fun _ => ⟨fun r => absurd r ?_, fun _ => ⟨fun r => absurd r h3, fun _ => ⟨fun _ => ⟨i3, ?_⟩, fun r => absurd r (by decide)⟩⟩⟩⟩⟩⟩
    · rw [ni_cl hm]; exact hQ
    · rw [f6, if_neg z0]; exact h2
    · rw [ni_cl hm, eq]; exact hQ
  · exact bad h
theorem c_begin (R : Rel lim C M) : ∃ C1 M1, (∀ Q, Q M1 → p_X11_begin M Q) ∧ Rel lim C1 M1 ∧ ((m_i M1 2 = 0 ∧ ∀ Q QX, Q C1 → p_X10_begin C Q QX) ∨ (m_i M1 2 = 1 ∧ ∀ Q QX, QX "java/lang/IllegalStateException" C1 → p_X10_begin C Q QX)) := by
  obtain ⟨r1, r2, r3, r4, r5⟩ := id R
  obtain ⟨p1, p2, p3, p4⟩ := r3
  rcases p4 with ⟨q1, q2, q3⟩ | ⟨q1, na, q2, q3⟩
  · exact ⟨C, m_iS M 2 1, fun Q hQ => ⟨fun r => absurd q2 r, fun _ => ⟨fun r => absurd r (by decide), fun _ => hQ⟩⟩, R.thr 1, Or.inr ⟨rfl, fun Q QX hQ => ⟨fun r => absurd q1 r, fun _ => hQ⟩⟩⟩
  · obtain ⟨n1, n2, n3, n4⟩ := id q2
    let D : cS := c_rpS (c_iS (c_iS (c_iS (c_iS (c_iS (c_iS C 16 0) 17 0) 18 0) 19 0) 20 0) 21 0) (c_cur C)
    let N : mS := m_iS (m_iS (m_iS (m_iS (m_iS M 2 0) 31 0) 32 0) 33 0) 29 0
    let C1 : cS := c_iS (c_iS D 18 (nI 0)) 16 (nI (stE na 0))
    let M1 : mS := m_iS (m_iS N 30 (nI 0)) 28 (nI (stE na 0))
    have fi : ∀ k, (k < 16 ∨ 21 < k) → c_i C1 k = c_i C k := fun k q => by
      show c_i (c_iS (c_iS (c_rpS (c_iS (c_iS (c_iS (c_iS (c_iS (c_iS C 16 0) 17 0) 18 0) 19 0) 20 0) 21 0) (c_cur C)) 18 (nI 0)) 16 (nI (stE na 0))) k = _
      rw [cs_i_iS, if_neg (by omega), cs_i_iS, if_neg (by omega), cs_i_rpS, cs_i_iS, if_neg (by omega), cs_i_iS, if_neg (by omega), cs_i_iS, if_neg (by omega), cs_i_iS, if_neg (by omega), cs_i_iS, if_neg (by omega), cs_i_iS, if_neg (by omega)]
    have gi : ∀ k, k ≠ 2 → (k < 28 ∨ 33 < k) → m_i M1 k = m_i M k := fun k q q2 => by
      show m_i (m_iS (m_iS (m_iS (m_iS (m_iS (m_iS (m_iS M 2 0) 31 0) 32 0) 33 0) 29 0) 30 (nI 0)) 28 (nI (stE na 0))) k = _
      rw [ms_i_iS, if_neg (by omega), ms_i_iS, if_neg (by omega), ms_i_iS, if_neg (by omega), ms_i_iS, if_neg (by omega), ms_i_iS, if_neg (by omega), ms_i_iS, if_neg (by omega), ms_i_iS, if_neg (by omega)]
    refine ⟨C1, M1, fun Q hQ => ⟨fun _ => ⟨fun _ => ?_, fun r => absurd (by decide) r⟩, fun r => ?_⟩, ⟨r1.cg rfl (fun k h1 h2 => fi k (by omega)) (fun _ _ _ => rfl) (fun k h1 h2 => gi k h1 (by omega)) (fun _ _ => rfl), r2.cg (fi 0 (by omega)) rfl (gi 19 (by omega) (by omega)) rfl, ⟨?_, p2, p3, Or.inr ⟨q1, na, q2.cg rfl (fun _ => rfl) rfl rfl rfl rfl, Or.inr ⟨stE na 0, 0, 0, 0, ⟨rfl, stE_rg na 0, rfl, rfl, fun h => ⟨?_, rfl, rfl⟩, rfl, rfl, rfl, by omega, fun j hj => by omega, rfl, rfl, fun j hj => by omega⟩, ?_, by omega⟩⟩⟩, r4.cg rfl rfl rfl rfl, tx_cg r5 rfl rfl rfl rfl⟩, Or.inl ⟨rfl, fun Q QX hQ => ⟨fun _ => ?_, fun r => absurd (q1.symm.trans r) (by decide)⟩⟩⟩
    · exact e_goM (M := N) (na := na) (x := 0) n3 n1 (by omega) _ hQ
    · exfalso
      rw [n3] at r
      have := neg_lt (x := -1) (by decide) na (by omega)
      rw [← r] at this
      exact absurd this (Int32.lt_irrefl)
    · exact p1
    · have := stE_ne h; omega
    · show (0 : Int32) = _
      rw [if_neg (by rcases stE_12 na 0 with e | e <;> omega)]
    · exact e_goC (C := D) (na := na) (x := 0) n2 n1 (by omega) (fun _ C2 => Q C2) hQ
/-- the loop of a run -/
theorem a_runL {N : Nat} (hN : N ≤ 2000) (hlm : lim + 2000 < 2147483647) : ∀ (d i : Nat) {C : cS} {M : mS} {s pc cs sd : Nat}, i + d = N → RelA C M → prog C M (c_cur C) na → rn C M na s pc cs sd → c_i C 17 = (if s = 3 then m_i M 29 else 0) → sd + d ≤ lim + 2000 →
    ∃ i1 C1 M1 s1 pc1 cs1 sd1, RelA C1 M1 ∧ rn C1 M1 na s1 pc1 cs1 sd1 ∧ c_i C1 17 = (if s1 = 3 then m_i M1 29 else 0) ∧ sd1 ≤ lim + 2000 ∧ rfC C C1 ∧ rfM M M1 ∧ (∃ F, ∀ Q K, K (nI i1) C1 → w_X10_run_43 Q K F (nI N) (nI i) C) ∧ (∃ F, ∀ Q K, K (nI i1) M1 → w_X11_run_44 Q K F (nI N) (nI i) 1 M) := by
  intro d
  induction d with
  | zero =>
    intro i C M s pc cs sd hi A P R h17 hsd
    have e : i = N := by omega
    subst e
    exact ⟨i, C, M, s, pc, cs, sd, A, R, h17, by omega, rfC.rf C, rfM.rf M, ⟨1, fun Q K hK => ⟨fun _ => hK, fun r => absurd (by rw [ni_le (by omega) (by omega)]; omega) r⟩⟩, ⟨1, fun Q K hK => ⟨fun r => absurd r (by decide), fun _ => ⟨fun _ => hK, fun r => absurd (by rw [ni_le (by omega) (by omega)]; omega) r⟩⟩⟩⟩
  | succ d ih =>
    intro i C M s pc cs sd hi A P R h17 hsd
    have g1 : ¬ nI N ≤ nI i := by rw [ni_le (by omega) (by omega)]; omega
    have r3 := R.2.2.1
    have r4 := R.2.2.2.1
    have r2 := R.2.1
    by_cases hs : s = 2
    · subst hs
      refine ⟨i, C, M, 2, pc, cs, sd, A, R, h17, by omega, rfC.rf C, rfM.rf M, ⟨1, fun Q K hK => ⟨fun r => absurd r g1, fun _ => ⟨fun r => absurd (r3.symm.trans r) (by decide), fun _ => ⟨fun _ => ⟨fun r => absurd rfl r, fun _ => ⟨fun _ => hK, fun r => absurd rfl r⟩⟩, fun r => absurd (r3.symm.trans r) (by decide)⟩⟩⟩⟩, ⟨1, fun Q K hK => ⟨fun r => absurd r (by decide), fun _ => ⟨fun r => absurd r g1, fun _ => ⟨fun _ => hK, fun r => absurd r4 r⟩⟩⟩⟩⟩
    · have n2 : ¬ m_i M 28 = 2 := by rw [r4, ni_eql (by omega) (by decide)]; exact hs
      rcases a_step A P R hs (by omega) with ⟨C1, M1, s1, pc1, cs1, sd1, x1, x2, x3, x4, x5, x6, x7, x8, x9⟩ | ⟨e, C1, M1, pc1, cs1, x1, x2, x3, x4, x5, x6, x7, x8⟩
      · have P1 : prog C1 (m_iS M1 31 (m_i M1 31 + 1)) (c_cur C1) na := by
          rw [x6.2.1]
          exact (P.fr x6 x7).cg rfl (fun _ => rfl) rfl rfl rfl rfl
        have A1 : RelA C1 (m_iS M1 31 (m_i M1 31 + 1)) := x2.cg rfl (fun _ _ _ => rfl) (fun _ _ _ => rfl) (fun k h1 h2 => by rw [ms_i_iS, if_neg (by omega)]) (fun _ _ => rfl)
        obtain ⟨i1, C2, M2, s2, pc2, cs2, sd2, y1, y2, y3, y4, y5, y6, ⟨F1, y7⟩, ⟨F2, y8⟩⟩ := ih (i + 1) (by omega) A1 P1 x3 (by rw [x4, if_neg (by omega)]) (by omega)
        refine ⟨i1, C2, M2, s2, pc2, cs2, sd2, y1, y2, y3, y4, x6.tr y5, (x7.i (by decide)).tr y6, ⟨F1 + 1, fun Q K hK => ⟨fun r => absurd r g1, fun _ => x8 _ ⟨fun r => absurd r (by decide), fun _ v hv2 => ?_⟩⟩⟩, ⟨F2 + 1, fun Q K hK => ⟨fun r => absurd r (by decide), fun _ => ⟨fun r => absurd r g1, fun _ => ⟨fun r => absurd r n2, fun _ => x9 _ ⟨fun _ v hv2 => ?_, fun r => absurd (by decide) r⟩⟩⟩⟩⟩⟩
        · rw [nI_1] at hv2; subst hv2; exact y7 Q K hK
        · rw [nI_1] at hv2; subst hv2; exact y8 Q K hK
      · refine ⟨i, C1, m_iS (m_iS M1 28 3) 29 e, 3, pc1, cs1, sd, x2.cg rfl (fun _ _ _ => rfl) (fun _ _ _ => rfl) (fun k h1 h2 => by rw [ms_i_iS, if_neg (by omega), ms_i_iS, if_neg (by omega)]) (fun _ _ => rfl), x3, by rw [if_pos rfl]; exact x4, by omega, x5, (x6.i (by decide)).i (by decide), ⟨1, fun Q K hK => ⟨fun r => absurd r g1, fun _ => x7 _ ⟨fun _ => hK, fun r => absurd rfl r⟩⟩⟩, ⟨2, fun Q K hK => ⟨fun r => absurd r (by decide), fun _ => ⟨fun r => absurd r g1, fun _ => ⟨fun r => absurd r n2, fun _ => x8 _ ⟨fun r => absurd r x1, fun _ => ⟨fun _ => hK, fun r => absurd rfl r⟩⟩⟩⟩⟩⟩⟩
theorem c_run (R : Rel lim C M) (hlm : lim + 2000 < 2147483647) (a : Int32) : ∃ e C1 M1, (∀ Q, Q e M1 → p_X11_run a M Q) ∧ Rel (lim + 2000) C1 M1 ∧ ((m_i M1 2 = 0 ∧ ∀ Q QX, Q e C1 → p_X10_run a C Q QX) ∨ (m_i M1 2 = 1 ∧ ∀ Q QX, QX "java/lang/IllegalArgumentException" C1 → p_X10_run a C Q QX) ∨ (m_i M1 2 = 2 ∧ ∀ Q QX, QX "java/lang/IllegalStateException" C1 → p_X10_run a C Q QX)) := by
  obtain ⟨f0, -⟩ := R.2.2.1.fc
  have Rm := R.mono (Nat.le_add_right lim 2000)
  by_cases h0 : a < 0
  · exact ⟨0, C, m_iS M 2 1, fun Q hQ => ⟨fun _ => hQ, fun r => absurd h0 r⟩, Rm.thr 1, Or.inr (Or.inl ⟨rfl, fun Q QX hQ => ⟨fun _ => hQ, fun r => absurd h0 r⟩⟩)⟩
  by_cases h2 : ¬ a ≤ 2000
  · exact ⟨0, C, m_iS M 2 1, fun Q hQ => ⟨fun r => absurd r h0, fun _ => ⟨fun r => absurd r h2, fun _ => hQ⟩⟩, Rm.thr 1, Or.inr (Or.inl ⟨rfl, fun Q QX hQ => ⟨fun r => absurd r h0, fun _ => ⟨fun r => absurd r h2, fun _ => hQ⟩⟩⟩)⟩
  replace h2 := Decidable.not_not.mp h2
  obtain ⟨N, hNb, rfl⟩ := ni_ex h0
  have hN : N ≤ 2000 := (ni_lel hNb (by decide)).mp h2
  obtain ⟨r1, r2, r3, r4, r5⟩ := id R
  obtain ⟨p1, p2, p3, p4⟩ := r3
  have noRun : idle C M → ∃ e C1 M1, (∀ Q, Q e M1 → p_X11_run (nI N) M Q) ∧ Rel (lim + 2000) C1 M1 ∧ ((m_i M1 2 = 0 ∧ ∀ Q QX, Q e C1 → p_X10_run (nI N) C Q QX) ∨ (m_i M1 2 = 1 ∧ ∀ Q QX, QX "java/lang/IllegalArgumentException" C1 → p_X10_run (nI N) C Q QX) ∨ (m_i M1 2 = 2 ∧ ∀ Q QX, QX "java/lang/IllegalStateException" C1 → p_X10_run (nI N) C Q QX)) := by
    intro hi
    exact ⟨0, C, m_iS M 2 2, fun Q hQ => ⟨fun r => absurd r h0, fun _ => ⟨fun _ => ⟨fun r => absurd hi.2 r, fun _ => hQ⟩, fun r => absurd h2 r⟩⟩, Rm.thr 2, Or.inr (Or.inr ⟨rfl, fun Q QX hQ => ⟨fun r => absurd r h0, fun _ => ⟨fun _ => ⟨fun r => absurd (hi.1 16 (by decide) (by decide)) r, fun _ => hQ⟩, fun r => absurd h2 r⟩⟩⟩)⟩
  rcases p4 with ⟨q1, q2, q3⟩ | ⟨q1, na, q2, q3⟩
  · exact noRun q3
  · rcases q3 with q3 | ⟨s, pc, cs, sd, q4, q5, q6⟩
    · exact noRun q3
    · have s1 := q4.2.1
      have n16 : ¬ c_i C 16 = 0 := by rw [q4.2.2.1]; exact nI_ne0 (by omega) (by omega)
      have n28 : ¬ m_i M 28 = 0 := by rw [q4.2.2.2.1]; exact nI_ne0 (by omega) (by omega)
      have q4' : rn C (m_iS M 2 0) na s pc cs sd := q4.cg rfl rfl (fun _ _ _ => rfl) rfl rfl (fun k h1 h2 => by rw [ms_i_iS, if_neg (by omega)]) rfl rfl
      have q2' : prog C (m_iS M 2 0) (c_cur C) na := q2.cg rfl (fun _ => rfl) rfl rfl rfl rfl
      obtain ⟨i1, C1, M1, s1, pc1, cs1, sd1, y1, y2, y3, y4, y5, y6, ⟨F1, y7⟩, ⟨F2, y8⟩⟩ := a_runL hN hlm N 0 (by omega) (r1.thr 0) q2' q4' q5 (by omega)
      have m2 : m_i M1 2 = 0 := by rw [y6.1 2 (by omega)]; rfl
      refine ⟨nI i1, C1, M1, fun Q hQ => ⟨fun r => absurd r h0, fun _ => ⟨fun _ => ⟨fun _ => ⟨F2, y8 _ _ hQ⟩, fun r => absurd r n28⟩, fun r => absurd h2 r⟩⟩, ?_, Or.inl ⟨m2, fun Q QX hQ => ⟨fun r => absurd r h0, fun _ => ⟨fun _ => ⟨fun _ => ⟨F1, y7 _ _ hQ⟩, fun r => absurd r n16⟩, fun r => absurd h2 r⟩⟩⟩⟩
      have P1 := q2'.fr y5 y6
      obtain ⟨g1, g2, g3, g4, g5, g6, g7, g8, g9, g10⟩ := y5
      obtain ⟨k1, k2, k3⟩ := y6
      have h1 : ∀ k, k ≠ 2 → ((18 < k ∧ k < 28) ∨ 33 < k) → m_i M1 k = m_i M k := fun k q q2 => by rw [k1 k (by omega), ms_i_iS, if_neg q]
      refine ⟨y1, r2.cg (g5 0 (by omega)) (g6 0 (by omega)) (h1 19 (by omega) (by omega)) (k2 9 (by omega)), ⟨by rw [g5 2 (by omega), h1 27 (by omega) (by omega)]; exact p1, by rw [g2, g3]; exact p2, p3.cg (k3 0) (k2 10 (by omega)), Or.inr ⟨by rw [g5 1 (by omega)]; exact q1, na, by rw [g2]; exact P1, Or.inr ⟨s1, pc1, cs1, sd1, y2, y3, y4⟩⟩⟩, r4.cg g1 (g5 22 (by omega)) (g6 17 (by omega)) (g6 18 (by omega)), tx_cg r5 (g5 23 (by omega)) (g6 19 (by omega)) (h1 35 (by omega) (by omega)) (k2 29 (by omega))⟩
end ZY19
