/-! ALL TOGETHER: class and reference, alike between two calls -/
section ZW18
def idle (C : cS) (M : mS) : Prop := (∀ k, 16 ≤ k → k ≤ 21 → c_i C k = 0) ∧ m_i M 28 = 0
def RelP (lim : Nat) (C : cS) (M : mS) : Prop := c_i C 2 = m_i M 27 ∧ c_spa C ≠ c_cur C ∧ wtM M ∧ ((c_i C 1 = 0 ∧ m_i M 26 = -1 ∧ idle C M) ∨ (c_i C 1 = 1 ∧ ∃ na, prog C M (c_cur C) na ∧ (idle C M ∨ ∃ s pc cs sd, rn C M na s pc cs sd ∧ c_i C 17 = (if s = 3 then m_i M 29 else 0) ∧ sd ≤ lim)))
def Rel (lim : Nat) (C : cS) (M : mS) : Prop := RelA C M ∧ RelT C M ∧ RelP lim C M ∧ gCl C ∧ ∃ T, txC C T ∧ txM M T
variable {C C1 : cS} {M M1 : mS} {n k j e w t s pc cs sd na nl op x lim : Nat} {b : Bool} {y z : Int32}
theorem RelT.cg (T : RelT C M) (a : c_i C1 0 = c_i C 0) (b : c_a C1 0 = c_a C 0) (c : m_i M1 19 = m_i M 19) (d : m_a M1 9 = m_a M 9) : RelT C1 M1 := by
  unfold RelT at T ⊢
  rw [a, b, c, d]
  exact T
theorem prog.cg (P : prog C M b na) (a1 : c_pn C1 b = c_pn C b) (a2 : ∀ k, c_pa C1 k b = c_pa C k b) (b1 : m_i M1 26 = m_i M 26) (b2 : m_a M1 22 = m_a M 22) (b3 : m_a M1 23 = m_a M 23) (b4 : m_a M1 24 = m_a M 24) : prog C1 M1 b na := by
  unfold prog at P ⊢
  rw [a1, a2, a2, a2, b1, b2, b3, b4]
  exact P
theorem rn.cg (R : rn C M na s pc cs sd) (a1 : c_rp C1 = c_rp C) (a2 : c_cur C1 = c_cur C) (a3 : ∀ k, 16 ≤ k → k ≤ 21 → c_i C1 k = c_i C k) (a4 : c_a C1 15 = c_a C 15) (a5 : c_a C1 16 = c_a C 16) (b1 : ∀ k, 28 ≤ k → k ≤ 33 → m_i M1 k = m_i M k) (b2 : m_a M1 25 = m_a M 25) (b3 : m_a M1 26 = m_a M 26) : rn C1 M1 na s pc cs sd := by
  unfold rn at R ⊢
  rw [a1, a2, a3 16 (by decide) (by decide), a3 18 (by decide) (by decide), a3 19 (by decide) (by decide), a3 20 (by decide) (by decide), a3 21 (by decide) (by decide), a4, a5, b1 28 (by decide) (by decide), b1 30 (by decide) (by decide), b1 31 (by decide) (by decide), b1 32 (by decide) (by decide), b1 33 (by decide) (by decide), b2, b3]
  exact R
theorem wtM.cg (W : wtM M) (a : m_l M1 0 = m_l M 0) (b : m_a M1 10 = m_a M 10) : wtM M1 := by
  unfold wtM at W ⊢
  rw [a, b]
  exact W
theorem RelP.cg (P : RelP lim C M) (c1 : c_i C1 1 = c_i C 1) (c2 : c_i C1 2 = c_i C 2) (c3 : c_cur C1 = c_cur C) (c4 : c_spa C1 = c_spa C) (c5 : c_rp C1 = c_rp C) (c6 : ∀ k, 16 ≤ k → k ≤ 21 → c_i C1 k = c_i C k) (c7 : c_pn C1 (c_cur C) = c_pn C (c_cur C)) (c8 : ∀ k, c_pa C1 k (c_cur C) = c_pa C k (c_cur C)) (c9 : c_a C1 15 = c_a C 15) (c10 : c_a C1 16 = c_a C 16)
    (m1 : ∀ k, 26 ≤ k → k ≤ 33 → m_i M1 k = m_i M k) (m2 : ∀ k, 22 ≤ k → k ≤ 26 → m_a M1 k = m_a M k) (m3 : m_a M1 10 = m_a M 10) (m4 : m_l M1 0 = m_l M 0) : RelP lim C1 M1 := by
  obtain ⟨p1, p2, p3, p4⟩ := P
  have id1 : idle C M → idle C1 M1 := fun h => ⟨fun k q1 q2 => by rw [c6 k q1 q2]; exact h.1 k q1 q2, by rw [m1 28 (by decide) (by decide)]; exact h.2⟩
  refine ⟨by rw [c2, m1 27 (by decide) (by decide)]; exact p1, by rw [c3, c4]; exact p2, p3.cg m4 m3, ?_⟩
  rcases p4 with ⟨q1, q2, q3⟩ | ⟨q1, na, q2, q3⟩
  · exact Or.inl ⟨by rw [c1]; exact q1, by rw [m1 26 (by decide) (by decide)]; exact q2, id1 q3⟩
  · refine Or.inr ⟨by rw [c1]; exact q1, na, ?_, ?_⟩
    · rw [c3]
      exact q2.cg c7 c8 (m1 26 (by decide) (by decide)) (m2 22 (by decide) (by decide)) (m2 23 (by decide) (by decide)) (m2 24 (by decide) (by decide))
    · rcases q3 with q3 | ⟨s, pc, cs, sd, q4, q5, q6⟩
      · exact Or.inl (id1 q3)
      · exact Or.inr ⟨s, pc, cs, sd, q4.cg c5 c3 c6 c9 c10 (fun k h1 h2 => m1 k (by omega) h2) (m2 25 (by decide) (by decide)) (m2 26 (by decide) (by decide)), by rw [c6 17 (by decide) (by decide), m1 29 (by decide) (by decide)]; exact q5, q6⟩
theorem gCl.cg (G : gCl C) (a : c_sz C1 = c_sz C) (b : c_i C1 22 = c_i C 22) (c : c_a C1 17 = c_a C 17) (d : c_a C1 18 = c_a C 18) : gCl C1 := by
  unfold gCl at G ⊢
  rw [a, b, c, d]
  exact G
theorem tx_cg (T : ∃ T, txC C T ∧ txM M T) (a : c_i C1 23 = c_i C 23) (b : c_a C1 19 = c_a C 19) (c : m_i M1 35 = m_i M 35) (d : m_a M1 29 = m_a M 29) : ∃ T, txC C1 T ∧ txM M1 T := by
  unfold txC txM at T ⊢
  rw [a, b, c, d]
  exact T
theorem Rel.mono (R : Rel lim C M) {lim2 : Nat} (h : lim ≤ lim2) : Rel lim2 C M := by
  obtain ⟨r1, r2, ⟨p1, p2, p3, p4⟩, r4, r5⟩ := R
  refine ⟨r1, r2, ⟨p1, p2, p3, ?_⟩, r4, r5⟩
  rcases p4 with p4 | ⟨q1, na, q2, q3⟩
  · exact Or.inl p4
  · refine Or.inr ⟨q1, na, q2, ?_⟩
    rcases q3 with q3 | ⟨s, pc, cs, sd, q4, q5, q6⟩
    · exact Or.inl q3
    · exact Or.inr ⟨s, pc, cs, sd, q4, q5, by omega⟩
theorem Rel.wr (R : Rel lim C M) (A : RelA C1 M1) (f : wrC C C1) (g : wrM (m_iS M 2 0) M1) : Rel lim C1 M1 := by
  obtain ⟨r1, r2, r3, r4, r5⟩ := R
  obtain ⟨f1, f2, f3, f4, f5, f6, f7, f8, f9, f10⟩ := f
  obtain ⟨g1, g2, g3⟩ := g
  have h1 : ∀ k, 18 < k → m_i M1 k = m_i M k := fun k q => by rw [g1 k (by omega), ms_i_iS, if_neg (by omega)]
  exact ⟨A, r2.cg (f5 0 (by omega)) (f6 0 (by omega)) (h1 19 (by omega)) (g2 9 (by omega)), r3.cg (f5 1 (by omega)) (f5 2 (by omega)) f2 f3 f4 (fun k q1 q2 => f5 k (by omega)) (f8 _) (fun k => f9 k _) (f6 15 (by omega)) (f6 16 (by omega)) (fun k q1 q2 => h1 k (by omega)) (fun k q1 q2 => g2 k (by omega)) (g2 10 (by omega)) (g3 0), r4.cg f1 (f5 22 (by omega)) (f6 17 (by omega)) (f6 18 (by omega)), tx_cg r5 (f5 23 (by omega)) (f6 19 (by omega)) (h1 35 (by omega)) (g2 29 (by omega))⟩
theorem Rel.tf (R : Rel lim C M) (T : RelT C1 M1) (f : tfC C C1) (g : tfM (m_iS M 2 0) M1) : Rel lim C1 M1 := by
  obtain ⟨r1, r2, r3, r4, r5⟩ := R
  obtain ⟨f1, f2, f3, f4, f5, f6, f7, f8, f9, f10⟩ := f
  obtain ⟨g1, g2, g3⟩ := g
  have h1 : ∀ k, k ≠ 19 → k ≠ 2 → m_i M1 k = m_i M k := fun k q r => by rw [g1 k q, ms_i_iS, if_neg r]
  exact ⟨r1.cg f1 (fun k q1 q2 => f5 k (by omega)) (fun k q1 q2 => f6 k (by omega)) (fun k q1 q2 => h1 k (by omega) q1) (fun k q => g2 k (by omega)), T, r3.cg (f5 1 (by omega)) (f5 2 (by omega)) f2 f3 f4 (fun k q1 q2 => f5 k (by omega)) (f8 _) (fun k => f9 k _) (f6 15 (by omega)) (f6 16 (by omega)) (fun k q1 q2 => h1 k (by omega) (by omega)) (fun k q1 q2 => g2 k (by omega)) (g2 10 (by omega)) (g3 0), r4.cg f1 (f5 22 (by omega)) (f6 17 (by omega)) (f6 18 (by omega)), tx_cg r5 (f5 23 (by omega)) (f6 19 (by omega)) (h1 35 (by omega) (by omega)) (g2 29 (by omega))⟩
theorem Rel.wf (R : Rel lim C M) (A : RelA C1 M1) (G : gCl C1) (f : wfC C C1) (g : wfM (m_iS M 2 0) M1) (T : ∃ T, txC C1 T ∧ txM M1 T) : Rel lim C1 M1 := by
  obtain ⟨r1, r2, r3, r4, r5⟩ := R
  obtain ⟨f1, f2, f3, f4, f5, f6, f7, f8, f9, f10⟩ := f
  obtain ⟨g1, g2, g3⟩ := g
  have h1 : ∀ k, k ≠ 34 → k ≠ 35 → k ≠ 2 → m_i M1 k = m_i M k := fun k q q2 r => by rw [g1 k q q2, ms_i_iS, if_neg r]
  exact ⟨A, r2.cg (f5 0 (by omega) (by omega)) (f6 0 (by omega)) (h1 19 (by omega) (by omega) (by omega)) (g2 9 (by omega)), r3.cg (f5 1 (by omega) (by omega)) (f5 2 (by omega) (by omega)) f2 f3 f4 (fun k q1 q2 => f5 k (by omega) (by omega)) (f8 _) (fun k => f9 k _) (f6 15 (by omega)) (f6 16 (by omega)) (fun k q1 q2 => h1 k (by omega) (by omega) (by omega)) (fun k q1 q2 => g2 k (by omega)) (g2 10 (by omega)) (g3 0), G, T⟩
theorem Rel.thr (R : Rel lim C M) (v : Int32) : Rel lim C (m_iS M 2 v) := by
  obtain ⟨r1, r2, r3, r4, r5⟩ := R
  exact ⟨r1.thr v, r2.cg rfl rfl rfl rfl, r3.cg rfl rfl rfl rfl rfl (fun _ _ _ => rfl) rfl (fun _ => rfl) rfl rfl (fun k q1 q2 => by rw [ms_i_iS, if_neg (by omega)]) (fun _ _ _ => rfl) rfl rfl, r4, tx_cg r5 rfl rfl rfl rfl⟩
/-- a call of both: the same answer, and alike after it -/
def cEq (lim : Nat) (pC : (Int32 → cS → Prop) → Prop) (pM : (Int32 → mS → Prop) → Prop) : Prop := ∃ e C1 M1, (∀ Q, Q e C1 → pC Q) ∧ (∀ Q, Q e M1 → pM Q) ∧ Rel lim C1 M1
theorem c_act (R : Rel lim C M) (a b c d : Int32) : cEq lim (p_X10_act a b c d C) (p_X11_act a b c d M) := by
  obtain ⟨e, C1, M1, h1, h2, h3, h4, h5⟩ := a_act (x := b) (y := c) (z := d) R.1 a
  exact ⟨e, C1, M1, h1, h2, R.wr h3 h4 h5⟩
theorem c_pass (R : Rel lim C M) (a : Int32) : cEq lim (p_X10_pass a C) (p_X11_pass a M) := by
  obtain ⟨e, C1, M1, h1, h2, h3, h4, h5⟩ := a_pass R.1 a
  exact ⟨e, C1, M1, h1, h2, R.wr h3 h4 h5⟩
theorem c_turn (R : Rel lim C M) : cEq lim (p_X10_turn C) (p_X11_turn M) := by
  obtain ⟨e, C1, M1, h1, h2, h3, h4, h5⟩ := a_turn R.1
  exact ⟨e, C1, M1, h1, h2, R.wr h3 h4 h5⟩
theorem c_memory (R : Rel lim C M) (a : Int32) : cEq lim (p_X10_memory a C) (p_X11_memory a M) := by
  obtain ⟨e, C1, M1, h1, h2, h3, h4, h5⟩ := a_memory R.1 a
  exact ⟨e, C1, M1, h1, h2, R.wr h3 h4 h5⟩
theorem c_hand (R : Rel lim C M) (a b : Int32) : cEq lim (p_X10_hand a b C) (p_X11_hand a b M) := by
  obtain ⟨e, C1, M1, h1, h2, h3, h4, h5⟩ := a_hand (x := a) R.1 b
  exact ⟨e, C1, M1, h1, h2, R.wr h3 h4 h5⟩
theorem c_stack (R : Rel lim C M) (a b : Int32) : cEq lim (p_X10_stack a b C) (p_X11_stack a b M) := by
  obtain ⟨e, C1, M1, h1, h2, h3, h4, h5⟩ := a_stack (x := a) R.1 b
  exact ⟨e, C1, M1, h1, h2, R.wr h3 h4 h5⟩
theorem c_slot (R : Rel lim C M) (a b c : Int32) : cEq lim (p_X10_slot a b c C) (p_X11_slot a b c M) := by
  obtain ⟨e, C1, M1, h1, h2, h3, h4, h5⟩ := a_slot (x := a) R.1 b c
  exact ⟨e, C1, M1, h1, h2, R.wr h3 h4 h5⟩
theorem c_reach (R : Rel lim C M) (a : Int32) : cEq lim (p_X10_reach a C) (p_X11_reach a M) := by
  obtain ⟨e, C1, M1, h1, h2, h3, h4, h5, h6, h7, h8⟩ := a_reach R.1 R.2.2.2.1 a
  exact ⟨e, C1, M1, h1, h2, R.wf h3 h4 h5 h6 (tx_cg R.2.2.2.2 h7.1 h7.2 h8.1 h8.2)⟩
theorem c_show (R : Rel lim C M) (a : Int32) : cEq lim (p_X10_show a C) (p_X11_show a M) := by
  obtain ⟨T, t1, t2⟩ := R.2.2.2.2
  obtain ⟨e, C1, M1, T1, h1, h2, h3, h4, h5, h6, h7, h8⟩ := a_show R.1 R.2.2.2.1 T t1 t2 a
  exact ⟨e, C1, M1, h1, h2, R.wf h3 h4 h5 h6 ⟨T1, h7, h8⟩⟩
theorem c_letter (R : Rel lim C M) (a : Int32) : cEq lim (p_X10_letter a C) (p_X11_letter a M) := by
  obtain ⟨T, t1, t2⟩ := R.2.2.2.2
  obtain ⟨e, h1, h2⟩ := a_letter t1 t2 a
  exact ⟨e, C, _, h1, h2, R.thr 0⟩
theorem c_feed (R : Rel lim C M) (a b c d e : Int32) : cEq lim (p_X10_feed a b c d e C) (p_X11_feed a b c d e M) := by
  obtain ⟨e, C1, M1, h1, h2, h3, h4, h5⟩ := a_feed R.2.1 a b c d e
  exact ⟨e, C1, M1, h1, h2, R.tf h3 h4 h5⟩
theorem c_end (R : Rel lim C M) (a : Int32) : cEq lim (p_X10_end a C) (p_X11_end a M) := by
  obtain ⟨e, C1, M1, h1, h2, h3, h4, h5⟩ := a_end R.2.1 a
  exact ⟨e, C1, M1, h1, h2, R.tf h3 h4 h5⟩
theorem c_fault (R : Rel lim C M) : cEq lim (p_X10_fault C) (p_X11_fault M) :=
  ⟨c_i C 2, C, _, fun Q hQ => hQ, fun Q hQ => by
    show Q (m_i M 27) (m_iS M 2 0)
    rw [← R.2.2.1.1]; exact hQ, R.thr 0⟩
theorem c_program (R : Rel lim C M) : cEq lim (p_X10_program C) (p_X11_program M) := by
  obtain ⟨r1, r2, r3, r4, r5⟩ := id R
  rcases a_program r2 r3.2.2.1 r3.2.1 with ⟨na, C1, M1, h1, h2, h3, h4, h5, h6, h7, h8, h9, h10, h11, h12, h13, ⟨f1, f2, f3, f4, f5⟩, ⟨g1, g2, g3⟩⟩ | ⟨e, C1, M1, h1, h2, h3, h4, h5, h6, h7, h8, h9, h10, h11, h12, h13, ⟨f1, f2, f3, f4, f5⟩, ⟨g1, g2, g3⟩⟩
  · refine ⟨nI na, C1, M1, h1, h2, r1.cg f1 (fun k q1 q2 => f3 k (by omega) (by omega)) (fun k q1 q2 => f4 k (by omega)) (fun k q1 q2 => g1 k q1 (by omega)) (fun k q => g2 k (by omega)), ⟨0, fun _ => 0, by omega, h11, h12, fun j hj => by omega, fun j hj => by omega⟩, ⟨by rw [h7, h8], by rw [h4, h5]; exact r3.2.1.symm, r3.2.2.1.cg g3 (g2 10 (by omega)), Or.inr ⟨h6, na, h3, Or.inl ⟨h9, h10⟩⟩⟩, r4.cg f1 (f3 22 (by omega) (by omega)) (f4 17 (by omega)) (f4 18 (by omega)), tx_cg r5 (f3 23 (by omega) (by omega)) (f4 19 (by omega)) (g1 35 (by omega) (by omega)) (g2 29 (by omega))⟩
  · have nb : c_cur C ≠ c_spa C := r3.2.1.symm
    have q : RelP lim C1 M1 := by
      obtain ⟨p1, p2, p3, p4⟩ := r3
      have id1 : idle C M → idle C1 M1 := fun h => ⟨fun k q1 q2 => by rw [h7 k q1 q2]; exact h.1 k q1 q2, by rw [h9]; exact h.2⟩
      refine ⟨h6, by rw [h3, h4]; exact p2, p3.cg g3 (g2 10 (by omega)), ?_⟩
      rcases p4 with ⟨q1, q2, q3⟩ | ⟨q1, na, q2, q3⟩
      · exact Or.inl ⟨by rw [h5]; exact q1, by rw [h8]; exact q2, id1 q3⟩
      · refine Or.inr ⟨by rw [h5]; exact q1, na, ?_, ?_⟩
        · rw [h3]
          exact q2.cg (f5 _ nb).1 (f5 _ nb).2.2 h8 (h10 22 (by omega)) (h10 23 (by omega)) (h10 24 (by omega))
        · rcases q3 with q3 | ⟨s, pc, cs, sd, q4, q5, q6⟩
          · exact Or.inl (id1 q3)
          · refine Or.inr ⟨s, pc, cs, sd, q4.cg f2 h3 h7 (f4 15 (by omega)) (f4 16 (by omega)) (fun k x1 x2 => ?_) (h10 25 (by omega)) (h10 26 (by omega)), by rw [h7 17 (by decide) (by decide), g1 29 (by omega) (by omega)]; exact q5, q6⟩
            by_cases e : k = 28
            · subst e; exact h9
            · exact g1 k (by omega) (by omega)
    exact ⟨e, C1, M1, h1, h2, r1.cg f1 (fun k q1 q2 => f3 k (by omega) (by omega)) (fun k q1 q2 => f4 k (by omega)) (fun k q1 q2 => g1 k q1 (by omega)) (fun k q => g2 k (by omega)), ⟨0, fun _ => 0, by omega, h11, h12, fun j hj => by omega, fun j hj => by omega⟩, q, r4.cg f1 (f3 22 (by omega) (by omega)) (f4 17 (by omega)) (f4 18 (by omega)), tx_cg r5 (f3 23 (by omega) (by omega)) (f4 19 (by omega)) (g1 35 (by omega) (by omega)) (g2 29 (by omega))⟩
end ZW18
