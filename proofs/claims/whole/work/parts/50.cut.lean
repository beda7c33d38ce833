/-! .. numbers, marks, the whole text -/
section ZC10
def dgv (u : Nat → Nat) (s : Nat) : Nat → Nat
  | 0 => 0
  | m + 1 => if 10 ≤ m then dgv u s m else dgv u s m * 10 + u (s + m) - 48
variable {C : cS} {M : mS} {n p q m L k a s : Nat} {u : Nat → Nat} {x : Int32} {W : Int64}
theorem dgC (D c : Nat) (h : isDg c) : ((lN D * 10) + ((nI c : Int32).toInt64)) - 48 = lN (D * 10 + c - 48) := by
  have h1 := h.1; have h2 := h.2
  have e : lN D * 10 = lN (D * 10) := lN_mul D 10
  rw [nI_l (by omega), e, lN_add]
  exact lN_sub (b := 48) (by omega)
theorem dgM (D c : Nat) (h : isDg c) : ((10 * lN D) + ((nI c : Int32).toInt64)) - 48 = lN (D * 10 + c - 48) := by
  have h1 := h.1; have h2 := h.2
  have e : 10 * lN D = lN (10 * D) := lN_mul 10 D
  rw [nI_l (by omega), e, lN_add, Nat.mul_comm]
  exact lN_sub (b := 48) (by omega)
theorem e_dgC {Q : Int32 → cS → Prop} {K : Int32 → Int32 → Int32 → Int32 → Int64 → cS → Prop} {l4 : Int32} (T : tpC (c_a C 0) n u) (hn : n ≤ 2000) (hqn : q ≤ n) (hw : ∀ j, s ≤ j → j < q → isDg (u j)) (hq : q = n ∨ (q < n ∧ ¬ isDg (u q))) (hK : K (nI p) l4 (nI s) (nI q) (lN (dgv u s (q - s))) C) :
    ∀ d m, s + m + d = q → ∃ N, w_X8_cutNumber_36 Q K N (nI p) (nI n) l4 (nI s) (nI (s + m)) (lN (dgv u s m)) C := by
  intro d
  induction d with
  | zero =>
    intro m hm
    have e : q - s = m := by omega
    have e2 : s + m = q := by omega
    rw [e] at hK
    rw [e2]
    rcases hq with h | ⟨h1, h2⟩
    · exact ⟨1, ⟨fun _ => hK, fun r => absurd (by rw [h, ni_le (by omega) (by omega)]; omega) r⟩⟩
    · refine ⟨1, ⟨fun r => absurd r (by rw [ni_le (by omega) (by omega)]; omega), fun _ => ⟨(ni_in (by omega)).mpr (by omega), ?_⟩⟩⟩
      rw [ni_cl (by omega)]
      exact e_dg (T q h1) (fun l => absurd l h2) (fun _ => ⟨fun _ => hK, fun r => absurd rfl r⟩)
  | succ d ih =>
    intro m hm
    obtain ⟨N, hN⟩ := ih (m + 1) (by omega)
    have hc := hw (s + m) (by omega) (by omega)
    have hl := hc.2
    have t := T (s + m) (by omega)
    have hx : c_a C 0 (s + m) = nI (u (s + m)) := by
      rcases t with t | t
      · exact t.2
      · omega
    have hs : nI (s + m) - nI s = nI m := by rw [ni_sub (by omega)]; congr 1; omega
    have hd : dgv u s (m + 1) = if 10 ≤ m then dgv u s m else dgv u s m * 10 + u (s + m) - 48 := rfl
    refine ⟨N + 1, ⟨fun r => absurd r (by rw [ni_le (by omega) (by omega)]; omega), fun _ => ⟨(ni_in (by omega)).mpr (by omega), ?_⟩⟩⟩
    rw [ni_cl (by omega)]
    refine e_dg t (fun _ => ⟨fun r => absurd r (by decide), fun _ => ⟨fun r v hv2 => ?_, fun r v hv2 w hw2 => ?_⟩⟩) (fun g => absurd hc g)
    · rw [hs, ni_lle (by omega) (by decide)] at r
      rw [nI_1] at hv2
      subst hv2
      rw [hd, if_pos r] at hN
      exact hN
    · rw [hs, ni_lle (by omega) (by decide)] at r
      rw [nI_1] at hw2
      rw [hx, dgC _ _ hc] at hv2
      subst hv2
      subst hw2
      rw [hd, if_neg r] at hN
      exact hN
theorem e_dgM {Q : Int32 → mS → Prop} {K : Int32 → Int32 → Int32 → Int64 → mS → Prop} (T : tpM (m_a M 9) n u) (h19 : m_i M 19 = nI n) (hn : n ≤ 2000) (hqn : q ≤ n) (hw : ∀ j, s ≤ j → j < q → isDg (u j)) (hq : q = n ∨ (q < n ∧ ¬ isDg (u q))) (hK : K (nI p) (nI q) (nI s) (lN (dgv u s (q - s))) M) :
    ∀ d m, s + m + d = q → ∃ N, w_X11_number_24 Q K N (nI p) (nI (s + m)) (nI s) (lN (dgv u s m)) M := by
  intro d
  induction d with
  | zero =>
    intro m hm
    have e : q - s = m := by omega
    have e2 : s + m = q := by omega
    rw [e] at hK
    rw [e2]
    have h3 : ∀ R : Prop, q < n → isDg (u q) → R := by
      intro R a b
      rcases hq with h | ⟨h1, h2⟩
      · omega
      · exact absurd b h2
    refine ⟨1, ?_⟩
    show b_X11_number_24 (w_X11_number_24 Q K 0) Q K (nI p) (nI q) (nI s) _ M
    unfold b_X11_number_24
    exact m_dg T h19 hn (by omega) (fun a l => h3 _ a l) (fun _ => ⟨fun _ => hK, fun r => absurd rfl r⟩)
  | succ d ih =>
    intro m hm
    obtain ⟨N, hN⟩ := ih (m + 1) (by omega)
    have hc := hw (s + m) (by omega) (by omega)
    have hs : nI (s + m) - nI s = nI m := by rw [ni_sub (by omega)]; congr 1; omega
    have hd : dgv u s (m + 1) = if 10 ≤ m then dgv u s m else dgv u s m * 10 + u (s + m) - 48 := rfl
    refine ⟨N + 1, ?_⟩
    show b_X11_number_24 (w_X11_number_24 Q K N) Q K (nI p) (nI (s + m)) (nI s) _ M
    unfold b_X11_number_24
    refine m_dg T h19 hn (by omega) (fun _ _ => ⟨fun r => absurd r (by decide), fun _ => ⟨fun r v hv2 => ?_, fun r => ⟨(ni_in (by omega)).mpr (by omega), fun v hv2 w hw2 => ?_⟩⟩⟩) (fun g => absurd ⟨by omega, hc⟩ g)
    · rw [hs, ni_lle (by omega) (by decide)] at r
      rw [nI_1] at hv2
      subst hv2
      rw [hd, if_pos r] at hN
      exact hN
    · rw [hs, ni_lle (by omega) (by decide)] at r
      rw [nI_1] at hw2
      rw [ni_cl (by omega), (T (s + m) (by omega)).2, dgM _ _ hc] at hv2
      subst hv2
      subst hw2
      rw [hd, if_neg r] at hN
      exact hN
theorem w32 (W : Int64) : W = W.toInt32.toInt64 ↔ (-2147483648 ≤ W ∧ W ≤ 2147483647) := by
  rw [← Int64.toInt_inj, Int64.le_iff_toInt_le, Int64.le_iff_toInt_le]
  have e : (W.toInt32.toInt64).toInt = W.toInt.bmod (2 ^ 32) := by rw [Int32.toInt_toInt64, Int64.toInt_toInt32]
  have a : (-2147483648 : Int64).toInt = -2147483648 := by decide
  have b : (2147483647 : Int64).toInt = 2147483647 := by decide
  rw [e, a, b, Int.bmod_def]
  by_cases h : W.toInt % ((2 ^ 32 : Nat) : Int) < (((2 ^ 32 : Nat) : Int) + 1) / 2
  · rw [if_pos h]; omega
  · rw [if_neg h]; omega
def okN (s q : Nat) (W : Int64) : Prop := q ≠ s ∧ q - s ≤ 10 ∧ W = W.toInt32.toInt64
theorem e_numC {Q : Int32 → cS → Prop} (hs : s ≤ q) (hq : q ≤ 2000) (a : okN s q W → p_X8_add 0 (nI p) W.toInt32 0 C (fun C' => Q (nI q) C')) (b : ¬ okN s q W → Q (-1) C) : j_X8_cutNumber_104 Q (nI p) (nI s) (nI q) W C := by
  have e : nI q - nI s = nI (q - s) := ni_sub hs
  refine ⟨fun r => b fun h => h.1 ((ni_eq (by omega) (by omega)).mp r), fun r1 => ⟨fun r => b fun h => ?_, fun r2 => ⟨fun r => a ⟨?_, ?_, ?_⟩, fun r => b fun h => r ?_⟩⟩⟩
  · rw [e, ni_llt (by omega) (by decide)] at r
    have := h.2.1
    omega
  · intro h; exact r1 (by rw [h])
  · rw [e, ni_llt (by omega) (by decide)] at r2; omega
  · rw [lg_cmp_eq] at r; exact r
  · rw [lg_cmp_eq]; exact h.2.2
theorem e_numM {Q : Int32 → mS → Prop} (hs : s ≤ q) (hq : q ≤ 2000) (a : okN s q W → p_X11_token 4 (nI p) (nI q - nI p) M (fun Mz26 => p_X11_good Mz26 (fun rz28 Mz27 => ((rz28 = 0 → Q (nI q) Mz27) ∧ (¬ rz28 = 0 → vp_in ((m_i Mz27 20) - 1) 2001 ∧ Q (nI q) (m_aU Mz27 14 ((m_i Mz27 20) - 1) ((W : Int64).toInt32))))))) (b : ¬ okN s q W → j_X11_number_107 Q (nI p) (nI q) W M) : j_X11_number_76 Q (nI p) (nI q) (nI s) W M := by
  have e : nI q - nI s = nI (q - s) := ni_sub hs
  refine ⟨fun r => b fun h => h.1 ((ni_eq (by omega) (by omega)).mp r), fun r1 => ⟨fun r => b fun h => ?_, fun r2 => ⟨fun r => b fun h => ?_, fun r3 => ⟨fun r4 => a ⟨?_, ?_, ?_⟩, fun r => b fun h => r ?_⟩⟩⟩⟩
  · rw [e, ni_llt (by omega) (by decide)] at r
    have := h.2.1
    omega
  · rw [lg_cmp_lt] at r
    exact absurd r (Int64.not_lt.mpr ((w32 W).mp h.2.2).1)
  · intro h; exact r1 (by rw [h])
  · rw [e, ni_llt (by omega) (by decide)] at r2; omega
  · rw [lg_cmp_lt] at r3
    rw [lg_cmp_le] at r4
    exact (w32 W).mpr ⟨Int64.not_lt.mp r3, r4⟩
  · rw [lg_cmp_le]; exact ((w32 W).mp h.2.2).2
theorem a_numE (T : TK C M n u k p) (hp : p < n) (hpq : p < q) (hqn : q ≤ n) (hs : s ≤ q) (W : Int64) :
    (∃ C1 M1, (∀ Q, Q (nI q) C1 → j_X8_cutNumber_104 Q (nI p) (nI s) (nI q) W C) ∧ (∀ Q, Q (nI q) M1 → j_X11_number_76 Q (nI p) (nI q) (nI s) W M) ∧ TK C1 M1 n u (k + 1) q ∧ cfC C C1 ∧ cfM M M1) ∨ (∃ M1, (∀ Q, Q (-1) C → j_X8_cutNumber_104 Q (nI p) (nI s) (nI q) W C) ∧ (∀ Q, Q (nI q) M1 → j_X11_number_76 Q (nI p) (nI q) (nI s) W M) ∧ m_i M1 22 = 1 ∧ m_i M1 23 = nI p ∧ cfM M M1 ∧ m_i M1 20 = m_i M 20) := by
  obtain ⟨t1, t2, t3, t4, t5, t6, t7, t8, t9, t10, t11⟩ := id T
  by_cases h : okN s q W
  · left
    obtain ⟨C1, c1, c2, c3, c4, c5, c6, c7, c8⟩ := e_addC t1 (by omega) 0 (nI p) W.toInt32 0
    obtain ⟨M1, d1, d2, d3, d4, d5, d6, d7, d8, d9⟩ := e_tokM t2 (by omega) 4 (nI p) (nI q - nI p)
    obtain ⟨f1, f2, f3⟩ := e_valM (by omega) d6 d7 W.toInt32
    have k20 : nI (k + 1) - 1 = nI k := nI_pred k
    refine ⟨C1, m_aU M1 14 (nI k) W.toInt32, fun Q hQ => e_numC hs (by omega) (fun _ => c1 _ hQ) (fun r => absurd h r), fun Q hQ => e_numM hs (by omega) (fun _ => d1 _ (e_good (d8.trans t6) _ ⟨fun r => absurd r (by decide), fun _ => ⟨?_, ?_⟩⟩)) (fun r => absurd h r), T.up hpq c2 d2 c7 f1 c8 f2 (d8.trans t6) ⟨?_, Or.inl ⟨c3, d3, by rw [c5, f3]⟩⟩, c8, f2⟩
    · rw [d2, k20]; exact (ni_in (by omega)).mpr (by omega)
    · rw [d2, k20]; exact hQ
    · rw [c4]; exact d4.symm
  · right
    refine ⟨m_iS (m_iS M 22 1) 23 (nI p), fun Q hQ => e_numC hs (by omega) (fun r => absurd r h) (fun _ => hQ), fun Q hQ => e_numM hs (by omega) (fun r => absurd r h) (fun _ => ?_), rfl, rfl, (cfM.rf M).f, rfl⟩
    exact e_fails t6 1 (nI p) _ (e_bad (by show ¬ (1 : Int32) = 0; decide) _ ⟨fun _ => hQ, fun r => absurd rfl r⟩)
theorem a_number (T : TK C M n u k p) (hp : p < n) (hd : isDg (u p) ∨ u p = 45) : ctR C M n u k p (p_X8_cutNumber (nI p) (nI n) C) (p_X11_number (nI p) M) := by
  obtain ⟨t1, t2, t3, t4, t5, t6, t7, t8, t9, t10, t11⟩ := id T
  have t := t9 p hp
  obtain ⟨w1, w2⟩ := t10 p hp
  have i1 : vp_in (nI p) 2000 := (ni_in (by omega)).mpr (by omega)
  by_cases h45 : u p = 45
  · obtain ⟨q, q1, q2, q3, q4⟩ := run_end (fun j => isDg (u j)) n (n - (p + 1)) (p + 1) (by omega)
    have vC : ∀ Q, j_X8_cutNumber_104 Q (nI p) (nI (p + 1)) (nI q) (-lN (dgv u (p + 1) (q - (p + 1)))) C → p_X8_cutNumber (nI p) (nI n) C Q := by
      intro Q h
      refine ⟨i1, ?_⟩
      rw [ni_cl (by omega)]
      refine ⟨fun r => absurd ((rb_eq t (by decide)).mpr h45) r, fun _ v hv2 => ?_⟩
      rw [nI_1] at hv2
      subst hv2
      exact e_dgC t9 t4 q2 q3 q4 ⟨fun r => absurd r (by decide), fun _ => h⟩ (q - (p + 1)) 0 (by omega)
    have vM : ∀ Q, j_X11_number_76 Q (nI p) (nI q) (nI (p + 1)) (-lN (dgv u (p + 1) (q - (p + 1)))) M → p_X11_number (nI p) M Q := by
      intro Q h
      refine ⟨i1, ?_⟩
      rw [ni_cl (by omega), w2]
      refine ⟨fun r => absurd ((ni_eql (by omega) (by decide)).mpr h45) r, fun _ v hv2 => ?_⟩
      rw [nI_1] at hv2
      subst hv2
      refine e_dgM t10 t8 t4 q2 q3 q4 ⟨fun r => absurd r ?_, fun _ v hv2 => ?_⟩ (q - (p + 1)) 0 (by omega)
      · rw [ni_le (by omega) (by omega)]; omega
      · subst hv2; exact h
    rcases a_numE (s := p + 1) T hp (by omega) q2 q1 (-lN (dgv u (p + 1) (q - (p + 1)))) with ⟨C1, M1, e1, e2, e3, e4, e5⟩ | ⟨M1, e1, e2, e3, e4, e5⟩
    · exact Or.inl ⟨q, k + 1, C1, M1, by omega, q2, fun Q hQ => vC Q (e1 Q hQ), fun Q hQ => vM Q (e2 Q hQ), e3, e4, e5⟩
    · exact Or.inr ⟨q, M1, fun Q hQ => vC Q (e1 Q hQ), fun Q hQ => vM Q (e2 Q hQ), e3, e4, e5⟩
  · have hdg : isDg (u p) := by
      rcases hd with h | h
      · exact h
      · exact absurd h h45
    obtain ⟨q, q1, q2, q3, q4⟩ := run_end (fun j => isDg (u j)) n (n - p) p (by omega)
    have hpq : p < q := by
      rcases q4 with h | ⟨h, h2⟩
      · omega
      · by_cases e : q = p
        · subst e; exact absurd hdg h2
        · omega
    have vC : ∀ Q, j_X8_cutNumber_104 Q (nI p) (nI p) (nI q) (lN (dgv u p (q - p))) C → p_X8_cutNumber (nI p) (nI n) C Q := by
      intro Q h
      refine ⟨i1, ?_⟩
      rw [ni_cl (by omega)]
      refine ⟨fun _ => ?_, fun r => absurd ((rb_eq t (by decide)).mp r) h45⟩
      exact e_dgC t9 t4 q2 q3 q4 ⟨fun _ => h, fun r => absurd rfl r⟩ (q - p) 0 (by omega)
    have vM : ∀ Q, j_X11_number_76 Q (nI p) (nI q) (nI p) (lN (dgv u p (q - p))) M → p_X11_number (nI p) M Q := by
      intro Q h
      refine ⟨i1, ?_⟩
      rw [ni_cl (by omega), w2]
      refine ⟨fun _ => ?_, fun r => absurd ((ni_eql (by omega) (by decide)).mp r) h45⟩
      exact e_dgM t10 t8 t4 q2 q3 q4 ⟨fun _ => h, fun r => absurd (by rw [ni_le (by omega) (by omega)]; omega) r⟩ (q - p) 0 (by omega)
    rcases a_numE (s := p) T hp hpq q2 q1 (lN (dgv u p (q - p))) with ⟨C1, M1, e1, e2, e3, e4, e5⟩ | ⟨M1, e1, e2, e3, e4, e5⟩
    · exact Or.inl ⟨q, k + 1, C1, M1, hpq, q2, fun Q hQ => vC Q (e1 Q hQ), fun Q hQ => vM Q (e2 Q hQ), e3, e4, e5⟩
    · exact Or.inr ⟨q, M1, fun Q hQ => vC Q (e1 Q hQ), fun Q hQ => vM Q (e2 Q hQ), e3, e4, e5⟩
theorem TK.on (T : TK C M n u k p) (h : p ≤ q) : TK C M n u k q := by
  obtain ⟨t1, t2, t3, t4⟩ := T
  exact ⟨t1, t2, by omega, t4⟩
/-- one piece, at p -/
theorem a_one (T : TK C M n u k p) (hp : p < n) : ctR C M n u k p (p_X8_cutOne (nI p) (nI n) C) (fun R => ∀ Q K, b_X11_cut_7 R Q K (nI p) M) := by
  obtain ⟨t1, t2, t3, t4, t5, t6, t7, t8, t9, t10, t11⟩ := id T
  have t := t9 p hp
  obtain ⟨w1, w2⟩ := t10 p hp
  have i1 : vp_in (nI p) 2000 := (ni_in (by omega)).mpr (by omega)
  have x32 : (c_a C 0 p = 32) ↔ u p = 32 := rb_eq t (by decide)
  have x10 : (c_a C 0 p = 10) ↔ u p = 10 := rb_eq t (by decide)
  have x58 : (c_a C 0 p = 58) ↔ u p = 58 := rb_eq t (by decide)
  have x59 : (c_a C 0 p = 59) ↔ u p = 59 := rb_eq t (by decide)
  have x45 : (c_a C 0 p = 45) ↔ u p = 45 := rb_eq t (by decide)
  have y32 : (m_a M 9 p = 32) ↔ u p = 32 := by rw [w2]; exact ni_eql (by omega) (by decide)
  have y10 : (m_a M 9 p = 10) ↔ u p = 10 := by rw [w2]; exact ni_eql (by omega) (by decide)
  have y58 : (m_a M 9 p = 58) ↔ u p = 58 := by rw [w2]; exact ni_eql (by omega) (by decide)
  have y59 : (m_a M 9 p = 59) ↔ u p = 59 := by rw [w2]; exact ni_eql (by omega) (by decide)
  have y45 : (m_a M 9 p = 45) ↔ u p = 45 := by rw [w2]; exact ni_eql (by omega) (by decide)
  have p1 : nI p + 1 = nI (p + 1) := nI_1 p
  have hdM : ∀ (R : Int32 → mS → Prop) (Q K : mS → Prop), (∀ v : Int32, v = m_a M 9 p → ((v = 32 → ∀ vz8 : Int32, vz8 = nI p + 1 → R vz8 M) ∧ (¬ v = 32 → ((¬ v = 10 → p_X11_isLetter (nI p) M (fun rz11 Mz10 => ((rz11 = 0 → p_X11_isDigit (nI p) Mz10 (fun rz14 Mz13 => ((¬ rz14 = 0 → p_X11_number (nI p) Mz13 (fun rz17 Mz16 => R rz17 Mz16)) ∧ (rz14 = 0 → ((¬ v = 45 → ((v = 58 → ((¬ v = 58 → p_X11_token 6 (nI p) 1 Mz13 (fun Mz21 => ∀ vz22 : Int32, vz22 = nI p + 1 → R vz22 Mz21)) ∧ (v = 58 → p_X11_token 5 (nI p) 1 Mz13 (fun Mz23 => ∀ vz24 : Int32, vz24 = nI p + 1 → R vz24 Mz23)))) ∧ (¬ v = 58 → ((¬ v = 59 → p_X11_fails 1 (nI p) Mz13 (fun Mz26 => R (nI p) Mz26)) ∧ (v = 59 → ((¬ v = 58 → p_X11_token 6 (nI p) 1 Mz13 (fun Mz28 => ∀ vz29 : Int32, vz29 = nI p + 1 → R vz29 Mz28)) ∧ (v = 58 → p_X11_token 5 (nI p) 1 Mz13 (fun Mz30 => ∀ vz31 : Int32, vz31 = nI p + 1 → R vz31 Mz30)))))))) ∧ (v = 45 → p_X11_number (nI p) Mz13 (fun rz33 Mz32 => R rz33 Mz32))))))) ∧ (¬ rz11 = 0 → p_X11_name (nI p) Mz10 (fun rz35 Mz34 => R rz35 Mz34))))) ∧ (v = 10 → ∀ vz36 : Int32, vz36 = nI p + 1 → R vz36 M))))) → b_X11_cut_7 R Q K (nI p) M := by
    intro R Q K h
    refine ⟨fun r => absurd r ?_, fun _ => e_good t6 _ ⟨fun r => absurd r (by decide), fun _ => ⟨i1, fun v hv2 => ?_⟩⟩⟩
    · rw [t8, ni_le (by omega) (by omega)]; omega
    · rw [ni_cl (by omega)] at hv2
      exact h v hv2
  by_cases h32 : u p = 32
  · left
    refine ⟨p + 1, k, C, M, by omega, by omega, fun Q hQ => ⟨i1, fun v hv2 => ?_⟩, fun R hR Q K => hdM R Q K fun v hv2 => ?_, T.on (by omega), cfC.rf C, cfM.rf M⟩
    · rw [ni_cl (by omega)] at hv2
      subst hv2
      exact ⟨fun _ => by rw [p1]; exact hQ, fun r => absurd (x32.mpr h32) r⟩
    · subst hv2
      exact ⟨fun _ w hw => by rw [p1] at hw; subst hw; exact hR, fun r => absurd (y32.mpr h32) r⟩
  have c32 := mt x32.mp h32
  have d32 := mt y32.mp h32
  by_cases h10 : u p = 10
  · left
    refine ⟨p + 1, k, C, M, by omega, by omega, fun Q hQ => ⟨i1, fun v hv2 => ?_⟩, fun R hR Q K => hdM R Q K fun v hv2 => ?_, T.on (by omega), cfC.rf C, cfM.rf M⟩
    · rw [ni_cl (by omega)] at hv2
      subst hv2
      exact ⟨fun r => absurd r c32, fun _ => ⟨fun r => absurd (x10.mpr h10) r, fun _ => by rw [p1]; exact hQ⟩⟩
    · subst hv2
      exact ⟨fun r => absurd r d32, fun _ => ⟨fun r => absurd (y10.mpr h10) r, fun _ w hw => by rw [p1] at hw; subst hw; exact hR⟩⟩
  have c10 := mt x10.mp h10
  have d10 := mt y10.mp h10
  by_cases hl : isLt (u p)
  · have c58 : ¬ c_a C 0 p = 58 := fun r => by have := x58.mp r; have := hl.1; omega
    have c59 : ¬ c_a C 0 p = 59 := fun r => by have := x59.mp r; have := hl.1; omega
    have vC : ∀ Q, p_X8_cutName (nI p) (nI n) C Q → p_X8_cutOne (nI p) (nI n) C Q := by
      intro Q h
      refine ⟨i1, fun v hv2 => ?_⟩
      rw [ni_cl (by omega)] at hv2
      subst hv2
      exact ⟨fun r => absurd r c32, fun _ => ⟨fun _ => ⟨fun r => absurd r c58, fun _ => ⟨fun _ => e_lt t (fun _ => ⟨fun r => absurd r (by decide), fun _ => h⟩) (fun g => absurd hl g), fun r => absurd r c59⟩⟩, fun r => absurd r c10⟩⟩
    have vM : ∀ R, p_X11_name (nI p) M R → ∀ Q K, b_X11_cut_7 R Q K (nI p) M := by
      intro R h Q K
      refine hdM R Q K fun v hv2 => ?_
      subst hv2
      exact ⟨fun r => absurd r d32, fun _ => ⟨fun _ => m_lt t10 t8 t4 (by omega) (fun _ _ => ⟨fun r => absurd r (by decide), fun _ => h⟩) (fun g => absurd ⟨hp, hl⟩ g), fun r => absurd r d10⟩⟩
    rcases a_name T hp hl with ⟨q, k1, C1, M1, e1, e2, e3, e4, e5, e6, e7⟩ | ⟨q, M1, e1, e2, e3, e4, e5⟩
    · exact Or.inl ⟨q, k1, C1, M1, e1, e2, fun Q hQ => vC Q (e3 Q hQ), fun R hR => vM R (e4 R hR), e5, e6, e7⟩
    · exact Or.inr ⟨q, M1, fun Q hQ => vC Q (e1 Q hQ), fun R hR => vM R (e2 R hR), e3, e4, e5⟩
  by_cases hd : isDg (u p) ∨ u p = 45
  · have c58 : ¬ c_a C 0 p = 58 := fun r => by
      have e := x58.mp r
      rcases hd with h | h
      · have := h.2; omega
      · omega
    have c59 : ¬ c_a C 0 p = 59 := fun r => by
      have e := x59.mp r
      rcases hd with h | h
      · have := h.2; omega
      · omega
    have vC : ∀ Q, p_X8_cutNumber (nI p) (nI n) C Q → p_X8_cutOne (nI p) (nI n) C Q := by
      intro Q h
      refine ⟨i1, fun v hv2 => ?_⟩
      rw [ni_cl (by omega)] at hv2
      subst hv2
      refine ⟨fun r => absurd r c32, fun _ => ⟨fun _ => ⟨fun r => absurd r c58, fun _ => ⟨fun _ => e_lt t (fun g => absurd g hl) (fun _ => ⟨fun _ => ⟨fun _ => h, fun r => e_dg t (fun _ => ⟨fun r => absurd r (by decide), fun _ => h⟩) (fun g => ?_)⟩, fun r => absurd rfl r⟩), fun r => absurd r c59⟩⟩, fun r => absurd r c10⟩⟩
      rcases hd with h9 | h9
      · exact absurd h9 g
      · exact absurd (x45.mpr h9) r
    have vM : ∀ R, p_X11_number (nI p) M R → ∀ Q K, b_X11_cut_7 R Q K (nI p) M := by
      intro R h Q K
      refine hdM R Q K fun v hv2 => ?_
      subst hv2
      refine ⟨fun r => absurd r d32, fun _ => ⟨fun _ => m_lt t10 t8 t4 (by omega) (fun _ g => absurd g hl) (fun _ => ⟨fun _ => m_dg t10 t8 t4 (by omega) (fun _ _ => ⟨fun _ => h, fun r => absurd r (by decide)⟩) (fun g => ⟨fun r => absurd rfl r, fun _ => ⟨fun r => ?_, fun _ => h⟩⟩), fun r => absurd rfl r⟩), fun r => absurd r d10⟩⟩
      exfalso
      rcases hd with h9 | h9
      · exact g ⟨hp, h9⟩
      · exact r (y45.mpr h9)
    rcases a_number T hp hd with ⟨q, k1, C1, M1, e1, e2, e3, e4, e5, e6, e7⟩ | ⟨q, M1, e1, e2, e3, e4, e5⟩
    · exact Or.inl ⟨q, k1, C1, M1, e1, e2, fun Q hQ => vC Q (e3 Q hQ), fun R hR => vM R (e4 R hR), e5, e6, e7⟩
    · exact Or.inr ⟨q, M1, fun Q hQ => vC Q (e1 Q hQ), fun R hR => vM R (e2 R hR), e3, e4, e5⟩
  have nd1 : ¬ isDg (u p) := fun g => hd (Or.inl g)
  have c45 : ¬ c_a C 0 p = 45 := fun r => hd (Or.inr (x45.mp r))
  have d45 : ¬ m_a M 9 p = 45 := fun r => hd (Or.inr (y45.mp r))
  -- the reference, past letters and digits
  have vM : ∀ (R : Int32 → mS → Prop), ((m_a M 9 p = 58 → p_X11_token 5 (nI p) 1 M (fun Mz23 => ∀ vz24 : Int32, vz24 = nI p + 1 → R vz24 Mz23)) ∧ (¬ m_a M 9 p = 58 → ((¬ m_a M 9 p = 59 → p_X11_fails 1 (nI p) M (fun Mz26 => R (nI p) Mz26)) ∧ (m_a M 9 p = 59 → p_X11_token 6 (nI p) 1 M (fun Mz28 => ∀ vz29 : Int32, vz29 = nI p + 1 → R vz29 Mz28))))) → ∀ Q K, b_X11_cut_7 R Q K (nI p) M := by
    intro R h Q K
    refine hdM R Q K fun v hv2 => ?_
    subst hv2
    refine ⟨fun r => absurd r d32, fun _ => ⟨fun _ => m_lt t10 t8 t4 (by omega) (fun _ g => absurd g hl) (fun _ => ⟨fun _ => m_dg t10 t8 t4 (by omega) (fun _ g => absurd g nd1) (fun g => ⟨fun r => absurd rfl r, fun _ => ⟨fun _ => ⟨fun r => ⟨fun r2 => absurd r r2, fun _ => h.1 r⟩, fun r => ⟨fun r2 => (h.2 r).1 r2, fun r2 => ⟨fun _ => (h.2 r).2 r2, fun r3 => absurd r3 r⟩⟩⟩, fun r => absurd r d45⟩⟩), fun r => absurd rfl r⟩), fun r => absurd r d10⟩⟩
  by_cases h58 : u p = 58
  · left
    obtain ⟨C1, c1, c2, c3, c4, c5, c6, c7, c8⟩ := e_addC t1 (by omega) 4 (nI p) 0 0
    obtain ⟨M1, d1, d2, d3, d4, d5, d6, d7, d8, d9⟩ := e_tokM t2 (by omega) 5 (nI p) 1
    refine ⟨p + 1, k + 1, C1, M1, by omega, by omega, fun Q hQ => ⟨i1, fun v hv2 => ?_⟩, fun R hR => vM R ⟨fun _ => d1 _ fun w hw => by rw [p1] at hw; subst hw; exact hR, fun r => absurd (y58.mpr h58) r⟩, T.up (by omega) c2 d2 c7 d6 c8 d7 (d8.trans t6) ⟨by rw [c4, d4], Or.inr (Or.inr (Or.inr (Or.inr (Or.inl ⟨c3, d3⟩))))⟩, c8, d7⟩
    rw [ni_cl (by omega)] at hv2
    subst hv2
    exact ⟨fun r => absurd r c32, fun _ => ⟨fun _ => ⟨fun _ => ⟨fun r => absurd (x58.mpr h58) r, fun _ => c1 _ (by rw [p1]; exact hQ)⟩, fun r => absurd (x58.mpr h58) r⟩, fun r => absurd r c10⟩⟩
  have c58 := mt x58.mp h58
  have d58 := mt y58.mp h58
  by_cases h59 : u p = 59
  · left
    obtain ⟨C1, c1, c2, c3, c4, c5, c6, c7, c8⟩ := e_addC t1 (by omega) 5 (nI p) 0 0
    obtain ⟨M1, d1, d2, d3, d4, d5, d6, d7, d8, d9⟩ := e_tokM t2 (by omega) 6 (nI p) 1
    refine ⟨p + 1, k + 1, C1, M1, by omega, by omega, fun Q hQ => ⟨i1, fun v hv2 => ?_⟩, fun R hR => vM R ⟨fun r => absurd r d58, fun _ => ⟨fun r => absurd (y59.mpr h59) r, fun _ => d1 _ fun w hw => by rw [p1] at hw; subst hw; exact hR⟩⟩, T.up (by omega) c2 d2 c7 d6 c8 d7 (d8.trans t6) ⟨by rw [c4, d4], Or.inr (Or.inr (Or.inr (Or.inr (Or.inr ⟨c3, d3⟩))))⟩, c8, d7⟩
    rw [ni_cl (by omega)] at hv2
    subst hv2
    exact ⟨fun r => absurd r c32, fun _ => ⟨fun _ => ⟨fun r => absurd r c58, fun _ => ⟨fun r => absurd (x59.mpr h59) r, fun _ => ⟨fun _ => c1 _ (by rw [p1]; exact hQ), fun r => absurd r c58⟩⟩⟩, fun r => absurd r c10⟩⟩
  have c59 := mt x59.mp h59
  have d59 := mt y59.mp h59
  right
  refine ⟨p, m_iS (m_iS M 22 1) 23 (nI p), fun Q hQ => ⟨i1, fun v hv2 => ?_⟩, fun R hR => vM R ⟨fun r => absurd r d58, fun _ => ⟨fun _ => e_fails t6 1 (nI p) _ hR, fun r => absurd r d59⟩⟩, rfl, rfl, (cfM.rf M).f, rfl⟩
  rw [ni_cl (by omega)] at hv2
  subst hv2
  exact ⟨fun r => absurd r c32, fun _ => ⟨fun _ => ⟨fun r => absurd r c58, fun _ => ⟨fun _ => e_lt t (fun g => absurd g hl) (fun _ => ⟨fun _ => ⟨fun r => absurd r c45, fun _ => e_dg t (fun g => absurd g nd1) (fun _ => ⟨fun _ => hQ, fun r => absurd rfl r⟩)⟩, fun r => absurd rfl r⟩), fun r => absurd r c59⟩⟩, fun r => absurd r c10⟩⟩
theorem nlt1 (p : Nat) (h : p < 2147483648) : ¬ nI p < (-1 : Int32) := by
  intro r
  have := neg_lt (x := -1) (by decide) p h
  exact absurd (Int32.lt_trans r this) (Int32.lt_irrefl)
/-- all pieces from p on -/
theorem a_cutL : ∀ (d : Nat) {C : cS} {M : mS} {p k : Nat}, n - p ≤ d → p ≤ n → TK C M n u k p →
    (∃ C1 M1 k1, TK C1 M1 n u k1 n ∧ cfC C C1 ∧ cfM M M1 ∧ (∃ N, ∀ Q K32 K40, K40 C1 → w_X8_cut_12 Q K32 K40 N (nI n) (nI p) C) ∧ (∃ N, ∀ Q K, K M1 → w_X11_cut_7 Q K N (nI p) M)) ∨
    (∃ C1 M1 r, (r < n ∧ ∃ k, k ≤ 2000 ∧ m_i M1 20 = nI k) ∧ cfC C C1 ∧ cfM M M1 ∧ m_i M1 22 = 1 ∧ m_i M1 23 = nI r ∧ (∃ N, ∀ Q K32 K40, K32 (nI r) C1 → w_X8_cut_12 Q K32 K40 N (nI n) (nI p) C) ∧ (∃ N, ∀ Q K, K M1 → w_X11_cut_7 Q K N (nI p) M)) := by
  intro d
  induction d with
  | zero =>
    intro C M p k h1 h2 T
    have e : p = n := by omega
    subst e
    left
    have t4 := T.2.2.2.1
    have t8 := T.2.2.2.2.2.2.2.1
    refine ⟨C, M, k, T, cfC.rf C, cfM.rf M, ⟨1, fun Q K32 K40 hK => ⟨fun _ => hK, fun r => absurd (by rw [ni_le (by omega) (by omega)]; omega) r⟩⟩, ⟨1, fun Q K hK => ⟨fun _ => hK, fun r => absurd (by rw [t8, ni_le (by omega) (by omega)]; omega) r⟩⟩⟩
  | succ d ih =>
    intro C M p k h1 h2 T
    have t4 := T.2.2.2.1
    have t8 := T.2.2.2.2.2.2.2.1
    by_cases e : p = n
    · subst e
      left
      refine ⟨C, M, k, T, cfC.rf C, cfM.rf M, ⟨1, fun Q K32 K40 hK => ⟨fun _ => hK, fun r => absurd (by rw [ni_le (by omega) (by omega)]; omega) r⟩⟩, ⟨1, fun Q K hK => ⟨fun _ => hK, fun r => absurd (by rw [t8, ni_le (by omega) (by omega)]; omega) r⟩⟩⟩
    have hnp : ¬ nI n ≤ nI p := by rw [ni_le (by omega) (by omega)]; omega
    rcases a_one T (by omega) with ⟨q, k1, C1, M1, e1, e2, e3, e4, e5, e6, e7⟩ | ⟨q, M1, e1, e2, e3, e4, e5, e6⟩
    · have hlt : nI p < nI q := by rw [ni_lt (by omega) (by omega)]; exact e1
      rcases ih (p := q) (by omega) e2 e5 with ⟨C2, M2, k2, f1, f2, f3, ⟨N1, f4⟩, ⟨N2, f5⟩⟩ | ⟨C2, M2, r, f0, f1, f2, f3, f4, ⟨N1, f5⟩, ⟨N2, f6⟩⟩
      · exact Or.inl ⟨C2, M2, k2, f1, e6.tr f2, e7.tr f3, ⟨N1 + 1, fun Q K32 K40 hK => ⟨fun r => absurd r hnp, fun _ => e3 _ ⟨fun _ => f4 _ _ _ hK, fun r => absurd hlt r⟩⟩⟩, ⟨N2 + 1, fun Q K hK => e4 _ (f5 Q K hK) Q K⟩⟩
      · exact Or.inr ⟨C2, M2, r, f0, e6.tr f1, e7.tr f2, f3, f4, ⟨N1 + 1, fun Q K32 K40 hK => ⟨fun r => absurd r hnp, fun _ => e3 _ ⟨fun _ => f5 _ _ _ hK, fun r => absurd hlt r⟩⟩⟩, ⟨N2 + 1, fun Q K hK => e4 _ (f6 Q K hK) Q K⟩⟩
    · have t3 := T.2.2.1
      refine Or.inr ⟨C, M1, p, ⟨by omega, k, by omega, e6.trans T.2.1⟩, cfC.rf C, e5, e3, e4, ⟨1, fun Q K32 K40 hK => ⟨fun r => absurd r hnp, fun _ => e1 _ ⟨fun r => absurd r (nlt1 p (by omega)), fun _ => hK⟩⟩⟩, ⟨2, fun Q K hK => e2 _ ?_ Q K⟩⟩
      by_cases h : m_i M1 19 ≤ nI q
      · exact ⟨fun _ => hK, fun r => absurd h r⟩
      · exact ⟨fun r => absurd r h, fun _ => e_bad (by rw [e3]; decide) _ ⟨fun _ => hK, fun r => absurd rfl r⟩⟩
end ZC10
