/-! ACTS that make: class and reference -/
section ZA2
def RelA (C : cS) (M : mS) : Prop := ∃ (sz pr B O fl pa ro h mm ps k : Nat) (st ad sl mv P : Nat → Nat), RelM C M sz pr B O fl pa ro h mm ps (8 + h) st ad sl mv P ∧ c_a C 14 4 = m_i M 10 ∧ c_a C 14 6 = m_i M 12 ∧ c_i C 10 = nI k ∧ m_i M 1 = nI k ∧ 1 ≤ k ∧ k ≤ 6
/-- both come to an end, with the same answer, and alike -/
def aEq (C : cS) (M : mS) (pc : (Int32 → cS → Prop) → Prop) (pm : (Int32 → mS → Prop) → Prop) : Prop := ∃ (e : Int32) (C1 : cS) (M1 : mS), (∀ Q, Q e C1 → pc Q) ∧ (∀ Q, Q e M1 → pm Q) ∧ RelA C1 M1 ∧ wrC C C1 ∧ wrM M M1
/-- .. and the answer is 0 or above -/
abbrev P0 (e : Int32) : Prop := e = 0 ∨ ¬ e ≤ 0
def aEqN (C : cS) (M : mS) (pc : (Int32 → cS → Prop) → Prop) (pm : (Int32 → mS → Prop) → Prop) : Prop := ∃ (e : Int32) (C1 : cS) (M1 : mS), (∀ Q, Q e C1 → pc Q) ∧ (∀ Q, Q e M1 → pm Q) ∧ RelA C1 M1 ∧ wrC C C1 ∧ wrM M M1 ∧ P0 e
variable {C : cS} {M : mS} {sz pr B O fl pa ro h mm ps nx v t i n a r k : Nat} {st ad sl mv P : Nat → Nat} {x y s b hd rw9 : Int32}
theorem a_same {pc : (Int32 → cS → Prop) → Prop} {pm : (Int32 → mS → Prop) → Prop} (A : RelA C M) (e : Int32) (h1 : ∀ Q, Q e C → pc Q) (h2 : ∀ Q, Q e M → pm Q) : aEq C M pc pm := ⟨e, C, M, h1, h2, A, wrC.rf C, wrM.rf M⟩
theorem a_sameN {pc : (Int32 → cS → Prop) → Prop} {pm : (Int32 → mS → Prop) → Prop} (A : RelA C M) (e : Int32) (h1 : ∀ Q, Q e C → pc Q) (h2 : ∀ Q, Q e M → pm Q) (hp : P0 e := by decide) : aEqN C M pc pm := ⟨e, C, M, h1, h2, A, wrC.rf C, wrM.rf M, hp⟩
theorem aEqN.weak {pc : (Int32 → cS → Prop) → Prop} {pm : (Int32 → mS → Prop) → Prop} (h : aEqN C M pc pm) : aEq C M pc pm := by
  obtain ⟨e, C1, M1, h1, h2, h3, h4, h5, -⟩ := h
  exact ⟨e, C1, M1, h1, h2, h3, h4, h5⟩
theorem fin_lay (R : RelM C M sz pr B O fl pa ro h mm ps (8 + h) st ad sl mv P) (k4 : c_a C 14 4 = m_i M 10) (k6 : c_a C 14 6 = m_i M 12) (kc : c_i C 10 = nI k) (km : m_i M 1 = nI k) (kb : 1 ≤ k ∧ k ≤ 6) (hn : n ≤ 40) (hr : n + 2 ≤ ro - fl) (hr8 : r < 8) (hh : hd = 3 ∧ rw9 = 1 ∨ hd = 4 ∧ rw9 = 0) :
    ∃ (C1 : cS) (M1 : mS), (∀ Q : Int32 → cS → Prop, Q 0 C1 → p_X3_lay (nI n) hd C (fun rz7 Cz6 => p_X2_give (nI r) 2 rz7 Cz6 (fun rz9 Cz8 => Q rz9 Cz8))) ∧ (∀ Q, Q 0 M1 → mLay Q (nI r) (nI n) rw9 (nI (n + 2)) M) ∧ RelA C1 M1 ∧ wrC C C1 ∧ wrM M M1 := by
  obtain ⟨C1, M1, st', ad', sl', d1, d2, d3, d4, d5, d6⟩ := j_lay R hn hr hr8 hh
  refine ⟨_, M1, fun Q hQ => d1 _ ⟨(ni_in (by omega)).mpr (by omega), hQ⟩, d2, ⟨sz, pr, B, O, fl, pa, ro - (n + 2), h, mm, ps, k, st', ad', sl', mv, P, d3, ?_, ?_, ?_, ?_, kb⟩, (d4.1.u (by decide)).u (by decide), d5.1⟩
  · show c_a C1 14 4 = _
    rw [d4.2, d5.2]; exact k4
  · show c_a C1 14 6 = _
    rw [d6.1, d6.2]; exact k6
  · show c_i C1 10 = _
    rw [d4.1.2.2.2.2.1 10 (by omega)]; exact kc
  · rw [d5.1.1 1 (by omega)]; exact km
theorem RelM.cnt {x : Int32} {kx km : Nat} {z w : Int32} (hx : (x = 9 ∧ km = 15) ∨ (x = 10 ∧ km = 16) ∨ (x = 11 ∧ km = 17)) (hzw : z = w) (R : RelM C M sz pr B O fl pa ro h mm ps nx st ad sl mv P) : RelM (c_aU C 14 x z) (m_iS M km w) sz pr B O fl pa ro h mm ps nx st ad sl mv P := by
  subst hzw
  obtain ⟨G, S, T, H, Rt, V, k5, k7, k8, k9, k10, k11, k12⟩ := R
  rcases hx with ⟨rfl, rfl⟩ | ⟨rfl, rfl⟩ | ⟨rfl, rfl⟩
  · exact ⟨G, S, T, H, Rt, V, k5, k7, k8, rfl, k10, k11, k12⟩
  · exact ⟨G, S, T, H, Rt, V, k5, k7, k8, k9, rfl, k11, k12⟩
  · exact ⟨G, S, T, H, Rt, V, k5, k7, k8, k9, k10, rfl, k12⟩
/-- behind the passing -/
theorem j_room (R : RelM C (m_iS M 17 x) sz pr B O fl pa ro h mm ps (8 + h) st ad sl mv P) (k4 : c_a C 14 4 = m_i M 10) (k6 : c_a C 14 6 = m_i M 12) (kc : c_i C 10 = nI k) (km : m_i M 1 = nI k) (kb : 1 ≤ k ∧ k ≤ 6) (hn : n ≤ 40) (hr8 : r < 8) (hh : hd = 3 ∧ rw9 = 1 ∨ hd = 4 ∧ rw9 = 0) :
    ∃ (e : Int32) (C1 : cS) (M1 : mS), (∀ Q : Int32 → cS → Prop, Q e C1 → j_X3_makeRoom_53 (fun rz4 Cz3 => ((rz4 = 0 → p_X3_lay (nI n) hd Cz3 (fun rz7 Cz6 => p_X2_give (nI r) 2 rz7 Cz6 (fun rz9 Cz8 => Q rz9 Cz8))) ∧ (¬ rz4 = 0 → Q rz4 Cz3))) (nI (n + 2)) C) ∧
      (∀ Q, Q e M1 → j_X11_make_82 Q (nI r) (nI n) rw9 (nI (n + 2)) 1 x M) ∧ RelA C1 M1 ∧ wrC C C1 ∧ wrM M M1 ∧ P0 e := by
  have kM : m_i (m_iS M 17 x) 10 = m_i M 10 := rfl
  obtain ⟨G, ⟨⟨s0, s9, s11, s12, s13, s14, s15⟩, ⟨z0, z3, z4, z5, z6, z7, z8, z9⟩, h50⟩, -⟩ := id R
  obtain ⟨g1, g2, g3, -⟩ := id G
  have z6' : m_i M 6 = nI fl := z6
  have z7' : m_i M 7 = nI pa := z7
  have z8' : m_i M 8 = nI ro := z8
  have wM : wrM M (m_iS M 17 x) := (wrM.rf M).i (by decide)
  by_cases hroom : n + 2 ≤ ro - fl
  · obtain ⟨C1, M1, d1, d2, d3, d4, d5⟩ := fin_lay R k4 k6 kc km kb hn hroom hr8 hh
    refine ⟨0, C1, M1, fun Q hQ => ?_, fun Q hQ => ?_, d3, d4, wM.tr d5, by decide⟩
    · unfold j_X3_makeRoom_53
      rw [s15, s13, ni_sub (by omega), ni_lt (by omega) (by omega)]
      exact ⟨fun q => by omega, fun _ => ⟨fun _ => d1 Q hQ, fun q => absurd rfl q⟩⟩
    · unfold j_X11_make_82
      rw [z8', z6', ni_sub (by omega), ni_le (by omega) (by omega)]
      exact ⟨fun _ => ⟨fun _ => d2 Q hQ, fun q => absurd hroom q⟩, fun q => absurd q (by decide)⟩
  · by_cases hp : pa = fl
    · subst hp
      obtain ⟨C1, M1, fl', mm', st', ad', mv', P', e1, e2, e3, e4, e5, e6, e7⟩ := j_turn R k4 k6
      obtain ⟨G', ⟨⟨s0', s9', s11', s12', s13', s14', s15'⟩, ⟨z0', z3', z4', z5', z6'', z7'', z8'', z9'⟩, -⟩, -⟩ := id e3
      obtain ⟨g1', g2', g3', -⟩ := id G'
      have kc' : c_i C1 10 = nI k := by rw [e6.2.2.2.2.1 10 (by omega)]; exact kc
      have km' : m_i M1 1 = nI k := by rw [e7.1 1 (by omega)]; exact km
      by_cases hroom2 : n + 2 ≤ sz - fl'
      · obtain ⟨C2, M2, d1, d2, d3, d4, d5⟩ := fin_lay e3 e4 e5 kc' km' kb hn hroom2 hr8 hh
        refine ⟨0, C2, M2, fun Q hQ => ?_, fun Q hQ => ?_, d3, e6.tr d4, (wM.tr e7).tr d5, by decide⟩
        · unfold j_X3_makeRoom_53
          rw [s15, s13, s14, ni_sub (by omega), ni_lt (by omega) (by omega)]
          refine ⟨fun _ => ⟨fun _ => e1 _ ?_, fun q => absurd ((ni_le (by omega) (by omega)).mpr (Nat.le_refl _)) q⟩, fun q => by omega⟩
          rw [s15', s13', ni_sub (by omega), ni_lt (by omega) (by omega)]
          exact ⟨fun q => by omega, fun _ => ⟨fun _ => d1 Q hQ, fun q => absurd rfl q⟩⟩
        · unfold j_X11_make_82
          rw [z8', z6', z7', ni_sub (by omega), ni_le (by omega) (by omega)]
          refine ⟨fun _ => ⟨fun q => absurd q hroom, fun _ => ⟨fun _ => e2 _ ?_, fun q => absurd ((ni_le (by omega) (by omega)).mpr (Nat.le_refl _)) q⟩⟩, fun q => absurd q (by decide)⟩
          rw [z8'', z6'', ni_sub (by omega), ni_le (by omega) (by omega)]
          exact ⟨fun _ => d2 Q hQ, fun q => absurd hroom2 q⟩
      · have kk := e3.2.2.2.2.2.2
        have R2 := RelM.cnt (x := 10) (km := 16) (kx := 0) (Or.inr (Or.inl ⟨rfl, rfl⟩)) (congrArg (· + 1) kk.2.2.2.2.1) e3
        refine ⟨10, c_aU C1 14 10 (c_a C1 14 10 + 1), m_iS M1 16 (m_i M1 16 + 1), fun Q hQ => ?_, fun Q hQ => ?_, ⟨_, _, _, _, _, _, _, _, _, _, k, _, _, _, _, _, R2, e4, e5, kc', km', kb⟩, e6.u (by decide), (wM.tr e7).i (by decide), by decide⟩
        · unfold j_X3_makeRoom_53
          rw [s15, s13, s14, ni_sub (by omega), ni_lt (by omega) (by omega)]
          refine ⟨fun _ => ⟨fun _ => e1 _ ?_, fun q => absurd ((ni_le (by omega) (by omega)).mpr (Nat.le_refl _)) q⟩, fun q => by omega⟩
          rw [s15', s13', ni_sub (by omega), ni_lt (by omega) (by omega)]
          exact ⟨fun _ => ⟨fun q => absurd q (by decide), fun _ => hQ⟩, fun q => by omega⟩
        · unfold j_X11_make_82
          rw [z8', z6', z7', ni_sub (by omega), ni_le (by omega) (by omega)]
          refine ⟨fun _ => ⟨fun q => absurd q hroom, fun _ => ⟨fun _ => e2 _ ?_, fun q => absurd ((ni_le (by omega) (by omega)).mpr (Nat.le_refl _)) q⟩⟩, fun q => absurd q (by decide)⟩
          rw [z8'', z6'', ni_sub (by omega), ni_le (by omega) (by omega)]
          exact ⟨fun q => absurd q hroom2, fun _ => hQ⟩
    · have kk := R.2.2.2.2.2.2
      have R2 := RelM.cnt (x := 9) (km := 15) (kx := 0) (Or.inl ⟨rfl, rfl⟩) (congrArg (· + 1) kk.2.2.2.1) R
      refine ⟨9, c_aU C 14 9 (c_a C 14 9 + 1), m_iS (m_iS M 17 x) 15 (m_i M 15 + 1), fun Q hQ => ?_, fun Q hQ => ?_, ⟨_, _, _, _, _, _, _, _, _, _, k, _, _, _, _, _, R2, k4, k6, kc, km, kb⟩, (wrC.rf C).u (by decide), wM.i (by decide), by decide⟩
      · unfold j_X3_makeRoom_53
        rw [s15, s13, s14, ni_sub (by omega), ni_lt (by omega) (by omega), ni_le (by omega) (by omega)]
        exact ⟨fun _ => ⟨fun q => by omega, fun _ => ⟨fun q => absurd q (by decide), fun _ => hQ⟩⟩, fun q => by omega⟩
      · unfold j_X11_make_82
        rw [z8', z6', z7', ni_sub (by omega), ni_le (by omega) (by omega), ni_le (by omega) (by omega)]
        exact ⟨fun _ => ⟨fun q => absurd q hroom, fun _ => ⟨fun q => by omega, fun _ => hQ⟩⟩, fun q => absurd q (by decide)⟩
/-- MAKE -/
theorem a_make (A : RelA C M) (hr : r < 8) (hh : hd = 3 ∧ rw9 = 1 ∨ hd = 4 ∧ rw9 = 0) (w : Int32) : aEqN C M (p_X2_makeThing (nI r) w hd C) (p_X11_makes (nI r) w rw9 M) := by
  by_cases h0 : w < 0
  · exact a_sameN A 4 (fun Q hQ => ⟨fun _ => hQ, fun q => absurd h0 q⟩) (fun Q hQ => ⟨fun _ => hQ, fun q => absurd h0 q⟩)
  by_cases h40 : ¬ w ≤ 40
  · exact a_sameN A 4 (fun Q hQ => ⟨fun _ => hQ, fun _ => ⟨fun q => absurd q h40, fun _ => hQ⟩⟩) (fun Q hQ => ⟨fun _ => hQ, fun _ => ⟨fun q => absurd q h40, fun _ => hQ⟩⟩)
  replace h40 := Decidable.not_not.mp h40
  obtain ⟨n, hnb, rfl⟩ := ni_ex h0
  have hn : n ≤ 40 := (ni_lel hnb (by decide)).mp h40
  obtain ⟨sz, pr, B, O, fl, pa, ro, h, mm, ps, k, st, ad, sl, mv, P, R, k4, k6, kc, km, kb⟩ := A
  obtain ⟨N, hN⟩ : ∃ N, N = k * (n + 2) := ⟨_, rfl⟩
  have hNb : N ≤ 6 * 42 := by rw [hN]; exact Nat.mul_le_mul kb.2 (by omega)
  have eN : nI k * nI (n + 2) = nI N := by rw [pk_mul, hN]
  have g3 := R.1.2.2.1
  have g1 := R.1.1
  have s14 := R.2.1.1.2.2.2.2.2.1
  obtain ⟨e, C1, M1, fl', mm', ps', j', st', ad', mv', P', d1, d2, R1, ⟨n1, d4⟩, -, ⟨n3, d6⟩, d7, d8, d9, d10, d11⟩ := j_passN (N := N) (p0 := pa) (j := 0) _ rfl (Nat.zero_le _) (by omega) rfl R
  obtain ⟨G', ⟨⟨s0', s9', s11', s12', s13', s14', s15'⟩, ⟨z0', z3', z4', z5', z6', z7', z8', z9'⟩, -⟩, -, -, -, -, K'⟩ := id R1
  have g3' := G'.2.2.1
  have kc1 : c_i C1 10 = nI k := by rw [d8.1.2.2.2.2.1 10 (by omega)]; exact kc
  have km1 : m_i M1 1 = nI k := by rw [d9.1.1 1 (by omega)]; exact km
  have pw : ∀ Q, Q (nI j') (c_aU C1 14 6 (c_a C1 14 6 + nI j')) → p_X3_passWords (nI N) C Q := by
    intro Q hQ u hu
    rw [s14] at hu
    subst hu
    refine ⟨n1, d4 Q _ ?_⟩
    rw [s14', ni_sub (by omega), Nat.add_sub_cancel_left]
    exact hQ
  obtain ⟨mx, hmx⟩ : ∃ mx : Int32, mx = if c_a C1 14 11 < nI j' then nI j' else c_a C1 14 11 := ⟨_, rfl⟩
  have k11 : c_a C1 14 11 = m_i M1 17 := K'.2.2.2.2.2.1
  have R2 : RelM (c_aU (c_aU C1 14 6 (c_a C1 14 6 + nI j')) 14 11 mx) (m_iS M1 17 mx) sz pr B O fl' (pa + j') ro h mm' ps' (8 + h) st' ad' sl mv' P' := by
    obtain ⟨G, S, T, H, Rt, V, k5, k7, k8, k9, k10, k11, k12⟩ := R1
    exact ⟨G, S, T, H, Rt, V, k5, k7, k8, k9, k10, rfl, k12⟩
  have q4 : c_a (c_aU (c_aU C1 14 6 (c_a C1 14 6 + nI j')) 14 11 mx) 14 4 = m_i M1 10 := by
    show c_a C1 14 4 = _
    rw [d8.2, d9.2]; exact k4
  have q6 : c_a (c_aU (c_aU C1 14 6 (c_a C1 14 6 + nI j')) 14 11 mx) 14 6 = m_i M1 12 := by
    show c_a C1 14 6 + nI j' = _
    rw [d10, d11, k6]; rfl
  have wC : wrC C (c_aU (c_aU C1 14 6 (c_a C1 14 6 + nI j')) 14 11 mx) := (d8.1.u (by decide)).u (by decide)
  have ref : ∀ Q, j_X11_make_82 Q (nI r) (nI n) rw9 (nI (n + 2)) e mx M1 → p_X11_makes (nI r) (nI n) rw9 M Q := by
    intro Q hQ
    refine ⟨fun q => absurd q h0, fun _ => ⟨fun _ u hu => ?_, fun q => absurd h40 q⟩⟩
    rw [ni_al] at hu
    subst hu
    refine ⟨n3, d6 Q _ _ _ _ _ (by rw [km]; exact eN) ⟨fun q => ?_, fun q => ?_⟩⟩
    · rw [← k11] at q ⊢
      rw [if_neg (Int32.not_lt.mpr q)] at hmx
      rw [← hmx]
      exact hQ
    · rw [← k11] at q
      rw [if_pos (Int32.not_le.mp q)] at hmx
      rw [← hmx]
      exact hQ
  have cls : ∀ Q : Int32 → cS → Prop, (((nI N ≤ nI j' → j_X3_makeRoom_53 (fun rz4 Cz3 => ((rz4 = 0 → p_X3_lay (nI n) hd Cz3 (fun rz7 Cz6 => p_X2_give (nI r) 2 rz7 Cz6 (fun rz9 Cz8 => Q rz9 Cz8))) ∧ (¬ rz4 = 0 → Q rz4 Cz3))) (nI (n + 2)) (c_aU (c_aU C1 14 6 (c_a C1 14 6 + nI j')) 14 11 mx)) ∧ (¬ nI N ≤ nI j' → (((nI fl') ≤ (nI (pa + j')) → j_X3_makeRoom_53 (fun rz4 Cz3 => ((rz4 = 0 → p_X3_lay (nI n) hd Cz3 (fun rz7 Cz6 => p_X2_give (nI r) 2 rz7 Cz6 (fun rz9 Cz8 => Q rz9 Cz8))) ∧ (¬ rz4 = 0 → Q rz4 Cz3))) (nI (n + 2)) (c_aU (c_aU C1 14 6 (c_a C1 14 6 + nI j')) 14 11 mx)) ∧ (¬ (nI fl') ≤ (nI (pa + j')) → Q 8 (c_aU (c_aU C1 14 6 (c_a C1 14 6 + nI j')) 14 11 mx)))))) → p_X2_makeThing (nI r) (nI n) hd C Q := by
    intro Q hQ
    refine ⟨fun q => absurd q h0, fun _ => ⟨fun _ => ?_, fun q => absurd h40 q⟩⟩
    unfold p_X3_makeRoom
    rw [kc, show nI n + 2 = nI (n + 2) from nI_add n 2, eN]
    refine pw _ ?_
    have e10 : c_i (c_aU C1 14 6 (c_a C1 14 6 + nI j')) 10 = nI k := kc1
    have e13 : c_i (c_aU C1 14 6 (c_a C1 14 6 + nI j')) 13 = nI fl' := s13'
    have e14 : c_i (c_aU C1 14 6 (c_a C1 14 6 + nI j')) 14 = nI (pa + j') := s14'
    have e11 : c_a (c_aU C1 14 6 (c_a C1 14 6 + nI j')) 14 (11 : Int32).toNatClampNeg = c_a C1 14 11 := rfl
    rw [e10, e13, e14, e11, eN, ← hmx]
    refine ⟨hQ.1, fun q => ⟨(hQ.2 q).1, fun q2 => ⟨fun q3 => absurd q3 (by decide), fun _ => (hQ.2 q).2 q2⟩⟩⟩
  rcases d7 with ⟨d7, d8', d9'⟩ | ⟨d7, d8'⟩
  · refine ⟨8, _, m_iS M1 17 mx, fun Q hQ => cls Q ⟨fun q => ?_, fun _ => ⟨fun q => ?_, fun _ => hQ⟩⟩, fun Q hQ => ref Q ⟨fun q => absurd d7 q, fun _ => hQ⟩, ⟨_, _, _, _, _, _, _, _, _, _, k, _, _, _, _, _, R2, q4, q6, kc1, km1, kb⟩, wC, d9.1.i (by decide), by decide⟩
    · exact absurd ((ni_le (by omega) (by omega)).mp q) (by omega)
    · exact absurd ((ni_le (by omega) (by omega)).mp q) (by omega)
  · obtain ⟨e2, C2, M2, f1, f2, f3, f4, f5, f6⟩ := j_room R2 q4 q6 kc1 km1 kb hn hr hh
    subst d7
    refine ⟨e2, C2, M2, fun Q hQ => cls Q ⟨fun _ => f1 Q hQ, fun q => ⟨fun _ => f1 Q hQ, fun q2 => ?_⟩⟩, fun Q hQ => ref Q (f2 Q hQ), f3, wC.tr f4, d9.1.tr f5, f6⟩
    rw [ni_le (by omega) (by omega)] at q q2
    omega
end ZA2
