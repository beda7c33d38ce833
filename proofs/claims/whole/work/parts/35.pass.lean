/-! THE MEMORY: words are passed -/
section ZP
variable {C : cS} {M : mS} {sz pr B O fl pa ro h mm ps nx v t i : Nat} {st ad sl mv P : Nat → Nat} {x y s b : Int32}
theorem RelM.psS (R : RelM C M sz pr B O fl pa ro h mm ps nx st ad sl mv P) {ps' : Nat} (h1 : ps' ≤ mm) (h2 : P ps' ≤ pa) : RelM C (m_iS M 5 (nI ps')) sz pr B O fl pa ro h mm ps' nx st ad sl mv P := by
  obtain ⟨G, ⟨S, ⟨z0, z3, z4, z5, z6, z7, z8, z9⟩, hh⟩, T, H, Rt, ⟨v1, v2, v3, v4⟩, K⟩ := R
  exact ⟨G, ⟨S, ⟨z0, z3, z4, rfl, z6, z7, z8, z9⟩, hh⟩, T, H, Rt, ⟨v1, h1, h2, v4⟩, K⟩
/-- which moved thing has the word at PASSED -/
theorem j_passing : ∀ (d : Nat) {M : mS} {ps : Nat}, mm - ps = d → RelM C M sz pr B O fl pa ro h mm ps nx st ad sl mv P → pa < fl →
    ∃ ps' M', ps' < mm ∧ P ps' ≤ pa ∧ pa < P (ps' + 1) ∧ RelM C M' sz pr B O fl pa ro h mm ps' nx st ad sl mv P ∧ (∃ n, ∀ Q K, K M' → w_X11_passOne_0 Q K n M) ∧ frM M M' ∧ m_i M' 12 = m_i M 12 ∧ ∀ k, m_a M' k = m_a M k := by
  intro d
  induction d with
  | zero =>
    intro M ps hd R hlt
    obtain ⟨v1, v2, v3, v4, v5, v6⟩ := R.2.2.2.2.2.1
    have e : ps = mm := by omega
    rw [e, v5] at v3
    omega
  | succ d ih =>
    intro M ps hd R hlt
    have R0 := R
    obtain ⟨G, ⟨⟨s0, s9, s11, s12, s13, s14, s15⟩, ⟨z0, z3, z4, z5, z6, z7, z8, z9⟩, hh⟩, T, H, Rt, ⟨v1, v2, v3, v4, v5, v6⟩, K⟩ := R
    obtain ⟨g1, g2, g3, g4, g5, g6, g7, g8, g9⟩ := id G
    obtain ⟨w1, w2, w3, w4, w5⟩ := v6 ps (by omega)
    obtain ⟨t1, t2, t3, t4⟩ := T _ w1
    have hpl := t3 w3
    rw [w4, Nat.add_sub_cancel_left] at hpl
    have h5 := g5 _ w1 w3
    have h4 := (g4 _ w1).1
    have e5 : (m_i M 5).toNatClampNeg = ps := by rw [z5]; exact ni_cl (by omega)
    have e6 : (nI (mv ps)).toNatClampNeg = mv ps := ni_cl (by omega)
    have c1 : vp_in (m_i M 5) 1300 := by rw [z5]; exact (ni_in (by omega)).mpr (by omega)
    have c2 : vp_in (m_a M 8 (m_i M 5).toNatClampNeg) 1300 := by rw [e5, w2]; exact (ni_in (by omega)).mpr w1
    have key : (m_i M 7 < m_a M 3 (m_a M 8 (m_i M 5).toNatClampNeg).toNatClampNeg + (m_a M 1 (m_a M 8 (m_i M 5).toNatClampNeg).toNatClampNeg + 2)) ↔ pa < P (ps + 1) := by
      rw [e5, w2, e6, hpl, t1, z7, ni_al, nI_add, ni_lt (by omega) (by omega), w5]
    by_cases q : pa < P (ps + 1)
    · refine ⟨ps, M, by omega, v3, q, R0, ⟨1, fun Q K hK => ?_⟩, frM.rf M, rfl, fun _ => rfl⟩
      exact ⟨c1, c2, c2, fun _ => hK, fun k => absurd (key.mpr q) k⟩
    · have e1 : m_i M 5 + 1 = nI (ps + 1) := by rw [z5]; exact nI_add _ _
      have R1 := R0.psS (ps' := ps + 1) (by omega) (by omega)
      obtain ⟨ps', M', a1, a2, a3, a4, ⟨n, a5⟩, a6, a7, a8⟩ := ih (ps := ps + 1) (by omega) R1 hlt
      refine ⟨ps', M', a1, a2, a3, a4, ⟨n + 1, fun Q K hK => ?_⟩, ((frM.rf M).i (by decide)).tr a6, a7, a8⟩
      refine ⟨c1, c2, c2, fun k => absurd (key.mp k) q, fun _ => ?_⟩
      rw [e1]
      exact a5 Q K hK
theorem RelM.passed {z : Int32} (R : RelM C M sz pr B O fl pa ro h mm ps nx st ad sl mv P) (hlt : pa < fl)
    (hx : ∀ t i, t < 1300 → st t = 1 → i < sl t → ad t + 2 + i = B + pa → gE st ad (c_a C 10 (ad t + 2 + i)) (c_a C 11 (ad t + 2 + i)) (m_a M 4 (40 * t + i)) (m_a M 5 (40 * t + i))) :
    RelM (c_iS C 14 (nI (pa + 1))) (m_iS (m_iS M 7 (nI (pa + 1))) 12 z) sz pr B O fl (pa + 1) ro h mm ps nx st ad sl mv P := by
  obtain ⟨G, ⟨⟨s0, s9, s11, s12, s13, s14, s15⟩, ⟨z0, z3, z4, z5, z6, z7, z8, z9⟩, hh⟩, T, H, Rt, ⟨v1, v2, v3, v4, v5, v6⟩, K⟩ := R
  exact ⟨G.pass hlt, ⟨⟨s0, s9, s11, s12, s13, rfl, s15⟩, ⟨z0, z3, z4, z5, z6, rfl, z8, z9⟩, hh⟩, T, H.pass hx, Rt, ⟨v1, v2, by omega, v4, v5, v6⟩, K⟩
theorem sub2_neg {d : Nat} (h : d < 2) : nI d - 2 < 0 := by
  have : d = 0 ∨ d = 1 := by omega
  rcases this with rfl | rfl <;> decide
/-- PASS one word -/
theorem j_pass (R : RelM C M sz pr B O fl pa ro h mm ps nx st ad sl mv P) (hlt : pa < fl) :
    ∃ (r : Int32) (C1 : cS) (M1 : mS) (fl' mm' ps' : Nat) (st' ad' mv' P' : Nat → Nat), (r = 0 ∨ r = 1) ∧ (∀ Q, Q r C1 → p_X3_bringH (nI (B + pa)) C Q) ∧ (∀ Q, Q r M1 → p_X11_passOne M Q) ∧ fl ≤ fl' ∧
      (r = 1 → RelM (c_iS C1 14 (nI (pa + 1))) M1 sz pr B O fl' (pa + 1) ro h mm' ps' nx st' ad' sl mv' P' ∧ m_i M1 12 = m_i M 12 + 1) ∧ (r = 0 → RelM C1 M1 sz pr B O fl' pa ro h mm' ps' nx st' ad' sl mv' P' ∧ m_i M1 12 = m_i M 12) ∧
      frC C C1 ∧ frM M M1 ∧ c_a C1 14 6 = c_a C 14 6 ∧ c_i C1 14 = nI pa := by
  obtain ⟨ps', M', a1, a2, a3, R1, ⟨n, a5⟩, a6, a7, a8⟩ := j_passing _ rfl R hlt
  obtain ⟨G, ⟨⟨s0, s9, s11, s12, s13, s14, s15⟩, ⟨z0, z3, z4, z5, z6, z7, z8, z9⟩, hh⟩, T, H, Rt, ⟨v1, v2, v3, v4, v5, v6⟩, K⟩ := id R1
  obtain ⟨g1, g2, g3, g4, g5, g6, g7, g8, g9⟩ := id G
  obtain ⟨w1, w2, w3, w4, w5⟩ := v6 ps' a1
  obtain ⟨t1, t2, t3, t4⟩ := T _ w1
  have hpl := t3 w3
  rw [w4, Nat.add_sub_cancel_left] at hpl
  have h5 := g5 _ w1 w3
  have h4 := (g4 _ w1).1
  have e5 : (m_i M' 5).toNatClampNeg = ps' := by rw [z5]; exact ni_cl (by omega)
  have e6 : (nI (mv ps')).toNatClampNeg = mv ps' := ni_cl (by omega)
  have c1 : vp_in (m_i M' 5) 1300 := by rw [z5]; exact (ni_in (by omega)).mpr (by omega)
  have c2 : vp_in (nI (mv ps')) 1300 := (ni_in (by omega)).mpr w1
  have uniq : ∀ u j, u < 1300 → st u = 1 → j < sl u → ad u + 2 + j = B + pa → u = mv ps' := by
    intro u j hu h1 hj he
    by_cases q : u = mv ps'
    · exact q
    · exfalso
      have := g7 u (mv ps') hu w1 q (h1.trans w3.symm) (by omega)
      omega
  by_cases hd : pa - P ps' < 2
  · -- a head's word
    have tag : ¬ c_a C 10 (B + pa) = 2 := by
      obtain ⟨q1, q2, q3, -⟩ := H _ w1 (by omega)
      by_cases q : pa = P ps'
      · have e : B + pa = ad (mv ps') := by omega
        rw [e, q1]; split <;> decide
      · have e : B + pa = ad (mv ps') + 1 := by omega
        rw [e, q3]; decide
    refine ⟨1, C, m_iS (m_iS M' 7 (nI (pa + 1))) 12 (m_i M' 12 + 1), fl, mm, ps', st, ad, mv, P, Or.inr rfl, ?_, ?_, Nat.le_refl _, fun _ => ⟨R1.passed hlt ?_, ?_⟩, fun q => absurd q (by decide), frC.rf C, (a6.i (by decide)).i (by decide), rfl, s14⟩
    · intro Q hQ
      unfold p_X3_bringH
      rw [ni_cl (by omega), s0]
      exact ⟨(ni_in (by omega)).mpr (by omega), fun q => absurd q tag, fun _ => hQ⟩
    · intro Q hQ
      refine ⟨n, a5 Q _ ?_⟩
      refine ⟨c1, fun w hw => ?_⟩
      rw [e5, w2] at hw
      subst hw
      refine ⟨c2, fun u hu => ?_⟩
      rw [e6, z7, hpl, ni_sub a2] at hu
      subst hu
      rw [z7, nI_1]
      exact ⟨fun _ => hQ, fun q => absurd (sub2_neg hd) q⟩
    · intro u j hu h1 hj he
      have := uniq u j hu h1 hj he
      subst this
      omega
    · show m_i M' 12 + 1 = _
      rw [a7]
  · obtain ⟨i, hi⟩ : ∃ i, pa - P ps' = i + 2 := ⟨pa - P ps' - 2, by omega⟩
    have hil : i < sl (mv ps') := by omega
    have hadr : ad (mv ps') + 2 + i = B + pa := by omega
    obtain ⟨r, C1, M1, fl', mm', st', ad', mv', P', b1, b2, b3, b4, b5, b6, b7, b8, b9, b10, b11⟩ := j_bringH R1 w1 w3 hil
    have kk : vp_in (40 * nI (mv ps') + nI i) 52000 := by
      rw [ni_lm, nI_add]; exact (ni_in (by omega)).mpr (by omega)
    have kc : (40 * nI (mv ps') + nI i).toNatClampNeg = 40 * mv ps' + i := by
      rw [ni_lm, nI_add]; exact ni_cl (by omega)
    rw [hadr] at b2
    have s14' : c_i C1 14 = nI pa := b4.2.1.1.2.2.2.2.2.1
    have z7' : m_i M1 7 = nI pa := b4.2.1.2.1.2.2.2.2.2.1
    have fin : ∀ Q, Q r (if r = 1 then m_iS (m_iS M1 7 (nI (pa + 1))) 12 (m_i M1 12 + 1) else M1) → p_X11_passOne M Q := by
      intro Q hQ
      refine ⟨n, a5 Q _ ?_⟩
      refine ⟨c1, fun w hw => ?_⟩
      rw [e5, w2] at hw
      subst hw
      refine ⟨c2, fun u hu => ?_⟩
      rw [e6, z7, hpl, ni_sub a2, hi, ni_sl (by omega), Nat.add_sub_cancel] at hu
      subst hu
      refine ⟨fun q => absurd q (nI_pos (by omega)), fun _ => ⟨kk, ?_⟩⟩
      rw [kc]
      rcases b3 with ⟨d1, d2, d3⟩ | ⟨d1, d2⟩
      · refine d1 _ ⟨fun _ => ?_, fun q => absurd rfl q⟩
        subst d2 d3
        rw [if_pos rfl] at hQ
        rw [z7', nI_1]
        exact hQ
      · refine d1 _ ⟨fun q => absurd q (by decide), fun _ => d2 _ ⟨fun q => ?_, fun q => ?_⟩⟩
        · rcases b1 with b1 | b1
          · exact absurd b1 q
          · subst b1
            rw [if_pos rfl] at hQ
            rw [z7', nI_1]
            exact hQ
        · rw [if_neg (by rw [q]; decide)] at hQ
          rw [q] at hQ
          exact hQ
    rcases b1 with b1 | b1
    · subst b1
      rw [if_neg (by decide)] at fin
      exact ⟨0, C1, M1, fl', mm', ps', st', ad', mv', P', Or.inl rfl, b2, fin, b11, fun q => absurd q (by decide), fun _ => ⟨b4, b8.2.trans a7⟩, b6, a6.tr b7, b8.1, s14'⟩
    · subst b1
      rw [if_pos rfl] at fin
      refine ⟨1, C1, _, fl', mm', ps', st', ad', mv', P', Or.inr rfl, b2, fin, b11, fun _ => ⟨b4.passed (by omega) ?_, ?_⟩, fun q => absurd q (by decide), b6, ((a6.tr b7).i (by decide)).i (by decide), b8.1, s14'⟩
      · intro u j hu h1 hj he
        have G' := b4.1
        have w3' := (b10 _ w1 w3)
        have : u = mv ps' := by
          by_cases q : u = mv ps'
          · exact q
          · exfalso
            have := G'.2.2.2.2.2.2.1 u (mv ps') hu w1 q (h1.trans w3'.1.symm) (by omega)
            rw [w3'.2] at this
            omega
        subst this
        rw [w3'.2] at he ⊢
        have : j = i := by omega
        subst this
        exact b5 rfl
      · show m_i M1 12 + 1 = _
        rw [b8.2, a7]
/-- words are passed one by one, N in all or to the end: the class's loop, the reference's two -/
theorem j_passN : ∀ (d : Nat) {C : cS} {M : mS} {fl pa mm ps : Nat} {st ad mv P : Nat → Nat} {N p0 j : Nat}, N - j = d → j ≤ N → N ≤ 1000 → pa = p0 + j → RelM C M sz pr B O fl pa ro h mm ps nx st ad sl mv P →
    ∃ (r : Int32) (C1 : cS) (M1 : mS) (fl' mm' ps' j' : Nat) (st' ad' mv' P' : Nat → Nat), j ≤ j' ∧ j' ≤ N ∧ RelM C1 M1 sz pr B O fl' (p0 + j') ro h mm' ps' nx st' ad' sl mv' P' ∧
      (∃ n, ∀ Q K, K (nI p0) C1 → w_X3_passWords_5 Q K n (nI N) (nI p0) C) ∧ (∃ n, ∀ Q K, K (nI j') M1 → w_X11_pass_20 Q K n (nI N) (nI j) M) ∧
      (∃ n, ∀ Q K l1 l2 l3 w, m_i M 1 * w = nI N → K l1 l2 l3 w (nI j') r M1 → w_X11_make_11 Q K n l1 l2 l3 w (nI j) 1 M) ∧
      (r = 0 ∧ j' < N ∧ p0 + j' < fl' ∨ r = 1 ∧ (j' = N ∨ p0 + j' = fl')) ∧ frC C C1 ∧ frM M M1 ∧ c_a C1 14 6 = c_a C 14 6 ∧ m_i M1 12 = m_i M 12 + nI (j' - j) := by
  intro d
  induction d with
  | zero =>
    intro C M fl pa mm ps st ad mv P N p0 j hd hj hN hpa R
    have e : j = N := by omega
    subst e hpa
    obtain ⟨G, ⟨⟨s0, s9, s11, s12, s13, s14, s15⟩, ⟨z0, z3, z4, z5, z6, z7, z8, z9⟩, hh⟩, -⟩ := id R
    obtain ⟨g1, g2, g3, g4, -⟩ := id G
    refine ⟨1, C, M, fl, mm, ps, j, st, ad, mv, P, Nat.le_refl _, Nat.le_refl _, R, ⟨1, fun Q K hK => ?_⟩, ⟨1, fun Q K hK => ?_⟩, ⟨1, fun Q K l1 l2 l3 w hw hK => ?_⟩, Or.inr ⟨rfl, Or.inl rfl⟩, frC.rf C, frM.rf M, rfl, ?_⟩
    · refine ⟨fun _ => hK, fun q => absurd ?_ q⟩
      rw [s14, ni_sub (by omega), Nat.add_sub_cancel_left]
      exact (ni_le (by omega) (by omega)).mpr (Nat.le_refl _)
    · exact ⟨fun _ => hK, fun q => absurd ((ni_le (by omega) (by omega)).mpr (Nat.le_refl _)) q⟩
    · refine ⟨fun q => absurd q (by decide), fun _ => ⟨fun _ => hK, fun q => absurd ?_ q⟩⟩
      rw [hw]
      exact (ni_le (by omega) (by omega)).mpr (Nat.le_refl _)
    · rw [Nat.sub_self, nI_0, Int32.add_zero]
  | succ d ih =>
    intro C M fl pa mm ps st ad mv P N p0 j hd hj hN hpa R
    subst hpa
    obtain ⟨G, ⟨⟨s0, s9, s11, s12, s13, s14, s15⟩, ⟨z0, z3, z4, z5, z6, z7, z8, z9⟩, hh⟩, -⟩ := id R
    have hbase := G.base
    obtain ⟨g1, g2, g3, g4, -⟩ := id G
    have c1 : ¬ nI N ≤ c_i C 14 - nI p0 := by
      rw [s14, ni_sub (by omega), Nat.add_sub_cancel_left, ni_le (by omega) (by omega)]; omega
    have c2 : ¬ nI N ≤ nI j := by rw [ni_le (by omega) (by omega)]; omega
    by_cases hlt : p0 + j < fl
    · have c3 : ¬ c_i C 13 ≤ c_i C 14 := by rw [s13, s14, ni_le (by omega) (by omega)]; omega
      have c4 : ¬ m_i M 6 ≤ m_i M 7 := by rw [z6, z7, ni_le (by omega) (by omega)]; omega
      have c5 : c_i C 12 * c_i C 9 + c_i C 14 = nI (B + (p0 + j)) := by rw [s12, s9, s14, pk_mul, hbase, nI_add]
      obtain ⟨r, C1, M1, fl', mm', ps', st', ad', mv', P', b1, b2, b3, b4, b5, b6, b7, b8, b9, b10⟩ := j_pass R hlt
      rcases b1 with b1 | b1
      · subst b1
        obtain ⟨R1, k1⟩ := b6 rfl
        refine ⟨0, C1, M1, fl', mm', ps', j, st', ad', mv', P', Nat.le_refl _, hj, R1, ⟨1, fun Q K hK => ?_⟩, ⟨1, fun Q K hK => ?_⟩, ⟨2, fun Q K l1 l2 l3 w hw hK => ?_⟩, Or.inl ⟨rfl, by omega, by omega⟩, b7, b8, b9, ?_⟩
        · refine ⟨fun q => absurd q c1, fun _ => ⟨fun q => absurd q c3, fun _ => ?_⟩⟩
          rw [c5]
          exact b2 _ ⟨fun _ => hK, fun q => absurd rfl q⟩
        · exact ⟨fun q => absurd q c2, fun _ => ⟨fun q => absurd q c4, fun _ => b3 _ ⟨fun _ => hK, fun q => absurd rfl q⟩⟩⟩
        · refine ⟨fun q => absurd q (by decide), fun _ => ⟨fun q => absurd (by rw [hw] at q; exact q) c2, fun _ => ⟨fun q => absurd q c4, fun _ => b3 _ ⟨fun _ u hu => ?_, fun q => absurd rfl q⟩⟩⟩⟩
          rw [Int32.add_zero] at hu
          subst hu
          exact ⟨fun _ => hK, fun q => absurd rfl q⟩
        · rw [Nat.sub_self, nI_0, Int32.add_zero]; exact k1
      · subst b1
        obtain ⟨R1, k1⟩ := b5 rfl
        obtain ⟨r, C2, M2, fl2, mm2, ps2, j2, st2, ad2, mv2, P2, d1, d2, d3, ⟨n1, d4⟩, ⟨n2, d5⟩, ⟨n3, d6⟩, d7, d8, d9, d10, d11⟩ := ih (N := N) (p0 := p0) (j := j + 1) (by omega) (by omega) hN (by omega) R1
        refine ⟨r, C2, M2, fl2, mm2, ps2, j2, st2, ad2, mv2, P2, by omega, d2, d3, ⟨n1 + 1, fun Q K hK => ?_⟩, ⟨n2 + 1, fun Q K hK => ?_⟩, ⟨n3 + 1, fun Q K l1 l2 l3 w hw hK => ?_⟩, d7, (b7.i (by decide)).tr d8, b8.tr d9, d10.trans b9, ?_⟩
        · refine ⟨fun q => absurd q c1, fun _ => ⟨fun q => absurd q c3, fun _ => ?_⟩⟩
          rw [c5]
          refine b2 _ ⟨fun q => absurd q (by decide), fun _ => ?_⟩
          rw [b10, nI_1]
          exact d4 Q K hK
        · refine ⟨fun q => absurd q c2, fun _ => ⟨fun q => absurd q c4, fun _ => b3 _ ⟨fun q => absurd q (by decide), fun _ u hu => ?_⟩⟩⟩
          rw [nI_1] at hu
          subst hu
          exact d5 Q K hK
        · refine ⟨fun q => absurd q (by decide), fun _ => ⟨fun q => absurd (by rw [hw] at q; exact q) c2, fun _ => ⟨fun q => absurd q c4, fun _ => b3 _ ⟨fun q => absurd q (by decide), fun _ u hu => ?_⟩⟩⟩⟩
          rw [nI_1] at hu
          subst hu
          refine d6 Q K l1 l2 l3 w ?_ hK
          rw [b8.1.1 1 (by omega)]
          exact hw
        · rw [d11, k1, show j2 - j = 1 + (j2 - (j + 1)) by omega, ← nI_add, Int32.add_assoc]; rfl
    · have hlt2 : p0 + j = fl := by omega
      have c3 : c_i C 13 ≤ c_i C 14 := by rw [s13, s14, ni_le (by omega) (by omega)]; omega
      have c4 : m_i M 6 ≤ m_i M 7 := by rw [z6, z7, ni_le (by omega) (by omega)]; omega
      refine ⟨1, C, M, fl, mm, ps, j, st, ad, mv, P, Nat.le_refl _, hj, R, ⟨1, fun Q K hK => ?_⟩, ⟨1, fun Q K hK => ?_⟩, ⟨1, fun Q K l1 l2 l3 w hw hK => ?_⟩, Or.inr ⟨rfl, Or.inr hlt2⟩, frC.rf C, frM.rf M, rfl, ?_⟩
      · exact ⟨fun q => absurd q c1, fun _ => ⟨fun _ => hK, fun q => absurd c3 q⟩⟩
      · exact ⟨fun q => absurd q c2, fun _ => ⟨fun _ => hK, fun q => absurd c4 q⟩⟩
      · exact ⟨fun q => absurd q (by decide), fun _ => ⟨fun q => absurd (by rw [hw] at q; exact q) c2, fun _ => ⟨fun _ => hK, fun q => absurd c4 q⟩⟩⟩
      · rw [Nat.sub_self, nI_0, Int32.add_zero]
end ZP
