/-! the memory's own methods: act, pass, turn, memory, hand, stack, slot -/
section ZU
variable {C : cS} {M : mS} {sz pr B O fl pa ro h mm ps nx v t i n a r r2 r3 k : Nat} {st ad sl mv P : Nat → Nat} {x y z s b : Int32}
theorem RelA.thr (A : RelA C M) (z : Int32) : RelA C (m_iS M 2 z) := by
  obtain ⟨sz, pr, B, O, fl, pa, ro, h, mm, ps, k, st, ad, sl, mv, P, R, k4, k6, kc, km, kb⟩ := A
  exact ⟨sz, pr, B, O, fl, pa, ro, h, mm, ps, k, st, ad, sl, mv, P, R, k4, k6, kc, km, kb⟩
theorem a_act (A : RelA C M) (op : Int32) : aEq C (m_iS M 2 0) (p_X10_act op x y z C) (p_X11_act op x y z M) := by
  have A0 := A.thr 0
  by_cases h0 : op < 0
  · exact a_same A0 (-1) (fun Q hQ => ⟨fun _ => hQ, fun q => absurd h0 q⟩) (fun Q hQ => ⟨fun _ => hQ, fun q => absurd h0 q⟩)
  by_cases h19 : ¬ op ≤ 19
  · exact a_same A0 (-1) (fun Q hQ => ⟨fun _ => hQ, fun _ => ⟨fun q => absurd q h19, fun _ => hQ⟩⟩) (fun Q hQ => ⟨fun _ => hQ, fun _ => ⟨fun q => absurd q h19, fun _ => hQ⟩⟩)
  replace h19 := Decidable.not_not.mp h19
  obtain ⟨k, hkb, rfl⟩ := ni_ex h0
  have hk : k < 20 := by have := (ni_lel hkb (by decide)).mp h19; omega
  have c0 : vp_in (nI k) 26 := (ni_in (by omega)).mpr (by omega)
  have ck : (nI k).toNatClampNeg = k := ni_cl (by omega)
  have f1 := e_fit (C := C) (x := x) (y := y) (z := z) (k := k) (by omega) (nt k) 0 (by omega)
  have f2 := e_fitM (M := m_iS M 2 0) (x := x) (y := y) (z := z) (k := k) (by omega) (nt k) 0 (by omega)
  by_cases hok : okA k x y z 0
  · obtain ⟨n1, g1⟩ := f1.1 hok
    obtain ⟨n2, g2⟩ := f2.1 hok
    refine aEqN.weak <| (a_does A0 hk hok (fun _ _ => rfl)).mp (fun Q hQ => ⟨fun q => absurd q h0, fun _ => ⟨fun _ => ⟨c0, fun u hu => ?_⟩, fun q => absurd h19 q⟩⟩) (fun Q hQ => ⟨fun q => absurd q h0, fun _ => ⟨fun _ => ⟨n2, g2 Q _ _ hQ⟩, fun q => absurd h19 q⟩⟩)
    rw [ck] at hu
    subst hu
    exact ⟨n1, g1 _ _ _ ⟨fun q => absurd q (by decide), fun _ => hQ⟩⟩
  · obtain ⟨n1, g1⟩ := f1.2 hok
    obtain ⟨n2, g2⟩ := f2.2 hok
    refine a_same A0 (-1) (fun Q hQ => ⟨fun q => absurd q h0, fun _ => ⟨fun _ => ⟨c0, fun u hu => ?_⟩, fun q => absurd h19 q⟩⟩) (fun Q hQ => ⟨fun q => absurd q h0, fun _ => ⟨fun _ => ⟨n2, g2 Q _ _ hQ⟩, fun q => absurd h19 q⟩⟩)
    rw [ck] at hu
    subst hu
    exact ⟨n1, g1 _ _ _ ⟨fun _ => hQ, fun q => absurd rfl q⟩⟩
theorem a_pass (A : RelA C M) (n : Int32) : aEq C (m_iS M 2 0) (p_X10_pass n C) (p_X11_pass n M) := by
  have A0 := A.thr 0
  by_cases h0 : n < 0
  · exact a_same A0 (-1) (fun Q hQ => ⟨fun _ => hQ, fun q => absurd h0 q⟩) (fun Q hQ => ⟨fun _ => hQ, fun q => absurd h0 q⟩)
  by_cases h19 : ¬ n ≤ 1000
  · exact a_same A0 (-1) (fun Q hQ => ⟨fun _ => hQ, fun _ => ⟨fun q => absurd q h19, fun _ => hQ⟩⟩) (fun Q hQ => ⟨fun _ => hQ, fun _ => ⟨fun q => absurd q h19, fun _ => hQ⟩⟩)
  replace h19 := Decidable.not_not.mp h19
  obtain ⟨N, hNb, rfl⟩ := ni_ex h0
  have hN := (ni_lel hNb (by decide)).mp h19
  obtain ⟨sz, pr, B, O, fl, pa, ro, h, mm, ps, k, st, ad, sl, mv, P, R, k4, k6, kc, km, kb⟩ := A0
  have g3 := R.1.2.2.1
  have g1 := R.1.1
  have s14 := R.2.1.1.2.2.2.2.2.1
  obtain ⟨e, C1, M1, fl', mm', ps', j', st', ad', mv', P', d1, d2, R1, ⟨n1, d4⟩, ⟨n2, d5⟩, -, d7, d8, d9, d10, d11⟩ := j_passN (N := N) (p0 := pa) (j := 0) _ rfl (Nat.zero_le _) (by omega) rfl R
  have g3' := R1.1.2.2.1
  have s14' := R1.2.1.1.2.2.2.2.2.1
  refine ⟨nI j', c_aU C1 14 6 (c_a C1 14 6 + nI j'), M1, fun Q hQ => ⟨fun q => absurd q h0, fun _ => ⟨fun _ u hu => ?_, fun q => absurd h19 q⟩⟩, fun Q hQ => ⟨fun q => absurd q h0, fun _ => ⟨fun _ => ⟨n2, d5 Q _ hQ⟩, fun q => absurd h19 q⟩⟩, ⟨sz, pr, B, O, fl', pa + j', ro, h, mm', ps', k, st', ad', sl, mv', P', ?_, ?_, ?_, ?_, ?_, kb⟩, d8.1.u (by decide), d9.1⟩
  · rw [s14] at hu
    subst hu
    refine ⟨n1, d4 _ _ ?_⟩
    rw [s14', ni_sub (by omega), Nat.add_sub_cancel_left]
    exact hQ
  · obtain ⟨G, S, T, H, Rt, V, k5, k7, k8, k9, k10, k11, k12⟩ := R1
    exact ⟨G, S, T, H, Rt, V, k5, k7, k8, k9, k10, k11, k12⟩
  · show c_a C1 14 4 = _
    rw [d8.2, d9.2]; exact k4
  · show c_a C1 14 6 + nI j' = _
    rw [d10, d11, k6]; rfl
  · show c_i C1 10 = _
    rw [d8.1.2.2.2.2.1 10 (by omega)]; exact kc
  · rw [d9.1.1 1 (by omega)]; exact km
theorem a_turn (A : RelA C M) : aEq C (m_iS M 2 0) (p_X10_turn C) (p_X11_turn M) := by
  have A0 := A.thr 0
  obtain ⟨sz, pr, B, O, fl, pa, ro, h, mm, ps, k, st, ad, sl, mv, P, R, k4, k6, kc, km, kb⟩ := id A0
  obtain ⟨G, ⟨⟨s0, s9, s11, s12, s13, s14, s15⟩, ⟨z0, z3, z4, z5, z6, z7, z8, z9⟩, h50⟩, -⟩ := id R
  have g1 := G.1
  have g3 := G.2.2.1
  have z6' : m_i M 6 = nI fl := z6
  have z7' : m_i M 7 = nI pa := z7
  by_cases hp : pa = fl
  · subst hp
    obtain ⟨C1, M1, fl', mm', st', ad', mv', P', e1, e2, e3, e4, e5, e6, e7⟩ := j_turn R k4 k6
    refine ⟨1, C1, M1, fun Q hQ => ⟨fun _ => e1 _ hQ, fun q => absurd ?_ q⟩, fun Q hQ => ⟨fun _ => e2 _ hQ, fun q => absurd ?_ q⟩, ⟨_, _, _, _, _, _, _, _, _, _, k, _, _, _, _, _, e3, e4, e5, ?_, ?_, kb⟩, e6, e7⟩
    · rw [s13, s14, ni_le (by omega) (by omega)]; omega
    · rw [z6', z7', ni_le (by omega) (by omega)]; omega
    · rw [e6.2.2.2.2.1 10 (by omega)]; exact kc
    · rw [e7.1 1 (by omega)]; exact km
  · refine a_same A0 0 (fun Q hQ => ⟨fun q => ?_, fun _ => hQ⟩) (fun Q hQ => ⟨fun q => ?_, fun _ => hQ⟩)
    · rw [s13, s14, ni_le (by omega) (by omega)] at q; omega
    · rw [z6', z7', ni_le (by omega) (by omega)] at q; omega
theorem a_memory (A : RelA C M) (w : Int32) : aEq C (m_iS M 2 0) (p_X10_memory w C) (p_X11_memory w M) := by
  have A0 := A.thr 0
  obtain ⟨sz, pr, B, O, fl, pa, ro, h, mm, ps, k, st, ad, sl, mv, P, R, k4, k6, kc, km, kb⟩ := A
  obtain ⟨G, ⟨⟨s0, s9, s11, s12, s13, s14, s15⟩, ⟨z0, z3, z4, z5, z6, z7, z8, z9⟩, h50⟩, -, -, -, -, k5, k7, k8, k9, k10, k11, k12⟩ := R
  by_cases e0 : w = 0
  · subst e0; refine a_same A0 (nI fl) (fun Q hQ => ⟨fun _ => by rw [s13]; exact hQ, fun q => absurd rfl q⟩) (fun Q hQ => ⟨fun _ => by rw [z6]; exact hQ, fun q => absurd rfl q⟩)
  by_cases e1 : w = 1
  · subst e1; refine a_same A0 (nI pa) (fun Q hQ => ⟨fun q => absurd q (by decide), fun _ => ⟨fun _ => by rw [s14]; exact hQ, fun q => absurd rfl q⟩⟩) (fun Q hQ => ⟨fun q => absurd q (by decide), fun _ => ⟨fun _ => by rw [z7]; exact hQ, fun q => absurd rfl q⟩⟩)
  by_cases e2 : w = 2
  · subst e2; refine a_same A0 (nI ro) (fun Q hQ => ⟨fun q => absurd q (by decide), fun _ => ⟨fun q => absurd q (by decide), fun _ => ⟨fun _ => by rw [s15]; exact hQ, fun q => absurd rfl q⟩⟩⟩) (fun Q hQ => ⟨fun q => absurd q (by decide), fun _ => ⟨fun q => absurd q (by decide), fun _ => ⟨fun _ => by rw [z8]; exact hQ, fun q => absurd rfl q⟩⟩⟩)
  by_cases e3 : w = 3
  · subst e3; refine a_same A0 (nI pr) (fun Q hQ => ⟨fun q => absurd q (by decide), fun _ => ⟨fun q => absurd q (by decide), fun _ => ⟨fun q => absurd q (by decide), fun _ => ⟨fun _ => by rw [s12]; exact hQ, fun q => absurd rfl q⟩⟩⟩⟩) (fun Q hQ => ⟨fun q => absurd q (by decide), fun _ => ⟨fun q => absurd q (by decide), fun _ => ⟨fun q => absurd q (by decide), fun _ => ⟨fun _ => by rw [z9]; exact hQ, fun q => absurd rfl q⟩⟩⟩⟩)
  by_cases e4 : w = 4
  · subst e4; refine a_same A0 (c_a C 14 4) (fun Q hQ => ⟨fun q => absurd q (by decide), fun _ => ⟨fun q => absurd q (by decide), fun _ => ⟨fun q => absurd q (by decide), fun _ => ⟨fun q => absurd q (by decide), fun _ => ⟨fun q => absurd q (by decide), fun _ => ⟨fun q => absurd q (by decide), fun _ => ⟨fun q => absurd q (by decide), fun _ => ⟨fun q => absurd q (by decide), fun _ => ⟨(ni_inl (by decide)).mpr (by decide), hQ⟩⟩⟩⟩⟩⟩⟩⟩⟩) (fun Q hQ => ⟨fun q => absurd q (by decide), fun _ => ⟨fun q => absurd q (by decide), fun _ => ⟨fun q => absurd q (by decide), fun _ => ⟨fun q => absurd q (by decide), fun _ => ⟨fun _ => by rw [← k4]; exact hQ, fun q => absurd rfl q⟩⟩⟩⟩⟩)
  by_cases e5 : w = 5
  · subst e5; refine a_same A0 (c_a C 14 5) (fun Q hQ => ⟨fun q => absurd q (by decide), fun _ => ⟨fun q => absurd q (by decide), fun _ => ⟨fun q => absurd q (by decide), fun _ => ⟨fun q => absurd q (by decide), fun _ => ⟨fun q => absurd q (by decide), fun _ => ⟨fun q => absurd q (by decide), fun _ => ⟨fun q => absurd q (by decide), fun _ => ⟨fun q => absurd q (by decide), fun _ => ⟨(ni_inl (by decide)).mpr (by decide), hQ⟩⟩⟩⟩⟩⟩⟩⟩⟩) (fun Q hQ => ⟨fun q => absurd q (by decide), fun _ => ⟨fun q => absurd q (by decide), fun _ => ⟨fun q => absurd q (by decide), fun _ => ⟨fun q => absurd q (by decide), fun _ => ⟨fun q => absurd q (by decide), fun _ => ⟨fun _ => by rw [← k5]; exact hQ, fun q => absurd rfl q⟩⟩⟩⟩⟩⟩)
  by_cases e6 : w = 6
  · subst e6; refine a_same A0 (c_a C 14 6) (fun Q hQ => ⟨fun q => absurd q (by decide), fun _ => ⟨fun q => absurd q (by decide), fun _ => ⟨fun q => absurd q (by decide), fun _ => ⟨fun q => absurd q (by decide), fun _ => ⟨fun q => absurd q (by decide), fun _ => ⟨fun q => absurd q (by decide), fun _ => ⟨fun q => absurd q (by decide), fun _ => ⟨fun q => absurd q (by decide), fun _ => ⟨(ni_inl (by decide)).mpr (by decide), hQ⟩⟩⟩⟩⟩⟩⟩⟩⟩) (fun Q hQ => ⟨fun q => absurd q (by decide), fun _ => ⟨fun q => absurd q (by decide), fun _ => ⟨fun q => absurd q (by decide), fun _ => ⟨fun q => absurd q (by decide), fun _ => ⟨fun q => absurd q (by decide), fun _ => ⟨fun q => absurd q (by decide), fun _ => ⟨fun _ => by rw [← k6]; exact hQ, fun q => absurd rfl q⟩⟩⟩⟩⟩⟩⟩)
  by_cases e7 : w = 7
  · subst e7; refine a_same A0 (c_a C 14 7) (fun Q hQ => ⟨fun q => absurd q (by decide), fun _ => ⟨fun q => absurd q (by decide), fun _ => ⟨fun q => absurd q (by decide), fun _ => ⟨fun q => absurd q (by decide), fun _ => ⟨fun q => absurd q (by decide), fun _ => ⟨fun q => absurd q (by decide), fun _ => ⟨fun q => absurd q (by decide), fun _ => ⟨fun q => absurd q (by decide), fun _ => ⟨(ni_inl (by decide)).mpr (by decide), hQ⟩⟩⟩⟩⟩⟩⟩⟩⟩) (fun Q hQ => ⟨fun q => absurd q (by decide), fun _ => ⟨fun q => absurd q (by decide), fun _ => ⟨fun q => absurd q (by decide), fun _ => ⟨fun q => absurd q (by decide), fun _ => ⟨fun q => absurd q (by decide), fun _ => ⟨fun q => absurd q (by decide), fun _ => ⟨fun q => absurd q (by decide), fun _ => ⟨fun _ => by rw [← k7]; exact hQ, fun q => absurd rfl q⟩⟩⟩⟩⟩⟩⟩⟩)
  by_cases e8 : w = 8
  · subst e8; refine a_same A0 (c_a C 14 8) (fun Q hQ => ⟨fun q => absurd q (by decide), fun _ => ⟨fun q => absurd q (by decide), fun _ => ⟨fun q => absurd q (by decide), fun _ => ⟨fun q => absurd q (by decide), fun _ => ⟨fun q => absurd q (by decide), fun _ => ⟨fun q => absurd q (by decide), fun _ => ⟨fun q => absurd q (by decide), fun _ => ⟨fun q => absurd q (by decide), fun _ => ⟨(ni_inl (by decide)).mpr (by decide), hQ⟩⟩⟩⟩⟩⟩⟩⟩⟩) (fun Q hQ => ⟨fun q => absurd q (by decide), fun _ => ⟨fun q => absurd q (by decide), fun _ => ⟨fun q => absurd q (by decide), fun _ => ⟨fun q => absurd q (by decide), fun _ => ⟨fun q => absurd q (by decide), fun _ => ⟨fun q => absurd q (by decide), fun _ => ⟨fun q => absurd q (by decide), fun _ => ⟨fun q => absurd q (by decide), fun _ => ⟨fun _ => by rw [← k8]; exact hQ, fun q => absurd rfl q⟩⟩⟩⟩⟩⟩⟩⟩⟩)
  by_cases e9 : w = 9
  · subst e9; refine a_same A0 (c_a C 14 9) (fun Q hQ => ⟨fun q => absurd q (by decide), fun _ => ⟨fun q => absurd q (by decide), fun _ => ⟨fun q => absurd q (by decide), fun _ => ⟨fun q => absurd q (by decide), fun _ => ⟨fun q => absurd q (by decide), fun _ => ⟨fun q => absurd q (by decide), fun _ => ⟨fun q => absurd q (by decide), fun _ => ⟨fun q => absurd q (by decide), fun _ => ⟨(ni_inl (by decide)).mpr (by decide), hQ⟩⟩⟩⟩⟩⟩⟩⟩⟩) (fun Q hQ => ⟨fun q => absurd q (by decide), fun _ => ⟨fun q => absurd q (by decide), fun _ => ⟨fun q => absurd q (by decide), fun _ => ⟨fun q => absurd q (by decide), fun _ => ⟨fun q => absurd q (by decide), fun _ => ⟨fun q => absurd q (by decide), fun _ => ⟨fun q => absurd q (by decide), fun _ => ⟨fun q => absurd q (by decide), fun _ => ⟨fun q => absurd q (by decide), fun _ => ⟨fun _ => by rw [← k9]; exact hQ, fun q => absurd rfl q⟩⟩⟩⟩⟩⟩⟩⟩⟩⟩)
  by_cases e10 : w = 10
  · subst e10; refine a_same A0 (c_a C 14 10) (fun Q hQ => ⟨fun q => absurd q (by decide), fun _ => ⟨fun q => absurd q (by decide), fun _ => ⟨fun q => absurd q (by decide), fun _ => ⟨fun q => absurd q (by decide), fun _ => ⟨fun q => absurd q (by decide), fun _ => ⟨fun q => absurd q (by decide), fun _ => ⟨fun q => absurd q (by decide), fun _ => ⟨fun q => absurd q (by decide), fun _ => ⟨(ni_inl (by decide)).mpr (by decide), hQ⟩⟩⟩⟩⟩⟩⟩⟩⟩) (fun Q hQ => ⟨fun q => absurd q (by decide), fun _ => ⟨fun q => absurd q (by decide), fun _ => ⟨fun q => absurd q (by decide), fun _ => ⟨fun q => absurd q (by decide), fun _ => ⟨fun q => absurd q (by decide), fun _ => ⟨fun q => absurd q (by decide), fun _ => ⟨fun q => absurd q (by decide), fun _ => ⟨fun q => absurd q (by decide), fun _ => ⟨fun q => absurd q (by decide), fun _ => ⟨fun q => absurd q (by decide), fun _ => ⟨fun _ => by rw [← k10]; exact hQ, fun q => absurd rfl q⟩⟩⟩⟩⟩⟩⟩⟩⟩⟩⟩)
  by_cases e11 : w = 11
  · subst e11; refine a_same A0 (c_a C 14 11) (fun Q hQ => ⟨fun q => absurd q (by decide), fun _ => ⟨fun q => absurd q (by decide), fun _ => ⟨fun q => absurd q (by decide), fun _ => ⟨fun q => absurd q (by decide), fun _ => ⟨fun q => absurd q (by decide), fun _ => ⟨fun q => absurd q (by decide), fun _ => ⟨fun q => absurd q (by decide), fun _ => ⟨fun q => absurd q (by decide), fun _ => ⟨(ni_inl (by decide)).mpr (by decide), hQ⟩⟩⟩⟩⟩⟩⟩⟩⟩) (fun Q hQ => ⟨fun q => absurd q (by decide), fun _ => ⟨fun q => absurd q (by decide), fun _ => ⟨fun q => absurd q (by decide), fun _ => ⟨fun q => absurd q (by decide), fun _ => ⟨fun q => absurd q (by decide), fun _ => ⟨fun q => absurd q (by decide), fun _ => ⟨fun q => absurd q (by decide), fun _ => ⟨fun q => absurd q (by decide), fun _ => ⟨fun q => absurd q (by decide), fun _ => ⟨fun q => absurd q (by decide), fun _ => ⟨fun q => absurd q (by decide), fun _ => ⟨fun _ => by rw [← k11]; exact hQ, fun q => absurd rfl q⟩⟩⟩⟩⟩⟩⟩⟩⟩⟩⟩⟩)
  by_cases e12 : w = 12
  · subst e12; refine a_same A0 (c_a C 14 12) (fun Q hQ => ⟨fun q => absurd q (by decide), fun _ => ⟨fun q => absurd q (by decide), fun _ => ⟨fun q => absurd q (by decide), fun _ => ⟨fun q => absurd q (by decide), fun _ => ⟨fun q => absurd q (by decide), fun _ => ⟨fun q => absurd q (by decide), fun _ => ⟨fun q => absurd q (by decide), fun _ => ⟨fun q => absurd q (by decide), fun _ => ⟨(ni_inl (by decide)).mpr (by decide), hQ⟩⟩⟩⟩⟩⟩⟩⟩⟩) (fun Q hQ => ⟨fun q => absurd q (by decide), fun _ => ⟨fun q => absurd q (by decide), fun _ => ⟨fun q => absurd q (by decide), fun _ => ⟨fun q => absurd q (by decide), fun _ => ⟨fun q => absurd q (by decide), fun _ => ⟨fun q => absurd q (by decide), fun _ => ⟨fun q => absurd q (by decide), fun _ => ⟨fun q => absurd q (by decide), fun _ => ⟨fun q => absurd q (by decide), fun _ => ⟨fun q => absurd q (by decide), fun _ => ⟨fun q => absurd q (by decide), fun _ => ⟨fun q => absurd q (by decide), fun _ => ⟨fun _ => by rw [← k12]; exact hQ, fun q => absurd rfl q⟩⟩⟩⟩⟩⟩⟩⟩⟩⟩⟩⟩⟩)
  by_cases e13 : w = 13
  · subst e13; refine a_same A0 (nI sz) (fun Q hQ => ⟨fun q => absurd q (by decide), fun _ => ⟨fun q => absurd q (by decide), fun _ => ⟨fun q => absurd q (by decide), fun _ => ⟨fun q => absurd q (by decide), fun _ => ⟨fun _ => by rw [s9]; exact hQ, fun q => absurd rfl q⟩⟩⟩⟩⟩) (fun Q hQ => ⟨fun q => absurd q (by decide), fun _ => ⟨fun q => absurd q (by decide), fun _ => ⟨fun q => absurd q (by decide), fun _ => ⟨fun q => absurd q (by decide), fun _ => ⟨fun q => absurd q (by decide), fun _ => ⟨fun q => absurd q (by decide), fun _ => ⟨fun q => absurd q (by decide), fun _ => ⟨fun q => absurd q (by decide), fun _ => ⟨fun q => absurd q (by decide), fun _ => ⟨fun q => absurd q (by decide), fun _ => ⟨fun q => absurd q (by decide), fun _ => ⟨fun q => absurd q (by decide), fun _ => ⟨fun q => absurd q (by decide), fun _ => ⟨fun _ => by rw [z0]; exact hQ, fun q => absurd rfl q⟩⟩⟩⟩⟩⟩⟩⟩⟩⟩⟩⟩⟩⟩)
  by_cases e14 : w = 14
  · subst e14; refine a_same A0 (nI k) (fun Q hQ => ⟨fun q => absurd q (by decide), fun _ => ⟨fun q => absurd q (by decide), fun _ => ⟨fun q => absurd q (by decide), fun _ => ⟨fun q => absurd q (by decide), fun _ => ⟨fun q => absurd q (by decide), fun _ => ⟨fun _ => by rw [kc]; exact hQ, fun q => absurd rfl q⟩⟩⟩⟩⟩⟩) (fun Q hQ => ⟨fun q => absurd q (by decide), fun _ => ⟨fun q => absurd q (by decide), fun _ => ⟨fun q => absurd q (by decide), fun _ => ⟨fun q => absurd q (by decide), fun _ => ⟨fun q => absurd q (by decide), fun _ => ⟨fun q => absurd q (by decide), fun _ => ⟨fun q => absurd q (by decide), fun _ => ⟨fun q => absurd q (by decide), fun _ => ⟨fun q => absurd q (by decide), fun _ => ⟨fun q => absurd q (by decide), fun _ => ⟨fun q => absurd q (by decide), fun _ => ⟨fun q => absurd q (by decide), fun _ => ⟨fun q => absurd q (by decide), fun _ => ⟨fun q => absurd q (by decide), fun _ => ⟨fun _ => by rw [km]; exact hQ, fun q => absurd rfl q⟩⟩⟩⟩⟩⟩⟩⟩⟩⟩⟩⟩⟩⟩⟩)
  have hno : w < 4 ∨ 13 ≤ w := by
    by_cases q : w < 0
    · left
      have : (0 : Int32) < 4 := by decide
      rw [Int32.lt_iff_toInt_lt] at q this ⊢
      omega
    · obtain ⟨j, hj, rfl⟩ := ni_ex q
      rw [ni_eql hj (by decide)] at e0 e1 e2 e3 e4 e5 e6 e7 e8 e9 e10 e11 e12 e13 e14
      rw [ni_ltl hj (by decide), ni_lle hj (by decide)]
      omega
  refine a_same A0 (-1) (fun Q hQ => ⟨fun q => absurd q e0, fun _ => ⟨fun q => absurd q e1, fun _ => ⟨fun q => absurd q e2, fun _ => ⟨fun q => absurd q e3, fun _ => ⟨fun q => absurd q e13, fun _ => ⟨fun q => absurd q e14, fun _ => ⟨fun _ => hQ, fun q => ⟨fun _ => hQ, fun q2 => ?_⟩⟩⟩⟩⟩⟩⟩⟩) (fun Q hQ => ⟨fun q => absurd q e0, fun _ => ⟨fun q => absurd q e1, fun _ => ⟨fun q => absurd q e2, fun _ => ⟨fun q => absurd q e3, fun _ => ⟨fun q => absurd q e4, fun _ => ⟨fun q => absurd q e5, fun _ => ⟨fun q => absurd q e6, fun _ => ⟨fun q => absurd q e7, fun _ => ⟨fun q => absurd q e8, fun _ => ⟨fun q => absurd q e9, fun _ => ⟨fun q => absurd q e10, fun _ => ⟨fun q => absurd q e11, fun _ => ⟨fun q => absurd q e12, fun _ => ⟨fun q => absurd q e13, fun _ => ⟨fun q => absurd q e14, fun _ => hQ⟩⟩⟩⟩⟩⟩⟩⟩⟩⟩⟩⟩⟩⟩⟩)
  rcases hno with hno | hno
  · exact absurd hno q
  · exact absurd hno q2
/-- what told and about say of a word, but for places -/
theorem e_about (R : RelM C M sz pr B O fl pa ro h mm ps nx st ad sl mv P) (w : gW (c_a C 10) (c_a C 11) O sz st ad x y s b) (a : Int32) (h2 : ¬ a = 2) : ∃ e, (∀ Q, Q e C → p_X3_aboutWord x y a C Q) ∧ (∀ Q, Q e M → p_X11_told s b a M Q) := by
  obtain ⟨kd, c1, c2⟩ := e_kind R w
  by_cases h0 : a = 0
  · exact ⟨kd, fun Q hQ => ⟨fun q => absurd h0 q, fun _ => c1 _ hQ⟩, fun Q hQ => ⟨fun _ => c2 _ hQ, fun q => absurd h0 q⟩⟩
  by_cases h1 : a = 1
  · have w0 := w
    obtain ⟨d1, d2 | d2 | ⟨d2, -⟩⟩ := w
    · obtain ⟨d2, d3⟩ := d2
      subst d1 d2 d3
      exact ⟨y, fun Q hQ => ⟨fun _ => ⟨fun q => absurd h1 q, fun _ => ⟨fun _ => ⟨fun q => absurd rfl q, fun _ => hQ⟩, fun q => absurd q (by decide)⟩⟩, fun q => absurd q h0⟩, fun Q hQ => ⟨fun q => absurd q h0, fun _ => ⟨fun _ => ⟨fun q => absurd rfl q, fun _ => hQ⟩, fun q => absurd h1 q⟩⟩⟩
    · obtain ⟨d2, d3, d4⟩ := d2
      subst d1 d2
      exact ⟨0, fun Q hQ => ⟨fun _ => ⟨fun q => absurd h1 q, fun _ => ⟨fun _ => ⟨fun _ => hQ, fun q => absurd q (by decide)⟩, fun q => absurd q (by decide)⟩⟩, fun q => absurd q h0⟩, fun Q hQ => ⟨fun q => absurd q h0, fun _ => ⟨fun _ => ⟨fun _ => ⟨fun q => absurd rfl q, fun _ => hQ⟩, fun q => absurd q (by decide)⟩, fun q => absurd h1 q⟩⟩⟩
    · subst d1 d2
      obtain ⟨v, hv, hb, -, -, t2, -⟩ := e_thing R w0
      refine ⟨nI (sl v), fun Q hQ => ⟨fun _ => ⟨fun q => absurd h1 q, fun _ => ⟨fun q => absurd rfl q, fun _ => t2 _ hQ⟩⟩, fun q => absurd q h0⟩, fun Q hQ => ⟨fun q => absurd q h0, fun _ => ⟨fun _ => ⟨fun _ => ⟨fun _ => ⟨?_, ?_⟩, fun q => absurd q (by decide)⟩, fun q => absurd q (by decide)⟩, fun q => absurd h1 q⟩⟩⟩
      · rw [hb]; exact (ni_in (by omega)).mpr hv
      · rw [hb, ni_cl (by omega), (R.2.2.1 v hv).1]; exact hQ
  · exact ⟨-1, fun Q hQ => ⟨fun _ => ⟨fun _ => hQ, fun q => absurd q h1⟩, fun q => absurd q h0⟩, fun Q hQ => ⟨fun q => absurd q h0, fun _ => ⟨fun q => absurd q h1, fun _ => ⟨fun q => absurd q h2, fun _ => hQ⟩⟩⟩⟩
theorem e_root (R : RelM C M sz pr B O fl pa ro h mm ps (8 + h) st ad sl mv P) (hr : r < 8 + h) (a : Int32) : ∃ e, (∀ Q, Q e C → p_X3_aboutRoot (nI r) a C Q) ∧ (∀ Q, Q e M → p_X11_told (m_a M 6 r) (m_a M 7 r) a M Q) := by
  have w := root_of R hr
  have h50 := R.2.1.2.2
  by_cases h2 : a = 2
  · by_cases hs : m_a M 6 r = 2
    · have hx : c_a C 12 r = 2 := w.1.trans hs
      obtain ⟨-, ⟨e, -⟩ | ⟨e, -⟩ | ⟨-, v, hv, hb, h1, hy⟩⟩ := w
      · rw [hs] at e; exact absurd e (by decide)
      · rw [hs] at e; exact absurd e (by decide)
      have ww : gW (c_a C 10) (c_a C 11) O sz st ad 2 (nI (ad v)) 2 (nI v) := ⟨rfl, Or.inr (Or.inr ⟨rfl, v, hv, rfl, Or.inl ⟨Or.inl h1, rfl⟩⟩)⟩
      obtain ⟨u, hu, hub, -, t1, -⟩ := e_thing R ww
      have hu2 : v = u := (ni_eq (by omega) (by omega)).mp hub
      subst hu2
      have hhf := j_half (C := C) R.1 R.2.1.1.2.1 hv (Or.inl h1)
      obtain ⟨g1, g2, g3, g4, g5, -⟩ := id R.1
      have h5 := g5 v hv h1
      refine ⟨nI (ad v - B), fun Q hQ => ⟨fun q => absurd h2 q, fun _ => ⟨(ni_in (by omega)).mpr (by omega), fun q => absurd ?_ q, fun _ => ?_⟩⟩, fun Q hQ => ⟨fun q => absurd (h2.symm.trans q) (by decide), fun _ => ⟨fun q => absurd (h2.symm.trans q) (by decide), fun _ => ⟨fun _ => ⟨fun q => absurd hs q, fun _ => ⟨?_, ?_⟩⟩, fun q => absurd h2 q⟩⟩⟩⟩
      · rw [ni_cl (by omega)]; exact hx
      · rw [ni_cl (by omega), hy]
        refine t1 _ (hhf _ ?_)
        rw [if_pos h1, R.2.1.1.2.1, pk_mul, R.1.base, ni_sub (by omega)]
        exact hQ
      · rw [hb]; exact (ni_in (by omega)).mpr hv
      · rw [hb, ni_cl (by omega), (R.2.2.1 v hv).2.2.1 h1]; exact hQ
    · have hx : ¬ c_a C 12 r = 2 := by rw [w.1]; exact hs
      refine ⟨-1, fun Q hQ => ⟨fun q => absurd h2 q, fun _ => ⟨(ni_in (by omega)).mpr (by omega), fun _ => hQ, fun q => absurd ?_ hx⟩⟩, fun Q hQ => ⟨fun q => absurd (h2.symm.trans q) (by decide), fun _ => ⟨fun q => absurd (h2.symm.trans q) (by decide), fun _ => ⟨fun _ => ⟨fun _ => hQ, fun q => absurd q hs⟩, fun q => absurd h2 q⟩⟩⟩⟩
      rw [ni_cl (by omega)] at q; exact q
  · obtain ⟨e, c1, c2⟩ := e_about R (w.w (tg := c_a C 10) (va := c_a C 11) (O := O) (sz := sz)) a h2
    refine ⟨e, fun Q hQ => ⟨fun _ => ⟨(ni_in (by omega)).mpr (by omega), ?_⟩, fun q => absurd q h2⟩, c2⟩
    rw [ni_cl (by omega)]
    exact c1 Q hQ
theorem a_hand (A : RelA C M) (w : Int32) : aEq C (m_iS M 2 0) (p_X10_hand x w C) (p_X11_hand x w M) := by
  have A0 := A.thr 0
  by_cases hx : isH x
  · obtain ⟨e1, e2⟩ := (isH_iff7 x).mp hx
    have e3 := (e_isHand (C := C) x).1 hx
    obtain ⟨r, hr, rfl⟩ := hx
    obtain ⟨sz, pr, B, O, fl, pa, ro, h, mm, ps, k, st, ad, sl, mv, P, R, k4, k6, kc, km, kb⟩ := id A0
    obtain ⟨e, c1, c2⟩ := e_root R (r := r) (by omega) w
    refine a_same A0 e (fun Q hQ => e3 _ ⟨fun q => absurd q (by decide), fun _ => c1 _ hQ⟩) (fun Q hQ => ⟨fun q => absurd q e1, fun _ => ⟨fun _ => ⟨(ni_in (by omega)).mpr (by omega), ?_⟩, fun q => absurd e2 q⟩⟩)
    rw [ni_cl (by omega)]
    exact c2 Q hQ
  · have e3 := (e_isHand (C := C) x).2 hx
    rw [isH_iff7] at hx
    exact a_same A0 (-1) (fun Q hQ => e3 _ ⟨fun _ => hQ, fun q => absurd rfl q⟩) (fun Q hQ => ⟨fun _ => hQ, fun q => ⟨fun q2 => absurd ⟨q, q2⟩ hx, fun _ => hQ⟩⟩)
theorem a_stack (A : RelA C M) (w : Int32) : aEq C (m_iS M 2 0) (p_X10_stack x w C) (p_X11_stack x w M) := by
  have A0 := A.thr 0
  by_cases h0 : x < 0
  · exact a_same A0 (-1) (fun Q hQ => ⟨fun _ => hQ, fun q => absurd h0 q⟩) (fun Q hQ => ⟨fun _ => hQ, fun q => absurd h0 q⟩)
  obtain ⟨r, hrb, rfl⟩ := ni_ex h0
  obtain ⟨sz, pr, B, O, fl, pa, ro, h, mm, ps, k, st, ad, sl, mv, P, R, k4, k6, kc, km, kb⟩ := id A0
  have s11 := R.2.1.1.2.2.1
  have z3 : m_i M 3 = nI h := R.2.1.2.1.2.1
  have h50 := R.2.1.2.2
  by_cases hh : r < h
  · have q1 : nI r < nI h := (ni_lt (by omega) (by omega)).mpr hh
    obtain ⟨e, c1, c2⟩ := e_root R (r := 8 + r) (by omega) w
    refine a_same A0 e (fun Q hQ => ⟨fun q => absurd q h0, fun _ => ⟨fun _ => ?_, fun q => absurd (by rw [s11]; exact q1) q⟩⟩) (fun Q hQ => ⟨fun q => absurd q h0, fun _ => ⟨fun _ => ?_, fun q => absurd (by rw [z3]; exact q1) q⟩⟩)
    · rw [ni_la]; exact c1 _ hQ
    · rw [ni_la, ni_cl (by omega)]; exact ⟨(ni_in (by omega)).mpr (by omega), c2 Q hQ⟩
  · have q1 : ¬ nI r < nI h := by rw [ni_lt (by omega) (by omega)]; exact hh
    refine a_same A0 (-1) (fun Q hQ => ⟨fun _ => hQ, fun _ => ⟨fun q => absurd (by rw [s11] at q; exact q) q1, fun _ => hQ⟩⟩) (fun Q hQ => ⟨fun _ => hQ, fun _ => ⟨fun q => absurd (by rw [z3] at q; exact q) q1, fun _ => hQ⟩⟩)
theorem a_slot (A : RelA C M) (j w : Int32) : aEq C (m_iS M 2 0) (p_X10_slot x j w C) (p_X11_slot x j w M) := by
  have A0 := A.thr 0
  by_cases hx : ¬ isH x
  · have e3 := (e_isHand (C := C) x).2 hx
    rw [isH_lt7] at hx
    refine a_same A0 (-1) (fun Q hQ => e3 _ ⟨fun _ => hQ, fun q => absurd rfl q⟩) (fun Q hQ => ⟨fun _ => hQ, fun q => ⟨fun _ => hQ, fun q2 => absurd ⟨q, q2⟩ hx⟩⟩)
  replace hx := Classical.not_not.mp hx
  obtain ⟨e1, e2⟩ := (isH_lt7 x).mp hx
  have e3 := (e_isHand (C := C) x).1 hx
  obtain ⟨r, hr, rfl⟩ := hx
  obtain ⟨sz, pr, B, O, fl, pa, ro, h, mm, ps, k, st, ad, sl, mv, P, R, k4, k6, kc, km, kb⟩ := id A0
  have wr := root_of R (r := r) (by omega)
  by_cases hs : m_a M 6 r = 2
  · have hx : c_a C 12 r = 2 := wr.1.trans hs
    obtain ⟨-, ⟨e, -⟩ | ⟨e, -⟩ | ⟨-, v, hv, hb, h1, hy⟩⟩ := wr
    · exact absurd (hs.symm.trans e) (by decide)
    · exact absurd (hs.symm.trans e) (by decide)
    have hb' : m_a M 7 r = nI v := hb
    have g4 := (R.1.2.2.2.1 v hv).1
    have g1 := R.1.1
    have hat := R.1.at hv (Or.inl h1)
    obtain ⟨f1, f2⟩ := e_slotOf R hr hv h1 hx hy j
    have hsl : m_a (m_iS M 2 0) 1 v = nI (sl v) := (R.2.2.1 v hv).1
    have ref : ∀ Q, ((j < 0 → Q (-1) (m_iS M 2 0)) ∧ (¬ j < 0 → ((j < nI (sl v) → ∀ u : Int32, u = (40 * nI v) + j → ((¬ w = 2 → vp_in u 52000 ∧ p_X11_told ((m_a M 4) u.toNatClampNeg) ((m_a M 5) u.toNatClampNeg) w (m_iS M 2 0) Q) ∧ (w = 2 → vp_in u 52000 ∧ ((¬ ((m_a M 4) u.toNatClampNeg) = 2 → Q (-1) (m_iS M 2 0)) ∧ (((m_a M 4) u.toNatClampNeg) = 2 → vp_in ((m_a M 5) u.toNatClampNeg) 1300 ∧ Q ((m_a M 2) ((m_a M 5) u.toNatClampNeg).toNatClampNeg) (m_iS M 2 0)))))) ∧ (¬ j < nI (sl v) → Q (-1) (m_iS M 2 0))))) → p_X11_slot (nI r) j w M Q := by
      intro Q hQ
      refine ⟨fun q => absurd q e1, fun _ => ⟨fun q => absurd q e2, fun _ => ⟨(ni_in (by omega)).mpr (by omega), ?_⟩⟩⟩
      rw [ni_cl (by omega)]
      refine ⟨fun q => absurd hs q, fun _ => ⟨fun q => absurd q (by decide), fun _ => ⟨hQ.1, fun q => ⟨(ni_in (by omega)).mpr (by omega), ?_, ?_⟩⟩⟩⟩
      · show vp_in (m_a M 7 r) 1300
        rw [hb']; exact (ni_in (by omega)).mpr hv
      · have e4 : m_a (m_iS M 2 0) 7 r = nI v := hb
        rw [e4, ni_cl (by omega), hsl]
        exact hQ.2 q
    rcases slot_cases (j := j) g4 with hj | ⟨i, hi, hj⟩
    · refine a_same A0 (-1) (fun Q hQ => e3 _ ⟨fun q => absurd q (by decide), fun _ => f1 hj _ ⟨fun q => absurd rfl q, fun _ => hQ⟩⟩) (fun Q hQ => ref Q ⟨fun _ => hQ, fun q => ⟨fun q2 => ?_, fun _ => hQ⟩⟩)
      rcases hj with hj | hj
      · exact absurd hj q
      · exact absurd q2 hj
    · subst hj
      have sw := ((R.2.2.2.1 v hv (by omega)).2.2.2 i hi).1
      have ec : (nI (40 * v + i)).toNatClampNeg = 40 * v + i := ni_cl (by omega)
      have ea : (nI (ad v + 2 + i)).toNatClampNeg = ad v + 2 + i := ni_cl (by omega)
      have eu : 40 * nI v + nI i = nI (40 * v + i) := by rw [ni_lm, nI_add]
      have cin : vp_in (nI (ad v + 2 + i)) (2 * c_sz C) := by rw [R.2.1.1.1]; exact (ni_in (by omega)).mpr (by omega)
      have cls : ∀ Q, p_X3_aboutSlot (nI (ad v + 2 + i)) w C Q → p_X10_slot (nI r) (nI i) w C Q := fun Q hQ => e3 _ ⟨fun q => absurd q (by decide), fun _ => f2 i hi rfl _ ⟨fun _ => hQ, fun q => absurd q (by rw [ni_m1 (by omega)]; exact id)⟩⟩
      have ref2 : ∀ Q, ((¬ w = 2 → p_X11_told ((m_a M 4) (40 * v + i)) ((m_a M 5) (40 * v + i)) w (m_iS M 2 0) Q) ∧ (w = 2 → ((¬ ((m_a M 4) (40 * v + i)) = 2 → Q (-1) (m_iS M 2 0)) ∧ (((m_a M 4) (40 * v + i)) = 2 → vp_in ((m_a M 5) (40 * v + i)) 1300 ∧ Q ((m_a M 2) ((m_a M 5) (40 * v + i)).toNatClampNeg) (m_iS M 2 0))))) → p_X11_slot (nI r) (nI i) w M Q := by
        intro Q hQ
        refine ref Q ⟨fun q => absurd q (nI_pos (by omega)), fun _ => ⟨fun _ u hu => ?_, fun q => absurd ((ni_lt (by omega) (by omega)).mpr hi) q⟩⟩
        rw [eu] at hu
        subst hu
        rw [ec]
        have hin : vp_in (nI (40 * v + i)) 52000 := (ni_in (by omega)).mpr (by omega)
        exact ⟨fun q => ⟨hin, hQ.1 q⟩, fun q => ⟨hin, hQ.2 q⟩⟩
      by_cases hw : w = 2
      · by_cases hs2 : m_a M 4 (40 * v + i) = 2
        · have sw2 := sw
          rw [show m_a (m_iS M 2 0) 4 (40 * v + i) = 2 from hs2] at sw2
          obtain ⟨u, hu, hub, hl, t1, -⟩ := e_thing R sw2
          have hhf := j_half (C := C) R.1 R.2.1.1.2.1 hu hl
          have hub' : m_a M 5 (40 * v + i) = nI u := hub
          have hst : m_a M 2 u = if st u = 1 then nI pr else nI (1 - pr) := by
            have := (R.2.2.1 u hu).2.1
            rw [show m_a M 2 u = _ from this]
            rcases hl with hl | hl <;> rw [hl] <;> rfl
          refine a_same A0 (if st u = 1 then nI pr else nI (1 - pr)) (fun Q hQ => cls Q ⟨fun q => absurd hw q, fun _ => ⟨cin, fun q => absurd ?_ q, fun _ => ?_⟩⟩) (fun Q hQ => ref2 Q ⟨fun q => absurd hw q, fun _ => ⟨fun q => absurd hs2 q, fun _ => ⟨?_, ?_⟩⟩⟩)
          · rw [ea]; exact sw2.1
          · rw [ea]; exact t1 _ (hhf _ hQ)
          · rw [hub']; exact (ni_in (by omega)).mpr hu
          · rw [hub', ni_cl (by omega), hst]; exact hQ
        · have hx2 : ¬ c_a C 10 (ad v + 2 + i) = 2 := by rw [sw.1]; exact hs2
          refine a_same A0 (-1) (fun Q hQ => cls Q ⟨fun q => absurd hw q, fun _ => ⟨cin, fun _ => hQ, fun q => absurd ?_ hx2⟩⟩) (fun Q hQ => ref2 Q ⟨fun q => absurd hw q, fun _ => ⟨fun _ => hQ, fun q => absurd q hs2⟩⟩)
          rw [ea] at q; exact q
      · obtain ⟨e, c1, c2⟩ := e_about R sw w hw
        refine a_same A0 e (fun Q hQ => cls Q ⟨fun _ => ⟨cin, ?_⟩, fun q => absurd q hw⟩) (fun Q hQ => ref2 Q ⟨fun _ => c2 Q hQ, fun q => absurd q hw⟩)
        rw [ea]; exact c1 Q hQ
  · have hx : ¬ c_a C 12 r = 2 := by rw [wr.1]; exact hs
    refine a_same A0 (-1) (fun Q hQ => e3 _ ⟨fun q => absurd q (by decide), fun _ => ⟨(ni_in (by omega)).mpr (by omega), fun _ => ⟨fun q => absurd rfl q, fun _ => hQ⟩, fun q => absurd ?_ hx⟩⟩) (fun Q hQ => ⟨fun q => absurd q e1, fun _ => ⟨fun q => absurd q e2, fun _ => ⟨(ni_in (by omega)).mpr (by omega), fun _ => ⟨fun _ => hQ, fun q => absurd rfl q⟩, fun q => absurd ?_ hs⟩⟩⟩)
    · rw [ni_cl (by omega)] at q; exact q
    · rw [ni_cl (by omega)] at q; exact q
end ZU
