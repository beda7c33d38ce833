/-! the rest of the ACTS -/
section ZA4
variable {C : cS} {M : mS} {sz pr B O fl pa ro h mm ps nx v t i n a r r2 r3 k : Nat} {st ad sl mv P : Nat → Nat} {x y s b hd rw9 : Int32}
theorem e_kind (R : RelM C M sz pr B O fl pa ro h mm ps nx st ad sl mv P) (w : gW (c_a C 10) (c_a C 11) O sz st ad x y s b) : ∃ kd, (∀ Q, Q kd C → p_X3_kindOf x y C Q) ∧ (∀ Q, Q kd M → p_X11_sortOf s b M Q) := by
  have w0 := w
  obtain ⟨h1, h2 | h2 | ⟨h2, -⟩⟩ := w
  · obtain ⟨h2, -⟩ := h2
    subst h1 h2
    exact ⟨0, fun Q hQ => ⟨fun q => absurd q (by decide), fun _ => hQ⟩, fun Q hQ => ⟨fun q => absurd rfl q, fun _ => hQ⟩⟩
  · obtain ⟨h2, -⟩ := h2
    subst h1 h2
    exact ⟨1, fun Q hQ => ⟨fun q => absurd q (by decide), fun _ => hQ⟩, fun Q hQ => ⟨fun _ => ⟨fun q => absurd rfl q, fun _ => hQ⟩, fun q => absurd q (by decide)⟩⟩
  · subst h1 h2
    obtain ⟨v, hv, hb, -, -, -, -, t4⟩ := e_thing R w0
    refine ⟨_, t4, fun Q hQ => ⟨fun _ => ⟨fun _ => ⟨by rw [hb]; exact (ni_in (by omega)).mpr hv, ?_⟩, fun q => absurd q (by decide)⟩, fun q => absurd q (by decide)⟩⟩
    rw [hb, ni_cl (by omega)]
    by_cases e : m_a M 0 v = 0
    · rw [if_pos e] at hQ; exact ⟨fun _ => hQ, fun q => absurd e q⟩
    · rw [if_neg e] at hQ; exact ⟨fun q => absurd q e, fun _ => hQ⟩
theorem a_set (A : RelA C M) (hr : r < 8) (w : Int32) : aEqN C M (p_X2_give (nI r) 0 w C) (fun Q => p_X11_give (nI r) 0 w M (fun M2 => Q 0 M2)) := by
  obtain ⟨sz, pr, B, O, fl, pa, ro, h, mm, ps, k, st, ad, sl, mv, P, R, k4, k6, kc, km, kb⟩ := A
  exact a_give R k4 k6 kc km kb hr gE.num
theorem a_none (A : RelA C M) (hr : r < 8) : aEqN C M (p_X2_give (nI r) 1 0 C) (fun Q => p_X11_give (nI r) 1 0 M (fun M2 => Q 0 M2)) := by
  obtain ⟨sz, pr, B, O, fl, pa, ro, h, mm, ps, k, st, ad, sl, mv, P, R, k4, k6, kc, km, kb⟩ := A
  exact a_give R k4 k6 kc km kb hr gE.nob
theorem a_copy (A : RelA C M) (hr : r < 8) (hr2 : r2 < 8) : aEqN C M (fun Q => vp_in (nI r2) 58 ∧ p_X2_give (nI r) ((c_a C 12) (nI r2).toNatClampNeg) ((c_a C 13) (nI r2).toNatClampNeg) C Q) (fun Q => vp_in (nI r2) 58 ∧ p_X11_give (nI r) ((m_a M 6) (nI r2).toNatClampNeg) ((m_a M 7) (nI r2).toNatClampNeg) M (fun M2 => Q 0 M2)) := by
  obtain ⟨sz, pr, B, O, fl, pa, ro, h, mm, ps, k, st, ad, sl, mv, P, R, k4, k6, kc, km, kb⟩ := A
  rw [rcl (by omega)]
  exact (a_give R k4 k6 kc km kb hr (root_of R (r := r2) (by omega))).mp (fun Q hQ => ⟨rin (by omega), hQ⟩) (fun Q hQ => ⟨rin (by omega), hQ⟩)
theorem a_size (A : RelA C M) (hr : r < 8) (hr2 : r2 < 8) : aEqN C M (fun Q => p_X2_hasThing (nI r2) C (fun rz60 Cz59 => ((rz60 = 0 → Q 2 Cz59) ∧ (¬ rz60 = 0 → vp_in (nI r2) 58 ∧ p_X3_slotsOf ((c_a Cz59 13) (nI r2).toNatClampNeg) Cz59 (fun rz64 Cz63 => p_X2_give (nI r) 0 rz64 Cz63 Q)))))
    (fun Q => p_X11_isThing (nI r2) M (fun rz52 Mz51 => ((¬ rz52 = 0 → vp_in (nI r2) 58 ∧ vp_in ((m_a Mz51 7) (nI r2).toNatClampNeg) 1300 ∧ p_X11_give (nI r) 0 ((m_a Mz51 1) ((m_a Mz51 7) (nI r2).toNatClampNeg).toNatClampNeg) Mz51 (fun Mz56 => Q 0 Mz56)) ∧ (rz52 = 0 → Q 2 Mz51)))) := by
  have A0 := A
  obtain ⟨sz, pr, B, O, fl, pa, ro, h, mm, ps, k, st, ad, sl, mv, P, R, k4, k6, kc, km, kb⟩ := A
  have w := root_of R (r := r2) (by omega)
  by_cases hs : m_a M 6 r2 = 2
  · have w2 := w
    have hx : c_a C 12 r2 = 2 := w.1.trans hs
    rw [hs] at w2
    obtain ⟨v, hv, hb, -, -, t2, -⟩ := e_thing R (w2.w (tg := c_a C 10) (va := c_a C 11) (O := O) (sz := sz))
    refine (a_set A0 hr (nI (sl v))).mp (fun Q hQ => ⟨rin (by omega), ?_⟩) (fun Q hQ => ⟨rin (by omega), ?_⟩)
    · rw [rcl (by omega)]
      refine ⟨fun q => absurd hx q, fun _ => ⟨fun q => absurd q (by decide), fun _ => ⟨rin (by omega), t2 _ hQ⟩⟩⟩
    · rw [rcl (by omega)]
      refine ⟨fun q => absurd hs q, fun _ => ⟨fun _ => ⟨rin (by omega), by rw [hb]; exact (ni_in (by omega)).mpr hv, ?_⟩, fun q => absurd q (by decide)⟩⟩
      rw [hb, ni_cl (by omega), (R.2.2.1 v hv).1]
      exact hQ
  · have hx : ¬ c_a C 12 r2 = 2 := by rw [w.1]; exact hs
    refine a_sameN A0 2 (fun Q hQ => ⟨rin (by omega), ?_⟩) (fun Q hQ => ⟨rin (by omega), ?_⟩)
    · rw [rcl (by omega)]
      exact ⟨fun _ => ⟨fun _ => hQ, fun q => absurd rfl q⟩, fun q => absurd q hx⟩
    · rw [rcl (by omega)]
      exact ⟨fun _ => ⟨fun q => absurd rfl q, fun _ => hQ⟩, fun q => absurd q hs⟩
theorem a_kind (A : RelA C M) (hr : r < 8) (hr2 : r2 < 8) : aEqN C M (fun Q => vp_in (nI r2) 58 ∧ p_X3_kindOf ((c_a C 12) (nI r2).toNatClampNeg) ((c_a C 13) (nI r2).toNatClampNeg) C (fun rz70 Cz69 => p_X2_give (nI r) 0 rz70 Cz69 Q))
    (fun Q => vp_in (nI r2) 58 ∧ p_X11_sortOf ((m_a M 6) (nI r2).toNatClampNeg) ((m_a M 7) (nI r2).toNatClampNeg) M (fun rz60 Mz59 => p_X11_give (nI r) 0 rz60 Mz59 (fun Mz61 => Q 0 Mz61))) := by
  have A0 := A
  obtain ⟨sz, pr, B, O, fl, pa, ro, h, mm, ps, k, st, ad, sl, mv, P, R, k4, k6, kc, km, kb⟩ := A
  have w := root_of R (r := r2) (by omega)
  obtain ⟨kd, e1, e2⟩ := e_kind R (w.w (tg := c_a C 10) (va := c_a C 11) (O := O) (sz := sz))
  rw [rcl (by omega)]
  exact (a_set A0 hr kd).mp (fun Q hQ => ⟨rin (by omega), e1 _ hQ⟩) (fun Q hQ => ⟨rin (by omega), e2 _ hQ⟩)
theorem gE_inj (R : RelM C M sz pr B O fl pa ro h mm ps nx st ad sl mv P) {y' b' : Int32} (w : gE st ad x y 2 b) (w' : gE st ad x y' 2 b') : y = y' ↔ b = b' := by
  obtain ⟨-, ⟨e, -⟩ | ⟨e, -⟩ | ⟨-, v, hv, rfl, h1, rfl⟩⟩ := w
  · exact absurd e (by decide)
  · exact absurd e (by decide)
  obtain ⟨-, ⟨e, -⟩ | ⟨e, -⟩ | ⟨-, u, hu, rfl, h2, rfl⟩⟩ := w'
  · exact absurd e (by decide)
  · exact absurd e (by decide)
  have g1 := R.1.1
  have a1 := R.1.at hv (Or.inl h1)
  have a2 := R.1.at hu (Or.inl h2)
  rw [ni_eq (by omega) (by omega), ni_eq (by omega) (by omega)]
  constructor
  · intro q
    by_cases e : v = u
    · exact e
    · have := R.1.2.2.2.2.2.2.1 v u hv hu e (h1.trans h2.symm) (by omega)
      omega
  · intro q; rw [q]
theorem a_same17 (A : RelA C M) (hr : r < 8) (hr2 : r2 < 8) (hr3 : r3 < 8) : aEqN C M (fun Q => p_X2_haveSame (nI r2) (nI r3) C (fun rz91 Cz90 => ((rz91 = 0 → p_X2_give (nI r) 0 0 Cz90 Q) ∧ (¬ rz91 = 0 → p_X2_give (nI r) 0 1 Cz90 Q))))
    (fun Q => vp_in (nI r2) 58 ∧ vp_in (nI r3) 58 ∧ ((¬ ((m_a M 6) (nI r2).toNatClampNeg) = ((m_a M 6) (nI r3).toNatClampNeg) → p_X11_give (nI r) 0 0 M (fun Mz66 => Q 0 Mz66)) ∧ (((m_a M 6) (nI r2).toNatClampNeg) = ((m_a M 6) (nI r3).toNatClampNeg) → ((((m_a M 6) (nI r2).toNatClampNeg) = 1 → p_X11_give (nI r) 0 1 M (fun Mz68 => Q 0 Mz68)) ∧ (¬ ((m_a M 6) (nI r2).toNatClampNeg) = 1 → ((¬ ((m_a M 7) (nI r2).toNatClampNeg) = ((m_a M 7) (nI r3).toNatClampNeg) → p_X11_give (nI r) 0 0 M (fun Mz70 => Q 0 Mz70)) ∧ (((m_a M 7) (nI r2).toNatClampNeg) = ((m_a M 7) (nI r3).toNatClampNeg) → p_X11_give (nI r) 0 1 M (fun Mz71 => Q 0 Mz71)))))))) := by
  have A0 := A
  obtain ⟨sz, pr, B, O, fl, pa, ro, h, mm, ps, k, st, ad, sl, mv, P, R, k4, k6, kc, km, kb⟩ := A
  have w := root_of R (r := r2) (by omega)
  have w' := root_of R (r := r3) (by omega)
  have e2 : (nI r2).toNatClampNeg = r2 := rcl (by omega)
  have e3 : (nI r3).toNatClampNeg = r3 := rcl (by omega)
  rw [e2, e3]
  by_cases hs : m_a M 6 r2 = m_a M 6 r3
  · have ht : c_a C 12 r2 = c_a C 12 r3 := by rw [w.1, w'.1]; exact hs
    by_cases h1 : m_a M 6 r2 = 1
    · have hy : c_a C 13 r2 = c_a C 13 r3 := by
        obtain ⟨-, e | e | e⟩ := w
        · rw [h1] at e; exact absurd e.1 (by decide)
        · obtain ⟨-, f | f | f⟩ := w'
          · rw [← hs, h1] at f; exact absurd f.1 (by decide)
          · rw [e.2.1, f.2.1]
          · rw [← hs, h1] at f; exact absurd f.1 (by decide)
        · rw [h1] at e; exact absurd e.1 (by decide)
      refine (a_set A0 hr 1).mp (fun Q hQ => ⟨rin (by omega), rin (by omega), ?_⟩) (fun Q hQ => ⟨rin (by omega), rin (by omega), fun q => absurd hs q, fun _ => ⟨fun _ => hQ, fun q => absurd h1 q⟩⟩)
      rw [e2, e3]
      exact ⟨fun q => absurd ht q, fun _ => ⟨fun q => absurd hy q, fun _ => ⟨fun q => absurd q (by decide), fun _ => hQ⟩⟩⟩
    · have key : c_a C 13 r2 = c_a C 13 r3 ↔ m_a M 7 r2 = m_a M 7 r3 := by
        by_cases h2 : m_a M 6 r2 = 2
        · have w2 := w
          have w3 := w'
          rw [h2] at w2
          rw [← hs, h2] at w3
          rw [← ht] at w3
          exact gE_inj R w2 w3
        · obtain ⟨-, e | e | e⟩ := w
          · obtain ⟨-, f | f | f⟩ := w'
            · rw [e.2, f.2]
            · rw [← hs] at f; exact absurd f.1 h1
            · rw [← hs] at f; exact absurd f.1 h2
          · exact absurd e.1 h1
          · exact absurd e.1 h2
      by_cases h3 : m_a M 7 r2 = m_a M 7 r3
      · refine (a_set A0 hr 1).mp (fun Q hQ => ⟨rin (by omega), rin (by omega), ?_⟩) (fun Q hQ => ⟨rin (by omega), rin (by omega), fun q => absurd hs q, fun _ => ⟨fun q => absurd q h1, fun _ => ⟨fun q => absurd h3 q, fun _ => hQ⟩⟩⟩)
        rw [e2, e3]
        exact ⟨fun q => absurd ht q, fun _ => ⟨fun q => absurd (key.mpr h3) q, fun _ => ⟨fun q => absurd q (by decide), fun _ => hQ⟩⟩⟩
      · refine (a_set A0 hr 0).mp (fun Q hQ => ⟨rin (by omega), rin (by omega), ?_⟩) (fun Q hQ => ⟨rin (by omega), rin (by omega), fun q => absurd hs q, fun _ => ⟨fun q => absurd q h1, fun _ => ⟨fun _ => hQ, fun q => absurd q h3⟩⟩⟩)
        rw [e2, e3]
        exact ⟨fun q => absurd ht q, fun _ => ⟨fun _ => ⟨fun _ => hQ, fun q => absurd rfl q⟩, fun q => absurd (key.mp q) h3⟩⟩
  · have ht : ¬ c_a C 12 r2 = c_a C 12 r3 := by rw [w.1, w'.1]; exact hs
    refine (a_set A0 hr 0).mp (fun Q hQ => ⟨rin (by omega), rin (by omega), ?_⟩) (fun Q hQ => ⟨rin (by omega), rin (by omega), fun _ => hQ, fun q => absurd q hs⟩)
    rw [e2, e3]
    exact ⟨fun _ => ⟨fun _ => hQ, fun q => absurd rfl q⟩, fun q => absurd q ht⟩
theorem a_push (A : RelA C M) (hr : r < 8) : aEqN C M (p_X2_pushHand (nI r) C) (fun Q => ((¬ (m_i M 3) = 50 → vp_in (nI r) 58 ∧ p_X11_give (8 + (m_i M 3)) ((m_a M 6) (nI r).toNatClampNeg) ((m_a M 7) (nI r).toNatClampNeg) M (fun Mz75 => Q 0 (m_iS Mz75 3 ((m_i Mz75 3) + 1)))) ∧ ((m_i M 3) = 50 → Q 6 M))) := by
  have A0 := A
  obtain ⟨sz, pr, B, O, fl, pa, ro, h, mm, ps, k, st, ad, sl, mv, P, R, k4, k6, kc, km, kb⟩ := A
  have w := root_of R (r := r) (by omega)
  obtain ⟨G, ⟨⟨s0, s9, s11, s12, s13, s14, s15⟩, ⟨z0, z3, z4, z5, z6, z7, z8, z9⟩, h50⟩, T, H, Rt, V, K⟩ := R
  by_cases hh : h = 50
  · refine a_sameN A0 6 (fun Q hQ => ⟨fun q => ?_, fun _ => hQ⟩) (fun Q hQ => ⟨fun q => absurd ?_ q, fun _ => hQ⟩)
    · rw [s11, ni_ltl (by omega) (by decide)] at q; omega
    · rw [z3, hh]; rfl
  · have rc : (nI (8 + h)).toNatClampNeg = 8 + h := ni_cl (by omega)
    refine ⟨0, c_aU (c_aU (c_iS C 11 (nI (h + 1))) 12 (nI (8 + h)) (c_a C 12 r)) 13 (nI (8 + h)) (c_a C 13 r), m_iS (m_aU (m_aU M 6 (nI (8 + h)) (m_a M 6 r)) 7 (nI (8 + h)) (m_a M 7 r)) 3 (nI (h + 1)), fun Q hQ => ⟨fun _ => ?_, fun q => absurd ?_ q⟩, fun Q hQ => ⟨fun _ => ⟨rin (by omega), ?_⟩, fun q => ?_⟩,
      ⟨sz, pr, B, O, fl, pa, ro, h + 1, mm, ps, k, st, ad, sl, mv, P, ⟨G, ⟨⟨s0, s9, rfl, s12, s13, s14, s15⟩, ⟨z0, rfl, z4, z5, z6, z7, z8, z9⟩, by omega⟩, T, H, ?_, V, K⟩, k4, k6, kc, km, kb⟩, (((wrC.rf C).i (by decide)).u (by decide)).u (by decide), (((wrM.rf M).u (by decide)).u (by decide)).i (by decide), by decide⟩
    · unfold p_X3_roots
      rw [s11, nI_1]
      refine ⟨rin (by omega), ?_⟩
      have e1 : 8 + c_i (c_iS C 11 (nI (h + 1))) 11 - 1 = nI (8 + h) := by
        show 8 + nI (h + 1) - 1 = _
        rw [ni_la, ni_sl (by omega)]; rfl
      rw [e1, rcl (by omega)]
      exact ⟨(ni_in (by omega)).mpr (by omega), hQ⟩
    · rw [s11, ni_ltl (by omega) (by decide)]; omega
    · rw [z3, ni_la, rcl (by omega)]
      refine ⟨(ni_in (by omega)).mpr (by omega), ?_⟩
      show Q 0 (m_iS _ 3 (m_i M 3 + 1))
      rw [z3, nI_1]
      exact hQ
    · rw [z3, ni_eql (by omega) (by decide)] at q; omega
    · have e12 : c_a (c_aU (c_aU (c_iS C 11 (nI (h + 1))) 12 (nI (8 + h)) (c_a C 12 r)) 13 (nI (8 + h)) (c_a C 13 r)) 12 = upd (c_a C 12) (8 + h) (c_a C 12 r) := by
        show upd (c_a C 12) (nI (8 + h)).toNatClampNeg (c_a C 12 r) = _; rw [rc]
      have e13 : c_a (c_aU (c_aU (c_iS C 11 (nI (h + 1))) 12 (nI (8 + h)) (c_a C 12 r)) 13 (nI (8 + h)) (c_a C 13 r)) 13 = upd (c_a C 13) (8 + h) (c_a C 13 r) := by
        show upd (c_a C 13) (nI (8 + h)).toNatClampNeg (c_a C 13 r) = _; rw [rc]
      have e6 : m_a (m_iS (m_aU (m_aU M 6 (nI (8 + h)) (m_a M 6 r)) 7 (nI (8 + h)) (m_a M 7 r)) 3 (nI (h + 1))) 6 = upd (m_a M 6) (8 + h) (m_a M 6 r) := by
        show upd (m_a M 6) (nI (8 + h)).toNatClampNeg (m_a M 6 r) = _; rw [rc]
      have e7 : m_a (m_iS (m_aU (m_aU M 6 (nI (8 + h)) (m_a M 6 r)) 7 (nI (8 + h)) (m_a M 7 r)) 3 (nI (h + 1))) 7 = upd (m_a M 7) (8 + h) (m_a M 7 r) := by
        show upd (m_a M 7) (nI (8 + h)).toNatClampNeg (m_a M 7 r) = _; rw [rc]
      rw [e12, e13, e6, e7]
      intro q hq
      rw [up_at, up_at, up_at, up_at]
      by_cases e : q = 8 + h
      · rw [if_pos e, if_pos e, if_pos e, if_pos e]; exact ⟨w.w, fun _ => w⟩
      · rw [if_neg e, if_neg e, if_neg e, if_neg e]
        have z := Rt q (by omega)
        exact ⟨z.1, fun _ => z.2 (by omega)⟩
theorem a_pop (A : RelA C M) (hr : r < 8) : aEqN C M (p_X2_popHand (nI r) C) (fun Q => ((¬ (m_i M 3) = 0 → vp_in (8 + ((m_i M 3) - 1)) 58 ∧ p_X11_give (nI r) ((m_a M 6) (8 + ((m_i M 3) - 1)).toNatClampNeg) ((m_a M 7) (8 + ((m_i M 3) - 1)).toNatClampNeg) (m_iS M 3 ((m_i M 3) - 1)) (fun Mz79 => Q 0 Mz79)) ∧ ((m_i M 3) = 0 → Q 6 M))) := by
  have A0 := A
  obtain ⟨sz, pr, B, O, fl, pa, ro, h, mm, ps, k, st, ad, sl, mv, P, R, k4, k6, kc, km, kb⟩ := A
  obtain ⟨G, ⟨⟨s0, s9, s11, s12, s13, s14, s15⟩, ⟨z0, z3, z4, z5, z6, z7, z8, z9⟩, h50⟩, T, H, Rt, V, K⟩ := id R
  by_cases hh : h = 0
  · refine a_sameN A0 6 (fun Q hQ => ⟨fun q => ?_, fun _ => hQ⟩) (fun Q hQ => ⟨fun q => absurd ?_ q, fun _ => hQ⟩)
    · rw [s11, ni_llt (by omega) (by decide)] at q; omega
    · rw [z3, hh]; rfl
  · obtain ⟨g, hg⟩ : ∃ g, h = g + 1 := ⟨h - 1, by omega⟩
    subst hg
    have w := root_of R (r := 8 + g) (by omega)
    have R1 : RelM (c_iS C 11 (nI g)) (m_iS M 3 (nI g)) sz pr B O fl pa ro g mm ps (8 + g) st ad sl mv P := by
      refine ⟨G, ⟨⟨s0, s9, rfl, s12, s13, s14, s15⟩, ⟨z0, rfl, z4, z5, z6, z7, z8, z9⟩, by omega⟩, T, H, fun q hq => ?_, V, K⟩
      have z := Rt q (by omega)
      exact ⟨z.1, fun _ => z.2 (by omega)⟩
    have e1 : m_i M 3 - 1 = nI g := by rw [z3, ni_sl (by omega)]; rfl
    have e2 : c_i C 11 - 1 = nI g := by rw [s11, ni_sl (by omega)]; rfl
    have e3 : (nI (8 + g)).toNatClampNeg = 8 + g := ni_cl (by omega)
    refine ((a_give R1 k4 k6 kc km kb hr w).mp (fun Q hQ => ⟨fun _ u hu => ?_, fun q => absurd ?_ q⟩) (fun Q hQ => ⟨fun _ => ?_, fun q => ?_⟩)).tr ((wrC.rf C).i (by decide)) ((wrM.rf M).i (by decide))
    · rw [s11, ni_la, ni_sl (by omega)] at hu
      have hu : u = nI (8 + g) := hu
      subst hu
      refine ⟨(ni_in (by omega)).mpr (by omega), ?_⟩
      rw [e2, e3]
      exact hQ
    · rw [s11, ni_llt (by omega) (by decide)]; omega
    · rw [e1, ni_la, e3]
      exact ⟨(ni_in (by omega)).mpr (by omega), hQ⟩
    · rw [z3, ni_eql (by omega) (by decide)] at q; omega
end ZA4
