/-! THE MEMORY: where a thing is by now; a word is brought -/
section ZQ
theorem up_self (f : Nat → Int32) (k : Nat) : upd f k (f k) = f := by
  funext j
  rw [up_at]
  by_cases e : j = k
  · rw [if_pos e, e]
  · rw [if_neg e]
variable {C : cS} {M : mS} {sz pr B O fl pa ro h mm ps nx v t i : Nat} {st ad sl mv P : Nat → Nat} {x y s b : Int32}
theorem gE.of (hs : s ≠ 2) {tg va : Nat → Int32} (w : gW tg va O sz st ad x y s b) : gE st ad x y s b := by
  obtain ⟨h1, h2 | h2 | ⟨h2, -⟩⟩ := w
  · exact ⟨h1, Or.inl h2⟩
  · exact ⟨h1, Or.inr (Or.inl h2)⟩
  · exact absurd h2 hs
/-- a live thing's address is in the rows -/
theorem Geo.at (G : Geo sz pr B O fl pa ro st ad sl) (hv : v < 1300) (h1 : st v = 1 ∨ st v = 2) : ad v + sl v + 2 ≤ 2 * sz := by
  obtain ⟨g1, g2, g3, g4, g5, g6, g7, g8, g9⟩ := G
  rcases h1 with h1 | h1
  · have := g5 v hv h1; omega
  · have := g6 v hv h1; omega
theorem j_home (G : Geo sz pr B O fl pa ro st ad sl) (s0 : c_sz C = sz) {row so vl : Nat → Int32} (H : gH (c_a C 10) (c_a C 11) row so vl B O sz pa ro st ad sl) (w : gW (c_a C 10) (c_a C 11) O sz st ad x y 2 b) :
    ∃ v, v < 1300 ∧ b = nI v ∧ (st v = 1 ∨ st v = 2) ∧ (∀ Q, Q (nI (ad v)) C → p_X3_home y C Q) := by
  obtain ⟨h1, ⟨h2, -⟩ | ⟨h2, -⟩ | ⟨-, v, h3, h4, h5⟩⟩ := w
  · cases h2
  · cases h2
  have g1 := G.1
  have g2 := G.2.1
  rcases h5 with ⟨h5, h6⟩ | ⟨h5, f, h6, h7, h8, h9, h10⟩
  · refine ⟨v, h3, h4, h5, fun Q hQ => ?_⟩
    have ha := G.at h3 h5
    have q := (H v h3 (by omega)).1
    subst h6
    unfold p_X3_home
    rw [ni_cl (by omega), s0, ni_in (by omega)]
    refine ⟨by omega, fun _ => hQ, fun k => absurd (q.symm.trans k) ?_⟩
    split <;> decide
  · refine ⟨v, h3, h4, Or.inl h5, fun Q hQ => ?_⟩
    subst h6
    unfold p_X3_home
    rw [ni_cl (by omega), s0, ni_in (by omega)]
    exact ⟨by omega, fun k => absurd h9 k, fun _ => by rw [h10]; exact hQ⟩
theorem j_half (G : Geo sz pr B O fl pa ro st ad sl) (s9 : c_i C 9 = nI sz) (hv : v < 1300) (h1 : st v = 1 ∨ st v = 2) : ∀ Q, Q (if st v = 1 then nI pr else nI (1 - pr)) C → p_X3_halfOf (nI (ad v)) C Q := by
  intro Q hQ
  have ha := G.at hv h1
  obtain ⟨g1, g2, g3, g4, g5, g6, g7, g8, g9⟩ := G
  unfold p_X3_halfOf
  rw [s9, ni_le (by omega) (by omega)]
  rcases h1 with h1 | h1
  · rw [if_pos h1] at hQ
    have := g5 v hv h1
    rcases g2 with g2 | g2
    · refine ⟨fun q => by omega, fun _ => ?_⟩
      rw [g2.1] at hQ; exact hQ
    · refine ⟨fun _ => ?_, fun q => by omega⟩
      rw [g2.1] at hQ; exact hQ
  · rw [if_neg (by omega)] at hQ
    have := g6 v hv h1
    rcases g2 with g2 | g2
    · refine ⟨fun _ => ?_, fun q => by omega⟩
      rw [g2.1] at hQ; exact hQ
    · refine ⟨fun q => by omega, fun _ => ?_⟩
      rw [g2.1] at hQ; exact hQ
/-- a slot is written -/
theorem RelM.put (R : RelM C M sz pr B O fl pa ro h mm ps nx st ad sl mv P) (ht : t < 1300) (h1 : st t = 1) (hi : i < sl t) (hE : gE st ad x y s b) :
    RelM (c_aU (c_aU C 10 (nI (ad t + 2 + i)) x) 11 (nI (ad t + 2 + i)) y) (m_aU (m_aU M 4 (nI (40 * t + i)) s) 5 (nI (40 * t + i)) b) sz pr B O fl pa ro h mm ps nx st ad sl mv P := by
  obtain ⟨G, S, T, H, Rt, V, K⟩ := R
  have ha := G.at ht (Or.inl h1)
  have g1 := G.1
  have g4 := (G.2.2.2.1 t ht).1
  have e1 : (nI (ad t + 2 + i)).toNatClampNeg = ad t + 2 + i := ni_cl (by omega)
  have e2 : (nI (40 * t + i)).toNatClampNeg = 40 * t + i := ni_cl (by omega)
  have k1 : c_a (c_aU (c_aU C 10 (nI (ad t + 2 + i)) x) 11 (nI (ad t + 2 + i)) y) 10 = upd (c_a C 10) (ad t + 2 + i) x := by
    show upd (c_a C 10) (nI (ad t + 2 + i)).toNatClampNeg x = _; rw [e1]
  have k2 : c_a (c_aU (c_aU C 10 (nI (ad t + 2 + i)) x) 11 (nI (ad t + 2 + i)) y) 11 = upd (c_a C 11) (ad t + 2 + i) y := by
    show upd (c_a C 11) (nI (ad t + 2 + i)).toNatClampNeg y = _; rw [e1]
  have k3 : m_a (m_aU (m_aU M 4 (nI (40 * t + i)) s) 5 (nI (40 * t + i)) b) 4 = upd (m_a M 4) (40 * t + i) s := by
    show upd (m_a M 4) (nI (40 * t + i)).toNatClampNeg s = _; rw [e2]
  have k4 : m_a (m_aU (m_aU M 4 (nI (40 * t + i)) s) 5 (nI (40 * t + i)) b) 5 = upd (m_a M 5) (40 * t + i) b := by
    show upd (m_a M 5) (nI (40 * t + i)).toNatClampNeg b = _; rw [e2]
  exact ⟨G, S, T, gH.put G ht h1 hi hE k1 k2 k3 k4 H, gR.congr (put_old G ht h1 hi k1 k2) Rt, V, K⟩
theorem m_aU_self (k : Nat) (j : Int32) : m_aU M k j (m_a M k j.toNatClampNeg) = M := by
  unfold m_aU m_aS
  rw [up_self]
  obtain ⟨a, b, c⟩ := M
  refine congrArg (fun z => (a, z, c)) ?_
  funext q
  by_cases e : q = k
  · rw [if_pos e, e]; rfl
  · rw [if_neg e]
theorem c_aU_self (k : Nat) (j : Int32) : c_aU C k j (c_a C k j.toNatClampNeg) = C := by
  unfold c_aU c_aS
  rw [up_self]
  obtain ⟨a, b, c, d, e⟩ := C
  refine congrArg (fun z => (a, b, c, z, e)) ?_
  funext q
  by_cases e : q = k
  · rw [if_pos e, e]; rfl
  · rw [if_neg e]
theorem RelM.slot (R : RelM C M sz pr B O fl pa ro h mm ps nx st ad sl mv P) (ht : t < 1300) (h1 : st t = 1) (hi : i < sl t) (hE : gE st ad (c_a C 10 (ad t + 2 + i)) y (m_a M 4 (40 * t + i)) (m_a M 5 (40 * t + i))) :
    RelM (c_aU C 11 (nI (ad t + 2 + i)) y) M sz pr B O fl pa ro h mm ps nx st ad sl mv P := by
  have ha := R.1.at ht (Or.inl h1)
  have g1 := R.1.1
  have g4 := (R.1.2.2.2.1 t ht).1
  have k := R.put ht h1 hi hE
  have e1 : (nI (ad t + 2 + i)).toNatClampNeg = ad t + 2 + i := ni_cl (by omega)
  have e2 : (nI (40 * t + i)).toNatClampNeg = 40 * t + i := ni_cl (by omega)
  have a1 := c_aU_self (C := C) 10 (nI (ad t + 2 + i))
  have a2 := m_aU_self (M := M) 4 (nI (40 * t + i))
  have a3 := m_aU_self (M := M) 5 (nI (40 * t + i))
  rw [e1] at a1
  rw [e2] at a2 a3
  rw [a1, a2, a3] at k
  exact k
/-- what the reference does with a word -/
def mBr (s b : Int32) (M : mS) (r : Int32) (M1 : mS) : Prop := ((∀ Q, Q 0 M → p_X11_isOld s b M Q) ∧ r = 1 ∧ M1 = M) ∨ ((∀ Q, Q 1 M → p_X11_isOld s b M Q) ∧ ∀ Q, Q r M1 → p_X11_move b M Q)
theorem j_isOld (G : Geo sz pr B O fl pa ro st ad sl) {m1 m3 : Nat → Int32} (T : gT m1 (m_a M 2) m3 pr B O st ad sl) (z9 : m_i M 9 = nI pr) (hlt : v < 1300) :
    (st v = 1 → ∀ Q, Q 0 M → p_X11_isOld 2 (nI v) M Q) ∧ (st v ≠ 1 → ∀ Q, Q 1 M → p_X11_isOld 2 (nI v) M Q) := by
  obtain ⟨g1, g2, g3, g4, g5, g6, g7, g8, g9⟩ := G
  have hh := hv_eq (pr := pr) (s := st v) (by omega) (g4 v hlt).2
  have hin : vp_in (nI v) 1300 := (ni_in (by omega)).mpr hlt
  have e : m_a M 2 (nI v).toNatClampNeg = hv pr (st v) := by rw [ni_cl (by omega)]; exact (T v hlt).2.1
  refine ⟨fun h1 Q hQ => ?_, fun h1 Q hQ => ?_⟩
  · unfold p_X11_isOld
    rw [e, z9]
    exact ⟨fun q => absurd rfl q, fun _ => ⟨hin, fun _ => hQ, fun q => absurd (hh.mpr h1) q⟩⟩
  · unfold p_X11_isOld
    rw [e, z9]
    exact ⟨fun q => absurd rfl q, fun _ => ⟨hin, fun q => absurd (hh.mp q) h1, fun _ => hQ⟩⟩
/-- a slot is brought: class and reference -/
theorem j_bringH (R : RelM C M sz pr B O fl pa ro h mm ps nx st ad sl mv P) (ht : t < 1300) (h1 : st t = 1) (hi : i < sl t) :
    ∃ (r : Int32) (C1 : cS) (M1 : mS) (fl' mm' : Nat) (st' ad' mv' P' : Nat → Nat), (r = 0 ∨ r = 1) ∧ (∀ Q, Q r C1 → p_X3_bringH (nI (ad t + 2 + i)) C Q) ∧ mBr (m_a M 4 (40 * t + i)) (m_a M 5 (40 * t + i)) M r M1 ∧
      RelM C1 M1 sz pr B O fl' pa ro h mm' ps nx st' ad' sl mv' P' ∧ (r = 1 → gE st' ad' (c_a C1 10 (ad t + 2 + i)) (c_a C1 11 (ad t + 2 + i)) (m_a M1 4 (40 * t + i)) (m_a M1 5 (40 * t + i))) ∧
      frC C C1 ∧ frM M M1 ∧ (c_a C1 14 6 = c_a C 14 6 ∧ m_i M1 12 = m_i M 12) ∧ (m_a M1 0 = m_a M 0 ∧ m_a M1 4 = m_a M 4 ∧ m_a M1 5 = m_a M 5) ∧ (∀ u, u < 1300 → st u = 1 → st' u = 1 ∧ ad' u = ad u) ∧ fl ≤ fl' := by
  have R0 := R
  obtain ⟨G, ⟨⟨s0, s9, s11, s12, s13, s14, s15⟩, ⟨z0, z3, z4, z5, z6, z7, z8, z9⟩, hh⟩, T, H, Rt, V, K⟩ := R
  have ha := G.at ht (Or.inl h1)
  obtain ⟨g1, g2, g3, g4, g5, g6, g7, g8, g9⟩ := id G
  have b1 : ad t + 2 + i < 2147483648 := by omega
  have hin : vp_in (nI (ad t + 2 + i)) (2 * c_sz C) := by rw [s0]; exact (ni_in b1).mpr (by omega)
  obtain ⟨w, -⟩ := (H t ht (by omega)).2.2.2 i hi
  by_cases hs : m_a M 4 (40 * t + i) = 2
  · have w2 := w
    rw [hs] at w2
    have hx : c_a C 10 (ad t + 2 + i) = 2 := w2.1
    obtain ⟨v, hv, hb, hl, hho⟩ := j_home G s0 H w2
    have hhf := j_half G s9 hv hl
    have hio := j_isOld G T z9 hv
    rcases hl with hl | hl
    · -- in the present half already
      have hE : gE st ad (c_a C 10 (ad t + 2 + i)) (nI (ad v)) (m_a M 4 (40 * t + i)) (m_a M 5 (40 * t + i)) := by
        rw [hs, hx, hb]
        exact ⟨rfl, Or.inr (Or.inr ⟨rfl, v, hv, rfl, hl, rfl⟩)⟩
      have hav := G.at hv (Or.inl hl)
      refine ⟨1, c_aU C 11 (nI (ad t + 2 + i)) (nI (ad v)), M, fl, mm, st, ad, mv, P, Or.inr rfl, ?_, ?_, R0.slot ht h1 hi hE, ?_, (frC.rf C).u (by decide), frM.rf M, ⟨rfl, rfl⟩, ⟨rfl, rfl, rfl⟩, fun u _ q => ⟨q, rfl⟩, Nat.le_refl _⟩
      · intro Q hQ
        unfold p_X3_bringH
        rw [ni_cl b1, hx]
        refine ⟨hin, fun _ => hho _ (hhf _ ?_), fun q => absurd rfl q⟩
        rw [if_pos hl, s12]
        exact ⟨fun q => absurd rfl q, fun _ => ⟨fun _ => ⟨hin, hQ⟩, fun q => absurd q (by rw [ni_m1 (by omega)]; exact id)⟩⟩
      · rw [hs, hb]
        exact Or.inl ⟨hio.1 hl, rfl, rfl⟩
      · intro _
        have e2 : c_a (c_aU C 11 (nI (ad t + 2 + i)) (nI (ad v))) 11 (ad t + 2 + i) = nI (ad v) := by
          show upd (c_a C 11) (nI (ad t + 2 + i)).toNatClampNeg (nI (ad v)) (ad t + 2 + i) = _
          rw [ni_cl b1, up_at, if_pos rfl]
        rw [e2]
        exact hE
    · have hne : ¬ nI (1 - pr) = nI pr := by rw [ni_eq (by omega) (by omega)]; omega
      have hvt : v ≠ t := fun q => by rw [q] at hl; omega
      by_cases hf : fl + (sl v + 2) ≤ ro
      · obtain ⟨C1, M1, m1, m2, R1, f1, f2, c6, c12, mr⟩ := j_move R0 hv hl hf
        have a1 : nup ad v (B + fl) t = ad t := nup_o hvt.symm
        have a2 : nup st v 1 t = 1 := by rw [nup_o hvt.symm]; exact h1
        have cell : c_a C1 10 (ad t + 2 + i) = 2 := by
          have q := (R1.2.2.2.1 t ht (by rw [a2]; decide)).2.2.2 i hi
          rw [a1] at q
          have q2 := q.1.1
          rw [mr.2.1, hs] at q2
          exact q2
        have hE : gE (nup st v 1) (nup ad v (B + fl)) (c_a C1 10 (ad t + 2 + i)) (nI (B + fl)) (m_a M1 4 (40 * t + i)) (m_a M1 5 (40 * t + i)) := by
          rw [cell, mr.2.1, mr.2.2.1, hs, hb]
          exact ⟨rfl, Or.inr (Or.inr ⟨rfl, v, hv, rfl, nup_s _ _ _, by rw [nup_s]⟩)⟩
        have hE' := hE
        rw [← a1] at hE'
        have R2 := R1.slot ht a2 hi hE'
        rw [a1] at R2
        refine ⟨1, c_aU C1 11 (nI (ad t + 2 + i)) (nI (B + fl)), M1, fl + (sl v + 2), mm + 1, nup st v 1, nup ad v (B + fl), nup mv mm v, nup P (mm + 1) (fl + (sl v + 2)), Or.inr rfl, ?_, ?_, R2, ?_, f1.u (by decide), f2, c6, ⟨mr.1, mr.2.1, mr.2.2.1⟩, ?_, by omega⟩
        · intro Q hQ
          unfold p_X3_bringH
          rw [ni_cl b1, hx]
          refine ⟨hin, fun _ => hho _ (hhf _ ?_), fun q => absurd rfl q⟩
          rw [if_neg (by omega), s12]
          refine ⟨fun _ => m1 _ ⟨fun _ => ⟨by rw [f1.1.1]; exact hin, hQ⟩, fun q => absurd q (by rw [ni_m1 (by omega)]; exact id)⟩, fun q => absurd q hne⟩
        · rw [hs, hb]
          exact Or.inr ⟨hio.2 (by omega), m2⟩
        · intro _
          have e2 : c_a (c_aU C1 11 (nI (ad t + 2 + i)) (nI (B + fl))) 11 (ad t + 2 + i) = nI (B + fl) := by
            show upd (c_a C1 11) (nI (ad t + 2 + i)).toNatClampNeg (nI (B + fl)) (ad t + 2 + i) = _
            rw [ni_cl b1, up_at, if_pos rfl]
          rw [e2]
          exact hE
        · intro u hu q
          have e : u ≠ v := fun w => by rw [w] at q; omega
          rw [nup_o e, nup_o e]
          exact ⟨q, rfl⟩
      · obtain ⟨C1, M1, m1, m2, R1, f1, f2, c6, mr, cr⟩ := j_spent R0 hv hl hf
        refine ⟨0, C1, M1, fl, mm, st, ad, mv, P, Or.inl rfl, ?_, ?_, R1, fun q => absurd q (by decide), f1, f2, c6, ?_, fun u _ q => ⟨q, rfl⟩, Nat.le_refl _⟩
        · intro Q hQ
          unfold p_X3_bringH
          rw [ni_cl b1, hx]
          refine ⟨hin, fun _ => hho _ (hhf _ ?_), fun q => absurd rfl q⟩
          rw [if_neg (by omega), s12]
          exact ⟨fun _ => m1 _ ⟨fun q => absurd rfl q, fun _ => hQ⟩, fun q => absurd q hne⟩
        · rw [hs, hb]
          exact Or.inr ⟨hio.2 (by omega), m2⟩
        · exact ⟨mr 0, mr 4, mr 5⟩
  · have hx : ¬ c_a C 10 (ad t + 2 + i) = 2 := by rw [w.1]; exact hs
    refine ⟨1, C, M, fl, mm, st, ad, mv, P, Or.inr rfl, ?_, ?_, R0, fun _ => gE.of hs w, frC.rf C, frM.rf M, ⟨rfl, rfl⟩, ⟨rfl, rfl, rfl⟩, fun u _ q => ⟨q, rfl⟩, Nat.le_refl _⟩
    · intro Q hQ
      unfold p_X3_bringH
      rw [ni_cl b1]
      exact ⟨hin, fun q => absurd q hx, fun _ => hQ⟩
    · refine Or.inl ⟨fun Q hQ => ?_, rfl, rfl⟩
      unfold p_X11_isOld
      exact ⟨fun _ => hQ, fun q => absurd q hs⟩
/-- a root is brought, at a turn -/
theorem j_bringR {r : Nat} (R : RelM C M sz pr B O fl pa ro h mm ps r st ad sl mv P) (hr : r < 8 + h) (hro : ro = sz) (hW : zW st sl 2 + fl ≤ sz) :
    ∃ (C1 : cS) (M1 : mS) (fl' mm' : Nat) (st' ad' mv' P' : Nat → Nat), (∀ Q, Q 1 C1 → p_X3_bringR (nI r) C Q) ∧ mBr (m_a M 6 r) (m_a M 7 r) M 1 M1 ∧
      RelM C1 M1 sz pr B O fl' pa ro h mm' ps (r + 1) st' ad' sl mv' P' ∧ zW st' sl 2 + fl' ≤ sz ∧ frC C C1 ∧ frM M M1 ∧ (c_a C1 14 6 = c_a C 14 6 ∧ m_i M1 12 = m_i M 12) := by
  have R0 := R
  obtain ⟨G, ⟨⟨s0, s9, s11, s12, s13, s14, s15⟩, ⟨z0, z3, z4, z5, z6, z7, z8, z9⟩, hh⟩, T, H, Rt, V, K⟩ := R
  obtain ⟨g1, g2, g3, g4, g5, g6, g7, g8, g9⟩ := id G
  have b1 : r < 2147483648 := by omega
  have hin : vp_in (nI r) 58 := (ni_in b1).mpr (by omega)
  obtain ⟨w, -⟩ := Rt r hr
  have step : ∀ (C1 : cS) (M1 : mS) (fl' mm' : Nat) (st' ad' mv' P' : Nat → Nat) (y : Int32), RelM C1 M1 sz pr B O fl' pa ro h mm' ps r st' ad' sl mv' P' → gE st' ad' (c_a C1 12 r) y (m_a M1 6 r) (m_a M1 7 r) → RelM (c_aU C1 13 (nI r) y) M1 sz pr B O fl' pa ro h mm' ps (r + 1) st' ad' sl mv' P' := by
    intro C1 M1 fl' mm' st' ad' mv' P' y R1 hE
    obtain ⟨G1, S1, T1, H1, Rt1, V1, K1⟩ := R1
    refine ⟨G1, S1, T1, H1, ?_, V1, K1⟩
    refine gR.bring hE (up_self _ _).symm ?_ (up_self _ _).symm (up_self _ _).symm Rt1
    show upd (c_a C1 13) (nI r).toNatClampNeg y = _
    rw [ni_cl b1]
  by_cases hs : m_a M 6 r = 2
  · have w2 := w
    rw [hs] at w2
    have hx : c_a C 12 r = 2 := w2.1
    obtain ⟨v, hv, hb, hl, hho⟩ := j_home G s0 H w2
    have hhf := j_half G s9 hv hl
    have hio := j_isOld G T z9 hv
    rcases hl with hl | hl
    · have hE : gE st ad (c_a C 12 r) (nI (ad v)) (m_a M 6 r) (m_a M 7 r) := by
        rw [hs, hx, hb]
        exact ⟨rfl, Or.inr (Or.inr ⟨rfl, v, hv, rfl, hl, rfl⟩)⟩
      have hav := G.at hv (Or.inl hl)
      refine ⟨c_aU C 13 (nI r) (nI (ad v)), M, fl, mm, st, ad, mv, P, ?_, ?_, step _ _ _ _ _ _ _ _ _ R0 hE, hW, (frC.rf C).u (by decide), frM.rf M, ⟨rfl, rfl⟩⟩
      · intro Q hQ
        unfold p_X3_bringR
        rw [ni_cl b1, hx]
        refine ⟨hin, fun _ => hho _ (hhf _ ?_), fun q => absurd rfl q⟩
        rw [if_pos hl, s12]
        exact ⟨fun q => absurd rfl q, fun _ => ⟨fun _ => hQ, fun q => absurd q (by rw [ni_m1 (by omega)]; exact id)⟩⟩
      · rw [hs, hb]
        exact Or.inl ⟨hio.1 hl, rfl, rfl⟩
    · have hne : ¬ nI (1 - pr) = nI pr := by rw [ni_eq (by omega) (by omega)]; omega
      have hw := zW_in (sl := sl) hv hl
      have hf : fl + (sl v + 2) ≤ ro := by omega
      obtain ⟨C1, M1, m1, m2, R1, f1, f2, c6, c12, mr⟩ := j_move R0 hv hl hf
      have hE : gE (nup st v 1) (nup ad v (B + fl)) (c_a C1 12 r) (nI (B + fl)) (m_a M1 6 r) (m_a M1 7 r) := by
        rw [c12.1, mr.2.2.2.1, mr.2.2.2.2, hs, hb, hx]
        exact ⟨rfl, Or.inr (Or.inr ⟨rfl, v, hv, rfl, nup_s _ _ _, by rw [nup_s]⟩)⟩
      have hz := (zW_move (sl := sl) hv hl).2
      refine ⟨c_aU C1 13 (nI r) (nI (B + fl)), M1, fl + (sl v + 2), mm + 1, nup st v 1, nup ad v (B + fl), nup mv mm v, nup P (mm + 1) (fl + (sl v + 2)), ?_, ?_, step _ _ _ _ _ _ _ _ _ R1 hE, by omega, f1.u (by decide), f2, c6⟩
      · intro Q hQ
        unfold p_X3_bringR
        rw [ni_cl b1, hx]
        refine ⟨hin, fun _ => hho _ (hhf _ ?_), fun q => absurd rfl q⟩
        rw [if_neg (by omega), s12]
        exact ⟨fun _ => m1 _ ⟨fun _ => hQ, fun q => absurd q (by rw [ni_m1 (by omega)]; exact id)⟩, fun q => absurd q hne⟩
      · rw [hs, hb]
        exact Or.inr ⟨hio.2 (by omega), m2⟩
  · have hx : ¬ c_a C 12 r = 2 := by rw [w.1]; exact hs
    have hE := gE.of hs w
    have R1 := step C M fl mm st ad mv P (c_a C 13 r) R0 hE
    have e3 := c_aU_self (C := C) 13 (nI r)
    rw [ni_cl b1] at e3
    rw [e3] at R1
    refine ⟨C, M, fl, mm, st, ad, mv, P, ?_, ?_, R1, hW, frC.rf C, frM.rf M, ⟨rfl, rfl⟩⟩
    · intro Q hQ
      unfold p_X3_bringR
      rw [ni_cl b1]
      exact ⟨hin, fun q => absurd q hx, fun _ => hQ⟩
    · refine Or.inl ⟨fun Q hQ => ?_, rfl, rfl⟩
      unfold p_X11_isOld
      exact ⟨fun _ => hQ, fun q => absurd q hs⟩
end ZQ
