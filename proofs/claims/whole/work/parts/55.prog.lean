/-! A PROGRAM is read, kept or refused -/
section ZP15
variable {C C1 : cS} {M M1 : mS} {n k j e w t s na nl op i : Nat} {b : Bool} {y z : Int32}
/-- what the copying leaves -/
def cpM (M M1 : mS) : Prop := (∀ k, m_i M1 k = m_i M k) ∧ (∀ k, (k < 22 ∨ 24 < k) → m_a M1 k = m_a M k) ∧ (∀ k, m_l M1 k = m_l M k)
theorem cpM.tr {C D E : mS} (h : cpM C D) (g : cpM D E) : cpM C E := by
  obtain ⟨h1, h2, h3⟩ := h
  obtain ⟨g1, g2, g3⟩ := g
  exact ⟨fun k => (g1 k).trans (h1 k), fun k q => (g2 k q).trans (h2 k q), fun k => (g3 k).trans (h3 k)⟩
theorem e_cpy3 (hi : i < 150) : ∀ (d l : Nat) {M : mS}, l + d = 3 * i + 3 → (∀ x, x < l → m_a M 24 x = m_a M 17 x) → ∃ M1, cpM M M1 ∧ m_a M1 22 = m_a M 22 ∧ m_a M1 23 = m_a M 23 ∧ (∀ x, x < 3 * i + 3 → m_a M1 24 x = m_a M1 17 x) ∧ ∃ N, ∀ Q K, K (nI i) M1 → w_X11_program_213 Q K N (nI i) (nI l) M := by
  have e3 : (3 * nI i : Int32) + 3 = nI (3 * i + 3) := by rw [ni_lm, ni_al]
  intro d
  induction d with
  | zero =>
    intro l M hl h
    exact ⟨M, ⟨fun _ => rfl, fun _ _ => rfl, fun _ => rfl⟩, rfl, rfl, fun x hx => h x (by omega), 1, fun Q K hK => ⟨fun _ => hK, fun r => absurd (by rw [e3, ni_le (by omega) (by omega)]; omega) r⟩⟩
  | succ d ih =>
    intro l M hl h
    have cl : (nI l).toNatClampNeg = l := ni_cl (by omega)
    obtain ⟨M1, g1, g2, g3, g4, N, g5⟩ := ih (l + 1) (M := m_aU M 24 (nI l) (m_a M 17 l)) (by omega) (fun x hx => by
      show upd (m_a M 24) (nI l).toNatClampNeg (m_a M 17 l) x = m_a M 17 x
      rw [cl, up_at]
      by_cases q : x = l
      · rw [if_pos q, q]
      · rw [if_neg q]; exact h x (by omega))
    have ff : cpM M (m_aU M 24 (nI l) (m_a M 17 l)) := ⟨fun _ => rfl, fun k q => by rw [ms_a_aU, if_neg (by omega)], fun _ => rfl⟩
    refine ⟨M1, ff.tr g1, g2, g3, g4, N + 1, fun Q K hK => ⟨fun r => absurd r (by rw [e3, ni_le (by omega) (by omega)]; omega), fun _ => ⟨(ni_in (by omega)).mpr (by omega), fun v hv2 => ?_⟩⟩⟩
    rw [nI_1] at hv2
    subst hv2
    rw [cl]
    exact g5 Q K hK
theorem e_cpy (hna : na ≤ 150) : ∀ (d i : Nat) {M : mS}, i + d = na → m_i M 24 = nI na → (∀ x, x < i → m_a M 22 x = m_a M 15 x ∧ m_a M 23 x = m_a M 16 x) → (∀ x, x < 3 * i → m_a M 24 x = m_a M 17 x) → ∃ M1, cpM M M1 ∧ (∀ x, x < na → m_a M1 22 x = m_a M1 15 x ∧ m_a M1 23 x = m_a M1 16 x) ∧ (∀ x, x < 3 * na → m_a M1 24 x = m_a M1 17 x) ∧ ∃ N, ∀ Q K, K M1 → w_X11_program_177 Q K N (nI i) M := by
  intro d
  induction d with
  | zero =>
    intro i M hi m24 h1 h2
    have e : i = na := by omega
    subst e
    exact ⟨M, ⟨fun _ => rfl, fun _ _ => rfl, fun _ => rfl⟩, h1, h2, 1, fun Q K hK => ⟨fun _ => hK, fun r => absurd (by rw [m24, ni_le (by omega) (by omega)]; omega) r⟩⟩
  | succ d ih =>
    intro i M hi m24 h1 h2
    have cl : (nI i).toNatClampNeg = i := ni_cl (by omega)
    let M0 : mS := m_aU (m_aU M 22 (nI i) (m_a M 15 i)) 23 (nI i) (m_a M 16 i)
    have f0 : cpM M M0 := ⟨fun _ => rfl, fun k q => by show m_a (m_aU (m_aU M 22 (nI i) (m_a M 15 i)) 23 (nI i) (m_a M 16 i)) k = _; rw [ms_a_aU, if_neg (by omega), ms_a_aU, if_neg (by omega)], fun _ => rfl⟩
    obtain ⟨M1, g1, g2, g3, g4, N, g5⟩ := e_cpy3 (i := i) (by omega) 3 (3 * i) (M := M0) (by omega) h2
    have f1 := f0.tr g1
    obtain ⟨M2, k1, k2, k3, N2, k4⟩ := ih (i + 1) (M := M1) (by omega) (by rw [f1.1]; exact m24) (fun x hx => by
      rw [g2, g3, g1.2.1 15 (by omega), g1.2.1 16 (by omega)]
      show upd (m_a M 22) (nI i).toNatClampNeg (m_a M 15 i) x = m_a M 15 x ∧ upd (m_a M 23) (nI i).toNatClampNeg (m_a M 16 i) x = m_a M 16 x
      rw [cl, up_at, up_at]
      by_cases q : x = i
      · rw [if_pos q, if_pos q, q]; exact ⟨rfl, rfl⟩
      · rw [if_neg q, if_neg q]; exact h1 x (by omega)) (fun x hx => g4 x (by omega))
    refine ⟨M2, f1.tr k1, k2, k3, N2 + 1, fun Q K hK => ⟨fun r => absurd r (by rw [m24, ni_le (by omega) (by omega)]; omega), fun _ => ⟨(ni_in (by omega)).mpr (by omega), fun v hv2 => ?_⟩⟩⟩
    rw [ni_lm] at hv2
    subst hv2
    rw [cl]
    refine ⟨N, g5 _ _ fun v hv2 => ?_⟩
    rw [nI_1] at hv2
    subst hv2
    exact k4 Q K hK
/-- a program that both keep -/
def prog (C : cS) (M : mS) (b : Bool) (na : Nat) : Prop := na ≤ 150 ∧ c_pn C b = nI na ∧ m_i M 26 = nI na ∧ ∀ i, i < na → ∃ op, op < 26 ∧ c_pa C 0 b i = nI op ∧ m_a M 22 i = nI op ∧ c_pa C 2 b i = m_a M 23 i ∧ ∀ j, j < nt op → c_pa C 1 b (3 * i + j) = m_a M 24 (3 * i + j) ∧ (kd op j = 1 → isH (c_pa C 1 b (3 * i + j))) ∧ (kd op j = 3 → ∃ a, a < na ∧ c_pa C 1 b (3 * i + j) = nI a)
def pgC (b : Bool) (C C1 : cS) : Prop := c_sz C1 = c_sz C ∧ c_rp C1 = c_rp C ∧ (∀ k, 6 < k → (k < 16 ∨ 21 < k) → c_i C1 k = c_i C k) ∧ (∀ k, (k = 0 ∨ 3 < k) → c_a C1 k = c_a C k) ∧ (∀ d, d ≠ b → c_pn C1 d = c_pn C d ∧ c_pl C1 d = c_pl C d ∧ ∀ k, c_pa C1 k d = c_pa C k d)
def pgM (M M1 : mS) : Prop := (∀ k, k ≠ 2 → (k < 19 ∨ 28 < k) → m_i M1 k = m_i M k) ∧ (∀ k, (k < 11 ∨ 24 < k) → m_a M1 k = m_a M k) ∧ m_l M1 0 = m_l M 0
theorem cfC.pf {C C1 : cS} (h : cfC C C1) (b : Bool) : pfC b C C1 := by
  obtain ⟨h1, h2, h3, h4, h5, h6, h7, h8, h9⟩ := h
  exact ⟨h1, h2, h3, h4, fun k q => h5 k (by omega), h6, fun d _ => ⟨h7 d, h9 d, fun k => h8 k d⟩⟩
theorem cfM.pf {M M1 : mS} (h : cfM M M1) : pfM M M1 := by
  obtain ⟨h1, h2, h3⟩ := h
  exact ⟨fun k q => h1 k (by omega) (by omega) (by omega), fun k q => h2 k (by omega), h3 0 (by decide)⟩
/-- the text is read: kept acts, or a fault -/
theorem a_text {u : Nat → Nat} (T : TK C M n u 0 0) (cn : c_pn C b = 0) (c3 : c_i C 3 = 0) :
    (∃ C1 M1 na, pfC b C C1 ∧ pfM M M1 ∧ c_i C1 3 = 0 ∧ m_i M1 22 = 0 ∧ na ≤ 150 ∧ c_pn C1 b = nI na ∧ m_i M1 24 = nI na ∧ (∀ x, x < na → bnd1 C1 M1 b na x) ∧
      (∀ Q, Q 0 C1 → ∃ N, w_X8_cut_12 (fun rz2 Cz1 => ((rz2 = (-1) → ∃ nz12 : Nat, w_X5_readText_38 b Q (fun Cz9 => ((¬ (c_i Cz9 3) = 0 → Q (c_i Cz9 3) Cz9) ∧ ((c_i Cz9 3) = 0 → p_X5_bindLabels b Cz9 (fun Cz11 => Q (c_i Cz11 3) Cz11)))) nz12 0 Cz1) ∧ (¬ rz2 = (-1) → Q 1 (c_iS Cz1 4 rz2)))) (fun lz5 Cz6 => ((lz5 = (-1) → ∃ nz12 : Nat, w_X5_readText_38 b Q (fun Cz9 => ((¬ (c_i Cz9 3) = 0 → Q (c_i Cz9 3) Cz9) ∧ ((c_i Cz9 3) = 0 → p_X5_bindLabels b Cz9 (fun Cz11 => Q (c_i Cz11 3) Cz11)))) nz12 0 Cz6) ∧ (¬ lz5 = (-1) → Q 1 (c_iS Cz6 4 lz5)))) (fun Cz7 => (((-1 : Int32) = (-1) → ∃ nz12 : Nat, w_X5_readText_38 b Q (fun Cz9 => ((¬ (c_i Cz9 3) = 0 → Q (c_i Cz9 3) Cz9) ∧ ((c_i Cz9 3) = 0 → p_X5_bindLabels b Cz9 (fun Cz11 => Q (c_i Cz11 3) Cz11)))) nz12 0 Cz7) ∧ (¬ (-1 : Int32) = (-1) → Q 1 (c_iS Cz7 4 (-1))))) N (nI n) 0 C) ∧
      (∀ Q (K : mS → Prop), K M1 → ∃ N, w_X11_cut_7 (fun Mz1 => ∃ nz40 : Nat, w_X11_program_29 Q (fun Mz8 => ∃ nz39 : Nat, w_X11_program_57 Q K nz39 0 Mz8) nz40 (m_iS (m_iS (m_iS Mz1 21 0) 24 0) 25 0)) (fun Mz37 => p_X11_token 0 (m_i Mz37 19) 0 Mz37 (fun Mz38 => ∃ nz40 : Nat, w_X11_program_29 Q (fun Mz8 => ∃ nz39 : Nat, w_X11_program_57 Q K nz39 0 Mz8) nz40 (m_iS (m_iS (m_iS Mz38 21 0) 24 0) 25 0))) N 0 M)) ∨
    (∃ C1 M1 v, ¬ v = 0 ∧ pfC b C C1 ∧ pfM M M1 ∧ m_i M1 22 = v ∧ c_i C1 4 = m_i M1 23 ∧
      (∀ Q, Q v C1 → ∃ N, w_X8_cut_12 (fun rz2 Cz1 => ((rz2 = (-1) → ∃ nz12 : Nat, w_X5_readText_38 b Q (fun Cz9 => ((¬ (c_i Cz9 3) = 0 → Q (c_i Cz9 3) Cz9) ∧ ((c_i Cz9 3) = 0 → p_X5_bindLabels b Cz9 (fun Cz11 => Q (c_i Cz11 3) Cz11)))) nz12 0 Cz1) ∧ (¬ rz2 = (-1) → Q 1 (c_iS Cz1 4 rz2)))) (fun lz5 Cz6 => ((lz5 = (-1) → ∃ nz12 : Nat, w_X5_readText_38 b Q (fun Cz9 => ((¬ (c_i Cz9 3) = 0 → Q (c_i Cz9 3) Cz9) ∧ ((c_i Cz9 3) = 0 → p_X5_bindLabels b Cz9 (fun Cz11 => Q (c_i Cz11 3) Cz11)))) nz12 0 Cz6) ∧ (¬ lz5 = (-1) → Q 1 (c_iS Cz6 4 lz5)))) (fun Cz7 => (((-1 : Int32) = (-1) → ∃ nz12 : Nat, w_X5_readText_38 b Q (fun Cz9 => ((¬ (c_i Cz9 3) = 0 → Q (c_i Cz9 3) Cz9) ∧ ((c_i Cz9 3) = 0 → p_X5_bindLabels b Cz9 (fun Cz11 => Q (c_i Cz11 3) Cz11)))) nz12 0 Cz7) ∧ (¬ (-1 : Int32) = (-1) → Q 1 (c_iS Cz7 4 (-1))))) N (nI n) 0 C) ∧
      (∀ Q (K : mS → Prop), K M1 → ∃ N, w_X11_cut_7 (fun Mz1 => ∃ nz40 : Nat, w_X11_program_29 Q (fun Mz8 => ∃ nz39 : Nat, w_X11_program_57 Q K nz39 0 Mz8) nz40 (m_iS (m_iS (m_iS Mz1 21 0) 24 0) 25 0)) (fun Mz37 => p_X11_token 0 (m_i Mz37 19) 0 Mz37 (fun Mz38 => ∃ nz40 : Nat, w_X11_program_29 Q (fun Mz8 => ∃ nz39 : Nat, w_X11_program_57 Q K nz39 0 Mz8) nz40 (m_iS (m_iS (m_iS Mz38 21 0) 24 0) 25 0))) N 0 M)) := by
  have hn := T.2.2.2.1
  rcases a_cutL (n - 0) (Nat.le_refl _) (Nat.zero_le _) T with ⟨C1, M1, k, T1, fc, fm, ⟨N1, e1⟩, ⟨N2, e2⟩⟩ | ⟨C1, M1, r, hr, fc, fm, m22, m23, ⟨N1, e1⟩, ⟨N2, e2⟩⟩
  · obtain ⟨t1, t2, t3, t4, t5, t6, t7, t8, t9, t10, t11⟩ := T1
    obtain ⟨M2, d1, d2, d3, d4, d5, d6, d7, d8, d9⟩ := e_tokM t2 (by omega) 0 (nI n) 0
    let M3 : mS := m_iS (m_iS (m_iS M2 21 0) 24 0) 25 0
    have R : RD C1 M3 b n k 0 0 0 := by
      refine ⟨⟨t1, t7, t3, t4, fun j hj => (t5 j hj).rw ⟨rfl, rfl, rfl, rfl⟩ (d6 j (by omega)), d3, d4⟩, ?_, ?_, rfl, Nat.zero_le _, ?_, rfl, Nat.zero_le _, rfl, fun i hi => by omega, fun i => 0, fun i hi => by omega, fun i j h1 h2 => by omega, fun a ha => by omega⟩
      · rw [fc.2.2.2.2.1 3 (by decide)]; exact c3
      · exact d8.trans t6
      · rw [fc.2.2.2.2.2.2.1]; exact cn
    have f3 : pfM M M3 := (((fm.pf.tr d7.pf).i (by decide)).i (by decide)).i (by decide)
    have gC := fc.pf b
    have stM : ∀ Q (K : mS → Prop), (∃ nz40 : Nat, w_X11_program_29 Q (fun Mz8 => ∃ nz39 : Nat, w_X11_program_57 Q K nz39 0 Mz8) nz40 M3) → ∃ N, w_X11_cut_7 (fun Mz1 => ∃ nz40 : Nat, w_X11_program_29 Q (fun Mz8 => ∃ nz39 : Nat, w_X11_program_57 Q K nz39 0 Mz8) nz40 (m_iS (m_iS (m_iS Mz1 21 0) 24 0) 25 0)) (fun Mz37 => p_X11_token 0 (m_i Mz37 19) 0 Mz37 (fun Mz38 => ∃ nz40 : Nat, w_X11_program_29 Q (fun Mz8 => ∃ nz39 : Nat, w_X11_program_57 Q K nz39 0 Mz8) nz40 (m_iS (m_iS (m_iS Mz38 21 0) 24 0) 25 0))) N 0 M := by
      intro Q K h
      refine ⟨N2, e2 _ _ ?_⟩
      rw [t8]
      exact d1 _ h
    rcases a_acts (b := b) k (by omega) R with ⟨C4, M4, na, nl, R4, f4, f5, ⟨N3, e3⟩, ⟨N4, e4⟩⟩ | ⟨C4, M4, fl, f4, f5, ⟨N3, e3⟩, ⟨N4, e4⟩⟩
    · obtain ⟨r1, r2, r3, r4, r5, r6, r7, r8, r9, r10, r11⟩ := R4
      rcases a_bindA (b := b) na 0 (by omega) ⟨r1, r6, r7, r8, r9, r11⟩ r2 r3 (fun x hx => by omega) (fun x _ hx => r10 x hx) with ⟨C5, M5, q1, q2, q3, q4, q5, q6, ⟨N5, q7⟩, ⟨N6, q8⟩⟩ | ⟨C5, M5, fl, q5, q6, ⟨N5, q7⟩, ⟨N6, q8⟩⟩
      · refine Or.inl ⟨C5, M5, na, (gC.tr f4).tr q5, (f3.tr f5).tr q6, q1, q2, r8, q4.2.1, q4.2.2.1, q3, fun Q hQ => ⟨N1, e1 _ _ _ ⟨fun _ => ⟨N3, e3 _ _ ⟨fun r => absurd r2 r, fun _ => ⟨N5, q7 _ _ ?_⟩⟩⟩, fun r => absurd rfl r⟩⟩, fun Q K hK => stM Q K ⟨N4, e4 _ _ ⟨N6, q8 _ _ hK⟩⟩⟩
        show Q (c_i C5 3) C5
        rw [q1]
        exact hQ
      · exact Or.inr ⟨C5, M5, c_i C5 3, fl.1, (gC.tr f4).tr q5, (f3.tr f5).tr q6, fl.2.1.symm, fl.2.2, fun Q hQ => ⟨N1, e1 _ _ _ ⟨fun _ => ⟨N3, e3 _ _ ⟨fun r => absurd r2 r, fun _ => ⟨N5, q7 _ _ hQ⟩⟩⟩, fun r => absurd rfl r⟩⟩, fun Q K hK => stM Q K ⟨N4, e4 _ _ ⟨N6, q8 _ _ hK⟩⟩⟩
    · exact Or.inr ⟨C4, M4, c_i C4 3, fl.1, gC.tr f4, f3.tr f5, fl.2.1.symm, fl.2.2, fun Q hQ => ⟨N1, e1 _ _ _ ⟨fun _ => ⟨N3, e3 _ _ ⟨fun _ => hQ, fun r => absurd r fl.1⟩⟩, fun r => absurd rfl r⟩⟩, fun Q K hK => stM Q K ⟨N4, e4 _ _ ⟨1, wp57 (by rw [← fl.2.1]; exact fl.1) hK 0⟩⟩⟩
  · obtain ⟨hr, k, hk, m20⟩ := hr
    have m19 : m_i M1 19 = nI n := by rw [fm.1 19 (by decide) (by decide) (by decide)]; exact T.2.2.2.2.2.2.2.1
    obtain ⟨M2, d1, d2, d3, d4, d5, d6, d7, d8, d9⟩ := e_tokM m20 hk 0 (nI n) 0
    have nr1 : ¬ nI r = (-1 : Int32) := fun q => by
      have := neg_lt (x := -1) (by decide) r (by omega)
      rw [q] at this
      exact absurd this (Int32.lt_irrefl)
    refine Or.inr ⟨c_iS C1 4 (nI r), m_iS (m_iS (m_iS M2 21 0) 24 0) 25 0, 1, by decide, (fc.pf b).i (by decide), (((fm.pf.tr d7.pf).i (by decide)).i (by decide)).i (by decide), d8.trans m22, (d9.trans m23).symm, fun Q hQ => ⟨N1, e1 _ _ _ ⟨fun q => absurd q nr1, fun _ => hQ⟩⟩, fun Q K hK => ⟨N2, e2 _ _ ?_⟩⟩
    rw [m19]
    refine d1 _ ⟨1, wp29 (e_bad ?_ _ ⟨fun _ => ⟨1, ?_⟩, fun r => absurd rfl r⟩)⟩
    · show ¬ m_i M2 22 = 0
      rw [d8, m22]; decide
    · refine wp57 ?_ hK 0
      show ¬ m_i M2 22 = 0
      rw [d8, m22]; decide
end ZP15
