/-! LABELS ARE BOUND; the program is kept -/
section ZR14
def bt (C : cS) (M : mS) (b : Bool) (i op j na : Nat) : Prop := c_pa C 1 b (3 * i + j) = m_a M 17 (3 * i + j) ∧ (kd op j = 1 → isH (c_pa C 1 b (3 * i + j))) ∧ (kd op j = 3 → ∃ a, a < na ∧ c_pa C 1 b (3 * i + j) = nI a)
def bnd1 (C : cS) (M : mS) (b : Bool) (na i : Nat) : Prop := ∃ op, op < 26 ∧ c_pa C 0 b i = nI op ∧ m_a M 15 i = nI op ∧ c_pa C 2 b i = m_a M 16 i ∧ ∀ j, j < nt op → bt C M b i op j na
def bxC (b : Bool) (i : Nat) (C C1 : cS) : Prop := pfC b C C1 ∧ (∀ k, k ≠ 3 → k ≠ 4 → c_i C1 k = c_i C k) ∧ (∀ k, c_a C1 k = c_a C k) ∧ (∀ k, c_l C1 k = c_l C k) ∧ c_pn C1 b = c_pn C b ∧ c_pl C1 b = c_pl C b ∧ c_pa C1 0 b = c_pa C 0 b ∧ c_pa C1 2 b = c_pa C 2 b ∧ ∀ x, (x < 3 * i ∨ 3 * i + 3 ≤ x) → c_pa C1 1 b x = c_pa C 1 b x
def bxM (i : Nat) (M M1 : mS) : Prop := pfM M M1 ∧ (∀ k, k ≠ 22 → k ≠ 23 → m_i M1 k = m_i M k) ∧ (∀ k, k ≠ 17 → m_a M1 k = m_a M k) ∧ (∀ k, m_l M1 k = m_l M k) ∧ ∀ x, (x < 3 * i ∨ 3 * i + 3 ≤ x) → m_a M1 17 x = m_a M 17 x
variable {C C1 : cS} {M M1 : mS} {n k j e w t s na nl op i : Nat} {b : Bool} {y z : Int32}
theorem bxC.rf (b : Bool) (i : Nat) (C : cS) : bxC b i C C := ⟨pfC.rf b C, fun _ _ _ => rfl, fun _ => rfl, fun _ => rfl, rfl, rfl, rfl, rfl, fun _ _ => rfl⟩
theorem bxM.rf (i : Nat) (M : mS) : bxM i M M := ⟨pfM.rf M, fun _ _ _ => rfl, fun _ _ => rfl, fun _ => rfl, fun _ _ => rfl⟩
theorem bxC.tr {C D E : cS} (h : bxC b i C D) (g : bxC b i D E) : bxC b i C E := by
  obtain ⟨h1, h2, h3, h4, h5, h6, h7, h8, h9⟩ := h
  obtain ⟨g1, g2, g3, g4, g5, g6, g7, g8, g9⟩ := g
  exact ⟨h1.tr g1, fun k q r => (g2 k q r).trans (h2 k q r), fun k => (g3 k).trans (h3 k), fun k => (g4 k).trans (h4 k), g5.trans h5, g6.trans h6, g7.trans h7, g8.trans h8, fun x q => (g9 x q).trans (h9 x q)⟩
theorem bxM.tr {C D E : mS} (h : bxM i C D) (g : bxM i D E) : bxM i C E := by
  obtain ⟨h1, h2, h3, h4, h5⟩ := h
  obtain ⟨g1, g2, g3, g4, g5⟩ := g
  exact ⟨h1.tr g1, fun k q r => (g2 k q r).trans (h2 k q r), fun k q => (g3 k q).trans (h3 k q), fun k => (g4 k).trans (h4 k), fun x q => (g5 x q).trans (h5 x q)⟩
theorem bxC.f {C D : cS} {v w : Int32} (h : bxC b i C D) : bxC b i C (c_iS (c_iS D 3 v) 4 w) :=
  h.tr ⟨((pfC.rf b D).i (by decide)).i (by decide), fun k q r => by rw [cs_i_iS, if_neg r, cs_i_iS, if_neg q], fun _ => rfl, fun _ => rfl, rfl, rfl, rfl, rfl, fun _ _ => rfl⟩
theorem bxM.f {C D : mS} {v w : Int32} (h : bxM i C D) : bxM i C (m_iS (m_iS D 22 v) 23 w) :=
  h.tr ⟨((pfM.rf D).i (by decide)).i (by decide), fun k q r => by rw [ms_i_iS, if_neg r, ms_i_iS, if_neg q], fun _ _ => rfl, fun _ => rfl, fun _ _ => rfl⟩
theorem bxC.pa {C D : cS} {v : Int32} (h : bxC b i C D) (hj : j < 3) (hb : 3 * i + j < 2147483648) : bxC b i C (c_paU D 1 b (nI (3 * i + j)) v) :=
  h.tr ⟨(pfC.rf b D).pa, fun _ _ _ => rfl, fun _ => rfl, fun _ => rfl, rfl, rfl, rfl, rfl, fun x q => by rw [cs_pa_paU, if_pos rfl, if_pos rfl]; exact up_mis (by omega) hb⟩
theorem bxM.u {C D : mS} {v : Int32} (h : bxM i C D) (hj : j < 3) (hb : 3 * i + j < 2147483648) : bxM i C (m_aU D 17 (nI (3 * i + j)) v) :=
  h.tr ⟨(pfM.rf D).u (by decide), fun _ _ _ => rfl, fun k q => by rw [ms_a_aU, if_neg q], fun _ => rfl, fun x q => up_mis (by omega) hb⟩
def LX (C : cS) (M : mS) (b : Bool) (n k na nl : Nat) : Prop := TT C M n k ∧ c_pn C b = nI na ∧ m_i M 24 = nI na ∧ na ≤ 150 ∧ m_i M 25 = nI nl ∧ lbR (c_pl C b) (m_l M 3) (m_a M 20) (m_a M 21) na nl
theorem LX.bx (L : LX C M b n k na nl) (fc : bxC b i C C1) (fm : bxM i M M1) : LX C1 M1 b n k na nl := by
  obtain ⟨⟨t1, t2, t3, t4, t5, t6, t7⟩, l2, l3, l4, l5, l6⟩ := L
  obtain ⟨-, g2, g3, g4, g5, g6, -⟩ := fc
  obtain ⟨-, h2, h3, h4, -⟩ := fm
  refine ⟨⟨by rw [g2 5 (by decide) (by decide)]; exact t1, by rw [g2 6 (by decide) (by decide)]; exact t2, t3, t4, fun j hj => ?_, by rw [h3 11 (by decide)]; exact t6, by rw [h3 12 (by decide)]; exact t7⟩, by rw [g5]; exact l2, by rw [h2 24 (by decide) (by decide)]; exact l3, l4, by rw [h2 25 (by decide) (by decide)]; exact l5, by rw [g6, h4, h3 20 (by decide), h3 21 (by decide)]; exact l6⟩
  exact (t5 j hj).rw ⟨by rw [g3], by rw [g3], by rw [g3], by rw [g4]⟩ ⟨by rw [h3 11 (by decide)], by rw [h3 12 (by decide)], by rw [h3 13 (by decide)], by rw [h3 14 (by decide)], by rw [h4]⟩
theorem kd_one0 : ∀ op, op < 26 → ∀ x, x < nt op → ∀ y, y < nt op → (kd op x ≠ 3 ∨ ¬ x < y ∨ kd op y ≠ 3) := by decide +kernel
theorem kd_one (op : Nat) (ho : op < 26) (x : Nat) (hx : x < nt op) (h : kd op x = 3) (y : Nat) (hy : y < nt op) (hxy : x < y) : kd op y ≠ 3 := by
  rcases kd_one0 op ho x hx y hy with g | g | g
  · exact absurd h g
  · exact absurd hxy g
  · exact g
theorem wk3 {d : Nat} (h : d = 1 ∨ d = 2 ∨ d = 3) : nI (wk d) = 3 ↔ d = 3 := by
  rcases h with h | h | h <;> subst h <;> decide
theorem e_bindS (ho : op < 26) (C : cS) (i : Nat) : ∀ d j, j + d = nt op → (∀ x, j ≤ x → x < nt op → kd op x ≠ 3) → ∃ N, ∀ Q K, K (nI i) C → w_X5_bindLabels_34 b Q K N (nI i) (z_tkx.getD op 0) (nI j) C := by
  obtain ⟨l1, l2, l3, l4, l5⟩ := tk_len op ho
  intro d
  induction d with
  | zero =>
    intro j hj h
    exact ⟨1, fun Q K hK => ⟨l1, fun _ => hK, fun r => absurd (by rw [l2, ni_le (by omega) (by omega)]; omega) r⟩⟩
  | succ d ih =>
    intro j hj h
    obtain ⟨N, hN⟩ := ih (j + 1) (by omega) (fun x h1 h2 => h x (by omega) h2)
    have k4 := (tk_chr op ho j (by omega)).2.2.2
    refine ⟨N + 1, fun Q K hK => ⟨l1, fun r => absurd r (by rw [l2, ni_le (by omega) (by omega)]; omega), fun _ => ⟨fun r => absurd r (by rw [ni_lle (by omega) (by decide)]; show ¬ 3 ≤ j; omega), fun _ => ⟨by rw [l2]; exact (ni_in (by omega)).mpr (by omega), ?_⟩⟩⟩⟩
    rw [ni_cl (by omega)]
    refine e_tokFor ho (by omega) _ ⟨fun _ v hv2 => ?_, fun r => absurd ((wk3 k4).mp r) (h j (Nat.le_refl _) (by omega))⟩
    rw [nI_1] at hv2
    subst hv2
    exact hN Q K hK
theorem wp57 {Q : Int32 → mS → Prop} {K : mS → Prop} {N : Nat} (h22 : ¬ m_i M 22 = 0) (hK : K M) (y : Int32) : w_X11_program_57 Q K (N + 1) y M :=
  ⟨fun _ => hK, fun _ => e_bad h22 _ ⟨fun _ => hK, fun r => absurd rfl r⟩⟩
theorem a_bindJ (ho : op < 26) (hi : i < na) : ∀ (d j : Nat) {C : cS} {M : mS}, j + d = nt op → LX C M b n k na nl → c_i C 3 = 0 → m_i M 22 = 0 → (∀ x, x < j → bt C M b i op x na) → (∀ x, j ≤ x → x < nt op → takA C M b k i op x) →
    (∃ C1 M1, c_i C1 3 = 0 ∧ m_i M1 22 = 0 ∧ (∀ x, x < nt op → bt C1 M1 b i op x na) ∧ bxC b i C C1 ∧ bxM i M M1 ∧ (∃ N, ∀ Q K, K (nI i) C1 → w_X5_bindLabels_34 b Q K N (nI i) (z_tkx.getD op 0) (nI j) C) ∧ (∀ N, ∃ N1, ∀ Q K, w_X11_program_57 Q K N (nI (3 * i + nt op)) M1 → w_X11_program_57 Q K N1 (nI (3 * i + j)) M)) ∨
    (∃ C1 M1, flt C1 M1 ∧ bxC b i C C1 ∧ bxM i M M1 ∧ (∃ N, ∀ Q K, K (nI i) C1 → w_X5_bindLabels_34 b Q K N (nI i) (z_tkx.getD op 0) (nI j) C) ∧ (∃ N, ∀ Q K, K M1 → w_X11_program_57 Q K N (nI (3 * i + j)) M)) := by
  obtain ⟨l1, l2, l3, l4, l5⟩ := tk_len op ho
  intro d
  induction d with
  | zero =>
    intro j C M hj L c3 m22 hB hA
    left
    obtain ⟨N, hN⟩ := e_bindS (b := b) ho C i 0 j (by omega) (fun x h1 h2 => by omega)
    have e : j = nt op := by omega
    subst e
    exact ⟨C, M, c3, m22, fun x hx => hB x hx, bxC.rf b i C, bxM.rf i M, ⟨N, hN⟩, fun N => ⟨N, fun Q K h => h⟩⟩
  | succ d ih =>
    intro j C M hj L c3 m22 hB hA
    obtain ⟨T, cn, m24, hna, m25, B⟩ := id L
    have hnl := lb_le B
    obtain ⟨t1, t2, t3, t4, t5, t6, t7⟩ := id T
    have k4 := (tk_chr op ho j (by omega)).2.2.2
    have i1 : vp_in (nI (3 * i + j)) 450 := (ni_in (by omega)).mpr (by omega)
    have clj : (nI (3 * i + j)).toNatClampNeg = 3 * i + j := ni_cl (by omega)
    have tk := hA j (Nat.le_refl _) (by omega)
    have m3 : ¬ (3 * m_i M 24 : Int32) ≤ nI (3 * i + j) := by rw [m24, ni_lm, ni_le (by omega) (by omega)]; show ¬ 3 * na ≤ _; omega
    have wC : ∀ (N : Nat) Q K, ((¬ nI (wk (kd op j)) = 3 → ∀ v : Int32, v = nI j + 1 → w_X5_bindLabels_34 b Q K N (nI i) (z_tkx.getD op 0) v C) ∧ (nI (wk (kd op j)) = 3 → p_X5_bind b (nI (3 * i + j)) C (fun C2 => ∀ v : Int32, v = nI j + 1 → w_X5_bindLabels_34 b Q K N (nI i) (z_tkx.getD op 0) v C2))) → w_X5_bindLabels_34 b Q K (N + 1) (nI i) (z_tkx.getD op 0) (nI j) C := by
      intro N Q K h
      refine ⟨l1, fun r => absurd r (by rw [l2, ni_le (by omega) (by omega)]; omega), fun _ => ⟨fun r => absurd r (by rw [ni_lle (by omega) (by decide)]; show ¬ 3 ≤ j; omega), fun _ => ⟨by rw [l2]; exact (ni_in (by omega)).mpr (by omega), ?_⟩⟩⟩
      rw [ni_cl (by omega), ix_C]
      exact e_tokFor ho (by omega) _ h
    have wM : ∀ (N : Nat) Q K, ((¬ m_a M 19 (3 * i + j) = 0 → p_X11_labelOf (m_l M 2 (3 * i + j)) (m_a M 19 (3 * i + j)) M (fun rz16 Mz15 => ((¬ rz16 = (-1) → vp_in rz16 150 ∧ ∀ v : Int32, v = nI (3 * i + j) + 1 → w_X11_program_57 Q K N v (m_aU Mz15 17 (nI (3 * i + j)) ((m_a Mz15 21) rz16.toNatClampNeg))) ∧ (rz16 = (-1) → p_X11_fails 4 ((m_a Mz15 18) (nI (3 * i + j)).toNatClampNeg) Mz15 (fun Mz20 => ∀ v : Int32, v = nI (3 * i + j) + 1 → w_X11_program_57 Q K N v Mz20))))) ∧ (m_a M 19 (3 * i + j) = 0 → ∀ v : Int32, v = nI (3 * i + j) + 1 → w_X11_program_57 Q K N v M)) → w_X11_program_57 Q K (N + 1) (nI (3 * i + j)) M := by
      intro N Q K h
      refine ⟨fun r => absurd r m3, fun _ => e_good m22 _ ⟨fun r => absurd r (by decide), fun _ => ⟨i1, ?_⟩⟩⟩
      rw [clj]
      rw [clj] at h
      exact h
    by_cases k3 : kd op j = 3
    · obtain ⟨tt, u1, u2, u3, u4, u5, u6⟩ := tk.2.2 k3
      obtain ⟨e, E⟩ := T.ex1 (j := tt) (by omega)
      have he : e = 3 := by
        refine (E.kd1 3 (by decide)).mp ?_
        unfold kC
        rw [if_pos u1]
        exact u3
      have q := E.2.2.2.2.2.2.2.2 he
      have ne19 : ¬ m_a M 19 (3 * i + j) = 0 := by
        rw [u5]
        obtain ⟨f, Lq, g1, g2, g3, g4, g5, g6⟩ := q
        rw [g6]
        exact nI_ne0 (by omega) (by omega)
      have bC : ∀ {P : cS → Prop}, (p_X4_actLabelled b (c_l C 0 tt) C (fun rz6 Cz5 => ((¬ rz6 = (-1) → P (c_paU Cz5 1 b (nI (3 * i + j)) rz6)) ∧ (rz6 = (-1) → p_X5_refuse 4 (nI tt) Cz5 (fun rz9 Cz8 => P Cz8))))) → p_X5_bind b (nI (3 * i + j)) C P := by
        intro P h
        refine ⟨i1, fun v hv2 => ?_⟩
        rw [clj, u2] at hv2
        subst hv2
        exact e_nameAt T u1 _ h
      rw [← u4, ← u5] at q
      rcases a_lab B cn hna m25 q with ⟨a, c, x1, x2, x3, x4, x5⟩ | ⟨x4, x5⟩
      · have na1 : ∀ a, a < 150 → ¬ nI a = (-1 : Int32) := fun a ha r => by
          have := neg_lt (x := -1) (by decide) a (by omega)
          rw [r] at this
          exact absurd this (Int32.lt_irrefl)
        have FC : bxC b i C (c_paU C 1 b (nI (3 * i + j)) (nI c)) := (bxC.rf b i C).pa (by omega) (by omega)
        have FM : bxM i M (m_aU M 17 (nI (3 * i + j)) (nI c)) := (bxM.rf i M).u (by omega) (by omega)
        have h1 : c_pa (c_paU C 1 b (nI (3 * i + j)) (nI c)) 1 b = upd (c_pa C 1 b) (nI (3 * i + j)).toNatClampNeg (nI c) := by rw [cs_pa_paU, if_pos rfl, if_pos rfl]
        have h2 : m_a (m_aU M 17 (nI (3 * i + j)) (nI c)) 17 = upd (m_a M 17) (nI (3 * i + j)).toNatClampNeg (nI c) := rfl
        have stC : ∀ (N : Nat) Q K, w_X5_bindLabels_34 b Q K N (nI i) (z_tkx.getD op 0) (nI (j + 1)) (c_paU C 1 b (nI (3 * i + j)) (nI c)) → w_X5_bindLabels_34 b Q K (N + 1) (nI i) (z_tkx.getD op 0) (nI j) C := by
          intro N Q K h
          refine wC N Q K ⟨fun r => absurd ((wk3 k4).mpr k3) r, fun _ => bC (x4 _ ⟨fun _ v hv2 => ?_, fun r => absurd r (na1 c (by omega))⟩)⟩
          rw [nI_1] at hv2
          subst hv2
          exact h
        have stM : ∀ (N : Nat) Q K, w_X11_program_57 Q K N (nI (3 * i + (j + 1))) (m_aU M 17 (nI (3 * i + j)) (nI c)) → w_X11_program_57 Q K (N + 1) (nI (3 * i + j)) M := by
          intro N Q K h
          refine wM N Q K ⟨fun _ => x5 _ ⟨fun _ => ⟨(ni_in (by omega)).mpr (by omega), fun v hv2 => ?_⟩, fun r => absurd r (na1 a (by omega))⟩, fun r => absurd r ne19⟩
          rw [nI_1] at hv2
          subst hv2
          rw [ni_cl (a := a) (by omega), x3]
          exact h
        rcases ih (j + 1) (by omega) (L.bx FC FM) c3 m22 (fun x hx => by
            unfold bt
            rw [h1, h2]
            by_cases q : x = j
            · subst q
              rw [up_hit (by omega), up_hit (by omega)]
              exact ⟨rfl, fun q => absurd (q.symm.trans k3) (by decide), fun _ => ⟨c, x2, rfl⟩⟩
            · rw [up_mis (by omega) (by omega), up_mis (by omega) (by omega)]
              exact hB x (by omega)) (fun x g1 g2 => by
            have h := hA x (by omega) g2
            unfold takA at h ⊢
            rw [h1, h2, up_mis (by omega) (by omega), up_mis (by omega) (by omega)]
            exact h) with ⟨C2, M2, e1, e2, e3, e4, e5, ⟨N1, e6⟩, e7⟩ | ⟨C2, M2, e1, e2, e3, ⟨N1, e4⟩, ⟨N2, e5⟩⟩
        · refine Or.inl ⟨C2, M2, e1, e2, e3, FC.tr e4, FM.tr e5, ⟨N1 + 1, fun Q K hK => stC N1 Q K (e6 Q K hK)⟩, fun N => ?_⟩
          obtain ⟨N2, e8⟩ := e7 N
          exact ⟨N2 + 1, fun Q K h => stM N2 Q K (e8 Q K h)⟩
        · exact Or.inr ⟨C2, M2, e1, FC.tr e2, FM.tr e3, ⟨N1 + 1, fun Q K hK => stC N1 Q K (e4 Q K hK)⟩, ⟨N2 + 1, fun Q K hK => stM N2 Q K (e5 Q K hK)⟩⟩
      · obtain ⟨N, hN⟩ := e_bindS (b := b) ho (c_iS (c_iS C 3 4) 4 (m_a M 12 tt)) i d (j + 1) (by omega) (fun x g1 g2 => kd_one op ho j (by omega) k3 x g2 (by omega))
        refine Or.inr ⟨c_iS (c_iS C 3 4) 4 (m_a M 12 tt), m_iS (m_iS M 22 4) 23 (m_a M 12 tt), ⟨by show ¬ (4 : Int32) = 0; decide, rfl, rfl⟩, (bxC.rf b i C).f, (bxM.rf i M).f, ⟨N + 1, fun Q K hK => wC N Q K ⟨fun r => absurd ((wk3 k4).mpr k3) r, fun _ => bC (x4 _ ⟨fun r => absurd rfl r, fun _ => e_refuse T (by omega) E 4 _ fun v hv2 => ?_⟩)⟩⟩, ⟨2, fun Q K hK => wM 1 Q K ⟨fun _ => x5 _ ⟨fun r => absurd rfl r, fun _ => ?_⟩, fun r => absurd r ne19⟩⟩⟩
        · rw [nI_1] at hv2
          subst hv2
          exact hN Q K hK
        · rw [clj, u6]
          exact e_fails m22 4 _ _ (fun v _ => wp57 (by show ¬ (4 : Int32) = 0; decide) hK v)
    · have z19 : m_a M 19 (3 * i + j) = 0 := by
        rcases k4 with k4 | k4 | k4
        · exact (tk.1 k4).2.1
        · exact (tk.2.1 k4).2
        · exact absurd k4 k3
      have bj : bt C M b i op j na := by
        refine ⟨?_, fun q => (tk.1 q).2.2, fun q => absurd q k3⟩
        rcases k4 with k4 | k4 | k4
        · exact (tk.1 k4).1
        · exact (tk.2.1 k4).1
        · exact absurd k4 k3
      have stC : ∀ (N : Nat) Q K, w_X5_bindLabels_34 b Q K N (nI i) (z_tkx.getD op 0) (nI (j + 1)) C → w_X5_bindLabels_34 b Q K (N + 1) (nI i) (z_tkx.getD op 0) (nI j) C := by
        intro N Q K h
        refine wC N Q K ⟨fun _ v hv2 => ?_, fun r => absurd ((wk3 k4).mp r) k3⟩
        rw [nI_1] at hv2
        subst hv2
        exact h
      have stM : ∀ (N : Nat) Q K, w_X11_program_57 Q K N (nI (3 * i + (j + 1))) M → w_X11_program_57 Q K (N + 1) (nI (3 * i + j)) M := by
        intro N Q K h
        refine wM N Q K ⟨fun r => absurd z19 r, fun _ v hv2 => ?_⟩
        rw [nI_1] at hv2
        subst hv2
        exact h
      rcases ih (j + 1) (by omega) L c3 m22 (fun x hx => by
          by_cases q : x = j
          · subst q; exact bj
          · exact hB x (by omega)) (fun x g1 g2 => hA x (by omega) g2) with ⟨C2, M2, e1, e2, e3, e4, e5, ⟨N1, e6⟩, e7⟩ | ⟨C2, M2, e1, e2, e3, ⟨N1, e4⟩, ⟨N2, e5⟩⟩
      · refine Or.inl ⟨C2, M2, e1, e2, e3, e4, e5, ⟨N1 + 1, fun Q K hK => stC N1 Q K (e6 Q K hK)⟩, fun N => ?_⟩
        obtain ⟨N2, e8⟩ := e7 N
        exact ⟨N2 + 1, fun Q K h => stM N2 Q K (e8 Q K h)⟩
      · exact Or.inr ⟨C2, M2, e1, e2, e3, ⟨N1 + 1, fun Q K hK => stC N1 Q K (e4 Q K hK)⟩, ⟨N2 + 1, fun Q K hK => stM N2 Q K (e5 Q K hK)⟩⟩
/-- the reference passes what is no label -/
theorem e_pass57 (m22 : m_i M 22 = 0) (m24 : m_i M 24 = nI na) (hi : i < na) (hna : na ≤ 150) : ∀ d j, j + d = 3 → (∀ x, j ≤ x → x < 3 → m_a M 19 (3 * i + x) = 0) → ∀ N, ∃ N1, ∀ Q K, w_X11_program_57 Q K N (nI (3 * (i + 1))) M → w_X11_program_57 Q K N1 (nI (3 * i + j)) M := by
  intro d
  induction d with
  | zero =>
    intro j hj h N
    have e : 3 * i + j = 3 * (i + 1) := by omega
    rw [e]
    exact ⟨N, fun Q K h => h⟩
  | succ d ih =>
    intro j hj h N
    obtain ⟨N1, hN⟩ := ih (j + 1) (by omega) (fun x h1 h2 => h x (by omega) h2) N
    refine ⟨N1 + 1, fun Q K g => ⟨fun r => absurd r ?_, fun _ => e_good m22 _ ⟨fun r => absurd r (by decide), fun _ => ⟨(ni_in (by omega)).mpr (by omega), ?_⟩⟩⟩⟩
    · rw [m24, ni_lm, ni_le (by omega) (by omega)]; show ¬ 3 * na ≤ _; omega
    · rw [ni_cl (by omega)]
      refine ⟨fun r => absurd (h j (Nat.le_refl _) (by omega)) r, fun _ v hv2 => ?_⟩
      rw [nI_1] at hv2
      subst hv2
      exact hN Q K g
theorem bnd1.bx {x : Nat} (h : bnd1 C M b na x) (fc : bxC b i C C1) (fm : bxM i M M1) (hx : x ≠ i) : bnd1 C1 M1 b na x := by
  obtain ⟨op, o1, o2, o3, o4, o5⟩ := h
  obtain ⟨-, -, -, -, -, -, g7, g8, g9⟩ := fc
  obtain ⟨-, -, h3, -, h5⟩ := fm
  have l3 := (tk_len op o1).2.2.1
  refine ⟨op, o1, by rw [g7]; exact o2, by rw [h3 15 (by decide)]; exact o3, by rw [g8, h3 16 (by decide)]; exact o4, fun j hj => ?_⟩
  have g := o5 j hj
  unfold bt at g ⊢
  rw [g9 _ (by omega), h5 _ (by omega)]
  exact g
theorem act1.bx {x : Nat} (h : act1 C M b k x) (fc : bxC b i C C1) (fm : bxM i M M1) (hx : x ≠ i) : act1 C1 M1 b k x := by
  obtain ⟨-, -, g3, -, -, -, g7, g8, g9⟩ := fc
  obtain ⟨-, -, h3, h4, h5⟩ := fm
  exact h.fr (by rw [g3]) (by rw [g7]) (by rw [g8]) (fun j hj => g9 _ (by omega)) (by rw [h3 12 (by decide)]) (by rw [h3 13 (by decide)]) (by rw [h4]) (by rw [h3 15 (by decide)]) (by rw [h3 16 (by decide)]) (fun j hj => ⟨h5 _ (by omega), by rw [h3 18 (by decide)], by rw [h3 19 (by decide)], by rw [h4]⟩)
theorem a_bindA : ∀ (d i : Nat) {C : cS} {M : mS}, i + d = na → LX C M b n k na nl → c_i C 3 = 0 → m_i M 22 = 0 → (∀ x, x < i → bnd1 C M b na x) → (∀ x, i ≤ x → x < na → act1 C M b k x) →
    (∃ C1 M1, c_i C1 3 = 0 ∧ m_i M1 22 = 0 ∧ (∀ x, x < na → bnd1 C1 M1 b na x) ∧ LX C1 M1 b n k na nl ∧ pfC b C C1 ∧ pfM M M1 ∧ (∃ N, ∀ Q K, K C1 → w_X5_bindLabels_2 b Q K N (nI i) C) ∧ (∃ N, ∀ Q K, K M1 → w_X11_program_57 Q K N (nI (3 * i)) M)) ∨
    (∃ C1 M1, flt C1 M1 ∧ pfC b C C1 ∧ pfM M M1 ∧ (∃ N, ∀ Q K, K C1 → w_X5_bindLabels_2 b Q K N (nI i) C) ∧ (∃ N, ∀ Q K, K M1 → w_X11_program_57 Q K N (nI (3 * i)) M)) := by
  intro d
  induction d with
  | zero =>
    intro i C M hi L c3 m22 hB hA
    have e : i = na := by omega
    subst e
    obtain ⟨T, cn, m24, hna, m25, B⟩ := id L
    left
    refine ⟨C, M, c3, m22, hB, L, pfC.rf b C, pfM.rf M, ⟨1, fun Q K hK => ⟨fun _ => hK, fun r => absurd (by rw [cn, ni_le (by omega) (by omega)]; omega) r⟩⟩, ⟨1, fun Q K hK => ⟨fun _ => hK, fun r => absurd ?_ r⟩⟩⟩
    rw [m24, ni_lm, ni_le (by omega) (by omega)]
    exact Nat.le_refl _
  | succ d ih =>
    intro i C M hi L c3 m22 hB hA
    obtain ⟨T, cn, m24, hna, m25, B⟩ := id L
    obtain ⟨op, o1, o2, o3, o4, o5, o6⟩ := hA i (Nat.le_refl _) (by omega)
    have wC : ∀ (N : Nat) Q K, (∃ N1 : Nat, w_X5_bindLabels_34 b Q (fun l C => ∀ v : Int32, v = l + 1 → w_X5_bindLabels_2 b Q K N v C) N1 (nI i) (z_tkx.getD op 0) 0 C) → w_X5_bindLabels_2 b Q K (N + 1) (nI i) C := by
      intro N Q K h
      refine ⟨fun r => absurd r (by rw [cn, ni_le (by omega) (by omega)]; omega), fun _ => ⟨fun r => absurd c3 r, fun _ => ⟨(ni_in (by omega)).mpr (by omega), ?_⟩⟩⟩
      rw [ni_cl (a := i) (by omega), o2, ni_cl (a := op) (by omega)]
      refine ⟨(ni_in (by omega)).mpr o1, fun v hv2 => ?_⟩
      subst hv2
      exact h
    have l3 := (tk_len op o1).2.2.1
    rcases a_bindJ (b := b) (i := i) o1 (by omega) (nt op) 0 (by omega) L c3 m22 (fun x hx => by omega) (fun x h1 h2 => o5 x h2) with ⟨C1, M1, e1, e2, e3, e4, e5, ⟨N1, e6⟩, e7⟩ | ⟨C1, M1, e1, e2, e3, ⟨N1, e4⟩, ⟨N2, e5⟩⟩
    · have L1 := L.bx e4 e5
      have b1 : bnd1 C1 M1 b na i := ⟨op, o1, by rw [e4.2.2.2.2.2.2.1]; exact o2, by rw [e5.2.2.1 15 (by decide)]; exact o3, by rw [e4.2.2.2.2.2.2.2.1, e5.2.2.1 16 (by decide)]; exact o4, e3⟩
      have p57 := e_pass57 (M := M1) (i := i) e2 L1.2.2.1 (by omega) hna (3 - nt op) (nt op) (by omega) (fun x h1 h2 => by rw [e5.2.2.1 19 (by decide)]; exact o6 x h1 h2)
      rcases ih (i + 1) (by omega) L1 e1 e2 (fun x hx => by
          by_cases q : x = i
          · subst q; exact b1
          · exact (hB x (by omega)).bx e4 e5 q) (fun x h1 h2 => (hA x (by omega) h2).bx e4 e5 (by omega)) with ⟨C2, M2, f1, f2, f3, f4, f5, f6, ⟨N3, f7⟩, ⟨N4, f8⟩⟩ | ⟨C2, M2, f1, f2, f3, ⟨N3, f4⟩, ⟨N4, f5⟩⟩
      · obtain ⟨N5, g1⟩ := p57 N4
        obtain ⟨N6, g2⟩ := e7 N5
        refine Or.inl ⟨C2, M2, f1, f2, f3, f4, e4.1.tr f5, e5.1.tr f6, ⟨N3 + 1, fun Q K hK => wC N3 Q K ⟨N1, e6 _ _ fun v hv2 => ?_⟩⟩, ⟨N6, fun Q K hK => g2 Q K (g1 Q K (f8 Q K hK))⟩⟩
        rw [nI_1] at hv2
        subst hv2
        exact f7 Q K hK
      · obtain ⟨N5, g1⟩ := p57 N4
        obtain ⟨N6, g2⟩ := e7 N5
        refine Or.inr ⟨C2, M2, f1, e4.1.tr f2, e5.1.tr f3, ⟨N3 + 1, fun Q K hK => wC N3 Q K ⟨N1, e6 _ _ fun v hv2 => ?_⟩⟩, ⟨N6, fun Q K hK => g2 Q K (g1 Q K (f5 Q K hK))⟩⟩
        rw [nI_1] at hv2
        subst hv2
        exact f4 Q K hK
    · refine Or.inr ⟨C1, M1, e1, e2.1, e3.1, ⟨2, fun Q K hK => wC 1 Q K ⟨N1, e4 _ _ fun v _ => ⟨fun _ => hK, fun _ => ⟨fun _ => hK, fun r => absurd r e1.1⟩⟩⟩⟩, ⟨N2, fun Q K hK => e5 Q K hK⟩⟩
end ZR14
