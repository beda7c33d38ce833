/-! THE TEXT IS CUT: names, numbers, marks -/
section ZC9
def ac (a j : Nat) : Nat := (z_tchr a j).toNatClampNeg
theorem ac_ok : ∀ a, a < 26 → (1 ≤ z_tlen a ∧ z_tlen a ≤ 6) ∧ ∀ j, j < z_tlen a → z_tchr a j = nI (ac a j) ∧ (97 ≤ ac a j ∧ ac a j ≤ 122) := by decide +kernel
def mtw (u : Nat → Nat) (p q a : Nat) : Prop := z_tlen a = q - p ∧ ∀ j, j < q - p → u (p + j) = ac a j
variable {C : cS} {M : mS} {n p q m L k a s : Nat} {u : Nat → Nat} {x : Int32}
theorem e_readL {Q : Int32 → cS → Prop} {K36 K44 : cS → Prop} (T : tpC (c_a C 0) n u) (hn : n ≤ 2000) (hqn : q ≤ n) (hw : ∀ j, p ≤ j → j < q → isCh (u j)) (ha : a < 26) (hl : z_tlen a = q - p) (g : (∀ j, j < q - p → u (p + j) = ac a j) → K44 C) (b : ¬ (∀ j, j < q - p → u (p + j) = ac a j) → K36 C) :
    ∀ d i, p + i + d = q → (∀ j, j < i → u (p + j) = ac a j) → ∃ N, w_X8_reads_15 a Q K36 K44 N (nI p) (nI q) (nI (p + i)) C := by
  intro d
  induction d with
  | zero =>
    intro i hi hall
    have e2 : p + i = q := by omega
    rw [e2]
    exact ⟨1, ⟨fun _ => g fun j hj => hall j (by omega), fun r => absurd (by rw [ni_le (by omega) (by omega)]; omega) r⟩⟩
  | succ d ih =>
    intro i hi hall
    have hc := ch_lt (hw (p + i) (by omega) (by omega))
    have hx : c_a C 0 (p + i) = nI (u (p + i)) := by
      rcases T (p + i) (by omega) with t | t
      · exact t.2
      · omega
    obtain ⟨c1, c2⟩ := (ac_ok a ha).2 i (by omega)
    have hs : (nI (p + i) - nI p) = nI i := by rw [ni_sub (by omega)]; congr 1; omega
    by_cases e : u (p + i) = ac a i
    · obtain ⟨N, hN⟩ := ih (i + 1) (by omega) (fun j hj => by
        by_cases q : j = i
        · subst q; exact e
        · exact hall j (by omega))
      refine ⟨N + 1, ⟨fun r => absurd r (by rw [ni_le (by omega) (by omega)]; omega), fun _ => ⟨(ni_in (by omega)).mpr (by omega), by omega, ?_, ?_⟩⟩⟩
      · rw [hs]; exact (ni_in (by omega)).mpr (by omega)
      · rw [hs, ni_cl (by omega), ni_cl (by omega), hx, c1, e]
        refine ⟨fun _ v hv2 => ?_, fun r => absurd rfl r⟩
        rw [nI_1] at hv2
        subst hv2
        exact hN
    · refine ⟨1, ⟨fun r => absurd r (by rw [ni_le (by omega) (by omega)]; omega), fun _ => ⟨(ni_in (by omega)).mpr (by omega), by omega, ?_, ?_⟩⟩⟩
      · rw [hs]; exact (ni_in (by omega)).mpr (by omega)
      · rw [hs, ni_cl (by omega), ni_cl (by omega), hx, c1]
        refine ⟨fun r => absurd ((ni_eq (by omega) (by omega)).mp r) e, fun _ => b fun h => e (h i (by omega))⟩
theorem e_reads {Q : Int32 → cS → Prop} (T : tpC (c_a C 0) n u) (hn : n ≤ 2000) (hpq : p ≤ q) (hqn : q ≤ n) (hw : ∀ j, p ≤ j → j < q → isCh (u j)) (ha : a < 26) (g : mtw u p q a → Q 1 C) (b : ¬ mtw u p q a → Q 0 C) : p_X8_reads (nI p) (nI q) a C Q := by
  have o := (ac_ok a ha).1
  refine ⟨by omega, fun h => ?_, fun h => b fun h2 => h ?_⟩
  · rw [ni_sub hpq, ni_eq (by omega) (by omega)] at h
    exact e_readL T hn hqn hw ha h.symm (fun h2 => g ⟨h.symm, h2⟩) (fun h2 => b fun h3 => h2 h3.2) (q - p) 0 (by omega) (fun j hj => by omega)
  · rw [ni_sub hpq, h2.1]
theorem e_actN {Q : Int32 → cS → Prop} {K27 : Int32 → cS → Prop} {K35 : cS → Prop} (T : tpC (c_a C 0) n u) (hn : n ≤ 2000) (hpq : p ≤ q) (hqn : q ≤ n) (hw : ∀ j, p ≤ j → j < q → isCh (u j)) (g : ∀ a, a < 26 → mtw u p q a → (∀ i, i < a → ¬ mtw u p q i) → K27 (nI a) C) (b : (∀ a, a < 26 → ¬ mtw u p q a) → K35 C) :
    ∀ d i, i + d = 26 → (∀ j, j < i → ¬ mtw u p q j) → ∃ N, w_X8_actNamed_2 Q K27 K35 N (nI p) (nI q) (nI i) C := by
  intro d
  induction d with
  | zero =>
    intro i hi h
    exact ⟨1, ⟨fun _ => b fun a ha => h a (by omega), fun r => absurd (by rw [ni_lle (by omega) (by decide)]; omega) r⟩⟩
  | succ d ih =>
    intro i hi h
    by_cases e : mtw u p q i
    · refine ⟨1, ⟨fun r => absurd r (by rw [ni_lle (by omega) (by decide)]; omega), fun _ => ⟨(ni_in (by omega)).mpr (by omega), ?_⟩⟩⟩
      rw [ni_cl (by omega)]
      exact e_reads T hn hpq hqn hw (by omega) (fun _ => ⟨fun r => absurd r (by decide), fun _ => g i (by omega) e h⟩) (fun r => absurd e r)
    · obtain ⟨N, hN⟩ := ih (i + 1) (by omega) (fun j hj => by
        by_cases q : j = i
        · subst q; exact e
        · exact h j (by omega))
      refine ⟨N + 1, ⟨fun r => absurd r (by rw [ni_lle (by omega) (by decide)]; omega), fun _ => ⟨(ni_in (by omega)).mpr (by omega), ?_⟩⟩⟩
      rw [ni_cl (by omega)]
      refine e_reads T hn hpq hqn hw (by omega) (fun r => absurd r e) (fun _ => ⟨fun _ v hv2 => ?_, fun r => absurd rfl r⟩)
      rw [nI_1] at hv2
      subst hv2
      exact hN
/-- the reference's table of words -/
def wtM (M : mS) : Prop := ∀ a, a < 26 → m_l M 0 a = lN (pkv 256 (ac a) (z_tlen a)) ∧ m_a M 10 a = nI (z_tlen a)
theorem mt_iff (W : wtM M) (hL : q - p ≤ 8) (hw : ∀ j, p ≤ j → j < q → isCh (u j)) (ha : a < 26) : (m_l M 0 a = lN (pkv 256 (fun i => u (p + i)) (q - p)) ∧ m_a M 10 a = nI (q - p)) ↔ mtw u p q a := by
  obtain ⟨w1, w2⟩ := W a ha
  obtain ⟨o1, o2⟩ := ac_ok a ha
  have hc : ∀ i, i < q - p → u (p + i) < 128 := fun i hi => by have := ch_lt (hw (p + i) (by omega) (by omega)); omega
  rw [w1, w2, ni_eq (by omega) (by omega), pk_lEQ (pk2_b (by omega) fun i hi => by have := (o2 i hi).2; omega) (pk2_b hL hc)]
  constructor
  · rintro ⟨e1, e2⟩
    rw [e2] at e1
    refine ⟨e2, fun j hj => ?_⟩
    exact (pk2_inj (q - p) (fun i hi => ⟨by have := (o2 i (by omega)).2; omega, by have := hc i hi; omega⟩) e1 j hj).symm
  · rintro ⟨e1, e2⟩
    refine ⟨?_, e1⟩
    rw [e1]
    have e3 : ∀ m, m ≤ q - p → pkv 256 (ac a) m = pkv 256 (fun i => u (p + i)) m := by
      intro m
      induction m with
      | zero => intro _; rfl
      | succ m ih =>
        intro hm
        show pkv 256 (ac a) m * 256 + ac a m = pkv 256 (fun i => u (p + i)) m * 256 + u (p + m)
        rw [ih (by omega), e2 m (by omega)]
    exact e3 _ (Nat.le_refl _)
theorem e_actM {Q : Int32 → mS → Prop} {K : Int32 → Int32 → Int64 → Int32 → mS → Prop} (W : wtM M) (hq : q ≤ 2000) (hpq : p ≤ q) (hL : q - p ≤ 8) (hw : ∀ j, p ≤ j → j < q → isCh (u j)) (g : ∀ a, a < 26 → mtw u p q a → (∀ i, i < a → ¬ mtw u p q i) → K (nI p) (nI q) (lN (pkv 256 (fun i => u (p + i)) (q - p))) (nI a) M) (b : (∀ a, a < 26 → ¬ mtw u p q a) → K (nI p) (nI q) (lN (pkv 256 (fun i => u (p + i)) (q - p))) (nI 26) M) :
    ∀ d i, i + d = 26 → (∀ j, j < i → ¬ mtw u p q j) → ∃ N, w_X11_name_74 Q K N (nI p) (nI q) (lN (pkv 256 (fun i => u (p + i)) (q - p))) (nI i) M := by
  intro d
  induction d with
  | zero =>
    intro i hi h
    have e : i = 26 := by omega
    subst e
    exact ⟨1, ⟨fun _ => b fun a ha => h a (by omega), fun r => absurd (by decide) r⟩⟩
  | succ d ih =>
    intro i hi h
    have I := mt_iff W hL hw (a := i) (by omega)
    by_cases e : mtw u p q i
    · refine ⟨1, ⟨fun r => absurd r (by rw [ni_lle (by omega) (by decide)]; omega), fun _ => ⟨(ni_in (by omega)).mpr (by omega), ?_⟩⟩⟩
      rw [ni_cl (by omega), lg_cmp_eq, ni_sub hpq]
      exact ⟨fun r => absurd (I.mpr e).1 r, fun _ => ⟨fun _ => g i (by omega) e h, fun r => absurd (I.mpr e).2 r⟩⟩
    · obtain ⟨N, hN⟩ := ih (i + 1) (by omega) (fun j hj => by
        by_cases q : j = i
        · subst q; exact e
        · exact h j (by omega))
      refine ⟨N + 1, ⟨fun r => absurd r (by rw [ni_lle (by omega) (by decide)]; omega), fun _ => ⟨(ni_in (by omega)).mpr (by omega), ?_⟩⟩⟩
      rw [ni_cl (by omega), lg_cmp_eq, ni_sub hpq]
      refine ⟨fun _ v hv2 => ?_, fun r1 => ⟨fun r2 => absurd (I.mp ⟨r1, r2⟩) e, fun _ v hv2 => ?_⟩⟩
      · rw [nI_1] at hv2; subst hv2; exact hN
      · rw [nI_1] at hv2; subst hv2; exact hN
/-- what cutting leaves -/
def cfC (C C1 : cS) : Prop := c_sz C1 = c_sz C ∧ c_cur C1 = c_cur C ∧ c_spa C1 = c_spa C ∧ c_rp C1 = c_rp C ∧ (∀ k, k ≠ 5 → c_i C1 k = c_i C k) ∧ (∀ k, (k = 0 ∨ 3 < k) → c_a C1 k = c_a C k) ∧ (∀ d, c_pn C1 d = c_pn C d) ∧ (∀ k d, c_pa C1 k d = c_pa C k d) ∧ (∀ d, c_pl C1 d = c_pl C d)
def cfM (M M1 : mS) : Prop := (∀ k, k ≠ 20 → k ≠ 22 → k ≠ 23 → m_i M1 k = m_i M k) ∧ (∀ k, (k < 11 ∨ 14 < k) → m_a M1 k = m_a M k) ∧ (∀ k, k ≠ 1 → m_l M1 k = m_l M k)
theorem cfC.rf (C : cS) : cfC C C := ⟨rfl, rfl, rfl, rfl, fun _ _ => rfl, fun _ _ => rfl, fun _ => rfl, fun _ _ => rfl, fun _ => rfl⟩
theorem cfM.rf (M : mS) : cfM M M := ⟨fun _ _ _ _ => rfl, fun _ _ => rfl, fun _ _ => rfl⟩
theorem cfC.tr {C D E : cS} (h : cfC C D) (g : cfC D E) : cfC C E := by
  obtain ⟨h1, h2, h3, h4, h5, h6, h7, h8, h9⟩ := h
  obtain ⟨g1, g2, g3, g4, g5, g6, g7, g8, g9⟩ := g
  exact ⟨g1.trans h1, g2.trans h2, g3.trans h3, g4.trans h4, fun k q => (g5 k q).trans (h5 k q), fun k q => (g6 k q).trans (h6 k q), fun k => (g7 k).trans (h7 k), fun k d => (g8 k d).trans (h8 k d), fun k => (g9 k).trans (h9 k)⟩
theorem cfM.tr {C D E : mS} (h : cfM C D) (g : cfM D E) : cfM C E := by
  obtain ⟨h1, h2, h3⟩ := h
  obtain ⟨g1, g2, g3⟩ := g
  exact ⟨fun k q r s => (g1 k q r s).trans (h1 k q r s), fun k q => (g2 k q).trans (h2 k q), fun k q => (g3 k q).trans (h3 k q)⟩
theorem cfM.f {C D : mS} {v w : Int32} (h : cfM C D) : cfM C (m_iS (m_iS D 22 v) 23 w) :=
  h.tr ⟨fun k q r s => by rw [ms_i_iS, if_neg s, ms_i_iS, if_neg r], fun _ _ => rfl, fun _ _ => rfl⟩
def rwC (C C1 : cS) (k : Nat) : Prop := ∀ j, j ≠ k → c_a C1 1 j = c_a C 1 j ∧ c_a C1 2 j = c_a C 2 j ∧ c_a C1 3 j = c_a C 3 j ∧ c_l C1 0 j = c_l C 0 j
def rwM (M M1 : mS) (k : Nat) : Prop := ∀ j, j ≠ k → m_a M1 11 j = m_a M 11 j ∧ m_a M1 12 j = m_a M 12 j ∧ m_a M1 13 j = m_a M 13 j ∧ m_a M1 14 j = m_a M 14 j ∧ m_l M1 1 j = m_l M 1 j
theorem e_addC (h5 : c_i C 5 = nI k) (hk : k < 2000) (a1 a2 a3 : Int32) (a4 : Int64) : ∃ C1, (∀ Q, Q C1 → p_X8_add a1 a2 a3 a4 C Q) ∧ c_i C1 5 = nI (k + 1) ∧ c_a C1 1 k = a1 ∧ c_a C1 2 k = a2 ∧ c_a C1 3 k = a3 ∧ c_l C1 0 k = a4 ∧ rwC C C1 k ∧ cfC C C1 := by
  refine ⟨_, fun Q hQ => ⟨fun q => absurd q ?_, fun _ => ⟨?_, hQ⟩⟩, ?_, ?_, ?_, ?_, ?_, ?_, ?_⟩
  · rw [h5, ni_lle (by omega) (by decide)]; omega
  · rw [h5]; exact (ni_in (by omega)).mpr hk
  · show c_i C 5 + 1 = _
    rw [h5, nI_1]
  · show upd (c_a C 1) (c_i C 5).toNatClampNeg a1 k = a1
    rw [h5, ni_cl (by omega), up_at, if_pos rfl]
  · show upd (c_a C 2) (c_i C 5).toNatClampNeg a2 k = a2
    rw [h5, ni_cl (by omega), up_at, if_pos rfl]
  · show upd (c_a C 3) (c_i C 5).toNatClampNeg a3 k = a3
    rw [h5, ni_cl (by omega), up_at, if_pos rfl]
  · show vp_updL (c_l C 0) (c_i C 5).toNatClampNeg a4 k = a4
    rw [h5, ni_cl (by omega), upL_at, if_pos rfl]
  · intro j hj
    refine ⟨?_, ?_, ?_, ?_⟩
    · show upd (c_a C 1) (c_i C 5).toNatClampNeg a1 j = _
      rw [h5, ni_cl (by omega), up_at, if_neg hj]
    · show upd (c_a C 2) (c_i C 5).toNatClampNeg a2 j = _
      rw [h5, ni_cl (by omega), up_at, if_neg hj]
    · show upd (c_a C 3) (c_i C 5).toNatClampNeg a3 j = _
      rw [h5, ni_cl (by omega), up_at, if_neg hj]
    · show vp_updL (c_l C 0) (c_i C 5).toNatClampNeg a4 j = _
      rw [h5, ni_cl (by omega), upL_at, if_neg hj]
  · refine ⟨rfl, rfl, rfl, rfl, fun j q => ?_, fun j q => ?_, fun _ => rfl, fun _ _ => rfl, fun _ => rfl⟩
    · rw [cs_i_iS, if_neg q]; rfl
    · rw [cs_a_iS, cs_a_lU, cs_a_aU, if_neg (by omega), cs_a_aU, if_neg (by omega), cs_a_aU, if_neg (by omega)]
theorem e_tokM (h20 : m_i M 20 = nI k) (hk : k ≤ 2000) (s l w : Int32) : ∃ M1, (∀ Q, Q M1 → p_X11_token s l w M Q) ∧ m_i M1 20 = nI (k + 1) ∧ m_a M1 11 k = s ∧ m_a M1 12 k = l ∧ m_a M1 13 k = w ∧ rwM M M1 k ∧ cfM M M1 ∧ m_i M1 22 = m_i M 22 ∧ m_i M1 23 = m_i M 23 := by
  refine ⟨_, fun Q hQ => ⟨?_, hQ⟩, ?_, ?_, ?_, ?_, ?_, ?_, rfl, rfl⟩
  · rw [h20]; exact (ni_in (by omega)).mpr (by omega)
  · show m_i M 20 + 1 = _
    rw [h20, nI_1]
  · show upd (m_a M 11) (m_i M 20).toNatClampNeg s k = s
    rw [h20, ni_cl (by omega), up_at, if_pos rfl]
  · show upd (m_a M 12) (m_i M 20).toNatClampNeg l k = l
    rw [h20, ni_cl (by omega), up_at, if_pos rfl]
  · show upd (m_a M 13) (m_i M 20).toNatClampNeg w k = w
    rw [h20, ni_cl (by omega), up_at, if_pos rfl]
  · intro j hj
    refine ⟨?_, ?_, ?_, rfl, ?_⟩
    · show upd (m_a M 11) (m_i M 20).toNatClampNeg s j = _
      rw [h20, ni_cl (by omega), up_at, if_neg hj]
    · show upd (m_a M 12) (m_i M 20).toNatClampNeg l j = _
      rw [h20, ni_cl (by omega), up_at, if_neg hj]
    · show upd (m_a M 13) (m_i M 20).toNatClampNeg w j = _
      rw [h20, ni_cl (by omega), up_at, if_neg hj]
    · show vp_updL (m_l M 1) (m_i M 20).toNatClampNeg 0 j = _
      rw [h20, ni_cl (by omega), upL_at, if_neg hj]
  · refine ⟨fun j q r t => ?_, fun j q => ?_, fun j q => ?_⟩
    · rw [ms_i_iS, if_neg q]; rfl
    · rw [ms_a_iS, ms_a_lU, ms_a_aU, if_neg (by omega), ms_a_aU, if_neg (by omega), ms_a_aU, if_neg (by omega)]
    · rw [ms_l_iS, ms_l_lU, if_neg q]; rfl
/-- a name or a value beside the token that stands last -/
theorem e_valM {M M1 : mS} (hk : k ≤ 2000) (R : rwM M M1 k) (F : cfM M M1) (x : Int32) : rwM M (m_aU M1 14 (nI k) x) k ∧ cfM M (m_aU M1 14 (nI k) x) ∧ m_a (m_aU M1 14 (nI k) x) 14 k = x := by
  refine ⟨fun j hj => ?_, F.tr ⟨fun _ _ _ _ => rfl, fun j q => ?_, fun _ _ => rfl⟩, ?_⟩
  · obtain ⟨r1, r2, r3, r4, r5⟩ := R j hj
    refine ⟨r1, r2, r3, ?_, r5⟩
    show upd (m_a M1 14) (nI k).toNatClampNeg x j = _
    rw [ni_cl (by omega), up_at, if_neg hj]
    exact r4
  · rw [ms_a_aU, if_neg (by omega)]
  · show upd (m_a M1 14) (nI k).toNatClampNeg x k = _
    rw [ni_cl (by omega), up_at, if_pos rfl]
theorem e_nmlM {M M1 : mS} (hk : k ≤ 2000) (R : rwM M M1 k) (F : cfM M M1) (x : Int64) : rwM M (m_lU M1 1 (nI k) x) k ∧ cfM M (m_lU M1 1 (nI k) x) ∧ m_l (m_lU M1 1 (nI k) x) 1 k = x := by
  refine ⟨fun j hj => ?_, F.tr ⟨fun _ _ _ _ => rfl, fun _ _ => rfl, fun j q => ?_⟩, ?_⟩
  · obtain ⟨r1, r2, r3, r4, r5⟩ := R j hj
    refine ⟨r1, r2, r3, r4, ?_⟩
    show vp_updL (m_l M1 1) (nI k).toNatClampNeg x j = _
    rw [ni_cl (by omega), upL_at, if_neg hj]
    exact r5
  · rw [ms_l_lU, if_neg q]
  · show vp_updL (m_l M1 1) (nI k).toNatClampNeg x k = _
    rw [ni_cl (by omega), upL_at, if_pos rfl]
/-- token j, alike -/
def tk1 (C : cS) (M : mS) (j : Nat) : Prop := c_a C 2 j = m_a M 12 j ∧ ((c_a C 1 j = 0 ∧ m_a M 11 j = 4 ∧ c_a C 3 j = m_a M 14 j) ∨ (c_a C 1 j = 1 ∧ m_a M 11 j = 2 ∧ c_a C 3 j = m_a M 14 j ∧ ∃ h, h < 8 ∧ m_a M 14 j = nI h) ∨ (c_a C 1 j = 2 ∧ m_a M 11 j = 1 ∧ ∃ a, a < 26 ∧ c_a C 3 j = nI a ∧ m_a M 14 j = nI a) ∨ (c_a C 1 j = 3 ∧ m_a M 11 j = 3 ∧ nmR (c_l C 0 j) (m_l M 1 j) (m_a M 13 j)) ∨ (c_a C 1 j = 4 ∧ m_a M 11 j = 5) ∨ (c_a C 1 j = 5 ∧ m_a M 11 j = 6))
theorem tk1.rw {C C1 : cS} {M M1 : mS} {j : Nat} (h : tk1 C M j) (a : c_a C1 1 j = c_a C 1 j ∧ c_a C1 2 j = c_a C 2 j ∧ c_a C1 3 j = c_a C 3 j ∧ c_l C1 0 j = c_l C 0 j) (b : m_a M1 11 j = m_a M 11 j ∧ m_a M1 12 j = m_a M 12 j ∧ m_a M1 13 j = m_a M 13 j ∧ m_a M1 14 j = m_a M 14 j ∧ m_l M1 1 j = m_l M 1 j) : tk1 C1 M1 j := by
  obtain ⟨a1, a2, a3, a4⟩ := a
  obtain ⟨b1, b2, b3, b4, b5⟩ := b
  unfold tk1
  rw [a1, a2, a3, a4, b1, b2, b3, b4, b5]
  exact h
def TK (C : cS) (M : mS) (n : Nat) (u : Nat → Nat) (k p : Nat) : Prop := c_i C 5 = nI k ∧ m_i M 20 = nI k ∧ k ≤ p ∧ n ≤ 2000 ∧ (∀ j, j < k → tk1 C M j) ∧ m_i M 22 = 0 ∧ c_i C 6 = nI n ∧ m_i M 19 = nI n ∧ tpC (c_a C 0) n u ∧ tpM (m_a M 9) n u ∧ wtM M
theorem TK.up {C C1 : cS} {M M1 : mS} (T : TK C M n u k p) (hq : p < q) (c5 : c_i C1 5 = nI (k + 1)) (m20 : m_i M1 20 = nI (k + 1)) (rc : rwC C C1 k) (rm : rwM M M1 k) (fc : cfC C C1) (fm : cfM M M1) (m22 : m_i M1 22 = 0) (nw : tk1 C1 M1 k) : TK C1 M1 n u (k + 1) q := by
  obtain ⟨t1, t2, t3, t4, t5, t6, t7, t8, t9, t10, t11⟩ := T
  refine ⟨c5, m20, by omega, t4, fun j hj => ?_, m22, ?_, ?_, ?_, ?_, fun a ha => ?_⟩
  · by_cases e : j = k
    · subst e; exact nw
    · exact (t5 j (by omega)).rw (rc j e) (rm j e)
  · rw [fc.2.2.2.2.1 6 (by decide)]; exact t7
  · rw [fm.1 19 (by decide) (by decide) (by decide)]; exact t8
  · rw [fc.2.2.2.2.2.1 0 (Or.inl rfl)]; exact t9
  · rw [fm.2.1 9 (by omega)]; exact t10
  · rw [fm.2.2 0 (by decide), fm.2.1 10 (by omega)]; exact t11 a ha
/-- a cut of one piece at p: both go on at q with one token more, or both tell fault 1 -/
def ctR (C : cS) (M : mS) (n : Nat) (u : Nat → Nat) (k p : Nat) (pC : (Int32 → cS → Prop) → Prop) (pM : (Int32 → mS → Prop) → Prop) : Prop :=
  (∃ q k1 C1 M1, p < q ∧ q ≤ n ∧ (∀ Q, Q (nI q) C1 → pC Q) ∧ (∀ Q, Q (nI q) M1 → pM Q) ∧ TK C1 M1 n u k1 q ∧ cfC C C1 ∧ cfM M M1) ∨ (∃ q M1, (∀ Q, Q (-1) C → pC Q) ∧ (∀ Q, Q (nI q) M1 → pM Q) ∧ m_i M1 22 = 1 ∧ m_i M1 23 = nI p ∧ cfM M M1 ∧ m_i M1 20 = m_i M 20)
theorem e_fails (h22 : m_i M 22 = 0) (v w : Int32) : ∀ Q, Q (m_iS (m_iS M 22 v) 23 w) → p_X11_fails v w M Q :=
  fun Q hQ => ⟨fun _ => hQ, fun q => absurd (by rw [h22]; decide) q⟩
theorem e_good (h22 : m_i M 22 = 0) : ∀ Q, Q 1 M → p_X11_good M Q := fun Q hQ => ⟨fun q => absurd h22 q, fun _ => hQ⟩
theorem e_bad (h22 : ¬ m_i M 22 = 0) : ∀ Q, Q 0 M → p_X11_good M Q := fun Q hQ => ⟨fun _ => hQ, fun q => absurd q h22⟩
theorem a_name (T : TK C M n u k p) (hp : p < n) (hl : isLt (u p)) : ctR C M n u k p (p_X8_cutName (nI p) (nI n) C) (p_X11_name (nI p) M) := by
  obtain ⟨t1, t2, t3, t4, t5, t6, t7, t8, t9, t10, t11⟩ := id T
  obtain ⟨q, q1, q2, q3, q4⟩ := run_end (fun j => isCh (u j)) n (n - p) p (by omega)
  have hpq : p < q := by
    rcases q4 with h | ⟨h, h2⟩
    · omega
    · by_cases e : q = p
      · subst e; exact absurd (Or.inl hl) h2
      · omega
  have hs : nI q - nI p = nI (q - p) := ni_sub (by omega)
  by_cases hL : q - p ≤ 8
  · have wC : ∀ Q, p_X8_actNamed (nI p) (nI q) C (fun rz25 Cz24 => ((rz25 = (-1) → ((¬ (nI q - nI p) = 1 → p_X8_add 3 (nI p) 0 (lN (pkv 37 (fun i => cd (u (p + i))) (q - p))) Cz24 (fun Cz28 => Q (nI q) Cz28)) ∧ ((nI q - nI p) = 1 → vp_in (nI p) 2000 ∧ p_X10_isHand (((c_a Cz24 0) (nI p).toNatClampNeg) - 97) Cz24 (fun rz31 Cz30 => ((rz31 = 0 → p_X8_add 3 (nI p) 0 (lN (pkv 37 (fun i => cd (u (p + i))) (q - p))) Cz30 (fun Cz33 => Q (nI q) Cz33)) ∧ (¬ rz31 = 0 → p_X8_add 1 (nI p) (((c_a Cz30 0) (nI p).toNatClampNeg) - 97) 0 Cz30 (fun Cz34 => Q (nI q) Cz34))))))) ∧ (¬ rz25 = (-1) → p_X8_add 2 (nI p) rz25 0 Cz24 (fun Cz35 => Q (nI q) Cz35)))) → p_X8_cutName (nI p) (nI n) C Q := by
      intro Q h
      refine e_nmC t9 t4 q2 q3 q4 ⟨fun _ => h, fun r => absurd ?_ r⟩ (q - p) 0 (by omega)
      rw [hs, ni_lel (by omega) (by decide)]; exact hL
    have wM : ∀ Q, (∃ nz38 : Nat, w_X11_name_74 Q (fun lz27 lz28 lz29 lz30 Mz31 => ((26 ≤ lz30 → ((¬ (lz28 - lz27) = 1 → j_X11_name_143 Q lz27 lz28 lz29 lz30 Mz31) ∧ ((lz28 - lz27) = 1 → ((0 < (lg_cmp lz29 104) → j_X11_name_143 Q lz27 lz28 lz29 lz30 Mz31) ∧ (¬ 0 < (lg_cmp lz29 104) → j_X11_name_144 Q lz27 lz28 lz29 lz30 2 Mz31))))) ∧ (¬ 26 ≤ lz30 → j_X11_name_144 Q lz27 lz28 lz29 lz30 1 Mz31))) nz38 (nI p) (nI q) (lN (pkv 256 (fun i => u (p + i)) (q - p))) 0 M) → p_X11_name (nI p) M Q := by
      intro Q h
      refine e_nmM t10 t8 t4 q2 q3 q4 ⟨fun _ => ?_, fun r => absurd ?_ r⟩ (q - p) 0 (by omega)
      · exact e_pkM t10 t4 q2 hL q3 h (q - p) 0 (by omega)
      · rw [hs, ni_lel (by omega) (by decide)]; exact hL
    have nm : nmR (lN (pkv 37 (fun i => cd (u (p + i))) (q - p))) (lN (pkv 256 (fun i => u (p + i)) (q - p))) (nI (q - p)) :=
      ⟨fun i => u (p + i), q - p, by omega, hL, fun i hi => q3 (p + i) (by omega) (by omega), rfl, rfl, rfl⟩
    have k20 : nI (k + 1) - 1 = nI k := nI_pred k
    left
    -- the reference's token, told its sort
    have fin : ∀ (s l5 : Int32) , ∃ M1, (∀ Q, Q (nI q) M1 → j_X11_name_144 Q (nI p) (nI q) (lN (pkv 256 (fun i => u (p + i)) (q - p))) l5 s M) ∧ m_i M1 20 = nI (k + 1) ∧ m_a M1 11 k = s ∧ m_a M1 12 k = nI p ∧ m_a M1 13 k = nI (q - p) ∧ m_l M1 1 k = lN (pkv 256 (fun i => u (p + i)) (q - p)) ∧ (26 ≤ l5 → m_a M1 14 k = ((lN (pkv 256 (fun i => u (p + i)) (q - p)) : Int64).toInt32) - 97) ∧ (¬ 26 ≤ l5 → m_a M1 14 k = l5) ∧ rwM M M1 k ∧ cfM M M1 ∧ m_i M1 22 = 0 := by
      intro s l5
      obtain ⟨M1, d1, d2, d3, d4, d5, d6, d7, d8, d9⟩ := e_tokM t2 (by omega) s (nI p) (nI (q - p))
      obtain ⟨e1, e2, e3⟩ := e_nmlM (by omega) d6 d7 (lN (pkv 256 (fun i => u (p + i)) (q - p)))
      by_cases h : 26 ≤ l5
      · obtain ⟨f1, f2, f3⟩ := e_valM (by omega) e1 e2 (((lN (pkv 256 (fun i => u (p + i)) (q - p)) : Int64).toInt32) - 97)
        refine ⟨m_aU (m_lU M1 1 (nI k) (lN (pkv 256 (fun i => u (p + i)) (q - p)))) 14 (nI k) ((lN (pkv 256 (fun i => u (p + i)) (q - p)) : Int64).toInt32 - 97), fun Q hQ => ?_, d2, d3, d4, d5, e3, fun _ => f3, fun r => absurd h r, f1, f2, d8.trans t6⟩
        unfold j_X11_name_144
        rw [hs]
        refine d1 _ ⟨?_, fun _ => ?_, fun r => absurd h r⟩
        · rw [d2, k20]; exact (ni_in (by omega)).mpr (by omega)
        · rw [d2, k20]; exact hQ
      · obtain ⟨f1, f2, f3⟩ := e_valM (by omega) e1 e2 l5
        refine ⟨m_aU (m_lU M1 1 (nI k) (lN (pkv 256 (fun i => u (p + i)) (q - p)))) 14 (nI k) l5, fun Q hQ => ?_, d2, d3, d4, d5, e3, fun r => absurd r h, fun _ => f3, f1, f2, d8.trans t6⟩
        unfold j_X11_name_144
        rw [hs]
        refine d1 _ ⟨?_, fun r => absurd r h, fun _ => ?_⟩
        · rw [d2, k20]; exact (ni_in (by omega)).mpr (by omega)
        · rw [d2, k20]; exact hQ
    have hx : c_a C 0 p = nI (u p) := by
      have := hl.2
      rcases t9 p hp with t | t
      · exact t.2
      · omega
    have hl1 := hl.1
    have hl2 := hl.2
    by_cases hA : ∃ a, a < 26 ∧ mtw u p q a
    · obtain ⟨a, ⟨a1, a2⟩, a3⟩ := pk_least _ hA
      have a4 : ∀ i, i < a → ¬ mtw u p q i := fun i hi h => a3 i hi ⟨by omega, h⟩
      have un : ∀ b, b < 26 → mtw u p q b → (∀ i, i < b → ¬ mtw u p q i) → b = a := by
        intro b hb h1 h2
        by_cases e : b < a
        · exact absurd h1 (a4 b e)
        · by_cases e2 : a < b
          · exact absurd a2 (h2 a e2)
          · omega
      obtain ⟨C1, c1, c2, c3, c4, c5, c6, c7, c8⟩ := e_addC t1 (by omega) 2 (nI p) (nI a) 0
      obtain ⟨M1, d1, d2, d3, d4, d5, d6, d7, d8, d9, d10, d11⟩ := fin 1 (nI a)
      have ha26 : ¬ (26 : Int32) ≤ nI a := by rw [ni_lle (by omega) (by decide)]; omega
      refine ⟨q, k + 1, C1, M1, hpq, q2, fun Q hQ => wC Q ?_, fun Q hQ => wM Q ?_, T.up hpq c2 d2 c7 d9 c8 d10 d11 ⟨by rw [c4, d4], Or.inr (Or.inr (Or.inl ⟨c3, d3, a, a1, c5, d8 ha26⟩))⟩, c8, d10⟩
      · refine e_actN t9 t4 q1 q2 q3 (fun b hb h1 h2 => ?_) (fun h => absurd a2 (h a a1)) 26 0 rfl (fun j hj => by omega)
        rw [un b hb h1 h2]
        refine ⟨fun r => absurd r ?_, fun _ => c1 _ hQ⟩
        have := neg_lt (x := -1) (by decide) a (by omega)
        intro e
        rw [e] at this
        exact absurd this (Int32.lt_irrefl)
      · refine e_actM t11 (by omega) q1 hL q3 (fun b hb h1 h2 => ?_) (fun h => absurd a2 (h a a1)) 26 0 rfl (fun j hj => by omega)
        rw [un b hb h1 h2]
        exact ⟨fun r => absurd r ha26, fun _ => d1 _ hQ⟩
    · have no : ∀ a, a < 26 → ¬ mtw u p q a := fun a h1 h2 => hA ⟨a, h1, h2⟩
      by_cases hh : q - p = 1 ∧ u p ≤ 104
      · obtain ⟨C1, c1, c2, c3, c4, c5, c6, c7, c8⟩ := e_addC t1 (by omega) 1 (nI p) (nI (u p - 97)) 0
        obtain ⟨M1, d1, d2, d3, d4, d5, d6, d7, d8, d9, d10, d11⟩ := fin 2 (nI 26)
        have hv1 : pkv 256 (fun i => u (p + i)) (q - p) = u p := by
          rw [hh.1]
          show 0 * 256 + u (p + 0) = _
          rw [Nat.zero_mul, Nat.zero_add, Nat.add_zero]
        have dv : m_a M1 14 k = nI (u p - 97) := by
          rw [d7 (by decide), hv1, lN_i, ni_sl (n := 97) hl1]
        refine ⟨q, k + 1, C1, M1, hpq, q2, fun Q hQ => wC Q ?_, fun Q hQ => wM Q ?_, T.up hpq c2 d2 c7 d9 c8 d10 d11 ⟨by rw [c4, d4], Or.inr (Or.inl ⟨c3, d3, by rw [c5, dv], u p - 97, by omega, dv⟩)⟩, c8, d10⟩
        · refine e_actN t9 t4 q1 q2 q3 (fun b hb h1 h2 => absurd h1 (no b hb)) (fun h => ⟨fun _ => ⟨fun r => absurd ?_ r, fun _ => ⟨(ni_in (by omega)).mpr (by omega), ?_⟩⟩, fun r => absurd rfl r⟩) 26 0 rfl (fun j hj => by omega)
          · rw [hs, hh.1]; rfl
          · rw [ni_cl (by omega), hx, ni_sl (n := 97) hl1]
            refine ⟨fun r => absurd r (nI_pos (by show u p - 97 < _; omega)), fun _ => ⟨fun r => absurd r ?_, fun _ => ⟨fun r => absurd r (by decide), fun _ => by rw [hx, ni_sl (n := 97) hl1]; exact c1 _ hQ⟩⟩⟩
            show ¬ (8 : Int32) ≤ nI (u p - 97)
            rw [ni_lle (by omega) (by decide)]; omega
        · refine e_actM t11 (by omega) q1 hL q3 (fun b hb h1 h2 => absurd h1 (no b hb)) (fun h => ⟨fun _ => ⟨fun r => absurd ?_ r, fun _ => ⟨fun r => absurd r ?_, fun _ => d1 _ hQ⟩⟩, fun r => absurd (by decide) r⟩) 26 0 rfl (fun j hj => by omega)
          · rw [hs, hh.1]; rfl
          · rw [lg_cmp_gt, hv1]
            intro r
            have : 104 < u p := (pk_lLT (a := 104) (by decide) (by omega)).mp r
            omega
      · obtain ⟨C1, c1, c2, c3, c4, c5, c6, c7, c8⟩ := e_addC t1 (by omega) 3 (nI p) 0 (lN (pkv 37 (fun i => cd (u (p + i))) (q - p)))
        obtain ⟨M1, d1, d2, d3, d4, d5, d6, d7, d8, d9, d10, d11⟩ := fin 3 (nI 26)
        refine ⟨q, k + 1, C1, M1, hpq, q2, fun Q hQ => wC Q ?_, fun Q hQ => wM Q ?_, T.up hpq c2 d2 c7 d9 c8 d10 d11 ⟨by rw [c4, d4], Or.inr (Or.inr (Or.inr (Or.inl ⟨c3, d3, by rw [c6, d6, d5]; exact nm⟩)))⟩, c8, d10⟩
        · refine e_actN t9 t4 q1 q2 q3 (fun b hb h1 h2 => absurd h1 (no b hb)) (fun h => ⟨fun _ => ⟨fun r => c1 _ hQ, fun r => ⟨(ni_in (by omega)).mpr (by omega), ?_⟩⟩, fun r => absurd rfl r⟩) 26 0 rfl (fun j hj => by omega)
          rw [hs, ni_eql (by omega) (by decide)] at r
          rw [ni_cl (by omega), hx, ni_sl (n := 97) hl1]
          refine ⟨fun r => absurd r (nI_pos (by show u p - 97 < _; omega)), fun _ => ⟨fun r => ⟨fun _ => c1 _ hQ, fun r => absurd rfl r⟩, fun r2 => ?_⟩⟩
          exfalso
          have r2 : ¬ (8 : Int32) ≤ nI (u p - 97) := r2
          rw [ni_lle (by omega) (by decide)] at r2
          exact hh ⟨r, by omega⟩
        · refine e_actM t11 (by omega) q1 hL q3 (fun b hb h1 h2 => absurd h1 (no b hb)) (fun h => ⟨fun _ => ⟨fun r => d1 _ hQ, fun r => ⟨fun _ => d1 _ hQ, fun r2 => ?_⟩⟩, fun r => absurd (by decide) r⟩) 26 0 rfl (fun j hj => by omega)
          exfalso
          rw [hs, ni_eql (by omega) (by decide)] at r
          have r : q - p = 1 := r
          have hv1 : pkv 256 (fun i => u (p + i)) (q - p) = u p := by
            rw [r]
            show 0 * 256 + u (p + 0) = _
            rw [Nat.zero_mul, Nat.zero_add, Nat.add_zero]
          rw [lg_cmp_gt, hv1] at r2
          refine r2 ((pk_lLT (a := 104) (by decide) (by omega)).mpr ?_)
          by_cases h9 : u p ≤ 104
          · exact absurd ⟨r, h9⟩ hh
          · omega
  · right
    have h8 : ¬ (nI q - nI p) ≤ 8 := by rw [hs, ni_lel (by omega) (by decide)]; exact hL
    refine ⟨q, m_iS (m_iS M 22 1) 23 (nI p), fun Q hQ => ?_, fun Q hQ => ?_, rfl, rfl, (cfM.rf M).f, rfl⟩
    · exact e_nmC t9 t4 q2 q3 q4 ⟨fun r => absurd r h8, fun _ => hQ⟩ (q - p) 0 (by omega)
    · exact e_nmM t10 t8 t4 q2 q3 q4 ⟨fun r => absurd r h8, fun _ => e_fails t6 1 (nI p) _ hQ⟩ (q - p) 0 (by omega)
end ZC9
