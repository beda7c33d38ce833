/-! TEXT: bytes and numbers are written -/
section ZX2
abbrev tS : Type := Nat × (Nat → Int32)
def tadd (c : Int32) (T : tS) : tS := if T.1 = 600 then T else (T.1 + 1, upd T.2 T.1 c)
def txC (C : cS) (T : tS) : Prop := T.1 ≤ 600 ∧ c_i C 23 = nI T.1 ∧ ∀ j, j < T.1 → c_a C 19 j = T.2 j
def txM (M : mS) (T : tS) : Prop := T.1 ≤ 600 ∧ m_i M 35 = nI T.1 ∧ ∀ j, j < T.1 → m_a M 29 j = T.2 j
/-- what walk and text leave -/
def wfC (C C1 : cS) : Prop := c_sz C1 = c_sz C ∧ c_cur C1 = c_cur C ∧ c_spa C1 = c_spa C ∧ c_rp C1 = c_rp C ∧ (∀ k, k ≠ 22 → k ≠ 23 → c_i C1 k = c_i C k) ∧ (∀ k, (k < 17 ∨ 19 < k) → c_a C1 k = c_a C k) ∧ (∀ k, c_l C1 k = c_l C k) ∧ (∀ d, c_pn C1 d = c_pn C d) ∧ (∀ k d, c_pa C1 k d = c_pa C k d) ∧ (∀ d, c_pl C1 d = c_pl C d)
def wfM (M M1 : mS) : Prop := (∀ k, k ≠ 34 → k ≠ 35 → m_i M1 k = m_i M k) ∧ (∀ k, (k < 27 ∨ 29 < k) → m_a M1 k = m_a M k) ∧ (∀ k, m_l M1 k = m_l M k)
def wkC (C C1 : cS) : Prop := c_i C1 22 = c_i C 22 ∧ c_a C1 17 = c_a C 17 ∧ c_a C1 18 = c_a C 18
def wkM (M M1 : mS) : Prop := m_i M1 34 = m_i M 34 ∧ m_a M1 27 = m_a M 27 ∧ m_a M1 28 = m_a M 28
theorem wfC.rf (C : cS) : wfC C C := ⟨rfl, rfl, rfl, rfl, fun _ _ _ => rfl, fun _ _ => rfl, fun _ => rfl, fun _ => rfl, fun _ _ => rfl, fun _ => rfl⟩
theorem wfM.rf (M : mS) : wfM M M := ⟨fun _ _ _ => rfl, fun _ _ => rfl, fun _ => rfl⟩
theorem wfC.tr {C D E : cS} (h : wfC C D) (g : wfC D E) : wfC C E := by
  obtain ⟨h1, h2, h3, h4, h5, h6, h7, h8, h9, h10⟩ := h
  obtain ⟨g1, g2, g3, g4, g5, g6, g7, g8, g9, g10⟩ := g
  exact ⟨g1.trans h1, g2.trans h2, g3.trans h3, g4.trans h4, fun k q r => (g5 k q r).trans (h5 k q r), fun k q => (g6 k q).trans (h6 k q), fun k => (g7 k).trans (h7 k), fun k => (g8 k).trans (h8 k), fun k d => (g9 k d).trans (h9 k d), fun k => (g10 k).trans (h10 k)⟩
theorem wfM.tr {C D E : mS} (h : wfM C D) (g : wfM D E) : wfM C E := by
  obtain ⟨h1, h2, h3⟩ := h
  obtain ⟨g1, g2, g3⟩ := g
  exact ⟨fun k q r => (g1 k q r).trans (h1 k q r), fun k q => (g2 k q).trans (h2 k q), fun k => (g3 k).trans (h3 k)⟩
theorem wfC.i {C D : cS} {k : Nat} {v : Int32} (h : wfC C D) (hk : k = 22 ∨ k = 23) : wfC C (c_iS D k v) :=
  h.tr ⟨rfl, rfl, rfl, rfl, fun j q r => by rw [cs_i_iS, if_neg (by omega)], fun _ _ => rfl, fun _ => rfl, fun _ => rfl, fun _ _ => rfl, fun _ => rfl⟩
theorem wfC.u {C D : cS} {k : Nat} {x y : Int32} (h : wfC C D) (hk : 17 ≤ k ∧ k ≤ 19) : wfC C (c_aU D k x y) :=
  h.tr ⟨rfl, rfl, rfl, rfl, fun _ _ _ => rfl, fun j q => by rw [cs_a_aU, if_neg (by omega)], fun _ => rfl, fun _ => rfl, fun _ _ => rfl, fun _ => rfl⟩
theorem wfM.i {C D : mS} {k : Nat} {v : Int32} (h : wfM C D) (hk : k = 34 ∨ k = 35) : wfM C (m_iS D k v) :=
  h.tr ⟨fun j q r => by rw [ms_i_iS, if_neg (by omega)], fun _ _ => rfl, fun _ => rfl⟩
theorem wfM.u {C D : mS} {k : Nat} {x y : Int32} (h : wfM C D) (hk : 27 ≤ k ∧ k ≤ 29) : wfM C (m_aU D k x y) :=
  h.tr ⟨fun _ _ _ => rfl, fun j q => by rw [ms_a_aU, if_neg (by omega)], fun _ => rfl⟩
theorem wkC.rf (C : cS) : wkC C C := ⟨rfl, rfl, rfl⟩
theorem wkM.rf (C : mS) : wkM C C := ⟨rfl, rfl, rfl⟩
theorem wkC.tr {C D E : cS} (h : wkC C D) (g : wkC D E) : wkC C E := ⟨g.1.trans h.1, g.2.1.trans h.2.1, g.2.2.trans h.2.2⟩
theorem wkM.tr {C D E : mS} (h : wkM C D) (g : wkM D E) : wkM C E := ⟨g.1.trans h.1, g.2.1.trans h.2.1, g.2.2.trans h.2.2⟩
/-- the class, the reference: from C to C1 the text has gone on from T to U -/
def tC (C C1 : cS) (U : tS) : Prop := txC C1 U ∧ wfC C C1 ∧ wkC C C1
def tM (M M1 : mS) (U : tS) : Prop := txM M1 U ∧ wfM M M1 ∧ wkM M M1
theorem tC.tr {C D E : cS} {U V : tS} (h : tC C D U) (g : tC D E V) : tC C E V := ⟨g.1, h.2.1.tr g.2.1, h.2.2.tr g.2.2⟩
theorem tM.tr {C D E : mS} {U V : tS} (h : tM C D U) (g : tM D E V) : tM C E V := ⟨g.1, h.2.1.tr g.2.1, h.2.2.tr g.2.2⟩
variable {C : cS} {M : mS} {T : tS} {n k ch : Nat}
theorem nar_ch : ∀ n, n < 128 → vp_nar .byte ((nI n).toInt8.toInt32) = nI n := by decide +kernel
theorem tadd_at {c : Int32} {f : Nat → Int32} (hT : T.1 ≤ 600) (h : ∀ j, j < T.1 → f j = T.2 j) (hn : T.1 ≠ 600) : ∀ j, j < (tadd c T).1 → upd f T.1 c j = (tadd c T).2 j := by
  unfold tadd
  rw [if_neg hn]
  intro j hj
  rw [up_at]
  show _ = upd T.2 T.1 c j
  rw [up_at]
  by_cases e : j = T.1
  · rw [if_pos e, if_pos e]
  · rw [if_neg e, if_neg e]
    have hj : j < T.1 + 1 := hj
    exact h j (by omega)
theorem e_add (h : txC C T) (hc : ch < 128) : ∃ C1, (∀ Q, Q C1 → p_X7_add (nI ch) C Q) ∧ tC C C1 (tadd (nI ch) T) := by
  obtain ⟨h1, h2, h3⟩ := h
  by_cases e : T.1 = 600
  · refine ⟨C, fun Q hQ => ⟨fun _ => hQ, fun q => absurd ?_ q⟩, ?_, wfC.rf C, wkC.rf C⟩
    · rw [h2, ni_lle (by omega) (by decide)]; omega
    · unfold tadd; rw [if_pos e]; exact ⟨h1, h2, h3⟩
  · refine ⟨c_iS (c_aU C 19 (nI T.1) (nI ch)) 23 (nI (T.1 + 1)), fun Q hQ => ⟨fun q => ?_, fun _ => ⟨?_, ?_⟩⟩, ⟨?_, ?_, ?_⟩, ((wfC.rf C).u (by decide)).i (by decide), wkC.rf C⟩
    · rw [h2, ni_lle (by omega) (by decide)] at q; omega
    · rw [h2]; exact (ni_in (by omega)).mpr (by omega)
    · rw [h2, nar_ch ch hc, nI_1]; exact hQ
    · unfold tadd; rw [if_neg e]; show T.1 + 1 ≤ 600; omega
    · unfold tadd; rw [if_neg e]; rfl
    · intro j hj
      show upd (c_a C 19) (nI T.1).toNatClampNeg (nI ch) j = _
      rw [ni_cl (by omega)]
      exact tadd_at h1 h3 e j hj
theorem e_put (h : txM M T) : ∃ M1, (∀ Q, Q M1 → p_X11_put (nI ch) M Q) ∧ tM M M1 (tadd (nI ch) T) := by
  obtain ⟨h1, h2, h3⟩ := h
  by_cases e : T.1 = 600
  · refine ⟨M, fun Q hQ => ⟨fun q => absurd ?_ q, fun _ => hQ⟩, ?_, wfM.rf M, wkM.rf M⟩
    · rw [h2, e]; rfl
    · unfold tadd; rw [if_pos e]; exact ⟨h1, h2, h3⟩
  · refine ⟨m_iS (m_aU M 29 (nI T.1) (nI ch)) 35 (nI (T.1 + 1)), fun Q hQ => ⟨fun _ => ⟨?_, ?_⟩, fun q => ?_⟩, ⟨?_, ?_, ?_⟩, ((wfM.rf M).u (by decide)).i (by decide), wkM.rf M⟩
    · rw [h2]; exact (ni_in (by omega)).mpr (by omega)
    · rw [h2, nI_1]; exact hQ
    · rw [h2, ni_eql (by omega) (by decide)] at q; omega
    · unfold tadd; rw [if_neg e]; show T.1 + 1 ≤ 600; omega
    · unfold tadd; rw [if_neg e]; rfl
    · intro j hj
      show upd (m_a M 29) (nI T.1).toNatClampNeg (nI ch) j = _
      rw [ni_cl (by omega)]
      exact tadd_at h1 h3 e j hj
/-- a number's digits, from the one at 10 to the k on -/
def tdown (n : Nat) : Nat → tS → tS
  | 0, T => tadd (nI (48 + n / 10 ^ 0 % 10)) T
  | k + 1, T => tdown n k (tadd (nI (48 + n / 10 ^ (k + 1) % 10)) T)
def topA (n : Nat) : Nat → Nat
  | 0 => 0
  | k + 1 => if 10 ^ (k + 1) ≤ n then k + 1 else topA n k
theorem p10 {k : Nat} (h : k ≤ 10) : 10 ^ k ≤ 10000000000 := Nat.pow_le_pow_right (by decide) h
theorem p10_pos (k : Nat) : 0 < 10 ^ k := Nat.pow_pos (by decide)
theorem p10_div (k : Nat) : 10 ^ (k + 1) / 10 = 10 ^ k := by rw [Nat.pow_succ]; exact Nat.mul_div_cancel _ (by decide)
theorem dig_i (hn : n < 2 ^ 62) (hk : k ≤ 10) : ((48 + ((lN n / lN (10 ^ k)) - (lN n / lN (10 ^ k)) / 10 * 10) : Int64).toInt32) = nI (48 + n / 10 ^ k % 10) := by
  have h9 := p10 hk
  have h0 := p10_pos k
  have hd : n / 10 ^ k < 2 ^ 63 := Nat.lt_of_le_of_lt (Nat.div_le_self _ _) (by omega)
  rw [pk_lDiv (by omega) h0 (by omega)]
  have e := pk_lRem (a := n / 10 ^ k) (b := 10) hd (by decide) (by decide)
  have e2 : (lN (n / 10 ^ k) - lN (n / 10 ^ k) / 10 * 10 : Int64) = lN (n / 10 ^ k % 10) := e
  rw [e2]
  have e3 : (48 : Int64) + lN (n / 10 ^ k % 10) = lN (48 + n / 10 ^ k % 10) := lN_add 48 _
  rw [e3, lN_i]
theorem ln0 (k : Nat) (hk : k ≤ 10) : ¬ lN (10 ^ k) = 0 := by
  have h9 := p10 hk
  have h0 := p10_pos k
  intro q
  have : 10 ^ k = 0 := (pk_lEQ (a := 10 ^ k) (b := 0) (by omega) (by decide)).mp q
  omega
theorem lncmp0 (k : Nat) (hk : k ≤ 10) : ¬ lg_cmp (lN (10 ^ k)) 0 ≤ 0 := by
  have h9 := p10 hk
  have h0 := p10_pos k
  rw [lg_cmp_le]
  intro q
  have : 10 ^ k ≤ 0 := (pk_lLE (a := 10 ^ k) (b := 0) (by omega) (by decide)).mp q
  omega
theorem lndiv (k : Nat) (hk : k < 10) : lN (10 ^ (k + 1)) / 10 = lN (10 ^ k) := by
  have h9 := p10 (k := k + 1) (by omega)
  have e := pk_lDiv (a := 10 ^ (k + 1)) (b := 10) (by omega) (by decide) (by decide)
  rw [p10_div] at e
  exact e
theorem lndiv0 : lN (10 ^ 0) / 10 = 0 := by decide +kernel
theorem dch (n k : Nat) : 48 + n / 10 ^ k % 10 < 128 := by have := Nat.mod_lt (n / 10 ^ k) (y := 10) (by decide); omega
/-- the class prints from 10 to the k on -/
theorem e_downC (hn : n < 2 ^ 62) : ∀ (k : Nat) {C : cS} {T : tS}, k ≤ 9 → (10 ^ k ≤ n ∨ k = 0) → txC C T → ∃ C1, (∃ m, ∀ Q K, K C1 → w_X7_addNumber_23 Q K m (lN n) (lN (10 ^ k)) C) ∧ tC C C1 (tdown n k T) := by
  intro k
  induction k with
  | zero =>
    intro C T hk hge h
    obtain ⟨C1, a1, a2⟩ := e_add h (dch n 0)
    refine ⟨C1, ⟨2, fun Q K hK => ⟨fun q => absurd q (lncmp0 0 (by omega)), fun _ => ?_⟩⟩, a2⟩
    have pr : j_X7_addNumber_44 Q (w_X7_addNumber_23 Q K 1) K (lN n) (lN (10 ^ 0)) C := by
      refine ⟨ln0 0 (by omega), ?_⟩
      rw [dig_i hn (by omega)]
      refine a1 _ fun w hw => ?_
      rw [lndiv0] at hw
      subst hw
      exact ⟨fun _ => hK, fun q => absurd (by decide) q⟩
    exact ⟨fun _ => pr, fun _ => ⟨fun q => absurd (by decide +kernel) q, fun _ => pr⟩⟩
  | succ k ih =>
    intro C T hk hge h
    obtain ⟨C1, a1, a2⟩ := e_add h (dch n (k + 1))
    have hge : 10 ^ (k + 1) ≤ n := by omega
    have hpw : 10 ^ k ≤ 10 ^ (k + 1) := Nat.pow_le_pow_right (by decide) (by omega)
    obtain ⟨C2, ⟨m, b1⟩, b2⟩ := ih (by omega) (Or.inl (by omega)) a2.1
    refine ⟨C2, ⟨m + 1, fun Q K hK => ⟨fun q => absurd q (lncmp0 (k + 1) (by omega)), fun _ => ⟨fun _ => ⟨ln0 (k + 1) (by omega), ?_⟩, fun q => absurd ?_ q⟩⟩⟩, a2.tr b2⟩
    · rw [dig_i hn (by omega)]
      refine a1 _ fun w hw => ?_
      rw [lndiv k (by omega)] at hw
      subst hw
      exact b1 Q K hK
    · have h9 := p10 (k := k + 1) (by omega)
      rw [lg_cmp_ge, pk_lLE (by omega) (by omega)]
      exact hge
theorem e_digC (hn : n < 2 ^ 62) : ∀ (k : Nat) {C : cS} {T : tS}, k ≤ 9 → txC C T → ∃ C1, (∃ m, ∀ Q K, K C1 → w_X7_addNumber_23 Q K m (lN n) (lN (10 ^ k)) C) ∧ tC C C1 (tdown n (topA n k) T) := by
  intro k
  induction k with
  | zero => intro C T hk h; exact e_downC hn 0 hk (Or.inr rfl) h
  | succ k ih =>
    intro C T hk h
    by_cases e : 10 ^ (k + 1) ≤ n
    · have : topA n (k + 1) = k + 1 := by show (if _ then _ else _) = _; rw [if_pos e]
      rw [this]
      exact e_downC hn (k + 1) hk (Or.inl e) h
    · have : topA n (k + 1) = topA n k := by show (if _ then _ else _) = _; rw [if_neg e]
      rw [this]
      obtain ⟨C1, ⟨m, b1⟩, b2⟩ := ih (by omega) h
      have h9 := p10 (k := k + 1) (by omega)
      refine ⟨C1, ⟨m + 1, fun Q K hK => ⟨fun q => absurd q (lncmp0 (k + 1) (by omega)), fun _ => ⟨fun q => ?_, fun _ => ⟨fun _ w hw => ?_, fun q => ?_⟩⟩⟩⟩, b2⟩
      · rw [lg_cmp_ge, pk_lLE (by omega) (by omega)] at q
        exact absurd q e
      · rw [lndiv k (by omega)] at hw
        subst hw
        exact b1 Q K hK
      · rw [lg_cmp_eq] at q
        have := (pk_lEQ (a := 10 ^ (k + 1)) (b := 1) (by omega) (by decide)).mp q
        have h2 : 10 ^ 1 ≤ 10 ^ (k + 1) := Nat.pow_le_pow_right (by decide) (by omega)
        omega
/-- the reference prints from 10 to the k on -/
theorem e_downM (hn : n < 2 ^ 62) : ∀ (k : Nat) {M : mS} {T : tS}, k ≤ 9 → txM M T → ∃ M1, (∃ m, ∀ Q K, K M1 → w_X11_putNumber_43 Q K m (lN n) (lN (10 ^ k)) M) ∧ tM M M1 (tdown n k T) := by
  intro k
  induction k with
  | zero =>
    intro M T hk h
    obtain ⟨M1, a1, a2⟩ := e_put (ch := 48 + n / 10 ^ 0 % 10) h
    refine ⟨M1, ⟨2, fun Q K hK => ⟨fun q => absurd q (lncmp0 0 (by omega)), fun _ => ⟨ln0 0 (by omega), ?_⟩⟩⟩, a2⟩
    rw [dig_i hn (by omega)]
    refine a1 _ fun w hw => ?_
    rw [lndiv0] at hw
    subst hw
    exact ⟨fun _ => hK, fun q => absurd (by decide) q⟩
  | succ k ih =>
    intro M T hk h
    obtain ⟨M1, a1, a2⟩ := e_put (ch := 48 + n / 10 ^ (k + 1) % 10) h
    obtain ⟨M2, ⟨m, b1⟩, b2⟩ := ih (by omega) a2.1
    refine ⟨M2, ⟨m + 1, fun Q K hK => ⟨fun q => absurd q (lncmp0 (k + 1) (by omega)), fun _ => ⟨ln0 (k + 1) (by omega), ?_⟩⟩⟩, a2.tr b2⟩
    rw [dig_i hn (by omega)]
    refine a1 _ fun w hw => ?_
    rw [lndiv k (by omega)] at hw
    subst hw
    exact b1 Q K hK
theorem topA_le (n k : Nat) : topA n k ≤ k := by
  induction k with
  | zero => exact Nat.le_refl _
  | succ k ih =>
    show (if 10 ^ (k + 1) ≤ n then k + 1 else topA n k) ≤ k + 1
    split
    · exact Nat.le_refl _
    · exact Nat.le_succ_of_le ih
theorem topA_ge (n k : Nat) : topA n k = 0 ∨ 10 ^ topA n k ≤ n := by
  induction k with
  | zero => exact Or.inl rfl
  | succ k ih =>
    show (if _ then _ else _) = 0 ∨ 10 ^ (if _ then _ else _) ≤ n
    split
    · right; assumption
    · exact ih
theorem topA_lt (n : Nat) : ∀ k, n < 10 ^ (k + 1) → n < 10 ^ (topA n k + 1) := by
  intro k
  induction k with
  | zero => intro h; exact h
  | succ k ih =>
    intro h
    show n < 10 ^ ((if _ then _ else _) + 1)
    split
    · exact h
    · exact ih (by omega)
theorem e_topM (hn : n < 10 ^ 10) : ∀ (d j : Nat), j + d = topA n 9 → ∃ m, ∀ Q K, K (lN n) (lN (10 ^ topA n 9)) M → w_X11_putNumber_21 Q K m (lN n) (lN (10 ^ j)) M := by
  have h9 := topA_le n 9
  have hge := topA_ge n 9
  have hlt := topA_lt n 9 hn
  intro d
  induction d with
  | zero =>
    intro j hj
    have e : j = topA n 9 := by omega
    rw [e]
    have q9 := p10 (k := topA n 9) (by omega)
    refine ⟨1, fun Q K hK => ⟨ln0 _ (by omega), fun _ => hK, fun q => absurd ?_ q⟩⟩
    rw [pk_lDiv (by omega) (p10_pos _) (by omega), lg_cmp_le]
    have : n / 10 ^ topA n 9 < 10 := by
      rw [Nat.div_lt_iff_lt_mul (p10_pos _), Nat.mul_comm, ← Nat.pow_succ]
      exact hlt
    exact (pk_lLE (b := 9) (by omega) (by decide)).mpr (by omega)
  | succ d ih =>
    intro j hj
    obtain ⟨m, hm⟩ := ih (j + 1) (by omega)
    have q9 := p10 (k := j) (by omega)
    have hdl := Nat.div_le_self n (10 ^ j)
    refine ⟨m + 1, fun Q K hK => ⟨ln0 _ (by omega), fun q => ?_, fun _ w hw => ?_⟩⟩
    · exfalso
      rw [pk_lDiv (by omega) (p10_pos _) (by omega), lg_cmp_le] at q
      have q := (pk_lLE (b := 9) (by omega) (by decide)).mp q
      have h1 : 10 ^ (j + 1) ≤ 10 ^ topA n 9 := Nat.pow_le_pow_right (by decide) (by omega)
      have h2 : 10 ^ topA n 9 ≤ n := by omega
      have h3 : n / 10 ^ j < 10 := by omega
      rw [Nat.div_lt_iff_lt_mul (p10_pos _), Nat.mul_comm, ← Nat.pow_succ] at h3
      omega
    · have e : lN (10 ^ j) * 10 = lN (10 ^ (j + 1)) := by rw [Nat.pow_succ]; exact lN_mul _ 10
      rw [e] at hw
      subst hw
      exact hm Q K hK
/-- a number is written -/
def tnum (v : Int32) (T : tS) : tS := if v < 0 then tdown v.toInt.natAbs (topA v.toInt.natAbs 9) (tadd (nI 45) T) else tdown v.toInt.natAbs (topA v.toInt.natAbs 9) T
theorem i64_neg {v : Int32} (h : v < 0) : ¬ 0 ≤ lg_cmp v.toInt64 0 ∧ -v.toInt64 = lN v.toInt.natAbs := by
  have h0 : v.toInt < 0 := by rw [Int32.lt_iff_toInt_lt] at h; exact h
  have hb := Int32.le_toInt v
  refine ⟨?_, ?_⟩
  · rw [lg_cmp_ge, Int64.le_iff_toInt_le, Int32.toInt_toInt64]
    show ¬ (0 : Int) ≤ _
    omega
  · apply Int64.toInt_inj.mp
    rw [pk_lT (by omega), Int64.toInt_neg, Int32.toInt_toInt64]
    rw [Int.bmod_eq_of_le (by omega) (by omega)]
    omega
theorem i64_pos {v : Int32} (h : ¬ v < 0) : 0 ≤ lg_cmp v.toInt64 0 ∧ v.toInt64 = lN v.toInt.natAbs := by
  have h0 : 0 ≤ v.toInt := by rw [Int32.lt_iff_toInt_lt] at h; have : ¬ v.toInt < 0 := h; omega
  have hb := Int32.toInt_lt v
  refine ⟨?_, ?_⟩
  · rw [lg_cmp_ge, Int64.le_iff_toInt_le, Int32.toInt_toInt64]
    exact h0
  · apply Int64.toInt_inj.mp
    rw [pk_lT (by omega), Int32.toInt_toInt64]
    omega
theorem e_addNum {v : Int32} (h : txC C T) : ∃ C1, (∀ Q, Q C1 → p_X7_addNumber v C Q) ∧ tC C C1 (tnum v T) := by
  have hb := Int32.toInt_lt v
  have hb2 := Int32.le_toInt v
  have hn : v.toInt.natAbs < 2 ^ 62 := by omega
  have e9 : (1000000000 : Int64) = lN (10 ^ 9) := rfl
  by_cases hv : v < 0
  · obtain ⟨c1, c2⟩ := i64_neg hv
    obtain ⟨C1, a1, a2⟩ := e_add (ch := 45) h (by decide)
    obtain ⟨C2, ⟨m, b1⟩, b2⟩ := e_digC hn 9 (by omega) a2.1
    refine ⟨C2, fun Q hQ w hw => ?_, ?_⟩
    · subst hw
      refine ⟨fun q => absurd q c1, fun _ => a1 _ fun w hw => ?_⟩
      rw [c2] at hw
      subst hw
      exact ⟨m, b1 Q _ hQ⟩
    · unfold tnum; rw [if_pos hv]; exact a2.tr b2
  · obtain ⟨c1, c2⟩ := i64_pos hv
    obtain ⟨C2, ⟨m, b1⟩, b2⟩ := e_digC hn 9 (by omega) h
    refine ⟨C2, fun Q hQ w hw => ?_, ?_⟩
    · subst hw
      refine ⟨fun _ => ⟨m, ?_⟩, fun q => absurd c1 q⟩
      rw [c2]
      exact b1 Q _ hQ
    · unfold tnum; rw [if_neg hv]; exact b2
theorem e_putNum {v : Int32} (h : txM M T) : ∃ M1, (∀ Q, Q M1 → p_X11_putNumber v M Q) ∧ tM M M1 (tnum v T) := by
  have hb := Int32.toInt_lt v
  have hb2 := Int32.le_toInt v
  have hn : v.toInt.natAbs < 2 ^ 62 := by omega
  have hn2 : v.toInt.natAbs < 10 ^ 10 := by omega
  have h9 := topA_le v.toInt.natAbs 9
  by_cases hv : v < 0
  · obtain ⟨c1, c2⟩ := i64_neg hv
    obtain ⟨M1, a1, a2⟩ := e_put (ch := 45) h
    obtain ⟨M2, ⟨m, b1⟩, b2⟩ := e_downM hn (topA v.toInt.natAbs 9) (by omega) a2.1
    obtain ⟨m2, d1⟩ := e_topM (M := M1) hn2 _ 0 (Nat.zero_add _)
    refine ⟨M2, fun Q hQ w hw => ?_, ?_⟩
    · subst hw
      refine ⟨fun q => absurd q c1, fun _ => a1 _ fun w hw => ?_⟩
      rw [c2] at hw
      subst hw
      exact ⟨m2, d1 Q _ ⟨m, b1 Q _ hQ⟩⟩
    · unfold tnum; rw [if_pos hv]; exact a2.tr b2
  · obtain ⟨c1, c2⟩ := i64_pos hv
    obtain ⟨M2, ⟨m, b1⟩, b2⟩ := e_downM hn (topA v.toInt.natAbs 9) (by omega) h
    obtain ⟨m2, d1⟩ := e_topM (M := M) hn2 _ 0 (Nat.zero_add _)
    refine ⟨M2, fun Q hQ w hw => ?_, ?_⟩
    · subst hw
      refine ⟨fun _ => ⟨m2, ?_⟩, fun q => absurd c1 q⟩
      rw [c2]
      exact d1 Q _ ⟨m, b1 Q _ hQ⟩
    · unfold tnum; rw [if_neg hv]; exact b2
end ZX2
