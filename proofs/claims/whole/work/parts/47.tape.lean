/-! THE TAPE: bytes with a sign and bytes without -/
section ZT7
def tpC (f : Nat → Int32) (n : Nat) (u : Nat → Nat) : Prop := ∀ j, j < n → (u j < 128 ∧ f j = nI (u j)) ∨ (128 ≤ u j ∧ f j < 0)
def tpM (g : Nat → Int32) (n : Nat) (u : Nat → Nat) : Prop := ∀ j, j < n → u j < 256 ∧ g j = nI (u j)
def RelT (C : cS) (M : mS) : Prop := ∃ n u, n ≤ 2000 ∧ c_i C 0 = nI n ∧ m_i M 19 = nI n ∧ tpC (c_a C 0) n u ∧ tpM (m_a M 9) n u
theorem by_of (w : Int32) : (w.toBitVec.toNat % 2 ^ 8 < 128 ∧ vp_nar .byte (w.toInt8.toInt32) = nI (w.toBitVec.toNat % 2 ^ 8)) ∨ (128 ≤ w.toBitVec.toNat % 2 ^ 8 ∧ vp_nar .byte (w.toInt8.toInt32) < 0) := by
  rw [pk_vb]
  have e : (w.toInt8.toInt32).toInt = w.toInt.bmod (2 ^ 8) := by rw [Int8.toInt_toInt32, Int32.toInt_toInt8]
  have e2 : w.toInt = w.toBitVec.toInt := rfl
  have e3 := BitVec.toInt_eq_toNat_cond w.toBitVec
  have b := w.toBitVec.isLt
  rw [e2, Int.bmod_def] at e
  have e4 : w.toBitVec.toInt % ((2 ^ 8 : Nat) : Int) = ((w.toBitVec.toNat % 2 ^ 8 : Nat) : Int) := by
    rw [e3]
    by_cases q : 2 * w.toBitVec.toNat < 2 ^ 32
    · rw [if_pos q]; omega
    · rw [if_neg q]; omega
  rw [e4] at e
  by_cases h : w.toBitVec.toNat % 2 ^ 8 < 128
  · left
    refine ⟨h, Int32.toInt_inj.mp ?_⟩
    rw [nI_toInt (by omega), e, if_pos (by omega)]
  · right
    refine ⟨by omega, Int32.lt_iff_toInt_lt.mpr ?_⟩
    rw [e, if_neg (by omega)]
    show _ < (0 : Int)
    omega
/-- what the tape's calls leave -/
def tfC (C C1 : cS) : Prop := c_sz C1 = c_sz C ∧ c_cur C1 = c_cur C ∧ c_spa C1 = c_spa C ∧ c_rp C1 = c_rp C ∧ (∀ k, k ≠ 0 → c_i C1 k = c_i C k) ∧ (∀ k, k ≠ 0 → c_a C1 k = c_a C k) ∧ (∀ k, c_l C1 k = c_l C k) ∧ (∀ d, c_pn C1 d = c_pn C d) ∧ (∀ k d, c_pa C1 k d = c_pa C k d) ∧ (∀ d, c_pl C1 d = c_pl C d)
def tfM (M M1 : mS) : Prop := (∀ k, k ≠ 19 → m_i M1 k = m_i M k) ∧ (∀ k, k ≠ 9 → m_a M1 k = m_a M k) ∧ (∀ k, m_l M1 k = m_l M k)
theorem tfC.rf (C : cS) : tfC C C := ⟨rfl, rfl, rfl, rfl, fun _ _ => rfl, fun _ _ => rfl, fun _ => rfl, fun _ => rfl, fun _ _ => rfl, fun _ => rfl⟩
theorem tfM.rf (M : mS) : tfM M M := ⟨fun _ _ => rfl, fun _ _ => rfl, fun _ => rfl⟩
theorem tfC.tr {C D E : cS} (h : tfC C D) (g : tfC D E) : tfC C E := by
  obtain ⟨h1, h2, h3, h4, h5, h6, h7, h8, h9, h10⟩ := h
  obtain ⟨g1, g2, g3, g4, g5, g6, g7, g8, g9, g10⟩ := g
  exact ⟨g1.trans h1, g2.trans h2, g3.trans h3, g4.trans h4, fun k q => (g5 k q).trans (h5 k q), fun k q => (g6 k q).trans (h6 k q), fun k => (g7 k).trans (h7 k), fun k => (g8 k).trans (h8 k), fun k d => (g9 k d).trans (h9 k d), fun k => (g10 k).trans (h10 k)⟩
theorem tfM.tr {C D E : mS} (h : tfM C D) (g : tfM D E) : tfM C E := by
  obtain ⟨h1, h2, h3⟩ := h
  obtain ⟨g1, g2, g3⟩ := g
  exact ⟨fun k q => (g1 k q).trans (h1 k q), fun k q => (g2 k q).trans (h2 k q), fun k => (g3 k).trans (h3 k)⟩
variable {C : cS} {M : mS} {n : Nat} {u : Nat → Nat} {v : Int32}
def RelTn (C : cS) (M : mS) (n : Nat) : Prop := ∃ u, n ≤ 2000 ∧ c_i C 0 = nI n ∧ m_i M 19 = nI n ∧ tpC (c_a C 0) n u ∧ tpM (m_a M 9) n u
def nxC (C : cS) (v s : Int32) : cS := c_iS (c_aU C 0 (c_i C 0) (vp_nar .byte ((v >>> (s &&& 31) : Int32).toInt8.toInt32))) 0 ((c_i C 0) + 1)
def nxM (M : mS) (v s : Int32) : mS := m_iS (m_aU M 9 (m_i M 19) ((v >>> (s &&& 31)) &&& 255)) 19 ((m_i M 19) + 1)
theorem nx_rel (T : RelTn C M n) (hn : n < 2000) (v s : Int32) : RelTn (nxC C v s) (nxM M v s) (n + 1) := by
  obtain ⟨u, h1, h2, h3, h4, h5⟩ := T
  refine ⟨fun j => if j = n then (v >>> (s &&& 31)).toBitVec.toNat % 2 ^ 8 else u j, by omega, ?_, ?_, ?_, ?_⟩
  · show c_i C 0 + 1 = _
    rw [h2, nI_1]
  · show m_i M 19 + 1 = _
    rw [h3, nI_1]
  · intro j hj
    show (_ ∧ upd (c_a C 0) (c_i C 0).toNatClampNeg _ j = _) ∨ (_ ∧ upd (c_a C 0) (c_i C 0).toNatClampNeg _ j < 0)
    rw [h2, ni_cl (by omega), up_at]
    by_cases e : j = n
    · simp only [if_pos e]
      exact by_of _
    · simp only [if_neg e]
      exact h4 j (by omega)
  · intro j hj
    show _ ∧ upd (m_a M 9) (m_i M 19).toNatClampNeg _ j = _
    rw [h3, ni_cl (by omega), up_at]
    by_cases e : j = n
    · simp only [if_pos e]
      exact ⟨Nat.mod_lt _ (by decide), pk_and _ 8 rfl⟩
    · simp only [if_neg e]
      exact h5 j (by omega)
theorem nx_fC (C : cS) (v s : Int32) : tfC C (nxC C v s) :=
  ⟨rfl, rfl, rfl, rfl, fun k q => by show (if k = 0 then _ else c_i C k) = _; rw [if_neg q], fun k q => by show (if k = 0 then _ else c_a C k) = _; rw [if_neg q], fun _ => rfl, fun _ => rfl, fun _ _ => rfl, fun _ => rfl⟩
theorem nx_fM (M : mS) (v s : Int32) : tfM M (nxM M v s) :=
  ⟨fun k q => by show (if k = 19 then _ else m_i M k) = _; rw [if_neg q], fun k q => by show (if k = 9 then _ else m_a M k) = _; rw [if_neg q], fun _ => rfl⟩
theorem fn_C {Q K : cS → Prop} {m : Nat} {s s' : Int32} (T : RelTn C M n) (hn : n < 2000) (h : ¬ s < 0) (hs : s + (-8) = s') (k : w_X10_feedNumber_3 Q K m v s' (nxC C v s)) : w_X10_feedNumber_3 Q K (m + 1) v s C := by
  obtain ⟨u, h1, h2, h3, h4, h5⟩ := T
  refine ⟨fun q => absurd q h, fun _ => ⟨?_, fun w hw => ?_⟩⟩
  · rw [h2]; exact (ni_in (by omega)).mpr hn
  · rw [hs] at hw
    subst hw
    exact k
theorem fn_M {Q K : mS → Prop} {m : Nat} {s s' t : Int32} (T : RelTn C M n) (hn : n < 2000) (h : ¬ s < 0) (hs : s + (-1) = s') (ht : 8 * s = t) (k : w_X11_four_2 Q K m v s' (nxM M v t)) : w_X11_four_2 Q K (m + 1) v s M := by
  obtain ⟨u, h1, h2, h3, h4, h5⟩ := T
  refine ⟨fun q => absurd q h, fun _ => ⟨?_, fun w hw => ?_⟩⟩
  · rw [h3]; exact (ni_in (by omega)).mpr hn
  · rw [hs] at hw
    subst hw
    rw [ht]
    exact k
theorem e_feed4 (T : RelTn C M n) (hn : n + 4 ≤ 2000) (v : Int32) : ∃ C1 M1, (∀ Q, Q C1 → p_X10_feedNumber v C Q) ∧ (∀ Q, Q M1 → p_X11_four v M Q) ∧ RelTn C1 M1 (n + 4) ∧ tfC C C1 ∧ tfM M M1 := by
  have T1 := nx_rel T (by omega) v 24
  have T2 := nx_rel T1 (by omega) v 16
  have T3 := nx_rel T2 (by omega) v 8
  have T4 := nx_rel T3 (by omega) v 0
  refine ⟨_, _, fun Q hQ => ⟨5, fn_C (s := 24) (s' := 16) T (by omega) (by decide) (by decide) (fn_C (s := 16) (s' := 8) T1 (by omega) (by decide) (by decide) (fn_C (s := 8) (s' := 0) T2 (by omega) (by decide) (by decide) (fn_C (s := 0) (s' := -8) T3 (by omega) (by decide) (by decide) ⟨fun _ => hQ, fun q => absurd (by decide) q⟩)))⟩, fun Q hQ => ⟨5, fn_M (s := 3) (s' := 2) (t := 24) T (by omega) (by decide) (by decide) (by decide) (fn_M (s := 2) (s' := 1) (t := 16) T1 (by omega) (by decide) (by decide) (by decide) (fn_M (s := 1) (s' := 0) (t := 8) T2 (by omega) (by decide) (by decide) (by decide) (fn_M (s := 0) (s' := -1) (t := 0) T3 (by omega) (by decide) (by decide) (by decide) ⟨fun _ => hQ, fun q => absurd (by decide) q⟩)))⟩, T4, ?_, ?_⟩
  · exact (((nx_fC _ _ _).tr (nx_fC _ _ _)).tr (nx_fC _ _ _)).tr (nx_fC _ _ _)
  · exact (((nx_fM _ _ _).tr (nx_fM _ _ _)).tr (nx_fM _ _ _)).tr (nx_fM _ _ _)
/-- both end with the same answer; the tapes stay alike; all else stays -/
def tEq (C : cS) (M : mS) (p : (Int32 → cS → Prop) → Prop) (q : (Int32 → mS → Prop) → Prop) : Prop :=
  ∃ e C1 M1, (∀ Q, Q e C1 → p Q) ∧ (∀ Q, Q e M1 → q Q) ∧ RelT C1 M1 ∧ tfC C C1 ∧ tfM M M1
theorem a_feed (T : RelT C M) (a b c d e : Int32) : tEq C (m_iS M 2 0) (p_X10_feed a b c d e C) (p_X11_feed a b c d e M) := by
  obtain ⟨n, u, h1, h2, h3, h4, h5⟩ := T
  by_cases h : n ≤ 1980
  · have T0 : RelTn C (m_iS M 2 0) n := ⟨u, h1, h2, h3, h4, h5⟩
    obtain ⟨C1, M1, a1, a2, T1, a4, a5⟩ := e_feed4 T0 (by omega) a
    obtain ⟨C2, M2, b1, b2, T2, b4, b5⟩ := e_feed4 T1 (by omega) b
    obtain ⟨C3, M3, c1, c2, T3, c4, c5⟩ := e_feed4 T2 (by omega) c
    obtain ⟨C4, M4, d1, d2, T4, d4, d5⟩ := e_feed4 T3 (by omega) d
    obtain ⟨C5, M5, e1, e2, T5, e4, e5⟩ := e_feed4 T4 (by omega) e
    obtain ⟨u5, k1, k2, k3, k4, k5⟩ := T5
    refine ⟨nI (n + 4 + 4 + 4 + 4 + 4), C5, M5, fun Q hQ => ⟨fun _ => a1 _ (b1 _ (c1 _ (d1 _ (e1 _ ?_)))), fun q => absurd ?_ q⟩, fun Q hQ => ⟨fun _ => a2 _ (b2 _ (c2 _ (d2 _ (e2 _ ?_)))), fun q => absurd ?_ q⟩, ⟨_, u5, k1, k2, k3, k4, k5⟩, (((a4.tr b4).tr c4).tr d4).tr e4, (((a5.tr b5).tr c5).tr d5).tr e5⟩
    · rw [k2]; exact hQ
    · rw [h2, ni_al, ni_lel (by omega) (by decide)]; omega
    · rw [k3]; exact hQ
    · rw [h3, ni_lel (by omega) (by decide)]; omega
  · refine ⟨-1, C, _, fun Q hQ => ⟨fun q => absurd q ?_, fun _ => hQ⟩, fun Q hQ => ⟨fun q => absurd q ?_, fun _ => hQ⟩, ⟨n, u, h1, h2, h3, h4, h5⟩, tfC.rf C, tfM.rf _⟩
    · rw [h2, ni_al, ni_lel (by omega) (by decide)]; omega
    · rw [h3, ni_lel (by omega) (by decide)]; omega
theorem a_end (T : RelT C M) (a : Int32) : tEq C (m_iS M 2 0) (p_X10_end a C) (p_X11_end a M) := by
  obtain ⟨n, u, h1, h2, h3, h4, h5⟩ := T
  have T0 : RelT C (m_iS M 2 0) := ⟨n, u, h1, h2, h3, h4, h5⟩
  by_cases h : a < 0
  · exact ⟨-1, C, _, fun Q hQ => ⟨fun _ => hQ, fun q => absurd h q⟩, fun Q hQ => ⟨fun _ => hQ, fun q => absurd h q⟩, T0, tfC.rf C, tfM.rf _⟩
  obtain ⟨m, hm, rfl⟩ := ni_ex h
  by_cases g : m ≤ n
  · refine ⟨nI m, c_iS C 0 (nI m), m_iS (m_iS M 2 0) 19 (nI m), fun Q hQ => ⟨fun q => absurd q h, fun _ => ⟨fun _ => hQ, fun q => absurd ?_ q⟩⟩, fun Q hQ => ⟨fun q => absurd q h, fun _ => ⟨fun _ => hQ, fun q => absurd ?_ q⟩⟩, ⟨m, u, by omega, rfl, rfl, fun j hj => h4 j (by omega), fun j hj => h5 j (by omega)⟩, ?_, ?_⟩
    · rw [h2, ni_le (by omega) (by omega)]; exact g
    · rw [h3, ni_le (by omega) (by omega)]; exact g
    · exact ⟨rfl, rfl, rfl, rfl, fun k q => by show (if k = 0 then _ else c_i C k) = _; rw [if_neg q], fun _ _ => rfl, fun _ => rfl, fun _ => rfl, fun _ _ => rfl, fun _ => rfl⟩
    · exact ⟨fun k q => by rw [ms_i_iS, if_neg q], fun _ _ => rfl, fun _ => rfl⟩
  · refine ⟨-1, C, _, fun Q hQ => ⟨fun q => absurd q h, fun _ => ⟨fun q => absurd q ?_, fun _ => hQ⟩⟩, fun Q hQ => ⟨fun q => absurd q h, fun _ => ⟨fun q => absurd q ?_, fun _ => hQ⟩⟩, T0, tfC.rf C, tfM.rf _⟩
    · rw [h2, ni_le (by omega) (by omega)]; exact g
    · rw [h3, ni_le (by omega) (by omega)]; exact g
end ZT7
