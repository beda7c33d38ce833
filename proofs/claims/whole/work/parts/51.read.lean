/-! THE READER: tokens one by one; what an ACT takes -/
section ZR11
def kC (C : cS) (k j : Nat) : Int32 := if j < k then c_a C 1 j else 6
def plC (C : cS) (k n j : Nat) : Int32 := if j < k then c_a C 2 j else nI n
def sm (e : Nat) : Nat := if e = 0 then 4 else if e = 1 then 2 else if e = 2 then 1 else if e = 3 then 3 else if e = 4 then 5 else if e = 5 then 6 else 0
theorem sm_eq : ∀ e, e < 7 → ∀ v, v < 7 → (nI (sm e) = nI (sm v) ↔ e = v) := by decide +kernel
def TT (C : cS) (M : mS) (n k : Nat) : Prop := c_i C 5 = nI k ∧ c_i C 6 = nI n ∧ k ≤ n ∧ n ≤ 2000 ∧ (∀ j, j < k → tk1 C M j) ∧ m_a M 11 k = 0 ∧ m_a M 12 k = nI n
def TE (C : cS) (M : mS) (n k j e : Nat) : Prop := e < 7 ∧ kC C k j = nI e ∧ m_a M 11 j = nI (sm e) ∧ plC C k n j = m_a M 12 j ∧ (e < 6 ↔ j < k) ∧ (e = 0 → c_a C 3 j = m_a M 14 j) ∧ (e = 1 → c_a C 3 j = m_a M 14 j ∧ isH (m_a M 14 j)) ∧ (e = 2 → ∃ a, a < 26 ∧ c_a C 3 j = nI a ∧ m_a M 14 j = nI a) ∧ (e = 3 → nmR (c_l C 0 j) (m_l M 1 j) (m_a M 13 j))
variable {C C1 : cS} {M M1 : mS} {n k j e w t s na nl op : Nat} {b : Bool} {y : Int32}
theorem TT.ex1 (T : TT C M n k) (hj : j ≤ k) : ∃ e, TE C M n k j e := by
  obtain ⟨t1, t2, t3, t4, t5, t6, t7⟩ := T
  by_cases h : j < k
  · have k1 : kC C k j = c_a C 1 j := by unfold kC; rw [if_pos h]
    have k2 : plC C k n j = c_a C 2 j := by unfold plC; rw [if_pos h]
    obtain ⟨a1, a2 | a2 | a2 | a2 | a2 | a2⟩ := t5 j h
    · exact ⟨0, by decide, k1.trans a2.1, a2.2.1, k2.trans a1, ⟨fun _ => h, fun _ => by decide⟩, fun _ => a2.2.2, fun q => absurd q (by decide), fun q => absurd q (by decide), fun q => absurd q (by decide)⟩
    · exact ⟨1, by decide, k1.trans a2.1, a2.2.1, k2.trans a1, ⟨fun _ => h, fun _ => by decide⟩, fun q => absurd q (by decide), fun _ => a2.2.2, fun q => absurd q (by decide), fun q => absurd q (by decide)⟩
    · exact ⟨2, by decide, k1.trans a2.1, a2.2.1, k2.trans a1, ⟨fun _ => h, fun _ => by decide⟩, fun q => absurd q (by decide), fun q => absurd q (by decide), fun _ => a2.2.2, fun q => absurd q (by decide)⟩
    · exact ⟨3, by decide, k1.trans a2.1, a2.2.1, k2.trans a1, ⟨fun _ => h, fun _ => by decide⟩, fun q => absurd q (by decide), fun q => absurd q (by decide), fun q => absurd q (by decide), fun _ => a2.2.2⟩
    · exact ⟨4, by decide, k1.trans a2.1, a2.2, k2.trans a1, ⟨fun _ => h, fun _ => by decide⟩, fun q => absurd q (by decide), fun q => absurd q (by decide), fun q => absurd q (by decide), fun q => absurd q (by decide)⟩
    · exact ⟨5, by decide, k1.trans a2.1, a2.2, k2.trans a1, ⟨fun _ => h, fun _ => by decide⟩, fun q => absurd q (by decide), fun q => absurd q (by decide), fun q => absurd q (by decide), fun q => absurd q (by decide)⟩
  · have hjk : j = k := by omega
    subst hjk
    exact ⟨6, by decide, by unfold kC; rw [if_neg h]; rfl, t6, by unfold plC; rw [if_neg h]; exact t7.symm, ⟨fun q => absurd q (by decide), fun q => absurd q h⟩, fun q => absurd q (by decide), fun q => absurd q (by decide), fun q => absurd q (by decide), fun q => absurd q (by decide)⟩
theorem TE.kd1 (E : TE C M n k j e) (v : Nat) (h : v < 7) : kC C k j = nI v ↔ e = v := by
  obtain ⟨e1, e2, -⟩ := E
  rw [e2, ni_eq (by omega) (by omega)]
theorem TE.so1 (E : TE C M n k j e) (v : Nat) (h : v < 7) : m_a M 11 j = nI (sm v) ↔ e = v := by
  obtain ⟨e1, -, e2, -⟩ := E
  rw [e2]
  exact sm_eq e e1 v h
theorem e_kindAt (T : TT C M n k) (hj : j ≤ 2001) : ∀ Q, Q (kC C k j) C → p_X8_kindAt (nI j) C Q := by
  obtain ⟨t1, t2, t3, t4, t5, t6, t7⟩ := T
  intro Q hQ
  refine ⟨fun r => absurd r (nI_pos (by omega)), fun _ => ⟨fun r => ?_, fun r => ⟨?_, ?_⟩⟩⟩
  · rw [t1, ni_le (by omega) (by omega)] at r
    unfold kC at hQ
    rw [if_neg (by omega)] at hQ
    exact hQ
  · rw [t1, ni_le (by omega) (by omega)] at r
    exact (ni_in (by omega)).mpr (by omega)
  · rw [t1, ni_le (by omega) (by omega)] at r
    unfold kC at hQ
    rw [if_pos (by omega)] at hQ
    rw [ni_cl (by omega)]
    exact hQ
theorem e_placeAt (h5 : c_i C 5 = nI k) (h6 : c_i C 6 = nI n) (hk : k ≤ 2000) (hj : j ≤ 2001) : ∀ Q, Q (plC C k n j) C → p_X8_placeAt (nI j) C Q := by
  intro Q hQ
  refine ⟨fun r => absurd r (nI_pos (by omega)), fun _ => ⟨fun r => ?_, fun r => ⟨?_, ?_⟩⟩⟩
  · rw [h5, ni_le (by omega) (by omega)] at r
    unfold plC at hQ
    rw [if_neg (by omega)] at hQ
    rw [h6]
    exact hQ
  · rw [h5, ni_le (by omega) (by omega)] at r
    exact (ni_in (by omega)).mpr (by omega)
  · rw [h5, ni_le (by omega) (by omega)] at r
    unfold plC at hQ
    rw [if_pos (by omega)] at hQ
    rw [ni_cl (by omega)]
    exact hQ
theorem e_nameAt (T : TT C M n k) (hj : j < k) : ∀ Q, Q (c_l C 0 j) C → p_X8_nameAt (nI j) C Q := by
  obtain ⟨t1, t2, t3, t4, t5, t6, t7⟩ := T
  intro Q hQ
  refine ⟨fun r => absurd r (nI_pos (by omega)), fun _ => ⟨fun r => absurd r ?_, fun r => ⟨(ni_in (by omega)).mpr (by omega), ?_⟩⟩⟩
  · rw [t1, ni_le (by omega) (by omega)]; omega
  · rw [ni_cl (by omega)]
    exact hQ
theorem e_valueAt (T : TT C M n k) (hj : j < k) : ∀ Q, Q (c_a C 3 j) C → p_X8_valueAt (nI j) C Q := by
  obtain ⟨t1, t2, t3, t4, t5, t6, t7⟩ := T
  intro Q hQ
  refine ⟨fun r => absurd r (nI_pos (by omega)), fun _ => ⟨fun r => absurd r ?_, fun r => ⟨(ni_in (by omega)).mpr (by omega), ?_⟩⟩⟩
  · rw [t1, ni_le (by omega) (by omega)]; omega
  · rw [ni_cl (by omega)]
    exact hQ
theorem e_refuse (T : TT C M n k) (hj : j ≤ k) (E : TE C M n k j e) (v : Int32) : ∀ Q, Q 0 (c_iS (c_iS C 3 v) 4 (m_a M 12 j)) → p_X5_refuse v (nI j) C Q := by
  obtain ⟨t1, t2, t3, t4, t5, t6, t7⟩ := T
  intro Q hQ
  rw [← E.2.2.2.1] at hQ
  exact e_placeAt (C := c_iS C 3 v) t1 t2 (by omega) (by omega) _ hQ
theorem e_stands (T : TT C M n k) (hj : j ≤ k) (E : TE C M n k j e) (hw : w < 7) {Q : Int32 → cS → Prop} (f : e = w → Q 1 C) (g : e ≠ w → Q 0 (c_iS (c_iS C 3 2) 4 (m_a M 12 j))) : p_X5_stands (nI j) (nI w) C Q := by
  have t4 := T.2.2.2.1
  have t3 := T.2.2.1
  refine e_kindAt T (by omega) _ ⟨fun r => f ((E.kd1 w hw).mp r), fun r => e_refuse T hj E 2 _ ⟨fun _ => g fun h => r ((E.kd1 w hw).mpr h), fun r => absurd rfl r⟩⟩
/-- what reading leaves -/
def pfC (b : Bool) (C C1 : cS) : Prop := c_sz C1 = c_sz C ∧ c_cur C1 = c_cur C ∧ c_spa C1 = c_spa C ∧ c_rp C1 = c_rp C ∧ (∀ k, (k < 3 ∨ 6 < k) → c_i C1 k = c_i C k) ∧ (∀ k, (k = 0 ∨ 3 < k) → c_a C1 k = c_a C k) ∧ (∀ d, d ≠ b → c_pn C1 d = c_pn C d ∧ c_pl C1 d = c_pl C d ∧ ∀ k, c_pa C1 k d = c_pa C k d)
def pfM (M M1 : mS) : Prop := (∀ k, (k < 20 ∨ 25 < k) → m_i M1 k = m_i M k) ∧ (∀ k, (k < 11 ∨ 21 < k) → m_a M1 k = m_a M k) ∧ m_l M1 0 = m_l M 0
theorem pfC.rf (b : Bool) (C : cS) : pfC b C C := ⟨rfl, rfl, rfl, rfl, fun _ _ => rfl, fun _ _ => rfl, fun _ _ => ⟨rfl, rfl, fun _ => rfl⟩⟩
theorem pfM.rf (M : mS) : pfM M M := ⟨fun _ _ => rfl, fun _ _ => rfl, rfl⟩
theorem pfC.tr {C D E : cS} (h : pfC b C D) (g : pfC b D E) : pfC b C E := by
  obtain ⟨h1, h2, h3, h4, h5, h6, h7⟩ := h
  obtain ⟨g1, g2, g3, g4, g5, g6, g7⟩ := g
  exact ⟨g1.trans h1, g2.trans h2, g3.trans h3, g4.trans h4, fun k q => (g5 k q).trans (h5 k q), fun k q => (g6 k q).trans (h6 k q), fun d q => ⟨(g7 d q).1.trans (h7 d q).1, (g7 d q).2.1.trans (h7 d q).2.1, fun k => ((g7 d q).2.2 k).trans ((h7 d q).2.2 k)⟩⟩
theorem pfM.tr {C D E : mS} (h : pfM C D) (g : pfM D E) : pfM C E := by
  obtain ⟨h1, h2, h3⟩ := h
  obtain ⟨g1, g2, g3⟩ := g
  exact ⟨fun k q => (g1 k q).trans (h1 k q), fun k q => (g2 k q).trans (h2 k q), g3.trans h3⟩
theorem pfC.i {C D : cS} {k : Nat} {v : Int32} (h : pfC b C D) (hk : 3 ≤ k ∧ k ≤ 6) : pfC b C (c_iS D k v) :=
  h.tr ⟨rfl, rfl, rfl, rfl, fun j q => by rw [cs_i_iS, if_neg (by omega)], fun _ _ => rfl, fun _ _ => ⟨rfl, rfl, fun _ => rfl⟩⟩
theorem pfC.pa {C D : cS} {k : Nat} {x v : Int32} (h : pfC b C D) : pfC b C (c_paU D k b x v) :=
  h.tr ⟨rfl, rfl, rfl, rfl, fun _ _ => rfl, fun _ _ => rfl, fun d q => ⟨rfl, rfl, fun j => by rw [cs_pa_paU, if_neg q]; split <;> rfl⟩⟩
theorem pfC.pl {C D : cS} {x : Int32} {v : Int64} (h : pfC b C D) : pfC b C (c_plU D b x v) :=
  h.tr ⟨rfl, rfl, rfl, rfl, fun _ _ => rfl, fun _ _ => rfl, fun d q => ⟨rfl, by rw [cs_pl_plU, if_neg q], fun j => rfl⟩⟩
theorem pfC.pn {C D : cS} {v : Int32} (h : pfC b C D) : pfC b C (c_pnS D b v) :=
  h.tr ⟨rfl, rfl, rfl, rfl, fun _ _ => rfl, fun _ _ => rfl, fun d q => ⟨by rw [cs_pn_pnS, if_neg q], rfl, fun j => rfl⟩⟩
theorem pfM.i {C D : mS} {k : Nat} {v : Int32} (h : pfM C D) (hk : 20 ≤ k ∧ k ≤ 25) : pfM C (m_iS D k v) :=
  h.tr ⟨fun j q => by rw [ms_i_iS, if_neg (by omega)], fun _ _ => rfl, rfl⟩
theorem pfM.u {C D : mS} {k : Nat} {x v : Int32} (h : pfM C D) (hk : 11 ≤ k ∧ k ≤ 21) : pfM C (m_aU D k x v) :=
  h.tr ⟨fun _ _ => rfl, fun j q => by rw [ms_a_aU, if_neg (by omega)], rfl⟩
theorem pfM.l {C D : mS} {k : Nat} {x : Int32} {v : Int64} (h : pfM C D) (hk : k ≠ 0) : pfM C (m_lU D k x v) :=
  h.tr ⟨fun _ _ => rfl, fun _ _ => rfl, by rw [ms_l_lU, if_neg (fun q => hk q.symm)]⟩
/-- what the reading of one act leaves: tokens, and the acts before -/
def axC (b : Bool) (na : Nat) (C C1 : cS) : Prop := pfC b C C1 ∧ (∀ k, k ≠ 3 → k ≠ 4 → c_i C1 k = c_i C k) ∧ (∀ k, c_a C1 k = c_a C k) ∧ (∀ k, c_l C1 k = c_l C k) ∧ c_pn C1 b = c_pn C b ∧ c_pl C1 b = c_pl C b ∧ c_pa C1 0 b = c_pa C 0 b ∧ c_pa C1 2 b = c_pa C 2 b ∧ ∀ i, i < 3 * na → c_pa C1 1 b i = c_pa C 1 b i
def axM (na : Nat) (M M1 : mS) : Prop := pfM M M1 ∧ (∀ k, k ≠ 21 → k ≠ 22 → k ≠ 23 → m_i M1 k = m_i M k) ∧ (∀ k, (k < 17 ∨ 19 < k) → m_a M1 k = m_a M k) ∧ (∀ k, k ≠ 2 → m_l M1 k = m_l M k) ∧ ∀ i, i < 3 * na → m_a M1 17 i = m_a M 17 i ∧ m_a M1 18 i = m_a M 18 i ∧ m_a M1 19 i = m_a M 19 i ∧ m_l M1 2 i = m_l M 2 i
theorem axC.rf (b : Bool) (na : Nat) (C : cS) : axC b na C C := ⟨pfC.rf b C, fun _ _ _ => rfl, fun _ => rfl, fun _ => rfl, rfl, rfl, rfl, rfl, fun _ _ => rfl⟩
theorem axM.rf (na : Nat) (M : mS) : axM na M M := ⟨pfM.rf M, fun _ _ _ _ => rfl, fun _ _ => rfl, fun _ _ => rfl, fun _ _ => ⟨rfl, rfl, rfl, rfl⟩⟩
theorem axC.tr {C D E : cS} (h : axC b na C D) (g : axC b na D E) : axC b na C E := by
  obtain ⟨h1, h2, h3, h4, h5, h6, h7, h8, h9⟩ := h
  obtain ⟨g1, g2, g3, g4, g5, g6, g7, g8, g9⟩ := g
  exact ⟨h1.tr g1, fun k q r => (g2 k q r).trans (h2 k q r), fun k => (g3 k).trans (h3 k), fun k => (g4 k).trans (h4 k), g5.trans h5, g6.trans h6, g7.trans h7, g8.trans h8, fun i q => (g9 i q).trans (h9 i q)⟩
theorem axM.tr {C D E : mS} (h : axM na C D) (g : axM na D E) : axM na C E := by
  obtain ⟨h1, h2, h3, h4, h5⟩ := h
  obtain ⟨g1, g2, g3, g4, g5⟩ := g
  exact ⟨h1.tr g1, fun k q r s => (g2 k q r s).trans (h2 k q r s), fun k q => (g3 k q).trans (h3 k q), fun k q => (g4 k q).trans (h4 k q), fun i q => ⟨(g5 i q).1.trans (h5 i q).1, (g5 i q).2.1.trans (h5 i q).2.1, (g5 i q).2.2.1.trans (h5 i q).2.2.1, (g5 i q).2.2.2.trans (h5 i q).2.2.2⟩⟩
theorem axC.f {C D : cS} {v w : Int32} (h : axC b na C D) : axC b na C (c_iS (c_iS D 3 v) 4 w) :=
  h.tr ⟨((pfC.rf b D).i (by decide)).i (by decide), fun k q r => by rw [cs_i_iS, if_neg r, cs_i_iS, if_neg q], fun _ => rfl, fun _ => rfl, rfl, rfl, rfl, rfl, fun _ _ => rfl⟩
theorem axC.pa {C D : cS} {i : Nat} {v : Int32} (h : axC b na C D) (hi : 3 * na ≤ i) (hb : i < 2147483648) : axC b na C (c_paU D 1 b (nI i) v) :=
  h.tr ⟨(pfC.rf b D).pa, fun _ _ _ => rfl, fun _ => rfl, fun _ => rfl, rfl, rfl, rfl, rfl, fun j q => by rw [cs_pa_paU, if_pos rfl, if_pos rfl, up_at, ni_cl hb, if_neg (by omega)]⟩
theorem axM.i {C D : mS} {v : Int32} (h : axM na C D) : axM na C (m_iS D 21 v) :=
  h.tr ⟨(pfM.rf D).i (by decide), fun k q _ _ => by rw [ms_i_iS, if_neg q], fun _ _ => rfl, fun _ _ => rfl, fun _ _ => ⟨rfl, rfl, rfl, rfl⟩⟩
theorem axM.f {C D : mS} {v w : Int32} (h : axM na C D) : axM na C (m_iS (m_iS D 22 v) 23 w) :=
  h.tr ⟨((pfM.rf D).i (by decide)).i (by decide), fun k _ q r => by rw [ms_i_iS, if_neg r, ms_i_iS, if_neg q], fun _ _ => rfl, fun _ _ => rfl, fun _ _ => ⟨rfl, rfl, rfl, rfl⟩⟩
theorem up_lo {f : Nat → Int32} {i j : Nat} {v : Int32} (h : i < j) (hb : j < 2147483648) : upd f (nI j).toNatClampNeg v i = f i := by rw [ni_cl hb, up_at, if_neg (by omega)]
theorem upL_lo {f : Nat → Int64} {i j : Nat} {v : Int64} (h : i < j) (hb : j < 2147483648) : vp_updL f (nI j).toNatClampNeg v i = f i := by rw [ni_cl hb, upL_at, if_neg (by omega)]
theorem axM.u {C D : mS} {k i : Nat} {v : Int32} (h : axM na C D) (hk : 17 ≤ k ∧ k ≤ 19) (hi : 3 * na ≤ i) (hb : i < 2147483648) : axM na C (m_aU D k (nI i) v) := by
  refine h.tr ⟨(pfM.rf D).u (by omega), fun _ _ _ _ => rfl, fun j q => by rw [ms_a_aU, if_neg (by omega)], fun _ _ => rfl, fun j q => ⟨?_, ?_, ?_, rfl⟩⟩
  · rw [ms_a_aU]; split
    · next e => subst e; exact up_lo (by omega) hb
    · rfl
  · rw [ms_a_aU]; split
    · next e => subst e; exact up_lo (by omega) hb
    · rfl
  · rw [ms_a_aU]; split
    · next e => subst e; exact up_lo (by omega) hb
    · rfl
theorem axM.l {C D : mS} {i : Nat} {v : Int64} (h : axM na C D) (hi : 3 * na ≤ i) (hb : i < 2147483648) : axM na C (m_lU D 2 (nI i) v) := by
  refine h.tr ⟨(pfM.rf D).l (by decide), fun _ _ _ _ => rfl, fun _ _ => rfl, fun j q => by rw [ms_l_lU, if_neg q], fun j q => ⟨rfl, rfl, rfl, ?_⟩⟩
  rw [ms_l_lU, if_pos rfl]
  exact upL_lo (by omega) hb
theorem TT.ax (T : TT C M n k) (fc : axC b na C C1) (fm : axM na M M1) : TT C1 M1 n k := by
  obtain ⟨t1, t2, t3, t4, t5, t6, t7⟩ := T
  obtain ⟨-, g2, g3, g4, -⟩ := fc
  obtain ⟨-, h2, h3, h4, -⟩ := fm
  refine ⟨by rw [g2 5 (by decide) (by decide)]; exact t1, by rw [g2 6 (by decide) (by decide)]; exact t2, t3, t4, fun j hj => ?_, by rw [h3 11 (by omega)]; exact t6, by rw [h3 12 (by omega)]; exact t7⟩
  refine (t5 j hj).rw ⟨by rw [g3], by rw [g3], by rw [g3], by rw [g4]⟩ ⟨by rw [h3 11 (by omega)], by rw [h3 12 (by omega)], by rw [h3 13 (by omega)], by rw [h3 14 (by omega)], by rw [h4 1 (by decide)]⟩
/-- one thing that an act takes: x in the class; in the reference y, its place, its length, its name -/
def tak1 (C : cS) (M : mS) (k d : Nat) (x y17 y18 y19 : Int32) (l : Int64) : Prop :=
  (d = 1 → x = y17 ∧ y19 = 0 ∧ isH x) ∧ (d = 2 → x = y17 ∧ y19 = 0) ∧ (d = 3 → ∃ t, t < k ∧ x = nI t ∧ c_a C 1 t = 3 ∧ l = m_l M 1 t ∧ y19 = m_a M 13 t ∧ y18 = m_a M 12 t)
theorem tak1.ax {d : Nat} {x y17 y18 y19 : Int32} {l : Int64} (h : tak1 C M k d x y17 y18 y19 l) (a : c_a C1 1 = c_a C 1) (b1 : m_a M1 12 = m_a M 12) (b2 : m_a M1 13 = m_a M 13) (b3 : m_l M1 1 = m_l M 1) : tak1 C1 M1 k d x y17 y18 y19 l := by
  unfold tak1
  rw [a, b1, b2, b3]
  exact h
def takA (C : cS) (M : mS) (b : Bool) (k na op j : Nat) : Prop := tak1 C M k (kd op j) (c_pa C 1 b (3 * na + j)) (m_a M 17 (3 * na + j)) (m_a M 18 (3 * na + j)) (m_a M 19 (3 * na + j)) (m_l M 2 (3 * na + j))
theorem ix_C (na j : Nat) : (nI na * 3 : Int32) + nI j = nI (3 * na + j) := by rw [ni_ml, nI_add]; congr 1; exact congrArg (· + j) (Nat.mul_comm _ _)
theorem ix_M (na j : Nat) : (3 * nI na : Int32) + nI j = nI (3 * na + j) := by rw [ni_lm, nI_add]
def wk (d : Nat) : Nat := if d = 1 then 1 else if d = 2 then 0 else 3
theorem e_tokFor (ho : op < 26) (hj : j < nt op) : ∀ Q, Q (nI (wk (kd op j))) C → p_X5_tokenFor (z_tchr (z_tkx.getD op 0) j) C Q := by
  intro Q hQ
  obtain ⟨c1, c2, c3, c4⟩ := tk_chr op ho j hj
  unfold wk at hQ
  refine ⟨fun r => ⟨fun r2 => ?_, fun r2 => ?_⟩, fun r => ?_⟩
  · rw [if_neg (fun h => r (c1.mpr h)), if_neg (fun h => r2 (c2.mpr h))] at hQ; exact hQ
  · rw [if_neg (fun h => r (c1.mpr h)), if_pos (c2.mp r2)] at hQ; exact hQ
  · rw [if_pos (c1.mp r)] at hQ; exact hQ
theorem up_hit {f : Nat → Int32} {j : Nat} {v : Int32} (hb : j < 2147483648) : upd f (nI j).toNatClampNeg v j = v := by rw [ni_cl hb, up_at, if_pos rfl]
theorem upL_hit {f : Nat → Int64} {j : Nat} {v : Int64} (hb : j < 2147483648) : vp_updL f (nI j).toNatClampNeg v j = v := by rw [ni_cl hb, upL_at, if_pos rfl]
theorem up_mis {f : Nat → Int32} {i j : Nat} {v : Int32} (h : i ≠ j) (hb : j < 2147483648) : upd f (nI j).toNatClampNeg v i = f i := by rw [ni_cl hb, up_at, if_neg h]
theorem upL_mis {f : Nat → Int64} {i j : Nat} {v : Int64} (h : i ≠ j) (hb : j < 2147483648) : vp_updL f (nI j).toNatClampNeg v i = f i := by rw [ni_cl hb, upL_at, if_neg h]
theorem wt29 {Q K78 K188 : mS → Prop} {N : Nat} {l1 l2 : Int32} (h : p_X11_many l1 M (fun rz7 Mz6 => ((rz7 ≤ l2 → K188 Mz6) ∧ (¬ rz7 ≤ l2 → p_X11_kindOf l1 l2 Mz6 (fun rz10 Mz9 => ((¬ rz10 = 1 → ((¬ rz10 = 2 → j_X11_readTakes_62 Q (w_X11_readTakes_29 Q K78 K188 N) K78 K188 l1 l2 rz10 3 Mz9) ∧ (rz10 = 2 → j_X11_readTakes_62 Q (w_X11_readTakes_29 Q K78 K188 N) K78 K188 l1 l2 rz10 4 Mz9))) ∧ (rz10 = 1 → j_X11_readTakes_62 Q (w_X11_readTakes_29 Q K78 K188 N) K78 K188 l1 l2 rz10 2 Mz9))))))) : w_X11_readTakes_29 Q K78 K188 (N + 1) l1 l2 M := h
theorem a_takes (ho : op < 26) (hna : na < 150) : ∀ (d j : Nat) {C : cS} {M : mS} {t : Nat}, j + d = nt op → TT C M n k → c_i C 3 = 0 → m_i M 22 = 0 → m_i M 21 = nI t → t ≤ k → m_i M 24 = nI na → (∀ i, i < j → takA C M b k na op i) → (∀ i, j ≤ i → i < 3 → m_a M 19 (3 * na + i) = 0) →
    (∃ C1 M1, c_i C1 3 = 0 ∧ m_i M1 22 = 0 ∧ m_i M1 21 = nI (t + d) ∧ t + d ≤ k ∧ (∀ i, i < nt op → takA C1 M1 b k na op i) ∧ (∀ i, nt op ≤ i → i < 3 → m_a M1 19 (3 * na + i) = 0) ∧ axC b na C C1 ∧ axM na M M1 ∧ (∃ N, ∀ Q K39 K104, K104 (nI (t + d)) C1 → w_X5_readTaken_6 (z_tkx.getD op 0) b Q K39 K104 N (nI na) (nI t) (nI j) C) ∧ (∃ N, ∀ Q K78 K188, K188 M1 → w_X11_readTakes_29 Q K78 K188 N (z_tks.getD op 0) (nI j) M)) ∨
    (∃ C1 M1 f, f ≤ k ∧ m_i M1 21 = nI f ∧ m_i M1 22 = 0 ∧ c_i C1 3 = 2 ∧ c_i C1 4 = m_a M1 12 f ∧ axC b na C C1 ∧ axM na M M1 ∧ (∃ N, ∀ Q K39 K104, K39 (nI f) C1 → w_X5_readTaken_6 (z_tkx.getD op 0) b Q K39 K104 N (nI na) (nI t) (nI j) C) ∧ (∃ N, ∀ Q K78 K188, K78 M1 → w_X11_readTakes_29 Q K78 K188 N (z_tks.getD op 0) (nI j) M)) := by
  obtain ⟨l1, l2, l3, l4, l5⟩ := tk_len op ho
  intro d
  induction d with
  | zero =>
    intro j C M t hj T c3 m22 m21 htk m24 hA hz
    left
    refine ⟨C, M, c3, m22, m21, htk, fun i hi => hA i (by omega), fun i hi => hz i (by omega), axC.rf b na C, axM.rf na M, ⟨1, fun Q K39 K104 hK => ⟨l1, fun _ => hK, fun r => absurd ?_ r⟩⟩, ⟨1, fun Q K78 K188 hK => wt29 (e_manyK ho _ ⟨fun _ => hK, fun r => absurd ?_ r⟩)⟩⟩
    · rw [l2, ni_le (by omega) (by omega)]; omega
    · rw [ni_le (by omega) (by omega)]; omega
  | succ d ih =>
    intro j C M t hj T c3 m22 m21 htk m24 hA hz
    have t3 := T.2.2.1
    have t4 := T.2.2.2.1
    obtain ⟨e, E⟩ := T.ex1 htk
    obtain ⟨-, -, -, k4⟩ := tk_chr op ho j (by omega)
    have g1 : ¬ nI (z_tlen (z_tkx.getD op 0)) ≤ nI j := by rw [l2, ni_le (by omega) (by omega)]; omega
    have g2 : ¬ (3 : Int32) ≤ nI j := by rw [ni_lle (by omega) (by decide)]; show ¬ 3 ≤ j; omega
    have g3 : vp_in (nI j) (z_tlen (z_tkx.getD op 0)) := by rw [l2]; exact (ni_in (by omega)).mpr (by omega)
    have g4 : ¬ nI (nt op) ≤ nI j := by rw [ni_le (by omega) (by omega)]; omega
    have i1 : vp_in (nI (3 * na + j)) 450 := (ni_in (by omega)).mpr (by omega)
    have i2 : vp_in (nI t) 2001 := (ni_in (by omega)).mpr (by omega)
    -- the class, up to its test
    have wC : ∀ (N : Nat) Q K39 K104, p_X5_stands (nI t) (nI (wk (kd op j))) C (fun rz10 Cz9 => ((¬ rz10 = 0 → p_X8_kindAt (nI t) Cz9 (fun rz13 Cz12 => ((¬ rz13 = 3 → j_X5_readTaken_62 (z_tkx.getD op 0) b Q (w_X5_readTaken_6 (z_tkx.getD op 0) b Q K39 K104 N) K39 K104 (nI na) (nI t) (nI j) 0 Cz12) ∧ (rz13 = 3 → j_X5_readTaken_62 (z_tkx.getD op 0) b Q (w_X5_readTaken_6 (z_tkx.getD op 0) b Q K39 K104 N) K39 K104 (nI na) (nI t) (nI j) 1 Cz12)))) ∧ (rz10 = 0 → K39 (nI t) Cz9))) → w_X5_readTaken_6 (z_tkx.getD op 0) b Q K39 K104 (N + 1) (nI na) (nI t) (nI j) C := by
      intro N Q K39 K104 h
      refine ⟨l1, fun r => absurd r g1, fun _ => ⟨fun r => absurd r g2, fun _ => ⟨g3, ?_⟩⟩⟩
      rw [ni_cl (by omega)]
      exact e_tokFor ho (by omega) _ h
    -- the reference, up to its test
    have wM : ∀ (N : Nat) Q K78 K188, j_X11_readTakes_62 Q (w_X11_readTakes_29 Q K78 K188 N) K78 K188 (z_tks.getD op 0) (nI j) (nI (kd op j)) (nI (sm (wk (kd op j)))) M → w_X11_readTakes_29 Q K78 K188 (N + 1) (z_tks.getD op 0) (nI j) M := by
      intro N Q K78 K188 h
      refine wt29 (e_manyK ho _ ⟨fun r => absurd r g4, fun _ => e_kdK ho (by omega) _ ?_⟩)
      rcases k4 with k4 | k4 | k4 <;> rw [k4] at h ⊢
      · exact ⟨fun r => absurd rfl r, fun _ => h⟩
      · exact ⟨fun _ => ⟨fun r => absurd rfl r, fun _ => h⟩, fun r => absurd r (by decide)⟩
      · exact ⟨fun _ => ⟨fun _ => h, fun r => absurd r (by decide)⟩, fun r => absurd r (by decide)⟩
    have wk7 : wk (kd op j) < 7 := by rcases k4 with k4 | k4 | k4 <;> rw [k4] <;> decide
    by_cases he : e = wk (kd op j)
    · have htk2 : t < k := by
        refine E.2.2.2.2.1.mp ?_
        rw [he]
        rcases k4 with k4 | k4 | k4 <;> rw [k4] <;> decide
      have hs : m_a M 11 t = nI (sm (wk (kd op j))) := (E.so1 _ wk7).mpr he
      by_cases k3 : kd op j = 3
      · have he3 : e = 3 := by rw [he, k3]; rfl
        have hc3 : c_a C 1 t = 3 := by
          have := (E.kd1 3 (by decide)).mpr he3
          unfold kC at this
          rw [if_pos htk2] at this
          exact this
        have FC : axC b na C (c_paU C 1 b (nI (3 * na + j)) (nI t)) := (axC.rf b na C).pa (by omega) (by omega)
        have FM : axM na M (m_iS (m_aU (m_lU (m_aU (m_aU M 17 (nI (3 * na + j)) (m_a M 14 t)) 18 (nI (3 * na + j)) (m_a M 12 t)) 2 (nI (3 * na + j)) (m_l M 1 t)) 19 (nI (3 * na + j)) (m_a M 13 t)) 21 (nI (t + 1))) := (((((axM.rf na M).u (by decide) (by omega) (by omega)).u (by decide) (by omega) (by omega)).l (by omega) (by omega)).u (by decide) (by omega) (by omega)).i
        have stC : ∀ (N : Nat) Q K39 K104, w_X5_readTaken_6 (z_tkx.getD op 0) b Q K39 K104 N (nI na) (nI (t + 1)) (nI (j + 1)) (c_paU C 1 b (nI (3 * na + j)) (nI t)) → w_X5_readTaken_6 (z_tkx.getD op 0) b Q K39 K104 (N + 1) (nI na) (nI t) (nI j) C := by
          intro N Q K39 K104 h
          refine wC N Q K39 K104 (e_stands T htk E wk7 (fun _ => ⟨fun _ => e_kindAt T (by omega) _ ⟨fun r => absurd ((E.kd1 3 (by decide)).mpr he3) r, fun _ => ⟨fun r => absurd r (by decide), fun _ => ?_⟩⟩, fun r => absurd r (by decide)⟩) (fun r => absurd he r))
          rw [ix_C]
          refine ⟨i1, fun v1 h1 v2 h2 => ?_⟩
          rw [nI_1] at h1 h2
          subst h1
          subst h2
          exact h
        have stM : ∀ (N : Nat) Q K78 K188, w_X11_readTakes_29 Q K78 K188 N (z_tks.getD op 0) (nI (j + 1)) (m_iS (m_aU (m_lU (m_aU (m_aU M 17 (nI (3 * na + j)) (m_a M 14 t)) 18 (nI (3 * na + j)) (m_a M 12 t)) 2 (nI (3 * na + j)) (m_l M 1 t)) 19 (nI (3 * na + j)) (m_a M 13 t)) 21 (nI (t + 1))) → w_X11_readTakes_29 Q K78 K188 (N + 1) (z_tks.getD op 0) (nI j) M := by
          intro N Q K78 K188 h
          refine wM N Q K78 K188 ?_
          unfold j_X11_readTakes_62
          rw [m21, m24, ni_cl (by omega), ix_M, nI_1 t]
          refine ⟨i2, fun _ v hv2 => ?_, fun r => absurd hs r⟩
          subst hv2
          refine ⟨i1, fun r => absurd (by rw [k3]; rfl) r, fun _ v1 h1 => ?_⟩
          rw [nI_1] at h1
          subst h1
          exact h
        have nw : takA (c_paU C 1 b (nI (3 * na + j)) (nI t)) (m_iS (m_aU (m_lU (m_aU (m_aU M 17 (nI (3 * na + j)) (m_a M 14 t)) 18 (nI (3 * na + j)) (m_a M 12 t)) 2 (nI (3 * na + j)) (m_l M 1 t)) 19 (nI (3 * na + j)) (m_a M 13 t)) 21 (nI (t + 1))) b k na op j := by
          unfold takA
          rw [k3]
          refine ⟨fun q => absurd q (by decide), fun q => absurd q (by decide), fun _ => ⟨t, htk2, ?_, hc3, ?_, ?_, ?_⟩⟩
          · rw [cs_pa_paU, if_pos rfl, if_pos rfl, up_hit (by omega)]
          · exact upL_hit (by omega)
          · exact up_hit (by omega)
          · exact up_hit (by omega)
        have old : ∀ i, i < j → takA (c_paU C 1 b (nI (3 * na + j)) (nI t)) (m_iS (m_aU (m_lU (m_aU (m_aU M 17 (nI (3 * na + j)) (m_a M 14 t)) 18 (nI (3 * na + j)) (m_a M 12 t)) 2 (nI (3 * na + j)) (m_l M 1 t)) 19 (nI (3 * na + j)) (m_a M 13 t)) 21 (nI (t + 1))) b k na op i := by
          intro i hi
          have h := hA i hi
          unfold takA at h ⊢
          rw [cs_pa_paU, if_pos rfl, if_pos rfl, up_mis (by omega) (by omega)]
          have a1 : m_a (m_iS (m_aU (m_lU (m_aU (m_aU M 17 (nI (3 * na + j)) (m_a M 14 t)) 18 (nI (3 * na + j)) (m_a M 12 t)) 2 (nI (3 * na + j)) (m_l M 1 t)) 19 (nI (3 * na + j)) (m_a M 13 t)) 21 (nI (t + 1))) 17 (3 * na + i) = m_a M 17 (3 * na + i) := up_mis (by omega) (by omega)
          have a2 : m_a (m_iS (m_aU (m_lU (m_aU (m_aU M 17 (nI (3 * na + j)) (m_a M 14 t)) 18 (nI (3 * na + j)) (m_a M 12 t)) 2 (nI (3 * na + j)) (m_l M 1 t)) 19 (nI (3 * na + j)) (m_a M 13 t)) 21 (nI (t + 1))) 18 (3 * na + i) = m_a M 18 (3 * na + i) := up_mis (by omega) (by omega)
          have a3 : m_a (m_iS (m_aU (m_lU (m_aU (m_aU M 17 (nI (3 * na + j)) (m_a M 14 t)) 18 (nI (3 * na + j)) (m_a M 12 t)) 2 (nI (3 * na + j)) (m_l M 1 t)) 19 (nI (3 * na + j)) (m_a M 13 t)) 21 (nI (t + 1))) 19 (3 * na + i) = m_a M 19 (3 * na + i) := up_mis (by omega) (by omega)
          have a4 : m_l (m_iS (m_aU (m_lU (m_aU (m_aU M 17 (nI (3 * na + j)) (m_a M 14 t)) 18 (nI (3 * na + j)) (m_a M 12 t)) 2 (nI (3 * na + j)) (m_l M 1 t)) 19 (nI (3 * na + j)) (m_a M 13 t)) 21 (nI (t + 1))) 2 (3 * na + i) = m_l M 2 (3 * na + i) := upL_mis (by omega) (by omega)
          rw [a1, a2, a3, a4]
          exact h
        rcases ih (j + 1) (t := t + 1) (by omega) (T.ax FC FM) c3 m22 rfl (by omega) m24 (fun i hi => by
            by_cases q : i = j
            · subst q; exact nw
            · exact old i (by omega)) (fun i h1 h2 => (up_mis (by omega) (by omega)).trans (hz i (by omega) h2)) with ⟨C1, M1, e1, e2, e3, e4, e5, e6, e7, e8, ⟨N1, e9⟩, ⟨N2, e10⟩⟩ | ⟨C1, M1, f, e1, e2, e3, e4, e5, e6, e7, ⟨N1, e8⟩, ⟨N2, e9⟩⟩
        · have hd : t + (d + 1) = t + 1 + d := by omega
          rw [hd]
          exact Or.inl ⟨C1, M1, e1, e2, e3, e4, e5, e6, FC.tr e7, FM.tr e8, ⟨N1 + 1, fun Q K39 K104 hK => stC N1 Q K39 K104 (e9 Q K39 K104 hK)⟩, ⟨N2 + 1, fun Q K78 K188 hK => stM N2 Q K78 K188 (e10 Q K78 K188 hK)⟩⟩
        · exact Or.inr ⟨C1, M1, f, e1, e2, e3, e4, e5, FC.tr e6, FM.tr e7, ⟨N1 + 1, fun Q K39 K104 hK => stC N1 Q K39 K104 (e8 Q K39 K104 hK)⟩, ⟨N2 + 1, fun Q K78 K188 hK => stM N2 Q K78 K188 (e9 Q K78 K188 hK)⟩⟩
      · have hne3 : ¬ e = 3 := by
          rw [he]
          rcases k4 with k4 | k4 | k4
          · rw [k4]; decide
          · rw [k4]; decide
          · exact absurd k4 k3
        have hv : c_a C 3 t = m_a M 14 t := by
          rcases k4 with k4 | k4 | k4
          · exact (E.2.2.2.2.2.2.1 (by rw [he, k4]; rfl)).1
          · exact E.2.2.2.2.2.1 (by rw [he, k4]; rfl)
          · exact absurd k4 k3
        have FC : axC b na C (c_paU C 1 b (nI (3 * na + j)) (m_a M 14 t)) := (axC.rf b na C).pa (by omega) (by omega)
        have FM : axM na M (m_iS (m_aU (m_aU M 17 (nI (3 * na + j)) (m_a M 14 t)) 18 (nI (3 * na + j)) (m_a M 12 t)) 21 (nI (t + 1))) := (((axM.rf na M).u (by decide) (by omega) (by omega)).u (by decide) (by omega) (by omega)).i
        have stC : ∀ (N : Nat) Q K39 K104, w_X5_readTaken_6 (z_tkx.getD op 0) b Q K39 K104 N (nI na) (nI (t + 1)) (nI (j + 1)) (c_paU C 1 b (nI (3 * na + j)) (m_a M 14 t)) → w_X5_readTaken_6 (z_tkx.getD op 0) b Q K39 K104 (N + 1) (nI na) (nI t) (nI j) C := by
          intro N Q K39 K104 h
          refine wC N Q K39 K104 (e_stands T htk E wk7 (fun _ => ⟨fun _ => e_kindAt T (by omega) _ ⟨fun _ => ⟨fun _ => e_valueAt T htk2 _ ?_, fun r => absurd rfl r⟩, fun r => absurd ((E.kd1 3 (by decide)).mp r) hne3⟩, fun r => absurd r (by decide)⟩) (fun r => absurd he r))
          rw [ix_C, hv]
          refine ⟨i1, fun v1 h1 v2 h2 => ?_⟩
          rw [nI_1] at h1 h2
          subst h1
          subst h2
          exact h
        have stM : ∀ (N : Nat) Q K78 K188, w_X11_readTakes_29 Q K78 K188 N (z_tks.getD op 0) (nI (j + 1)) (m_iS (m_aU (m_aU M 17 (nI (3 * na + j)) (m_a M 14 t)) 18 (nI (3 * na + j)) (m_a M 12 t)) 21 (nI (t + 1))) → w_X11_readTakes_29 Q K78 K188 (N + 1) (z_tks.getD op 0) (nI j) M := by
          intro N Q K78 K188 h
          refine wM N Q K78 K188 ?_
          unfold j_X11_readTakes_62
          rw [m21, m24, ni_cl (by omega), ix_M, nI_1 t]
          refine ⟨i2, fun _ v hv2 => ?_, fun r => absurd hs r⟩
          subst hv2
          refine ⟨i1, fun _ v1 h1 => ?_, fun r => ?_⟩
          · rw [nI_1] at h1
            subst h1
            exact h
          · have r2 : kd op j = 3 := (ni_eql (by omega) (by decide)).mp r
            exact absurd r2 k3
        have nw : takA (c_paU C 1 b (nI (3 * na + j)) (m_a M 14 t)) (m_iS (m_aU (m_aU M 17 (nI (3 * na + j)) (m_a M 14 t)) 18 (nI (3 * na + j)) (m_a M 12 t)) 21 (nI (t + 1))) b k na op j := by
          have b1 : c_pa (c_paU C 1 b (nI (3 * na + j)) (m_a M 14 t)) 1 b (3 * na + j) = m_a M 14 t := by rw [cs_pa_paU, if_pos rfl, if_pos rfl, up_hit (by omega)]
          have b2 : m_a (m_iS (m_aU (m_aU M 17 (nI (3 * na + j)) (m_a M 14 t)) 18 (nI (3 * na + j)) (m_a M 12 t)) 21 (nI (t + 1))) 17 (3 * na + j) = m_a M 14 t := up_hit (by omega)
          have b3 : m_a (m_iS (m_aU (m_aU M 17 (nI (3 * na + j)) (m_a M 14 t)) 18 (nI (3 * na + j)) (m_a M 12 t)) 21 (nI (t + 1))) 19 (3 * na + j) = 0 := hz j (Nat.le_refl _) (by omega)
          unfold takA
          rw [b1, b2, b3]
          exact ⟨fun q => ⟨rfl, rfl, (E.2.2.2.2.2.2.1 (by rw [he, q]; rfl)).2⟩, fun _ => ⟨rfl, rfl⟩, fun q => absurd q k3⟩
        have old : ∀ i, i < j → takA (c_paU C 1 b (nI (3 * na + j)) (m_a M 14 t)) (m_iS (m_aU (m_aU M 17 (nI (3 * na + j)) (m_a M 14 t)) 18 (nI (3 * na + j)) (m_a M 12 t)) 21 (nI (t + 1))) b k na op i := by
          intro i hi
          have h := hA i hi
          unfold takA at h ⊢
          rw [cs_pa_paU, if_pos rfl, if_pos rfl, up_mis (by omega) (by omega)]
          have a1 : m_a (m_iS (m_aU (m_aU M 17 (nI (3 * na + j)) (m_a M 14 t)) 18 (nI (3 * na + j)) (m_a M 12 t)) 21 (nI (t + 1))) 17 (3 * na + i) = m_a M 17 (3 * na + i) := up_mis (by omega) (by omega)
          have a2 : m_a (m_iS (m_aU (m_aU M 17 (nI (3 * na + j)) (m_a M 14 t)) 18 (nI (3 * na + j)) (m_a M 12 t)) 21 (nI (t + 1))) 18 (3 * na + i) = m_a M 18 (3 * na + i) := up_mis (by omega) (by omega)
          rw [a1, a2]
          exact h
        rcases ih (j + 1) (t := t + 1) (by omega) (T.ax FC FM) c3 m22 rfl (by omega) m24 (fun i hi => by
            by_cases q : i = j
            · subst q; exact nw
            · exact old i (by omega)) (fun i h1 h2 => hz i (by omega) h2) with ⟨C1, M1, e1, e2, e3, e4, e5, e6, e7, e8, ⟨N1, e9⟩, ⟨N2, e10⟩⟩ | ⟨C1, M1, f, e1, e2, e3, e4, e5, e6, e7, ⟨N1, e8⟩, ⟨N2, e9⟩⟩
        · have hd : t + (d + 1) = t + 1 + d := by omega
          rw [hd]
          exact Or.inl ⟨C1, M1, e1, e2, e3, e4, e5, e6, FC.tr e7, FM.tr e8, ⟨N1 + 1, fun Q K39 K104 hK => stC N1 Q K39 K104 (e9 Q K39 K104 hK)⟩, ⟨N2 + 1, fun Q K78 K188 hK => stM N2 Q K78 K188 (e10 Q K78 K188 hK)⟩⟩
        · exact Or.inr ⟨C1, M1, f, e1, e2, e3, e4, e5, FC.tr e6, FM.tr e7, ⟨N1 + 1, fun Q K39 K104 hK => stC N1 Q K39 K104 (e8 Q K39 K104 hK)⟩, ⟨N2 + 1, fun Q K78 K188 hK => stM N2 Q K78 K188 (e9 Q K78 K188 hK)⟩⟩
    · have hs : ¬ m_a M 11 t = nI (sm (wk (kd op j))) := fun r => he ((E.so1 _ wk7).mp r)
      refine Or.inr ⟨_, M, t, htk, m21, m22, rfl, rfl, (axC.rf b na C).f, axM.rf na M, ⟨1, fun Q K39 K104 hK => wC 0 Q K39 K104 (e_stands T htk E wk7 (fun r => absurd r he) (fun _ => ⟨fun r => absurd rfl r, fun _ => hK⟩))⟩, ⟨1, fun Q K78 K188 hK => wM 0 Q K78 K188 ?_⟩⟩
      unfold j_X11_readTakes_62
      rw [m21, ni_cl (by omega)]
      exact ⟨i2, fun r => absurd r hs, fun _ => hK⟩
end ZR11
