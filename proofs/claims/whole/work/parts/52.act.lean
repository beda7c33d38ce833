/-! .. labels; one ACT is read; all of them -/
section ZR12
def lbR (pl l3 : Nat → Int64) (a20 a21 : Nat → Int32) (na nl : Nat) : Prop := ∃ la : Nat → Nat, (∀ i, i < nl → la i < na ∧ a21 i = nI (la i) ∧ nmR (pl (la i)) (l3 i) (a20 i)) ∧ (∀ i j, i < j → j < nl → la i < la j) ∧ (∀ a, a < na → pl a = 0 ∨ ∃ i, i < nl ∧ la i = a)
variable {C C1 : cS} {M M1 : mS} {n k j e w t s na nl op : Nat} {b : Bool} {y z : Int32} {pl l3 : Nat → Int64} {a20 a21 : Nat → Int32}
theorem lb_le (h : lbR pl l3 a20 a21 na nl) : nl ≤ na := by
  obtain ⟨la, h1, h2, h3⟩ := h
  have h4 : ∀ i, i < nl → i ≤ la i := by
    intro i
    induction i with
    | zero => intro _; omega
    | succ i ih =>
      intro hi
      have a := ih (by omega)
      have c := h2 i (i + 1) (by omega) hi
      omega
  cases nl with
  | zero => omega
  | succ m =>
    have a := h4 m (by omega)
    have c := (h1 m (by omega)).1
    omega
theorem lb_none (h : lbR pl l3 a20 a21 na nl) : lbR (vp_updL pl na 0) l3 a20 a21 (na + 1) nl := by
  obtain ⟨la, h1, h2, h3⟩ := h
  refine ⟨la, fun i hi => ?_, h2, fun a ha => ?_⟩
  · obtain ⟨g1, g2, g3⟩ := h1 i hi
    refine ⟨by omega, g2, ?_⟩
    rw [upL_at, if_neg (by omega)]
    exact g3
  · rw [upL_at]
    by_cases e : a = na
    · exact Or.inl (by rw [if_pos e])
    · rw [if_neg e]
      exact h3 a (by omega)
theorem lb_some {x y : Int64} (h : lbR pl l3 a20 a21 na nl) (q : nmR x y z) : lbR (vp_updL pl na x) (vp_updL l3 nl y) (upd a20 nl z) (upd a21 nl (nI na)) (na + 1) (nl + 1) := by
  obtain ⟨la, h1, h2, h3⟩ := h
  refine ⟨fun i => if i = nl then na else la i, fun i hi => ?_, fun i j hi hj => ?_, fun a ha => ?_⟩
  · rw [up_at, up_at, upL_at l3]
    dsimp only
    by_cases e : i = nl
    · rw [if_pos e, if_pos e, if_pos e, if_pos e, upL_at, if_pos rfl]
      exact ⟨by omega, rfl, q⟩
    · rw [if_neg e, if_neg e, if_neg e, if_neg e]
      obtain ⟨g1, g2, g3⟩ := h1 i (by omega)
      rw [upL_at, if_neg (by omega)]
      exact ⟨by omega, g2, g3⟩
  · show (if i = nl then na else la i) < (if j = nl then na else la j)
    rw [if_neg (by omega)]
    by_cases e : j = nl
    · rw [if_pos e]
      exact (h1 i (by omega)).1
    · rw [if_neg e]
      exact h2 i j hi (by omega)
  · rw [upL_at]
    by_cases e : a = na
    · exact Or.inr ⟨nl, by omega, by show (if nl = nl then na else la nl) = a; rw [if_pos rfl, e]⟩
    · rw [if_neg e]
      rcases h3 a (by omega) with g | ⟨i, g1, g2⟩
      · exact Or.inl g
      · exact Or.inr ⟨i, by omega, by show (if i = nl then na else la i) = a; rw [if_neg (by omega)]; exact g2⟩
theorem e_actLab {x : Int64} (hp : c_pn C b = nI na) (hna : na ≤ 150) {Q : Int32 → cS → Prop} (f : ∀ a, a < na → c_pl C b a = x → (∀ i, i < a → c_pl C b i ≠ x) → Q (nI a) C) (g : (∀ a, a < na → c_pl C b a ≠ x) → Q (-1) C) : p_X4_actLabelled b x C Q := by
  have L : ∀ d i, i + d = na → (∀ j, j < i → c_pl C b j ≠ x) → ∃ N, w_X4_actLabelled_2 b Q (fun l C => Q l C) (fun C => Q (-1) C) N x (nI i) C := by
    intro d
    induction d with
    | zero =>
      intro i hi h
      exact ⟨1, ⟨fun _ => g fun a ha => h a (by omega), fun r => absurd (by rw [hp, ni_le (by omega) (by omega)]; omega) r⟩⟩
    | succ d ih =>
      intro i hi h
      have h1 : ¬ c_pn C b ≤ nI i := by rw [hp, ni_le (by omega) (by omega)]; omega
      by_cases e : c_pl C b i = x
      · refine ⟨1, ⟨fun r => absurd r h1, fun _ => ⟨(ni_in (by omega)).mpr (by omega), ?_⟩⟩⟩
        rw [ni_cl (by omega), lg_cmp_eq]
        exact ⟨fun r => absurd e r, fun _ => f i (by omega) e h⟩
      · obtain ⟨N, hN⟩ := ih (i + 1) (by omega) (fun j hj => by
          by_cases q : j = i
          · subst q; exact e
          · exact h j (by omega))
        refine ⟨N + 1, ⟨fun r => absurd r h1, fun _ => ⟨(ni_in (by omega)).mpr (by omega), ?_⟩⟩⟩
        rw [ni_cl (by omega), lg_cmp_eq]
        refine ⟨fun _ v hv2 => ?_, fun r => absurd r e⟩
        rw [nI_1] at hv2
        subst hv2
        exact hN
  exact L na 0 (by omega) (fun j hj => by omega)
theorem e_labOf {x : Int64} (hp : m_i M 25 = nI nl) (hnl : nl ≤ 150) {Q : Int32 → mS → Prop} (f : ∀ a, a < nl → (m_l M 3 a = x ∧ m_a M 20 a = z) → (∀ i, i < a → ¬ (m_l M 3 i = x ∧ m_a M 20 i = z)) → Q (nI a) M) (g : (∀ a, a < nl → ¬ (m_l M 3 a = x ∧ m_a M 20 a = z)) → Q (-1) M) : p_X11_labelOf x z M Q := by
  have L : ∀ d i, i + d = nl → (∀ j, j < i → ¬ (m_l M 3 j = x ∧ m_a M 20 j = z)) → ∃ N, w_X11_labelOf_3 Q (fun l M => Q l M) (fun M => Q (-1) M) N x z (nI i) M := by
    intro d
    induction d with
    | zero =>
      intro i hi h
      exact ⟨1, ⟨fun _ => g fun a ha => h a (by omega), fun r => absurd (by rw [hp, ni_le (by omega) (by omega)]; omega) r⟩⟩
    | succ d ih =>
      intro i hi h
      have h1 : ¬ m_i M 25 ≤ nI i := by rw [hp, ni_le (by omega) (by omega)]; omega
      by_cases e : m_l M 3 i = x ∧ m_a M 20 i = z
      · refine ⟨1, ⟨fun r => absurd r h1, fun _ => ⟨(ni_in (by omega)).mpr (by omega), ?_⟩⟩⟩
        rw [ni_cl (by omega), lg_cmp_eq]
        exact ⟨fun r => absurd e.1 r, fun _ => ⟨fun r => absurd e.2 r, fun _ => f i (by omega) e h⟩⟩
      · obtain ⟨N, hN⟩ := ih (i + 1) (by omega) (fun j hj => by
          by_cases q : j = i
          · subst q; exact e
          · exact h j (by omega))
        refine ⟨N + 1, ⟨fun r => absurd r h1, fun _ => ⟨(ni_in (by omega)).mpr (by omega), ?_⟩⟩⟩
        rw [ni_cl (by omega), lg_cmp_eq]
        refine ⟨fun _ v hv2 => ?_, fun r1 => ⟨fun _ v hv2 => ?_, fun r2 => absurd ⟨r1, r2⟩ e⟩⟩
        · rw [nI_1] at hv2; subst hv2; exact hN
        · rw [nI_1] at hv2; subst hv2; exact hN
  exact L nl 0 (by omega) (fun j hj => by omega)
/-- a label is found by both, or by neither -/
theorem a_lab {x y : Int64} (B : lbR (c_pl C b) (m_l M 3) (m_a M 20) (m_a M 21) na nl) (hp : c_pn C b = nI na) (hna : na ≤ 150) (hq : m_i M 25 = nI nl) (q : nmR x y z) :
    (∃ i a, i < nl ∧ a < na ∧ m_a M 21 i = nI a ∧ (∀ Q, Q (nI a) C → p_X4_actLabelled b x C Q) ∧ (∀ Q, Q (nI i) M → p_X11_labelOf y z M Q)) ∨ ((∀ Q, Q (-1) C → p_X4_actLabelled b x C Q) ∧ (∀ Q, Q (-1) M → p_X11_labelOf y z M Q)) := by
  have hnl := lb_le B
  obtain ⟨la, h1, h2, h3⟩ := B
  have mono : ∀ i j, i ≤ j → j < nl → la i ≤ la j := by
    intro i j hi hj
    by_cases e : i = j
    · subst e; exact Nat.le_refl _
    · exact Nat.le_of_lt (h2 i j (by omega) hj)
  have iff1 : ∀ i, i < nl → (c_pl C b (la i) = x ↔ (m_l M 3 i = y ∧ m_a M 20 i = z)) := fun i hi => nm_eq (h1 i hi).2.2 q
  by_cases h : ∃ i, i < nl ∧ (m_l M 3 i = y ∧ m_a M 20 i = z)
  · obtain ⟨i, ⟨i1, i2⟩, i3⟩ := pk_least _ h
    left
    refine ⟨i, la i, i1, (h1 i i1).1, (h1 i i1).2.1, fun Q hQ => e_actLab hp hna (fun a ha e f => ?_) (fun f => absurd ((iff1 i i1).mpr i2) (f _ (h1 i i1).1)), fun Q hQ => e_labOf hq (by omega) (fun a ha e f => ?_) (fun f => absurd i2 (f i i1))⟩
    · have ea : a = la i := by
        rcases h3 a ha with g | ⟨j, g1, g2⟩
        · exact absurd (e.symm.trans g) (nm_ne q)
        · subst g2
          have m1 := (iff1 j g1).mp e
          have ij : ¬ j < i := fun r => i3 j r ⟨g1, m1⟩
          have a1 := mono i j (by omega) g1
          by_cases r : la i < la j
          · exact absurd ((iff1 i i1).mpr i2) (f _ r)
          · omega
      rw [ea]
      exact hQ
    · have ea : a = i := by
        by_cases r : a < i
        · exact absurd ⟨ha, e⟩ (i3 a r)
        · by_cases r2 : i < a
          · exact absurd i2 (f i r2)
          · omega
      rw [ea]
      exact hQ
  · right
    have no : ∀ i, i < nl → ¬ (m_l M 3 i = y ∧ m_a M 20 i = z) := fun i hi g => h ⟨i, hi, g⟩
    refine ⟨fun Q hQ => e_actLab hp hna (fun a ha e f => ?_) (fun _ => hQ), fun Q hQ => e_labOf hq (by omega) (fun a ha e f => absurd e (no a ha)) (fun _ => hQ)⟩
    exfalso
    rcases h3 a ha with g | ⟨j, g1, g2⟩
    · exact absurd (e.symm.trans g) (nm_ne q)
    · subst g2
      exact no j g1 ((iff1 j g1).mp e)
def act1 (C : cS) (M : mS) (b : Bool) (k i : Nat) : Prop := ∃ op, op < 26 ∧ c_pa C 0 b i = nI op ∧ m_a M 15 i = nI op ∧ c_pa C 2 b i = m_a M 16 i ∧ (∀ j, j < nt op → takA C M b k i op j) ∧ ∀ j, nt op ≤ j → j < 3 → m_a M 19 (3 * i + j) = 0
theorem act1.fr {i : Nat} (h : act1 C M b k i) (c1 : c_a C1 1 = c_a C 1) (c2 : c_pa C1 0 b i = c_pa C 0 b i) (c3 : c_pa C1 2 b i = c_pa C 2 b i) (c4 : ∀ j, j < 3 → c_pa C1 1 b (3 * i + j) = c_pa C 1 b (3 * i + j)) (m1 : m_a M1 12 = m_a M 12) (m2 : m_a M1 13 = m_a M 13) (m3 : m_l M1 1 = m_l M 1) (m4 : m_a M1 15 i = m_a M 15 i) (m5 : m_a M1 16 i = m_a M 16 i) (m6 : ∀ j, j < 3 → m_a M1 17 (3 * i + j) = m_a M 17 (3 * i + j) ∧ m_a M1 18 (3 * i + j) = m_a M 18 (3 * i + j) ∧ m_a M1 19 (3 * i + j) = m_a M 19 (3 * i + j) ∧ m_l M1 2 (3 * i + j) = m_l M 2 (3 * i + j)) : act1 C1 M1 b k i := by
  obtain ⟨op, o1, o2, o3, o4, o5, o6⟩ := h
  have l3 := (tk_len op o1).2.2.1
  refine ⟨op, o1, by rw [c2]; exact o2, by rw [m4]; exact o3, by rw [c3, m5]; exact o4, fun j hj => ?_, fun j h1 h2 => by rw [(m6 j h2).2.2.1]; exact o6 j h1 h2⟩
  have g := o5 j hj
  unfold takA at g ⊢
  obtain ⟨a1, a2, a3, a4⟩ := m6 j (by omega)
  rw [c4 j (by omega), a1, a2, a3, a4]
  exact g.ax c1 m1 m2 m3
def RD (C : cS) (M : mS) (b : Bool) (n k t na nl : Nat) : Prop := TT C M n k ∧ c_i C 3 = 0 ∧ m_i M 22 = 0 ∧ m_i M 21 = nI t ∧ t ≤ k ∧ c_pn C b = nI na ∧ m_i M 24 = nI na ∧ na ≤ 150 ∧ m_i M 25 = nI nl ∧ (∀ i, i < na → act1 C M b k i) ∧ lbR (c_pl C b) (m_l M 3) (m_a M 20) (m_a M 21) na nl
def flt (C : cS) (M : mS) : Prop := ¬ c_i C 3 = 0 ∧ c_i C 3 = m_i M 22 ∧ c_i C 4 = m_i M 23
/-- an act is read by both, or both tell the same fault -/
def rdE (b : Bool) (C : cS) (M : mS) (n k t na : Nat) (pC : (Int32 → cS → Prop) → Prop) (pM : (mS → Prop) → Prop) : Prop :=
  (∃ t1 nl1 C1 M1, t < t1 ∧ RD C1 M1 b n k t1 (na + 1) nl1 ∧ pfC b C C1 ∧ pfM M M1 ∧ (∀ Q, Q (nI t1) C1 → pC Q) ∧ (∀ Q, Q M1 → pM Q)) ∨ (∃ r C1 M1, flt C1 M1 ∧ pfC b C C1 ∧ pfM M M1 ∧ (∀ Q, Q r C1 → pC Q) ∧ (∀ Q, Q M1 → pM Q))
theorem two_ne : ¬ (2 : Int32) = 0 := by decide
theorem a_112 {lab : Int64} (T : TT C M n k) (c3 : c_i C 3 = 0) (m22 : m_i M 22 = 0) (m21 : m_i M 21 = nI s) (hs : s < k) (hts : t ≤ s) (cn : c_pn C b = nI na) (m24 : m_i M 24 = nI na) (hna : na < 150) (m25 : m_i M 25 = nI nl) (hA : ∀ i, i < na → act1 C M b k i) (H : lbR (vp_updL (c_pl C b) na lab) (m_l M 3) (m_a M 20) (m_a M 21) (na + 1) nl) (E : TE C M n k s 2) (ho : op < 26) (ho2 : m_a M 14 s = nI op) :
    rdE b C M n k t na (fun Q => j_X5_readAct_112 b Q (nI s) (nI na) (nI op) (nI na) lab C) (fun Q => j_X11_readAct_246 Q M) := by
  obtain ⟨t1, t2, t3, t4, t5, t6, t7⟩ := id T
  obtain ⟨l1, l2, l3, l4, l5⟩ := tk_len op ho
  have i1 : vp_in (nI na) 150 := (ni_in (by omega)).mpr (by omega)
  have i2 : vp_in (nI op) 26 := (ni_in (by omega)).mpr ho
  have i3 : vp_in (nI s) 2001 := (ni_in (by omega)).mpr (by omega)
  have hsort : m_a M 11 s = 1 := (E.so1 2 (by decide)).mpr rfl
  -- the class's state as the takes begin
  let D : cS := c_pnS (c_paU (c_paU (c_plU C b (nI na) lab) 0 b (nI na) (nI op)) 2 b (nI na) (m_a M 12 s)) b (nI (na + 1))
  let N0 : mS := m_iS (m_aU (m_aU M 15 (nI na) (nI op)) 16 (nI na) (m_a M 12 s)) 21 (nI (s + 1))
  let N1 : mS := m_aU (m_aU (m_aU N0 19 (nI (3 * na + 0)) 0) 19 (nI (3 * na + 1)) 0) 19 (nI (3 * na + 2)) 0
  have wC : ∀ Q, p_X5_readTaken (nI (s + 1)) (z_tkx.getD op 0) (nI na) b D Q → j_X5_readAct_112 b Q (nI s) (nI na) (nI op) (nI na) lab C := by
    intro Q h
    refine ⟨i1, i1, e_placeAt (C := c_paU (c_plU C b (nI na) lab) 0 b (nI na) (nI op)) (n := n) (k := k) (j := s) t1 t2 (by omega) (by omega) _ ⟨i2, ?_⟩⟩
    have e1 : plC (c_paU (c_plU C b (nI na) lab) 0 b (nI na) (nI op)) k n s = m_a M 12 s := E.2.2.2.1
    have e2 : c_pn (c_paU (c_plU C b (nI na) lab) 0 b (nI na) (nI op)) b = nI na := cn
    rw [e1, e2, nI_1, nI_1, ni_cl (by omega)]
    exact h
  have wM : ∀ Q, (∃ N : Nat, w_X11_readTakes_29 (fun Mz12 => p_X11_good Mz12 (fun rz14 Mz13 => ((¬ rz14 = 0 → vp_in (m_i Mz13 21) 2001 ∧ ((((m_a Mz13 11) (m_i Mz13 21).toNatClampNeg) = 6 → Q (m_iS (m_iS Mz13 21 ((m_i Mz13 21) + 1)) 24 ((m_i Mz13 24) + 1))) ∧ (¬ ((m_a Mz13 11) (m_i Mz13 21).toNatClampNeg) = 6 → p_X11_fails 2 ((m_a Mz13 12) (m_i Mz13 21).toNatClampNeg) Mz13 (fun Mz18 => Q Mz18)))) ∧ (rz14 = 0 → Q Mz13)))) (fun Mz20 => vp_in (m_i Mz20 21) 2001 ∧ p_X11_fails 2 ((m_a Mz20 12) (m_i Mz20 21).toNatClampNeg) Mz20 (fun Mz22 => p_X11_good Mz22 (fun rz14 Mz13 => ((¬ rz14 = 0 → vp_in (m_i Mz13 21) 2001 ∧ ((((m_a Mz13 11) (m_i Mz13 21).toNatClampNeg) = 6 → Q (m_iS (m_iS Mz13 21 ((m_i Mz13 21) + 1)) 24 ((m_i Mz13 24) + 1))) ∧ (¬ ((m_a Mz13 11) (m_i Mz13 21).toNatClampNeg) = 6 → p_X11_fails 2 ((m_a Mz13 12) (m_i Mz13 21).toNatClampNeg) Mz13 (fun Mz18 => Q Mz18)))) ∧ (rz14 = 0 → Q Mz13))))) (fun Mz23 => p_X11_good Mz23 (fun rz14 Mz13 => ((¬ rz14 = 0 → vp_in (m_i Mz13 21) 2001 ∧ ((((m_a Mz13 11) (m_i Mz13 21).toNatClampNeg) = 6 → Q (m_iS (m_iS Mz13 21 ((m_i Mz13 21) + 1)) 24 ((m_i Mz13 24) + 1))) ∧ (¬ ((m_a Mz13 11) (m_i Mz13 21).toNatClampNeg) = 6 → p_X11_fails 2 ((m_a Mz13 12) (m_i Mz13 21).toNatClampNeg) Mz13 (fun Mz18 => Q Mz18)))) ∧ (rz14 = 0 → Q Mz13)))) N (z_tks.getD op 0) 0 N1) → j_X11_readAct_246 Q M := by
    intro Q h
    unfold j_X11_readAct_246
    rw [m21, m24, ni_cl (a := s) (by omega), ni_cl (a := na) (by omega), ho2, up_at, if_pos rfl, ni_cl (a := op) (by omega), nI_1]
    refine ⟨i3, fun _ => ⟨i1, i2, ?_⟩, fun r => absurd hsort r⟩
    have n24 : ∀ j, (3 * m_i N0 24 : Int32) + nI j = nI (3 * na + j) := fun j => by
      show (3 * m_i M 24 : Int32) + nI j = _
      rw [m24]; exact ix_M na j
    have v : ∀ j, j < 3 → vp_in (nI (3 * na + j)) 450 := fun j hj => (ni_in (by omega)).mpr (by omega)
    refine ⟨4, ⟨fun r => absurd r (by decide), fun _ => ?_⟩⟩
    have a0 : (3 * m_i N0 24 : Int32) + 0 = nI (3 * na + 0) := n24 0
    have a1 : (3 * m_i N0 24 : Int32) + 1 = nI (3 * na + 1) := n24 1
    have a2 : (3 * m_i N0 24 : Int32) + 2 = nI (3 * na + 2) := n24 2
    show vp_in ((3 * m_i N0 24 : Int32) + 0) 450 ∧ _
    refine ⟨by rw [a0]; exact v 0 (by decide), fun u1 h1 => ?_⟩
    have h1 : u1 = 1 := h1
    subst h1
    refine ⟨fun r => absurd r (by decide), fun _ => ?_⟩
    show vp_in ((3 * m_i N0 24 : Int32) + 1) 450 ∧ _
    refine ⟨by rw [a1]; exact v 1 (by decide), fun u2 h2 => ?_⟩
    have h2 : u2 = 2 := h2
    subst h2
    refine ⟨fun r => absurd r (by decide), fun _ => ?_⟩
    show vp_in ((3 * m_i N0 24 : Int32) + 2) 450 ∧ _
    refine ⟨by rw [a2]; exact v 2 (by decide), fun u3 h3 => ?_⟩
    have h3 : u3 = 3 := h3
    subst h3
    refine ⟨fun _ => ?_, fun r => absurd (by decide) r⟩
    show ∃ N, w_X11_readTakes_29 _ _ _ N (z_tks.getD op 0) 0 (m_aU (m_aU (m_aU N0 19 ((3 * m_i N0 24 : Int32) + 0) 0) 19 ((3 * m_i N0 24 : Int32) + 1) 0) 19 ((3 * m_i N0 24 : Int32) + 2) 0)
    rw [a0, a1, a2]
    exact h
  have z19 : ∀ i, 0 ≤ i → i < 3 → m_a N1 19 (3 * na + i) = 0 := by
    intro i _ hi
    show upd (upd (upd (m_a N0 19) (nI (3 * na + 0)).toNatClampNeg 0) (nI (3 * na + 1)).toNatClampNeg 0) (nI (3 * na + 2)).toNatClampNeg 0 (3 * na + i) = 0
    rw [ni_cl (by omega), ni_cl (by omega), ni_cl (by omega), up_at, up_at, up_at]
    by_cases e2 : i = 2
    · rw [if_pos (by omega)]
    · rw [if_neg (by omega)]
      by_cases e1 : i = 1
      · rw [if_pos (by omega)]
      · rw [if_neg (by omega), if_pos (by omega)]
  have D0 : c_pa D 0 b = upd (c_pa C 0 b) (nI na).toNatClampNeg (nI op) := by
    show c_pa (c_pnS (c_paU (c_paU (c_plU C b (nI na) lab) 0 b (nI na) (nI op)) 2 b (nI na) (m_a M 12 s)) b (nI (na + 1))) 0 b = _
    rw [cs_pa_pnS, cs_pa_paU, if_neg (by decide), cs_pa_paU, if_pos rfl, if_pos rfl, cs_pa_plU]
  have D2 : c_pa D 2 b = upd (c_pa C 2 b) (nI na).toNatClampNeg (m_a M 12 s) := by
    show c_pa (c_pnS (c_paU (c_paU (c_plU C b (nI na) lab) 0 b (nI na) (nI op)) 2 b (nI na) (m_a M 12 s)) b (nI (na + 1))) 2 b = _
    rw [cs_pa_pnS, cs_pa_paU, if_pos rfl, if_pos rfl, cs_pa_paU, if_neg (by decide), cs_pa_plU]
  have TD : TT D N1 n k := ⟨t1, t2, t3, t4, fun j hj => (t5 j hj).rw ⟨rfl, rfl, rfl, rfl⟩ ⟨rfl, rfl, rfl, rfl, rfl⟩, t6, t7⟩
  have fC : pfC b C D := ((((pfC.rf b C).pl).pa).pa).pn
  have fM : pfM M N1 := ((((((pfM.rf M).u (by decide)).u (by decide)).i (by decide)).u (by decide)).u (by decide)).u (by decide)
  -- what the takes leave of the acts
  have hA2 : ∀ {C2 : cS} {M2 : mS}, axC b na D C2 → axM na N1 M2 → ∀ i, i < na → act1 C2 M2 b k i := by
    intro C2 M2 gc gm i hi
    obtain ⟨-, p2, p3, p4, p5, p6, p7, p8, p9⟩ := gc
    obtain ⟨-, q2, q3, q4, q5⟩ := gm
    refine (hA i hi).fr (by rw [p3]; rfl) ?_ ?_ (fun j hj => ?_) (by rw [q3 12 (by omega)]; rfl) (by rw [q3 13 (by omega)]; rfl) (by rw [q4 1 (by decide)]; rfl) ?_ ?_ (fun j hj => ?_)
    · rw [p7, D0]
      exact up_mis (by omega) (by omega)
    · rw [p8, D2]
      exact up_mis (by omega) (by omega)
    · rw [p9 _ (by omega)]
      rfl
    · rw [q3 15 (by omega)]
      exact up_mis (by omega) (by omega)
    · rw [q3 16 (by omega)]
      exact up_mis (by omega) (by omega)
    · obtain ⟨r1, r2, r3, r4⟩ := q5 (3 * i + j) (by omega)
      refine ⟨by rw [r1]; rfl, by rw [r2]; rfl, ?_, by rw [r4]; rfl⟩
      rw [r3]
      show upd (upd (upd (m_a M 19) (nI (3 * na + 0)).toNatClampNeg 0) (nI (3 * na + 1)).toNatClampNeg 0) (nI (3 * na + 2)).toNatClampNeg 0 (3 * i + j) = _
      rw [up_mis (by omega) (by omega), up_mis (by omega) (by omega), up_mis (by omega) (by omega)]
  rcases a_takes (b := b) (C := D) (M := N1) (t := s + 1) ho hna (nt op) 0 (by omega) TD c3 m22 rfl (by omega) m24 (fun i hi => by omega) z19 with ⟨C1, M1, e1, e2, e3, e4, e5, e6, e7, e8, ⟨X1, e9⟩, ⟨X2, e10⟩⟩ | ⟨C1, M1, f, e1, e2, e3, e4, e5, e6, e7, ⟨X1, e8⟩, ⟨X2, e9⟩⟩
  · have T1 := TD.ax e7 e8
    obtain ⟨g, G⟩ := T1.ex1 (j := s + 1 + nt op) e4
    have gC := fC.tr e7.1
    have gM := fM.tr e8.1
    have i4 : vp_in (nI (s + 1 + nt op)) 2001 := (ni_in (by omega)).mpr (by omega)
    have m24b : m_i M1 24 = nI na := by rw [e8.2.1 24 (by decide) (by decide) (by decide)]; exact m24
    by_cases h5 : g = 5
    · have hlt : s + 1 + nt op < k := G.2.2.2.2.1.mp (by omega)
      left
      refine ⟨s + 1 + nt op + 1, nl, C1, m_iS (m_iS M1 21 (nI (s + 1 + nt op + 1))) 24 (nI (na + 1)), by omega, ⟨?_, e1, e2, rfl, by omega, ?_, rfl, by omega, ?_, fun i hi => ?_, ?_⟩, gC, (gM.i (by decide)).i (by decide), fun Q hQ => wC Q ⟨X1, e9 _ _ _ (e_stands (w := 5) T1 e4 G (by decide) (fun _ => ?_) (fun r => absurd h5 r))⟩, fun Q hQ => wM Q ⟨X2, e10 _ _ _ (e_good e2 _ ⟨fun _ => ⟨?_, fun _ => ?_, fun r => absurd ?_ r⟩, fun r => absurd r (by decide)⟩)⟩⟩
      · obtain ⟨u1, u2, u3, u4, u5, u6, u7⟩ := T1
        exact ⟨u1, u2, u3, u4, fun j hj => (u5 j hj).rw ⟨rfl, rfl, rfl, rfl⟩ ⟨rfl, rfl, rfl, rfl, rfl⟩, u6, u7⟩
      · rw [e7.2.2.2.2.1]
        show (if b = b then nI (na + 1) else _) = _
        rw [if_pos rfl]
      · show m_i M1 25 = _
        rw [e8.2.1 25 (by decide) (by decide) (by decide)]; exact m25
      · by_cases q : i = na
        · subst q
          refine ⟨op, ho, ?_, ?_, ?_, fun j hj => e5 j hj, fun j h1 h2 => e6 j h1 h2⟩
          · rw [e7.2.2.2.2.2.2.1, D0]
            exact up_hit (by omega)
          · show m_a M1 15 i = _
            rw [e8.2.2.1 15 (by omega)]
            exact up_hit (by omega)
          · show c_pa C1 2 b i = m_a M1 16 i
            rw [e7.2.2.2.2.2.2.2.1, e8.2.2.1 16 (by omega), D2]
            show _ = upd (m_a M 16) (nI i).toNatClampNeg (m_a M 12 s) i
            rw [up_hit (by omega), up_hit (by omega)]
        · exact (hA2 e7 e8 i (by omega)).fr rfl rfl rfl (fun _ _ => rfl) rfl rfl rfl rfl rfl (fun _ _ => ⟨rfl, rfl, rfl, rfl⟩)
      · rw [e7.2.2.2.2.2.1]
        show lbR (if b = b then vp_updL (c_pl C b) (nI na).toNatClampNeg lab else _) (m_l M1 3) (m_a M1 20) (m_a M1 21) (na + 1) nl
        rw [if_pos rfl, ni_cl (by omega), e8.2.2.2.1 3 (by decide), e8.2.2.1 20 (by omega), e8.2.2.1 21 (by omega)]
        exact H
      · rw [nI_1]; exact hQ
      · rw [e3]; exact i4
      · rw [e3, m24b, nI_1, nI_1]; exact hQ
      · rw [e3, ni_cl (by omega)]
        exact (G.so1 5 (by decide)).mpr h5
    · right
      refine ⟨nI (s + 1 + nt op) + 1, c_iS (c_iS C1 3 2) 4 (m_a M1 12 (s + 1 + nt op)), m_iS (m_iS M1 22 2) 23 (m_a M1 12 (s + 1 + nt op)), ⟨two_ne, rfl, rfl⟩, (gC.i (by decide)).i (by decide), (gM.i (by decide)).i (by decide), fun Q hQ => wC Q ⟨X1, e9 _ _ _ (e_stands (w := 5) T1 e4 G (by decide) (fun r => absurd r h5) (fun _ => hQ))⟩, fun Q hQ => wM Q ⟨X2, e10 _ _ _ (e_good e2 _ ⟨fun _ => ⟨?_, fun r => absurd ?_ h5, fun _ => ?_⟩, fun r => absurd r (by decide)⟩)⟩⟩
      · rw [e3]; exact i4
      · rw [e3, ni_cl (by omega)] at r
        exact (G.so1 5 (by decide)).mp r
      · rw [e3, ni_cl (by omega)]
        exact e_fails e2 2 _ _ hQ
  · have gC := fC.tr e6.1
    have gM := fM.tr e7.1
    right
    refine ⟨nI f + 1, C1, m_iS (m_iS M1 22 2) 23 (m_a M1 12 f), ⟨by rw [e4]; exact two_ne, e4, e5⟩, gC, (gM.i (by decide)).i (by decide), fun Q hQ => wC Q ⟨X1, e8 _ _ _ hQ⟩, fun Q hQ => wM Q ⟨X2, e9 _ _ _ ⟨?_, ?_⟩⟩⟩
    · rw [e2]; exact (ni_in (by omega)).mpr (by omega)
    · rw [e2, ni_cl (by omega)]
      exact e_fails e3 2 _ _ (e_bad (M := m_iS (m_iS M1 22 2) 23 (m_a M1 12 f)) two_ne _ ⟨fun r => absurd rfl r, fun _ => hQ⟩)
end ZR12
