/-! THE RUNNER: one step -/
section ZU17
def p_X10_beginB (C : cS) (Q : cS → Prop) : Prop :=
  p_X6_start (c_cur C) C (fun Cz1 => Q Cz1)
def b_X10_run_43 (R9 : Int32 → Int32 → cS → Prop) (Q : Int32 → cS → Prop) (K64 : Int32 → cS → Prop) (l1 : Int32) (l2 : Int32) (C : cS) : Prop :=
  ((l1 ≤ l2 → K64 l2 C) ∧ (¬ l1 ≤ l2 → p_X6_step C (fun rz3 Cz2 => ((rz3 = 0 → K64 l2 Cz2) ∧ (¬ rz3 = 0 → ∀ vz5 : Int32, vz5 = l2 + 1 → R9 l1 vz5 Cz2)))))
def w_X10_run_43 (Q : Int32 → cS → Prop) (K64 : Int32 → cS → Prop) : Nat → Int32 → Int32 → cS → Prop
 | 0 => fun _ _ _ => False
 | n + 1 => fun l1 l2 C => b_X10_run_43 (w_X10_run_43 Q K64 n) Q K64 l1 l2 C
def p_X10_runB (a1 : Int32) (C : cS) (Q : Int32 → cS → Prop) : Prop :=
  ∃ nz8 : Nat, w_X10_run_43 Q (fun lz6 Cz7 => Q lz6 Cz7) nz8 a1 0 C
def p_X10_saidB (a1 : Int32) (C : cS) (Q : Int32 → cS → Prop) : Prop :=
  vp_in a1 300 ∧ Q ((c_a C 16) a1.toNatClampNeg) C
def p_X10_begin (C : cS) (Q : cS → Prop) (QX : String → cS → Prop) : Prop := ((¬ c_i C 1 = 0 → p_X10_beginB C Q) ∧ (c_i C 1 = 0 → QX "java/lang/IllegalStateException" C))
def p_X10_run (a1 : Int32) (C : cS) (Q : Int32 → cS → Prop) (QX : String → cS → Prop) : Prop := ((a1 < 0 → QX "java/lang/IllegalArgumentException" C) ∧ (¬ a1 < 0 → ((a1 ≤ 2000 → ((¬ c_i C 16 = 0 → p_X10_runB a1 C Q) ∧ (c_i C 16 = 0 → QX "java/lang/IllegalStateException" C))) ∧ (¬ a1 ≤ 2000 → QX "java/lang/IllegalArgumentException" C))))
def p_X10_said (a1 : Int32) (C : cS) (Q : Int32 → cS → Prop) (QX : String → cS → Prop) : Prop := p_X6_hasSaid a1 C (fun r C1 => ((¬ r = 0 → p_X10_saidB a1 C1 Q) ∧ (r = 0 → QX "java/util/NoSuchElementException" C1)))
variable {C C1 : cS} {M M1 : mS} {n k j e w t s pc cs sd na nl op x : Nat} {b : Bool} {y z : Int32}
theorem RelA.cg (A : RelA C M) (f1 : c_sz C1 = c_sz C) (f5 : ∀ k, 9 ≤ k → k ≤ 15 → c_i C1 k = c_i C k) (f6 : ∀ k, 10 ≤ k → k ≤ 14 → c_a C1 k = c_a C k) (g1 : ∀ k, k ≠ 2 → k ≤ 18 → m_i M1 k = m_i M k) (g2 : ∀ k, k ≤ 8 → m_a M1 k = m_a M k) : RelA C1 M1 := by
  unfold RelA RelM gSc gC at A ⊢
  rw [f1, f5 9 (by decide) (by decide), f5 10 (by decide) (by decide), f5 11 (by decide) (by decide), f5 12 (by decide) (by decide), f5 13 (by decide) (by decide), f5 14 (by decide) (by decide), f5 15 (by decide) (by decide),
    f6 10 (by decide) (by decide), f6 11 (by decide) (by decide), f6 12 (by decide) (by decide), f6 13 (by decide) (by decide), f6 14 (by decide) (by decide),
    g1 0 (by decide) (by decide), g1 1 (by decide) (by decide), g1 3 (by decide) (by decide), g1 4 (by decide) (by decide), g1 5 (by decide) (by decide), g1 6 (by decide) (by decide), g1 7 (by decide) (by decide), g1 8 (by decide) (by decide), g1 9 (by decide) (by decide), g1 10 (by decide) (by decide),
    g1 11 (by decide) (by decide), g1 12 (by decide) (by decide), g1 13 (by decide) (by decide), g1 14 (by decide) (by decide), g1 15 (by decide) (by decide), g1 16 (by decide) (by decide), g1 17 (by decide) (by decide), g1 18 (by decide) (by decide),
    g2 0 (by decide), g2 1 (by decide), g2 2 (by decide), g2 3 (by decide), g2 4 (by decide), g2 5 (by decide), g2 6 (by decide), g2 7 (by decide), g2 8 (by decide)]
  exact A
/-- what a run leaves -/
def rfC (C C1 : cS) : Prop := c_sz C1 = c_sz C ∧ c_cur C1 = c_cur C ∧ c_spa C1 = c_spa C ∧ c_rp C1 = c_rp C ∧ (∀ k, (k < 11 ∨ 21 < k) → c_i C1 k = c_i C k) ∧ (∀ k, (k < 10 ∨ 16 < k) → c_a C1 k = c_a C k) ∧ (∀ k, c_l C1 k = c_l C k) ∧ (∀ d, c_pn C1 d = c_pn C d) ∧ (∀ k d, c_pa C1 k d = c_pa C k d) ∧ (∀ d, c_pl C1 d = c_pl C d)
def rfM (M M1 : mS) : Prop := (∀ k, (k < 3 ∨ (18 < k ∧ k < 28) ∨ 33 < k) → m_i M1 k = m_i M k) ∧ (∀ k, ((8 < k ∧ k < 25) ∨ 26 < k) → m_a M1 k = m_a M k) ∧ (∀ k, m_l M1 k = m_l M k)
theorem rfC.rf (C : cS) : rfC C C := ⟨rfl, rfl, rfl, rfl, fun _ _ => rfl, fun _ _ => rfl, fun _ => rfl, fun _ => rfl, fun _ _ => rfl, fun _ => rfl⟩
theorem rfM.rf (M : mS) : rfM M M := ⟨fun _ _ => rfl, fun _ _ => rfl, fun _ => rfl⟩
theorem rfC.tr {C D E : cS} (h : rfC C D) (g : rfC D E) : rfC C E := by
  obtain ⟨h1, h2, h3, h4, h5, h6, h7, h8, h9, h10⟩ := h
  obtain ⟨g1, g2, g3, g4, g5, g6, g7, g8, g9, g10⟩ := g
  exact ⟨g1.trans h1, g2.trans h2, g3.trans h3, g4.trans h4, fun k q => (g5 k q).trans (h5 k q), fun k q => (g6 k q).trans (h6 k q), fun k => (g7 k).trans (h7 k), fun k => (g8 k).trans (h8 k), fun k d => (g9 k d).trans (h9 k d), fun k => (g10 k).trans (h10 k)⟩
theorem rfM.tr {C D E : mS} (h : rfM C D) (g : rfM D E) : rfM C E := by
  obtain ⟨h1, h2, h3⟩ := h
  obtain ⟨g1, g2, g3⟩ := g
  exact ⟨fun k q => (g1 k q).trans (h1 k q), fun k q => (g2 k q).trans (h2 k q), fun k => (g3 k).trans (h3 k)⟩
theorem rfC.i {C D : cS} {k : Nat} {v : Int32} (h : rfC C D) (hk : 11 ≤ k ∧ k ≤ 21) : rfC C (c_iS D k v) :=
  h.tr ⟨rfl, rfl, rfl, rfl, fun j q => by rw [cs_i_iS, if_neg (by omega)], fun _ _ => rfl, fun _ => rfl, fun _ => rfl, fun _ _ => rfl, fun _ => rfl⟩
theorem rfC.u {C D : cS} {k : Nat} {v w : Int32} (h : rfC C D) (hk : 10 ≤ k ∧ k ≤ 16) : rfC C (c_aU D k v w) :=
  h.tr ⟨rfl, rfl, rfl, rfl, fun _ _ => rfl, fun j q => by rw [cs_a_aU, if_neg (by omega)], fun _ => rfl, fun _ => rfl, fun _ _ => rfl, fun _ => rfl⟩
theorem rfM.i {C D : mS} {k : Nat} {v : Int32} (h : rfM C D) (hk : (3 ≤ k ∧ k ≤ 18) ∨ (28 ≤ k ∧ k ≤ 33)) : rfM C (m_iS D k v) :=
  h.tr ⟨fun j q => by rw [ms_i_iS, if_neg (by omega)], fun _ _ => rfl, fun _ => rfl⟩
theorem rfM.u {C D : mS} {k : Nat} {v w : Int32} (h : rfM C D) (hk : k ≤ 8 ∨ (25 ≤ k ∧ k ≤ 26)) : rfM C (m_aU D k v w) :=
  h.tr ⟨fun _ _ => rfl, fun j q => by rw [ms_a_aU, if_neg (by omega)], fun _ => rfl⟩
theorem wrC.r {C C1 : cS} (h : wrC C C1) : rfC C C1 := by
  obtain ⟨h1, h2, h3, h4, h5, h6, h7, h8, h9, h10⟩ := h
  exact ⟨h1, h2, h3, h4, fun k q => h5 k (by omega), fun k q => h6 k (by omega), h7, h8, h9, h10⟩
theorem wrM.r {M M1 : mS} (h : wrM M M1) : rfM M M1 := by
  obtain ⟨h1, h2, h3⟩ := h
  exact ⟨fun k q => h1 k (by omega), fun k q => h2 k (by omega), h3⟩
theorem prog.fr (P : prog C M b na) (fc : rfC C C1) (fm : rfM M M1) : prog C1 M1 b na := by
  obtain ⟨p1, p2, p3, p4⟩ := P
  obtain ⟨-, -, -, -, -, -, -, f8, f9, -⟩ := fc
  obtain ⟨g1, g2, -⟩ := fm
  refine ⟨p1, by rw [f8]; exact p2, by rw [g1 26 (by omega)]; exact p3, fun i hi => ?_⟩
  obtain ⟨op, o1, o2, o3, o4, o5⟩ := p4 i hi
  refine ⟨op, o1, by rw [f9]; exact o2, by rw [g2 22 (by omega)]; exact o3, by rw [f9, g2 23 (by omega)]; exact o4, fun j hj => ?_⟩
  rw [f9, g2 24 (by omega)]
  exact o5 j hj
/-- a run that stands: s its state, pc the next act, cs open calls, sd numbers said -/
def rn (C : cS) (M : mS) (na s pc cs sd : Nat) : Prop := c_rp C = c_cur C ∧ (1 ≤ s ∧ s ≤ 3) ∧ c_i C 16 = nI s ∧ m_i M 28 = nI s ∧ (s ≠ 2 → pc < na ∧ c_i C 18 = nI pc ∧ m_i M 30 = nI pc) ∧ c_i C 19 = m_i M 31 ∧ c_i C 20 = nI cs ∧ m_i M 32 = nI cs ∧ cs ≤ 30 ∧ (∀ j, j < cs → ∃ a, a ≤ na ∧ c_a C 15 j = nI a ∧ m_a M 25 j = nI a) ∧ c_i C 21 = nI sd ∧ m_i M 33 = nI sd ∧ ∀ j, j < sd → j < 300 → c_a C 16 j = m_a M 26 j
def stE (na x : Nat) : Nat := if x = na then 2 else 1
theorem e_goC (hp : c_pn C (c_rp C) = nI na) (hna : na ≤ 150) (hx : x ≤ na) : ∀ Q, Q 0 (c_iS (c_iS C 18 (nI x)) 16 (nI (stE na x))) → p_X6_goOnAt (nI x) C Q := by
  intro Q hQ
  unfold stE at hQ
  refine ⟨fun r => ?_, fun r => ?_⟩
  · rw [hp, ni_le (by omega) (by omega)] at r
    rw [if_pos (by omega)] at hQ
    exact hQ
  · rw [hp, ni_le (by omega) (by omega)] at r
    rw [if_neg (by omega)] at hQ
    exact hQ
theorem e_goM (hp : m_i M 26 = nI na) (hna : na ≤ 150) (hx : x ≤ na) : ∀ Q, Q (m_iS (m_iS M 30 (nI x)) 28 (nI (stE na x))) → p_X11_goes (nI x) M Q := by
  intro Q hQ
  unfold stE at hQ
  refine ⟨fun r => ?_, fun r => ?_⟩
  · rw [hp, ni_eq (by omega) (by omega)] at r
    rw [if_neg r] at hQ
    exact hQ
  · rw [hp, ni_eq (by omega) (by omega)] at r
    rw [if_pos r] at hQ
    exact hQ
theorem c_iS_cm (C : cS) {k j : Nat} (h : k ≠ j) (v w : Int32) : c_iS (c_iS C k v) j w = c_iS (c_iS C j w) k v := by
  have e : (fun x => if x = j then w else (if x = k then v else c_i C x)) = (fun x => if x = k then v else (if x = j then w else c_i C x)) := by
    funext x
    by_cases h1 : x = j
    · rw [if_pos h1, if_neg (by omega), if_pos h1]
    · rw [if_neg h1]
      by_cases h2 : x = k
      · rw [if_pos h2, if_pos h2]
      · rw [if_neg h2, if_neg h2, if_neg h1]
  show (C.1, C.2.1, (fun x => if x = j then w else (if x = k then v else c_i C x)), C.2.2.2) = (C.1, C.2.1, (fun x => if x = k then v else (if x = j then w else c_i C x)), C.2.2.2)
  rw [e]
theorem stE_12 (na x : Nat) : stE na x = 1 ∨ stE na x = 2 := by unfold stE; by_cases h : x = na; exact Or.inr (if_pos h); exact Or.inl (if_neg h)
theorem stE_rg (na x : Nat) : 1 ≤ stE na x ∧ stE na x ≤ 3 := by rcases stE_12 na x with h | h <;> omega
theorem stE_ne {na x : Nat} (h : stE na x ≠ 2) : x ≠ na := fun e => h (by unfold stE; exact if_pos e)
/-- what a step comes to -/
def stR (C : cS) (M : mS) (b : Bool) (na sd : Nat) : Prop :=
  (∃ C1 M1 s1 pc1 cs1 sd1, (s1 = 1 ∨ s1 = 2) ∧ RelA C1 M1 ∧ rn C1 (m_iS M1 31 (m_i M1 31 + 1)) na s1 pc1 cs1 sd1 ∧ c_i C1 17 = 0 ∧ sd1 ≤ sd + 1 ∧ rfC C C1 ∧ rfM M M1 ∧ (∀ Q, Q 1 C1 → p_X6_step C Q) ∧ (∀ Q, Q 0 M1 → p_X11_step M Q)) ∨
  (∃ e C1 M1 pc cs, ¬ e ≤ 0 ∧ RelA C1 M1 ∧ rn C1 (m_iS (m_iS M1 28 3) 29 e) na 3 pc cs sd ∧ c_i C1 17 = e ∧ rfC C C1 ∧ rfM M M1 ∧ (∀ Q, Q 0 C1 → p_X6_step C Q) ∧ (∀ Q, Q e M1 → p_X11_step M Q))
theorem a_step (A : RelA C M) (P : prog C M (c_cur C) na) (R : rn C M na s pc cs sd) (hs : s ≠ 2) (hsd : sd + 1 < 2147483648) : stR C M (c_cur C) na sd := by
  obtain ⟨p1, p2, p3, p4⟩ := id P
  obtain ⟨r1, r2, r3, r4, r5, r6, r7, r8, r9, r10, r11, r12, r13⟩ := id R
  obtain ⟨hpc, c18, m30⟩ := r5 hs
  obtain ⟨op, o1, o2, o3, o4, o5⟩ := p4 pc hpc
  have l3 := (tk_len op o1).2.2.1
  have cnr : c_pn C (c_rp C) = nI na := by rw [r1]; exact p2
  have i0 : vp_in (nI pc) 150 := (ni_in (by omega)).mpr (by omega)
  have i1 : vp_in (nI (3 * pc)) 450 := (ni_in (by omega)).mpr (by omega)
  have i2 : vp_in (nI (3 * pc + 1)) 450 := (ni_in (by omega)).mpr (by omega)
  have i3 : vp_in (nI (3 * pc + 2)) 450 := (ni_in (by omega)).mpr (by omega)
  have cl0 : (nI pc).toNatClampNeg = pc := ni_cl (by omega)
  have cl1 : (nI (3 * pc)).toNatClampNeg = 3 * pc := ni_cl (by omega)
  have cl2 : (nI (3 * pc + 1)).toNatClampNeg = 3 * pc + 1 := ni_cl (by omega)
  have cl3 : (nI (3 * pc + 2)).toNatClampNeg = 3 * pc + 2 := ni_cl (by omega)
  have mu : (nI pc * 3 : Int32) = nI (3 * pc) := by rw [ni_ml]; congr 1; exact Nat.mul_comm _ _
  have mm : (3 * nI pc : Int32) = nI (3 * pc) := ni_lm pc 3
  have q1 : nI (3 * pc) + 1 = nI (3 * pc + 1) := nI_1 _
  have q2 : nI (3 * pc) + 2 = nI (3 * pc + 2) := ni_al _ 2
  have pc1 : nI pc + 1 = nI (pc + 1) := nI_1 _
  -- the class, up to its act
  have hN : ∀ Q, Q 1 C → p_X6_hasNext C Q := by
    intro Q hQ
    unfold p_X6_hasNext
    rw [r3]
    have e : s = 1 ∨ s = 3 := by omega
    rcases e with e | e <;> subst e
    · exact ⟨fun _ => hQ, fun r => absurd rfl r⟩
    · exact ⟨fun _ => hQ, fun _ => ⟨fun r => absurd rfl r, fun _ => hQ⟩⟩
  let X : Nat → Int32 := fun j => c_pa C 1 (c_cur C) (3 * pc + j)
  let Y : Nat → Int32 := fun j => m_a M 24 (3 * pc + j)
  have wC : ∀ Q, ((op < 20 → p_X2_perform op (X 0) (X 1) (X 2) C (fun rz13 Cz12 => ((¬ rz13 = 0 → j_X6_step_114 Q (c_iS Cz12 17 rz13)) ∧ (rz13 = 0 → p_X6_goOnAt ((c_i Cz12 18) + 1) (c_iS Cz12 17 rz13) (fun rz17 Cz16 => j_X6_step_114 Q Cz16))))) ∧ (¬ op < 20 → p_X6_steer op (X 0) (X 1) C (fun rz22 Cz21 => j_X6_step_114 Q (c_iS Cz21 17 rz22)))) → p_X6_step C Q := by
    intro Q h
    refine hN _ ⟨fun _ => ?_, fun r => absurd r (by decide)⟩
    rw [c18, cl0, r1, o2, mu]
    refine ⟨i0, fun v hv2 v6 hv6 => ?_⟩
    subst hv2
    subst hv6
    rw [q1, q2, cl1, cl2, cl3, ni_cl (a := op) (by omega)]
    refine ⟨fun r => ?_, fun r => ?_⟩
    · rw [ni_lel (by omega) (by decide)] at r
      have r : op ≤ 19 := r
      exact ⟨(ni_in (by omega)).mpr o1, i1, i2, i3, h.1 (by omega)⟩
    · rw [ni_lel (by omega) (by decide)] at r
      have r : ¬ op ≤ 19 := r
      exact ⟨(ni_in (by omega)).mpr o1, i1, i2, h.2 (by omega)⟩
  -- the reference, up to its act
  have wM : ∀ Q, (((20 ≤ nI op → ((nI op = 20 → p_X11_isNumber (Y 0) M (fun rz12 Mz11 => ((¬ rz12 = 0 → ((300 ≤ (m_i Mz11 33) → p_X11_goes ((m_i Mz11 30) + 1) (m_iS Mz11 33 ((m_i Mz11 33) + 1)) (fun Mz15 => Q 0 Mz15)) ∧ (¬ 300 ≤ (m_i Mz11 33) → vp_in (Y 0) 58 ∧ vp_in (m_i Mz11 33) 300 ∧ p_X11_goes ((m_i Mz11 30) + 1) (m_iS (m_aU Mz11 26 (m_i Mz11 33) ((m_a Mz11 7) (Y 0).toNatClampNeg)) 33 ((m_i Mz11 33) + 1)) (fun Mz18 => Q 0 Mz18)))) ∧ (rz12 = 0 → Q 1 Mz11)))) ∧ (¬ nI op = 20 → ((nI op = 21 → p_X11_goes (Y 0) M (fun Mz20 => Q 0 Mz20)) ∧ (¬ nI op = 21 → ((nI op = 22 → p_X11_isNumber (Y 0) M (fun rz23 Mz22 => ((rz23 = 0 → p_X11_goes ((m_i Mz22 30) + 1) Mz22 (fun Mz25 => Q 0 Mz25)) ∧ (¬ rz23 = 0 → vp_in (Y 0) 58 ∧ ((¬ ((m_a Mz22 7) (Y 0).toNatClampNeg) = 0 → p_X11_goes ((m_i Mz22 30) + 1) Mz22 (fun Mz28 => Q 0 Mz28)) ∧ (((m_a Mz22 7) (Y 0).toNatClampNeg) = 0 → p_X11_goes (Y 1) Mz22 (fun Mz29 => Q 0 Mz29))))))) ∧ (¬ nI op = 22 → ((nI op = 23 → ((¬ (m_i M 32) = 30 → vp_in (m_i M 32) 30 ∧ p_X11_goes (Y 0) (m_iS (m_aU M 25 (m_i M 32) ((m_i M 30) + 1)) 32 ((m_i M 32) + 1)) (fun Mz33 => Q 0 Mz33)) ∧ ((m_i M 32) = 30 → Q 7 M))) ∧ (¬ nI op = 23 → ((nI op = 24 → ((¬ (m_i M 32) = 0 → vp_in ((m_i M 32) - 1) 30 ∧ p_X11_goes ((m_a M 25) ((m_i M 32) - 1).toNatClampNeg) (m_iS M 32 ((m_i M 32) - 1)) (fun Mz37 => Q 0 Mz37)) ∧ ((m_i M 32) = 0 → Q 0 (m_iS M 28 2)))) ∧ (¬ nI op = 24 → Q 0 (m_iS M 28 2)))))))))))) ∧ (¬ 20 ≤ nI op → p_X11_does (nI op) (Y 0) (Y 1) (Y 2) M (fun rz39 Mz38 => ((¬ rz39 = 0 → Q rz39 Mz38) ∧ (rz39 = 0 → p_X11_goes ((m_i Mz38 30) + 1) Mz38 (fun Mz41 => Q rz39 Mz41))))))) → p_X11_step M Q := by
    intro Q h
    unfold p_X11_step
    rw [m30, cl0, o3, mm, q1, q2, cl1, cl2, cl3]
    refine ⟨i0, fun v2 h2 => ⟨i1, fun v4 h4 => ⟨i2, fun v6 h6 => ⟨i3, fun v8 h8 => ?_⟩⟩⟩⟩
    subst h2
    subst h4
    subst h6
    subst h8
    rw [m30] at h
    exact h
  -- both go on at x
  have goOn : ∀ {D : cS} {N : mS} {x cs1 sd1 : Nat}, RelA D N → rfC C D → rfM M N → x ≤ na → sd1 ≤ sd + 1 → c_i D 19 = m_i N 31 → c_i D 20 = nI cs1 → m_i N 32 = nI cs1 → cs1 ≤ 30 → (∀ j, j < cs1 → ∃ a, a ≤ na ∧ c_a D 15 j = nI a ∧ m_a N 25 j = nI a) → c_i D 21 = nI sd1 → m_i N 33 = nI sd1 → (∀ j, j < sd1 → j < 300 → c_a D 16 j = m_a N 26 j) →
      (∀ Q, Q 1 (c_iS (c_iS (c_iS (c_iS D 18 (nI x)) 16 (nI (stE na x))) 17 0) 19 (c_i D 19 + 1)) → p_X6_step C Q) → (∀ Q, Q 0 (m_iS (m_iS N 30 (nI x)) 28 (nI (stE na x))) → p_X11_step M Q) → stR C M (c_cur C) na sd := by
    intro D N x cs1 sd1 a1 a2 a3 a4 a5 a6 a7 a8 a9 a10 a11 a12 a13 a14 a15
    refine Or.inl ⟨c_iS (c_iS (c_iS (c_iS D 18 (nI x)) 16 (nI (stE na x))) 17 0) 19 (c_i D 19 + 1), m_iS (m_iS N 30 (nI x)) 28 (nI (stE na x)), stE na x, x, cs1, sd1, stE_12 na x, a1.cg rfl (fun k h1 h2 => ?_) (fun k h1 h2 => rfl) (fun k h1 h2 => ?_) (fun k h1 => rfl), ⟨(a2.2.2.2.1.trans r1).trans a2.2.1.symm, stE_rg na x, rfl, rfl, fun h => ⟨?_, rfl, rfl⟩, ?_, a7, a8, a9, a10, a11, a12, a13⟩, rfl, a5, (((a2.i (by decide)).i (by decide)).i (by decide)).i (by decide), (a3.i (by decide)).i (by decide), a14, a15⟩
    · rw [cs_i_iS, if_neg (by omega), cs_i_iS, if_neg (by omega), cs_i_iS, if_neg (by omega), cs_i_iS, if_neg (by omega)]
    · rw [ms_i_iS, if_neg (by omega), ms_i_iS, if_neg (by omega)]
    · have := stE_ne h; omega
    · show c_i D 19 + 1 = m_i N 31 + 1
      rw [a6]
  -- a refusal
  have noGo : ∀ {D : cS} {N : mS} (e : Int32), ¬ e ≤ 0 → RelA D N → wrC C D → wrM M N → (∀ Q, Q 0 (c_iS (c_iS D 17 e) 16 3) → p_X6_step C Q) → (∀ Q, Q e N → p_X11_step M Q) → stR C M (c_cur C) na sd := by
    intro D N e a0 a1 a2 a3 a4 a5
    refine Or.inr ⟨e, c_iS (c_iS D 17 e) 16 3, N, pc, cs, a0, a1.cg rfl (fun k h1 h2 => ?_) (fun k h1 h2 => rfl) (fun k h1 h2 => rfl) (fun k h1 => rfl), ⟨(a2.2.2.2.1.trans r1).trans a2.2.1.symm, by omega, rfl, rfl, fun _ => ⟨hpc, ?_, ?_⟩, ?_, ?_, ?_, r9, ?_, ?_, ?_, ?_⟩, rfl, (a2.r.i (by decide)).i (by decide), a3.r, a4, a5⟩
    · rw [cs_i_iS, if_neg (by omega), cs_i_iS, if_neg (by omega)]
    · show c_i D 18 = _
      rw [a2.2.2.2.2.1 18 (by omega)]; exact c18
    · show m_i N 30 = _
      rw [a3.1 30 (by omega)]; exact m30
    · show c_i D 19 = m_i N 31
      rw [a2.2.2.2.2.1 19 (by omega), a3.1 31 (by omega)]; exact r6
    · show c_i D 20 = _
      rw [a2.2.2.2.2.1 20 (by omega)]; exact r7
    · show m_i N 32 = _
      rw [a3.1 32 (by omega)]; exact r8
    · show ∀ j, j < cs → ∃ a, a ≤ na ∧ c_a D 15 j = nI a ∧ m_a N 25 j = nI a
      rw [a2.2.2.2.2.2.1 15 (by omega), a3.2.1 25 (by omega)]; exact r10
    · show c_i D 21 = _
      rw [a2.2.2.2.2.1 21 (by omega)]; exact r11
    · show m_i N 33 = _
      rw [a3.1 33 (by omega)]; exact r12
    · show ∀ j, j < sd → j < 300 → c_a D 16 j = m_a N 26 j
      rw [a2.2.2.2.2.2.1 16 (by omega), a3.2.1 26 (by omega)]; exact r13
  -- the end is reached
  have endU : (∀ Q, Q 1 (c_iS (c_iS (c_iS (c_iS C 18 (nI na)) 16 (nI (stE na na))) 17 0) 19 (c_i C 19 + 1)) → p_X6_step C Q) → (∀ Q, Q 0 (m_iS M 28 2) → p_X11_step M Q) → stR C M (c_cur C) na sd := by
    intro a1 a2
    have e2 : stE na na = 2 := by unfold stE; exact if_pos rfl
    rw [e2] at a1
    refine Or.inl ⟨c_iS (c_iS (c_iS (c_iS C 18 (nI na)) 16 (nI 2)) 17 0) 19 (c_i C 19 + 1), m_iS M 28 2, 2, 0, cs, sd, Or.inr rfl, A.cg rfl (fun k h1 h2 => ?_) (fun k h1 h2 => rfl) (fun k h1 h2 => ?_) (fun k h1 => rfl), ⟨r1, by omega, rfl, rfl, fun h => absurd rfl h, ?_, r7, r8, r9, r10, r11, r12, r13⟩, rfl, by omega, ((((rfC.rf C).i (by decide)).i (by decide)).i (by decide)).i (by decide), (rfM.rf M).i (by decide), a1, a2⟩
    · rw [cs_i_iS, if_neg (by omega), cs_i_iS, if_neg (by omega), cs_i_iS, if_neg (by omega), cs_i_iS, if_neg (by omega)]
    · rw [ms_i_iS, if_neg (by omega)]
    · show c_i C 19 + 1 = m_i M 31 + 1
      rw [r6]
  have XY : ∀ j, j < nt op → X j = Y j := fun j hj => (o5 j hj).1
  by_cases h20 : op < 20
  · have aX : ∀ j, j < 3 → argJ (X 0) (X 1) (X 2) j = X j := by
      intro j hj
      have e : j = 0 ∨ j = 1 ∨ j = 2 := by omega
      rcases e with e | e | e <;> subst e <;> rfl
    have aY : ∀ j, j < 3 → argJ (Y 0) (Y 1) (Y 2) j = Y j := by
      intro j hj
      have e : j = 0 ∨ j = 1 ∨ j = 2 := by omega
      rcases e with e | e | e <;> subst e <;> rfl
    obtain ⟨e, C1, M1, d1, d2, A1, fC, fM, hP⟩ := a_does (x := X 0) (y := X 1) (z := X 2) (x' := Y 0) (y' := Y 1) (z' := Y 2) A h20 (fun j _ hj hk => by rw [aX j (by omega)]; exact (o5 j hj).2.1 hk) (fun j hj => by rw [aX j (by omega), aY j (by omega)]; exact XY j hj)
    have n20 : ¬ (20 : Int32) ≤ nI op := by rw [ni_lle (by omega) (by decide)]; show ¬ 20 ≤ op; omega
    have c18b : c_i C1 18 = nI pc := by rw [fC.2.2.2.2.1 18 (by omega)]; exact c18
    have m30b : m_i M1 30 = nI pc := by rw [fM.1 30 (by omega)]; exact m30
    rcases hP with rfl | hP
    · refine goOn (D := C1) (N := M1) (x := pc + 1) (cs1 := cs) (sd1 := sd) A1 fC.r fM.r (by omega) (by omega) ?_ ?_ ?_ r9 ?_ ?_ ?_ ?_ (fun Q hQ => wC Q ⟨fun _ => d1 _ ⟨fun r => absurd rfl r, fun _ => ?_⟩, fun r => absurd h20 r⟩) (fun Q hQ => wM Q ⟨fun r => absurd r n20, fun _ => d2 _ ⟨fun r => absurd rfl r, fun _ => ?_⟩⟩)
      · rw [fC.2.2.2.2.1 19 (by omega), fM.1 31 (by omega)]; exact r6
      · rw [fC.2.2.2.2.1 20 (by omega)]; exact r7
      · rw [fM.1 32 (by omega)]; exact r8
      · rw [fC.2.2.2.2.2.1 15 (by omega), fM.2.1 25 (by omega)]; exact r10
      · rw [fC.2.2.2.2.1 21 (by omega)]; exact r11
      · rw [fM.1 33 (by omega)]; exact r12
      · rw [fC.2.2.2.2.2.1 16 (by omega), fM.2.1 26 (by omega)]; exact r13
      · rw [c18b, pc1]
        refine e_goC (C := c_iS C1 17 0) (na := na) ?_ p1 (by omega) _ ?_
        · show c_pn C1 (c_rp C1) = _
          rw [fC.2.2.2.1, fC.2.2.2.2.2.2.2.1]; exact cnr
        · refine ⟨fun _ => ?_, fun r => absurd rfl r⟩
          rw [c_iS_cm C1 (show (17 : Nat) ≠ 18 by decide), c_iS_cm (c_iS C1 18 _) (show (17 : Nat) ≠ 16 by decide)]
          exact hQ
      · rw [m30b, pc1]
        exact e_goM (na := na) (by rw [fM.1 26 (by omega)]; exact p3) p1 (by omega) _ hQ
    · have ne0 : ¬ e = 0 := fun r => hP (by rw [r]; decide)
      exact noGo e hP A1 fC fM (fun Q hQ => wC Q ⟨fun _ => d1 _ ⟨fun _ => ⟨fun r => absurd r ne0, fun _ => hQ⟩, fun r => absurd r ne0⟩, fun r => absurd h20 r⟩) (fun Q hQ => wM Q ⟨fun r => absurd r n20, fun _ => d2 _ ⟨fun _ => hQ, fun r => absurd r ne0⟩⟩)
  have y20 : (20 : Int32) ≤ nI op := by rw [ni_lle (by omega) (by decide)]; show 20 ≤ op; omega
  have vC : ∀ Q, p_X6_steer op (X 0) (X 1) C (fun rz22 Cz21 => j_X6_step_114 Q (c_iS Cz21 17 rz22)) → p_X6_step C Q := fun Q h => wC Q ⟨fun r => absurd r h20, fun _ => h⟩
  have nx : pc + 1 ≤ na := by omega
  have hc : op = 20 ∨ op = 21 ∨ op = 22 ∨ op = 23 ∨ op = 24 ∨ op = 25 := by omega
  rcases hc with rfl | rfl | rfl | rfl | rfl | rfl
  · -- SAY
    obtain ⟨h, h8, hX⟩ := (o5 0 (by decide)).2.1 (by decide)
    have hX : X 0 = nI h := hX
    have hY : Y 0 = nI h := by rw [← XY 0 (by decide)]; exact hX
    have clh : (nI h).toNatClampNeg = h := ni_cl (by omega)
    obtain ⟨e1, e2⟩ := e_num A h8
    by_cases hn : m_a M 6 h = 0
    · have hcn : c_a C 12 h = 0 := e1.trans hn
      by_cases h3 : 300 ≤ sd
      · have g3 : (300 : Int32) ≤ nI sd := by rw [ni_lle (by omega) (by decide)]; exact h3
        refine goOn (D := c_iS C 21 (nI (sd + 1))) (N := m_iS M 33 (nI (sd + 1))) (x := pc + 1) (cs1 := cs) (sd1 := sd + 1) (A.cg rfl (fun k h1 h2 => by rw [cs_i_iS, if_neg (by omega)]) (fun _ _ _ => rfl) (fun k h1 h2 => by rw [ms_i_iS, if_neg (by omega)]) (fun _ _ => rfl)) ((rfC.rf C).i (by decide)) ((rfM.rf M).i (by decide)) nx (by omega) r6 r7 r8 r9 r10 rfl rfl (fun j h1 h2 => r13 j (by omega) h2) (fun Q hQ => vC Q ⟨by decide, (ni_in (by decide)).mpr (by decide), fun v hv2 => ?_⟩) (fun Q hQ => wM Q ⟨fun _ => ⟨fun _ => ?_, fun r => absurd rfl r⟩, fun r => absurd y20 r⟩)
        · subst hv2
          refine ⟨fun _ => ?_, fun r => absurd (by decide) r⟩
          rw [hX]
          refine ⟨rin (by omega), ?_⟩
          rw [clh]
          refine ⟨fun r => absurd hcn r, fun _ => ⟨fun _ => ⟨fun r => absurd r (by rw [r11]; exact nI_pos (by omega)), fun _ => ⟨fun _ => ?_, fun r => absurd (by rw [r11]; exact g3) r⟩⟩, fun r => absurd r (by decide)⟩⟩
          rw [c18, r11, pc1, nI_1]
          exact e_goC (C := c_iS C 21 (nI (sd + 1))) (na := na) cnr p1 nx _ ⟨fun _ => hQ, fun r => absurd rfl r⟩
        · rw [hY]
          refine ⟨rin (by omega), ?_⟩
          rw [clh]
          refine ⟨fun r => absurd hn r, fun _ => ⟨fun _ => ⟨fun _ => ?_, fun r => absurd (by rw [r12]; exact g3) r⟩, fun r => absurd r (by decide)⟩⟩
          rw [m30, r12, pc1, nI_1]
          exact e_goM (M := m_iS M 33 (nI (sd + 1))) (na := na) p3 p1 nx _ hQ
      · have g3 : ¬ (300 : Int32) ≤ nI sd := by rw [ni_lle (by omega) (by decide)]; exact h3
        have cls : (nI sd).toNatClampNeg = sd := ni_cl (by omega)
        have is : vp_in (nI sd) 300 := (ni_in (by omega)).mpr (by omega)
        refine goOn (D := c_iS (c_aU C 16 (nI sd) (m_a M 7 h)) 21 (nI (sd + 1))) (N := m_iS (m_aU M 26 (nI sd) (m_a M 7 h)) 33 (nI (sd + 1))) (x := pc + 1) (cs1 := cs) (sd1 := sd + 1) (A.cg rfl (fun k h1 h2 => by rw [cs_i_iS, if_neg (by omega)]; rfl) (fun k h1 h2 => by rw [cs_a_iS, cs_a_aU, if_neg (by omega)]) (fun k h1 h2 => by rw [ms_i_iS, if_neg (by omega)]; rfl) (fun k h1 => by rw [ms_a_iS, ms_a_aU, if_neg (by omega)])) (((rfC.rf C).u (by decide)).i (by decide)) (((rfM.rf M).u (by decide)).i (by decide)) nx (by omega) r6 r7 r8 r9 r10 rfl rfl (fun j h1 h2 => ?_) (fun Q hQ => vC Q ⟨by decide, (ni_in (by decide)).mpr (by decide), fun v hv2 => ?_⟩) (fun Q hQ => wM Q ⟨fun _ => ⟨fun _ => ?_, fun r => absurd rfl r⟩, fun r => absurd y20 r⟩)
        · show upd (c_a C 16) (nI sd).toNatClampNeg (m_a M 7 h) j = upd (m_a M 26) (nI sd).toNatClampNeg (m_a M 7 h) j
          rw [cls, up_at, up_at]
          by_cases q : j = sd
          · rw [if_pos q, if_pos q]
          · rw [if_neg q, if_neg q]; exact r13 j (by omega) h2
        · subst hv2
          refine ⟨fun _ => ?_, fun r => absurd (by decide) r⟩
          rw [hX]
          refine ⟨rin (by omega), ?_⟩
          rw [clh]
          refine ⟨fun r => absurd hcn r, fun _ => ⟨fun _ => ⟨fun r => absurd r (by rw [r11]; exact nI_pos (by omega)), fun _ => ⟨fun r => absurd r (by rw [r11]; exact g3), fun _ => ⟨rin (by omega), ?_⟩⟩⟩, fun r => absurd r (by decide)⟩⟩
          rw [clh, e2 hn, r11]
          refine ⟨is, ?_⟩
          rw [c18, pc1, r11, nI_1]
          exact e_goC (C := c_iS (c_aU C 16 (nI sd) (m_a M 7 h)) 21 (nI (sd + 1))) (na := na) cnr p1 nx _ ⟨fun _ => hQ, fun r => absurd rfl r⟩
        · rw [hY]
          refine ⟨rin (by omega), ?_⟩
          rw [clh]
          refine ⟨fun r => absurd hn r, fun _ => ⟨fun _ => ⟨fun r => absurd r (by rw [r12]; exact g3), fun _ => ⟨rin (by omega), by rw [r12]; exact is, ?_⟩⟩, fun r => absurd r (by decide)⟩⟩
          rw [m30, r12, pc1, nI_1]
          exact e_goM (M := m_iS (m_aU M 26 (nI sd) (m_a M 7 h)) 33 (nI (sd + 1))) (na := na) p3 p1 nx _ hQ
    · have hcn : ¬ c_a C 12 h = 0 := fun r => hn (e1.symm.trans r)
      refine noGo (D := C) (N := M) 1 (by decide) A (wrC.rf C) (wrM.rf M) (fun Q hQ => vC Q ⟨by decide, (ni_in (by decide)).mpr (by decide), fun v hv2 => ?_⟩) (fun Q hQ => wM Q ⟨fun _ => ⟨fun _ => ?_, fun r => absurd rfl r⟩, fun r => absurd y20 r⟩)
      · subst hv2
        refine ⟨fun _ => ?_, fun r => absurd (by decide) r⟩
        rw [hX]
        refine ⟨rin (by omega), ?_⟩
        rw [clh]
        exact ⟨fun _ => ⟨fun r => absurd rfl r, fun _ => ⟨fun r => absurd r (by show ¬ (1 : Int32) = 0; decide), fun _ => hQ⟩⟩, fun r => absurd r hcn⟩
      · rw [hY]
        refine ⟨rin (by omega), ?_⟩
        rw [clh]
        exact ⟨fun _ => ⟨fun r => absurd rfl r, fun _ => hQ⟩, fun r => absurd r hn⟩
  · -- JUMP
    obtain ⟨a, ha, hX⟩ := (o5 0 (by decide)).2.2 (by decide)
    have hX : X 0 = nI a := hX
    have hY : Y 0 = nI a := by rw [← XY 0 (by decide)]; exact hX
    refine goOn (D := C) (N := M) (x := a) (cs1 := cs) (sd1 := sd) A (rfC.rf C) (rfM.rf M) (by omega) (by omega) r6 r7 r8 r9 r10 r11 r12 r13 (fun Q hQ => vC Q ⟨by decide, (ni_in (by decide)).mpr (by decide), fun v hv2 => ?_⟩) (fun Q hQ => wM Q ⟨fun _ => ⟨fun r => absurd r (by decide), fun _ => ⟨fun _ => ?_, fun r => absurd rfl r⟩⟩, fun r => absurd y20 r⟩)
    · subst hv2
      refine ⟨fun r => absurd r (by decide), fun _ => ⟨fun _ => ?_, fun r => absurd (by decide) r⟩⟩
      rw [hX]
      exact e_goC (na := na) cnr p1 (by omega) _ ⟨fun _ => hQ, fun r => absurd rfl r⟩
    · rw [hY]
      exact e_goM (na := na) p3 p1 (by omega) _ hQ
  · -- ZERO
    obtain ⟨h, h8, hX⟩ := (o5 0 (by decide)).2.1 (by decide)
    obtain ⟨a, ha, hX1⟩ := (o5 1 (by decide)).2.2 (by decide)
    have hX : X 0 = nI h := hX
    have hX1 : X 1 = nI a := hX1
    have hY : Y 0 = nI h := by rw [← XY 0 (by decide)]; exact hX
    have hY1 : Y 1 = nI a := by rw [← XY 1 (by decide)]; exact hX1
    have clh : (nI h).toNatClampNeg = h := ni_cl (by omega)
    obtain ⟨e1, e2⟩ := e_num A h8
    by_cases hz : m_a M 6 h = 0 ∧ m_a M 7 h = 0
    · obtain ⟨hn, h0⟩ := hz
      refine goOn (D := C) (N := M) (x := a) (cs1 := cs) (sd1 := sd) A (rfC.rf C) (rfM.rf M) (by omega) (by omega) r6 r7 r8 r9 r10 r11 r12 r13 (fun Q hQ => vC Q ⟨by decide, (ni_in (by decide)).mpr (by decide), fun v hv2 => ?_⟩) (fun Q hQ => wM Q ⟨fun _ => ⟨fun r => absurd r (by decide), fun _ => ⟨fun r => absurd r (by decide), fun _ => ⟨fun _ => ?_, fun r => absurd rfl r⟩⟩⟩, fun r => absurd y20 r⟩)
      · subst hv2
        refine ⟨fun r => absurd r (by decide), fun _ => ⟨fun r => absurd r (by decide), fun _ => ⟨fun _ => ?_, fun r => absurd (by decide) r⟩⟩⟩
        rw [hX, hX1]
        refine ⟨rin (by omega), ?_⟩
        rw [clh]
        refine ⟨fun r => absurd (e1.trans hn) r, fun _ => ⟨fun r => absurd r (by decide), fun _ => ⟨rin (by omega), ?_⟩⟩⟩
        rw [clh, e2 hn]
        exact ⟨fun r => absurd h0 r, fun _ => e_goC (na := na) cnr p1 (by omega) _ ⟨fun _ => hQ, fun r => absurd rfl r⟩⟩
      · rw [hY, hY1]
        refine ⟨rin (by omega), ?_⟩
        rw [clh]
        exact ⟨fun r => absurd hn r, fun _ => ⟨fun r => absurd r (by decide), fun _ => ⟨rin (by omega), fun r => absurd h0 r, fun _ => e_goM (na := na) p3 p1 (by omega) _ hQ⟩⟩⟩
    · refine goOn (D := C) (N := M) (x := pc + 1) (cs1 := cs) (sd1 := sd) A (rfC.rf C) (rfM.rf M) nx (by omega) r6 r7 r8 r9 r10 r11 r12 r13 (fun Q hQ => vC Q ⟨by decide, (ni_in (by decide)).mpr (by decide), fun v hv2 => ?_⟩) (fun Q hQ => wM Q ⟨fun _ => ⟨fun r => absurd r (by decide), fun _ => ⟨fun r => absurd r (by decide), fun _ => ⟨fun _ => ?_, fun r => absurd rfl r⟩⟩⟩, fun r => absurd y20 r⟩)
      · subst hv2
        refine ⟨fun r => absurd r (by decide), fun _ => ⟨fun r => absurd r (by decide), fun _ => ⟨fun _ => ?_, fun r => absurd (by decide) r⟩⟩⟩
        have gg : p_X6_goOnAt ((c_i C 18) + 1) C (fun rz15 Cz14 => j_X6_step_114 Q (c_iS Cz14 17 rz15)) := by
          rw [c18, pc1]
          exact e_goC (na := na) cnr p1 nx _ ⟨fun _ => hQ, fun r => absurd rfl r⟩
        rw [hX]
        refine ⟨rin (by omega), ?_⟩
        rw [clh]
        refine ⟨fun _ => ⟨fun _ => gg, fun r => absurd rfl r⟩, fun r0 => ⟨fun r => absurd r (by decide), fun _ => ⟨rin (by omega), ?_⟩⟩⟩
        rw [clh, e2 (e1.symm.trans r0)]
        exact ⟨fun _ => gg, fun r => absurd ⟨e1.symm.trans r0, r⟩ hz⟩
      · have gg : p_X11_goes ((m_i M 30) + 1) M (fun Mz25 => Q 0 Mz25) := by
          rw [m30, pc1]
          exact e_goM (na := na) p3 p1 nx _ hQ
        rw [hY]
        refine ⟨rin (by omega), ?_⟩
        rw [clh]
        refine ⟨fun _ => ⟨fun _ => ?_, fun r => absurd rfl r⟩, fun r0 => ⟨fun r => absurd r (by decide), fun _ => ⟨rin (by omega), fun _ => ?_, fun r => absurd ⟨r0, r⟩ hz⟩⟩⟩
        · exact gg
        · exact gg
  · -- CALL
    obtain ⟨a, ha, hX⟩ := (o5 0 (by decide)).2.2 (by decide)
    have hX : X 0 = nI a := hX
    have hY : Y 0 = nI a := by rw [← XY 0 (by decide)]; exact hX
    by_cases h30 : cs < 30
    · have g30 : nI cs < 30 := by rw [ni_ltl (by omega) (by decide)]; exact h30
      have n30 : ¬ nI cs = 30 := by rw [ni_eql (by omega) (by decide)]; show ¬ cs = 30; omega
      have ic : vp_in (nI cs) 30 := (ni_in (by omega)).mpr h30
      have clc : (nI cs).toNatClampNeg = cs := ni_cl (by omega)
      refine goOn (D := c_iS (c_aU C 15 (nI cs) (nI (pc + 1))) 20 (nI (cs + 1))) (N := m_iS (m_aU M 25 (nI cs) (nI (pc + 1))) 32 (nI (cs + 1))) (x := a) (cs1 := cs + 1) (sd1 := sd) (A.cg rfl (fun k h1 h2 => by rw [cs_i_iS, if_neg (by omega)]; rfl) (fun k h1 h2 => by rw [cs_a_iS, cs_a_aU, if_neg (by omega)]) (fun k h1 h2 => by rw [ms_i_iS, if_neg (by omega)]; rfl) (fun k h1 => by rw [ms_a_iS, ms_a_aU, if_neg (by omega)])) (((rfC.rf C).u (by decide)).i (by decide)) (((rfM.rf M).u (by decide)).i (by decide)) (by omega) (by omega) r6 rfl rfl (by omega) (fun j hj => ?_) r11 r12 r13 (fun Q hQ => vC Q ⟨by decide, (ni_in (by decide)).mpr (by decide), fun v hv2 => ?_⟩) (fun Q hQ => wM Q ⟨fun _ => ⟨fun r => absurd r (by decide), fun _ => ⟨fun r => absurd r (by decide), fun _ => ⟨fun r => absurd r (by decide), fun _ => ⟨fun _ => ⟨fun _ => ?_, fun r => absurd (by rw [← r8]; exact r) n30⟩, fun r => absurd rfl r⟩⟩⟩⟩, fun r => absurd y20 r⟩)
      · show ∃ a, a ≤ na ∧ upd (c_a C 15) (nI cs).toNatClampNeg (nI (pc + 1)) j = nI a ∧ upd (m_a M 25) (nI cs).toNatClampNeg (nI (pc + 1)) j = nI a
        rw [clc, up_at, up_at]
        by_cases q : j = cs
        · rw [if_pos q, if_pos q]; exact ⟨pc + 1, nx, rfl, rfl⟩
        · rw [if_neg q, if_neg q]; exact r10 j (by omega)
      · subst hv2
        refine ⟨fun r => absurd r (by decide), fun _ => ⟨fun r => absurd r (by decide), fun _ => ⟨fun r => absurd r (by decide), fun _ => ⟨fun _ => ?_, fun r => absurd (by decide) r⟩⟩⟩⟩
        unfold p_X6_openCall
        rw [hX, r7, c18, pc1, nI_1]
        exact ⟨fun _ => ⟨ic, e_goC (C := c_iS (c_aU C 15 (nI cs) (nI (pc + 1))) 20 (nI (cs + 1))) (na := na) cnr p1 (by omega) _ ⟨fun _ => hQ, fun r => absurd rfl r⟩⟩, fun r => absurd g30 r⟩
      · rw [hY, r8, m30, pc1, nI_1]
        exact ⟨ic, e_goM (M := m_iS (m_aU M 25 (nI cs) (nI (pc + 1))) 32 (nI (cs + 1))) (na := na) p3 p1 (by omega) _ hQ⟩
    · have e30 : cs = 30 := by omega
      subst e30
      refine noGo (D := C) (N := M) 7 (by decide) A (wrC.rf C) (wrM.rf M) (fun Q hQ => vC Q ⟨by decide, (ni_in (by decide)).mpr (by decide), fun v hv2 => ?_⟩) (fun Q hQ => wM Q ⟨fun _ => ⟨fun r => absurd r (by decide), fun _ => ⟨fun r => absurd r (by decide), fun _ => ⟨fun r => absurd r (by decide), fun _ => ⟨fun _ => ⟨fun r => absurd r8 r, fun _ => hQ⟩, fun r => absurd rfl r⟩⟩⟩⟩, fun r => absurd y20 r⟩)
      subst hv2
      refine ⟨fun r => absurd r (by decide), fun _ => ⟨fun r => absurd r (by decide), fun _ => ⟨fun r => absurd r (by decide), fun _ => ⟨fun _ => ⟨fun r => absurd r ?_, fun _ => ⟨fun r => absurd r (by show ¬ (7 : Int32) = 0; decide), fun _ => hQ⟩⟩, fun r => absurd (by decide) r⟩⟩⟩⟩
      rw [r7]; decide
  · -- BACK
    by_cases h0 : cs = 0
    · subst h0
      refine endU (fun Q hQ => vC Q ⟨by decide, (ni_in (by decide)).mpr (by decide), fun v hv2 => ?_⟩) (fun Q hQ => wM Q ⟨fun _ => ⟨fun r => absurd r (by decide), fun _ => ⟨fun r => absurd r (by decide), fun _ => ⟨fun r => absurd r (by decide), fun _ => ⟨fun r => absurd r (by decide), fun _ => ⟨fun _ => ⟨fun r => absurd r8 r, fun _ => hQ⟩, fun r => absurd rfl r⟩⟩⟩⟩⟩, fun r => absurd y20 r⟩)
      subst hv2
      refine ⟨fun r => absurd r (by decide), fun _ => ⟨fun r => absurd r (by decide), fun _ => ⟨fun r => absurd r (by decide), fun _ => ⟨fun r => absurd r (by decide), fun _ => ⟨fun _ => ⟨fun r => absurd r ?_, fun _ => ?_⟩, fun r => absurd (by decide) r⟩⟩⟩⟩⟩
      · rw [r7]; decide
      · rw [cnr]
        exact e_goC (na := na) cnr p1 (Nat.le_refl _) _ ⟨fun _ => hQ, fun r => absurd rfl r⟩
    · have g0 : 0 < nI cs := by rw [ni_llt (by omega) (by decide)]; show 0 < cs; omega
      have n0 : ¬ nI cs = 0 := nI_ne0 (by omega) (by omega)
      have es : nI cs - 1 = nI (cs - 1) := ni_sl (n := 1) (by show 1 ≤ cs; omega)
      have ic : vp_in (nI (cs - 1)) 30 := (ni_in (by omega)).mpr (by omega)
      have clc : (nI (cs - 1)).toNatClampNeg = cs - 1 := ni_cl (by omega)
      obtain ⟨a, ha, b1, b2⟩ := r10 (cs - 1) (by omega)
      refine goOn (D := c_iS C 20 (nI (cs - 1))) (N := m_iS M 32 (nI (cs - 1))) (x := a) (cs1 := cs - 1) (sd1 := sd) (A.cg rfl (fun k h1 h2 => by rw [cs_i_iS, if_neg (by omega)]) (fun _ _ _ => rfl) (fun k h1 h2 => by rw [ms_i_iS, if_neg (by omega)]) (fun _ _ => rfl)) ((rfC.rf C).i (by decide)) ((rfM.rf M).i (by decide)) ha (by omega) r6 rfl rfl (by omega) (fun j hj => r10 j (by omega)) r11 r12 r13 (fun Q hQ => vC Q ⟨by decide, (ni_in (by decide)).mpr (by decide), fun v hv2 => ?_⟩) (fun Q hQ => wM Q ⟨fun _ => ⟨fun r => absurd r (by decide), fun _ => ⟨fun r => absurd r (by decide), fun _ => ⟨fun r => absurd r (by decide), fun _ => ⟨fun r => absurd r (by decide), fun _ => ⟨fun _ => ⟨fun _ => ?_, fun r => absurd (by rw [← r8]; exact r) n0⟩, fun r => absurd rfl r⟩⟩⟩⟩⟩, fun r => absurd y20 r⟩)
      · subst hv2
        refine ⟨fun r => absurd r (by decide), fun _ => ⟨fun r => absurd r (by decide), fun _ => ⟨fun r => absurd r (by decide), fun _ => ⟨fun r => absurd r (by decide), fun _ => ⟨fun _ => ?_, fun r => absurd (by decide) r⟩⟩⟩⟩⟩
        unfold p_X6_goBack
        rw [r7, es, clc, b1]
        exact ⟨fun _ => ⟨ic, e_goC (C := c_iS C 20 (nI (cs - 1))) (na := na) cnr p1 ha _ ⟨fun _ => hQ, fun r => absurd rfl r⟩⟩, fun r => absurd g0 r⟩
      · rw [r8, es, clc, b2]
        exact ⟨ic, e_goM (M := m_iS M 32 (nI (cs - 1))) (na := na) p3 p1 ha _ hQ⟩
  · -- STOP
    refine endU (fun Q hQ => vC Q ⟨by decide, (ni_in (by decide)).mpr (by decide), fun v hv2 => ?_⟩) (fun Q hQ => wM Q ⟨fun _ => ⟨fun r => absurd r (by decide), fun _ => ⟨fun r => absurd r (by decide), fun _ => ⟨fun r => absurd r (by decide), fun _ => ⟨fun r => absurd r (by decide), fun _ => ⟨fun r => absurd r (by decide), fun _ => hQ⟩⟩⟩⟩⟩, fun r => absurd y20 r⟩)
    subst hv2
    refine ⟨fun r => absurd r (by decide), fun _ => ⟨fun r => absurd r (by decide), fun _ => ⟨fun r => absurd r (by decide), fun _ => ⟨fun r => absurd r (by decide), fun _ => ⟨fun r => absurd r (by decide), fun _ => ?_⟩⟩⟩⟩⟩
    rw [cnr]
    exact e_goC (na := na) cnr p1 (Nat.le_refl _) _ ⟨fun _ => hQ, fun r => absurd rfl r⟩
end ZU17
