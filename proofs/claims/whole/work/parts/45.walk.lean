/-! WALK: things in the order in which they are met -/
section ZWK
variable {C : cS} {M : mS} {sz pr B O fl pa ro h mm ps nx v t i n a r w : Nat} {st ad sl mv P mt nm : Nat → Nat} {x y z s b : Int32}
theorem RelM.fr {C1 : cS} {M1 : mS} (f : wfC C C1) (g : wfM M M1) (R : RelM C M sz pr B O fl pa ro h mm ps nx st ad sl mv P) : RelM C1 M1 sz pr B O fl pa ro h mm ps nx st ad sl mv P := by
  obtain ⟨f1, -, -, -, f5, f6, -⟩ := f
  obtain ⟨g1, g2, -⟩ := g
  unfold RelM gSc gC at R ⊢
  rw [f1, f5 9 (by decide) (by decide), f5 11 (by decide) (by decide), f5 12 (by decide) (by decide), f5 13 (by decide) (by decide), f5 14 (by decide) (by decide), f5 15 (by decide) (by decide),
    f6 10 (by decide), f6 11 (by decide), f6 12 (by decide), f6 13 (by decide), f6 14 (by decide),
    g1 0 (by decide) (by decide), g1 3 (by decide) (by decide), g1 4 (by decide) (by decide), g1 5 (by decide) (by decide), g1 6 (by decide) (by decide), g1 7 (by decide) (by decide), g1 8 (by decide) (by decide), g1 9 (by decide) (by decide),
    g1 11 (by decide) (by decide), g1 13 (by decide) (by decide), g1 14 (by decide) (by decide), g1 15 (by decide) (by decide), g1 16 (by decide) (by decide), g1 17 (by decide) (by decide), g1 18 (by decide) (by decide),
    g2 0 (by decide), g2 1 (by decide), g2 2 (by decide), g2 3 (by decide), g2 4 (by decide), g2 5 (by decide), g2 6 (by decide), g2 7 (by decide), g2 8 (by decide)]
  exact R
def gWk (C : cS) (M : mS) (sz w : Nat) (st ad mt nm : Nat → Nat) : Prop :=
  c_i C 22 = nI w ∧ m_i M 34 = nI w ∧ w ≤ sz ∧
  (∀ j, j < w → mt j < 1300 ∧ (st (mt j) = 1 ∨ st (mt j) = 2) ∧ c_a C 17 j = nI (ad (mt j)) ∧ m_a M 27 j = nI (mt j) ∧ nm (mt j) = j + 1) ∧
  (∀ t, t < 1300 → m_a M 28 t = nI (nm t) ∧ nm t ≤ w ∧ (nm t ≠ 0 → mt (nm t - 1) = t)) ∧
  (∀ t, t < 1300 → (st t = 1 ∨ st t = 2) → c_a C 18 (ad t) = nI (nm t)) ∧
  (∀ a, a < 2 * sz → c_a C 18 a ≠ 0 → ∃ j, j < w ∧ c_a C 17 j = nI a) ∧
  sumT (fun t => if nm t = 0 then 0 else 1) 1300 = w
theorem gWk.fr {C1 : cS} {M1 : mS} (f : wkC C C1) (g : wkM M M1) (W : gWk C M sz w st ad mt nm) : gWk C1 M1 sz w st ad mt nm := by
  obtain ⟨f1, f2, f3⟩ := f
  obtain ⟨g1, g2, g3⟩ := g
  unfold gWk at W ⊢
  rw [f1, f2, f3, g1, g2, g3]
  exact W
theorem Geo.inj (G : Geo sz pr B O fl pa ro st ad sl) (hv : v < 1300) (ht : t < 1300) (h1 : st v = 1 ∨ st v = 2) (h2 : st t = 1 ∨ st t = 2) (e : ad t = ad v) : t = v := by
  obtain ⟨g1, g2, g3, g4, g5, g6, g7, g8, g9⟩ := G
  by_cases q : t = v
  · exact q
  · exfalso
    by_cases q2 : st t = st v
    · have := g7 t v ht hv q q2 (by omega); omega
    · rcases h1 with h1 | h1 <;> rcases h2 with h2 | h2
      · omega
      · have := g5 v hv h1; have := g6 t ht h2; omega
      · have := g6 v hv h1; have := g5 t ht h2; omega
      · omega
theorem sumT_dbl {f g k : Nat → Nat} : ∀ {n}, (∀ t, t < n → 2 * f t ≤ g t + k t) → 2 * sumT f n ≤ sumT g n + sumT k n := by
  intro n
  induction n with
  | zero => intro _; exact Nat.le_refl _
  | succ n ih =>
    intro h
    show 2 * (sumT f n + f n) ≤ sumT g n + g n + (sumT k n + k n)
    have h1 := ih (fun t q => h t (by omega))
    have h2 := h n (by omega)
    omega
theorem met_le (G : Geo sz pr B O fl pa ro st ad sl) (hl : ∀ t, t < 1300 → nm t ≠ 0 → (st t = 1 ∨ st t = 2)) : sumT (fun t => if nm t = 0 then 0 else 1) 1300 ≤ sz := by
  obtain ⟨g1, g2, g3, g4, g5, g6, g7, g8, g9⟩ := G
  have := sumT_dbl (f := fun t => if nm t = 0 then 0 else 1) (g := wt st sl 1) (k := wt st sl 2) (n := 1300) (fun t ht => by
    show 2 * (if nm t = 0 then 0 else 1) ≤ wt st sl 1 t + wt st sl 2 t
    by_cases e : nm t = 0
    · rw [if_pos e]; omega
    · rw [if_neg e]
      unfold wt
      rcases hl t ht e with q | q <;> rw [q] <;> simp <;> omega)
  unfold zW at g8 g9
  omega
theorem txC.fr {C1 : cS} {T : tS} (h1 : c_i C1 23 = c_i C 23) (h2 : c_a C1 19 = c_a C 19) (h : txC C T) : txC C1 T := by
  unfold txC at h ⊢; rw [h1, h2]; exact h
theorem txM.fr {M1 : mS} {T : tS} (h1 : m_i M1 35 = m_i M 35) (h2 : m_a M1 29 = m_a M 29) (h : txM M T) : txM M1 T := by
  unfold txM at h ⊢; rw [h1, h2]; exact h
/-- a word is met -/
theorem j_meet (R : RelM C M sz pr B O fl pa ro h mm ps nx st ad sl mv P) (W : gWk C M sz w st ad mt nm) (wd : gW (c_a C 10) (c_a C 11) O sz st ad x y s b) :
    ∃ (e : Int32) (C1 : cS) (M1 : mS) (w' : Nat) (mt' nm' : Nat → Nat), (∀ Q, Q e C1 → p_X9_meet x y C Q) ∧ (∀ Q, Q M1 → p_X11_meet s b M Q) ∧ gWk C1 M1 sz w' st ad mt' nm' ∧ (s = 2 → ∃ v, v < 1300 ∧ b = nI v ∧ e = nI (nm' v)) ∧
      w ≤ w' ∧ (∀ j, j < w → mt' j = mt j) ∧ wfC C C1 ∧ wfM M M1 ∧ (c_i C1 23 = c_i C 23 ∧ c_a C1 19 = c_a C 19) ∧ (m_i M1 35 = m_i M 35 ∧ m_a M1 29 = m_a M 29) := by
  by_cases hs : s = 2
  · subst hs
    have hx : x = 2 := wd.1
    subst hx
    obtain ⟨v, hv, hb, hl, t1, -⟩ := e_thing R wd
    have hat := R.1.at hv hl
    have g1 := R.1.1
    have s0 := R.2.1.1.1
    obtain ⟨w1, w2, w3, w4, w5, w6, w7, w8⟩ := id W
    have b1 : ad v < 2147483648 := by omega
    have hin : vp_in (nI (ad v)) (2 * c_sz C) := by rw [s0]; exact (ni_in b1).mpr (by omega)
    have vc : (nI v).toNatClampNeg = v := ni_cl (by omega)
    have ac : (nI (ad v)).toNatClampNeg = ad v := ni_cl b1
    obtain ⟨n1, n2, n3⟩ := w5 v hv
    have c18 := w6 v hv hl
    by_cases e : nm v = 0
    · have hw : w < sz := by
        have q := met_le (nm := nup nm v (w + 1)) R.1 (fun t ht hne => by
          by_cases q : t = v
          · subst q; exact hl
          · rw [nup_o q] at hne
            obtain ⟨-, a2, a3⟩ := w5 t ht
            have := (w4 (nm t - 1) (by omega)).2.1
            rw [a3 hne] at this
            exact this)
        have q2 := (sumT_up (f := fun t => if nm t = 0 then 0 else 1) (g := fun t => if nup nm v (w + 1) t = 0 then 0 else 1) (v := v) (fun t ht => by show (if nup nm v (w + 1) t = 0 then 0 else 1) = if nm t = 0 then 0 else 1; rw [nup_o ht]) 1300).1 hv
        have q3 : (if nm v = 0 then 0 else 1) = 0 := if_pos e
        have q4 : (if nup nm v (w + 1) v = 0 then 0 else 1) = 1 := by rw [nup_s]; rfl
        omega
      refine ⟨nI (w + 1), c_aU (c_iS (c_aU C 17 (nI w) (nI (ad v))) 22 (nI (w + 1))) 18 (nI (ad v)) (nI (w + 1)), m_aU (m_iS (m_aU M 27 (nI w) (nI v)) 34 (nI (w + 1))) 28 (nI v) (nI (w + 1)), w + 1, nup mt w v, nup nm v (w + 1),
        fun Q hQ => ⟨fun _ => t1 _ ⟨hin, fun q => absurd ?_ q, fun _ => ⟨fun q => ?_, fun _ => ⟨?_, ?_⟩⟩⟩, fun q => absurd rfl q⟩, fun Q hQ => ⟨fun q => absurd rfl q, fun _ => ⟨?_, fun _ => ⟨?_, ?_⟩, fun q => absurd ?_ q⟩⟩, ?_, fun _ => ⟨v, hv, hb, by rw [nup_s]⟩, by omega, fun j hj => nup_o (by omega), (((wfC.rf C).u (by decide)).i (by decide)).u (by decide), (((wfM.rf M).u (by decide)).i (by decide)).u (by decide), ⟨rfl, rfl⟩, ⟨rfl, rfl⟩⟩
      · rw [ac, c18, e]; rfl
      · rw [w1, s0] at q
        have q : nI (2 * sz) ≤ nI w := q
        rw [ni_le (by omega) (by omega)] at q
        omega
      · rw [w1, s0]; exact (ni_in (by omega)).mpr (by omega)
      · rw [w1, nI_1, up_at, if_pos rfl]; exact hQ
      · rw [hb]; exact (ni_in (by omega)).mpr hv
      · rw [w2]; exact (ni_in (by omega)).mpr (by omega)
      · rw [w2, nI_1, hb]; exact hQ
      · rw [hb, vc, n1, e]; decide
      · have k17 : ∀ j, c_a (c_aU (c_iS (c_aU C 17 (nI w) (nI (ad v))) 22 (nI (w + 1))) 18 (nI (ad v)) (nI (w + 1))) 17 j = if j = w then nI (ad v) else c_a C 17 j := by
          intro j
          show upd (c_a C 17) (nI w).toNatClampNeg (nI (ad v)) j = _
          rw [ni_cl (by omega), up_at]
        have k18 : ∀ j, c_a (c_aU (c_iS (c_aU C 17 (nI w) (nI (ad v))) 22 (nI (w + 1))) 18 (nI (ad v)) (nI (w + 1))) 18 j = if j = ad v then nI (w + 1) else c_a C 18 j := by
          intro j
          show upd (c_a C 18) (nI (ad v)).toNatClampNeg (nI (w + 1)) j = _
          rw [ac, up_at]
        have k27 : ∀ j, m_a (m_aU (m_iS (m_aU M 27 (nI w) (nI v)) 34 (nI (w + 1))) 28 (nI v) (nI (w + 1))) 27 j = if j = w then nI v else m_a M 27 j := by
          intro j
          show upd (m_a M 27) (nI w).toNatClampNeg (nI v) j = _
          rw [ni_cl (by omega), up_at]
        have k28 : ∀ j, m_a (m_aU (m_iS (m_aU M 27 (nI w) (nI v)) 34 (nI (w + 1))) 28 (nI v) (nI (w + 1))) 28 j = if j = v then nI (w + 1) else m_a M 28 j := by
          intro j
          show upd (m_a M 28) (nI v).toNatClampNeg (nI (w + 1)) j = _
          rw [vc, up_at]
        refine ⟨rfl, rfl, by omega, fun j hj => ?_, fun t ht => ?_, fun t ht hlt => ?_, fun a ha hne => ?_, ?_⟩
        · rw [k17, k27]
          by_cases q : j = w
          · subst q
            rw [if_pos rfl, if_pos rfl, nup_s, nup_s]
            exact ⟨hv, hl, rfl, rfl, rfl⟩
          · obtain ⟨a1, a2, a3, a4, a5⟩ := w4 j (by omega)
            have q2 : mt j ≠ v := fun q3 => by rw [q3, e] at a5; omega
            rw [if_neg q, if_neg q, nup_o q, nup_o q2]
            exact ⟨a1, a2, a3, a4, a5⟩
        · rw [k28]
          obtain ⟨a1, a2, a3⟩ := w5 t ht
          by_cases q : t = v
          · subst q
            rw [if_pos rfl, nup_s]
            exact ⟨rfl, by omega, fun _ => by rw [Nat.add_sub_cancel, nup_s]⟩
          · rw [if_neg q, nup_o q]
            exact ⟨a1, by omega, fun q3 => by rw [nup_o (by omega)]; exact a3 q3⟩
        · rw [k18]
          by_cases q : t = v
          · subst q; rw [if_pos rfl, nup_s]
          · rw [if_neg (fun q3 => q (R.1.inj hv ht hl hlt q3)), nup_o q]
            exact w6 t ht hlt
        · rw [k18] at hne
          by_cases q : a = ad v
          · exact ⟨w, by omega, by rw [k17, if_pos rfl, q]⟩
          · rw [if_neg q] at hne
            obtain ⟨j, hj, hj2⟩ := w7 a ha hne
            exact ⟨j, by omega, by rw [k17, if_neg (by omega)]; exact hj2⟩
        · have q2 := (sumT_up (f := fun t => if nm t = 0 then 0 else 1) (g := fun t => if nup nm v (w + 1) t = 0 then 0 else 1) (v := v) (fun t ht => by show (if nup nm v (w + 1) t = 0 then 0 else 1) = if nm t = 0 then 0 else 1; rw [nup_o ht]) 1300).1 hv
          have q3 : (if nm v = 0 then 0 else 1) = 0 := if_pos e
          have q4 : (if nup nm v (w + 1) v = 0 then 0 else 1) = 1 := by rw [nup_s]; rfl
          omega
    · refine ⟨nI (nm v), C, M, w, mt, nm, fun Q hQ => ⟨fun _ => t1 _ ⟨hin, fun _ => ?_, fun q => ?_⟩, fun q => absurd rfl q⟩, fun Q hQ => ⟨fun q => absurd rfl q, fun _ => ⟨?_, fun q => ?_, fun _ => hQ⟩⟩, W, fun _ => ⟨v, hv, hb, rfl⟩, Nat.le_refl _, fun _ _ => rfl, wfC.rf C, wfM.rf M, ⟨rfl, rfl⟩, ⟨rfl, rfl⟩⟩
      · rw [ac, c18]; exact hQ
      · rw [ac, c18, ni_eql (by omega) (by decide)] at q; exact absurd q e
      · rw [hb]; exact (ni_in (by omega)).mpr hv
      · rw [hb, vc, n1, ni_lel (by omega) (by decide)] at q; omega
  · have hx : ¬ x = 2 := by rw [wd.1]; exact hs
    exact ⟨0, C, M, w, mt, nm, fun Q hQ => ⟨fun q => absurd q hx, fun _ => hQ⟩, fun Q hQ => ⟨fun _ => hQ, fun q => absurd q hs⟩, W, fun q => absurd q hs, Nat.le_refl _, fun _ _ => rfl, wfC.rf C, wfM.rf M, ⟨rfl, rfl⟩, ⟨rfl, rfl⟩⟩
/-- what the class's walk keeps between its uses -/
def gCl (C : cS) : Prop := ∃ w, c_i C 22 = nI w ∧ w ≤ 2 * c_sz C ∧ c_sz C ≤ 1200 ∧ (∀ j, j < w → ∃ a, a < 2 * c_sz C ∧ c_a C 17 j = nI a) ∧ (∀ a, a < 2 * c_sz C → c_a C 18 a ≠ 0 → ∃ j, j < w ∧ c_a C 17 j = nI a)
theorem gWk.cl (R : RelM C M sz pr B O fl pa ro h mm ps nx st ad sl mv P) (W : gWk C M sz w st ad mt nm) : gCl C := by
  obtain ⟨w1, w2, w3, w4, w5, w6, w7, w8⟩ := W
  have s0 := R.2.1.1.1
  have g1 := R.1.1
  unfold gCl
  rw [s0]
  refine ⟨w, w1, by omega, by omega, fun j hj => ?_, w7⟩
  obtain ⟨a1, a2, a3, -⟩ := w4 j hj
  have := R.1.at a1 a2
  exact ⟨_, by omega, a3⟩
theorem e_clear (h : gCl C) : ∃ C1, (∀ Q, Q C1 → p_X9_clear C Q) ∧ c_i C1 22 = 0 ∧ (∀ a, a < 2 * c_sz C → c_a C1 18 a = 0) ∧ wfC C C1 ∧ (c_i C1 23 = c_i C 23 ∧ c_a C1 19 = c_a C 19) := by
  obtain ⟨w, h1, h2, h3, h4, h5⟩ := h
  have key : ∀ (d j : Nat) (D : cS), j + d = w → c_sz D = c_sz C → c_i D 22 = nI w → c_a D 17 = c_a C 17 → (∀ a, a < 2 * c_sz C → c_a D 18 a ≠ 0 → ∃ i, j ≤ i ∧ i < w ∧ c_a C 17 i = nI a) →
      ∃ D', (∃ m, ∀ Q K, K D' → w_X9_clear_2 Q K m (nI j) D) ∧ (∀ a, a < 2 * c_sz C → c_a D' 18 a = 0) ∧ wfC D D' ∧ (c_i D' 23 = c_i D 23 ∧ c_a D' 19 = c_a D 19) := by
    intro d
    induction d with
    | zero =>
      intro j D hj e0 e1 e2 e3
      refine ⟨D, ⟨1, fun Q K hK => ⟨fun _ => hK, fun q => absurd ?_ q⟩⟩, fun a ha => ?_, wfC.rf D, rfl, rfl⟩
      · rw [e1, ni_le (by omega) (by omega)]; omega
      · by_cases q : c_a D 18 a = 0
        · exact q
        · obtain ⟨i, i1, i2, -⟩ := e3 a ha q; omega
    | succ d ih =>
      intro j D hj e0 e1 e2 e3
      obtain ⟨a, ha, ha2⟩ := h4 j (by omega)
      have ac : (nI a).toNatClampNeg = a := ni_cl (by omega)
      obtain ⟨D', ⟨m, f1⟩, f2, f3, f4⟩ := ih (j + 1) (c_aU D 18 (nI a) 0) (by omega) e0 e1 e2 (fun b hb hne => by
        have k : c_a (c_aU D 18 (nI a) 0) 18 b = if b = a then 0 else c_a D 18 b := by
          show upd (c_a D 18) (nI a).toNatClampNeg 0 b = _
          rw [ac, up_at]
        rw [k] at hne
        by_cases q : b = a
        · rw [if_pos q] at hne; exact absurd rfl hne
        · rw [if_neg q] at hne
          obtain ⟨i, i1, i2, i3⟩ := e3 b hb hne
          refine ⟨i, ?_, i2, i3⟩
          by_cases q2 : i = j
          · rw [q2, ha2, ni_eq (by omega) (by omega)] at i3
            exact absurd i3.symm q
          · omega)
      have e4 : c_a D 17 (nI j).toNatClampNeg = nI a := by rw [ni_cl (by omega), e2]; exact ha2
      refine ⟨D', ⟨m + 1, fun Q K hK => ⟨fun q => ?_, fun _ => ⟨?_, ?_, fun u hu => ?_⟩⟩⟩, f2, ((wfC.rf D).u (by decide)).tr f3, f4⟩
      · rw [e1, ni_le (by omega) (by omega)] at q; omega
      · rw [e0]; exact (ni_in (by omega)).mpr (by omega)
      · rw [e4, e0]; exact (ni_in (by omega)).mpr (by omega)
      · rw [nI_1] at hu
        subst hu
        rw [e4]
        exact f1 Q K hK
  obtain ⟨D', ⟨m, f1⟩, f2, f3, f4⟩ := key w 0 C (by omega) rfl h1 rfl (fun a ha hne => by obtain ⟨j, j1, j2⟩ := h5 a ha hne; exact ⟨j, by omega, j1, j2⟩)
  exact ⟨c_iS D' 22 0, fun Q hQ => ⟨m, f1 Q _ hQ⟩, rfl, f2, f3.i (by decide), f4⟩
theorem e_forget : ∃ M1, (∀ Q, Q M1 → p_X11_forget M Q) ∧ m_i M1 34 = 0 ∧ (∀ t, t < 1300 → m_a M1 28 t = 0) ∧ wfM M M1 ∧ (m_i M1 35 = m_i M 35 ∧ m_a M1 29 = m_a M 29) := by
  have key : ∀ (d k : Nat) (D : mS), k + d = 1300 → (∀ t, t < k → m_a D 28 t = 0) → ∃ D', (∃ m, ∀ Q K, K D' → w_X11_forget_7 Q K m (nI k) D) ∧ (∀ t, t < 1300 → m_a D' 28 t = 0) ∧ wfM D D' ∧ (m_i D' 35 = m_i D 35 ∧ m_a D' 29 = m_a D 29 ∧ m_i D' 34 = m_i D 34) := by
    intro d
    induction d with
    | zero =>
      intro k D hk e
      refine ⟨D, ⟨1, fun Q K hK => ⟨fun _ => hK, fun q => absurd ((ni_lle (by omega) (by decide)).mpr (by omega)) q⟩⟩, fun t ht => e t (by omega), wfM.rf D, rfl, rfl, rfl⟩
    | succ d ih =>
      intro k D hk e
      obtain ⟨D', ⟨m, f1⟩, f2, f3, f4⟩ := ih (k + 1) (m_aU D 28 (nI k) 0) (by omega) (fun t ht => by
        show upd (m_a D 28) (nI k).toNatClampNeg 0 t = 0
        rw [ni_cl (by omega), up_at]
        by_cases q : t = k
        · rw [if_pos q]
        · rw [if_neg q]; exact e t (by omega))
      refine ⟨D', ⟨m + 1, fun Q K hK => ⟨fun q => ?_, fun _ => ⟨(ni_in (by omega)).mpr (by omega), fun u hu => ?_⟩⟩⟩, f2, ((wfM.rf D).u (by decide)).tr f3, f4⟩
      · rw [ni_lle (by omega) (by decide)] at q; omega
      · rw [nI_1] at hu
        subst hu
        exact f1 Q K hK
  obtain ⟨D', ⟨m, f1⟩, f2, f3, f4⟩ := key 1300 0 (m_iS M 34 0) (by omega) (fun t ht => by omega)
  exact ⟨D', fun Q hQ => ⟨m, f1 Q _ hQ⟩, f4.2.2, f2, ((wfM.rf M).i (by decide)).tr f3, f4.1, f4.2.1⟩
theorem gWk.init (R : RelM C M sz pr B O fl pa ro h mm ps nx st ad sl mv P) (h1 : c_i C 22 = 0) (h2 : ∀ a, a < 2 * c_sz C → c_a C 18 a = 0) (h3 : m_i M 34 = 0) (h4 : ∀ t, t < 1300 → m_a M 28 t = 0) : gWk C M sz 0 st ad (fun _ => 0) (fun _ => 0) := by
  have s0 := R.2.1.1.1
  have g1 := R.1.1
  rw [s0] at h2
  refine ⟨h1, h3, by omega, fun j hj => by omega, fun t ht => ⟨h4 t ht, Nat.le_refl _, fun q => absurd rfl q⟩, fun t ht hl => ?_, fun a ha hne => absurd (h2 a ha) hne, ?_⟩
  · have := R.1.at ht hl
    exact h2 _ (by omega)
  · exact sumT_zero fun t _ => rfl
end ZWK
