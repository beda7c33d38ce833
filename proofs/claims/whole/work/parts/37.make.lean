/-! THE MEMORY: a thing is made -/
section ZM2
variable {C : cS} {M : mS} {sz pr B O fl pa ro h mm ps nx v t i n a r k : Nat} {st ad sl mv P : Nat → Nat} {x y s b hd rw9 : Int32}
theorem j_fillC : ∀ (d : Nat) {C : cS} {i : Nat}, i + d = n → c_sz C = sz → a + 2 + n ≤ 2 * sz → sz ≤ 1200 → (hd = 3 ∧ s = 1 ∨ hd = 4 ∧ s = 0) →
    ∃ C', (∃ m, ∀ Q K, K (nI a) C' → w_X3_lay_64 Q K m (nI n) hd (nI a) (nI (a + 2 + i)) C) ∧ (∀ j, (j < a + 2 + i ∨ a + 2 + n ≤ j) → c_a C' 10 j = c_a C 10 j ∧ c_a C' 11 j = c_a C 11 j) ∧
      (∀ j, a + 2 + i ≤ j → j < a + 2 + n → c_a C' 10 j = s ∧ c_a C' 11 j = 0) ∧ frC C C' ∧ (∀ k, c_i C' k = c_i C k) ∧ (∀ k, 12 ≤ k → c_a C' k = c_a C k) := by
  intro d
  induction d with
  | zero =>
    intro C i hi hs ha hz hh
    refine ⟨C, ⟨1, fun Q K hK => ⟨fun _ => hK, fun q => absurd ?_ q⟩⟩, fun j _ => ⟨rfl, rfl⟩, fun j _ _ => by omega, frC.rf C, fun _ => rfl, fun _ _ => rfl⟩
    rw [ni_al, nI_add, ni_le (by omega) (by omega)]
    omega
  | succ d ih =>
    intro C i hi hs ha hz hh
    have b1 : a + 2 + i < 2147483648 := by omega
    have c1 : ¬ nI a + 2 + nI n ≤ nI (a + 2 + i) := by rw [ni_al, nI_add, ni_le (by omega) (by omega)]; omega
    have c2 : vp_in (nI (a + 2 + i)) (2 * c_sz C) := by rw [hs]; exact (ni_in b1).mpr (by omega)
    obtain ⟨C', ⟨m, e1⟩, e2, e3, e4, e5, e6⟩ := ih (C := c_aU (c_aU C 10 (nI (a + 2 + i)) s) 11 (nI (a + 2 + i)) 0) (i := i + 1) (by omega) hs ha hz hh
    have k10 : ∀ j, c_a (c_aU (c_aU C 10 (nI (a + 2 + i)) s) 11 (nI (a + 2 + i)) 0) 10 j = if j = a + 2 + i then s else c_a C 10 j := by
      intro j
      show upd (c_a C 10) (nI (a + 2 + i)).toNatClampNeg s j = _
      rw [ni_cl b1, up_at]
    have k11 : ∀ j, c_a (c_aU (c_aU C 10 (nI (a + 2 + i)) s) 11 (nI (a + 2 + i)) 0) 11 j = if j = a + 2 + i then 0 else c_a C 11 j := by
      intro j
      show upd (c_a C 11) (nI (a + 2 + i)).toNatClampNeg 0 j = _
      rw [ni_cl b1, up_at]
    refine ⟨C', ⟨m + 1, fun Q K hK => ⟨fun q => absurd q c1, fun _ => ⟨fun q => ⟨c2, fun w hw => ?_⟩, fun q => ⟨c2, fun w hw => ?_⟩⟩⟩⟩, fun j hj => ?_, fun j h1 h2 => ?_, (((frC.rf C).u (by decide)).u (by decide)).tr e4, e5, fun k hk => ?_⟩
    · rcases hh with hh | hh
      · exact absurd hh.1 q
      · rw [nI_1, Nat.add_assoc] at hw
        subst hw
        have q9 := e1 Q K hK
        rw [hh.2] at q9
        exact q9
    · rcases hh with hh | hh
      · rw [nI_1, Nat.add_assoc] at hw
        subst hw
        rw [← hh.2]
        exact e1 Q K hK
      · rw [hh.1] at q; exact absurd q (by decide)
    · obtain ⟨q1, q2⟩ := e2 j (by omega)
      rw [q1, q2, k10, k11, if_neg (by omega), if_neg (by omega)]
      exact ⟨rfl, rfl⟩
    · by_cases q : j = a + 2 + i
      · obtain ⟨q1, q2⟩ := e2 j (by omega)
        rw [q1, q2, k10, k11, if_pos q, if_pos q]
        exact ⟨rfl, rfl⟩
      · exact e3 j (by omega) h2
    · rw [e6 k hk, cs_a_aU, if_neg (by omega), cs_a_aU, if_neg (by omega)]
theorem j_fillM : ∀ (d : Nat) {M : mS} {i : Nat}, i + d = n → n ≤ 40 → t < 1300 → (rw9 = 1 ∧ s = 1 ∨ rw9 = 0 ∧ s = 0) →
    ∃ M', (∃ m, ∀ Q K l1, K l1 (nI t) M' → w_X11_make_234 Q K m l1 (nI n) rw9 (nI t) (nI i) M) ∧ (∀ j, (j < 40 * t + i ∨ 40 * t + n ≤ j) → m_a M' 4 j = m_a M 4 j ∧ m_a M' 5 j = m_a M 5 j) ∧
      (∀ j, 40 * t + i ≤ j → j < 40 * t + n → m_a M' 4 j = s ∧ m_a M' 5 j = 0) ∧ frM M M' ∧ (∀ k, m_i M' k = m_i M k) ∧ (∀ k, k ≠ 4 → k ≠ 5 → m_a M' k = m_a M k) := by
  intro d
  induction d with
  | zero =>
    intro M i hi hn ht hh
    refine ⟨M, ⟨1, fun Q K l1 hK => ⟨fun _ => hK, fun q => absurd ?_ q⟩⟩, fun j _ => ⟨rfl, rfl⟩, fun j _ _ => by omega, frM.rf M, fun _ => rfl, fun _ _ _ => rfl⟩
    rw [ni_le (by omega) (by omega)]
    omega
  | succ d ih =>
    intro M i hi hn ht hh
    have b1 : 40 * t + i < 2147483648 := by omega
    have c1 : ¬ nI n ≤ nI i := by rw [ni_le (by omega) (by omega)]; omega
    have e0 : 40 * nI t + nI i = nI (40 * t + i) := by rw [ni_lm, nI_add]
    have c2 : vp_in (40 * nI t + nI i) 52000 := by rw [e0]; exact (ni_in b1).mpr (by omega)
    obtain ⟨M', ⟨m, e1⟩, e2, e3, e4, e5, e6⟩ := ih (M := m_aU (m_aU M 4 (nI (40 * t + i)) s) 5 (nI (40 * t + i)) 0) (i := i + 1) (by omega) hn ht hh
    have k10 : ∀ j, m_a (m_aU (m_aU M 4 (nI (40 * t + i)) s) 5 (nI (40 * t + i)) 0) 4 j = if j = 40 * t + i then s else m_a M 4 j := by
      intro j
      show upd (m_a M 4) (nI (40 * t + i)).toNatClampNeg s j = _
      rw [ni_cl b1, up_at]
    have k11 : ∀ j, m_a (m_aU (m_aU M 4 (nI (40 * t + i)) s) 5 (nI (40 * t + i)) 0) 5 j = if j = 40 * t + i then 0 else m_a M 5 j := by
      intro j
      show upd (m_a M 5) (nI (40 * t + i)).toNatClampNeg 0 j = _
      rw [ni_cl b1, up_at]
    refine ⟨M', ⟨m + 1, fun Q K l1 hK => ⟨fun q => absurd q c1, fun _ => ⟨fun q => ⟨c2, fun w hw => ?_⟩, fun q => ⟨c2, fun w hw => ?_⟩⟩⟩⟩, fun j hj => ?_, fun j h1 h2 => ?_, (((frM.rf M).u (by decide)).u (by decide)).tr e4, e5, fun k h4 h5 => ?_⟩
    · rcases hh with hh | hh
      · rw [hh.1] at q; exact absurd q (by decide)
      · rw [nI_1] at hw
        subst hw
        have q9 := e1 Q K l1 hK
        rw [hh.2] at q9
        rw [e0]
        exact q9
    · rcases hh with hh | hh
      · rw [nI_1] at hw
        subst hw
        rw [e0, ← hh.2]
        exact e1 Q K l1 hK
      · exact absurd hh.1 q
    · obtain ⟨q1, q2⟩ := e2 j (by omega)
      rw [q1, q2, k10, k11, if_neg (by omega), if_neg (by omega)]
      exact ⟨rfl, rfl⟩
    · by_cases q : j = 40 * t + i
      · obtain ⟨q1, q2⟩ := e2 j (by omega)
        rw [q1, q2, k10, k11, if_pos q, if_pos q]
        exact ⟨rfl, rfl⟩
      · exact e3 j (by omega) h2
    · rw [e6 k h4 h5, ms_a_aU, if_neg h5, ms_a_aU, if_neg h4]
theorem j_find : ∀ (d k : Nat), k + d = t → t < 1300 → m_a M 2 t = -1 → (∀ u, u < t → ¬ m_a M 2 u = -1) → ∃ n, ∀ Q K l1 l2 l3 l4, K l1 l2 l3 l4 (nI t) M → w_X11_make_165 Q K n l1 l2 l3 l4 (nI k) M := by
  intro d
  induction d with
  | zero =>
    intro k hk ht h1 h2
    have e : k = t := by omega
    subst e
    refine ⟨1, fun Q K l1 l2 l3 l4 hK => ⟨(ni_in (by omega)).mpr ht, fun _ => hK, fun q => absurd ?_ q⟩⟩
    rw [ni_cl (by omega)]; exact h1
  | succ d ih =>
    intro k hk ht h1 h2
    obtain ⟨n, hn⟩ := ih (k + 1) (by omega) ht h1 h2
    refine ⟨n + 1, fun Q K l1 l2 l3 l4 hK => ⟨(ni_in (by omega)).mpr (by omega), fun q => absurd ?_ (h2 k (by omega)), fun _ w hw => ?_⟩⟩
    · rw [ni_cl (by omega)] at q; exact q
    · rw [nI_1] at hw
      subst hw
      exact hn Q K l1 l2 l3 l4 hK
/-- the reference's own way to lay a thing -/
def mLay (Q : Int32 → mS → Prop) (l1 l2 l3 l4 : Int32) (M : mS) : Prop :=
  ∃ nz41 : Nat, w_X11_make_165 Q (fun lz23 lz24 lz25 lz26 lz27 Mz28 => vp_in lz27 1300 ∧ ∃ nz40 : Nat, w_X11_make_234 Q (fun lz36 lz37 Mz38 => vp_in lz36 58 ∧ Q 0 (m_aU (m_aU (m_iS Mz38 13 ((m_i Mz38 13) + 1)) 6 lz36 2) 7 lz36 lz37)) nz40 lz23 lz24 lz25 lz27 0 (m_aU (m_aU (m_aU (m_aU (m_iS Mz28 8 ((m_i Mz28 8) - lz26)) 2 lz27 (m_i Mz28 9)) 3 lz27 ((m_i Mz28 8) - lz26)) 0 lz27 (vp_nar .boolean lz25)) 1 lz27 lz24)) nz41 l1 l2 l3 l4 0 M
theorem gT.lay {m1 m2 m3 m1' m2' m3' : Nat → Int32} (ht : t < 1300) (hr : n + 2 ≤ ro) (e1 : m1' = upd m1 t (nI n)) (e2 : m2' = upd m2 t (nI pr)) (e3 : m3' = upd m3 t (nI (ro - (n + 2)))) (T : gT m1 m2 m3 pr B O st ad sl) : gT m1' m2' m3' pr B O (nup st t 1) (nup ad t (B + (ro - (n + 2)))) (nup sl t n) := by
  subst e1 e2 e3
  intro u hu
  rw [up_at, up_at, up_at]
  by_cases e : u = t
  · subst e
    rw [if_pos rfl, if_pos rfl, if_pos rfl, nup_s, nup_s, nup_s, hv_1]
    exact ⟨rfl, rfl, fun _ => by rw [Nat.add_sub_cancel_left], fun q => by cases q⟩
  · rw [if_neg e, if_neg e, if_neg e, nup_o e, nup_o e, nup_o e]
    exact T u hu
theorem gMv.lay {mvd : Nat → Int32} (h0 : st t = 0) (V : gMv mvd B fl pa mm ps st ad sl mv P) : gMv mvd B fl pa mm ps (nup st t 1) (nup ad t a) (nup sl t n) mv P := by
  obtain ⟨v1, v2, v3, v4, v5, v6⟩ := V
  refine ⟨v1, v2, v3, v4, v5, fun j hj => ?_⟩
  obtain ⟨w1, w2, w3, w4, w5⟩ := v6 j hj
  have e : mv j ≠ t := fun q => by rw [q] at w3; omega
  rw [nup_o e, nup_o e, nup_o e]
  exact ⟨w1, w2, w3, w4, w5⟩
theorem j_lay (R : RelM C M sz pr B O fl pa ro h mm ps (8 + h) st ad sl mv P) (hn : n ≤ 40) (hr : n + 2 ≤ ro - fl) (hr8 : r < 8) (hh : hd = 3 ∧ rw9 = 1 ∨ hd = 4 ∧ rw9 = 0) :
    ∃ (C1 : cS) (M1 : mS) (st' ad' sl' : Nat → Nat), (∀ Q, Q (nI (B + (ro - (n + 2)))) C1 → p_X3_lay (nI n) hd C Q) ∧ (∀ Q, Q 0 M1 → mLay Q (nI r) (nI n) rw9 (nI (n + 2)) M) ∧
      RelM (c_aU (c_aU C1 12 (nI r) 2) 13 (nI r) (nI (B + (ro - (n + 2))))) M1 sz pr B O fl pa (ro - (n + 2)) h mm ps (8 + h) st' ad' sl' mv P ∧ frC C C1 ∧ frM M M1 ∧ (c_a C1 14 6 = c_a C 14 6 ∧ m_i M1 12 = m_i M 12) := by
  obtain ⟨G, ⟨⟨s0, s9, s11, s12, s13, s14, s15⟩, ⟨z0, z3, z4, z5, z6, z7, z8, z9⟩, h50⟩, T, H, Rt, V, K⟩ := id R
  have hbase := G.base
  obtain ⟨g1, g2, g3, g4, g5, g6, g7, g8, g9⟩ := id G
  obtain ⟨t, ht, h0, hmin⟩ := gone_ex (st := st) (sl := sl) (by omega) (by omega) (fun t ht => (g4 t ht).2)
  obtain ⟨a, ha⟩ : ∃ a, a = B + (ro - (n + 2)) := ⟨_, rfl⟩
  rw [← ha]
  have b1 : a < 2147483648 := by omega
  have b2 : a + 1 < 2147483648 := by omega
  obtain ⟨C', ⟨m, e1⟩, e2, e3, e4, e5, e6⟩ := j_fillC (n := n) (a := a) (sz := sz) (hd := hd) (s := if hd = 3 then 1 else 0) n (C := c_aU (c_aU (c_aU (c_aU (c_iS C 15 (nI (ro - (n + 2)))) 10 (nI a) hd) 11 (nI a) (nI n)) 10 (nI (a + 1)) 5) 11 (nI (a + 1)) 0) (i := 0) (by omega) s0 (by omega) (by omega) (by rcases hh with hh | hh <;> rw [hh.1] <;> decide)
  obtain ⟨M', ⟨m2, f1⟩, f2, f3, f4, f5, f6⟩ := j_fillM (n := n) (t := t) (rw9 := rw9) (s := if hd = 3 then 1 else 0) n (M := m_aU (m_aU (m_aU (m_aU (m_iS M 8 (nI (ro - (n + 2)))) 2 (nI t) (nI pr)) 3 (nI t) (nI (ro - (n + 2)))) 0 (nI t) rw9) 1 (nI t) (nI n)) (i := 0) (by omega) hn ht (by rcases hh with hh | hh <;> rw [hh.1, hh.2] <;> decide)
  have d2 : m_a M 2 t = -1 := by rw [(T t ht).2.1, h0]; rfl
  have d3 : ∀ u, u < t → ¬ m_a M 2 u = -1 := by
    intro u hu
    rw [(T u (by omega)).2.1]
    have q := hmin u hu
    have q4 := (g4 u (by omega)).2
    have : st u = 1 ∨ st u = 2 := by omega
    rcases this with w | w
    · rw [w, hv_1, ni_m1 (by omega)]; exact id
    · rw [w, hv_2, ni_m1 (by omega)]; exact id
  obtain ⟨m3, d1⟩ := j_find t 0 (by omega) ht d2 d3
  have tc : (nI t).toNatClampNeg = t := ni_cl (by omega)
  have rc : (nI r).toNatClampNeg = r := ni_cl (by omega)
  refine ⟨c_aU C' 14 7 (((c_a C' 14) (7 : Int32).toNatClampNeg) + 1), m_aU (m_aU (m_iS M' 13 ((m_i M' 13) + 1)) 6 (nI r) 2) 7 (nI r) (nI t), nup st t 1, nup ad t a, nup sl t n, ?_, ?_, ?_, ?_, ?_, ?_⟩
  · intro Q hQ w hw
    rw [s12, s9, s15, pk_mul, hbase, ni_al, ni_sub (by omega), nI_add, ← ha] at hw
    subst hw
    rw [s0, s15, nI_1, show nI n + 2 = nI (n + 2) from nI_add n 2, ni_sub (by omega)]
    refine ⟨(ni_in b1).mpr (by omega), (ni_in b2).mpr (by omega), fun w hw => ?_⟩
    rw [ni_al] at hw
    subst hw
    exact ⟨m, e1 Q _ hQ⟩
  · intro Q hQ
    refine ⟨m3, d1 Q _ _ _ _ _ ⟨(ni_in (by omega)).mpr ht, m2, ?_⟩⟩
    rw [z8, z9, ni_sub (by omega), show vp_nar .boolean rw9 = rw9 by rcases hh with hh | hh <;> rw [hh.2] <;> rfl]
    exact f1 Q _ _ ⟨(ni_in (by omega)).mpr (by omega), hQ⟩
  · -- the relation
    have c10 : ∀ j, c_a (c_aU (c_aU (c_aU (c_aU (c_iS C 15 (nI (ro - (n + 2)))) 10 (nI a) hd) 11 (nI a) (nI n)) 10 (nI (a + 1)) 5) 11 (nI (a + 1)) 0) 10 j = if j = a + 1 then 5 else if j = a then hd else c_a C 10 j := by
      intro j
      show upd (upd (c_a C 10) (nI a).toNatClampNeg hd) (nI (a + 1)).toNatClampNeg 5 j = _
      rw [ni_cl b1, ni_cl b2, up_at, up_at]
    have c11 : ∀ j, c_a (c_aU (c_aU (c_aU (c_aU (c_iS C 15 (nI (ro - (n + 2)))) 10 (nI a) hd) 11 (nI a) (nI n)) 10 (nI (a + 1)) 5) 11 (nI (a + 1)) 0) 11 j = if j = a + 1 then 0 else if j = a then nI n else c_a C 11 j := by
      intro j
      show upd (upd (c_a C 11) (nI a).toNatClampNeg (nI n)) (nI (a + 1)).toNatClampNeg 0 j = _
      rw [ni_cl b1, ni_cl b2, up_at, up_at]
    have hrow : m_a M' 0 = upd (m_a M 0) t rw9 := by
      rw [f6 0 (by decide) (by decide)]
      show upd (m_a M 0) (nI t).toNatClampNeg rw9 = _
      rw [tc]
    have G' := G.lay (t := t) ht h0 hn hr
    have H' : gH (c_a C' 10) (c_a C' 11) (m_a M' 0) (m_a M' 4) (m_a M' 5) B O sz pa (ro - (n + 2)) (nup st t 1) (nup ad t a) (nup sl t n) := by
      refine gH.lay (s := if hd = 3 then 1 else 0) G ht h0 hn hr ha (fun j hj => ?_) ?_ ?_ ?_ ?_ (fun i hi => ?_) (fun u hu => ?_) (fun u i hu hi => ?_) H
      · obtain ⟨q1, q2⟩ := e2 j (by omega)
        rw [q1, q2, c10, c11, if_neg (by omega), if_neg (by omega), if_neg (by omega), if_neg (by omega)]
        exact ⟨rfl, rfl⟩
      · rw [(e2 a (by omega)).1, c10, if_neg (by omega), if_pos rfl, hrow, up_at, if_pos rfl]
        rcases hh with hh | hh <;> rw [hh.1, hh.2] <;> rfl
      · rw [(e2 a (by omega)).2, c11, if_neg (by omega), if_pos rfl]
      · rw [(e2 (a + 1) (by omega)).1, c10, if_pos rfl]
      · split
        · exact Or.inr rfl
        · exact Or.inl rfl
      · obtain ⟨q1, q2⟩ := e3 (a + 2 + i) (by omega) (by omega)
        obtain ⟨q3, q4⟩ := f3 (40 * t + i) (by omega) (by omega)
        exact ⟨q1, q2, q3, q4⟩
      · rw [hrow, up_at, if_neg hu]
      · obtain ⟨q1, q2⟩ := f2 (40 * u + i) (by omega)
        rw [q1, q2]
        exact ⟨rfl, rfl⟩
    have hold : ∀ f, O ≤ f → f < O + sz → c_a C' 10 f = c_a C 10 f ∧ c_a C' 11 f = c_a C 11 f := by
      intro f w1 w2
      obtain ⟨q1, q2⟩ := e2 f (by omega)
      rw [q1, q2, c10, c11, if_neg (by omega), if_neg (by omega), if_neg (by omega), if_neg (by omega)]
      exact ⟨rfl, rfl⟩
    have e12 : c_a C' 12 = c_a C 12 := e6 12 (by omega)
    have e13 : c_a C' 13 = c_a C 13 := e6 13 (by omega)
    have e14 : c_a C' 14 = c_a C 14 := e6 14 (by omega)
    have hE : gE (nup st t 1) (nup ad t a) 2 (nI a) 2 (nI t) := ⟨rfl, Or.inr (Or.inr ⟨rfl, t, ht, rfl, nup_s _ _ _, by rw [nup_s]⟩)⟩
    have Rt' : gR (c_a C' 10) (c_a C' 11) (upd (c_a C 12) r 2) (upd (c_a C 13) r (nI a)) (upd (m_a M 6) r 2) (upd (m_a M 7) r (nI t)) O sz (nup st t 1) (nup ad t a) (8 + h) (8 + h) :=
      gR.put hE rfl rfl rfl rfl ((gR.congr hold Rt).lay h0)
    have fin12 : c_a (c_aU (c_aU (c_aU C' 14 7 (((c_a C' 14) (7 : Int32).toNatClampNeg) + 1)) 12 (nI r) 2) 13 (nI r) (nI a)) 12 = upd (c_a C 12) r 2 := by
      show upd (c_a C' 12) (nI r).toNatClampNeg 2 = _
      rw [rc, e12]
    have fin13 : c_a (c_aU (c_aU (c_aU C' 14 7 (((c_a C' 14) (7 : Int32).toNatClampNeg) + 1)) 12 (nI r) 2) 13 (nI r) (nI a)) 13 = upd (c_a C 13) r (nI a) := by
      show upd (c_a C' 13) (nI r).toNatClampNeg (nI a) = _
      rw [rc, e13]
    have fin6 : m_a (m_aU (m_aU (m_iS M' 13 ((m_i M' 13) + 1)) 6 (nI r) 2) 7 (nI r) (nI t)) 6 = upd (m_a M 6) r 2 := by
      show upd (m_a M' 6) (nI r).toNatClampNeg 2 = _
      rw [rc, f6 6 (by decide) (by decide)]
      rfl
    have fin7 : m_a (m_aU (m_aU (m_iS M' 13 ((m_i M' 13) + 1)) 6 (nI r) 2) 7 (nI r) (nI t)) 7 = upd (m_a M 7) r (nI t) := by
      show upd (m_a M' 7) (nI r).toNatClampNeg (nI t) = _
      rw [rc, f6 7 (by decide) (by decide)]
      rfl
    rw [← ha] at G'
    refine ⟨G', ⟨⟨e4.1.1.trans s0, (e5 9).trans s9, (e5 11).trans s11, (e5 12).trans s12, (e5 13).trans s13, (e5 14).trans s14, (e5 15)⟩, ⟨(f5 0).trans z0, (f5 3).trans z3, (f5 4).trans z4, (f5 5).trans z5, (f5 6).trans z6, (f5 7).trans z7, f5 8, (f5 9).trans z9⟩, h50⟩, ?_, H', ?_, ?_, ?_⟩
    · rw [ha]
      refine gT.lay ht (by omega) ?_ ?_ ?_ T
      · show m_a M' 1 = _
        rw [f6 1 (by decide) (by decide)]
        show upd (m_a M 1) (nI t).toNatClampNeg (nI n) = _
        rw [tc]
      · show m_a M' 2 = _
        rw [f6 2 (by decide) (by decide)]
        show upd (m_a M 2) (nI t).toNatClampNeg (nI pr) = _
        rw [tc]
      · show m_a M' 3 = _
        rw [f6 3 (by decide) (by decide)]
        show upd (m_a M 3) (nI t).toNatClampNeg (nI (ro - (n + 2))) = _
        rw [tc]
    · rw [fin12, fin13, fin6, fin7]
      exact Rt'
    · show gMv (m_a M' 8) _ _ _ _ _ _ _ _ _ _
      rw [f6 8 (by decide) (by decide)]
      exact gMv.lay h0 V
    · obtain ⟨k2, k3, k4, k5, k6, k7, k8⟩ := K
      show c_a C' 14 5 = m_i M' 11 ∧ c_a C' 14 7 + 1 = m_i M' 13 + 1 ∧ c_a C' 14 8 = m_i M' 14 ∧ c_a C' 14 9 = m_i M' 15 ∧ c_a C' 14 10 = m_i M' 16 ∧ c_a C' 14 11 = m_i M' 17 ∧ c_a C' 14 12 = m_i M' 18
      rw [e14, f5, f5, f5, f5, f5, f5, f5]
      exact ⟨k2, congrArg (· + 1) k3, k4, k5, k6, k7, k8⟩
  · exact ((((((frC.rf C).i (by decide)).u (by decide)).u (by decide)).u (by decide)).u (by decide)).tr e4 |> fun q => q.c (by decide)
  · exact ((((((frM.rf M).i (by decide)).u (by decide)).u (by decide)).u (by decide)).u (by decide)).tr f4 |> fun q => ((q.i (by decide)).u (by decide)).u (by decide)
  · refine ⟨?_, ?_⟩
    · show c_a C' 14 6 = _
      rw [e6 14 (by omega)]
      rfl
    · show m_i M' 12 = _
      rw [f5]
      rfl
end ZM2
