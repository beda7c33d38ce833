/-! THE BEGINNING: what the constructors leave is alike -/
section ZI20
def off : Nat → Nat
  | 0 => 0
  | a + 1 => off a + z_tlen a + 1
theorem off_ch : ∀ a, a < 26 → ∀ j, j < z_tlen a → z_tchr 39 (off a + j) = z_tchr a j := by decide +kernel
theorem off_sp : ∀ a, a < 26 → z_tchr 39 (off a + z_tlen a) = 32 := by decide +kernel
theorem off_end : off 26 = z_tlen 39 := by decide +kernel
theorem off_tot : z_tlen 39 < 1000 := by decide +kernel
theorem off_lt : ∀ a, a < 26 → ∀ j, j < z_tlen a + 1 → off a + j ≠ z_tlen 39 := by decide +kernel
theorem ch_32 : ∀ a, a < 26 → ∀ j, j < z_tlen a → ¬ z_tchr a j = 32 := by decide +kernel
def twI (M : mS) (a j : Nat) : Prop := (∀ b, b < a → m_l M 0 b = lN (pkv 256 (ac b) (z_tlen b)) ∧ m_a M 10 b = nI (z_tlen b)) ∧ (a < 26 → m_l M 0 a = lN (pkv 256 (ac a) j) ∧ m_a M 10 a = nI j) ∧ ∀ b, a < b → b < 26 → m_l M 0 b = 0 ∧ m_a M 10 b = 0
def twF (M M1 : mS) : Prop := (∀ k, m_i M1 k = m_i M k) ∧ (∀ k, k ≠ 10 → m_a M1 k = m_a M k)
theorem tw_go : ∀ (d a j : Nat) {M : mS}, a ≤ 26 → (a = 26 → j = 0) → j ≤ z_tlen a → off a + j + d = z_tlen 39 → twI M a j → ∃ M1, twF M M1 ∧ wtM M1 ∧ ∃ N, ∀ Q K, K M1 → w_X11_tellWords_7 Q K N (nI a) (nI (off a + j)) M := by
  have tt := off_tot
  intro d
  induction d with
  | zero =>
    intro a j M ha h26 hj hd I
    have e26 : a = 26 := by
      by_cases e : a < 26
      · exact absurd hd (off_lt a e j (by omega))
      · omega
    exact ⟨M, ⟨fun _ => rfl, fun _ _ => rfl⟩, fun b hb => I.1 b (by omega), 1, fun Q K hK => ⟨by decide, fun _ => hK, fun r => absurd (by rw [ni_le (by omega) (by omega)]; omega) r⟩⟩
  | succ d ih =>
    intro a j M ha h26 hj hd I
    have ha : a < 26 := by
      by_cases e : a = 26
      · have := h26 e
        have := off_end
        subst e
        omega
      · omega
    have g1 : ¬ nI (z_tlen 39) ≤ nI (off a + j) := by rw [ni_le (by omega) (by omega)]; omega
    have g2 : vp_in (nI (off a + j)) (z_tlen 39) := (ni_in (by omega)).mpr (by omega)
    have cl : (nI (off a + j)).toNatClampNeg = off a + j := ni_cl (by omega)
    have cla : (nI a).toNatClampNeg = a := ni_cl (by omega)
    by_cases h : j < z_tlen a
    · obtain ⟨o1, o2⟩ := (ac_ok a ha).2 j h
      have hc := off_ch a ha j h
      have l6 := (ac_ok a ha).1.2
      have bnd : pkv 256 (ac a) j < 2 ^ 55 := pk2_b7 (by omega) fun i hi => by have := ((ac_ok a ha).2 i (by omega)).2; omega
      let M2 : mS := m_aU (m_lU M 0 (nI a) (lN (pkv 256 (ac a) (j + 1)))) 10 (nI a) (nI (j + 1))
      have I2 : twI M2 a (j + 1) := by
        refine ⟨fun b hb => ?_, fun _ => ⟨?_, ?_⟩, fun b hb1 hb2 => ?_⟩
        · show vp_updL (m_l M 0) (nI a).toNatClampNeg _ b = _ ∧ upd (m_a M 10) (nI a).toNatClampNeg _ b = _
          rw [cla, upL_at, up_at, if_neg (by omega), if_neg (by omega)]
          exact I.1 b hb
        · show vp_updL (m_l M 0) (nI a).toNatClampNeg _ a = _
          rw [cla, upL_at, if_pos rfl]
        · show upd (m_a M 10) (nI a).toNatClampNeg _ a = _
          rw [cla, up_at, if_pos rfl]
        · show vp_updL (m_l M 0) (nI a).toNatClampNeg _ b = _ ∧ upd (m_a M 10) (nI a).toNatClampNeg _ b = _
          rw [cla, upL_at, up_at, if_neg (by omega), if_neg (by omega)]
          exact I.2.2 b hb1 hb2
      obtain ⟨M1, f1, f2, N, f3⟩ := ih a (j + 1) (by omega) (by omega) (by omega) (by omega) I2
      refine ⟨M1, ⟨fun k => (f1.1 k).trans rfl, fun k q => (f1.2 k q).trans (by show m_a (m_aU (m_lU M 0 (nI a) (lN (pkv 256 (ac a) (j + 1)))) 10 (nI a) (nI (j + 1))) k = _; rw [ms_a_aU, if_neg q]; rfl)⟩, f2, N + 1, fun Q K hK => ⟨by decide, fun r => absurd r g1, fun _ => ⟨g2, ?_⟩⟩⟩
      rw [cl, hc, cla, (I.2.1 ha).1, (I.2.1 ha).2, o1, sh8 bnd (by omega), nI_1 j]
      refine ⟨fun _ => ⟨(ni_in (by omega)).mpr ha, fun v hv2 => ?_⟩, fun r => absurd (o1.trans r) (ch_32 a ha j h)⟩
      rw [nI_1] at hv2
      subst hv2
      exact f3 Q K hK
    · have ej : j = z_tlen a := by omega
      subst ej
      have hc := off_sp a ha
      have I2 : twI M (a + 1) 0 := by
        refine ⟨fun b hb => ?_, ?_, fun b h1 h2 => I.2.2 b (by omega) h2⟩
        · by_cases e : b = a
          · subst e; exact I.2.1 ha
          · exact I.1 b (by omega)
        · exact fun h => I.2.2 (a + 1) (by omega) h
      obtain ⟨M1, f1, f2, N, f3⟩ := ih (a + 1) 0 (by omega) (fun _ => rfl) (Nat.zero_le _) (by show off a + z_tlen a + 1 + 0 + d = _; omega) I2
      refine ⟨M1, f1, f2, N + 1, fun Q K hK => ⟨by decide, fun r => absurd r g1, fun _ => ⟨g2, ?_⟩⟩⟩
      rw [cl, hc]
      refine ⟨fun r => absurd rfl r, fun _ v hv2 v3 hv3 => ?_⟩
      rw [nI_1] at hv2 hv3
      subst hv2
      subst hv3
      exact f3 Q K hK
theorem e_372 : ∀ (d i : Nat) {M : mS}, i + d = 1300 → (∀ t, t < i → m_a M 2 t = -1) → ∃ M1, (∀ k, m_i M1 k = m_i M k) ∧ (∀ k, k ≠ 2 → m_a M1 k = m_a M k) ∧ (∀ k, m_l M1 k = m_l M k) ∧ (∀ t, t < 1300 → m_a M1 2 t = -1) ∧ ∃ N, ∀ Q K, K M1 → w_X11_init_372 Q K N (nI i) M := by
  intro d
  induction d with
  | zero =>
    intro i M hi h
    exact ⟨M, fun _ => rfl, fun _ _ => rfl, fun _ => rfl, fun t ht => h t (by omega), 1, fun Q K hK => ⟨fun _ => hK, fun r => absurd (by rw [ni_lle (by omega) (by decide)]; show 1300 ≤ i; omega) r⟩⟩
  | succ d ih =>
    intro i M hi h
    obtain ⟨M1, g1, g2, g3, g4, N, g5⟩ := ih (i + 1) (M := m_aU M 2 (nI i) (-1)) (by omega) (fun t ht => by
      show upd (m_a M 2) (nI i).toNatClampNeg (-1) t = -1
      rw [ni_cl (by omega), up_at]
      by_cases q : t = i
      · rw [if_pos q]
      · rw [if_neg q]; exact h t (by omega))
    refine ⟨M1, g1, fun k q => (g2 k q).trans (by rw [ms_a_aU, if_neg q]), g3, g4, N + 1, fun Q K hK => ⟨fun r => absurd r (by rw [ni_lle (by omega) (by decide)]; show ¬ 1300 ≤ i; omega), fun _ => ⟨(ni_in (by omega)).mpr (by omega), fun v hv2 => ?_⟩⟩⟩
    rw [nI_1] at hv2
    subst hv2
    exact g5 Q K hK
theorem e_394 : ∀ (d i : Nat) {M : mS}, i + d = 58 → (∀ t, t < 58 → m_a M 6 t = 0) → ∃ M1, (∀ k, m_i M1 k = m_i M k) ∧ (∀ k, k ≠ 6 → m_a M1 k = m_a M k) ∧ (∀ k, m_l M1 k = m_l M k) ∧ (∀ t, t < 58 → m_a M1 6 t = 0) ∧ ∃ N, ∀ Q K, K M1 → w_X11_init_394 Q K N (nI i) M := by
  intro d
  induction d with
  | zero =>
    intro i M hi h
    exact ⟨M, fun _ => rfl, fun _ _ => rfl, fun _ => rfl, h, 1, fun Q K hK => ⟨fun _ => hK, fun r => absurd (by rw [ni_lle (by omega) (by decide)]; show 58 ≤ i; omega) r⟩⟩
  | succ d ih =>
    intro i M hi h
    obtain ⟨M1, g1, g2, g3, g4, N, g5⟩ := ih (i + 1) (M := m_aU M 6 (nI i) 0) (by omega) (fun t ht => by
      show upd (m_a M 6) (nI i).toNatClampNeg 0 t = 0
      rw [ni_cl (by omega), up_at]
      by_cases q : t = i
      · rw [if_pos q]
      · rw [if_neg q]; exact h t ht)
    refine ⟨M1, g1, fun k q => (g2 k q).trans (by rw [ms_a_aU, if_neg q]), g3, g4, N + 1, fun Q K hK => ⟨fun r => absurd r (by rw [ni_lle (by omega) (by decide)]; show ¬ 58 ≤ i; omega), fun _ => ⟨(ni_in (by omega)).mpr (by omega), fun v hv2 => ?_⟩⟩⟩
    rw [nI_1] at hv2
    subst hv2
    exact g5 Q K hK
theorem nr_ex (a : Int32) {lo hi : Nat} (h : lo ≤ hi) (hh : hi < 2147483648) : ∃ n, lo ≤ n ∧ n ≤ hi ∧ nr a (nI lo) (nI hi) = nI n ∧ (nI lo ≤ a → a ≤ nI hi → a = nI n) ∧ (nI lo ≤ a → ¬ a ≤ nI hi → n = hi) ∧ (¬ nI lo ≤ a → n = lo) := by
  unfold nr
  by_cases h0 : a < 0
  · have l1 : a < nI hi := neg_lt h0 hi hh
    have l2 : ¬ nI lo < a := fun r => absurd (Int32.lt_trans r (neg_lt h0 lo (by omega))) Int32.lt_irrefl
    have l3 : ¬ nI lo ≤ a := fun r => by
      have q := neg_lt h0 lo (by omega)
      rw [Int32.le_iff_toInt_le] at r
      rw [Int32.lt_iff_toInt_lt] at q
      omega
    refine ⟨lo, Nat.le_refl _, h, ?_, fun r => absurd r l3, fun r => absurd r l3, fun _ => rfl⟩
    rw [if_pos l1, if_neg l2]
  · obtain ⟨m, hm, rfl⟩ := ni_ex h0
    have e1 : nI m < nI hi ↔ m < hi := ni_lt (by omega) (by omega)
    have e2 : nI lo ≤ nI m ↔ lo ≤ m := ni_le (by omega) (by omega)
    have e3 : nI m ≤ nI hi ↔ m ≤ hi := ni_le (by omega) (by omega)
    rw [e2, e3]
    by_cases q1 : m < hi
    · rw [if_pos (e1.mpr q1)]
      by_cases q2 : lo < m
      · rw [if_pos ((ni_lt (by omega) (by omega)).mpr q2)]
        exact ⟨m, by omega, by omega, rfl, fun _ _ => rfl, fun _ r => by omega, fun r => by omega⟩
      · rw [if_neg (fun r => q2 ((ni_lt (by omega) (by omega)).mp r))]
        exact ⟨lo, by omega, by omega, rfl, fun r1 _ => by congr 1; omega, fun _ r => by omega, fun r => by omega⟩
    · rw [if_neg (fun r => q1 (e1.mp r))]
      by_cases q2 : lo < hi
      · rw [if_pos ((ni_lt (by omega) (by omega)).mpr q2)]
        exact ⟨hi, by omega, by omega, rfl, fun _ r => by congr 1; omega, fun _ _ => rfl, fun r => by omega⟩
      · rw [if_neg (fun r => q2 ((ni_lt (by omega) (by omega)).mp r))]
        exact ⟨lo, by omega, by omega, rfl, fun r1 r2 => by congr 1; omega, fun _ _ => by omega, fun r => rfl⟩
theorem zW_0 (c : Nat) (hc : c ≠ 0) : zW (fun _ => 0) (fun _ => 0) c = 0 := sumT_zero (fun t _ => if_neg (fun h => hc h.symm))
theorem c_init (a1 a2 : Int32) : ∃ sz kk M1, sz ≤ 1200 ∧ nr a1 16 1200 = nI sz ∧ nr a2 1 6 = kk ∧ (∀ Q, Q M1 → p_X11_initB a1 a2 mInit Q) ∧ Rel 0 (cInit sz kk) M1 := by
  obtain ⟨sz, s1, s2, s3, s4, s5, s6⟩ := nr_ex a1 (lo := 16) (hi := 1200) (by decide) (by decide)
  obtain ⟨k, k1, k2, k3, k4, k5, k6⟩ := nr_ex a2 (lo := 1) (hi := 6) (by decide) (by decide)
  let M0 : mS := m_iS (m_iS (m_iS mInit 0 (nI sz)) 1 (nI k)) 8 (nI sz)
  obtain ⟨M2, f1, f2, f3, f4, N1, f5⟩ := e_372 1300 0 (M := M0) (by omega) (fun t ht => by omega)
  obtain ⟨M3, g1, g2, g3, g4, N2, g5⟩ := e_394 58 0 (M := M2) (by omega) (fun t ht => by rw [f2 6 (by decide)]; rfl)
  have I0 : twI M3 0 0 := by
    refine ⟨fun b hb => by omega, fun _ => ⟨?_, ?_⟩, fun b h1 h2 => ⟨?_, ?_⟩⟩
    · rw [g3, f3]; rfl
    · rw [g2 10 (by decide), f2 10 (by decide)]; rfl
    · rw [g3, f3]; rfl
    · rw [g2 10 (by decide), f2 10 (by decide)]; rfl
  obtain ⟨T39, hT⟩ : ∃ T, T = z_tlen 39 := ⟨_, rfl⟩
  obtain ⟨M4, t1, t2, N3, t3⟩ := tw_go T39 0 0 (M := M3) (by omega) (fun _ => rfl) (Nat.zero_le _) ((Nat.zero_add T39).trans hT) I0
  have fin : ∀ Q : mS → Prop, Q M4 → ∃ nz15 : Nat, w_X11_init_372 Q (fun Mz8 => ∃ nz14 : Nat, w_X11_init_394 Q (fun Mz12 => p_X11_tellWords Mz12 (fun Mz13 => Q Mz13)) nz14 0 Mz8) nz15 0 M0 := fun Q hQ => ⟨N1, f5 _ _ ⟨N2, g5 _ _ ⟨N3, t3 _ _ hQ⟩⟩⟩
  have mi : ∀ k, m_i M4 k = m_i M0 k := fun k => (t1.1 k).trans ((g1 k).trans (f1 k))
  have ma : ∀ k, k ≠ 10 → k ≠ 6 → k ≠ 2 → m_a M4 k = m_a M0 k := fun k q1 q2 q3 => (t1.2 k q1).trans ((g2 k q2).trans (f2 k q3))
  have m6 : ∀ t, t < 58 → m_a M4 6 t = 0 := fun t ht => by rw [t1.2 6 (by decide)]; exact g4 t ht
  have m2 : ∀ t, t < 1300 → m_a M4 2 t = -1 := fun t ht => by rw [t1.2 2 (by decide), g2 2 (by decide)]; exact f4 t ht
  refine ⟨sz, nI k, M4, s2, s3, k3, fun Q hQ => ?_, ?_, ⟨0, fun _ => 0, by omega, rfl, by rw [mi]; rfl, fun j hj => by omega, fun j hj => by omega⟩, ⟨by rw [mi]; rfl, by show true ≠ false; decide, t2, Or.inl ⟨rfl, by rw [mi]; rfl, ⟨fun k q1 q2 => ?_, by rw [mi]; rfl⟩⟩⟩, ?_, ⟨(0, fun _ => 0), ⟨by show 0 ≤ 600; omega, rfl, fun j hj => by have hj : j < 0 := hj; omega⟩, ⟨by show 0 ≤ 600; omega, by rw [mi]; rfl, fun j hj => by have hj : j < 0 := hj; omega⟩⟩⟩
  · have two : ∀ x : Int32, x = nI sz → j_X11_init_334 Q a2 x mInit := by
      intro x hx
      subst hx
      have M0e : ∀ y : Int32, y = nI k → (∃ nz15 : Nat, w_X11_init_372 Q (fun Mz8 => ∃ nz14 : Nat, w_X11_init_394 Q (fun Mz12 => p_X11_tellWords Mz12 (fun Mz13 => Q Mz13)) nz14 0 Mz8) nz15 0 (m_iS (m_iS (m_iS mInit 0 (nI sz)) 1 y) 8 (nI sz))) := by
        intro y hy
        subst hy
        exact fin Q hQ
      refine ⟨fun r1 => ⟨fun r2 => M0e _ (k4 r1 r2), fun r2 => M0e _ ?_⟩, fun r1 => M0e _ ?_⟩
      · rw [k5 r1 r2]; rfl
      · rw [k6 r1]; rfl
    refine ⟨fun r1 => ⟨fun r2 => two _ (s4 r1 r2), fun r2 => two _ ?_⟩, fun r1 => two _ ?_⟩
    · rw [s5 r1 r2]; rfl
    · rw [s6 r1]; rfl
  · refine ⟨sz, 0, 0, sz, 0, 0, sz, 0, 0, 0, k, fun _ => 0, fun _ => 0, fun _ => 0, fun _ => 0, fun _ => 0, ⟨?_, ?_, ?_, ?_, ?_, ?_, ?_⟩, ?_, ?_, rfl, ?_, k1, k2⟩
    · refine ⟨⟨s1, s2⟩, Or.inl ⟨rfl, rfl, rfl⟩, ⟨Nat.le_refl _, Nat.zero_le _, Nat.le_refl _⟩, fun t _ => ⟨Nat.zero_le _, Nat.zero_le _⟩, fun t _ h => absurd (show (0 : Nat) = 1 from h) (by decide), fun t _ h => absurd (show (0 : Nat) = 2 from h) (by decide), fun t u _ _ _ _ h => absurd rfl h, ?_, ?_⟩
      · rw [zW_0 1 (by decide)]; omega
      · rw [zW_0 2 (by decide)]; omega
    · exact ⟨⟨rfl, rfl, rfl, rfl, rfl, rfl, rfl⟩, ⟨by rw [mi]; rfl, by rw [mi]; rfl, by rw [mi]; rfl, by rw [mi]; rfl, by rw [mi]; rfl, by rw [mi]; rfl, by rw [mi]; rfl, by rw [mi]; rfl⟩, by omega⟩
    · intro t ht
      refine ⟨?_, ?_, fun h => absurd (show (0 : Nat) = 1 from h) (by decide), fun h => absurd (show (0 : Nat) = 2 from h) (by decide)⟩
      · rw [ma 1 (by decide) (by decide) (by decide)]; rfl
      · rw [m2 t ht]; rfl
    · exact fun t _ h => absurd rfl h
    · intro r hr
      have e : gE (fun _ => 0) (fun _ => 0) (c_a (cInit sz (nI k)) 12 r) (c_a (cInit sz (nI k)) 13 r) (m_a M4 6 r) (m_a M4 7 r) := by
        rw [m6 r (by omega), ma 7 (by decide) (by decide) (by decide)]
        exact ⟨rfl, Or.inl ⟨rfl, rfl⟩⟩
      exact ⟨e.w, fun _ => e⟩
    · exact ⟨Nat.zero_le _, Nat.zero_le _, Nat.zero_le _, rfl, rfl, fun j hj => absurd hj (Nat.not_lt_zero _)⟩
    · exact ⟨by rw [mi]; rfl, by rw [mi]; rfl, by rw [mi]; rfl, by rw [mi]; rfl, by rw [mi]; rfl, by rw [mi]; rfl, by rw [mi]; rfl⟩
    · rw [mi]; rfl
    · rw [mi]; rfl
    · rw [mi]; rfl
  · show (if k = 9 then nI sz else if k = 10 then _ else if k = 15 then nI sz else (0 : Int32)) = 0
    rw [if_neg (by omega), if_neg (by omega), if_neg (by omega)]
  · exact ⟨0, rfl, Nat.zero_le _, s2, fun j hj => by omega, fun a ha h => absurd rfl h⟩
end ZI20
