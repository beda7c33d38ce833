/-! reach and show -/
section ZSH
variable {C : cS} {M : mS} {sz pr B O fl pa ro h mm ps nx v t i n a r w : Nat} {st ad sl mv P mt nm : Nat → Nat} {x y z s b : Int32} {T : tS}
theorem RelA.fr {C1 : cS} {M1 : mS} (f : wfC C C1) (g : wfM M M1) (A : RelA C M) : RelA C1 M1 := by
  obtain ⟨sz, pr, B, O, fl, pa, ro, h, mm, ps, k, st, ad, sl, mv, P, R, k4, k6, kc, km, kb⟩ := A
  refine ⟨sz, pr, B, O, fl, pa, ro, h, mm, ps, k, st, ad, sl, mv, P, R.fr f g, ?_, ?_, ?_, ?_, kb⟩
  · rw [f.2.2.2.2.2.1 14 (by decide), g.1 10 (by decide) (by decide)]; exact k4
  · rw [f.2.2.2.2.2.1 14 (by decide), g.1 12 (by decide) (by decide)]; exact k6
  · rw [f.2.2.2.2.1 10 (by decide) (by decide)]; exact kc
  · rw [g.1 1 (by decide) (by decide)]; exact km
/-- a live thing as a word -/
theorem wlive {tg va : Nat → Int32} (hv : v < 1300) (hl : st v = 1 ∨ st v = 2) : gW tg va O sz st ad 2 (nI (ad v)) 2 (nI v) := ⟨rfl, Or.inr (Or.inr ⟨rfl, v, hv, rfl, Or.inl ⟨hl, rfl⟩⟩)⟩
theorem e_live (R : RelM C M sz pr B O fl pa ro h mm ps nx st ad sl mv P) (hv : v < 1300) (hl : st v = 1 ∨ st v = 2) : (∀ Q, Q (nI (sl v)) C → p_X3_slotsOf (nI (ad v)) C Q) ∧ (∀ Q, Q (if m_a M 0 v = 0 then 0 else 1) C → p_X3_isRow (nI (ad v)) C Q) := by
  obtain ⟨u, hu, hub, -, -, t2, t3, -⟩ := e_thing R (wlive hv hl)
  have : v = u := (ni_eq (by omega) (by omega)).mp hub
  subst this
  exact ⟨t2, t3⟩
theorem j_metR : ∀ (d : Nat) {C : cS} {M : mS} {w r : Nat} {mt nm : Nat → Nat}, 8 + h - r = d → r ≤ 8 + h → RelM C M sz pr B O fl pa ro h mm ps (8 + h) st ad sl mv P → gWk C M sz w st ad mt nm →
    ∃ (C1 : cS) (M1 : mS) (w' : Nat) (mt' nm' : Nat → Nat), (∃ m, ∀ Q K, K C1 → w_X9_findFromRoots_6 Q K m (nI r) C) ∧ (∃ m, ∀ Q K l, K l M1 → w_X11_reach_22 Q K m l (nI r) M) ∧ gWk C1 M1 sz w' st ad mt' nm' ∧ wfC C C1 ∧ wfM M M1 ∧ (c_i C1 23 = c_i C 23 ∧ c_a C1 19 = c_a C 19) ∧ (m_i M1 35 = m_i M 35 ∧ m_a M1 29 = m_a M 29) := by
  intro d
  induction d with
  | zero =>
    intro C M w r mt nm hd hr R W
    have s11 := R.2.1.1.2.2.1
    have z3 := R.2.1.2.1.2.1
    have h50 := R.2.1.2.2
    refine ⟨C, M, w, mt, nm, ⟨1, fun Q K hK => ⟨fun _ => hK, fun q => absurd ?_ q⟩⟩, ⟨1, fun Q K l hK => ⟨fun _ => hK, fun q => absurd ?_ q⟩⟩, W, wfC.rf C, wfM.rf M, ⟨rfl, rfl⟩, ⟨rfl, rfl⟩⟩
    · rw [s11, ni_la, ni_le (by omega) (by omega)]; omega
    · rw [z3, ni_la, ni_le (by omega) (by omega)]; omega
  | succ d ih =>
    intro C M w r mt nm hd hr R W
    have s11 := R.2.1.1.2.2.1
    have z3 := R.2.1.2.1.2.1
    have h50 := R.2.1.2.2
    have wd := (R.2.2.2.2.1 r (by omega)).1
    obtain ⟨e, C1, M1, w1, mt1, nm1, a1, a2, a3, -, -, -, a5, a6, a7, a8⟩ := j_meet R W wd
    obtain ⟨C2, M2, w2, mt2, nm2, ⟨m1, b1⟩, ⟨m2, b2⟩, b3, b4, b5, b6, b7⟩ := ih (r := r + 1) (by omega) (by omega) (R.fr a5 a6) a3
    have rc : (nI r).toNatClampNeg = r := ni_cl (by omega)
    refine ⟨C2, M2, w2, mt2, nm2, ⟨m1 + 1, fun Q K hK => ⟨fun q => ?_, fun _ => ⟨(ni_in (by omega)).mpr (by omega), ?_⟩⟩⟩, ⟨m2 + 1, fun Q K l hK => ⟨fun q => ?_, fun _ => ⟨(ni_in (by omega)).mpr (by omega), ?_⟩⟩⟩, b3, a5.tr b4, a6.tr b5, ⟨b6.1.trans a7.1, b6.2.trans a7.2⟩, ⟨b7.1.trans a8.1, b7.2.trans a8.2⟩⟩
    · rw [s11, ni_la, ni_le (by omega) (by omega)] at q; omega
    · rw [rc]
      refine a1 _ fun u hu => ?_
      rw [nI_1] at hu; subst hu
      exact b1 Q K hK
    · rw [z3, ni_la, ni_le (by omega) (by omega)] at q; omega
    · rw [rc]
      refine a2 _ fun u hu => ?_
      rw [nI_1] at hu; subst hu
      exact b2 Q K l hK
theorem j_metS (hv : v < 1300) (hl : st v = 1 ∨ st v = 2) : ∀ (d : Nat) {C : cS} {M : mS} {w q : Nat} {mt nm : Nat → Nat}, q + d = sl v → RelM C M sz pr B O fl pa ro h mm ps nx st ad sl mv P → gWk C M sz w st ad mt nm →
    ∃ (C1 : cS) (M1 : mS) (w' : Nat) (mt' nm' : Nat → Nat), (∃ m, ∀ Q K l, K l C1 → w_X9_findFromRoots_91 Q K m l (nI (ad v + 2)) (nI (sl v)) (nI (ad v + 2 + q)) C) ∧ (∃ m, ∀ Q K l1 l2 l3, K l1 l2 l3 (nI v) M1 → w_X11_reach_78 Q K m l1 l2 l3 (nI v) (nI q) M) ∧ gWk C1 M1 sz w' st ad mt' nm' ∧ w ≤ w' ∧ (∀ j, j < w → mt' j = mt j) ∧ wfC C C1 ∧ wfM M M1 ∧ (c_i C1 23 = c_i C 23 ∧ c_a C1 19 = c_a C 19) ∧ (m_i M1 35 = m_i M 35 ∧ m_a M1 29 = m_a M 29) := by
  intro d
  induction d with
  | zero =>
    intro C M w q mt nm hd R W
    have hat := R.1.at hv hl
    have g1 := R.1.1
    have hsl : m_a M 1 (nI v).toNatClampNeg = nI (sl v) := by rw [ni_cl (by omega)]; exact (R.2.2.1 v hv).1
    refine ⟨C, M, w, mt, nm, ⟨1, fun Q K l hK => ⟨fun _ => hK, fun z => absurd ?_ z⟩⟩, ⟨1, fun Q K l1 l2 l3 hK => ⟨(ni_in (by omega)).mpr hv, fun _ => hK, fun z => absurd ?_ z⟩⟩, W, Nat.le_refl _, fun _ _ => rfl, wfC.rf C, wfM.rf M, ⟨rfl, rfl⟩, ⟨rfl, rfl⟩⟩
    · rw [nI_add, ni_le (by omega) (by omega)]; omega
    · rw [hsl, ni_le (by omega) (by omega)]; omega
  | succ d ih =>
    intro C M w q mt nm hd R W
    have hat := R.1.at hv hl
    have g1 := R.1.1
    have g4 := (R.1.2.2.2.1 v hv).1
    have s0 := R.2.1.1.1
    have hsl : m_a M 1 (nI v).toNatClampNeg = nI (sl v) := by rw [ni_cl (by omega)]; exact (R.2.2.1 v hv).1
    have wd := ((R.2.2.2.1 v hv (by omega)).2.2.2 q (by omega)).1
    obtain ⟨e, C1, M1, w1, mt1, nm1, a1, a2, a3, -, a4, a4', a5, a6, a7, a8⟩ := j_meet R W wd
    obtain ⟨C2, M2, w2, mt2, nm2, ⟨m1, b1⟩, ⟨m2, b2⟩, b3, b4, b4', b5, b6, b7, b8⟩ := ih (q := q + 1) (by omega) (R.fr a5 a6) a3
    refine ⟨C2, M2, w2, mt2, nm2, ⟨m1 + 1, fun Q K l hK => ⟨fun z => ?_, fun _ => ⟨?_, ?_⟩⟩⟩, ⟨m2 + 1, fun Q K l1 l2 l3 hK => ⟨(ni_in (by omega)).mpr hv, fun z => ?_, fun _ => ⟨?_, ?_⟩⟩⟩, b3, by omega, fun j hj => (b4' j (by omega)).trans (a4' j hj), a5.tr b5, a6.tr b6, ⟨b7.1.trans a7.1, b7.2.trans a7.2⟩, ⟨b8.1.trans a8.1, b8.2.trans a8.2⟩⟩
    · rw [nI_add, ni_le (by omega) (by omega)] at z; omega
    · rw [s0]; exact (ni_in (by omega)).mpr (by omega)
    · rw [ni_cl (by omega)]
      refine a1 _ fun u hu => ?_
      rw [nI_1] at hu; subst hu
      exact b1 Q K l hK
    · rw [hsl, ni_le (by omega) (by omega)] at z; omega
    · rw [ni_lm, nI_add]; exact (ni_in (by omega)).mpr (by omega)
    · rw [ni_lm, nI_add, ni_cl (by omega)]
      refine a2 _ fun u hu => ?_
      rw [nI_1] at hu; subst hu
      exact b2 Q K l1 l2 l3 hK
theorem j_bfs : ∀ (d : Nat) {C : cS} {M : mS} {w i : Nat} {mt nm : Nat → Nat}, sz - i = d → i ≤ w → RelM C M sz pr B O fl pa ro h mm ps nx st ad sl mv P → gWk C M sz w st ad mt nm →
    ∃ (C1 : cS) (M1 : mS) (w' : Nat) (mt' nm' : Nat → Nat), (∃ m, ∀ Q K, K C1 → w_X9_findFromRoots_48 Q K m (nI i) C) ∧ (∃ m, ∀ Q K l, K l (nI (sumT (fun j => sl (mt' j) + 2) w')) M1 → w_X11_reach_59 Q K m l (nI (sumT (fun j => sl (mt j) + 2) i)) (nI i) M) ∧ gWk C1 M1 sz w' st ad mt' nm' ∧ wfC C C1 ∧ wfM M M1 ∧ (c_i C1 23 = c_i C 23 ∧ c_a C1 19 = c_a C 19) ∧ (m_i M1 35 = m_i M 35 ∧ m_a M1 29 = m_a M 29) := by
  intro d
  induction d with
  | zero =>
    intro C M w i mt nm hd hi R W
    obtain ⟨w1, w2, w3, -⟩ := id W
    have g1 := R.1.1
    have e : i = w := by omega
    subst e
    refine ⟨C, M, i, mt, nm, ⟨1, fun Q K hK => ⟨fun _ => hK, fun q => absurd ?_ q⟩⟩, ⟨1, fun Q K l hK => ⟨fun _ => hK, fun q => absurd ?_ q⟩⟩, W, wfC.rf C, wfM.rf M, ⟨rfl, rfl⟩, ⟨rfl, rfl⟩⟩
    · rw [w1, ni_le (by omega) (by omega)]; omega
    · rw [w2, ni_le (by omega) (by omega)]; omega
  | succ d ih =>
    intro C M w i mt nm hd hi R W
    obtain ⟨w1, w2, w3, w4, -⟩ := id W
    have g1 := R.1.1
    have s0 := R.2.1.1.1
    by_cases e : i = w
    · subst e
      refine ⟨C, M, i, mt, nm, ⟨1, fun Q K hK => ⟨fun _ => hK, fun q => absurd ?_ q⟩⟩, ⟨1, fun Q K l hK => ⟨fun _ => hK, fun q => absurd ?_ q⟩⟩, W, wfC.rf C, wfM.rf M, ⟨rfl, rfl⟩, ⟨rfl, rfl⟩⟩
      · rw [w1, ni_le (by omega) (by omega)]; omega
      · rw [w2, ni_le (by omega) (by omega)]; omega
    · obtain ⟨v1, v2, v3, v4, v5⟩ := w4 i (by omega)
      have hat := R.1.at v1 v2
      have c1 : ¬ c_i C 22 ≤ nI i := by rw [w1, ni_le (by omega) (by omega)]; omega
      have c2 : ¬ Int32.ofNat (2 * c_sz C) ≤ nI i := by
        rw [s0]
        show ¬ nI (2 * sz) ≤ nI i
        rw [ni_le (by omega) (by omega)]; omega
      have c3 : ¬ m_i M 34 ≤ nI i := by rw [w2, ni_le (by omega) (by omega)]; omega
      have ic : (nI i).toNatClampNeg = i := ni_cl (by omega)
      obtain ⟨C1, M1, wa, mta, nma, ⟨m1, a1⟩, ⟨m2, a2⟩, a3, a4, a4', a5, a6, a7, a8⟩ := j_metS v1 v2 (sl (mt i)) (q := 0) (by omega) R W
      have R1 := R.fr a5 a6
      obtain ⟨C2, M2, wb, mtb, nmb, ⟨m3, b1⟩, ⟨m4, b2⟩, b3, b5, b6, b7, b8⟩ := ih (i := i + 1) (by omega) (by omega) R1 a3
      have esum : sumT (fun j => sl (mta j) + 2) (i + 1) = sumT (fun j => sl (mt j) + 2) i + (sl (mt i) + 2) := by
        show sumT (fun j => sl (mta j) + 2) i + (sl (mta i) + 2) = _
        rw [a4' i (by omega), sumT_congr (f := fun j => sl (mta j) + 2) (g := fun j => sl (mt j) + 2) (fun t ht => by show sl (mta t) + 2 = sl (mt t) + 2; rw [a4' t (by omega)])]
      refine ⟨C2, M2, wb, mtb, nmb, ⟨m3 + 1, fun Q K hK => ⟨fun q => absurd q c1, fun _ => ⟨fun q => absurd q c2, fun _ => ⟨?_, fun u hu => ?_⟩⟩⟩⟩, ⟨m4 + 1, fun Q K l hK => ⟨fun q => absurd q c3, fun _ => ⟨(ni_in (by omega)).mpr (by omega), fun u hu => ⟨m2, ?_⟩⟩⟩⟩, b3, a5.tr b5, a6.tr b6, ⟨b7.1.trans a7.1, b7.2.trans a7.2⟩, ⟨b8.1.trans a8.1, b8.2.trans a8.2⟩⟩
      · rw [s0]; exact (ni_in (by omega)).mpr (by omega)
      · rw [ic, v3, ni_al] at hu
        subst hu
        rw [ic, v3]
        refine (e_live R v1 v2).1 _ ⟨m1, a1 Q _ _ fun u hu => ?_⟩
        rw [nI_1] at hu; subst hu
        exact b1 Q K hK
      · rw [ic, v4] at hu
        subst hu
        refine a2 Q _ _ _ _ ⟨(ni_in (by omega)).mpr v1, fun u hu y hy => ?_⟩
        rw [ni_cl (by omega), (R1.2.2.1 _ v1).1, ni_al, nI_add, ← esum] at hu
        rw [nI_1] at hy
        subst hu hy
        exact b2 Q K l hK
theorem j_words (R : RelM C M sz pr B O fl pa ro h mm ps nx st ad sl mv P) (W : gWk C M sz w st ad mt nm) : ∀ (d j : Nat), j + d = w → ∃ m, ∀ Q K, K (nI (sumT (fun j => sl (mt j) + 2) w)) C → w_X9_words_4 Q K m (nI (sumT (fun j => sl (mt j) + 2) j)) (nI j) C := by
  obtain ⟨w1, w2, w3, w4, -⟩ := id W
  have g1 := R.1.1
  have s0 := R.2.1.1.1
  intro d
  induction d with
  | zero =>
    intro j hj
    have e : j = w := by omega
    subst e
    refine ⟨1, fun Q K hK => ⟨fun _ => hK, fun q => absurd ?_ q⟩⟩
    rw [w1, ni_le (by omega) (by omega)]; omega
  | succ d ih =>
    intro j hj
    obtain ⟨m, hm⟩ := ih (j + 1) (by omega)
    obtain ⟨v1, v2, v3, v4, v5⟩ := w4 j (by omega)
    refine ⟨m + 1, fun Q K hK => ⟨fun q => ?_, fun _ => ⟨?_, ?_⟩⟩⟩
    · rw [w1, ni_le (by omega) (by omega)] at q; omega
    · rw [s0]; exact (ni_in (by omega)).mpr (by omega)
    · rw [ni_cl (by omega), v3]
      refine (e_live R v1 v2).1 _ fun u hu y hy => ?_
      rw [ni_al, nI_add] at hu
      rw [nI_1] at hy
      subst hu hy
      exact hm Q K hK
/-- reach -/
theorem a_reach (A : RelA C M) (L : gCl C) (a : Int32) : ∃ (e : Int32) (C1 : cS) (M1 : mS), (∀ Q, Q e C1 → p_X10_reach a C Q) ∧ (∀ Q, Q e M1 → p_X11_reach a M Q) ∧ RelA C1 M1 ∧ gCl C1 ∧ wfC C C1 ∧ wfM (m_iS M 2 0) M1 ∧ (c_i C1 23 = c_i C 23 ∧ c_a C1 19 = c_a C 19) ∧ (m_i M1 35 = m_i M 35 ∧ m_a M1 29 = m_a M 29) := by
  have A0 := A.thr 0
  by_cases ha : a = 0 ∨ a = 1
  · obtain ⟨C1, f1, f2, f3, f4, f5⟩ := e_clear L
    obtain ⟨M1, g1, g2, g3, g4, g5⟩ := e_forget (M := m_iS M 2 0)
    obtain ⟨sz, pr, B, O, fl, pa, ro, h, mm, ps, k, st, ad, sl, mv, P, R, -⟩ := id A0
    have R1 := R.fr f4 g4
    have W1 := gWk.init R1 f2 (by rw [f4.1]; exact f3) g2 g3
    obtain ⟨C2, M2, w2, mt2, nm2, ⟨m1, a1⟩, ⟨m2, a2⟩, W2, a3, a4, a5, a6⟩ := j_metR _ rfl (Nat.zero_le _) R1 W1
    have R2 := R1.fr a3 a4
    obtain ⟨C3, M3, w3, mt3, nm3, ⟨m3, b1⟩, ⟨m4, b2⟩, W3, b3, b4, b5, b6⟩ := j_bfs _ rfl (Nat.zero_le _) R2 W2
    have R3 := R2.fr b3 b4
    obtain ⟨m5, d1⟩ := j_words R3 W3 w3 0 (by omega)
    have fC := (f4.tr a3).tr b3
    have fM := (g4.tr a4).tr b4
    have cls : ∀ Q : cS → Prop, Q C3 → p_X9_findFromRoots C Q := fun Q hQ => f1 _ ⟨m1, a1 _ _ ⟨m3, b1 _ _ hQ⟩⟩
    have fin : RelA C3 M3 ∧ gCl C3 ∧ wfC C C3 ∧ wfM (m_iS M 2 0) M3 ∧ (c_i C3 23 = c_i C 23 ∧ c_a C3 19 = c_a C 19) ∧ (m_i M3 35 = m_i M 35 ∧ m_a M3 29 = m_a M 29) :=
      ⟨A0.fr fC fM, W3.cl R3, fC, fM, ⟨(b5.1.trans a5.1).trans f5.1, (b5.2.trans a5.2).trans f5.2⟩, ⟨(b6.1.trans a6.1).trans g5.1, (b6.2.trans a6.2).trans g5.2⟩⟩
    rcases ha with rfl | rfl
    · refine ⟨nI w3, C3, M3, fun Q hQ => ⟨fun _ => cls _ ⟨fun q => absurd rfl q, fun _ => ?_⟩, fun q => absurd rfl q⟩, fun Q hQ => ⟨fun _ => g1 _ ⟨m2, a2 _ _ _ ⟨m4, b2 _ _ _ ⟨fun q => absurd rfl q, fun _ => ?_⟩⟩⟩, fun q => absurd rfl q⟩, fin⟩
      · rw [W3.1]; exact hQ
      · rw [W3.2.1]; exact hQ
    · refine ⟨_, C3, M3, fun Q hQ => ⟨fun q => absurd q (by decide), fun _ => ⟨fun _ => cls _ ⟨fun _ => ⟨m5, d1 _ _ hQ⟩, fun q => absurd q (by decide)⟩, fun q => absurd rfl q⟩⟩, fun Q hQ => ⟨fun q => absurd q (by decide), fun _ => ⟨fun _ => g1 _ ⟨m2, a2 _ _ _ ⟨m4, b2 _ _ _ ⟨fun _ => hQ, fun q => absurd q (by decide)⟩⟩⟩, fun q => absurd rfl q⟩⟩, fin⟩
  · exact ⟨-1, C, m_iS M 2 0, fun Q hQ => ⟨fun q => absurd (Or.inl q) ha, fun _ => ⟨fun q => absurd (Or.inr q) ha, fun _ => hQ⟩⟩, fun Q hQ => ⟨fun q => absurd (Or.inl q) ha, fun _ => ⟨fun q => absurd (Or.inr q) ha, fun _ => hQ⟩⟩, A0, L, wfC.rf C, wfM.rf _, ⟨rfl, rfl⟩, ⟨rfl, rfl⟩⟩
/-- a word is written -/
theorem j_word (R : RelM C M sz pr B O fl pa ro h mm ps nx st ad sl mv P) (W : gWk C M sz w st ad mt nm) (t1 : txC C T) (t2 : txM M T) (wd : gW (c_a C 10) (c_a C 11) O sz st ad x y s b) :
    ∃ (C1 : cS) (M1 : mS) (w' : Nat) (mt' nm' : Nat → Nat) (T' : tS), (∀ Q, Q C1 → p_X9_writeWord x y C Q) ∧ (∀ Q, Q M1 → p_X11_putWord s b M Q) ∧ gWk C1 M1 sz w' st ad mt' nm' ∧ txC C1 T' ∧ txM M1 T' ∧ w ≤ w' ∧ (∀ j, j < w → mt' j = mt j) ∧ wfC C C1 ∧ wfM M M1 := by
  have wd0 := wd
  obtain ⟨e1, ⟨e2, e3⟩ | ⟨e2, e3⟩ | ⟨e2, -⟩⟩ := wd
  · subst e1 e2 e3
    obtain ⟨C1, a1, a2, a3, a4⟩ := e_addNum (v := y) t1
    obtain ⟨M1, b1, b2, b3, b4⟩ := e_putNum (v := y) t2
    exact ⟨C1, M1, w, mt, nm, _, fun Q hQ => ⟨fun q => absurd rfl q, fun _ => a1 _ hQ⟩, fun Q hQ => ⟨fun _ => ⟨fun q => absurd rfl q, fun _ => b1 _ hQ⟩, fun q => absurd q (by decide)⟩, W.fr a4 b4, a2, b2, Nat.le_refl _, fun _ _ => rfl, a3, b3⟩
  · subst e1 e2
    obtain ⟨C1, a1, a2, a3, a4⟩ := e_add (ch := 46) t1 (by decide)
    obtain ⟨M1, b1, b2, b3, b4⟩ := e_put (ch := 46) t2
    exact ⟨C1, M1, w, mt, nm, _, fun Q hQ => ⟨fun _ => ⟨fun _ => a1 _ hQ, fun q => absurd q (by decide)⟩, fun q => absurd q (by decide)⟩, fun Q hQ => ⟨fun _ => ⟨fun _ => ⟨fun q => absurd rfl q, fun _ => b1 _ hQ⟩, fun q => absurd q (by decide)⟩, fun q => absurd q (by decide)⟩, W.fr a4 b4, a2, b2, Nat.le_refl _, fun _ _ => rfl, a3, b3⟩
  · subst e1 e2
    obtain ⟨C1, a1, a2, a3, a4⟩ := e_add (ch := 35) t1 (by decide)
    have R1 := R.fr a3 (wfM.rf M)
    have W1 := W.fr a4 (wkM.rf M)
    have wd1 : gW (c_a C1 10) (c_a C1 11) O sz st ad 2 y 2 b := by rw [a3.2.2.2.2.2.1 10 (by decide), a3.2.2.2.2.2.1 11 (by decide)]; exact wd0
    obtain ⟨e, C2, M2, w2, mt2, nm2, d1, d2, W2, d3, d4, d5, d6, d7, d8, d9⟩ := j_meet R1 W1 wd1
    obtain ⟨v, hv, hb, he⟩ := d3 rfl
    obtain ⟨M3, b1, b2, b3, b4⟩ := e_put (ch := 35) (t2.fr d9.1 d9.2)
    obtain ⟨C4, f1, f2, f3, f4⟩ := e_addNum (v := e) (a2.fr d8.1 d8.2)
    obtain ⟨M4, g1, g2, g3, g4⟩ := e_putNum (v := e) b2
    have k28 : m_a M3 28 v = e := by rw [b4.2.2, (W2.2.2.2.2.1 v hv).1, he]
    refine ⟨C4, M4, w2, mt2, nm2, _, fun Q hQ => ⟨fun _ => ⟨fun q => absurd rfl q, fun _ => a1 _ (d1 _ (f1 _ hQ))⟩, fun q => absurd q (by decide)⟩, fun Q hQ => d2 _ ⟨fun _ => ⟨fun _ => b1 _ ⟨?_, ?_⟩, fun q => absurd q (by decide)⟩, fun q => absurd q (by decide)⟩, W2.fr f4 (b4.tr g4), f2, g2, d4, d5, (a3.tr d6).tr f3, (d7.tr b3).tr g3⟩
    · rw [hb]; exact (ni_in (by omega)).mpr hv
    · rw [hb, ni_cl (by omega), k28]; exact g1 _ hQ
theorem j_slots (hv : v < 1300) (hl : st v = 1 ∨ st v = 2) : ∀ (d : Nat) {C : cS} {M : mS} {w q : Nat} {mt nm : Nat → Nat} {T : tS}, q + d = sl v → RelM C M sz pr B O fl pa ro h mm ps nx st ad sl mv P → gWk C M sz w st ad mt nm → txC C T → txM M T →
    ∃ (C1 : cS) (M1 : mS) (w' : Nat) (mt' nm' : Nat → Nat) (T' : tS), (∃ m, ∀ Q K l, K l C1 → w_X9_writeThing_43 Q K m l (nI (ad v + 2)) (nI (sl v)) (nI (ad v + 2 + q)) C) ∧ (∃ m, ∀ Q K l, K l (nI v) M1 → w_X11_show_88 Q K m l (nI v) (nI q) M) ∧ gWk C1 M1 sz w' st ad mt' nm' ∧ txC C1 T' ∧ txM M1 T' ∧ w ≤ w' ∧ (∀ j, j < w → mt' j = mt j) ∧ wfC C C1 ∧ wfM M M1 := by
  intro d
  induction d with
  | zero =>
    intro C M w q mt nm T hd R W t1 t2
    have hat := R.1.at hv hl
    have g1 := R.1.1
    have hsl : m_a M 1 (nI v).toNatClampNeg = nI (sl v) := by rw [ni_cl (by omega)]; exact (R.2.2.1 v hv).1
    refine ⟨C, M, w, mt, nm, T, ⟨1, fun Q K l hK => ⟨fun _ => hK, fun z => absurd ?_ z⟩⟩, ⟨1, fun Q K l hK => ⟨(ni_in (by omega)).mpr hv, fun _ => hK, fun z => absurd ?_ z⟩⟩, W, t1, t2, Nat.le_refl _, fun _ _ => rfl, wfC.rf C, wfM.rf M⟩
    · rw [nI_add, ni_le (by omega) (by omega)]; omega
    · rw [hsl, ni_le (by omega) (by omega)]; omega
  | succ d ih =>
    intro C M w q mt nm T hd R W t1 t2
    have hat := R.1.at hv hl
    have g1 := R.1.1
    have g4 := (R.1.2.2.2.1 v hv).1
    have s0 := R.2.1.1.1
    have hsl : m_a M 1 (nI v).toNatClampNeg = nI (sl v) := by rw [ni_cl (by omega)]; exact (R.2.2.1 v hv).1
    -- perhaps a blank
    obtain ⟨C0, M0, T0, z1, z2, z3, z4, z5, z6, z7, z8⟩ : ∃ (C0 : cS) (M0 : mS) (T0 : tS), (∀ (Q : cS → Prop), Q C0 → ((nI (ad v + 2 + q) ≤ nI (ad v + 2) → Q C) ∧ (¬ nI (ad v + 2 + q) ≤ nI (ad v + 2) → p_X7_add 32 C Q))) ∧ (∀ (Q : mS → Prop), Q M0 → ((nI q ≤ 0 → Q M) ∧ (¬ nI q ≤ 0 → p_X11_put 32 M Q))) ∧ txC C0 T0 ∧ txM M0 T0 ∧ wfC C C0 ∧ wfM M M0 ∧ wkC C C0 ∧ wkM M M0 := by
      by_cases e : q = 0
      · refine ⟨C, M, T, fun Q hQ => ⟨fun _ => hQ, fun z => absurd ?_ z⟩, fun Q hQ => ⟨fun _ => hQ, fun z => absurd ?_ z⟩, t1, t2, wfC.rf C, wfM.rf M, wkC.rf C, wkM.rf M⟩
        · rw [ni_le (by omega) (by omega)]; omega
        · rw [ni_lel (by omega) (by decide)]; omega
      · obtain ⟨C0, a1, a2, a3, a4⟩ := e_add (ch := 32) t1 (by decide)
        obtain ⟨M0, b1, b2, b3, b4⟩ := e_put (ch := 32) t2
        refine ⟨C0, M0, _, fun Q hQ => ⟨fun z => ?_, fun _ => a1 Q hQ⟩, fun Q hQ => ⟨fun z => ?_, fun _ => b1 Q hQ⟩, a2, b2, a3, b3, a4, b4⟩
        · rw [ni_le (by omega) (by omega)] at z; omega
        · rw [ni_lel (by omega) (by decide)] at z; omega
    have R0 := R.fr z5 z6
    have wd := ((R0.2.2.2.1 v hv (by omega)).2.2.2 q (by omega)).1
    obtain ⟨C1, M1, w1, mt1, nm1, T1, a1, a2, a3, a4, a5, a6, a7, a8, a9⟩ := j_word R0 (W.fr z7 z8) z3 z4 wd
    obtain ⟨C2, M2, w2, mt2, nm2, T2, ⟨m1, b1⟩, ⟨m2, b2⟩, b3, b4, b5, b6, b7, b8, b9⟩ := ih (q := q + 1) (by omega) (R0.fr a8 a9) a3 a4 a5
    have stepC : ∀ Q K l, K l C2 → j_X9_writeThing_66 Q (w_X9_writeThing_43 Q K m1) K l (nI (ad v + 2)) (nI (sl v)) (nI (ad v + 2 + q)) C0 := by
      intro Q K l hK
      refine ⟨?_, ?_⟩
      · rw [z5.1, s0]; exact (ni_in (by omega)).mpr (by omega)
      · rw [ni_cl (by omega)]
        refine a1 _ fun u hu => ?_
        rw [nI_1] at hu; subst hu
        exact b1 Q K l hK
    have stepM : ∀ Q K l, K l (nI v) M2 → j_X11_show_110 Q (w_X11_show_88 Q K m2) K l (nI v) (nI q) M0 := by
      intro Q K l hK
      unfold j_X11_show_110
      rw [ni_lm, nI_add, ni_cl (by omega)]
      refine ⟨(ni_in (by omega)).mpr (by omega), a2 _ fun u hu => ?_⟩
      rw [nI_1] at hu; subst hu
      exact b2 Q K l hK
    refine ⟨C2, M2, w2, mt2, nm2, T2, ⟨m1 + 1, fun Q K l hK => ⟨fun z => ?_, fun _ => z1 (fun C13 => j_X9_writeThing_66 Q (w_X9_writeThing_43 Q K m1) K l (nI (ad v + 2)) (nI (sl v)) (nI (ad v + 2 + q)) C13) (stepC Q K l hK)⟩⟩, ⟨m2 + 1, fun Q K l hK => ⟨(ni_in (by omega)).mpr hv, fun z => ?_, fun _ => z2 (fun M13 => j_X11_show_110 Q (w_X11_show_88 Q K m2) K l (nI v) (nI q) M13) (stepM Q K l hK)⟩⟩, b3, b4, b5, by omega, fun j hj => (b7 j (by omega)).trans (a7 j hj), (z5.tr a8).tr b8, (z6.tr a9).tr b9⟩
    · rw [nI_add, ni_le (by omega) (by omega)] at z; omega
    · rw [hsl, ni_le (by omega) (by omega)] at z; omega
theorem j_things : ∀ (d : Nat) {C : cS} {M : mS} {w i : Nat} {mt nm : Nat → Nat} {T : tS}, sz - i = d → i ≤ w → RelM C M sz pr B O fl pa ro h mm ps nx st ad sl mv P → gWk C M sz w st ad mt nm → txC C T → txM M T →
    ∃ (C1 : cS) (M1 : mS) (w' : Nat) (mt' nm' : Nat → Nat) (T' : tS), (∃ m, ∀ Q K, K C1 → w_X9_write_29 Q K m (nI i) C) ∧ (∃ m, ∀ Q K, K M1 → w_X11_show_44 Q K m (nI i) M) ∧ gWk C1 M1 sz w' st ad mt' nm' ∧ txC C1 T' ∧ txM M1 T' ∧ wfC C C1 ∧ wfM M M1 := by
  intro d
  induction d with
  | zero =>
    intro C M w i mt nm T hd hi R W t1 t2
    obtain ⟨w1, w2, w3, -⟩ := id W
    have g1 := R.1.1
    refine ⟨C, M, w, mt, nm, T, ⟨1, fun Q K hK => ⟨fun _ => hK, fun q => absurd ?_ q⟩⟩, ⟨1, fun Q K hK => ⟨fun _ => hK, fun q => absurd ?_ q⟩⟩, W, t1, t2, wfC.rf C, wfM.rf M⟩
    · rw [w1, ni_le (by omega) (by omega)]; omega
    · rw [w2, ni_le (by omega) (by omega)]; omega
  | succ d ih =>
    intro C M w i mt nm T hd hi R W t1 t2
    obtain ⟨w1, w2, w3, w4, -⟩ := id W
    have g1 := R.1.1
    have s0 := R.2.1.1.1
    by_cases e : i = w
    · subst e
      refine ⟨C, M, i, mt, nm, T, ⟨1, fun Q K hK => ⟨fun _ => hK, fun q => absurd ?_ q⟩⟩, ⟨1, fun Q K hK => ⟨fun _ => hK, fun q => absurd ?_ q⟩⟩, W, t1, t2, wfC.rf C, wfM.rf M⟩
      · rw [w1, ni_le (by omega) (by omega)]; omega
      · rw [w2, ni_le (by omega) (by omega)]; omega
    · obtain ⟨v1, v2, v3, v4, v5⟩ := w4 i (by omega)
      have hat := R.1.at v1 v2
      have c1 : ¬ c_i C 22 ≤ nI i := by rw [w1, ni_le (by omega) (by omega)]; omega
      have c2 : ¬ Int32.ofNat (2 * c_sz C) ≤ nI i := by
        rw [s0]
        show ¬ nI (2 * sz) ≤ nI i
        rw [ni_le (by omega) (by omega)]; omega
      have c3 : ¬ m_i M 34 ≤ nI i := by rw [w2, ni_le (by omega) (by omega)]; omega
      have ic : (nI i).toNatClampNeg = i := ni_cl (by omega)
      have vc : (nI (mt i)).toNatClampNeg = mt i := ni_cl (by omega)
      have vin : vp_in (nI (mt i)) 1300 := (ni_in (by omega)).mpr v1
      -- the blank, then the bracket
      obtain ⟨C1, p1, p2, p3, p4⟩ := e_add (ch := 32) t1 (by decide)
      obtain ⟨M1, q1, q2, q3, q4⟩ := e_put (ch := 32) t2
      have R1 := R.fr p3 q3
      obtain ⟨k, hk1, hk2, hk3⟩ : ∃ k, k < 128 ∧ (m_a M 0 (mt i) = 0 → k = 123) ∧ (¬ m_a M 0 (mt i) = 0 → k = 91) := by
        by_cases e : m_a M 0 (mt i) = 0
        · exact ⟨123, by decide, fun _ => rfl, fun q => absurd e q⟩
        · exact ⟨91, by decide, fun q => absurd q e, fun _ => rfl⟩
      obtain ⟨C2, r1, r2, r3, r4⟩ := e_add (ch := k) p2 hk1
      obtain ⟨M2, u1, u2, u3, u4⟩ := e_put (ch := k) q2
      have R2 := R1.fr r3 u3
      obtain ⟨C3, M3, wa, mta, nma, T3, ⟨m1, a1⟩, ⟨m2, a2⟩, a3, a4, a5, a6, a7, a8, a9⟩ := j_slots v1 v2 (sl (mt i)) (q := 0) (by omega) R2 (W.fr (p4.tr r4) (q4.tr u4)) r2 u2
      have R3 := R2.fr a8 a9
      obtain ⟨k', hk1', hk2', hk3'⟩ : ∃ k', k' < 128 ∧ (m_a M 0 (mt i) = 0 → k' = 125) ∧ (¬ m_a M 0 (mt i) = 0 → k' = 93) := by
        by_cases e : m_a M 0 (mt i) = 0
        · exact ⟨125, by decide, fun _ => rfl, fun q => absurd e q⟩
        · exact ⟨93, by decide, fun q => absurd q e, fun _ => rfl⟩
      obtain ⟨C4, x1, x2, x3, x4⟩ := e_add (ch := k') a4 hk1'
      obtain ⟨M4, y1, y2, y3, y4⟩ := e_put (ch := k') a5
      have R4 := R3.fr x3 y3
      obtain ⟨C5, M5, wb, mtb, nmb, T5, ⟨m3, b1⟩, ⟨m4, b2⟩, b3, b4, b5, b6, b7⟩ := ih (i := i + 1) (by omega) (by omega) R4 (a3.fr x4 y4) x2 y2
      have row1 : m_a M1 0 (mt i) = m_a M 0 (mt i) := by rw [q3.2.1 0 (by decide)]
      have row3 : m_a M3 0 (mt i) = m_a M 0 (mt i) := by rw [a9.2.1 0 (by decide), u3.2.1 0 (by decide), q3.2.1 0 (by decide)]
      have f17 : c_a C1 17 i = nI (ad (mt i)) := by rw [p4.2.1]; exact v3
      refine ⟨C5, M5, wb, mtb, nmb, T5, ⟨m3 + 1, fun Q K hK => ⟨fun q => absurd q c1, fun _ => ⟨fun q => absurd q c2, fun _ => p1 _ ⟨?_, ?_⟩⟩⟩⟩, ⟨m4 + 1, fun Q K hK => ⟨fun q => absurd q c3, fun _ => ⟨(ni_in (by omega)).mpr (by omega), fun u hu => q1 _ ?_⟩⟩⟩, b3, b4, b5, (((p3.tr r3).tr a8).tr x3).tr b6, (((q3.tr u3).tr a9).tr y3).tr b7⟩
      · rw [p3.1, s0]; exact (ni_in (by omega)).mpr (by omega)
      · rw [ic, f17]
        refine (e_live R1 v1 v2).2 _ ?_
        rw [row1]
        have next : (fun (l : Int32) (C15 : cS) => ((l = 0 → p_X7_add 125 C15 (fun C17 => ∀ u : Int32, u = nI i + 1 → w_X9_write_29 Q K m3 u C17)) ∧ (¬ l = 0 → p_X7_add 93 C15 (fun C18 => ∀ u : Int32, u = nI i + 1 → w_X9_write_29 Q K m3 u C18)))) (if m_a M 0 (mt i) = 0 then 0 else 1) C3 := by
          have go : p_X7_add (nI k') C3 (fun C17 => ∀ u : Int32, u = nI i + 1 → w_X9_write_29 Q K m3 u C17) := x1 _ fun u hu => by
            rw [nI_1] at hu; subst hu; exact b1 Q K hK
          by_cases e : m_a M 0 (mt i) = 0
          · rw [if_pos e]
            rw [hk2' e] at go
            exact ⟨fun _ => go, fun q => absurd rfl q⟩
          · rw [if_neg e]
            rw [hk3' e] at go
            exact ⟨fun q => absurd q (by decide), fun _ => go⟩
        have body : p_X7_add (nI k) C1 (fun C4 => ∀ u : Int32, u = nI (ad (mt i)) + 2 → p_X3_slotsOf (nI (ad (mt i))) C4 (fun rz7 C6 => ∃ n : Nat, w_X9_writeThing_43 (fun C8 => ∀ u : Int32, u = nI i + 1 → w_X9_write_29 Q K m3 u C8) (fun (l : Int32) (C15 : cS) => ((l = 0 → p_X7_add 125 C15 (fun C17 => ∀ u : Int32, u = nI i + 1 → w_X9_write_29 Q K m3 u C17)) ∧ (¬ l = 0 → p_X7_add 93 C15 (fun C18 => ∀ u : Int32, u = nI i + 1 → w_X9_write_29 Q K m3 u C18)))) n (if m_a M 0 (mt i) = 0 then 0 else 1) u rz7 u C6)) := by
          refine r1 _ fun u hu => ?_
          rw [ni_al] at hu; subst hu
          exact (e_live R2 v1 v2).1 _ ⟨m1, a1 _ _ _ next⟩
        by_cases e : m_a M 0 (mt i) = 0
        · rw [if_pos e] at body ⊢
          rw [hk2 e] at body
          exact ⟨fun _ => body, fun q => absurd rfl q⟩
        · rw [if_neg e] at body ⊢
          rw [hk3 e] at body
          exact ⟨fun q => absurd q (by decide), fun _ => body⟩
      · rw [ic, v4] at hu
        subst hu
        refine ⟨vin, ?_⟩
        rw [vc, row1]
        have next : vp_in (nI (mt i)) 1300 ∧ ((((m_a M3 0) (nI (mt i)).toNatClampNeg) = 0 → p_X11_put 125 M3 (fun M25 => ∀ u : Int32, u = nI i + 1 → w_X11_show_44 Q K m4 u M25)) ∧ (¬ ((m_a M3 0) (nI (mt i)).toNatClampNeg) = 0 → p_X11_put 93 M3 (fun M27 => ∀ u : Int32, u = nI i + 1 → w_X11_show_44 Q K m4 u M27))) := by
          refine ⟨vin, ?_⟩
          rw [vc, row3]
          have go : p_X11_put (nI k') M3 (fun M17 => ∀ u : Int32, u = nI i + 1 → w_X11_show_44 Q K m4 u M17) := y1 _ fun u hu => by
            rw [nI_1] at hu; subst hu; exact b2 Q K hK
          refine ⟨fun e => ?_, fun e => ?_⟩
          · rw [hk2' e] at go; exact go
          · rw [hk3' e] at go; exact go
        refine ⟨fun e => ?_, fun e => ?_⟩
        · rw [hk2 e] at u1
          exact u1 _ ⟨m2, a2 _ _ _ next⟩
        · rw [hk3 e] at u1
          exact u1 _ ⟨m2, a2 _ _ _ next⟩
/-- show -/
theorem a_show (A : RelA C M) (L : gCl C) (T0 : tS) (t1 : txC C T0) (t2 : txM M T0) (a : Int32) : ∃ (e : Int32) (C1 : cS) (M1 : mS) (T : tS), (∀ Q, Q e C1 → p_X10_show a C Q) ∧ (∀ Q, Q e M1 → p_X11_show a M Q) ∧ RelA C1 M1 ∧ gCl C1 ∧ wfC C C1 ∧ wfM (m_iS M 2 0) M1 ∧ txC C1 T ∧ txM M1 T := by
  have A0 := A.thr 0
  by_cases hx : isH a
  · obtain ⟨e1, e2⟩ := (isH_iff7 a).mp hx
    have e3 := (e_isHand (C := C) a).1 hx
    obtain ⟨r, hr, rfl⟩ := hx
    have L0 : gCl (c_iS C 23 0) := L
    obtain ⟨C1, f1, f2, f3, f4, f5⟩ := e_clear L0
    obtain ⟨M1, g1, g2, g3, g4, g5⟩ := e_forget (M := m_iS (m_iS M 2 0) 35 0)
    have fC0 : wfC C C1 := ((wfC.rf C).i (by decide)).tr f4
    have fM0 : wfM (m_iS M 2 0) M1 := ((wfM.rf (m_iS M 2 0)).i (by decide)).tr g4
    obtain ⟨sz, pr, B, O, fl, pa, ro, h, mm, ps, k, st, ad, sl, mv, P, R, -⟩ := id A0
    have R1 := R.fr fC0 fM0
    have W1 := gWk.init R1 f2 (by rw [f4.1]; exact f3) g2 g3
    have x1 : txC C1 (0, fun _ => 0) := ⟨by decide, f5.1, fun j hj => absurd hj (Nat.not_lt_zero j)⟩
    have x2 : txM M1 (0, fun _ => 0) := ⟨by decide, g5.1, fun j hj => absurd hj (Nat.not_lt_zero j)⟩
    have wd := (R1.2.2.2.2.1 r (by omega)).1
    obtain ⟨C2, M2, w2, mt2, nm2, T2, a1, a2, a3, a4, a5, -, -, a8, a9⟩ := j_word R1 W1 x1 x2 wd
    have R2 := R1.fr a8 a9
    obtain ⟨C3, M3, w3, mt3, nm3, T3, ⟨m1, b1⟩, ⟨m2, b2⟩, b3, b4, b5, b6, b7⟩ := j_things _ rfl (Nat.zero_le _) R2 a3 a4 a5
    have fC := (fC0.tr a8).tr b6
    have fM := (fM0.tr a9).tr b7
    have rc : (nI r).toNatClampNeg = r := ni_cl (by omega)
    have rin : vp_in (nI r) 58 := (ni_in (by omega)).mpr (by omega)
    refine ⟨nI T3.1, C3, M3, T3, fun Q hQ => e3 _ ⟨fun _ => f1 _ ⟨rin, ?_⟩, fun q => absurd q (by decide)⟩, fun Q hQ => ⟨fun q => absurd q e1, fun _ => ⟨fun _ => g1 _ ⟨rin, ?_⟩, fun q => absurd e2 q⟩⟩, A0.fr fC fM, b3.cl (R2.fr b6 b7), fC, fM, b4, b5⟩
    · rw [rc]
      refine a1 _ ⟨m1, b1 _ _ ?_⟩
      show Q (c_i C3 23) C3
      rw [b4.2.1]; exact hQ
    · rw [rc]
      refine a2 _ ⟨m2, b2 _ _ ?_⟩
      show Q (m_i M3 35) M3
      rw [b5.2.1]; exact hQ
  · have e3 := (e_isHand (C := C) a).2 hx
    rw [isH_iff7] at hx
    exact ⟨-1, C, m_iS M 2 0, T0, fun Q hQ => e3 _ ⟨fun q => absurd rfl q, fun _ => hQ⟩, fun Q hQ => ⟨fun _ => hQ, fun q => ⟨fun q2 => absurd ⟨q, q2⟩ hx, fun _ => hQ⟩⟩, A0, L, wfC.rf C, wfM.rf _, t1, t2⟩
/-- letter -/
theorem a_letter (t1 : txC C T) (t2 : txM M T) (a : Int32) : ∃ e : Int32, (∀ Q, Q e C → p_X10_letter a C Q) ∧ (∀ Q, Q e (m_iS M 2 0) → p_X11_letter a M Q) := by
  obtain ⟨c1, c2, c3⟩ := t1
  obtain ⟨d1, d2, d3⟩ := t2
  by_cases h0 : a < 0
  · exact ⟨-1, fun Q hQ => ⟨fun _ => hQ, fun q => absurd h0 q⟩, fun Q hQ => ⟨fun _ => hQ, fun q => absurd h0 q⟩⟩
  obtain ⟨j, hj, rfl⟩ := ni_ex h0
  by_cases hl : j < T.1
  · have q1 : nI j < nI T.1 := (ni_lt (by omega) (by omega)).mpr hl
    refine ⟨T.2 j, fun Q hQ => ⟨fun q => absurd q h0, fun _ => ⟨fun _ => ⟨(ni_in (by omega)).mpr (by omega), ?_⟩, fun q => absurd (by rw [c2]; exact q1) q⟩⟩, fun Q hQ => ⟨fun q => absurd q h0, fun _ => ⟨fun _ => ⟨(ni_in (by omega)).mpr (by omega), ?_⟩, fun q => absurd (by rw [d2]; exact q1) q⟩⟩⟩
    · rw [ni_cl (by omega), c3 j hl]; exact hQ
    · rw [ni_cl (by omega), d3 j hl]; exact hQ
  · have q1 : ¬ nI j < nI T.1 := by rw [ni_lt (by omega) (by omega)]; exact hl
    exact ⟨-1, fun Q hQ => ⟨fun _ => hQ, fun _ => ⟨fun q => absurd (by rw [c2] at q; exact q) q1, fun _ => hQ⟩⟩, fun Q hQ => ⟨fun _ => hQ, fun _ => ⟨fun q => absurd (by rw [d2] at q; exact q) q1, fun _ => hQ⟩⟩⟩
end ZSH
