/-! THE MEMORY: a turn -/
section ZT2
variable {C : cS} {M : mS} {sz pr B O fl pa ro h mm ps nx v t i : Nat} {st ad sl mv P : Nat → Nat} {x y s b : Int32}
def gn (k : Nat) (c : Int32) (f : Nat → Int32) : Nat → Int32 := fun t => if k ≤ t ∧ t < 1300 ∧ f t = c then -1 else f t
theorem m_aS_self (M : mS) (k : Nat) : m_aS M k (m_a M k) = M := by
  obtain ⟨a, b, c⟩ := M
  refine congrArg (fun z => (a, z, c)) ?_
  funext q
  by_cases e : q = k
  · rw [if_pos e, e]; rfl
  · rw [if_neg e]
theorem m_aS_aS (M : mS) (k : Nat) (f g : Nat → Int32) : m_aS (m_aS M k f) k g = m_aS M k g := by
  obtain ⟨a, b, c⟩ := M
  refine congrArg (fun z => (a, z, c)) ?_
  funext q
  by_cases e : q = k
  · rw [if_pos e, if_pos e]
  · rw [if_neg e, if_neg e]; exact if_neg e
theorem j_gone : ∀ (d k : Nat) (M : mS) (c : Int32), k + d = 1300 → m_i M 9 = c → ∃ n, ∀ Q K, K (m_aS M 2 (gn k c (m_a M 2))) → w_X11_turnOver_12 Q K n (nI k) M := by
  intro d
  induction d with
  | zero =>
    intro k M c hk hc
    refine ⟨1, fun Q K hK => ⟨fun _ => ?_, fun q => absurd ?_ q⟩⟩
    · have e : gn k c (m_a M 2) = m_a M 2 := by funext t; unfold gn; rw [if_neg (by omega)]
      rw [e, m_aS_self] at hK
      exact hK
    · exact (ni_lle (by omega) (by omega)).mpr (by omega)
  | succ d ih =>
    intro k M c hk hc
    by_cases e : m_a M 2 k = c
    · obtain ⟨n, hn⟩ := ih (k + 1) (m_aU M 2 (nI k) (-1)) c (by omega) hc
      refine ⟨n + 1, fun Q K hK => ⟨fun q => absurd ((ni_lle (by omega) (by omega)).mp q) (by omega), fun _ => ⟨(ni_in (by omega)).mpr (by omega), fun q => absurd ?_ q, fun _ w hw => ?_⟩⟩⟩
      · rw [ni_cl (by omega), hc]; exact e
      · rw [nI_1] at hw
        subst hw
        refine hn Q K ?_
        have e2 : m_aS (m_aU M 2 (nI k) (-1)) 2 (gn (k + 1) c (m_a (m_aU M 2 (nI k) (-1)) 2)) = m_aS M 2 (gn k c (m_a M 2)) := by
          unfold m_aU
          rw [m_aS_aS]
          refine congrArg (m_aS M 2) ?_
          funext t
          show (if k + 1 ≤ t ∧ t < 1300 ∧ upd (m_a M 2) (nI k).toNatClampNeg (-1) t = c then -1 else upd (m_a M 2) (nI k).toNatClampNeg (-1) t) = if k ≤ t ∧ t < 1300 ∧ m_a M 2 t = c then -1 else m_a M 2 t
          rw [ni_cl (by omega), up_at]
          by_cases q : t = k
          · subst q
            rw [if_pos rfl, if_neg (by omega), if_pos ⟨Nat.le_refl _, by omega, e⟩]
          · rw [if_neg q]
            by_cases z : k ≤ t ∧ t < 1300 ∧ m_a M 2 t = c
            · rw [if_pos z, if_pos ⟨by omega, z.2⟩]
            · rw [if_neg z, if_neg (fun y => z ⟨by omega, y.2⟩)]
        rw [e2]
        exact hK
    · obtain ⟨n, hn⟩ := ih (k + 1) M c (by omega) hc
      refine ⟨n + 1, fun Q K hK => ⟨fun q => absurd ((ni_lle (by omega) (by omega)).mp q) (by omega), fun _ => ⟨(ni_in (by omega)).mpr (by omega), fun _ w hw => ?_, fun q => absurd ?_ e⟩⟩⟩
      · rw [nI_1] at hw
        subst hw
        refine hn Q K ?_
        have e2 : gn (k + 1) c (m_a M 2) = gn k c (m_a M 2) := by
          funext t
          show (if k + 1 ≤ t ∧ t < 1300 ∧ m_a M 2 t = c then -1 else m_a M 2 t) = if k ≤ t ∧ t < 1300 ∧ m_a M 2 t = c then -1 else m_a M 2 t
          by_cases z : k ≤ t ∧ t < 1300 ∧ m_a M 2 t = c
          · have : t ≠ k := fun q => e (by rw [← q]; exact z.2.2)
            rw [if_pos z, if_pos ⟨by omega, z.2⟩]
          · rw [if_neg z, if_neg (fun y => z ⟨by omega, y.2⟩)]
        rw [e2]
        exact hK
      · rw [ni_cl (by omega), hc] at q
        exact q
/-- the halves change places -/
theorem RelM.flip {z : Int32} (R : RelM C M sz pr B O fl fl ro h mm ps (8 + h) st ad sl mv P) :
    RelM (c_iS (c_iS (c_iS (c_iS C 12 (nI (1 - pr))) 13 0) 14 0) 15 (nI sz)) (m_iS (m_iS (m_iS (m_iS (m_iS (m_iS (m_aS (m_iS M 9 (nI (1 - pr))) 2 (gn 0 (nI (1 - pr)) (m_a M 2))) 6 0) 7 0) 5 0) 4 0) 8 (nI sz)) 10 z) sz (1 - pr) O B 0 0 sz h 0 0 0 (tst st) ad sl mv (fun _ => 0) := by
  obtain ⟨G, ⟨⟨s0, s9, s11, s12, s13, s14, s15⟩, ⟨z0, z3, z4, z5, z6, z7, z8, z9⟩, hh⟩, T, H, Rt, V, K⟩ := R
  refine ⟨G.turn, ⟨⟨s0, s9, s11, rfl, rfl, rfl, rfl⟩, ⟨z0, z3, rfl, rfl, rfl, rfl, rfl, rfl⟩, hh⟩, ?_, gH.turn G H, gR.turn Rt, ⟨by omega, by omega, Nat.le_refl _, rfl, rfl, fun j hj => by omega⟩, K⟩
  obtain ⟨g1, g2, g3, g4, -⟩ := G
  intro t ht
  obtain ⟨t1, t2, t3, t4⟩ := T t ht
  refine ⟨t1, ?_, fun q => absurd q (tst_1 t), fun q => t3 (tst_2 q)⟩
  show (if 0 ≤ t ∧ t < 1300 ∧ m_a M 2 t = nI (1 - pr) then -1 else m_a M 2 t) = _
  have h4 := (g4 t ht).2
  have hc : st t = 0 ∨ st t = 1 ∨ st t = 2 := by omega
  rw [t2]
  rcases hc with hc | hc | hc
  · rw [hc, show tst st t = 0 by unfold tst; rw [hc]; rfl, hv_0, if_neg (fun q => absurd q.2.2 (by rw [ni_1m (by omega)]; exact id)), hv_0]
  · rw [hc, tst_of hc, hv_1, hv_2, if_neg (fun q => absurd q.2.2 (by rw [ni_eq (by omega) (by omega)]; omega))]
    congr 1
    omega
  · rw [hc, show tst st t = 0 by unfold tst; rw [hc]; rfl, hv_2, if_pos ⟨Nat.zero_le _, ht, rfl⟩, hv_0]
/-- all roots are brought -/
theorem j_rootsB : ∀ (d : Nat) {C : cS} {M : mS} {fl mm r : Nat} {st ad mv P : Nat → Nat}, 8 + h - r = d → r ≤ 8 + h → RelM C M sz pr B O fl pa ro h mm ps r st ad sl mv P → ro = sz → zW st sl 2 + fl ≤ sz →
    ∃ (C1 : cS) (M1 : mS) (fl' mm' : Nat) (st' ad' mv' P' : Nat → Nat), RelM C1 M1 sz pr B O fl' pa ro h mm' ps (8 + h) st' ad' sl mv' P' ∧
      (∃ n, ∀ Q K l, K l C1 → w_X3_turnOver_37 Q K n l (nI r) C) ∧ (∃ n, ∀ Q K l, K l M1 → w_X11_turnOver_90 Q K n l (nI r) M) ∧ frC C C1 ∧ frM M M1 ∧ (c_a C1 14 6 = c_a C 14 6 ∧ m_i M1 12 = m_i M 12) := by
  intro d
  induction d with
  | zero =>
    intro C M fl mm r st ad mv P hd hr R hro hW
    have e : r = 8 + h := by omega
    subst e
    obtain ⟨G, ⟨⟨s0, s9, s11, s12, s13, s14, s15⟩, ⟨z0, z3, z4, z5, z6, z7, z8, z9⟩, hh⟩, -⟩ := id R
    refine ⟨C, M, fl, mm, st, ad, mv, P, R, ⟨1, fun Q K l hK => ?_⟩, ⟨1, fun Q K l hK => ?_⟩, frC.rf C, frM.rf M, rfl, rfl⟩
    · refine ⟨fun _ => hK, fun q => absurd ?_ q⟩
      rw [s11, ni_la, ni_le (by omega) (by omega)]
      omega
    · refine ⟨fun _ => hK, fun q => absurd ?_ q⟩
      rw [z3, ni_la, ni_le (by omega) (by omega)]
      omega
  | succ d ih =>
    intro C M fl mm r st ad mv P hd hr R hro hW
    obtain ⟨G, ⟨⟨s0, s9, s11, s12, s13, s14, s15⟩, ⟨z0, z3, z4, z5, z6, z7, z8, z9⟩, hh⟩, -⟩ := id R
    obtain ⟨C1, M1, fl1, mm1, st1, ad1, mv1, P1, b1, b2, b3, b4, b5, b6, b7⟩ := j_bringR R (by omega) hro hW
    obtain ⟨C2, M2, fl2, mm2, st2, ad2, mv2, P2, d1, ⟨n1, d2⟩, ⟨n2, d3⟩, d4, d5, d6⟩ := ih (r := r + 1) (by omega) (by omega) b3 hro b4
    have c1 : ¬ 8 + c_i C 11 ≤ nI r := by rw [s11, ni_la, ni_le (by omega) (by omega)]; omega
    have c2 : ¬ 8 + m_i M 3 ≤ nI r := by rw [z3, ni_la, ni_le (by omega) (by omega)]; omega
    refine ⟨C2, M2, fl2, mm2, st2, ad2, mv2, P2, d1, ⟨n1 + 1, fun Q K l hK => ?_⟩, ⟨n2 + 1, fun Q K l hK => ?_⟩, b5.tr d4, b6.tr d5, d6.1.trans b7.1, d6.2.trans b7.2⟩
    · refine ⟨fun q => absurd q c1, fun _ => b1 _ fun w hw => ?_⟩
      rw [nI_1] at hw
      subst hw
      exact d2 Q K l hK
    · refine ⟨fun q => absurd q c2, fun _ => ⟨(ni_in (by omega)).mpr (by omega), ?_⟩⟩
      rw [ni_cl (by omega)]
      rcases b2 with ⟨e1, -, e3⟩ | ⟨e1, e2⟩
      · subst e3
        refine e1 _ ⟨fun _ w hw => ?_, fun q => absurd rfl q⟩
        rw [nI_1] at hw
        subst hw
        exact d3 Q K l hK
      · refine e1 _ ⟨fun q => absurd q (by decide), fun _ => e2 _ fun w hw => ?_⟩
        rw [nI_1] at hw
        subst hw
        exact d3 Q K l hK
/-- TURN -/
theorem j_turn (R : RelM C M sz pr B O fl fl ro h mm ps (8 + h) st ad sl mv P) (k4 : c_a C 14 4 = m_i M 10) (k6 : c_a C 14 6 = m_i M 12) :
    ∃ (C1 : cS) (M1 : mS) (fl' mm' : Nat) (st' ad' mv' P' : Nat → Nat), (∀ Q, Q C1 → p_X3_turnOver C Q) ∧ (∀ Q, Q M1 → p_X11_turnOver M Q) ∧ RelM C1 M1 sz (1 - pr) O B fl' 0 sz h mm' 0 (8 + h) st' ad' sl mv' P' ∧
      c_a C1 14 4 = m_i M1 10 ∧ c_a C1 14 6 = m_i M1 12 ∧ wrC C C1 ∧ wrM M M1 := by
  obtain ⟨G, ⟨⟨s0, s9, s11, s12, s13, s14, s15⟩, ⟨z0, z3, z4, z5, z6, z7, z8, z9⟩, hh⟩, T, H, Rt, V, K⟩ := id R
  obtain ⟨g1, g2, g3, g4, g5, g6, g7, g8, g9⟩ := id G
  have R1 := R.flip (z := m_i M 10 + 1)
  have hw := zW_turn (st := st) (sl := sl)
  obtain ⟨C2, M2, fl2, mm2, st2, ad2, mv2, P2, d1, ⟨n1, d2⟩, ⟨n2, d3⟩, d4, d5, d6⟩ := j_rootsB (r := 0) _ rfl (by omega) R1 rfl (by omega)
  obtain ⟨n3, d7⟩ := j_gone 1300 0 (m_iS M 9 (nI (1 - pr))) (nI (1 - pr)) rfl rfl
  have e1 : 1 - c_i C 12 = nI (1 - pr) := by rw [s12]; exact ni_ls (n := 1) (by show pr ≤ 1; omega)
  have e2 : 1 - m_i M 9 = nI (1 - pr) := by rw [z9]; exact ni_ls (n := 1) (by show pr ≤ 1; omega)
  have K2 := d1.2.2.2.2.2.2
  refine ⟨c_aU (c_aU C2 14 4 (((c_a C2 14) (4 : Int32).toNatClampNeg) + 1)) 14 12 (c_a C2 14 5 - c_a C 14 5), m_iS M2 18 (m_i M2 11 - m_i M 11), fl2, mm2, st2, ad2, mv2, P2, ?_, ?_, ?_, ?_, ?_, ?_, ?_⟩
  · intro Q hQ w hw
    refine ⟨n1, ?_⟩
    rw [e1, s9]
    subst hw
    exact d2 Q _ _ hQ
  · intro Q hQ
    refine ⟨n3, ?_⟩
    rw [e2]
    refine d7 Q _ ?_
    intro w hw
    subst hw
    refine ⟨n2, ?_⟩
    have e3 : m_i (m_aS (m_iS M 9 (nI (1 - pr))) 2 (gn 0 (nI (1 - pr)) (m_a (m_iS M 9 (nI (1 - pr))) 2))) 0 = nI sz := z0
    rw [e3]
    exact d3 Q _ _ hQ
  · obtain ⟨q1, q2, q3, q4, q5, q6, k2, k3, k4', k5, k6', k7, k8⟩ := d1
    refine ⟨q1, q2, q3, q4, q5, q6, k2, k3, k4', k5, k6', k7, ?_⟩
    show c_a C2 14 5 - c_a C 14 5 = m_i M2 11 - m_i M 11
    rw [k2, K.1]
  · show c_a C2 14 4 + 1 = m_i M2 10
    rw [d4.2, d5.2]
    show c_a C 14 4 + 1 = m_i M 10 + 1
    rw [k4]
  · show c_a C2 14 6 = m_i M2 12
    rw [d6.1, d6.2]
    exact k6
  · exact (((((wrC.rf C).i (by decide)).i (by decide)).i (by decide)).i (by decide)).tr d4.1 |> fun q => (q.u (by decide)).u (by decide)
  · exact (((((((((wrM.rf M).i (by decide)).a (by decide)).i (by decide)).i (by decide)).i (by decide)).i (by decide)).i (by decide)).i (by decide)).tr d5.1 |> fun q => q.i (by decide)
end ZT2
