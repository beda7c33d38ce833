/-! what an ACT takes: 1 a HAND, 2 a NUMBER, 3 a LABEL -/
section ZK
def tkN : List Nat := [12, 11, 1, 12, 12, 11, 11, 112, 111, 121, 111, 11, 11, 111, 111, 111, 111, 111, 1, 1, 1, 3, 13, 3, 0, 0]
def nd (v : Nat) : Nat := if v = 0 then 0 else if v < 10 then 1 else if v < 100 then 2 else 3
def nt (k : Nat) : Nat := nd (tkN.getD k 0)
def kd (k j : Nat) : Nat := tkN.getD k 0 / 10 ^ (nt k - 1 - j) % 10
theorem tk_len : ∀ k, k < 26 → z_tkx.getD k 0 < 40 ∧ z_tlen (z_tkx.getD k 0) = nt k ∧ nt k ≤ 3 ∧ z_tks.getD k 0 = nI (tkN.getD k 0) ∧ tkN.getD k 0 < 1000 := by decide +kernel
theorem tk_chr : ∀ k, k < 26 → ∀ j, j < nt k → (z_tchr (z_tkx.getD k 0) j = 72 ↔ kd k j = 1) ∧ (z_tchr (z_tkx.getD k 0) j = 78 ↔ kd k j = 2) ∧ (z_tchr (z_tkx.getD k 0) j = 76 ↔ kd k j = 3) ∧ (kd k j = 1 ∨ kd k j = 2 ∨ kd k j = 3) := by decide +kernel
variable {C : cS} {M : mS} {k j v : Nat} {x y z : Int32}
theorem e_many (hv : v < 1000) : ∀ Q, Q (nI (nd v)) M → p_X11_many (nI v) M Q := by
  intro Q hQ
  unfold nd at hQ
  unfold p_X11_many
  rw [ni_eql (by omega) (by decide), ni_lle (by omega) (by decide), ni_lle (by omega) (by decide)]
  by_cases h0 : v = 0
  · rw [if_pos h0] at hQ
    exact ⟨fun q => absurd h0 q, fun _ => hQ⟩
  · rw [if_neg h0] at hQ
    refine ⟨fun _ => ?_, fun q => absurd q h0⟩
    by_cases h1 : v < 10
    · rw [if_pos h1] at hQ
      exact ⟨fun q => by omega, fun _ => hQ⟩
    · rw [if_neg h1] at hQ
      refine ⟨fun _ => ?_, fun q => by omega⟩
      by_cases h2 : v < 100
      · rw [if_pos h2] at hQ
        exact ⟨fun q => by omega, fun _ => hQ⟩
      · rw [if_neg h2] at hQ
        exact ⟨fun _ => hQ, fun q => by omega⟩
theorem e_tens : ∀ (d v : Nat), d ≤ 3 → v < 1000 → ∃ n, ∀ Q K, K (nI (v / 10 ^ d)) M → w_X11_kindOf_11 Q K n (nI d) (nI v) M := by
  intro d
  induction d with
  | zero =>
    intro v _ hv
    refine ⟨1, fun Q K hK => ⟨fun _ => ?_, fun q => absurd ((ni_lel (by omega) (by decide)).mpr (by omega)) q⟩⟩
    rw [Nat.pow_zero, Nat.div_one] at hK
    exact hK
  | succ d ih =>
    intro v hd hv
    obtain ⟨n, hn⟩ := ih (v / 10) (by omega) (by omega)
    refine ⟨n + 1, fun Q K hK => ⟨fun q => absurd ((ni_lel (by omega) (by decide)).mp q) (by omega), fun _ u hu w hw => ?_⟩⟩
    have hu : u = nI (v / 10) := hu.trans (pk_div (d := 10) (by omega) (by decide) (by decide))
    have hw : w = nI d := hw.trans (pk_m1 d)
    subst hu hw
    refine hn Q K ?_
    rw [Nat.div_div_eq_div_mul, Nat.mul_comm, ← Nat.pow_succ]
    exact hK
theorem e_kindOf (hv : v < 1000) (hj : j < nd v) : ∀ Q, Q (nI (v / 10 ^ (nd v - 1 - j) % 10)) M → p_X11_kindOf (nI v) (nI j) M Q := by
  intro Q hQ
  have h3 : nd v ≤ 3 := by unfold nd; split; omega; split; omega; split <;> omega
  obtain ⟨n, hn⟩ := e_tens (M := M) (nd v - 1 - j) v (by omega) hv
  refine e_many hv _ fun w hw => ?_
  rw [ni_sl (by omega), ni_sub (by omega)] at hw
  subst hw
  refine ⟨n, hn Q _ ?_⟩
  have hb : v / 10 ^ (nd v - 1 - j) < 2 ^ 31 := Nat.lt_of_le_of_lt (Nat.div_le_self _ _) (by omega)
  have e := pk_rem (a := v / 10 ^ (nd v - 1 - j)) (d := 10) hb (by decide) (by decide)
  show Q (nI (v / 10 ^ (nd v - 1 - j)) - nI (v / 10 ^ (nd v - 1 - j)) / nI 10 * nI 10) M
  rw [e]
  exact hQ
theorem e_manyK (hk : k < 26) : ∀ Q, Q (nI (nt k)) M → p_X11_many (z_tks.getD k 0) M Q := by
  intro Q hQ
  rw [(tk_len k hk).2.2.2.1]
  exact e_many (tk_len k hk).2.2.2.2 Q hQ
theorem e_kdK (hk : k < 26) (hj : j < nt k) : ∀ Q, Q (nI (kd k j)) M → p_X11_kindOf (z_tks.getD k 0) (nI j) M Q := by
  intro Q hQ
  rw [(tk_len k hk).2.2.2.1]
  exact e_kindOf (tk_len k hk).2.2.2.2 hj Q hQ
/-- the j-th of what is given -/
def argJ (x y z : Int32) (j : Nat) : Int32 := if j = 0 then x else if j = 1 then y else z
def isH (a : Int32) : Prop := ∃ r, r < 8 ∧ a = nI r
theorem isH_iff (a : Int32) : isH a ↔ (¬ a < 0 ∧ ¬ 8 ≤ a) := by
  constructor
  · rintro ⟨r, hr, rfl⟩
    exact ⟨nI_pos (by omega), by rw [ni_lle (by omega) (by decide)]; omega⟩
  · rintro ⟨h1, h2⟩
    obtain ⟨r, hr, rfl⟩ := ni_ex h1
    rw [ni_lle (by omega) (by decide)] at h2
    exact ⟨r, by omega, rfl⟩
theorem isH_iff7 (a : Int32) : isH a ↔ (¬ a < 0 ∧ a ≤ 7) := by
  constructor
  · rintro ⟨r, hr, rfl⟩
    exact ⟨nI_pos (by omega), by rw [ni_lel (by omega) (by decide)]; omega⟩
  · rintro ⟨h1, h2⟩
    obtain ⟨r, hr, rfl⟩ := ni_ex h1
    rw [ni_lel (by omega) (by decide)] at h2
    exact ⟨r, by omega, rfl⟩
theorem isH_lt7 (a : Int32) : isH a ↔ (¬ a < 0 ∧ ¬ 7 < a) := by
  constructor
  · rintro ⟨r, hr, rfl⟩
    exact ⟨nI_pos (by omega), by rw [ni_llt (by omega) (by decide)]; omega⟩
  · rintro ⟨h1, h2⟩
    obtain ⟨r, hr, rfl⟩ := ni_ex h1
    rw [ni_llt (by omega) (by decide)] at h2
    exact ⟨r, by omega, rfl⟩
theorem e_isHand (a : Int32) : (isH a → ∀ Q, Q 1 C → p_X10_isHand a C Q) ∧ (¬ isH a → ∀ Q, Q 0 C → p_X10_isHand a C Q) := by
  rw [isH_iff]
  refine ⟨fun h Q hQ => ⟨fun q => absurd q h.1, fun _ => ⟨fun q => absurd q h.2, fun _ => hQ⟩⟩, fun h Q hQ => ⟨fun _ => hQ, fun q => ⟨fun _ => hQ, fun q2 => absurd ⟨q, q2⟩ h⟩⟩⟩
def okA (k : Nat) (x y z : Int32) (j : Nat) : Prop := ∀ i, j ≤ i → i < nt k → kd k i = 1 → isH (argJ x y z i)
theorem e_fit (hk : k < 26) : ∀ (d j : Nat), j + d = nt k → (okA k x y z j → ∃ n, ∀ Q K1 K2, K2 C → w_X10_handsFit_3 k Q K1 K2 n x y z (nI j) C) ∧ (¬ okA k x y z j → ∃ n, ∀ Q K1 K2, K1 C → w_X10_handsFit_3 k Q K1 K2 n x y z (nI j) C) := by
  obtain ⟨t1, t2, t3, -⟩ := tk_len k hk
  intro d
  induction d with
  | zero =>
    intro j hj
    refine ⟨fun _ => ⟨1, fun Q K1 K2 hK => ⟨hk, t1, fun _ => hK, fun q => absurd ?_ q⟩⟩, fun h => absurd (fun i h1 h2 => by omega) h⟩
    rw [t2, ni_le (by omega) (by omega)]; omega
  | succ d ih =>
    intro j hj
    have hjn : j < nt k := by omega
    obtain ⟨c1, -, -, -⟩ := tk_chr k hk j hjn
    have c0 : ¬ nI (z_tlen (z_tkx.getD k 0)) ≤ nI j := by rw [t2, ni_le (by omega) (by omega)]; omega
    have cj : (nI j).toNatClampNeg = j := ni_cl (by omega)
    have cin : vp_in (nI j) (z_tlen (z_tkx.getD k 0)) := by rw [t2]; exact (ni_in (by omega)).mpr hjn
    -- one step, whichever argument it is
    have step : ∀ (n : Nat) Q K1 K2, ((¬ kd k j = 1 → w_X10_handsFit_3 k Q K1 K2 n x y z (nI (j + 1)) C) ∧ (kd k j = 1 → (isH (argJ x y z j) → w_X10_handsFit_3 k Q K1 K2 n x y z (nI (j + 1)) C) ∧ (¬ isH (argJ x y z j) → K1 C))) → w_X10_handsFit_3 k Q K1 K2 (n + 1) x y z (nI j) C := by
      intro n Q K1 K2 hyp
      have one : ∀ a, a = argJ x y z j → vp_in (nI j) (z_tlen (z_tkx.getD k 0)) ∧ ((¬ (z_tchr (z_tkx.getD k 0) (nI j).toNatClampNeg) = 72 → ∀ w : Int32, w = nI j + 1 → w_X10_handsFit_3 k Q K1 K2 n x y z w C) ∧ ((z_tchr (z_tkx.getD k 0) (nI j).toNatClampNeg) = 72 → p_X10_isHand a C (fun r C1 => ((¬ r = 0 → ∀ w : Int32, w = nI j + 1 → w_X10_handsFit_3 k Q K1 K2 n x y z w C1) ∧ (r = 0 → K1 C1))))) := by
        intro a ha
        subst ha
        rw [cj, c1]
        refine ⟨cin, fun q w hw => ?_, fun q => ?_⟩
        · rw [nI_1] at hw; subst hw; exact hyp.1 q
        · by_cases e : isH (argJ x y z j)
          · refine (e_isHand _).1 e _ ⟨fun _ w hw => ?_, fun q => absurd q (by decide)⟩
            rw [nI_1] at hw; subst hw; exact (hyp.2 q).1 e
          · exact (e_isHand _).2 e _ ⟨fun q => absurd rfl q, fun _ => (hyp.2 q).2 e⟩
      refine ⟨hk, t1, fun q => absurd q c0, fun _ => ⟨fun n0 => ⟨fun n1 => one z ?_, fun n1 => one y ?_⟩, fun n0 => one x ?_⟩⟩
      · rw [ni_eql (by omega) (by decide)] at n0 n1
        unfold argJ; rw [if_neg n0, if_neg n1]
      · rw [ni_eql (by omega) (by decide)] at n0 n1
        unfold argJ; rw [if_neg n0, if_pos n1]
      · rw [ni_eql (by omega) (by decide)] at n0
        unfold argJ; rw [if_pos n0]
    obtain ⟨i1, i2⟩ := ih (j + 1) (by omega)
    by_cases e : kd k j = 1 ∧ ¬ isH (argJ x y z j)
    · refine ⟨fun h => absurd (h j (Nat.le_refl _) hjn e.1) e.2, fun _ => ⟨1, fun Q K1 K2 hK => step 0 Q K1 K2 ⟨fun q => absurd e.1 q, fun _ => ⟨fun q => absurd q e.2, fun _ => hK⟩⟩⟩⟩
    · have hok : okA k x y z j ↔ okA k x y z (j + 1) := by
        constructor
        · intro h i h1 h2 h3; exact h i (by omega) h2 h3
        · intro h i h1 h2 h3
          by_cases q : i = j
          · subst q
            by_cases w : isH (argJ x y z i)
            · exact w
            · exact absurd ⟨h3, w⟩ e
          · exact h i (by omega) h2 h3
      rw [hok]
      refine ⟨fun h => ?_, fun h => ?_⟩
      · obtain ⟨n, hn⟩ := i1 h
        exact ⟨n + 1, fun Q K1 K2 hK => step n Q K1 K2 ⟨fun _ => hn Q K1 K2 hK, fun q => ⟨fun _ => hn Q K1 K2 hK, fun w => absurd ⟨q, w⟩ e⟩⟩⟩
      · obtain ⟨n, hn⟩ := i2 h
        exact ⟨n + 1, fun Q K1 K2 hK => step n Q K1 K2 ⟨fun _ => hn Q K1 K2 hK, fun q => ⟨fun _ => hn Q K1 K2 hK, fun w => absurd ⟨q, w⟩ e⟩⟩⟩
theorem e_fitM (hk : k < 26) : ∀ (d j : Nat), j + d = nt k → (okA k x y z j → ∃ n, ∀ Q K1 K2, K2 (nI k) x y z M → w_X11_act_20 Q K1 K2 n (nI k) x y z (nI j) M) ∧ (¬ okA k x y z j → ∃ n, ∀ Q K1 K2, K1 M → w_X11_act_20 Q K1 K2 n (nI k) x y z (nI j) M) := by
  obtain ⟨t1, t2, t3, -⟩ := tk_len k hk
  have kc : (nI k).toNatClampNeg = k := ni_cl (by omega)
  have kin : vp_in (nI k) 26 := (ni_in (by omega)).mpr hk
  intro d
  induction d with
  | zero =>
    intro j hj
    refine ⟨fun _ => ⟨1, fun Q K1 K2 hK => ⟨kin, ?_⟩⟩, fun h => absurd (fun i h1 h2 => by omega) h⟩
    rw [kc]
    exact e_manyK hk _ ⟨fun _ => hK, fun q => absurd ((ni_le (by omega) (by omega)).mpr (by omega)) q⟩
  | succ d ih =>
    intro j hj
    have hjn : j < nt k := by omega
    have h9 : kd k j < 2147483648 := Nat.lt_of_lt_of_le (Nat.mod_lt _ (by decide)) (by decide)
    have step : ∀ (n : Nat) Q K1 K2, ((¬ kd k j = 1 → w_X11_act_20 Q K1 K2 n (nI k) x y z (nI (j + 1)) M) ∧ (kd k j = 1 → (isH (argJ x y z j) → w_X11_act_20 Q K1 K2 n (nI k) x y z (nI (j + 1)) M) ∧ (¬ isH (argJ x y z j) → K1 M))) → w_X11_act_20 Q K1 K2 (n + 1) (nI k) x y z (nI j) M := by
      intro n Q K1 K2 hyp
      have one : ∀ a, a = argJ x y z j → j_X11_act_54 Q (w_X11_act_20 Q K1 K2 n) K1 K2 (nI k) x y z (nI j) a M := by
        intro a ha
        subst ha
        refine ⟨kin, ?_⟩
        rw [kc]
        refine e_kdK hk hjn _ ⟨fun q w hw => ?_, fun q => ?_⟩
        · rw [nI_1] at hw; subst hw
          exact hyp.1 (fun w => q (by rw [w]; rfl))
        · have q1 : kd k j = 1 := (ni_eql h9 (by decide)).mp q
          by_cases e : isH (argJ x y z j)
          · obtain ⟨e1, e2⟩ := (isH_iff7 _).mp e
            refine ⟨fun q => absurd q e1, fun _ => ⟨fun _ w hw => ?_, fun q => absurd e2 q⟩⟩
            rw [nI_1] at hw; subst hw; exact (hyp.2 q1).1 e
          · refine ⟨fun _ => (hyp.2 q1).2 e, fun z1 => ⟨fun z2 => absurd ((isH_iff7 _).mpr ⟨z1, z2⟩) e, fun _ => (hyp.2 q1).2 e⟩⟩
      refine ⟨kin, ?_⟩
      rw [kc]
      refine e_manyK hk _ ⟨fun q => absurd ((ni_le (by omega) (by omega)).mp q) (by omega), fun _ => ⟨fun n0 => ⟨fun n1 => one z ?_, fun n1 => one y ?_⟩, fun n0 => one x ?_⟩⟩
      · rw [ni_eql (by omega) (by decide)] at n0 n1
        unfold argJ; rw [if_neg n0, if_neg n1]
      · rw [ni_eql (by omega) (by decide)] at n0 n1
        unfold argJ; rw [if_neg n0, if_pos n1]
      · rw [ni_eql (by omega) (by decide)] at n0
        unfold argJ; rw [if_pos n0]
    obtain ⟨i1, i2⟩ := ih (j + 1) (by omega)
    by_cases e : kd k j = 1 ∧ ¬ isH (argJ x y z j)
    · refine ⟨fun h => absurd (h j (Nat.le_refl _) hjn e.1) e.2, fun _ => ⟨1, fun Q K1 K2 hK => step 0 Q K1 K2 ⟨fun q => absurd e.1 q, fun _ => ⟨fun q => absurd q e.2, fun _ => hK⟩⟩⟩⟩
    · have hok : okA k x y z j ↔ okA k x y z (j + 1) := by
        constructor
        · intro h i h1 h2 h3; exact h i (by omega) h2 h3
        · intro h i h1 h2 h3
          by_cases q : i = j
          · subst q
            by_cases w : isH (argJ x y z i)
            · exact w
            · exact absurd ⟨h3, w⟩ e
          · exact h i (by omega) h2 h3
      rw [hok]
      refine ⟨fun h => ?_, fun h => ?_⟩
      · obtain ⟨n, hn⟩ := i1 h
        exact ⟨n + 1, fun Q K1 K2 hK => step n Q K1 K2 ⟨fun _ => hn Q K1 K2 hK, fun q => ⟨fun _ => hn Q K1 K2 hK, fun w => absurd ⟨q, w⟩ e⟩⟩⟩
      · obtain ⟨n, hn⟩ := i2 h
        exact ⟨n + 1, fun Q K1 K2 hK => step n Q K1 K2 ⟨fun _ => hn Q K1 K2 hK, fun q => ⟨fun _ => hn Q K1 K2 hK, fun w => absurd ⟨q, w⟩ e⟩⟩⟩
end ZK
