section ZG
def p_X11_thrown (M : mS) (Q : Int32 → mS → Prop) : Prop :=
  Q (m_i M 2) M
set_option maxRecDepth 100000 in
set_option maxHeartbeats 4000000 in
theorem t_X11_thrown (tg : Bool) (C : cS) (o : Nat → Int64) (X : List va_E) (M : mS) (Q : Int32 → mS → Prop) (h : p_X11_thrown M Q) : z_M q_X11_thrown tg [.ref 233] (wz C M o X) (zm_i C o X Q) := by
  unfold p_X11_thrown at h
  refine z_enter (by decide) (Nat.le_of_ble_eq_true rfl) ?_
  refine z_aload_n 0 1 dX11_thrown_0 rfl rfl ?_
  refine gmi_2 (m_i M 2) 4 dX11_thrown_1 of_X11_131 rfl rfl ?_
  exact z_iret dX11_thrown_4 rfl ⟨Nat.le_refl _, Nat.le_refl _⟩ ⟨m_i M 2, M, rfl, rfl, h⟩
def p_X11_takes (a1 : Int32) (M : mS) (Q : Int32 → mS → Prop) : Prop :=
  vp_in a1 1300 ∧ Q (((m_a M 1) a1.toNatClampNeg) + 2) M
set_option maxRecDepth 100000 in
set_option maxHeartbeats 4000000 in
theorem t_X11_takes (tg : Bool) (C : cS) (o : Nat → Int64) (X : List va_E) (a1 : Int32) (M : mS) (Q : Int32 → mS → Prop) (h : p_X11_takes a1 M Q) : z_M q_X11_takes tg [.ref 233, .int a1] (wz C M o X) (zm_i C o X Q) := by
  unfold p_X11_takes at h
  refine z_enter (by decide) (Nat.le_of_ble_eq_true rfl) ?_
  refine z_aload_n 0 1 dX11_takes_0 rfl rfl ?_
  refine gr_33_4 4 dX11_takes_1 of_X11_13 rfl ?_
  refine z_iload_n 1 5 dX11_takes_4 rfl rfl ?_
  obtain ⟨hbz1, h⟩ := h
  refine gma_1 ((m_a M 1) a1.toNatClampNeg) 6 dX11_takes_5 hbz1 rfl rfl ?_
  refine z_iconst 2 7 dX11_takes_6 rfl rfl ?_
  refine z_iadd 8 dX11_takes_7 rfl ?_
  exact z_iret dX11_takes_8 rfl ⟨Nat.le_refl _, Nat.le_refl _⟩ ⟨((m_a M 1) a1.toNatClampNeg) + 2, M, rfl, rfl, h⟩
def p_X11_isOld (a1 : Int32) (a2 : Int32) (M : mS) (Q : Int32 → mS → Prop) : Prop :=
  ((¬ a1 = 2 → Q 0 M) ∧ (a1 = 2 → vp_in a2 1300 ∧ ((((m_a M 2) a2.toNatClampNeg) = (m_i M 9) → Q 0 M) ∧ (¬ ((m_a M 2) a2.toNatClampNeg) = (m_i M 9) → Q 1 M))))
set_option maxRecDepth 100000 in
set_option maxHeartbeats 4000000 in
theorem t_X11_isOld (tg : Bool) (C : cS) (o : Nat → Int64) (X : List va_E) (a1 : Int32) (a2 : Int32) (M : mS) (Q : Int32 → mS → Prop) (h : p_X11_isOld a1 a2 M Q) : z_M q_X11_isOld tg [.ref 233, .int a1, .int a2] (wz C M o X) (zm_i C o X Q) := by
  unfold p_X11_isOld at h
  refine z_enter (by decide) (Nat.le_of_ble_eq_true rfl) ?_
  refine z_iload_n 1 1 dX11_isOld_0 rfl rfl ?_
  refine z_iconst 2 2 dX11_isOld_1 rfl rfl ?_
  refine z_icmp_ne 22 5 dX11_isOld_2 rfl rfl (fun hcz1 => ?_) (fun hcz1 => ?_)
  · replace h := h.1 hcz1
    refine z_iconst 0 23 dX11_isOld_22 rfl rfl ?_
    exact z_zret dX11_isOld_23 rfl rfl ⟨Nat.le_refl _, Nat.le_refl _⟩ ⟨0, M, rfl, rfl, h⟩
  · replace h := h.2 hcz1
    refine z_aload_n 0 6 dX11_isOld_5 rfl rfl ?_
    refine gr_33_5 9 dX11_isOld_6 of_X11_17 rfl ?_
    refine z_iload_n 2 10 dX11_isOld_9 rfl rfl ?_
    obtain ⟨hbz2, h⟩ := h
    refine gma_2 ((m_a M 2) a2.toNatClampNeg) 11 dX11_isOld_10 hbz2 rfl rfl ?_
    refine z_aload_n 0 12 dX11_isOld_11 rfl rfl ?_
    refine gmi_9 (m_i M 9) 15 dX11_isOld_12 of_X11_134 rfl rfl ?_
    refine z_icmp_eq 22 18 dX11_isOld_15 rfl rfl (fun hcz3 => ?_) (fun hcz3 => ?_)
    · replace h := h.1 hcz3
      refine z_iconst 0 23 dX11_isOld_22 rfl rfl ?_
      exact z_zret dX11_isOld_23 rfl rfl ⟨Nat.le_refl _, Nat.le_refl _⟩ ⟨0, M, rfl, rfl, h⟩
    · replace h := h.2 hcz3
      refine z_iconst 1 19 dX11_isOld_18 rfl rfl ?_
      refine z_goto 23 dX11_isOld_19 rfl ?_
      exact z_zret dX11_isOld_23 rfl rfl ⟨Nat.le_refl _, Nat.le_refl _⟩ ⟨1, M, rfl, rfl, h⟩
def p_X11_move (a1 : Int32) (M : mS) (Q : Int32 → mS → Prop) : Prop :=
  p_X11_takes a1 M (fun rz2 Mz1 => ((((m_i M 6) + rz2) ≤ (m_i Mz1 8) → vp_in a1 1300 ∧ p_X11_takes a1 (m_aU (m_aU Mz1 2 a1 (m_i Mz1 9)) 3 a1 (m_i Mz1 6)) (fun rz6 Mz5 => vp_in (m_i Mz5 4) 1300 ∧ Q 1 (m_iS (m_iS (m_aU (m_iS Mz5 6 ((m_i Mz1 6) + rz6)) 8 (m_i Mz5 4) a1) 4 ((m_i Mz5 4) + 1)) 11 ((m_i Mz5 11) + 1)))) ∧ (¬ ((m_i M 6) + rz2) ≤ (m_i Mz1 8) → Q 0 (m_iS Mz1 14 ((m_i Mz1 14) + 1)))))
set_option maxRecDepth 100000 in
set_option maxHeartbeats 4000000 in
theorem t_X11_move (tg : Bool) (C : cS) (o : Nat → Int64) (X : List va_E) (a1 : Int32) (M : mS) (Q : Int32 → mS → Prop) (h : p_X11_move a1 M Q) : z_M q_X11_move tg [.ref 233, .int a1] (wz C M o X) (zm_i C o X Q) := by
  unfold p_X11_move at h
  refine z_enter (by decide) (Nat.le_of_ble_eq_true rfl) ?_
  refine z_aload_n 0 1 dX11_move_0 rfl rfl ?_
  refine gmi_6 (m_i M 6) 4 dX11_move_1 of_X11_137 rfl rfl ?_
  refine z_aload_n 0 5 dX11_move_4 rfl rfl ?_
  refine z_iload_n 1 6 dX11_move_5 rfl rfl ?_
  refine z_miV [.int a1] 9 dX11_move_6 ok_X11_move_140 rfl rfl (Nat.le_of_ble_eq_true rfl) rc_33 ⟨rfl, rfl⟩ ⟨Nat.le_refl _, Nat.le_refl _⟩ rfl (t_X11_takes tg C o X a1 M _ h) (fun rz2 Mz1 h => ?_)
  refine z_iadd 10 dX11_move_9 rfl ?_
  refine z_aload_n 0 11 dX11_move_10 rfl rfl ?_
  refine gmi_8 (m_i Mz1 8) 14 dX11_move_11 of_X11_125 rfl rfl ?_
  refine z_icmp_le 29 17 dX11_move_14 rfl rfl (fun hcz3 => ?_) (fun hcz3 => ?_)
  · replace h := h.1 hcz3
    refine z_aload_n 0 30 dX11_move_29 rfl rfl ?_
    refine gr_33_5 33 dX11_move_30 of_X11_17 rfl ?_
    refine z_iload_n 1 34 dX11_move_33 rfl rfl ?_
    refine z_aload_n 0 35 dX11_move_34 rfl rfl ?_
    refine gmi_9 (m_i Mz1 9) 38 dX11_move_35 of_X11_134 rfl rfl ?_
    obtain ⟨hbz4, h⟩ := h
    refine pma_2 39 dX11_move_38 hbz4 rfl ?_
    refine z_aload_n 0 40 dX11_move_39 rfl rfl ?_
    refine gr_33_6 43 dX11_move_40 of_X11_20 rfl ?_
    refine z_iload_n 1 44 dX11_move_43 rfl rfl ?_
    refine z_aload_n 0 45 dX11_move_44 rfl rfl ?_
    refine gmi_6 (m_i Mz1 6) 48 dX11_move_45 of_X11_137 rfl rfl ?_
    refine pma_3 49 dX11_move_48 hbz4 rfl ?_
    refine z_aload_n 0 50 dX11_move_49 rfl rfl ?_
    refine z_dup rfl 51 dX11_move_50 rfl ?_
    refine gmi_6 (m_i Mz1 6) 54 dX11_move_51 of_X11_137 rfl rfl ?_
    refine z_aload_n 0 55 dX11_move_54 rfl rfl ?_
    refine z_iload_n 1 56 dX11_move_55 rfl rfl ?_
    refine z_miV [.int a1] 59 dX11_move_56 ok_X11_move_140 rfl rfl (Nat.le_of_ble_eq_true rfl) rc_33 ⟨rfl, rfl⟩ ⟨Nat.le_refl _, Nat.le_refl _⟩ rfl (t_X11_takes tg C o X a1 (m_aU (m_aU Mz1 2 a1 (m_i Mz1 9)) 3 a1 (m_i Mz1 6)) _ h) (fun rz6 Mz5 h => ?_)
    refine z_iadd 60 dX11_move_59 rfl ?_
    refine pmi_6 63 dX11_move_60 op_X11_137 rfl ?_
    refine z_aload_n 0 64 dX11_move_63 rfl rfl ?_
    refine gr_33_12 67 dX11_move_64 of_X11_36 rfl ?_
    refine z_aload_n 0 68 dX11_move_67 rfl rfl ?_
    refine gmi_4 (m_i Mz5 4) 71 dX11_move_68 of_X11_147 rfl rfl ?_
    refine z_iload_n 1 72 dX11_move_71 rfl rfl ?_
    obtain ⟨hbz7, h⟩ := h
    refine pma_8 73 dX11_move_72 hbz7 rfl ?_
    refine z_aload_n 0 74 dX11_move_73 rfl rfl ?_
    refine z_dup rfl 75 dX11_move_74 rfl ?_
    refine gmi_4 (m_i Mz5 4) 78 dX11_move_75 of_X11_147 rfl rfl ?_
    refine z_iconst 1 79 dX11_move_78 rfl rfl ?_
    refine z_iadd 80 dX11_move_79 rfl ?_
    refine pmi_4 83 dX11_move_80 op_X11_147 rfl ?_
    refine z_aload_n 0 84 dX11_move_83 rfl rfl ?_
    refine z_dup rfl 85 dX11_move_84 rfl ?_
    refine gmi_11 (m_i Mz5 11) 88 dX11_move_85 of_X11_150 rfl rfl ?_
    refine z_iconst 1 89 dX11_move_88 rfl rfl ?_
    refine z_iadd 90 dX11_move_89 rfl ?_
    refine pmi_11 93 dX11_move_90 op_X11_150 rfl ?_
    refine z_iconst 1 94 dX11_move_93 rfl rfl ?_
    exact z_zret dX11_move_94 rfl rfl ⟨Nat.le_refl _, Nat.le_refl _⟩ ⟨1, (m_iS (m_iS (m_aU (m_iS Mz5 6 ((m_i Mz1 6) + rz6)) 8 (m_i Mz5 4) a1) 4 ((m_i Mz5 4) + 1)) 11 ((m_i Mz5 11) + 1)), rfl, rfl, h⟩
  · replace h := h.2 hcz3
    refine z_aload_n 0 18 dX11_move_17 rfl rfl ?_
    refine z_dup rfl 19 dX11_move_18 rfl ?_
    refine gmi_14 (m_i Mz1 14) 22 dX11_move_19 of_X11_144 rfl rfl ?_
    refine z_iconst 1 23 dX11_move_22 rfl rfl ?_
    refine z_iadd 24 dX11_move_23 rfl ?_
    refine pmi_14 27 dX11_move_24 op_X11_144 rfl ?_
    refine z_iconst 0 28 dX11_move_27 rfl rfl ?_
    exact z_zret dX11_move_28 rfl rfl ⟨Nat.le_refl _, Nat.le_refl _⟩ ⟨0, (m_iS Mz1 14 ((m_i Mz1 14) + 1)), rfl, rfl, h⟩
def b_X11_passOne_0 (R9 : mS → Prop) (Q : Int32 → mS → Prop) (K48 : mS → Prop) (M : mS) : Prop :=
  vp_in (m_i M 5) 1300 ∧ vp_in ((m_a M 8) (m_i M 5).toNatClampNeg) 1300 ∧ p_X11_takes ((m_a M 8) (m_i M 5).toNatClampNeg) M (fun rz4 Mz3 => (((m_i M 7) < (((m_a M 3) ((m_a M 8) (m_i M 5).toNatClampNeg).toNatClampNeg) + rz4) → K48 Mz3) ∧ (¬ (m_i M 7) < (((m_a M 3) ((m_a M 8) (m_i M 5).toNatClampNeg).toNatClampNeg) + rz4) → R9 (m_iS Mz3 5 ((m_i Mz3 5) + 1)))))
def w_X11_passOne_0 (Q : Int32 → mS → Prop) (K48 : mS → Prop) : Nat → mS → Prop
 | 0 => fun _ => False
 | n + 1 => fun M => b_X11_passOne_0 (w_X11_passOne_0 Q K48 n) Q K48 M
set_option maxRecDepth 100000 in
set_option maxHeartbeats 4000000 in
theorem tb_X11_passOne_0 (tg : Bool) (C : cS) (o : Nat → Int64) (X : List va_E) (R9 : mS → Prop) (Q : Int32 → mS → Prop) (K48 : mS → Prop) (hR9 : ∀ (M : mS), R9 M → z_go q_X11_passOne tg 0 [(0, .ref 233)] [] (wz C M o X) 0 0 (zm_i C o X Q)) (hK48 : ∀ (M : mS), K48 M → z_go q_X11_passOne tg 48 [(0, .ref 233)] [] (wz C M o X) 0 0 (zm_i C o X Q)) (M : mS) (h : b_X11_passOne_0 R9 Q K48 M) : z_go q_X11_passOne tg 0 [(0, .ref 233)] [] (wz C M o X) 0 0 (zm_i C o X Q) := by
  unfold b_X11_passOne_0 at h
  refine z_aload_n 0 1 dX11_passOne_0 rfl rfl ?_
  refine gmi_7 (m_i M 7) 4 dX11_passOne_1 of_X11_153 rfl rfl ?_
  refine z_aload_n 0 5 dX11_passOne_4 rfl rfl ?_
  refine gr_33_6 8 dX11_passOne_5 of_X11_20 rfl ?_
  refine z_aload_n 0 9 dX11_passOne_8 rfl rfl ?_
  refine gr_33_12 12 dX11_passOne_9 of_X11_36 rfl ?_
  refine z_aload_n 0 13 dX11_passOne_12 rfl rfl ?_
  refine gmi_5 (m_i M 5) 16 dX11_passOne_13 of_X11_156 rfl rfl ?_
  obtain ⟨hbz1, h⟩ := h
  refine gma_8 ((m_a M 8) (m_i M 5).toNatClampNeg) 17 dX11_passOne_16 hbz1 rfl rfl ?_
  obtain ⟨hbz2, h⟩ := h
  refine gma_3 ((m_a M 3) ((m_a M 8) (m_i M 5).toNatClampNeg).toNatClampNeg) 18 dX11_passOne_17 hbz2 rfl rfl ?_
  refine z_aload_n 0 19 dX11_passOne_18 rfl rfl ?_
  refine z_aload_n 0 20 dX11_passOne_19 rfl rfl ?_
  refine gr_33_12 23 dX11_passOne_20 of_X11_36 rfl ?_
  refine z_aload_n 0 24 dX11_passOne_23 rfl rfl ?_
  refine gmi_5 (m_i M 5) 27 dX11_passOne_24 of_X11_156 rfl rfl ?_
  refine gma_8 ((m_a M 8) (m_i M 5).toNatClampNeg) 28 dX11_passOne_27 hbz1 rfl rfl ?_
  refine z_miV [.int ((m_a M 8) (m_i M 5).toNatClampNeg)] 31 dX11_passOne_28 ok_X11_passOne_140 rfl rfl (Nat.le_of_ble_eq_true rfl) rc_33 ⟨rfl, rfl⟩ ⟨Nat.le_refl _, Nat.le_refl _⟩ rfl (t_X11_takes tg C o X ((m_a M 8) (m_i M 5).toNatClampNeg) M _ h) (fun rz4 Mz3 h => ?_)
  refine z_iadd 32 dX11_passOne_31 rfl ?_
  refine z_icmp_lt 48 35 dX11_passOne_32 rfl rfl (fun hcz5 => ?_) (fun hcz5 => ?_)
  · replace h := h.1 hcz5
    refine z_pick [(0, .ref 233)] [0] rfl ?_
    exact hK48  Mz3 h
  · replace h := h.2 hcz5
    refine z_aload_n 0 36 dX11_passOne_35 rfl rfl ?_
    refine z_dup rfl 37 dX11_passOne_36 rfl ?_
    refine gmi_5 (m_i Mz3 5) 40 dX11_passOne_37 of_X11_156 rfl rfl ?_
    refine z_iconst 1 41 dX11_passOne_40 rfl rfl ?_
    refine z_iadd 42 dX11_passOne_41 rfl ?_
    refine pmi_5 45 dX11_passOne_42 op_X11_156 rfl ?_
    refine z_goto 0 dX11_passOne_45 rfl ?_
    refine z_pick [(0, .ref 233)] [0] rfl ?_
    exact hR9  (m_iS Mz3 5 ((m_i Mz3 5) + 1)) h
theorem tw_X11_passOne_0 (tg : Bool) (C : cS) (o : Nat → Int64) (X : List va_E) (Q : Int32 → mS → Prop) (K48 : mS → Prop) (hK48 : ∀ (M : mS), K48 M → z_go q_X11_passOne tg 48 [(0, .ref 233)] [] (wz C M o X) 0 0 (zm_i C o X Q)) : ∀ (n : Nat) (M : mS), w_X11_passOne_0 Q K48 n M → z_go q_X11_passOne tg 0 [(0, .ref 233)] [] (wz C M o X) 0 0 (zm_i C o X Q) := by
  intro n
  induction n with
  | zero => intro M h; exact h.elim
  | succ n ih => intro M h; exact tb_X11_passOne_0 tg C o X _ Q K48 ih hK48 M h
def p_X11_passOne (M : mS) (Q : Int32 → mS → Prop) : Prop :=
  ∃ nz19 : Nat, w_X11_passOne_0 Q (fun Mz6 => vp_in (m_i Mz6 5) 1300 ∧ ∀ vz8 : Int32, vz8 = (m_a Mz6 8) (m_i Mz6 5).toNatClampNeg → vp_in vz8 1300 ∧ ∀ vz10 : Int32, vz10 = ((m_i Mz6 7) - ((m_a Mz6 3) vz8.toNatClampNeg)) - 2 → ((vz10 < 0 → Q 1 (m_iS (m_iS Mz6 7 ((m_i Mz6 7) + 1)) 12 ((m_i Mz6 12) + 1))) ∧ (¬ vz10 < 0 → vp_in ((40 * vz8) + vz10) 52000 ∧ p_X11_isOld ((m_a Mz6 4) ((40 * vz8) + vz10).toNatClampNeg) ((m_a Mz6 5) ((40 * vz8) + vz10).toNatClampNeg) Mz6 (fun rz14 Mz13 => ((rz14 = 0 → Q 1 (m_iS (m_iS Mz13 7 ((m_i Mz13 7) + 1)) 12 ((m_i Mz13 12) + 1))) ∧ (¬ rz14 = 0 → p_X11_move ((m_a Mz13 5) ((40 * vz8) + vz10).toNatClampNeg) Mz13 (fun rz17 Mz16 => ((¬ rz17 = 0 → Q 1 (m_iS (m_iS Mz16 7 ((m_i Mz16 7) + 1)) 12 ((m_i Mz16 12) + 1))) ∧ (rz17 = 0 → Q 0 Mz16))))))))) nz19 M
set_option maxRecDepth 100000 in
set_option maxHeartbeats 4000000 in
theorem t_X11_passOne (tg : Bool) (C : cS) (o : Nat → Int64) (X : List va_E) (M : mS) (Q : Int32 → mS → Prop) (h : p_X11_passOne M Q) : z_M q_X11_passOne tg [.ref 233] (wz C M o X) (zm_i C o X Q) := by
  unfold p_X11_passOne at h
  refine z_enter (by decide) (Nat.le_of_ble_eq_true rfl) ?_
  obtain ⟨nz19, h⟩ := h
  refine z_pick [(0, .ref 233)] [0] rfl ?_
  refine tw_X11_passOne_0 tg C o X Q _ (fun Mz6 h => ?_) nz19 M h
  · refine z_aload_n 0 49 dX11_passOne_48 rfl rfl ?_
    refine gr_33_12 52 dX11_passOne_49 of_X11_36 rfl ?_
    refine z_aload_n 0 53 dX11_passOne_52 rfl rfl ?_
    refine gmi_5 (m_i Mz6 5) 56 dX11_passOne_53 of_X11_156 rfl rfl ?_
    obtain ⟨hbz7, h⟩ := h
    refine gma_8 ((m_a Mz6 8) (m_i Mz6 5).toNatClampNeg) 57 dX11_passOne_56 hbz7 rfl rfl ?_
    refine z_topi (fun vz8 hvz8 => ?_)
    replace h := h vz8 hvz8
    refine z_istore_n [(1, .int vz8), (0, .ref 233)] 58 dX11_passOne_57 (Nat.le_of_ble_eq_true rfl) rfl rfl ?_
    refine z_aload_n 1 59 dX11_passOne_58 rfl rfl ?_
    refine gmi_7 (m_i Mz6 7) 62 dX11_passOne_59 of_X11_153 rfl rfl ?_
    refine z_aload_n 1 63 dX11_passOne_62 rfl rfl ?_
    refine gr_33_6 66 dX11_passOne_63 of_X11_20 rfl ?_
    refine z_iload_n 0 67 dX11_passOne_66 rfl rfl ?_
    obtain ⟨hbz9, h⟩ := h
    refine gma_3 ((m_a Mz6 3) vz8.toNatClampNeg) 68 dX11_passOne_67 hbz9 rfl rfl ?_
    refine z_isub 69 dX11_passOne_68 rfl ?_
    refine z_iconst 2 70 dX11_passOne_69 rfl rfl ?_
    refine z_isub 71 dX11_passOne_70 rfl ?_
    refine z_topi (fun vz10 hvz10 => ?_)
    replace h := h vz10 hvz10
    refine z_istore_n [(2, .int vz10), (1, .int vz8), (0, .ref 233)] 72 dX11_passOne_71 (Nat.le_of_ble_eq_true rfl) rfl rfl ?_
    refine z_iload_n 0 73 dX11_passOne_72 rfl rfl ?_
    refine z_if_lt 125 76 dX11_passOne_73 rfl rfl (fun hcz11 => ?_) (fun hcz11 => ?_)
    · replace h := h.1 hcz11
      refine z_aload_n 2 126 dX11_passOne_125 rfl rfl ?_
      refine z_dup rfl 127 dX11_passOne_126 rfl ?_
      refine gmi_7 (m_i Mz6 7) 130 dX11_passOne_127 of_X11_153 rfl rfl ?_
      refine z_iconst 1 131 dX11_passOne_130 rfl rfl ?_
      refine z_iadd 132 dX11_passOne_131 rfl ?_
      refine pmi_7 135 dX11_passOne_132 op_X11_153 rfl ?_
      refine z_aload_n 2 136 dX11_passOne_135 rfl rfl ?_
      refine z_dup rfl 137 dX11_passOne_136 rfl ?_
      refine gmi_12 (m_i Mz6 12) 140 dX11_passOne_137 of_X11_167 rfl rfl ?_
      refine z_iconst 1 141 dX11_passOne_140 rfl rfl ?_
      refine z_iadd 142 dX11_passOne_141 rfl ?_
      refine pmi_12 145 dX11_passOne_142 op_X11_167 rfl ?_
      refine z_iconst 1 146 dX11_passOne_145 rfl rfl ?_
      exact z_zret dX11_passOne_146 rfl rfl ⟨Nat.le_refl _, Nat.le_refl _⟩ ⟨1, (m_iS (m_iS Mz6 7 ((m_i Mz6 7) + 1)) 12 ((m_i Mz6 12) + 1)), rfl, rfl, h⟩
    · replace h := h.2 hcz11
      refine z_aload_n 2 77 dX11_passOne_76 rfl rfl ?_
      refine z_aload_n 2 78 dX11_passOne_77 rfl rfl ?_
      refine gr_33_7 81 dX11_passOne_78 of_X11_24 rfl ?_
      refine z_bipush 40 83 dX11_passOne_81 rfl rfl ?_
      refine z_iload_n 1 84 dX11_passOne_83 rfl rfl ?_
      refine z_imul 85 dX11_passOne_84 rfl ?_
      refine z_iload_n 0 86 dX11_passOne_85 rfl rfl ?_
      refine z_iadd 87 dX11_passOne_86 rfl ?_
      obtain ⟨hbz12, h⟩ := h
      refine gma_4 ((m_a Mz6 4) ((40 * vz8) + vz10).toNatClampNeg) 88 dX11_passOne_87 hbz12 rfl rfl ?_
      refine z_aload_n 2 89 dX11_passOne_88 rfl rfl ?_
      refine gr_33_8 92 dX11_passOne_89 of_X11_27 rfl ?_
      refine z_bipush 40 94 dX11_passOne_92 rfl rfl ?_
      refine z_iload_n 1 95 dX11_passOne_94 rfl rfl ?_
      refine z_imul 96 dX11_passOne_95 rfl ?_
      refine z_iload_n 0 97 dX11_passOne_96 rfl rfl ?_
      refine z_iadd 98 dX11_passOne_97 rfl ?_
      refine gma_5 ((m_a Mz6 5) ((40 * vz8) + vz10).toNatClampNeg) 99 dX11_passOne_98 hbz12 rfl rfl ?_
      refine z_miV [.int ((m_a Mz6 4) ((40 * vz8) + vz10).toNatClampNeg), .int ((m_a Mz6 5) ((40 * vz8) + vz10).toNatClampNeg)] 102 dX11_passOne_99 ok_X11_passOne_159 rfl rfl (Nat.le_of_ble_eq_true rfl) rc_33 ⟨rfl, rfl⟩ ⟨Nat.le_refl _, Nat.le_refl _⟩ rfl (t_X11_isOld tg C o X ((m_a Mz6 4) ((40 * vz8) + vz10).toNatClampNeg) ((m_a Mz6 5) ((40 * vz8) + vz10).toNatClampNeg) Mz6 _ h) (fun rz14 Mz13 h => ?_)
      refine z_if_eq 125 105 dX11_passOne_102 rfl rfl (fun hcz15 => ?_) (fun hcz15 => ?_)
      · replace h := h.1 hcz15
        refine z_aload_n 2 126 dX11_passOne_125 rfl rfl ?_
        refine z_dup rfl 127 dX11_passOne_126 rfl ?_
        refine gmi_7 (m_i Mz13 7) 130 dX11_passOne_127 of_X11_153 rfl rfl ?_
        refine z_iconst 1 131 dX11_passOne_130 rfl rfl ?_
        refine z_iadd 132 dX11_passOne_131 rfl ?_
        refine pmi_7 135 dX11_passOne_132 op_X11_153 rfl ?_
        refine z_aload_n 2 136 dX11_passOne_135 rfl rfl ?_
        refine z_dup rfl 137 dX11_passOne_136 rfl ?_
        refine gmi_12 (m_i Mz13 12) 140 dX11_passOne_137 of_X11_167 rfl rfl ?_
        refine z_iconst 1 141 dX11_passOne_140 rfl rfl ?_
        refine z_iadd 142 dX11_passOne_141 rfl ?_
        refine pmi_12 145 dX11_passOne_142 op_X11_167 rfl ?_
        refine z_iconst 1 146 dX11_passOne_145 rfl rfl ?_
        exact z_zret dX11_passOne_146 rfl rfl ⟨Nat.le_refl _, Nat.le_refl _⟩ ⟨1, (m_iS (m_iS Mz13 7 ((m_i Mz13 7) + 1)) 12 ((m_i Mz13 12) + 1)), rfl, rfl, h⟩
      · replace h := h.2 hcz15
        refine z_aload_n 2 106 dX11_passOne_105 rfl rfl ?_
        refine z_aload_n 2 107 dX11_passOne_106 rfl rfl ?_
        refine gr_33_8 110 dX11_passOne_107 of_X11_27 rfl ?_
        refine z_bipush 40 112 dX11_passOne_110 rfl rfl ?_
        refine z_iload_n 1 113 dX11_passOne_112 rfl rfl ?_
        refine z_imul 114 dX11_passOne_113 rfl ?_
        refine z_iload_n 0 115 dX11_passOne_114 rfl rfl ?_
        refine z_iadd 116 dX11_passOne_115 rfl ?_
        refine gma_5 ((m_a Mz13 5) ((40 * vz8) + vz10).toNatClampNeg) 117 dX11_passOne_116 hbz12 rfl rfl ?_
        refine z_miV [.int ((m_a Mz13 5) ((40 * vz8) + vz10).toNatClampNeg)] 120 dX11_passOne_117 ok_X11_passOne_163 rfl rfl (Nat.le_of_ble_eq_true rfl) rc_33 ⟨rfl, rfl⟩ ⟨Nat.le_refl _, Nat.le_refl _⟩ rfl (t_X11_move tg C o X ((m_a Mz13 5) ((40 * vz8) + vz10).toNatClampNeg) Mz13 _ h) (fun rz17 Mz16 h => ?_)
        refine z_if_ne 125 123 dX11_passOne_120 rfl rfl (fun hcz18 => ?_) (fun hcz18 => ?_)
        · replace h := h.1 hcz18
          refine z_aload_n 2 126 dX11_passOne_125 rfl rfl ?_
          refine z_dup rfl 127 dX11_passOne_126 rfl ?_
          refine gmi_7 (m_i Mz16 7) 130 dX11_passOne_127 of_X11_153 rfl rfl ?_
          refine z_iconst 1 131 dX11_passOne_130 rfl rfl ?_
          refine z_iadd 132 dX11_passOne_131 rfl ?_
          refine pmi_7 135 dX11_passOne_132 op_X11_153 rfl ?_
          refine z_aload_n 2 136 dX11_passOne_135 rfl rfl ?_
          refine z_dup rfl 137 dX11_passOne_136 rfl ?_
          refine gmi_12 (m_i Mz16 12) 140 dX11_passOne_137 of_X11_167 rfl rfl ?_
          refine z_iconst 1 141 dX11_passOne_140 rfl rfl ?_
          refine z_iadd 142 dX11_passOne_141 rfl ?_
          refine pmi_12 145 dX11_passOne_142 op_X11_167 rfl ?_
          refine z_iconst 1 146 dX11_passOne_145 rfl rfl ?_
          exact z_zret dX11_passOne_146 rfl rfl ⟨Nat.le_refl _, Nat.le_refl _⟩ ⟨1, (m_iS (m_iS Mz16 7 ((m_i Mz16 7) + 1)) 12 ((m_i Mz16 12) + 1)), rfl, rfl, h⟩
        · replace h := h.2 hcz18
          refine z_iconst 0 124 dX11_passOne_123 rfl rfl ?_
          exact z_zret dX11_passOne_124 rfl rfl ⟨Nat.le_refl _, Nat.le_refl _⟩ ⟨0, Mz16, rfl, rfl, h⟩
def b_X11_turnOver_12 (R9 : Int32 → mS → Prop) (Q : mS → Prop) (K45 : mS → Prop) (l1 : Int32) (M : mS) : Prop :=
  ((1300 ≤ l1 → K45 M) ∧ (¬ 1300 ≤ l1 → vp_in l1 1300 ∧ ((¬ ((m_a M 2) l1.toNatClampNeg) = (m_i M 9) → ∀ vz4 : Int32, vz4 = l1 + 1 → R9 vz4 M) ∧ (((m_a M 2) l1.toNatClampNeg) = (m_i M 9) → ∀ vz5 : Int32, vz5 = l1 + 1 → R9 vz5 (m_aU M 2 l1 (-1))))))
def w_X11_turnOver_12 (Q : mS → Prop) (K45 : mS → Prop) : Nat → Int32 → mS → Prop
 | 0 => fun _ _ => False
 | n + 1 => fun l1 M => b_X11_turnOver_12 (w_X11_turnOver_12 Q K45 n) Q K45 l1 M
set_option maxRecDepth 100000 in
set_option maxHeartbeats 4000000 in
theorem tb_X11_turnOver_12 (tg : Bool) (C : cS) (o : Nat → Int64) (X : List va_E) (R9 : Int32 → mS → Prop) (Q : mS → Prop) (K45 : mS → Prop) (hR9 : ∀ (l1 : Int32) (M : mS), R9 l1 M → z_go q_X11_turnOver tg 12 [(1, .int l1), (0, .ref 233)] [] (wz C M o X) 0 0 (zm_v C o X Q)) (hK45 : ∀ (M : mS), K45 M → z_go q_X11_turnOver tg 45 [(0, .ref 233)] [] (wz C M o X) 0 0 (zm_v C o X Q)) (l1 : Int32) (M : mS) (h : b_X11_turnOver_12 R9 Q K45 l1 M) : z_go q_X11_turnOver tg 12 [(1, .int l1), (0, .ref 233)] [] (wz C M o X) 0 0 (zm_v C o X Q) := by
  unfold b_X11_turnOver_12 at h
  refine z_iload_n 0 13 dX11_turnOver_12 rfl rfl ?_
  refine z_sipush 1300 16 dX11_turnOver_13 rfl rfl ?_
  refine z_icmp_ge 45 19 dX11_turnOver_16 rfl rfl (fun hcz1 => ?_) (fun hcz1 => ?_)
  · replace h := h.1 hcz1
    refine z_pick [(0, .ref 233)] [1] rfl ?_
    exact hK45  M h
  · replace h := h.2 hcz1
    refine z_aload_n 1 20 dX11_turnOver_19 rfl rfl ?_
    refine gr_33_5 23 dX11_turnOver_20 of_X11_17 rfl ?_
    refine z_iload_n 0 24 dX11_turnOver_23 rfl rfl ?_
    obtain ⟨hbz2, h⟩ := h
    refine gma_2 ((m_a M 2) l1.toNatClampNeg) 25 dX11_turnOver_24 hbz2 rfl rfl ?_
    refine z_aload_n 1 26 dX11_turnOver_25 rfl rfl ?_
    refine gmi_9 (m_i M 9) 29 dX11_turnOver_26 of_X11_134 rfl rfl ?_
    refine z_icmp_ne 39 32 dX11_turnOver_29 rfl rfl (fun hcz3 => ?_) (fun hcz3 => ?_)
    · replace h := h.1 hcz3
      obtain ⟨vz4, hvz4⟩ : ∃ v : Int32, v = l1 + 1 := ⟨_, rfl⟩
      replace h := h vz4 hvz4
      refine z_iinc vz4 [(1, .int vz4), (0, .ref 233)] 0 42 dX11_turnOver_39 rfl hvz4.symm (Nat.le_of_ble_eq_true rfl) rfl rfl ?_
      refine z_goto 12 dX11_turnOver_42 rfl ?_
      refine z_pick [(1, .int vz4), (0, .ref 233)] [0, 1] rfl ?_
      exact hR9 vz4 M h
    · replace h := h.2 hcz3
      refine z_aload_n 1 33 dX11_turnOver_32 rfl rfl ?_
      refine gr_33_5 36 dX11_turnOver_33 of_X11_17 rfl ?_
      refine z_iload_n 0 37 dX11_turnOver_36 rfl rfl ?_
      refine z_iconst (-1) 38 dX11_turnOver_37 rfl rfl ?_
      refine pma_2 39 dX11_turnOver_38 hbz2 rfl ?_
      obtain ⟨vz5, hvz5⟩ : ∃ v : Int32, v = l1 + 1 := ⟨_, rfl⟩
      replace h := h vz5 hvz5
      refine z_iinc vz5 [(1, .int vz5), (0, .ref 233)] 0 42 dX11_turnOver_39 rfl hvz5.symm (Nat.le_of_ble_eq_true rfl) rfl rfl ?_
      refine z_goto 12 dX11_turnOver_42 rfl ?_
      refine z_pick [(1, .int vz5), (0, .ref 233)] [0, 1] rfl ?_
      exact hR9 vz5 (m_aU M 2 l1 (-1)) h
theorem tw_X11_turnOver_12 (tg : Bool) (C : cS) (o : Nat → Int64) (X : List va_E) (Q : mS → Prop) (K45 : mS → Prop) (hK45 : ∀ (M : mS), K45 M → z_go q_X11_turnOver tg 45 [(0, .ref 233)] [] (wz C M o X) 0 0 (zm_v C o X Q)) : ∀ (n : Nat) (l1 : Int32) (M : mS), w_X11_turnOver_12 Q K45 n l1 M → z_go q_X11_turnOver tg 12 [(1, .int l1), (0, .ref 233)] [] (wz C M o X) 0 0 (zm_v C o X Q) := by
  intro n
  induction n with
  | zero => intro l1 M h; exact h.elim
  | succ n ih => intro l1 M h; exact tb_X11_turnOver_12 tg C o X _ Q K45 ih hK45 l1 M h
def b_X11_turnOver_90 (R9 : Int32 → Int32 → mS → Prop) (Q : mS → Prop) (K137 : Int32 → mS → Prop) (l1 : Int32) (l2 : Int32) (M : mS) : Prop :=
  (((8 + (m_i M 3)) ≤ l2 → K137 l1 M) ∧ (¬ (8 + (m_i M 3)) ≤ l2 → vp_in l2 58 ∧ p_X11_isOld ((m_a M 6) l2.toNatClampNeg) ((m_a M 7) l2.toNatClampNeg) M (fun rz11 Mz10 => ((rz11 = 0 → ∀ vz13 : Int32, vz13 = l2 + 1 → R9 l1 vz13 Mz10) ∧ (¬ rz11 = 0 → p_X11_move ((m_a Mz10 7) l2.toNatClampNeg) Mz10 (fun rz15 Mz14 => ∀ vz16 : Int32, vz16 = l2 + 1 → R9 l1 vz16 Mz14))))))
def w_X11_turnOver_90 (Q : mS → Prop) (K137 : Int32 → mS → Prop) : Nat → Int32 → Int32 → mS → Prop
 | 0 => fun _ _ _ => False
 | n + 1 => fun l1 l2 M => b_X11_turnOver_90 (w_X11_turnOver_90 Q K137 n) Q K137 l1 l2 M
set_option maxRecDepth 100000 in
set_option maxHeartbeats 4000000 in
theorem tb_X11_turnOver_90 (tg : Bool) (C : cS) (o : Nat → Int64) (X : List va_E) (R9 : Int32 → Int32 → mS → Prop) (Q : mS → Prop) (K137 : Int32 → mS → Prop) (hR9 : ∀ (l1 : Int32) (l2 : Int32) (M : mS), R9 l1 l2 M → z_go q_X11_turnOver tg 90 [(1, .int l1), (2, .int l2), (0, .ref 233)] [] (wz C M o X) 0 0 (zm_v C o X Q)) (hK137 : ∀ (l1 : Int32) (M : mS), K137 l1 M → z_go q_X11_turnOver tg 137 [(1, .int l1), (0, .ref 233)] [] (wz C M o X) 0 0 (zm_v C o X Q)) (l1 : Int32) (l2 : Int32) (M : mS) (h : b_X11_turnOver_90 R9 Q K137 l1 l2 M) : z_go q_X11_turnOver tg 90 [(1, .int l1), (2, .int l2), (0, .ref 233)] [] (wz C M o X) 0 0 (zm_v C o X Q) := by
  unfold b_X11_turnOver_90 at h
  refine z_iload_n 1 91 dX11_turnOver_90 rfl rfl ?_
  refine z_bipush 8 93 dX11_turnOver_91 rfl rfl ?_
  refine z_aload_n 2 94 dX11_turnOver_93 rfl rfl ?_
  refine gmi_3 (m_i M 3) 97 dX11_turnOver_94 of_X11_173 rfl rfl ?_
  refine z_iadd 98 dX11_turnOver_97 rfl ?_
  refine z_icmp_ge 137 101 dX11_turnOver_98 rfl rfl (fun hcz8 => ?_) (fun hcz8 => ?_)
  · replace h := h.1 hcz8
    refine z_pick [(1, .int l1), (0, .ref 233)] [0, 2] rfl ?_
    exact hK137 l1 M h
  · replace h := h.2 hcz8
    refine z_aload_n 2 102 dX11_turnOver_101 rfl rfl ?_
    refine z_aload_n 2 103 dX11_turnOver_102 rfl rfl ?_
    refine gr_33_9 106 dX11_turnOver_103 of_X11_30 rfl ?_
    refine z_iload_n 1 107 dX11_turnOver_106 rfl rfl ?_
    obtain ⟨hbz9, h⟩ := h
    refine gma_6 ((m_a M 6) l2.toNatClampNeg) 108 dX11_turnOver_107 hbz9 rfl rfl ?_
    refine z_aload_n 2 109 dX11_turnOver_108 rfl rfl ?_
    refine gr_33_10 112 dX11_turnOver_109 of_X11_33 rfl ?_
    refine z_iload_n 1 113 dX11_turnOver_112 rfl rfl ?_
    refine gma_7 ((m_a M 7) l2.toNatClampNeg) 114 dX11_turnOver_113 hbz9 rfl rfl ?_
    refine z_miV [.int ((m_a M 6) l2.toNatClampNeg), .int ((m_a M 7) l2.toNatClampNeg)] 117 dX11_turnOver_114 ok_X11_turnOver_159 rfl rfl (Nat.le_of_ble_eq_true rfl) rc_33 ⟨rfl, rfl⟩ ⟨Nat.le_refl _, Nat.le_refl _⟩ rfl (t_X11_isOld tg C o X ((m_a M 6) l2.toNatClampNeg) ((m_a M 7) l2.toNatClampNeg) M _ h) (fun rz11 Mz10 h => ?_)
    refine z_if_eq 131 120 dX11_turnOver_117 rfl rfl (fun hcz12 => ?_) (fun hcz12 => ?_)
    · replace h := h.1 hcz12
      obtain ⟨vz13, hvz13⟩ : ∃ v : Int32, v = l2 + 1 := ⟨_, rfl⟩
      replace h := h vz13 hvz13
      refine z_iinc vz13 [(2, .int vz13), (1, .int l1), (0, .ref 233)] 1 134 dX11_turnOver_131 rfl hvz13.symm (Nat.le_of_ble_eq_true rfl) rfl rfl ?_
      refine z_goto 90 dX11_turnOver_134 rfl ?_
      refine z_pick [(1, .int l1), (2, .int vz13), (0, .ref 233)] [1, 0, 2] rfl ?_
      exact hR9 l1 vz13 Mz10 h
    · replace h := h.2 hcz12
      refine z_aload_n 2 121 dX11_turnOver_120 rfl rfl ?_
      refine z_aload_n 2 122 dX11_turnOver_121 rfl rfl ?_
      refine gr_33_10 125 dX11_turnOver_122 of_X11_33 rfl ?_
      refine z_iload_n 1 126 dX11_turnOver_125 rfl rfl ?_
      refine gma_7 ((m_a Mz10 7) l2.toNatClampNeg) 127 dX11_turnOver_126 hbz9 rfl rfl ?_
      refine z_miV [.int ((m_a Mz10 7) l2.toNatClampNeg)] 130 dX11_turnOver_127 ok_X11_turnOver_163 rfl rfl (Nat.le_of_ble_eq_true rfl) rc_33 ⟨rfl, rfl⟩ ⟨Nat.le_refl _, Nat.le_refl _⟩ rfl (t_X11_move tg C o X ((m_a Mz10 7) l2.toNatClampNeg) Mz10 _ h) (fun rz15 Mz14 h => ?_)
      refine z_istore_n [(3, .int rz15), (1, .int l1), (2, .int l2), (0, .ref 233)] 131 dX11_turnOver_130 (Nat.le_of_ble_eq_true rfl) rfl rfl ?_
      obtain ⟨vz16, hvz16⟩ : ∃ v : Int32, v = l2 + 1 := ⟨_, rfl⟩
      replace h := h vz16 hvz16
      refine z_iinc vz16 [(2, .int vz16), (3, .int rz15), (1, .int l1), (0, .ref 233)] 2 134 dX11_turnOver_131 rfl hvz16.symm (Nat.le_of_ble_eq_true rfl) rfl rfl ?_
      refine z_goto 90 dX11_turnOver_134 rfl ?_
      refine z_pick [(1, .int l1), (2, .int vz16), (0, .ref 233)] [2, 0, 3] rfl ?_
      exact hR9 l1 vz16 Mz14 h
theorem tw_X11_turnOver_90 (tg : Bool) (C : cS) (o : Nat → Int64) (X : List va_E) (Q : mS → Prop) (K137 : Int32 → mS → Prop) (hK137 : ∀ (l1 : Int32) (M : mS), K137 l1 M → z_go q_X11_turnOver tg 137 [(1, .int l1), (0, .ref 233)] [] (wz C M o X) 0 0 (zm_v C o X Q)) : ∀ (n : Nat) (l1 : Int32) (l2 : Int32) (M : mS), w_X11_turnOver_90 Q K137 n l1 l2 M → z_go q_X11_turnOver tg 90 [(1, .int l1), (2, .int l2), (0, .ref 233)] [] (wz C M o X) 0 0 (zm_v C o X Q) := by
  intro n
  induction n with
  | zero => intro l1 l2 M h; exact h.elim
  | succ n ih => intro l1 l2 M h; exact tb_X11_turnOver_90 tg C o X _ Q K137 ih hK137 l1 l2 M h
def p_X11_turnOver (M : mS) (Q : mS → Prop) : Prop :=
  ∃ nz20 : Nat, w_X11_turnOver_12 Q (fun Mz6 => ∀ vz7 : Int32, vz7 = m_i Mz6 11 → ∃ nz19 : Nat, w_X11_turnOver_90 Q (fun lz17 Mz18 => Q (m_iS Mz18 18 ((m_i Mz18 11) - lz17))) nz19 vz7 0 (m_iS (m_iS (m_iS (m_iS (m_iS (m_iS Mz6 6 0) 7 0) 5 0) 4 0) 8 (m_i Mz6 0)) 10 ((m_i Mz6 10) + 1))) nz20 0 (m_iS M 9 (1 - (m_i M 9)))
set_option maxRecDepth 100000 in
set_option maxHeartbeats 4000000 in
theorem t_X11_turnOver (tg : Bool) (C : cS) (o : Nat → Int64) (X : List va_E) (M : mS) (Q : mS → Prop) (h : p_X11_turnOver M Q) : z_M q_X11_turnOver tg [.ref 233] (wz C M o X) (zm_v C o X Q) := by
  unfold p_X11_turnOver at h
  refine z_enter (by decide) (Nat.le_of_ble_eq_true rfl) ?_
  refine z_aload_n 0 1 dX11_turnOver_0 rfl rfl ?_
  refine z_iconst 1 2 dX11_turnOver_1 rfl rfl ?_
  refine z_aload_n 0 3 dX11_turnOver_2 rfl rfl ?_
  refine gmi_9 (m_i M 9) 6 dX11_turnOver_3 of_X11_134 rfl rfl ?_
  refine z_isub 7 dX11_turnOver_6 rfl ?_
  refine pmi_9 10 dX11_turnOver_7 op_X11_134 rfl ?_
  refine z_iconst 0 11 dX11_turnOver_10 rfl rfl ?_
  refine z_istore_n [(1, .int 0), (0, .ref 233)] 12 dX11_turnOver_11 (Nat.le_of_ble_eq_true rfl) rfl rfl ?_
  obtain ⟨nz20, h⟩ := h
  refine z_pick [(1, .int 0), (0, .ref 233)] [0, 1] rfl ?_
  refine tw_X11_turnOver_12 tg C o X Q _ (fun Mz6 h => ?_) nz20 0 (m_iS M 9 (1 - (m_i M 9))) h
  · refine z_aload_n 0 46 dX11_turnOver_45 rfl rfl ?_
    refine z_iconst 0 47 dX11_turnOver_46 rfl rfl ?_
    refine pmi_6 50 dX11_turnOver_47 op_X11_137 rfl ?_
    refine z_aload_n 0 51 dX11_turnOver_50 rfl rfl ?_
    refine z_iconst 0 52 dX11_turnOver_51 rfl rfl ?_
    refine pmi_7 55 dX11_turnOver_52 op_X11_153 rfl ?_
    refine z_aload_n 0 56 dX11_turnOver_55 rfl rfl ?_
    refine z_iconst 0 57 dX11_turnOver_56 rfl rfl ?_
    refine pmi_5 60 dX11_turnOver_57 op_X11_156 rfl ?_
    refine z_aload_n 0 61 dX11_turnOver_60 rfl rfl ?_
    refine z_iconst 0 62 dX11_turnOver_61 rfl rfl ?_
    refine pmi_4 65 dX11_turnOver_62 op_X11_147 rfl ?_
    refine z_aload_n 0 66 dX11_turnOver_65 rfl rfl ?_
    refine z_aload_n 0 67 dX11_turnOver_66 rfl rfl ?_
    refine gmi_0 (m_i Mz6 0) 70 dX11_turnOver_67 of_X11_119 rfl rfl ?_
    refine pmi_8 73 dX11_turnOver_70 op_X11_125 rfl ?_
    refine z_aload_n 0 74 dX11_turnOver_73 rfl rfl ?_
    refine z_dup rfl 75 dX11_turnOver_74 rfl ?_
    refine gmi_10 (m_i Mz6 10) 78 dX11_turnOver_75 of_X11_170 rfl rfl ?_
    refine z_iconst 1 79 dX11_turnOver_78 rfl rfl ?_
    refine z_iadd 80 dX11_turnOver_79 rfl ?_
    refine pmi_10 83 dX11_turnOver_80 op_X11_170 rfl ?_
    refine z_aload_n 0 84 dX11_turnOver_83 rfl rfl ?_
    refine gmi_11 (m_i Mz6 11) 87 dX11_turnOver_84 of_X11_150 rfl rfl ?_
    refine z_topi (fun vz7 hvz7 => ?_)
    replace h := h vz7 hvz7
    refine z_istore_n [(1, .int vz7), (0, .ref 233)] 88 dX11_turnOver_87 (Nat.le_of_ble_eq_true rfl) rfl rfl ?_
    refine z_iconst 0 89 dX11_turnOver_88 rfl rfl ?_
    refine z_istore_n [(2, .int 0), (1, .int vz7), (0, .ref 233)] 90 dX11_turnOver_89 (Nat.le_of_ble_eq_true rfl) rfl rfl ?_
    obtain ⟨nz19, h⟩ := h
    refine z_pick [(1, .int vz7), (2, .int 0), (0, .ref 233)] [1, 0, 2] rfl ?_
    refine tw_X11_turnOver_90 tg C o X Q _ (fun lz17 Mz18 h => ?_) nz19 vz7 0 (m_iS (m_iS (m_iS (m_iS (m_iS (m_iS Mz6 6 0) 7 0) 5 0) 4 0) 8 (m_i Mz6 0)) 10 ((m_i Mz6 10) + 1)) h
    · refine z_aload_n 1 138 dX11_turnOver_137 rfl rfl ?_
      refine z_aload_n 1 139 dX11_turnOver_138 rfl rfl ?_
      refine gmi_11 (m_i Mz18 11) 142 dX11_turnOver_139 of_X11_150 rfl rfl ?_
      refine z_iload_n 0 143 dX11_turnOver_142 rfl rfl ?_
      refine z_isub 144 dX11_turnOver_143 rfl ?_
      refine pmi_18 147 dX11_turnOver_144 op_X11_176 rfl ?_
      exact z_vret dX11_turnOver_147 rfl ⟨Nat.le_refl _, Nat.le_refl _⟩ ⟨(m_iS Mz18 18 ((m_i Mz18 11) - lz17)), rfl, rfl, h⟩
def b_X11_make_11 (R9 : Int32 → Int32 → Int32 → Int32 → Int32 → Int32 → mS → Prop) (Q : Int32 → mS → Prop) (K63 : Int32 → Int32 → Int32 → Int32 → Int32 → Int32 → mS → Prop) (l1 : Int32) (l2 : Int32) (l3 : Int32) (l4 : Int32) (l5 : Int32) (l6 : Int32) (M : mS) : Prop :=
  ((l6 = 0 → K63 l1 l2 l3 l4 l5 l6 M) ∧ (¬ l6 = 0 → ((((m_i M 1) * l4) ≤ l5 → K63 l1 l2 l3 l4 l5 l6 M) ∧ (¬ ((m_i M 1) * l4) ≤ l5 → (((m_i M 6) ≤ (m_i M 7) → K63 l1 l2 l3 l4 l5 l6 M) ∧ (¬ (m_i M 6) ≤ (m_i M 7) → p_X11_passOne M (fun rz6 Mz5 => ((rz6 = 0 → ∀ vz8 : Int32, vz8 = l5 + 0 → R9 l1 l2 l3 l4 vz8 rz6 Mz5) ∧ (¬ rz6 = 0 → ∀ vz9 : Int32, vz9 = l5 + 1 → R9 l1 l2 l3 l4 vz9 rz6 Mz5)))))))))
def w_X11_make_11 (Q : Int32 → mS → Prop) (K63 : Int32 → Int32 → Int32 → Int32 → Int32 → Int32 → mS → Prop) : Nat → Int32 → Int32 → Int32 → Int32 → Int32 → Int32 → mS → Prop
 | 0 => fun _ _ _ _ _ _ _ => False
 | n + 1 => fun l1 l2 l3 l4 l5 l6 M => b_X11_make_11 (w_X11_make_11 Q K63 n) Q K63 l1 l2 l3 l4 l5 l6 M
set_option maxRecDepth 100000 in
set_option maxHeartbeats 4000000 in
theorem tb_X11_make_11 (tg : Bool) (C : cS) (o : Nat → Int64) (X : List va_E) (R9 : Int32 → Int32 → Int32 → Int32 → Int32 → Int32 → mS → Prop) (Q : Int32 → mS → Prop) (K63 : Int32 → Int32 → Int32 → Int32 → Int32 → Int32 → mS → Prop) (hR9 : ∀ (l1 : Int32) (l2 : Int32) (l3 : Int32) (l4 : Int32) (l5 : Int32) (l6 : Int32) (M : mS), R9 l1 l2 l3 l4 l5 l6 M → z_go q_X11_make tg 11 [(1, .int l1), (2, .int l2), (3, .int l3), (4, .int l4), (5, .int l5), (6, .int l6), (0, .ref 233)] [] (wz C M o X) 0 0 (zm_i C o X Q)) (hK63 : ∀ (l1 : Int32) (l2 : Int32) (l3 : Int32) (l4 : Int32) (l5 : Int32) (l6 : Int32) (M : mS), K63 l1 l2 l3 l4 l5 l6 M → z_go q_X11_make tg 63 [(1, .int l1), (2, .int l2), (3, .int l3), (4, .int l4), (5, .int l5), (6, .int l6), (0, .ref 233)] [] (wz C M o X) 0 0 (zm_i C o X Q)) (l1 : Int32) (l2 : Int32) (l3 : Int32) (l4 : Int32) (l5 : Int32) (l6 : Int32) (M : mS) (h : b_X11_make_11 R9 Q K63 l1 l2 l3 l4 l5 l6 M) : z_go q_X11_make tg 11 [(1, .int l1), (2, .int l2), (3, .int l3), (4, .int l4), (5, .int l5), (6, .int l6), (0, .ref 233)] [] (wz C M o X) 0 0 (zm_i C o X Q) := by
  unfold b_X11_make_11 at h
  refine z_iload 5 13 dX11_make_11 rfl rfl ?_
  refine z_if_eq 63 16 dX11_make_13 rfl rfl (fun hcz2 => ?_) (fun hcz2 => ?_)
  · replace h := h.1 hcz2
    refine z_pick [(1, .int l1), (2, .int l2), (3, .int l3), (4, .int l4), (5, .int l5), (6, .int l6), (0, .ref 233)] [0, 1, 2, 3, 4, 5, 6] rfl ?_
    exact hK63 l1 l2 l3 l4 l5 l6 M h
  · replace h := h.2 hcz2
    refine z_iload 4 18 dX11_make_16 rfl rfl ?_
    refine z_aload_n 6 19 dX11_make_18 rfl rfl ?_
    refine gmi_1 (m_i M 1) 22 dX11_make_19 of_X11_122 rfl rfl ?_
    refine z_iload 3 24 dX11_make_22 rfl rfl ?_
    refine z_imul 25 dX11_make_24 rfl ?_
    refine z_icmp_ge 63 28 dX11_make_25 rfl rfl (fun hcz3 => ?_) (fun hcz3 => ?_)
    · replace h := h.1 hcz3
      refine z_pick [(1, .int l1), (2, .int l2), (3, .int l3), (4, .int l4), (5, .int l5), (6, .int l6), (0, .ref 233)] [0, 1, 2, 3, 4, 5, 6] rfl ?_
      exact hK63 l1 l2 l3 l4 l5 l6 M h
    · replace h := h.2 hcz3
      refine z_aload_n 6 29 dX11_make_28 rfl rfl ?_
      refine gmi_7 (m_i M 7) 32 dX11_make_29 of_X11_153 rfl rfl ?_
      refine z_aload_n 6 33 dX11_make_32 rfl rfl ?_
      refine gmi_6 (m_i M 6) 36 dX11_make_33 of_X11_137 rfl rfl ?_
      refine z_icmp_ge 63 39 dX11_make_36 rfl rfl (fun hcz4 => ?_) (fun hcz4 => ?_)
      · replace h := h.1 hcz4
        refine z_pick [(1, .int l1), (2, .int l2), (3, .int l3), (4, .int l4), (5, .int l5), (6, .int l6), (0, .ref 233)] [0, 1, 2, 3, 4, 5, 6] rfl ?_
        exact hK63 l1 l2 l3 l4 l5 l6 M h
      · replace h := h.2 hcz4
        refine z_aload_n 6 40 dX11_make_39 rfl rfl ?_
        refine z_miV [] 43 dX11_make_40 ok_X11_make_179 rfl rfl (Nat.le_of_ble_eq_true rfl) rc_33 ⟨rfl, rfl⟩ ⟨Nat.le_refl _, Nat.le_refl _⟩ rfl (t_X11_passOne tg C o X  M _ h) (fun rz6 Mz5 h => ?_)
        refine z_istore [(6, .int rz6), (1, .int l1), (2, .int l2), (3, .int l3), (4, .int l4), (5, .int l5), (0, .ref 233)] 45 dX11_make_43 (Nat.le_of_ble_eq_true rfl) rfl rfl ?_
        refine z_iload 5 47 dX11_make_45 rfl rfl ?_
        refine z_iload 0 49 dX11_make_47 rfl rfl ?_
        refine z_if_eq 56 52 dX11_make_49 rfl rfl (fun hcz7 => ?_) (fun hcz7 => ?_)
        · replace h := h.1 hcz7
          refine z_iconst 0 57 dX11_make_56 rfl rfl ?_
          refine z_iadd 58 dX11_make_57 rfl ?_
          refine z_topi (fun vz8 hvz8 => ?_)
          replace h := h vz8 hvz8
          refine z_istore [(5, .int vz8), (6, .int rz6), (1, .int l1), (2, .int l2), (3, .int l3), (4, .int l4), (0, .ref 233)] 60 dX11_make_58 (Nat.le_of_ble_eq_true rfl) rfl rfl ?_
          refine z_goto 11 dX11_make_60 rfl ?_
          refine z_pick [(1, .int l1), (2, .int l2), (3, .int l3), (4, .int l4), (5, .int vz8), (6, .int rz6), (0, .ref 233)] [2, 3, 4, 5, 0, 1, 6] rfl ?_
          exact hR9 l1 l2 l3 l4 vz8 rz6 Mz5 h
        · replace h := h.2 hcz7
          refine z_iconst 1 53 dX11_make_52 rfl rfl ?_
          refine z_goto 57 dX11_make_53 rfl ?_
          refine z_iadd 58 dX11_make_57 rfl ?_
          refine z_topi (fun vz9 hvz9 => ?_)
          replace h := h vz9 hvz9
          refine z_istore [(5, .int vz9), (6, .int rz6), (1, .int l1), (2, .int l2), (3, .int l3), (4, .int l4), (0, .ref 233)] 60 dX11_make_58 (Nat.le_of_ble_eq_true rfl) rfl rfl ?_
          refine z_goto 11 dX11_make_60 rfl ?_
          refine z_pick [(1, .int l1), (2, .int l2), (3, .int l3), (4, .int l4), (5, .int vz9), (6, .int rz6), (0, .ref 233)] [2, 3, 4, 5, 0, 1, 6] rfl ?_
          exact hR9 l1 l2 l3 l4 vz9 rz6 Mz5 h
theorem tw_X11_make_11 (tg : Bool) (C : cS) (o : Nat → Int64) (X : List va_E) (Q : Int32 → mS → Prop) (K63 : Int32 → Int32 → Int32 → Int32 → Int32 → Int32 → mS → Prop) (hK63 : ∀ (l1 : Int32) (l2 : Int32) (l3 : Int32) (l4 : Int32) (l5 : Int32) (l6 : Int32) (M : mS), K63 l1 l2 l3 l4 l5 l6 M → z_go q_X11_make tg 63 [(1, .int l1), (2, .int l2), (3, .int l3), (4, .int l4), (5, .int l5), (6, .int l6), (0, .ref 233)] [] (wz C M o X) 0 0 (zm_i C o X Q)) : ∀ (n : Nat) (l1 : Int32) (l2 : Int32) (l3 : Int32) (l4 : Int32) (l5 : Int32) (l6 : Int32) (M : mS), w_X11_make_11 Q K63 n l1 l2 l3 l4 l5 l6 M → z_go q_X11_make tg 11 [(1, .int l1), (2, .int l2), (3, .int l3), (4, .int l4), (5, .int l5), (6, .int l6), (0, .ref 233)] [] (wz C M o X) 0 0 (zm_i C o X Q) := by
  intro n
  induction n with
  | zero => intro l1 l2 l3 l4 l5 l6 M h; exact h.elim
  | succ n ih => intro l1 l2 l3 l4 l5 l6 M h; exact tb_X11_make_11 tg C o X _ Q K63 ih hK63 l1 l2 l3 l4 l5 l6 M h
def b_X11_make_165 (R9 : Int32 → Int32 → Int32 → Int32 → Int32 → mS → Prop) (Q : Int32 → mS → Prop) (K182 : Int32 → Int32 → Int32 → Int32 → Int32 → mS → Prop) (l1 : Int32) (l2 : Int32) (l3 : Int32) (l4 : Int32) (l7 : Int32) (M : mS) : Prop :=
  vp_in l7 1300 ∧ ((((m_a M 2) l7.toNatClampNeg) = (-1) → K182 l1 l2 l3 l4 l7 M) ∧ (¬ ((m_a M 2) l7.toNatClampNeg) = (-1) → ∀ vz22 : Int32, vz22 = l7 + 1 → R9 l1 l2 l3 l4 vz22 M))
def w_X11_make_165 (Q : Int32 → mS → Prop) (K182 : Int32 → Int32 → Int32 → Int32 → Int32 → mS → Prop) : Nat → Int32 → Int32 → Int32 → Int32 → Int32 → mS → Prop
 | 0 => fun _ _ _ _ _ _ => False
 | n + 1 => fun l1 l2 l3 l4 l7 M => b_X11_make_165 (w_X11_make_165 Q K182 n) Q K182 l1 l2 l3 l4 l7 M
set_option maxRecDepth 100000 in
set_option maxHeartbeats 4000000 in
theorem tb_X11_make_165 (tg : Bool) (C : cS) (o : Nat → Int64) (X : List va_E) (R9 : Int32 → Int32 → Int32 → Int32 → Int32 → mS → Prop) (Q : Int32 → mS → Prop) (K182 : Int32 → Int32 → Int32 → Int32 → Int32 → mS → Prop) (hR9 : ∀ (l1 : Int32) (l2 : Int32) (l3 : Int32) (l4 : Int32) (l7 : Int32) (M : mS), R9 l1 l2 l3 l4 l7 M → z_go q_X11_make tg 165 [(1, .int l1), (2, .int l2), (3, .int l3), (4, .int l4), (7, .int l7), (0, .ref 233)] [] (wz C M o X) 0 0 (zm_i C o X Q)) (hK182 : ∀ (l1 : Int32) (l2 : Int32) (l3 : Int32) (l4 : Int32) (l7 : Int32) (M : mS), K182 l1 l2 l3 l4 l7 M → z_go q_X11_make tg 182 [(1, .int l1), (2, .int l2), (3, .int l3), (4, .int l4), (7, .int l7), (0, .ref 233)] [] (wz C M o X) 0 0 (zm_i C o X Q)) (l1 : Int32) (l2 : Int32) (l3 : Int32) (l4 : Int32) (l7 : Int32) (M : mS) (h : b_X11_make_165 R9 Q K182 l1 l2 l3 l4 l7 M) : z_go q_X11_make tg 165 [(1, .int l1), (2, .int l2), (3, .int l3), (4, .int l4), (7, .int l7), (0, .ref 233)] [] (wz C M o X) 0 0 (zm_i C o X Q) := by
  unfold b_X11_make_165 at h
  refine z_aload_n 5 166 dX11_make_165 rfl rfl ?_
  refine gr_33_5 169 dX11_make_166 of_X11_17 rfl ?_
  refine z_iload 4 171 dX11_make_169 rfl rfl ?_
  obtain ⟨hbz20, h⟩ := h
  refine gma_2 ((m_a M 2) l7.toNatClampNeg) 172 dX11_make_171 hbz20 rfl rfl ?_
  refine z_iconst (-1) 173 dX11_make_172 rfl rfl ?_
  refine z_icmp_eq 182 176 dX11_make_173 rfl rfl (fun hcz21 => ?_) (fun hcz21 => ?_)
  · replace h := h.1 hcz21
    refine z_pick [(1, .int l1), (2, .int l2), (3, .int l3), (4, .int l4), (7, .int l7), (0, .ref 233)] [0, 1, 2, 3, 4, 5] rfl ?_
    exact hK182 l1 l2 l3 l4 l7 M h
  · replace h := h.2 hcz21
    obtain ⟨vz22, hvz22⟩ : ∃ v : Int32, v = l7 + 1 := ⟨_, rfl⟩
    replace h := h vz22 hvz22
    refine z_iinc vz22 [(7, .int vz22), (1, .int l1), (2, .int l2), (3, .int l3), (4, .int l4), (0, .ref 233)] 4 179 dX11_make_176 rfl hvz22.symm (Nat.le_of_ble_eq_true rfl) rfl rfl ?_
    refine z_goto 165 dX11_make_179 rfl ?_
    refine z_pick [(1, .int l1), (2, .int l2), (3, .int l3), (4, .int l4), (7, .int vz22), (0, .ref 233)] [1, 2, 3, 4, 0, 5] rfl ?_
    exact hR9 l1 l2 l3 l4 vz22 M h
theorem tw_X11_make_165 (tg : Bool) (C : cS) (o : Nat → Int64) (X : List va_E) (Q : Int32 → mS → Prop) (K182 : Int32 → Int32 → Int32 → Int32 → Int32 → mS → Prop) (hK182 : ∀ (l1 : Int32) (l2 : Int32) (l3 : Int32) (l4 : Int32) (l7 : Int32) (M : mS), K182 l1 l2 l3 l4 l7 M → z_go q_X11_make tg 182 [(1, .int l1), (2, .int l2), (3, .int l3), (4, .int l4), (7, .int l7), (0, .ref 233)] [] (wz C M o X) 0 0 (zm_i C o X Q)) : ∀ (n : Nat) (l1 : Int32) (l2 : Int32) (l3 : Int32) (l4 : Int32) (l7 : Int32) (M : mS), w_X11_make_165 Q K182 n l1 l2 l3 l4 l7 M → z_go q_X11_make tg 165 [(1, .int l1), (2, .int l2), (3, .int l3), (4, .int l4), (7, .int l7), (0, .ref 233)] [] (wz C M o X) 0 0 (zm_i C o X Q) := by
  intro n
  induction n with
  | zero => intro l1 l2 l3 l4 l7 M h; exact h.elim
  | succ n ih => intro l1 l2 l3 l4 l7 M h; exact tb_X11_make_165 tg C o X _ Q K182 ih hK182 l1 l2 l3 l4 l7 M h
def b_X11_make_234 (R9 : Int32 → Int32 → Int32 → Int32 → Int32 → mS → Prop) (Q : Int32 → mS → Prop) (K282 : Int32 → Int32 → mS → Prop) (l1 : Int32) (l2 : Int32) (l3 : Int32) (l7 : Int32) (l8 : Int32) (M : mS) : Prop :=
  ((l2 ≤ l8 → K282 l1 l7 M) ∧ (¬ l2 ≤ l8 → ((l3 = 0 → vp_in ((40 * l7) + l8) 52000 ∧ ∀ vz33 : Int32, vz33 = l8 + 1 → R9 l1 l2 l3 l7 vz33 (m_aU (m_aU M 4 ((40 * l7) + l8) 0) 5 ((40 * l7) + l8) 0)) ∧ (¬ l3 = 0 → vp_in ((40 * l7) + l8) 52000 ∧ ∀ vz35 : Int32, vz35 = l8 + 1 → R9 l1 l2 l3 l7 vz35 (m_aU (m_aU M 4 ((40 * l7) + l8) 1) 5 ((40 * l7) + l8) 0)))))
def w_X11_make_234 (Q : Int32 → mS → Prop) (K282 : Int32 → Int32 → mS → Prop) : Nat → Int32 → Int32 → Int32 → Int32 → Int32 → mS → Prop
 | 0 => fun _ _ _ _ _ _ => False
 | n + 1 => fun l1 l2 l3 l7 l8 M => b_X11_make_234 (w_X11_make_234 Q K282 n) Q K282 l1 l2 l3 l7 l8 M
set_option maxRecDepth 100000 in
set_option maxHeartbeats 4000000 in
theorem tb_X11_make_234 (tg : Bool) (C : cS) (o : Nat → Int64) (X : List va_E) (R9 : Int32 → Int32 → Int32 → Int32 → Int32 → mS → Prop) (Q : Int32 → mS → Prop) (K282 : Int32 → Int32 → mS → Prop) (hR9 : ∀ (l1 : Int32) (l2 : Int32) (l3 : Int32) (l7 : Int32) (l8 : Int32) (M : mS), R9 l1 l2 l3 l7 l8 M → z_go q_X11_make tg 234 [(1, .int l1), (2, .int l2), (3, .int l3), (7, .int l7), (8, .int l8), (0, .ref 233)] [] (wz C M o X) 0 0 (zm_i C o X Q)) (hK282 : ∀ (l1 : Int32) (l7 : Int32) (M : mS), K282 l1 l7 M → z_go q_X11_make tg 282 [(1, .int l1), (7, .int l7), (0, .ref 233)] [] (wz C M o X) 0 0 (zm_i C o X Q)) (l1 : Int32) (l2 : Int32) (l3 : Int32) (l7 : Int32) (l8 : Int32) (M : mS) (h : b_X11_make_234 R9 Q K282 l1 l2 l3 l7 l8 M) : z_go q_X11_make tg 234 [(1, .int l1), (2, .int l2), (3, .int l3), (7, .int l7), (8, .int l8), (0, .ref 233)] [] (wz C M o X) 0 0 (zm_i C o X Q) := by
  unfold b_X11_make_234 at h
  refine z_iload 4 236 dX11_make_234 rfl rfl ?_
  refine z_iload_n 1 237 dX11_make_236 rfl rfl ?_
  refine z_icmp_ge 282 240 dX11_make_237 rfl rfl (fun hcz30 => ?_) (fun hcz30 => ?_)
  · replace h := h.1 hcz30
    refine z_pick [(1, .int l1), (7, .int l7), (0, .ref 233)] [0, 3, 5] rfl ?_
    exact hK282 l1 l7 M h
  · replace h := h.2 hcz30
    refine z_aload_n 5 241 dX11_make_240 rfl rfl ?_
    refine gr_33_7 244 dX11_make_241 of_X11_24 rfl ?_
    refine z_bipush 40 246 dX11_make_244 rfl rfl ?_
    refine z_iload 3 248 dX11_make_246 rfl rfl ?_
    refine z_imul 249 dX11_make_248 rfl ?_
    refine z_iload 4 251 dX11_make_249 rfl rfl ?_
    refine z_iadd 252 dX11_make_251 rfl ?_
    refine z_iload_n 2 253 dX11_make_252 rfl rfl ?_
    refine z_if_eq 260 256 dX11_make_253 rfl rfl (fun hcz31 => ?_) (fun hcz31 => ?_)
    · replace h := h.1 hcz31
      refine z_iconst 0 261 dX11_make_260 rfl rfl ?_
      obtain ⟨hbz32, h⟩ := h
      refine pma_4 262 dX11_make_261 hbz32 rfl ?_
      refine z_aload_n 5 263 dX11_make_262 rfl rfl ?_
      refine gr_33_8 266 dX11_make_263 of_X11_27 rfl ?_
      refine z_bipush 40 268 dX11_make_266 rfl rfl ?_
      refine z_iload 3 270 dX11_make_268 rfl rfl ?_
      refine z_imul 271 dX11_make_270 rfl ?_
      refine z_iload 4 273 dX11_make_271 rfl rfl ?_
      refine z_iadd 274 dX11_make_273 rfl ?_
      refine z_iconst 0 275 dX11_make_274 rfl rfl ?_
      refine pma_5 276 dX11_make_275 hbz32 rfl ?_
      obtain ⟨vz33, hvz33⟩ : ∃ v : Int32, v = l8 + 1 := ⟨_, rfl⟩
      replace h := h vz33 hvz33
      refine z_iinc vz33 [(8, .int vz33), (1, .int l1), (2, .int l2), (3, .int l3), (7, .int l7), (0, .ref 233)] 4 279 dX11_make_276 rfl hvz33.symm (Nat.le_of_ble_eq_true rfl) rfl rfl ?_
      refine z_goto 234 dX11_make_279 rfl ?_
      refine z_pick [(1, .int l1), (2, .int l2), (3, .int l3), (7, .int l7), (8, .int vz33), (0, .ref 233)] [1, 2, 3, 4, 0, 5] rfl ?_
      exact hR9 l1 l2 l3 l7 vz33 (m_aU (m_aU M 4 ((40 * l7) + l8) 0) 5 ((40 * l7) + l8) 0) h
    · replace h := h.2 hcz31
      refine z_iconst 1 257 dX11_make_256 rfl rfl ?_
      refine z_goto 261 dX11_make_257 rfl ?_
      obtain ⟨hbz34, h⟩ := h
      refine pma_4 262 dX11_make_261 hbz34 rfl ?_
      refine z_aload_n 5 263 dX11_make_262 rfl rfl ?_
      refine gr_33_8 266 dX11_make_263 of_X11_27 rfl ?_
      refine z_bipush 40 268 dX11_make_266 rfl rfl ?_
      refine z_iload 3 270 dX11_make_268 rfl rfl ?_
      refine z_imul 271 dX11_make_270 rfl ?_
      refine z_iload 4 273 dX11_make_271 rfl rfl ?_
      refine z_iadd 274 dX11_make_273 rfl ?_
      refine z_iconst 0 275 dX11_make_274 rfl rfl ?_
      refine pma_5 276 dX11_make_275 hbz34 rfl ?_
      obtain ⟨vz35, hvz35⟩ : ∃ v : Int32, v = l8 + 1 := ⟨_, rfl⟩
      replace h := h vz35 hvz35
      refine z_iinc vz35 [(8, .int vz35), (1, .int l1), (2, .int l2), (3, .int l3), (7, .int l7), (0, .ref 233)] 4 279 dX11_make_276 rfl hvz35.symm (Nat.le_of_ble_eq_true rfl) rfl rfl ?_
      refine z_goto 234 dX11_make_279 rfl ?_
      refine z_pick [(1, .int l1), (2, .int l2), (3, .int l3), (7, .int l7), (8, .int vz35), (0, .ref 233)] [1, 2, 3, 4, 0, 5] rfl ?_
      exact hR9 l1 l2 l3 l7 vz35 (m_aU (m_aU M 4 ((40 * l7) + l8) 1) 5 ((40 * l7) + l8) 0) h
theorem tw_X11_make_234 (tg : Bool) (C : cS) (o : Nat → Int64) (X : List va_E) (Q : Int32 → mS → Prop) (K282 : Int32 → Int32 → mS → Prop) (hK282 : ∀ (l1 : Int32) (l7 : Int32) (M : mS), K282 l1 l7 M → z_go q_X11_make tg 282 [(1, .int l1), (7, .int l7), (0, .ref 233)] [] (wz C M o X) 0 0 (zm_i C o X Q)) : ∀ (n : Nat) (l1 : Int32) (l2 : Int32) (l3 : Int32) (l7 : Int32) (l8 : Int32) (M : mS), w_X11_make_234 Q K282 n l1 l2 l3 l7 l8 M → z_go q_X11_make tg 234 [(1, .int l1), (2, .int l2), (3, .int l3), (7, .int l7), (8, .int l8), (0, .ref 233)] [] (wz C M o X) 0 0 (zm_i C o X Q) := by
  intro n
  induction n with
  | zero => intro l1 l2 l3 l7 l8 M h; exact h.elim
  | succ n ih => intro l1 l2 l3 l7 l8 M h; exact tb_X11_make_234 tg C o X _ Q K282 ih hK282 l1 l2 l3 l7 l8 M h
def j_X11_make_82 (Q : Int32 → mS → Prop) (l1 : Int32) (l2 : Int32) (l3 : Int32) (l4 : Int32) (l6 : Int32) (s0 : Int32) (M : mS) : Prop :=
  ((¬ l6 = 0 → ((l4 ≤ ((m_i M 8) - (m_i M 6)) → ∃ nz41 : Nat, w_X11_make_165 Q (fun lz23 lz24 lz25 lz26 lz27 Mz28 => vp_in lz27 1300 ∧ ∃ nz40 : Nat, w_X11_make_234 Q (fun lz36 lz37 Mz38 => vp_in lz36 58 ∧ Q 0 (m_aU (m_aU (m_iS Mz38 13 ((m_i Mz38 13) + 1)) 6 lz36 2) 7 lz36 lz37)) nz40 lz23 lz24 lz25 lz27 0 (m_aU (m_aU (m_aU (m_aU (m_iS Mz28 8 ((m_i Mz28 8) - lz26)) 2 lz27 (m_i Mz28 9)) 3 lz27 ((m_i Mz28 8) - lz26)) 0 lz27 (vp_nar .boolean lz25)) 1 lz27 lz24)) nz41 l1 l2 l3 l4 0 (m_iS M 17 s0)) ∧ (¬ l4 ≤ ((m_i M 8) - (m_i M 6)) → (((m_i M 6) ≤ (m_i M 7) → p_X11_turnOver (m_iS M 17 s0) (fun Mz43 => ((l4 ≤ ((m_i Mz43 8) - (m_i Mz43 6)) → ∃ nz57 : Nat, w_X11_make_165 Q (fun lz45 lz46 lz47 lz48 lz49 Mz50 => vp_in lz49 1300 ∧ ∃ nz56 : Nat, w_X11_make_234 Q (fun lz52 lz53 Mz54 => vp_in lz52 58 ∧ Q 0 (m_aU (m_aU (m_iS Mz54 13 ((m_i Mz54 13) + 1)) 6 lz52 2) 7 lz52 lz53)) nz56 lz45 lz46 lz47 lz49 0 (m_aU (m_aU (m_aU (m_aU (m_iS Mz50 8 ((m_i Mz50 8) - lz48)) 2 lz49 (m_i Mz50 9)) 3 lz49 ((m_i Mz50 8) - lz48)) 0 lz49 (vp_nar .boolean lz47)) 1 lz49 lz46)) nz57 l1 l2 l3 l4 0 Mz43) ∧ (¬ l4 ≤ ((m_i Mz43 8) - (m_i Mz43 6)) → Q 10 (m_iS Mz43 16 ((m_i Mz43 16) + 1)))))) ∧ (¬ (m_i M 6) ≤ (m_i M 7) → Q 9 (m_iS (m_iS M 17 s0) 15 ((m_i M 15) + 1))))))) ∧ (l6 = 0 → Q 8 (m_iS M 17 s0)))
set_option maxRecDepth 100000 in
set_option maxHeartbeats 4000000 in
theorem tj_X11_make_82 (tg : Bool) (C : cS) (o : Nat → Int64) (X : List va_E) (Q : Int32 → mS → Prop) (l1 : Int32) (l2 : Int32) (l3 : Int32) (l4 : Int32) (l6 : Int32) (s0 : Int32) (M : mS) (h : j_X11_make_82 Q l1 l2 l3 l4 l6 s0 M) : z_go q_X11_make tg 82 [(1, .int l1), (2, .int l2), (3, .int l3), (4, .int l4), (6, .int l6), (0, .ref 233)] [.int s0, .ref 233] (wz C M o X) 0 0 (zm_i C o X Q) := by
  unfold j_X11_make_82 at h
  refine pmi_17 85 dX11_make_82 op_X11_183 rfl ?_
  refine z_iload 4 87 dX11_make_85 rfl rfl ?_
  refine z_if_ne 93 90 dX11_make_87 rfl rfl (fun hcz18 => ?_) (fun hcz18 => ?_)
  · replace h := h.1 hcz18
    refine z_aload_n 5 94 dX11_make_93 rfl rfl ?_
    refine gmi_8 (m_i M 8) 97 dX11_make_94 of_X11_125 rfl rfl ?_
    refine z_aload_n 5 98 dX11_make_97 rfl rfl ?_
    refine gmi_6 (m_i M 6) 101 dX11_make_98 of_X11_137 rfl rfl ?_
    refine z_isub 102 dX11_make_101 rfl ?_
    refine z_iload 3 104 dX11_make_102 rfl rfl ?_
    refine z_icmp_ge 162 107 dX11_make_104 rfl rfl (fun hcz19 => ?_) (fun hcz19 => ?_)
    · replace h := h.1 hcz19
      refine z_iconst 0 163 dX11_make_162 rfl rfl ?_
      refine z_istore [(7, .int 0), (1, .int l1), (2, .int l2), (3, .int l3), (4, .int l4), (6, .int l6), (0, .ref 233)] 165 dX11_make_163 (Nat.le_of_ble_eq_true rfl) rfl rfl ?_
      obtain ⟨nz41, h⟩ := h
      refine z_pick [(1, .int l1), (2, .int l2), (3, .int l3), (4, .int l4), (7, .int 0), (0, .ref 233)] [1, 2, 3, 4, 0, 6] rfl ?_
      refine tw_X11_make_165 tg C o X Q _ (fun lz23 lz24 lz25 lz26 lz27 Mz28 h => ?_) nz41 l1 l2 l3 l4 0 (m_iS M 17 s0) h
      · refine z_aload_n 5 183 dX11_make_182 rfl rfl ?_
        refine z_dup rfl 184 dX11_make_183 rfl ?_
        refine gmi_8 (m_i Mz28 8) 187 dX11_make_184 of_X11_125 rfl rfl ?_
        refine z_iload 3 189 dX11_make_187 rfl rfl ?_
        refine z_isub 190 dX11_make_189 rfl ?_
        refine pmi_8 193 dX11_make_190 op_X11_125 rfl ?_
        refine z_aload_n 5 194 dX11_make_193 rfl rfl ?_
        refine gr_33_5 197 dX11_make_194 of_X11_17 rfl ?_
        refine z_iload 4 199 dX11_make_197 rfl rfl ?_
        refine z_aload_n 5 200 dX11_make_199 rfl rfl ?_
        refine gmi_9 (m_i Mz28 9) 203 dX11_make_200 of_X11_134 rfl rfl ?_
        obtain ⟨hbz29, h⟩ := h
        refine pma_2 204 dX11_make_203 hbz29 rfl ?_
        refine z_aload_n 5 205 dX11_make_204 rfl rfl ?_
        refine gr_33_6 208 dX11_make_205 of_X11_20 rfl ?_
        refine z_iload 4 210 dX11_make_208 rfl rfl ?_
        refine z_aload_n 5 211 dX11_make_210 rfl rfl ?_
        refine gmi_8 ((m_i Mz28 8) - lz26) 214 dX11_make_211 of_X11_125 rfl rfl ?_
        refine pma_3 215 dX11_make_214 hbz29 rfl ?_
        refine z_aload_n 5 216 dX11_make_215 rfl rfl ?_
        refine gr_33_3 219 dX11_make_216 of_X11_9 rfl ?_
        refine z_iload 4 221 dX11_make_219 rfl rfl ?_
        refine z_iload_n 2 222 dX11_make_221 rfl rfl ?_
        refine pma_0 223 dX11_make_222 hbz29 rfl ?_
        refine z_aload_n 5 224 dX11_make_223 rfl rfl ?_
        refine gr_33_4 227 dX11_make_224 of_X11_13 rfl ?_
        refine z_iload 4 229 dX11_make_227 rfl rfl ?_
        refine z_iload_n 1 230 dX11_make_229 rfl rfl ?_
        refine pma_1 231 dX11_make_230 hbz29 rfl ?_
        refine z_iconst 0 232 dX11_make_231 rfl rfl ?_
        refine z_istore [(8, .int 0), (1, .int lz23), (2, .int lz24), (3, .int lz25), (4, .int lz26), (7, .int lz27), (0, .ref 233)] 234 dX11_make_232 (Nat.le_of_ble_eq_true rfl) rfl rfl ?_
        obtain ⟨nz40, h⟩ := h
        refine z_pick [(1, .int lz23), (2, .int lz24), (3, .int lz25), (7, .int lz27), (8, .int 0), (0, .ref 233)] [1, 2, 3, 5, 0, 6] rfl ?_
        refine tw_X11_make_234 tg C o X Q _ (fun lz36 lz37 Mz38 h => ?_) nz40 lz23 lz24 lz25 lz27 0 (m_aU (m_aU (m_aU (m_aU (m_iS Mz28 8 ((m_i Mz28 8) - lz26)) 2 lz27 (m_i Mz28 9)) 3 lz27 ((m_i Mz28 8) - lz26)) 0 lz27 (vp_nar .boolean lz25)) 1 lz27 lz24) h
        · refine z_aload_n 2 283 dX11_make_282 rfl rfl ?_
          refine z_dup rfl 284 dX11_make_283 rfl ?_
          refine gmi_13 (m_i Mz38 13) 287 dX11_make_284 of_X11_195 rfl rfl ?_
          refine z_iconst 1 288 dX11_make_287 rfl rfl ?_
          refine z_iadd 289 dX11_make_288 rfl ?_
          refine pmi_13 292 dX11_make_289 op_X11_195 rfl ?_
          refine z_aload_n 2 293 dX11_make_292 rfl rfl ?_
          refine gr_33_9 296 dX11_make_293 of_X11_30 rfl ?_
          refine z_iload_n 0 297 dX11_make_296 rfl rfl ?_
          refine z_iconst 2 298 dX11_make_297 rfl rfl ?_
          obtain ⟨hbz39, h⟩ := h
          refine pma_6 299 dX11_make_298 hbz39 rfl ?_
          refine z_aload_n 2 300 dX11_make_299 rfl rfl ?_
          refine gr_33_10 303 dX11_make_300 of_X11_33 rfl ?_
          refine z_iload_n 0 304 dX11_make_303 rfl rfl ?_
          refine z_iload 1 306 dX11_make_304 rfl rfl ?_
          refine pma_7 307 dX11_make_306 hbz39 rfl ?_
          refine z_iconst 0 308 dX11_make_307 rfl rfl ?_
          exact z_iret dX11_make_308 rfl ⟨Nat.le_refl _, Nat.le_refl _⟩ ⟨0, (m_aU (m_aU (m_iS Mz38 13 ((m_i Mz38 13) + 1)) 6 lz36 2) 7 lz36 lz37), rfl, rfl, h⟩
    · replace h := h.2 hcz19
      refine z_aload_n 5 108 dX11_make_107 rfl rfl ?_
      refine gmi_7 (m_i M 7) 111 dX11_make_108 of_X11_153 rfl rfl ?_
      refine z_aload_n 5 112 dX11_make_111 rfl rfl ?_
      refine gmi_6 (m_i M 6) 115 dX11_make_112 of_X11_137 rfl rfl ?_
      refine z_icmp_ge 131 118 dX11_make_115 rfl rfl (fun hcz42 => ?_) (fun hcz42 => ?_)
      · replace h := h.1 hcz42
        refine z_aload_n 5 132 dX11_make_131 rfl rfl ?_
        refine z_mvV [] 135 dX11_make_132 ok_X11_make_189 rfl rfl (Nat.le_of_ble_eq_true rfl) rc_33 ⟨rfl, rfl⟩ ⟨Nat.le_refl _, Nat.le_refl _⟩ rfl (t_X11_turnOver tg C o X  (m_iS M 17 s0) _ h) (fun Mz43 h => ?_)
        refine z_aload_n 5 136 dX11_make_135 rfl rfl ?_
        refine gmi_8 (m_i Mz43 8) 139 dX11_make_136 of_X11_125 rfl rfl ?_
        refine z_aload_n 5 140 dX11_make_139 rfl rfl ?_
        refine gmi_6 (m_i Mz43 6) 143 dX11_make_140 of_X11_137 rfl rfl ?_
        refine z_isub 144 dX11_make_143 rfl ?_
        refine z_iload 3 146 dX11_make_144 rfl rfl ?_
        refine z_icmp_ge 162 149 dX11_make_146 rfl rfl (fun hcz44 => ?_) (fun hcz44 => ?_)
        · replace h := h.1 hcz44
          refine z_iconst 0 163 dX11_make_162 rfl rfl ?_
          refine z_istore [(7, .int 0), (1, .int l1), (2, .int l2), (3, .int l3), (4, .int l4), (6, .int l6), (0, .ref 233)] 165 dX11_make_163 (Nat.le_of_ble_eq_true rfl) rfl rfl ?_
          obtain ⟨nz57, h⟩ := h
          refine z_pick [(1, .int l1), (2, .int l2), (3, .int l3), (4, .int l4), (7, .int 0), (0, .ref 233)] [1, 2, 3, 4, 0, 6] rfl ?_
          refine tw_X11_make_165 tg C o X Q _ (fun lz45 lz46 lz47 lz48 lz49 Mz50 h => ?_) nz57 l1 l2 l3 l4 0 Mz43 h
          · refine z_aload_n 5 183 dX11_make_182 rfl rfl ?_
            refine z_dup rfl 184 dX11_make_183 rfl ?_
            refine gmi_8 (m_i Mz50 8) 187 dX11_make_184 of_X11_125 rfl rfl ?_
            refine z_iload 3 189 dX11_make_187 rfl rfl ?_
            refine z_isub 190 dX11_make_189 rfl ?_
            refine pmi_8 193 dX11_make_190 op_X11_125 rfl ?_
            refine z_aload_n 5 194 dX11_make_193 rfl rfl ?_
            refine gr_33_5 197 dX11_make_194 of_X11_17 rfl ?_
            refine z_iload 4 199 dX11_make_197 rfl rfl ?_
            refine z_aload_n 5 200 dX11_make_199 rfl rfl ?_
            refine gmi_9 (m_i Mz50 9) 203 dX11_make_200 of_X11_134 rfl rfl ?_
            obtain ⟨hbz51, h⟩ := h
            refine pma_2 204 dX11_make_203 hbz51 rfl ?_
            refine z_aload_n 5 205 dX11_make_204 rfl rfl ?_
            refine gr_33_6 208 dX11_make_205 of_X11_20 rfl ?_
            refine z_iload 4 210 dX11_make_208 rfl rfl ?_
            refine z_aload_n 5 211 dX11_make_210 rfl rfl ?_
            refine gmi_8 ((m_i Mz50 8) - lz48) 214 dX11_make_211 of_X11_125 rfl rfl ?_
            refine pma_3 215 dX11_make_214 hbz51 rfl ?_
            refine z_aload_n 5 216 dX11_make_215 rfl rfl ?_
            refine gr_33_3 219 dX11_make_216 of_X11_9 rfl ?_
            refine z_iload 4 221 dX11_make_219 rfl rfl ?_
            refine z_iload_n 2 222 dX11_make_221 rfl rfl ?_
            refine pma_0 223 dX11_make_222 hbz51 rfl ?_
            refine z_aload_n 5 224 dX11_make_223 rfl rfl ?_
            refine gr_33_4 227 dX11_make_224 of_X11_13 rfl ?_
            refine z_iload 4 229 dX11_make_227 rfl rfl ?_
            refine z_iload_n 1 230 dX11_make_229 rfl rfl ?_
            refine pma_1 231 dX11_make_230 hbz51 rfl ?_
            refine z_iconst 0 232 dX11_make_231 rfl rfl ?_
            refine z_istore [(8, .int 0), (1, .int lz45), (2, .int lz46), (3, .int lz47), (4, .int lz48), (7, .int lz49), (0, .ref 233)] 234 dX11_make_232 (Nat.le_of_ble_eq_true rfl) rfl rfl ?_
            obtain ⟨nz56, h⟩ := h
            refine z_pick [(1, .int lz45), (2, .int lz46), (3, .int lz47), (7, .int lz49), (8, .int 0), (0, .ref 233)] [1, 2, 3, 5, 0, 6] rfl ?_
            refine tw_X11_make_234 tg C o X Q _ (fun lz52 lz53 Mz54 h => ?_) nz56 lz45 lz46 lz47 lz49 0 (m_aU (m_aU (m_aU (m_aU (m_iS Mz50 8 ((m_i Mz50 8) - lz48)) 2 lz49 (m_i Mz50 9)) 3 lz49 ((m_i Mz50 8) - lz48)) 0 lz49 (vp_nar .boolean lz47)) 1 lz49 lz46) h
            · refine z_aload_n 2 283 dX11_make_282 rfl rfl ?_
              refine z_dup rfl 284 dX11_make_283 rfl ?_
              refine gmi_13 (m_i Mz54 13) 287 dX11_make_284 of_X11_195 rfl rfl ?_
              refine z_iconst 1 288 dX11_make_287 rfl rfl ?_
              refine z_iadd 289 dX11_make_288 rfl ?_
              refine pmi_13 292 dX11_make_289 op_X11_195 rfl ?_
              refine z_aload_n 2 293 dX11_make_292 rfl rfl ?_
              refine gr_33_9 296 dX11_make_293 of_X11_30 rfl ?_
              refine z_iload_n 0 297 dX11_make_296 rfl rfl ?_
              refine z_iconst 2 298 dX11_make_297 rfl rfl ?_
              obtain ⟨hbz55, h⟩ := h
              refine pma_6 299 dX11_make_298 hbz55 rfl ?_
              refine z_aload_n 2 300 dX11_make_299 rfl rfl ?_
              refine gr_33_10 303 dX11_make_300 of_X11_33 rfl ?_
              refine z_iload_n 0 304 dX11_make_303 rfl rfl ?_
              refine z_iload 1 306 dX11_make_304 rfl rfl ?_
              refine pma_7 307 dX11_make_306 hbz55 rfl ?_
              refine z_iconst 0 308 dX11_make_307 rfl rfl ?_
              exact z_iret dX11_make_308 rfl ⟨Nat.le_refl _, Nat.le_refl _⟩ ⟨0, (m_aU (m_aU (m_iS Mz54 13 ((m_i Mz54 13) + 1)) 6 lz52 2) 7 lz52 lz53), rfl, rfl, h⟩
        · replace h := h.2 hcz44
          refine z_aload_n 5 150 dX11_make_149 rfl rfl ?_
          refine z_dup rfl 151 dX11_make_150 rfl ?_
          refine gmi_16 (m_i Mz43 16) 154 dX11_make_151 of_X11_192 rfl rfl ?_
          refine z_iconst 1 155 dX11_make_154 rfl rfl ?_
          refine z_iadd 156 dX11_make_155 rfl ?_
          refine pmi_16 159 dX11_make_156 op_X11_192 rfl ?_
          refine z_bipush 10 161 dX11_make_159 rfl rfl ?_
          exact z_iret dX11_make_161 rfl ⟨Nat.le_refl _, Nat.le_refl _⟩ ⟨10, (m_iS Mz43 16 ((m_i Mz43 16) + 1)), rfl, rfl, h⟩
      · replace h := h.2 hcz42
        refine z_aload_n 5 119 dX11_make_118 rfl rfl ?_
        refine z_dup rfl 120 dX11_make_119 rfl ?_
        refine gmi_15 (m_i M 15) 123 dX11_make_120 of_X11_186 rfl rfl ?_
        refine z_iconst 1 124 dX11_make_123 rfl rfl ?_
        refine z_iadd 125 dX11_make_124 rfl ?_
        refine pmi_15 128 dX11_make_125 op_X11_186 rfl ?_
        refine z_bipush 9 130 dX11_make_128 rfl rfl ?_
        exact z_iret dX11_make_130 rfl ⟨Nat.le_refl _, Nat.le_refl _⟩ ⟨9, (m_iS (m_iS M 17 s0) 15 ((m_i M 15) + 1)), rfl, rfl, h⟩
  · replace h := h.2 hcz18
    refine z_bipush 8 92 dX11_make_90 rfl rfl ?_
    exact z_iret dX11_make_92 rfl ⟨Nat.le_refl _, Nat.le_refl _⟩ ⟨8, (m_iS M 17 s0), rfl, rfl, h⟩
def p_X11_make (a1 : Int32) (a2 : Int32) (a3 : Int32) (M : mS) (Q : Int32 → mS → Prop) : Prop :=
  ∀ vz1 : Int32, vz1 = a2 + 2 → ∃ nz58 : Nat, w_X11_make_11 Q (fun lz10 lz11 lz12 lz13 lz14 lz15 Mz16 => ((lz14 ≤ (m_i Mz16 17) → j_X11_make_82 Q lz10 lz11 lz12 lz13 lz15 (m_i Mz16 17) Mz16) ∧ (¬ lz14 ≤ (m_i Mz16 17) → j_X11_make_82 Q lz10 lz11 lz12 lz13 lz15 lz14 Mz16))) nz58 a1 a2 a3 vz1 0 1 M
set_option maxRecDepth 100000 in
set_option maxHeartbeats 4000000 in
theorem t_X11_make (tg : Bool) (C : cS) (o : Nat → Int64) (X : List va_E) (a1 : Int32) (a2 : Int32) (a3 : Int32) (M : mS) (Q : Int32 → mS → Prop) (h : p_X11_make a1 a2 a3 M Q) : z_M q_X11_make tg [.ref 233, .int a1, .int a2, .int a3] (wz C M o X) (zm_i C o X Q) := by
  unfold p_X11_make at h
  refine z_enter (by decide) (Nat.le_of_ble_eq_true rfl) ?_
  refine z_iload_n 2 1 dX11_make_0 rfl rfl ?_
  refine z_iconst 2 2 dX11_make_1 rfl rfl ?_
  refine z_iadd 3 dX11_make_2 rfl ?_
  refine z_topi (fun vz1 hvz1 => ?_)
  replace h := h vz1 hvz1
  refine z_istore [(4, .int vz1), (0, .ref 233), (1, .int a1), (2, .int a2), (3, .int a3)] 5 dX11_make_3 (Nat.le_of_ble_eq_true rfl) rfl rfl ?_
  refine z_iconst 0 6 dX11_make_5 rfl rfl ?_
  refine z_istore [(5, .int 0), (4, .int vz1), (0, .ref 233), (1, .int a1), (2, .int a2), (3, .int a3)] 8 dX11_make_6 (Nat.le_of_ble_eq_true rfl) rfl rfl ?_
  refine z_iconst 1 9 dX11_make_8 rfl rfl ?_
  refine z_istore [(6, .int 1), (5, .int 0), (4, .int vz1), (0, .ref 233), (1, .int a1), (2, .int a2), (3, .int a3)] 11 dX11_make_9 (Nat.le_of_ble_eq_true rfl) rfl rfl ?_
  obtain ⟨nz58, h⟩ := h
  refine z_pick [(1, .int a1), (2, .int a2), (3, .int a3), (4, .int vz1), (5, .int 0), (6, .int 1), (0, .ref 233)] [4, 5, 6, 2, 1, 0, 3] rfl ?_
  refine tw_X11_make_11 tg C o X Q _ (fun lz10 lz11 lz12 lz13 lz14 lz15 Mz16 h => ?_) nz58 a1 a2 a3 vz1 0 1 M h
  · refine z_aload_n 6 64 dX11_make_63 rfl rfl ?_
    refine z_iload 4 66 dX11_make_64 rfl rfl ?_
    refine z_aload_n 6 67 dX11_make_66 rfl rfl ?_
    refine gmi_17 (m_i Mz16 17) 70 dX11_make_67 of_X11_183 rfl rfl ?_
    refine z_icmp_le 78 73 dX11_make_70 rfl rfl (fun hcz17 => ?_) (fun hcz17 => ?_)
    · replace h := h.1 hcz17
      refine z_aload_n 6 79 dX11_make_78 rfl rfl ?_
      refine gmi_17 (m_i Mz16 17) 82 dX11_make_79 of_X11_183 rfl rfl ?_
      refine z_pick [(1, .int lz10), (2, .int lz11), (3, .int lz12), (4, .int lz13), (6, .int lz15), (0, .ref 233)] [0, 1, 2, 3, 5, 6] rfl ?_
      exact tj_X11_make_82 tg C o X Q lz10 lz11 lz12 lz13 lz15 (m_i Mz16 17) Mz16 h
    · replace h := h.2 hcz17
      refine z_iload 4 75 dX11_make_73 rfl rfl ?_
      refine z_goto 82 dX11_make_75 rfl ?_
      refine z_pick [(1, .int lz10), (2, .int lz11), (3, .int lz12), (4, .int lz13), (6, .int lz15), (0, .ref 233)] [0, 1, 2, 3, 5, 6] rfl ?_
      exact tj_X11_make_82 tg C o X Q lz10 lz11 lz12 lz13 lz15 lz14 Mz16 h
def b_X11_pass_20 (R9 : Int32 → Int32 → mS → Prop) (Q : Int32 → mS → Prop) (K49 : Int32 → mS → Prop) (l1 : Int32) (l2 : Int32) (M : mS) : Prop :=
  ((l1 ≤ l2 → K49 l2 M) ∧ (¬ l1 ≤ l2 → (((m_i M 6) ≤ (m_i M 7) → K49 l2 M) ∧ (¬ (m_i M 6) ≤ (m_i M 7) → p_X11_passOne M (fun rz6 Mz5 => ((rz6 = 0 → K49 l2 Mz5) ∧ (¬ rz6 = 0 → ∀ vz8 : Int32, vz8 = l2 + 1 → R9 l1 vz8 Mz5)))))))
def w_X11_pass_20 (Q : Int32 → mS → Prop) (K49 : Int32 → mS → Prop) : Nat → Int32 → Int32 → mS → Prop
 | 0 => fun _ _ _ => False
 | n + 1 => fun l1 l2 M => b_X11_pass_20 (w_X11_pass_20 Q K49 n) Q K49 l1 l2 M
set_option maxRecDepth 100000 in
set_option maxHeartbeats 4000000 in
theorem tb_X11_pass_20 (tg : Bool) (C : cS) (o : Nat → Int64) (X : List va_E) (R9 : Int32 → Int32 → mS → Prop) (Q : Int32 → mS → Prop) (K49 : Int32 → mS → Prop) (hR9 : ∀ (l1 : Int32) (l2 : Int32) (M : mS), R9 l1 l2 M → z_go q_X11_pass tg 20 [(1, .int l1), (2, .int l2), (0, .ref 233)] [] (wz C M o X) 0 0 (zm_i C o X Q)) (hK49 : ∀ (l2 : Int32) (M : mS), K49 l2 M → z_go q_X11_pass tg 49 [(2, .int l2)] [] (wz C M o X) 0 0 (zm_i C o X Q)) (l1 : Int32) (l2 : Int32) (M : mS) (h : b_X11_pass_20 R9 Q K49 l1 l2 M) : z_go q_X11_pass tg 20 [(1, .int l1), (2, .int l2), (0, .ref 233)] [] (wz C M o X) 0 0 (zm_i C o X Q) := by
  unfold b_X11_pass_20 at h
  refine z_iload_n 1 21 dX11_pass_20 rfl rfl ?_
  refine z_iload_n 0 22 dX11_pass_21 rfl rfl ?_
  refine z_icmp_ge 49 25 dX11_pass_22 rfl rfl (fun hcz3 => ?_) (fun hcz3 => ?_)
  · replace h := h.1 hcz3
    refine z_pick [(2, .int l2)] [1] rfl ?_
    exact hK49 l2 M h
  · replace h := h.2 hcz3
    refine z_aload_n 2 26 dX11_pass_25 rfl rfl ?_
    refine gmi_7 (m_i M 7) 29 dX11_pass_26 of_X11_153 rfl rfl ?_
    refine z_aload_n 2 30 dX11_pass_29 rfl rfl ?_
    refine gmi_6 (m_i M 6) 33 dX11_pass_30 of_X11_137 rfl rfl ?_
    refine z_icmp_ge 49 36 dX11_pass_33 rfl rfl (fun hcz4 => ?_) (fun hcz4 => ?_)
    · replace h := h.1 hcz4
      refine z_pick [(2, .int l2)] [1] rfl ?_
      exact hK49 l2 M h
    · replace h := h.2 hcz4
      refine z_aload_n 2 37 dX11_pass_36 rfl rfl ?_
      refine z_miV [] 40 dX11_pass_37 ok_X11_pass_179 rfl rfl (Nat.le_of_ble_eq_true rfl) rc_33 ⟨rfl, rfl⟩ ⟨Nat.le_refl _, Nat.le_refl _⟩ rfl (t_X11_passOne tg C o X  M _ h) (fun rz6 Mz5 h => ?_)
      refine z_if_eq 49 43 dX11_pass_40 rfl rfl (fun hcz7 => ?_) (fun hcz7 => ?_)
      · replace h := h.1 hcz7
        refine z_pick [(2, .int l2)] [1] rfl ?_
        exact hK49 l2 Mz5 h
      · replace h := h.2 hcz7
        obtain ⟨vz8, hvz8⟩ : ∃ v : Int32, v = l2 + 1 := ⟨_, rfl⟩
        replace h := h vz8 hvz8
        refine z_iinc vz8 [(2, .int vz8), (1, .int l1), (0, .ref 233)] 1 46 dX11_pass_43 rfl hvz8.symm (Nat.le_of_ble_eq_true rfl) rfl rfl ?_
        refine z_goto 20 dX11_pass_46 rfl ?_
        refine z_pick [(1, .int l1), (2, .int vz8), (0, .ref 233)] [1, 0, 2] rfl ?_
        exact hR9 l1 vz8 Mz5 h
theorem tw_X11_pass_20 (tg : Bool) (C : cS) (o : Nat → Int64) (X : List va_E) (Q : Int32 → mS → Prop) (K49 : Int32 → mS → Prop) (hK49 : ∀ (l2 : Int32) (M : mS), K49 l2 M → z_go q_X11_pass tg 49 [(2, .int l2)] [] (wz C M o X) 0 0 (zm_i C o X Q)) : ∀ (n : Nat) (l1 : Int32) (l2 : Int32) (M : mS), w_X11_pass_20 Q K49 n l1 l2 M → z_go q_X11_pass tg 20 [(1, .int l1), (2, .int l2), (0, .ref 233)] [] (wz C M o X) 0 0 (zm_i C o X Q) := by
  intro n
  induction n with
  | zero => intro l1 l2 M h; exact h.elim
  | succ n ih => intro l1 l2 M h; exact tb_X11_pass_20 tg C o X _ Q K49 ih hK49 l1 l2 M h
def p_X11_pass (a1 : Int32) (M : mS) (Q : Int32 → mS → Prop) : Prop :=
  ((a1 < 0 → Q (-1) (m_iS M 2 0)) ∧ (¬ a1 < 0 → ((a1 ≤ 1000 → ∃ nz11 : Nat, w_X11_pass_20 Q (fun lz9 Mz10 => Q lz9 Mz10) nz11 a1 0 (m_iS M 2 0)) ∧ (¬ a1 ≤ 1000 → Q (-1) (m_iS M 2 0)))))
set_option maxRecDepth 100000 in
set_option maxHeartbeats 4000000 in
theorem t_X11_pass (tg : Bool) (C : cS) (o : Nat → Int64) (X : List va_E) (a1 : Int32) (M : mS) (Q : Int32 → mS → Prop) (h : p_X11_pass a1 M Q) : z_M q_X11_pass tg [.ref 233, .int a1] (wz C M o X) (zm_i C o X Q) := by
  unfold p_X11_pass at h
  refine z_enter (by decide) (Nat.le_of_ble_eq_true rfl) ?_
  refine z_aload_n 0 1 dX11_pass_0 rfl rfl ?_
  refine z_iconst 0 2 dX11_pass_1 rfl rfl ?_
  refine pmi_2 5 dX11_pass_2 op_X11_131 rfl ?_
  refine z_iload_n 1 6 dX11_pass_5 rfl rfl ?_
  refine z_if_lt 16 9 dX11_pass_6 rfl rfl (fun hcz1 => ?_) (fun hcz1 => ?_)
  · replace h := h.1 hcz1
    refine z_iconst (-1) 17 dX11_pass_16 rfl rfl ?_
    exact z_iret dX11_pass_17 rfl ⟨Nat.le_refl _, Nat.le_refl _⟩ ⟨(-1), (m_iS M 2 0), rfl, rfl, h⟩
  · replace h := h.2 hcz1
    refine z_iload_n 1 10 dX11_pass_9 rfl rfl ?_
    refine z_sipush 1000 13 dX11_pass_10 rfl rfl ?_
    refine z_icmp_le 18 16 dX11_pass_13 rfl rfl (fun hcz2 => ?_) (fun hcz2 => ?_)
    · replace h := h.1 hcz2
      refine z_iconst 0 19 dX11_pass_18 rfl rfl ?_
      refine z_istore_n [(2, .int 0), (0, .ref 233), (1, .int a1)] 20 dX11_pass_19 (Nat.le_of_ble_eq_true rfl) rfl rfl ?_
      obtain ⟨nz11, h⟩ := h
      refine z_pick [(1, .int a1), (2, .int 0), (0, .ref 233)] [2, 0, 1] rfl ?_
      refine tw_X11_pass_20 tg C o X Q _ (fun lz9 Mz10 h => ?_) nz11 a1 0 (m_iS M 2 0) h
      · refine z_iload_n 0 50 dX11_pass_49 rfl rfl ?_
        exact z_iret dX11_pass_50 rfl ⟨Nat.le_refl _, Nat.le_refl _⟩ ⟨lz9, Mz10, rfl, rfl, h⟩
    · replace h := h.2 hcz2
      refine z_iconst (-1) 17 dX11_pass_16 rfl rfl ?_
      exact z_iret dX11_pass_17 rfl ⟨Nat.le_refl _, Nat.le_refl _⟩ ⟨(-1), (m_iS M 2 0), rfl, rfl, h⟩
def p_X11_turn (M : mS) (Q : Int32 → mS → Prop) : Prop :=
  (((m_i M 6) ≤ (m_i M 7) → p_X11_turnOver (m_iS M 2 0) (fun Mz2 => Q 1 Mz2)) ∧ (¬ (m_i M 6) ≤ (m_i M 7) → Q 0 (m_iS M 2 0)))
set_option maxRecDepth 100000 in
set_option maxHeartbeats 4000000 in
theorem t_X11_turn (tg : Bool) (C : cS) (o : Nat → Int64) (X : List va_E) (M : mS) (Q : Int32 → mS → Prop) (h : p_X11_turn M Q) : z_M q_X11_turn tg [.ref 233] (wz C M o X) (zm_i C o X Q) := by
  unfold p_X11_turn at h
  refine z_enter (by decide) (Nat.le_of_ble_eq_true rfl) ?_
  refine z_aload_n 0 1 dX11_turn_0 rfl rfl ?_
  refine z_iconst 0 2 dX11_turn_1 rfl rfl ?_
  refine pmi_2 5 dX11_turn_2 op_X11_131 rfl ?_
  refine z_aload_n 0 6 dX11_turn_5 rfl rfl ?_
  refine gmi_7 (m_i M 7) 9 dX11_turn_6 of_X11_153 rfl rfl ?_
  refine z_aload_n 0 10 dX11_turn_9 rfl rfl ?_
  refine gmi_6 (m_i M 6) 13 dX11_turn_10 of_X11_137 rfl rfl ?_
  refine z_icmp_ge 18 16 dX11_turn_13 rfl rfl (fun hcz1 => ?_) (fun hcz1 => ?_)
  · replace h := h.1 hcz1
    refine z_aload_n 0 19 dX11_turn_18 rfl rfl ?_
    refine z_mvV [] 22 dX11_turn_19 ok_X11_turn_189 rfl rfl (Nat.le_of_ble_eq_true rfl) rc_33 ⟨rfl, rfl⟩ ⟨Nat.le_refl _, Nat.le_refl _⟩ rfl (t_X11_turnOver tg C o X  (m_iS M 2 0) _ h) (fun Mz2 h => ?_)
    refine z_iconst 1 23 dX11_turn_22 rfl rfl ?_
    exact z_zret dX11_turn_23 rfl rfl ⟨Nat.le_refl _, Nat.le_refl _⟩ ⟨1, Mz2, rfl, rfl, h⟩
  · replace h := h.2 hcz1
    refine z_iconst 0 17 dX11_turn_16 rfl rfl ?_
    exact z_zret dX11_turn_17 rfl rfl ⟨Nat.le_refl _, Nat.le_refl _⟩ ⟨0, (m_iS M 2 0), rfl, rfl, h⟩
def p_X11_memory (a1 : Int32) (M : mS) (Q : Int32 → mS → Prop) : Prop :=
  ((a1 = 0 → Q (m_i M 6) (m_iS M 2 0)) ∧ (¬ a1 = 0 → ((a1 = 1 → Q (m_i M 7) (m_iS M 2 0)) ∧ (¬ a1 = 1 → ((a1 = 2 → Q (m_i M 8) (m_iS M 2 0)) ∧ (¬ a1 = 2 → ((a1 = 3 → Q (m_i M 9) (m_iS M 2 0)) ∧ (¬ a1 = 3 → ((a1 = 4 → Q (m_i M 10) (m_iS M 2 0)) ∧ (¬ a1 = 4 → ((a1 = 5 → Q (m_i M 11) (m_iS M 2 0)) ∧ (¬ a1 = 5 → ((a1 = 6 → Q (m_i M 12) (m_iS M 2 0)) ∧ (¬ a1 = 6 → ((a1 = 7 → Q (m_i M 13) (m_iS M 2 0)) ∧ (¬ a1 = 7 → ((a1 = 8 → Q (m_i M 14) (m_iS M 2 0)) ∧ (¬ a1 = 8 → ((a1 = 9 → Q (m_i M 15) (m_iS M 2 0)) ∧ (¬ a1 = 9 → ((a1 = 10 → Q (m_i M 16) (m_iS M 2 0)) ∧ (¬ a1 = 10 → ((a1 = 11 → Q (m_i M 17) (m_iS M 2 0)) ∧ (¬ a1 = 11 → ((a1 = 12 → Q (m_i M 18) (m_iS M 2 0)) ∧ (¬ a1 = 12 → ((a1 = 13 → Q (m_i M 0) (m_iS M 2 0)) ∧ (¬ a1 = 13 → ((a1 = 14 → Q (m_i M 1) (m_iS M 2 0)) ∧ (¬ a1 = 14 → Q (-1) (m_iS M 2 0)))))))))))))))))))))))))))))))
set_option maxRecDepth 100000 in
set_option maxHeartbeats 4000000 in
theorem t_X11_memory (tg : Bool) (C : cS) (o : Nat → Int64) (X : List va_E) (a1 : Int32) (M : mS) (Q : Int32 → mS → Prop) (h : p_X11_memory a1 M Q) : z_M q_X11_memory tg [.ref 233, .int a1] (wz C M o X) (zm_i C o X Q) := by
  unfold p_X11_memory at h
  refine z_enter (by decide) (Nat.le_of_ble_eq_true rfl) ?_
  refine z_aload_n 0 1 dX11_memory_0 rfl rfl ?_
  refine z_iconst 0 2 dX11_memory_1 rfl rfl ?_
  refine pmi_2 5 dX11_memory_2 op_X11_131 rfl ?_
  refine z_iload_n 1 6 dX11_memory_5 rfl rfl ?_
  by_cases hcz1 : a1 = 0
  · replace h := h.1 hcz1
    refine z_tabIn 80 dX11_memory_6 (by rw [hcz1]; decide) (by rw [hcz1]; decide) (by rw [hcz1]; rfl) rfl ?_
    refine z_aload_n 0 81 dX11_memory_80 rfl rfl ?_
    refine gmi_6 (m_i M 6) 84 dX11_memory_81 of_X11_137 rfl rfl ?_
    exact z_iret dX11_memory_84 rfl ⟨Nat.le_refl _, Nat.le_refl _⟩ ⟨m_i M 6, (m_iS M 2 0), rfl, rfl, h⟩
  · replace h := h.2 hcz1
    by_cases hcz2 : a1 = 1
    · replace h := h.1 hcz2
      refine z_tabIn 85 dX11_memory_6 (by rw [hcz2]; decide) (by rw [hcz2]; decide) (by rw [hcz2]; rfl) rfl ?_
      refine z_aload_n 0 86 dX11_memory_85 rfl rfl ?_
      refine gmi_7 (m_i M 7) 89 dX11_memory_86 of_X11_153 rfl rfl ?_
      exact z_iret dX11_memory_89 rfl ⟨Nat.le_refl _, Nat.le_refl _⟩ ⟨m_i M 7, (m_iS M 2 0), rfl, rfl, h⟩
    · replace h := h.2 hcz2
      by_cases hcz3 : a1 = 2
      · replace h := h.1 hcz3
        refine z_tabIn 90 dX11_memory_6 (by rw [hcz3]; decide) (by rw [hcz3]; decide) (by rw [hcz3]; rfl) rfl ?_
        refine z_aload_n 0 91 dX11_memory_90 rfl rfl ?_
        refine gmi_8 (m_i M 8) 94 dX11_memory_91 of_X11_125 rfl rfl ?_
        exact z_iret dX11_memory_94 rfl ⟨Nat.le_refl _, Nat.le_refl _⟩ ⟨m_i M 8, (m_iS M 2 0), rfl, rfl, h⟩
      · replace h := h.2 hcz3
        by_cases hcz4 : a1 = 3
        · replace h := h.1 hcz4
          refine z_tabIn 95 dX11_memory_6 (by rw [hcz4]; decide) (by rw [hcz4]; decide) (by rw [hcz4]; rfl) rfl ?_
          refine z_aload_n 0 96 dX11_memory_95 rfl rfl ?_
          refine gmi_9 (m_i M 9) 99 dX11_memory_96 of_X11_134 rfl rfl ?_
          exact z_iret dX11_memory_99 rfl ⟨Nat.le_refl _, Nat.le_refl _⟩ ⟨m_i M 9, (m_iS M 2 0), rfl, rfl, h⟩
        · replace h := h.2 hcz4
          by_cases hcz5 : a1 = 4
          · replace h := h.1 hcz5
            refine z_tabIn 100 dX11_memory_6 (by rw [hcz5]; decide) (by rw [hcz5]; decide) (by rw [hcz5]; rfl) rfl ?_
            refine z_aload_n 0 101 dX11_memory_100 rfl rfl ?_
            refine gmi_10 (m_i M 10) 104 dX11_memory_101 of_X11_170 rfl rfl ?_
            exact z_iret dX11_memory_104 rfl ⟨Nat.le_refl _, Nat.le_refl _⟩ ⟨m_i M 10, (m_iS M 2 0), rfl, rfl, h⟩
          · replace h := h.2 hcz5
            by_cases hcz6 : a1 = 5
            · replace h := h.1 hcz6
              refine z_tabIn 105 dX11_memory_6 (by rw [hcz6]; decide) (by rw [hcz6]; decide) (by rw [hcz6]; rfl) rfl ?_
              refine z_aload_n 0 106 dX11_memory_105 rfl rfl ?_
              refine gmi_11 (m_i M 11) 109 dX11_memory_106 of_X11_150 rfl rfl ?_
              exact z_iret dX11_memory_109 rfl ⟨Nat.le_refl _, Nat.le_refl _⟩ ⟨m_i M 11, (m_iS M 2 0), rfl, rfl, h⟩
            · replace h := h.2 hcz6
              by_cases hcz7 : a1 = 6
              · replace h := h.1 hcz7
                refine z_tabIn 110 dX11_memory_6 (by rw [hcz7]; decide) (by rw [hcz7]; decide) (by rw [hcz7]; rfl) rfl ?_
                refine z_aload_n 0 111 dX11_memory_110 rfl rfl ?_
                refine gmi_12 (m_i M 12) 114 dX11_memory_111 of_X11_167 rfl rfl ?_
                exact z_iret dX11_memory_114 rfl ⟨Nat.le_refl _, Nat.le_refl _⟩ ⟨m_i M 12, (m_iS M 2 0), rfl, rfl, h⟩
              · replace h := h.2 hcz7
                by_cases hcz8 : a1 = 7
                · replace h := h.1 hcz8
                  refine z_tabIn 115 dX11_memory_6 (by rw [hcz8]; decide) (by rw [hcz8]; decide) (by rw [hcz8]; rfl) rfl ?_
                  refine z_aload_n 0 116 dX11_memory_115 rfl rfl ?_
                  refine gmi_13 (m_i M 13) 119 dX11_memory_116 of_X11_195 rfl rfl ?_
                  exact z_iret dX11_memory_119 rfl ⟨Nat.le_refl _, Nat.le_refl _⟩ ⟨m_i M 13, (m_iS M 2 0), rfl, rfl, h⟩
                · replace h := h.2 hcz8
                  by_cases hcz9 : a1 = 8
                  · replace h := h.1 hcz9
                    refine z_tabIn 120 dX11_memory_6 (by rw [hcz9]; decide) (by rw [hcz9]; decide) (by rw [hcz9]; rfl) rfl ?_
                    refine z_aload_n 0 121 dX11_memory_120 rfl rfl ?_
                    refine gmi_14 (m_i M 14) 124 dX11_memory_121 of_X11_144 rfl rfl ?_
                    exact z_iret dX11_memory_124 rfl ⟨Nat.le_refl _, Nat.le_refl _⟩ ⟨m_i M 14, (m_iS M 2 0), rfl, rfl, h⟩
                  · replace h := h.2 hcz9
                    by_cases hcz10 : a1 = 9
                    · replace h := h.1 hcz10
                      refine z_tabIn 125 dX11_memory_6 (by rw [hcz10]; decide) (by rw [hcz10]; decide) (by rw [hcz10]; rfl) rfl ?_
                      refine z_aload_n 0 126 dX11_memory_125 rfl rfl ?_
                      refine gmi_15 (m_i M 15) 129 dX11_memory_126 of_X11_186 rfl rfl ?_
                      exact z_iret dX11_memory_129 rfl ⟨Nat.le_refl _, Nat.le_refl _⟩ ⟨m_i M 15, (m_iS M 2 0), rfl, rfl, h⟩
                    · replace h := h.2 hcz10
                      by_cases hcz11 : a1 = 10
                      · replace h := h.1 hcz11
                        refine z_tabIn 130 dX11_memory_6 (by rw [hcz11]; decide) (by rw [hcz11]; decide) (by rw [hcz11]; rfl) rfl ?_
                        refine z_aload_n 0 131 dX11_memory_130 rfl rfl ?_
                        refine gmi_16 (m_i M 16) 134 dX11_memory_131 of_X11_192 rfl rfl ?_
                        exact z_iret dX11_memory_134 rfl ⟨Nat.le_refl _, Nat.le_refl _⟩ ⟨m_i M 16, (m_iS M 2 0), rfl, rfl, h⟩
                      · replace h := h.2 hcz11
                        by_cases hcz12 : a1 = 11
                        · replace h := h.1 hcz12
                          refine z_tabIn 135 dX11_memory_6 (by rw [hcz12]; decide) (by rw [hcz12]; decide) (by rw [hcz12]; rfl) rfl ?_
                          refine z_aload_n 0 136 dX11_memory_135 rfl rfl ?_
                          refine gmi_17 (m_i M 17) 139 dX11_memory_136 of_X11_183 rfl rfl ?_
                          exact z_iret dX11_memory_139 rfl ⟨Nat.le_refl _, Nat.le_refl _⟩ ⟨m_i M 17, (m_iS M 2 0), rfl, rfl, h⟩
                        · replace h := h.2 hcz12
                          by_cases hcz13 : a1 = 12
                          · replace h := h.1 hcz13
                            refine z_tabIn 140 dX11_memory_6 (by rw [hcz13]; decide) (by rw [hcz13]; decide) (by rw [hcz13]; rfl) rfl ?_
                            refine z_aload_n 0 141 dX11_memory_140 rfl rfl ?_
                            refine gmi_18 (m_i M 18) 144 dX11_memory_141 of_X11_176 rfl rfl ?_
                            exact z_iret dX11_memory_144 rfl ⟨Nat.le_refl _, Nat.le_refl _⟩ ⟨m_i M 18, (m_iS M 2 0), rfl, rfl, h⟩
                          · replace h := h.2 hcz13
                            by_cases hcz14 : a1 = 13
                            · replace h := h.1 hcz14
                              refine z_tabIn 145 dX11_memory_6 (by rw [hcz14]; decide) (by rw [hcz14]; decide) (by rw [hcz14]; rfl) rfl ?_
                              refine z_aload_n 0 146 dX11_memory_145 rfl rfl ?_
                              refine gmi_0 (m_i M 0) 149 dX11_memory_146 of_X11_119 rfl rfl ?_
                              exact z_iret dX11_memory_149 rfl ⟨Nat.le_refl _, Nat.le_refl _⟩ ⟨m_i M 0, (m_iS M 2 0), rfl, rfl, h⟩
                            · replace h := h.2 hcz14
                              by_cases hcz15 : a1 = 14
                              · replace h := h.1 hcz15
                                refine z_tabIn 150 dX11_memory_6 (by rw [hcz15]; decide) (by rw [hcz15]; decide) (by rw [hcz15]; rfl) rfl ?_
                                refine z_aload_n 0 151 dX11_memory_150 rfl rfl ?_
                                refine gmi_1 (m_i M 1) 154 dX11_memory_151 of_X11_122 rfl rfl ?_
                                exact z_iret dX11_memory_154 rfl ⟨Nat.le_refl _, Nat.le_refl _⟩ ⟨m_i M 1, (m_iS M 2 0), rfl, rfl, h⟩
                              · replace h := h.2 hcz15
                                refine z_tab [0, 1, 2, 3, 4, 5, 6, 7, 8, 9, 10, 11, 12, 13, 14] 155 dX11_memory_6 (List.forall_mem_cons.mpr ⟨hcz1, (List.forall_mem_cons.mpr ⟨hcz2, (List.forall_mem_cons.mpr ⟨hcz3, (List.forall_mem_cons.mpr ⟨hcz4, (List.forall_mem_cons.mpr ⟨hcz5, (List.forall_mem_cons.mpr ⟨hcz6, (List.forall_mem_cons.mpr ⟨hcz7, (List.forall_mem_cons.mpr ⟨hcz8, (List.forall_mem_cons.mpr ⟨hcz9, (List.forall_mem_cons.mpr ⟨hcz10, (List.forall_mem_cons.mpr ⟨hcz11, (List.forall_mem_cons.mpr ⟨hcz12, (List.forall_mem_cons.mpr ⟨hcz13, (List.forall_mem_cons.mpr ⟨hcz14, (List.forall_mem_cons.mpr ⟨hcz15, (fun _ q9 => absurd q9 List.not_mem_nil)⟩)⟩)⟩)⟩)⟩)⟩)⟩)⟩)⟩)⟩)⟩)⟩)⟩)⟩)⟩) (by decide +kernel) (by decide) rfl ?_
                                refine z_iconst (-1) 156 dX11_memory_155 rfl rfl ?_
                                exact z_iret dX11_memory_156 rfl ⟨Nat.le_refl _, Nat.le_refl _⟩ ⟨(-1), (m_iS M 2 0), rfl, rfl, h⟩
def p_X11_isNumber (a1 : Int32) (M : mS) (Q : Int32 → mS → Prop) : Prop :=
  vp_in a1 58 ∧ ((¬ ((m_a M 6) a1.toNatClampNeg) = 0 → Q 0 M) ∧ (((m_a M 6) a1.toNatClampNeg) = 0 → Q 1 M))
set_option maxRecDepth 100000 in
set_option maxHeartbeats 4000000 in
theorem t_X11_isNumber (tg : Bool) (C : cS) (o : Nat → Int64) (X : List va_E) (a1 : Int32) (M : mS) (Q : Int32 → mS → Prop) (h : p_X11_isNumber a1 M Q) : z_M q_X11_isNumber tg [.ref 233, .int a1] (wz C M o X) (zm_i C o X Q) := by
  unfold p_X11_isNumber at h
  refine z_enter (by decide) (Nat.le_of_ble_eq_true rfl) ?_
  refine z_aload_n 0 1 dX11_isNumber_0 rfl rfl ?_
  refine gr_33_9 4 dX11_isNumber_1 of_X11_30 rfl ?_
  refine z_iload_n 1 5 dX11_isNumber_4 rfl rfl ?_
  obtain ⟨hbz1, h⟩ := h
  refine gma_6 ((m_a M 6) a1.toNatClampNeg) 6 dX11_isNumber_5 hbz1 rfl rfl ?_
  refine z_if_ne 13 9 dX11_isNumber_6 rfl rfl (fun hcz2 => ?_) (fun hcz2 => ?_)
  · replace h := h.1 hcz2
    refine z_iconst 0 14 dX11_isNumber_13 rfl rfl ?_
    exact z_zret dX11_isNumber_14 rfl rfl ⟨Nat.le_refl _, Nat.le_refl _⟩ ⟨0, M, rfl, rfl, h⟩
  · replace h := h.2 hcz2
    refine z_iconst 1 10 dX11_isNumber_9 rfl rfl ?_
    refine z_goto 14 dX11_isNumber_10 rfl ?_
    exact z_zret dX11_isNumber_14 rfl rfl ⟨Nat.le_refl _, Nat.le_refl _⟩ ⟨1, M, rfl, rfl, h⟩
def p_X11_isThing (a1 : Int32) (M : mS) (Q : Int32 → mS → Prop) : Prop :=
  vp_in a1 58 ∧ ((¬ ((m_a M 6) a1.toNatClampNeg) = 2 → Q 0 M) ∧ (((m_a M 6) a1.toNatClampNeg) = 2 → Q 1 M))
set_option maxRecDepth 100000 in
set_option maxHeartbeats 4000000 in
theorem t_X11_isThing (tg : Bool) (C : cS) (o : Nat → Int64) (X : List va_E) (a1 : Int32) (M : mS) (Q : Int32 → mS → Prop) (h : p_X11_isThing a1 M Q) : z_M q_X11_isThing tg [.ref 233, .int a1] (wz C M o X) (zm_i C o X Q) := by
  unfold p_X11_isThing at h
  refine z_enter (by decide) (Nat.le_of_ble_eq_true rfl) ?_
  refine z_aload_n 0 1 dX11_isThing_0 rfl rfl ?_
  refine gr_33_9 4 dX11_isThing_1 of_X11_30 rfl ?_
  refine z_iload_n 1 5 dX11_isThing_4 rfl rfl ?_
  obtain ⟨hbz1, h⟩ := h
  refine gma_6 ((m_a M 6) a1.toNatClampNeg) 6 dX11_isThing_5 hbz1 rfl rfl ?_
  refine z_iconst 2 7 dX11_isThing_6 rfl rfl ?_
  refine z_icmp_ne 14 10 dX11_isThing_7 rfl rfl (fun hcz2 => ?_) (fun hcz2 => ?_)
  · replace h := h.1 hcz2
    refine z_iconst 0 15 dX11_isThing_14 rfl rfl ?_
    exact z_zret dX11_isThing_15 rfl rfl ⟨Nat.le_refl _, Nat.le_refl _⟩ ⟨0, M, rfl, rfl, h⟩
  · replace h := h.2 hcz2
    refine z_iconst 1 11 dX11_isThing_10 rfl rfl ?_
    refine z_goto 15 dX11_isThing_11 rfl ?_
    exact z_zret dX11_isThing_15 rfl rfl ⟨Nat.le_refl _, Nat.le_refl _⟩ ⟨1, M, rfl, rfl, h⟩
def p_X11_give (a1 : Int32) (a2 : Int32) (a3 : Int32) (M : mS) (Q : mS → Prop) : Prop :=
  vp_in a1 58 ∧ Q (m_aU (m_aU M 6 a1 a2) 7 a1 a3)
set_option maxRecDepth 100000 in
set_option maxHeartbeats 4000000 in
theorem t_X11_give (tg : Bool) (C : cS) (o : Nat → Int64) (X : List va_E) (a1 : Int32) (a2 : Int32) (a3 : Int32) (M : mS) (Q : mS → Prop) (h : p_X11_give a1 a2 a3 M Q) : z_M q_X11_give tg [.ref 233, .int a1, .int a2, .int a3] (wz C M o X) (zm_v C o X Q) := by
  unfold p_X11_give at h
  refine z_enter (by decide) (Nat.le_of_ble_eq_true rfl) ?_
  refine z_aload_n 0 1 dX11_give_0 rfl rfl ?_
  refine gr_33_9 4 dX11_give_1 of_X11_30 rfl ?_
  refine z_iload_n 1 5 dX11_give_4 rfl rfl ?_
  refine z_iload_n 2 6 dX11_give_5 rfl rfl ?_
  obtain ⟨hbz1, h⟩ := h
  refine pma_6 7 dX11_give_6 hbz1 rfl ?_
  refine z_aload_n 0 8 dX11_give_7 rfl rfl ?_
  refine gr_33_10 11 dX11_give_8 of_X11_33 rfl ?_
  refine z_iload_n 1 12 dX11_give_11 rfl rfl ?_
  refine z_iload_n 3 13 dX11_give_12 rfl rfl ?_
  refine pma_7 14 dX11_give_13 hbz1 rfl ?_
  exact z_vret dX11_give_14 rfl ⟨Nat.le_refl _, Nat.le_refl _⟩ ⟨(m_aU (m_aU M 6 a1 a2) 7 a1 a3), rfl, rfl, h⟩
def p_X11_makes (a1 : Int32) (a2 : Int32) (a3 : Int32) (M : mS) (Q : Int32 → mS → Prop) : Prop :=
  ((a2 < 0 → Q 4 M) ∧ (¬ a2 < 0 → ((a2 ≤ 40 → p_X11_make a1 a2 a3 M (fun rz4 Mz3 => Q rz4 Mz3)) ∧ (¬ a2 ≤ 40 → Q 4 M))))
set_option maxRecDepth 100000 in
set_option maxHeartbeats 4000000 in
theorem t_X11_makes (tg : Bool) (C : cS) (o : Nat → Int64) (X : List va_E) (a1 : Int32) (a2 : Int32) (a3 : Int32) (M : mS) (Q : Int32 → mS → Prop) (h : p_X11_makes a1 a2 a3 M Q) : z_M q_X11_makes tg [.ref 233, .int a1, .int a2, .int a3] (wz C M o X) (zm_i C o X Q) := by
  unfold p_X11_makes at h
  refine z_enter (by decide) (Nat.le_of_ble_eq_true rfl) ?_
  refine z_iload_n 2 1 dX11_makes_0 rfl rfl ?_
  refine z_if_lt 10 4 dX11_makes_1 rfl rfl (fun hcz1 => ?_) (fun hcz1 => ?_)
  · replace h := h.1 hcz1
    refine z_iconst 4 11 dX11_makes_10 rfl rfl ?_
    refine z_goto 21 dX11_makes_11 rfl ?_
    exact z_iret dX11_makes_21 rfl ⟨Nat.le_refl _, Nat.le_refl _⟩ ⟨4, M, rfl, rfl, h⟩
  · replace h := h.2 hcz1
    refine z_iload_n 2 5 dX11_makes_4 rfl rfl ?_
    refine z_bipush 40 7 dX11_makes_5 rfl rfl ?_
    refine z_icmp_le 14 10 dX11_makes_7 rfl rfl (fun hcz2 => ?_) (fun hcz2 => ?_)
    · replace h := h.1 hcz2
      refine z_aload_n 0 15 dX11_makes_14 rfl rfl ?_
      refine z_iload_n 1 16 dX11_makes_15 rfl rfl ?_
      refine z_iload_n 2 17 dX11_makes_16 rfl rfl ?_
      refine z_iload_n 3 18 dX11_makes_17 rfl rfl ?_
      refine z_miV [.int a1, .int a2, .int a3] 21 dX11_makes_18 ok_X11_makes_198 rfl rfl (Nat.le_of_ble_eq_true rfl) rc_33 ⟨rfl, rfl⟩ ⟨Nat.le_refl _, Nat.le_refl _⟩ rfl (t_X11_make tg C o X a1 a2 a3 M _ h) (fun rz4 Mz3 h => ?_)
      exact z_iret dX11_makes_21 rfl ⟨Nat.le_refl _, Nat.le_refl _⟩ ⟨rz4, Mz3, rfl, rfl, h⟩
    · replace h := h.2 hcz2
      refine z_iconst 4 11 dX11_makes_10 rfl rfl ?_
      refine z_goto 21 dX11_makes_11 rfl ?_
      exact z_iret dX11_makes_21 rfl ⟨Nat.le_refl _, Nat.le_refl _⟩ ⟨4, M, rfl, rfl, h⟩
def p_X11_reads (a1 : Int32) (a2 : Int32) (a3 : Int32) (M : mS) (Q : Int32 → mS → Prop) : Prop :=
  p_X11_isThing a2 M (fun rz2 Mz1 => ((¬ rz2 = 0 → vp_in a2 58 ∧ ∀ vz5 : Int32, vz5 = (m_a Mz1 7) a2.toNatClampNeg → ((a3 < 0 → Q 3 Mz1) ∧ (¬ a3 < 0 → vp_in vz5 1300 ∧ ((a3 < ((m_a Mz1 1) vz5.toNatClampNeg) → ∀ vz9 : Int32, vz9 = (40 * vz5) + a3 → vp_in vz9 52000 ∧ p_X11_isOld ((m_a Mz1 4) vz9.toNatClampNeg) ((m_a Mz1 5) vz9.toNatClampNeg) Mz1 (fun rz12 Mz11 => ((rz12 = 0 → p_X11_give a1 ((m_a Mz11 4) vz9.toNatClampNeg) ((m_a Mz11 5) vz9.toNatClampNeg) Mz11 (fun Mz14 => Q 0 Mz14)) ∧ (¬ rz12 = 0 → p_X11_move ((m_a Mz11 5) vz9.toNatClampNeg) Mz11 (fun rz16 Mz15 => ((¬ rz16 = 0 → p_X11_give a1 ((m_a Mz15 4) vz9.toNatClampNeg) ((m_a Mz15 5) vz9.toNatClampNeg) Mz15 (fun Mz18 => Q 0 Mz18)) ∧ (rz16 = 0 → Q 8 Mz15))))))) ∧ (¬ a3 < ((m_a Mz1 1) vz5.toNatClampNeg) → Q 3 Mz1))))) ∧ (rz2 = 0 → Q 2 Mz1)))
set_option maxRecDepth 100000 in
set_option maxHeartbeats 4000000 in
theorem t_X11_reads (tg : Bool) (C : cS) (o : Nat → Int64) (X : List va_E) (a1 : Int32) (a2 : Int32) (a3 : Int32) (M : mS) (Q : Int32 → mS → Prop) (h : p_X11_reads a1 a2 a3 M Q) : z_M q_X11_reads tg [.ref 233, .int a1, .int a2, .int a3] (wz C M o X) (zm_i C o X Q) := by
  unfold p_X11_reads at h
  refine z_enter (by decide) (Nat.le_of_ble_eq_true rfl) ?_
  refine z_aload_n 0 1 dX11_reads_0 rfl rfl ?_
  refine z_iload_n 2 2 dX11_reads_1 rfl rfl ?_
  refine z_miV [.int a2] 5 dX11_reads_2 ok_X11_reads_202 rfl rfl (Nat.le_of_ble_eq_true rfl) rc_33 ⟨rfl, rfl⟩ ⟨Nat.le_refl _, Nat.le_refl _⟩ rfl (t_X11_isThing tg C o X a2 M _ h) (fun rz2 Mz1 h => ?_)
  refine z_if_ne 10 8 dX11_reads_5 rfl rfl (fun hcz3 => ?_) (fun hcz3 => ?_)
  · replace h := h.1 hcz3
    refine z_aload_n 0 11 dX11_reads_10 rfl rfl ?_
    refine gr_33_10 14 dX11_reads_11 of_X11_33 rfl ?_
    refine z_iload_n 2 15 dX11_reads_14 rfl rfl ?_
    obtain ⟨hbz4, h⟩ := h
    refine gma_7 ((m_a Mz1 7) a2.toNatClampNeg) 16 dX11_reads_15 hbz4 rfl rfl ?_
    refine z_topi (fun vz5 hvz5 => ?_)
    replace h := h vz5 hvz5
    refine z_istore [(4, .int vz5), (0, .ref 233), (1, .int a1), (2, .int a2), (3, .int a3)] 18 dX11_reads_16 (Nat.le_of_ble_eq_true rfl) rfl rfl ?_
    refine z_iload_n 4 19 dX11_reads_18 rfl rfl ?_
    refine z_if_lt 33 22 dX11_reads_19 rfl rfl (fun hcz6 => ?_) (fun hcz6 => ?_)
    · replace h := h.1 hcz6
      refine z_iconst 3 34 dX11_reads_33 rfl rfl ?_
      exact z_iret dX11_reads_34 rfl ⟨Nat.le_refl _, Nat.le_refl _⟩ ⟨3, Mz1, rfl, rfl, h⟩
    · replace h := h.2 hcz6
      refine z_iload_n 4 23 dX11_reads_22 rfl rfl ?_
      refine z_aload_n 1 24 dX11_reads_23 rfl rfl ?_
      refine gr_33_4 27 dX11_reads_24 of_X11_13 rfl ?_
      refine z_iload 0 29 dX11_reads_27 rfl rfl ?_
      obtain ⟨hbz7, h⟩ := h
      refine gma_1 ((m_a Mz1 1) vz5.toNatClampNeg) 30 dX11_reads_29 hbz7 rfl rfl ?_
      refine z_icmp_lt 35 33 dX11_reads_30 rfl rfl (fun hcz8 => ?_) (fun hcz8 => ?_)
      · replace h := h.1 hcz8
        refine z_bipush 40 37 dX11_reads_35 rfl rfl ?_
        refine z_iload 0 39 dX11_reads_37 rfl rfl ?_
        refine z_imul 40 dX11_reads_39 rfl ?_
        refine z_iload_n 4 41 dX11_reads_40 rfl rfl ?_
        refine z_iadd 42 dX11_reads_41 rfl ?_
        refine z_topi (fun vz9 hvz9 => ?_)
        replace h := h vz9 hvz9
        refine z_istore [(5, .int vz9), (4, .int vz5), (0, .ref 233), (1, .int a1), (2, .int a2), (3, .int a3)] 44 dX11_reads_42 (Nat.le_of_ble_eq_true rfl) rfl rfl ?_
        refine z_aload_n 2 45 dX11_reads_44 rfl rfl ?_
        refine z_aload_n 2 46 dX11_reads_45 rfl rfl ?_
        refine gr_33_7 49 dX11_reads_46 of_X11_24 rfl ?_
        refine z_iload 0 51 dX11_reads_49 rfl rfl ?_
        obtain ⟨hbz10, h⟩ := h
        refine gma_4 ((m_a Mz1 4) vz9.toNatClampNeg) 52 dX11_reads_51 hbz10 rfl rfl ?_
        refine z_aload_n 2 53 dX11_reads_52 rfl rfl ?_
        refine gr_33_8 56 dX11_reads_53 of_X11_27 rfl ?_
        refine z_iload 0 58 dX11_reads_56 rfl rfl ?_
        refine gma_5 ((m_a Mz1 5) vz9.toNatClampNeg) 59 dX11_reads_58 hbz10 rfl rfl ?_
        refine z_miV [.int ((m_a Mz1 4) vz9.toNatClampNeg), .int ((m_a Mz1 5) vz9.toNatClampNeg)] 62 dX11_reads_59 ok_X11_reads_159 rfl rfl (Nat.le_of_ble_eq_true rfl) rc_33 ⟨rfl, rfl⟩ ⟨Nat.le_refl _, Nat.le_refl _⟩ rfl (t_X11_isOld tg C o X ((m_a Mz1 4) vz9.toNatClampNeg) ((m_a Mz1 5) vz9.toNatClampNeg) Mz1 _ h) (fun rz12 Mz11 h => ?_)
        refine z_if_eq 82 65 dX11_reads_62 rfl rfl (fun hcz13 => ?_) (fun hcz13 => ?_)
        · replace h := h.1 hcz13
          refine z_aload_n 2 83 dX11_reads_82 rfl rfl ?_
          refine z_iload_n 3 84 dX11_reads_83 rfl rfl ?_
          refine z_aload_n 2 85 dX11_reads_84 rfl rfl ?_
          refine gr_33_7 88 dX11_reads_85 of_X11_24 rfl ?_
          refine z_iload 0 90 dX11_reads_88 rfl rfl ?_
          refine gma_4 ((m_a Mz11 4) vz9.toNatClampNeg) 91 dX11_reads_90 hbz10 rfl rfl ?_
          refine z_aload_n 2 92 dX11_reads_91 rfl rfl ?_
          refine gr_33_8 95 dX11_reads_92 of_X11_27 rfl ?_
          refine z_iload 0 97 dX11_reads_95 rfl rfl ?_
          refine gma_5 ((m_a Mz11 5) vz9.toNatClampNeg) 98 dX11_reads_97 hbz10 rfl rfl ?_
          refine z_mvV [.int a1, .int ((m_a Mz11 4) vz9.toNatClampNeg), .int ((m_a Mz11 5) vz9.toNatClampNeg)] 101 dX11_reads_98 ok_X11_reads_205 rfl rfl (Nat.le_of_ble_eq_true rfl) rc_33 ⟨rfl, rfl⟩ ⟨Nat.le_refl _, Nat.le_refl _⟩ rfl (t_X11_give tg C o X a1 ((m_a Mz11 4) vz9.toNatClampNeg) ((m_a Mz11 5) vz9.toNatClampNeg) Mz11 _ h) (fun Mz14 h => ?_)
          refine z_iconst 0 102 dX11_reads_101 rfl rfl ?_
          exact z_iret dX11_reads_102 rfl ⟨Nat.le_refl _, Nat.le_refl _⟩ ⟨0, Mz14, rfl, rfl, h⟩
        · replace h := h.2 hcz13
          refine z_aload_n 2 66 dX11_reads_65 rfl rfl ?_
          refine z_aload_n 2 67 dX11_reads_66 rfl rfl ?_
          refine gr_33_8 70 dX11_reads_67 of_X11_27 rfl ?_
          refine z_iload 0 72 dX11_reads_70 rfl rfl ?_
          refine gma_5 ((m_a Mz11 5) vz9.toNatClampNeg) 73 dX11_reads_72 hbz10 rfl rfl ?_
          refine z_miV [.int ((m_a Mz11 5) vz9.toNatClampNeg)] 76 dX11_reads_73 ok_X11_reads_163 rfl rfl (Nat.le_of_ble_eq_true rfl) rc_33 ⟨rfl, rfl⟩ ⟨Nat.le_refl _, Nat.le_refl _⟩ rfl (t_X11_move tg C o X ((m_a Mz11 5) vz9.toNatClampNeg) Mz11 _ h) (fun rz16 Mz15 h => ?_)
          refine z_if_ne 82 79 dX11_reads_76 rfl rfl (fun hcz17 => ?_) (fun hcz17 => ?_)
          · replace h := h.1 hcz17
            refine z_aload_n 2 83 dX11_reads_82 rfl rfl ?_
            refine z_iload_n 3 84 dX11_reads_83 rfl rfl ?_
            refine z_aload_n 2 85 dX11_reads_84 rfl rfl ?_
            refine gr_33_7 88 dX11_reads_85 of_X11_24 rfl ?_
            refine z_iload 0 90 dX11_reads_88 rfl rfl ?_
            refine gma_4 ((m_a Mz15 4) vz9.toNatClampNeg) 91 dX11_reads_90 hbz10 rfl rfl ?_
            refine z_aload_n 2 92 dX11_reads_91 rfl rfl ?_
            refine gr_33_8 95 dX11_reads_92 of_X11_27 rfl ?_
            refine z_iload 0 97 dX11_reads_95 rfl rfl ?_
            refine gma_5 ((m_a Mz15 5) vz9.toNatClampNeg) 98 dX11_reads_97 hbz10 rfl rfl ?_
            refine z_mvV [.int a1, .int ((m_a Mz15 4) vz9.toNatClampNeg), .int ((m_a Mz15 5) vz9.toNatClampNeg)] 101 dX11_reads_98 ok_X11_reads_205 rfl rfl (Nat.le_of_ble_eq_true rfl) rc_33 ⟨rfl, rfl⟩ ⟨Nat.le_refl _, Nat.le_refl _⟩ rfl (t_X11_give tg C o X a1 ((m_a Mz15 4) vz9.toNatClampNeg) ((m_a Mz15 5) vz9.toNatClampNeg) Mz15 _ h) (fun Mz18 h => ?_)
            refine z_iconst 0 102 dX11_reads_101 rfl rfl ?_
            exact z_iret dX11_reads_102 rfl ⟨Nat.le_refl _, Nat.le_refl _⟩ ⟨0, Mz18, rfl, rfl, h⟩
          · replace h := h.2 hcz17
            refine z_bipush 8 81 dX11_reads_79 rfl rfl ?_
            exact z_iret dX11_reads_81 rfl ⟨Nat.le_refl _, Nat.le_refl _⟩ ⟨8, Mz15, rfl, rfl, h⟩
      · replace h := h.2 hcz8
        refine z_iconst 3 34 dX11_reads_33 rfl rfl ?_
        exact z_iret dX11_reads_34 rfl ⟨Nat.le_refl _, Nat.le_refl _⟩ ⟨3, Mz1, rfl, rfl, h⟩
  · replace h := h.2 hcz3
    refine z_iconst 2 9 dX11_reads_8 rfl rfl ?_
    exact z_iret dX11_reads_9 rfl ⟨Nat.le_refl _, Nat.le_refl _⟩ ⟨2, Mz1, rfl, rfl, h⟩
def j_X11_writes_55 (Q : Int32 → mS → Prop) (l2 : Int32) (l3 : Int32) (l4 : Int32) (M : mS) : Prop :=
  vp_in l3 58 ∧ vp_in ((40 * l4) + l2) 52000 ∧ Q 0 (m_aU (m_aU M 4 ((40 * l4) + l2) ((m_a M 6) l3.toNatClampNeg)) 5 ((40 * l4) + l2) ((m_a M 7) l3.toNatClampNeg))
set_option maxRecDepth 100000 in
set_option maxHeartbeats 4000000 in
theorem tj_X11_writes_55 (tg : Bool) (C : cS) (o : Nat → Int64) (X : List va_E) (Q : Int32 → mS → Prop) (l2 : Int32) (l3 : Int32) (l4 : Int32) (M : mS) (h : j_X11_writes_55 Q l2 l3 l4 M) : z_go q_X11_writes tg 55 [(2, .int l2), (3, .int l3), (4, .int l4), (0, .ref 233)] [] (wz C M o X) 0 0 (zm_i C o X Q) := by
  unfold j_X11_writes_55 at h
  refine z_aload_n 3 56 dX11_writes_55 rfl rfl ?_
  refine gr_33_7 59 dX11_writes_56 of_X11_24 rfl ?_
  refine z_bipush 40 61 dX11_writes_59 rfl rfl ?_
  refine z_iload 2 63 dX11_writes_61 rfl rfl ?_
  refine z_imul 64 dX11_writes_63 rfl ?_
  refine z_iload_n 0 65 dX11_writes_64 rfl rfl ?_
  refine z_iadd 66 dX11_writes_65 rfl ?_
  refine z_aload_n 3 67 dX11_writes_66 rfl rfl ?_
  refine gr_33_9 70 dX11_writes_67 of_X11_30 rfl ?_
  refine z_iload_n 1 71 dX11_writes_70 rfl rfl ?_
  obtain ⟨hbz10, h⟩ := h
  refine gma_6 ((m_a M 6) l3.toNatClampNeg) 72 dX11_writes_71 hbz10 rfl rfl ?_
  obtain ⟨hbz11, h⟩ := h
  refine pma_4 73 dX11_writes_72 hbz11 rfl ?_
  refine z_aload_n 3 74 dX11_writes_73 rfl rfl ?_
  refine gr_33_8 77 dX11_writes_74 of_X11_27 rfl ?_
  refine z_bipush 40 79 dX11_writes_77 rfl rfl ?_
  refine z_iload 2 81 dX11_writes_79 rfl rfl ?_
  refine z_imul 82 dX11_writes_81 rfl ?_
  refine z_iload_n 0 83 dX11_writes_82 rfl rfl ?_
  refine z_iadd 84 dX11_writes_83 rfl ?_
  refine z_aload_n 3 85 dX11_writes_84 rfl rfl ?_
  refine gr_33_10 88 dX11_writes_85 of_X11_33 rfl ?_
  refine z_iload_n 1 89 dX11_writes_88 rfl rfl ?_
  refine gma_7 ((m_a M 7) l3.toNatClampNeg) 90 dX11_writes_89 hbz10 rfl rfl ?_
  refine pma_5 91 dX11_writes_90 hbz11 rfl ?_
  refine z_iconst 0 92 dX11_writes_91 rfl rfl ?_
  exact z_iret dX11_writes_92 rfl ⟨Nat.le_refl _, Nat.le_refl _⟩ ⟨0, (m_aU (m_aU M 4 ((40 * l4) + l2) ((m_a M 6) l3.toNatClampNeg)) 5 ((40 * l4) + l2) ((m_a M 7) l3.toNatClampNeg)), rfl, rfl, h⟩
def p_X11_writes (a1 : Int32) (a2 : Int32) (a3 : Int32) (M : mS) (Q : Int32 → mS → Prop) : Prop :=
  p_X11_isThing a1 M (fun rz2 Mz1 => ((¬ rz2 = 0 → vp_in a1 58 ∧ ∀ vz5 : Int32, vz5 = (m_a Mz1 7) a1.toNatClampNeg → ((a2 < 0 → Q 3 Mz1) ∧ (¬ a2 < 0 → vp_in vz5 1300 ∧ ((a2 < ((m_a Mz1 1) vz5.toNatClampNeg) → ((¬ ((m_a Mz1 0) vz5.toNatClampNeg) = 0 → j_X11_writes_55 Q a2 a3 vz5 Mz1) ∧ (((m_a Mz1 0) vz5.toNatClampNeg) = 0 → p_X11_isNumber a3 Mz1 (fun rz13 Mz12 => ((¬ rz13 = 0 → j_X11_writes_55 Q a2 a3 vz5 Mz12) ∧ (rz13 = 0 → Q 5 Mz12)))))) ∧ (¬ a2 < ((m_a Mz1 1) vz5.toNatClampNeg) → Q 3 Mz1))))) ∧ (rz2 = 0 → Q 2 Mz1)))
set_option maxRecDepth 100000 in
set_option maxHeartbeats 4000000 in
theorem t_X11_writes (tg : Bool) (C : cS) (o : Nat → Int64) (X : List va_E) (a1 : Int32) (a2 : Int32) (a3 : Int32) (M : mS) (Q : Int32 → mS → Prop) (h : p_X11_writes a1 a2 a3 M Q) : z_M q_X11_writes tg [.ref 233, .int a1, .int a2, .int a3] (wz C M o X) (zm_i C o X Q) := by
  unfold p_X11_writes at h
  refine z_enter (by decide) (Nat.le_of_ble_eq_true rfl) ?_
  refine z_aload_n 0 1 dX11_writes_0 rfl rfl ?_
  refine z_iload_n 1 2 dX11_writes_1 rfl rfl ?_
  refine z_miV [.int a1] 5 dX11_writes_2 ok_X11_writes_202 rfl rfl (Nat.le_of_ble_eq_true rfl) rc_33 ⟨rfl, rfl⟩ ⟨Nat.le_refl _, Nat.le_refl _⟩ rfl (t_X11_isThing tg C o X a1 M _ h) (fun rz2 Mz1 h => ?_)
  refine z_if_ne 10 8 dX11_writes_5 rfl rfl (fun hcz3 => ?_) (fun hcz3 => ?_)
  · replace h := h.1 hcz3
    refine z_aload_n 0 11 dX11_writes_10 rfl rfl ?_
    refine gr_33_10 14 dX11_writes_11 of_X11_33 rfl ?_
    refine z_iload_n 1 15 dX11_writes_14 rfl rfl ?_
    obtain ⟨hbz4, h⟩ := h
    refine gma_7 ((m_a Mz1 7) a1.toNatClampNeg) 16 dX11_writes_15 hbz4 rfl rfl ?_
    refine z_topi (fun vz5 hvz5 => ?_)
    replace h := h vz5 hvz5
    refine z_istore [(4, .int vz5), (0, .ref 233), (1, .int a1), (2, .int a2), (3, .int a3)] 18 dX11_writes_16 (Nat.le_of_ble_eq_true rfl) rfl rfl ?_
    refine z_iload_n 3 19 dX11_writes_18 rfl rfl ?_
    refine z_if_lt 33 22 dX11_writes_19 rfl rfl (fun hcz6 => ?_) (fun hcz6 => ?_)
    · replace h := h.1 hcz6
      refine z_iconst 3 34 dX11_writes_33 rfl rfl ?_
      exact z_iret dX11_writes_34 rfl ⟨Nat.le_refl _, Nat.le_refl _⟩ ⟨3, Mz1, rfl, rfl, h⟩
    · replace h := h.2 hcz6
      refine z_iload_n 3 23 dX11_writes_22 rfl rfl ?_
      refine z_aload_n 1 24 dX11_writes_23 rfl rfl ?_
      refine gr_33_4 27 dX11_writes_24 of_X11_13 rfl ?_
      refine z_iload 0 29 dX11_writes_27 rfl rfl ?_
      obtain ⟨hbz7, h⟩ := h
      refine gma_1 ((m_a Mz1 1) vz5.toNatClampNeg) 30 dX11_writes_29 hbz7 rfl rfl ?_
      refine z_icmp_lt 35 33 dX11_writes_30 rfl rfl (fun hcz8 => ?_) (fun hcz8 => ?_)
      · replace h := h.1 hcz8
        refine z_aload_n 1 36 dX11_writes_35 rfl rfl ?_
        refine gr_33_3 39 dX11_writes_36 of_X11_9 rfl ?_
        refine z_iload 0 41 dX11_writes_39 rfl rfl ?_
        refine gma_0 ((m_a Mz1 0) vz5.toNatClampNeg) 42 dX11_writes_41 hbz7 rfl rfl ?_
        refine z_if_ne 55 45 dX11_writes_42 rfl rfl (fun hcz9 => ?_) (fun hcz9 => ?_)
        · replace h := h.1 hcz9
          refine z_pick [(2, .int a2), (3, .int a3), (4, .int vz5), (0, .ref 233)] [3, 4, 0, 1] rfl ?_
          exact tj_X11_writes_55 tg C o X Q a2 a3 vz5 Mz1 h
        · replace h := h.2 hcz9
          refine z_aload_n 1 46 dX11_writes_45 rfl rfl ?_
          refine z_iload_n 4 47 dX11_writes_46 rfl rfl ?_
          refine z_miV [.int a3] 50 dX11_writes_47 ok_X11_writes_209 rfl rfl (Nat.le_of_ble_eq_true rfl) rc_33 ⟨rfl, rfl⟩ ⟨Nat.le_refl _, Nat.le_refl _⟩ rfl (t_X11_isNumber tg C o X a3 Mz1 _ h) (fun rz13 Mz12 h => ?_)
          refine z_if_ne 55 53 dX11_writes_50 rfl rfl (fun hcz14 => ?_) (fun hcz14 => ?_)
          · replace h := h.1 hcz14
            refine z_pick [(2, .int a2), (3, .int a3), (4, .int vz5), (0, .ref 233)] [3, 4, 0, 1] rfl ?_
            exact tj_X11_writes_55 tg C o X Q a2 a3 vz5 Mz12 h
          · replace h := h.2 hcz14
            refine z_iconst 5 54 dX11_writes_53 rfl rfl ?_
            exact z_iret dX11_writes_54 rfl ⟨Nat.le_refl _, Nat.le_refl _⟩ ⟨5, Mz12, rfl, rfl, h⟩
      · replace h := h.2 hcz8
        refine z_iconst 3 34 dX11_writes_33 rfl rfl ?_
        exact z_iret dX11_writes_34 rfl ⟨Nat.le_refl _, Nat.le_refl _⟩ ⟨3, Mz1, rfl, rfl, h⟩
  · replace h := h.2 hcz3
    refine z_iconst 2 9 dX11_writes_8 rfl rfl ?_
    exact z_iret dX11_writes_9 rfl ⟨Nat.le_refl _, Nat.le_refl _⟩ ⟨2, Mz1, rfl, rfl, h⟩
def p_X11_sortOf (a1 : Int32) (a2 : Int32) (M : mS) (Q : Int32 → mS → Prop) : Prop :=
  ((¬ a1 = 0 → ((¬ a1 = 1 → vp_in a2 1300 ∧ ((((m_a M 0) a2.toNatClampNeg) = 0 → Q 3 M) ∧ (¬ ((m_a M 0) a2.toNatClampNeg) = 0 → Q 2 M))) ∧ (a1 = 1 → Q 1 M))) ∧ (a1 = 0 → Q 0 M))
set_option maxRecDepth 100000 in
set_option maxHeartbeats 4000000 in
theorem t_X11_sortOf (tg : Bool) (C : cS) (o : Nat → Int64) (X : List va_E) (a1 : Int32) (a2 : Int32) (M : mS) (Q : Int32 → mS → Prop) (h : p_X11_sortOf a1 a2 M Q) : z_M q_X11_sortOf tg [.ref 233, .int a1, .int a2] (wz C M o X) (zm_i C o X Q) := by
  unfold p_X11_sortOf at h
  refine z_enter (by decide) (Nat.le_of_ble_eq_true rfl) ?_
  refine z_iload_n 1 1 dX11_sortOf_0 rfl rfl ?_
  refine z_if_ne 8 4 dX11_sortOf_1 rfl rfl (fun hcz1 => ?_) (fun hcz1 => ?_)
  · replace h := h.1 hcz1
    refine z_iload_n 1 9 dX11_sortOf_8 rfl rfl ?_
    refine z_iconst 1 10 dX11_sortOf_9 rfl rfl ?_
    refine z_icmp_ne 17 13 dX11_sortOf_10 rfl rfl (fun hcz2 => ?_) (fun hcz2 => ?_)
    · replace h := h.1 hcz2
      refine z_aload_n 0 18 dX11_sortOf_17 rfl rfl ?_
      refine gr_33_3 21 dX11_sortOf_18 of_X11_9 rfl ?_
      refine z_iload_n 2 22 dX11_sortOf_21 rfl rfl ?_
      obtain ⟨hbz3, h⟩ := h
      refine gma_0 ((m_a M 0) a2.toNatClampNeg) 23 dX11_sortOf_22 hbz3 rfl rfl ?_
      refine z_if_eq 30 26 dX11_sortOf_23 rfl rfl (fun hcz4 => ?_) (fun hcz4 => ?_)
      · replace h := h.1 hcz4
        refine z_iconst 3 31 dX11_sortOf_30 rfl rfl ?_
        exact z_iret dX11_sortOf_31 rfl ⟨Nat.le_refl _, Nat.le_refl _⟩ ⟨3, M, rfl, rfl, h⟩
      · replace h := h.2 hcz4
        refine z_iconst 2 27 dX11_sortOf_26 rfl rfl ?_
        refine z_goto 31 dX11_sortOf_27 rfl ?_
        exact z_iret dX11_sortOf_31 rfl ⟨Nat.le_refl _, Nat.le_refl _⟩ ⟨2, M, rfl, rfl, h⟩
    · replace h := h.2 hcz2
      refine z_iconst 1 14 dX11_sortOf_13 rfl rfl ?_
      refine z_goto 31 dX11_sortOf_14 rfl ?_
      exact z_iret dX11_sortOf_31 rfl ⟨Nat.le_refl _, Nat.le_refl _⟩ ⟨1, M, rfl, rfl, h⟩
  · replace h := h.2 hcz1
    refine z_iconst 0 5 dX11_sortOf_4 rfl rfl ?_
    refine z_goto 31 dX11_sortOf_5 rfl ?_
    exact z_iret dX11_sortOf_31 rfl ⟨Nat.le_refl _, Nat.le_refl _⟩ ⟨0, M, rfl, rfl, h⟩
def p_X11_reckons (a1 : Int32) (a2 : Int32) (a3 : Int32) (a4 : Int32) (M : mS) (Q : Int32 → mS → Prop) : Prop :=
  p_X11_isNumber a3 M (fun rz2 Mz1 => ((rz2 = 0 → Q 1 Mz1) ∧ (¬ rz2 = 0 → p_X11_isNumber a4 Mz1 (fun rz5 Mz4 => ((¬ rz5 = 0 → vp_in a3 58 ∧ ∀ vz8 : Int32, vz8 = (m_a Mz4 7) a3.toNatClampNeg → vp_in a4 58 ∧ ∀ vz10 : Int32, vz10 = (m_a Mz4 7) a4.toNatClampNeg → ((¬ a1 = 13 → ((¬ a1 = 14 → ((¬ a1 = 15 → ((vz10 ≤ vz8 → p_X11_give a2 0 0 Mz4 (fun Mz15 => Q 0 Mz15)) ∧ (¬ vz10 ≤ vz8 → p_X11_give a2 0 1 Mz4 (fun Mz16 => Q 0 Mz16)))) ∧ (a1 = 15 → p_X11_give a2 0 (vz8 * vz10) Mz4 (fun Mz17 => Q 0 Mz17)))) ∧ (a1 = 14 → p_X11_give a2 0 (vz8 - vz10) Mz4 (fun Mz18 => Q 0 Mz18)))) ∧ (a1 = 13 → p_X11_give a2 0 (vz8 + vz10) Mz4 (fun Mz19 => Q 0 Mz19)))) ∧ (rz5 = 0 → Q 1 Mz4))))))
set_option maxRecDepth 100000 in
set_option maxHeartbeats 4000000 in
theorem t_X11_reckons (tg : Bool) (C : cS) (o : Nat → Int64) (X : List va_E) (a1 : Int32) (a2 : Int32) (a3 : Int32) (a4 : Int32) (M : mS) (Q : Int32 → mS → Prop) (h : p_X11_reckons a1 a2 a3 a4 M Q) : z_M q_X11_reckons tg [.ref 233, .int a1, .int a2, .int a3, .int a4] (wz C M o X) (zm_i C o X Q) := by
  unfold p_X11_reckons at h
  refine z_enter (by decide) (Nat.le_of_ble_eq_true rfl) ?_
  refine z_aload_n 0 1 dX11_reckons_0 rfl rfl ?_
  refine z_iload_n 3 2 dX11_reckons_1 rfl rfl ?_
  refine z_miV [.int a3] 5 dX11_reckons_2 ok_X11_reckons_209 rfl rfl (Nat.le_of_ble_eq_true rfl) rc_33 ⟨rfl, rfl⟩ ⟨Nat.le_refl _, Nat.le_refl _⟩ rfl (t_X11_isNumber tg C o X a3 M _ h) (fun rz2 Mz1 h => ?_)
  refine z_if_eq 17 8 dX11_reckons_5 rfl rfl (fun hcz3 => ?_) (fun hcz3 => ?_)
  · replace h := h.1 hcz3
    refine z_iconst 1 18 dX11_reckons_17 rfl rfl ?_
    exact z_iret dX11_reckons_18 rfl ⟨Nat.le_refl _, Nat.le_refl _⟩ ⟨1, Mz1, rfl, rfl, h⟩
  · replace h := h.2 hcz3
    refine z_aload_n 0 9 dX11_reckons_8 rfl rfl ?_
    refine z_iload 4 11 dX11_reckons_9 rfl rfl ?_
    refine z_miV [.int a4] 14 dX11_reckons_11 ok_X11_reckons_209 rfl rfl (Nat.le_of_ble_eq_true rfl) rc_33 ⟨rfl, rfl⟩ ⟨Nat.le_refl _, Nat.le_refl _⟩ rfl (t_X11_isNumber tg C o X a4 Mz1 _ h) (fun rz5 Mz4 h => ?_)
    refine z_if_ne 19 17 dX11_reckons_14 rfl rfl (fun hcz6 => ?_) (fun hcz6 => ?_)
    · replace h := h.1 hcz6
      refine z_aload_n 0 20 dX11_reckons_19 rfl rfl ?_
      refine gr_33_10 23 dX11_reckons_20 of_X11_33 rfl ?_
      refine z_iload_n 3 24 dX11_reckons_23 rfl rfl ?_
      obtain ⟨hbz7, h⟩ := h
      refine gma_7 ((m_a Mz4 7) a3.toNatClampNeg) 25 dX11_reckons_24 hbz7 rfl rfl ?_
      refine z_topi (fun vz8 hvz8 => ?_)
      replace h := h vz8 hvz8
      refine z_istore [(5, .int vz8), (0, .ref 233), (1, .int a1), (2, .int a2), (3, .int a3), (4, .int a4)] 27 dX11_reckons_25 (Nat.le_of_ble_eq_true rfl) rfl rfl ?_
      refine z_aload_n 1 28 dX11_reckons_27 rfl rfl ?_
      refine gr_33_10 31 dX11_reckons_28 of_X11_33 rfl ?_
      refine z_iload 5 33 dX11_reckons_31 rfl rfl ?_
      obtain ⟨hbz9, h⟩ := h
      refine gma_7 ((m_a Mz4 7) a4.toNatClampNeg) 34 dX11_reckons_33 hbz9 rfl rfl ?_
      refine z_topi (fun vz10 hvz10 => ?_)
      replace h := h vz10 hvz10
      refine z_istore [(6, .int vz10), (5, .int vz8), (0, .ref 233), (1, .int a1), (2, .int a2), (3, .int a3), (4, .int a4)] 36 dX11_reckons_34 (Nat.le_of_ble_eq_true rfl) rfl rfl ?_
      refine z_aload_n 2 37 dX11_reckons_36 rfl rfl ?_
      refine z_iload_n 4 38 dX11_reckons_37 rfl rfl ?_
      refine z_iconst 0 39 dX11_reckons_38 rfl rfl ?_
      refine z_iload_n 3 40 dX11_reckons_39 rfl rfl ?_
      refine z_bipush 13 42 dX11_reckons_40 rfl rfl ?_
      refine z_icmp_ne 53 45 dX11_reckons_42 rfl rfl (fun hcz11 => ?_) (fun hcz11 => ?_)
      · replace h := h.1 hcz11
        refine z_iload_n 3 54 dX11_reckons_53 rfl rfl ?_
        refine z_bipush 14 56 dX11_reckons_54 rfl rfl ?_
        refine z_icmp_ne 67 59 dX11_reckons_56 rfl rfl (fun hcz12 => ?_) (fun hcz12 => ?_)
        · replace h := h.1 hcz12
          refine z_iload_n 3 68 dX11_reckons_67 rfl rfl ?_
          refine z_bipush 15 70 dX11_reckons_68 rfl rfl ?_
          refine z_icmp_ne 81 73 dX11_reckons_70 rfl rfl (fun hcz13 => ?_) (fun hcz13 => ?_)
          · replace h := h.1 hcz13
            refine z_iload 1 83 dX11_reckons_81 rfl rfl ?_
            refine z_iload 0 85 dX11_reckons_83 rfl rfl ?_
            refine z_icmp_ge 92 88 dX11_reckons_85 rfl rfl (fun hcz14 => ?_) (fun hcz14 => ?_)
            · replace h := h.1 hcz14
              refine z_iconst 0 93 dX11_reckons_92 rfl rfl ?_
              refine z_mvV [.int a2, .int 0, .int 0] 96 dX11_reckons_93 ok_X11_reckons_205 rfl rfl (Nat.le_of_ble_eq_true rfl) rc_33 ⟨rfl, rfl⟩ ⟨Nat.le_refl _, Nat.le_refl _⟩ rfl (t_X11_give tg C o X a2 0 0 Mz4 _ h) (fun Mz15 h => ?_)
              refine z_iconst 0 97 dX11_reckons_96 rfl rfl ?_
              exact z_iret dX11_reckons_97 rfl ⟨Nat.le_refl _, Nat.le_refl _⟩ ⟨0, Mz15, rfl, rfl, h⟩
            · replace h := h.2 hcz14
              refine z_iconst 1 89 dX11_reckons_88 rfl rfl ?_
              refine z_goto 93 dX11_reckons_89 rfl ?_
              refine z_mvV [.int a2, .int 0, .int 1] 96 dX11_reckons_93 ok_X11_reckons_205 rfl rfl (Nat.le_of_ble_eq_true rfl) rc_33 ⟨rfl, rfl⟩ ⟨Nat.le_refl _, Nat.le_refl _⟩ rfl (t_X11_give tg C o X a2 0 1 Mz4 _ h) (fun Mz16 h => ?_)
              refine z_iconst 0 97 dX11_reckons_96 rfl rfl ?_
              exact z_iret dX11_reckons_97 rfl ⟨Nat.le_refl _, Nat.le_refl _⟩ ⟨0, Mz16, rfl, rfl, h⟩
          · replace h := h.2 hcz13
            refine z_iload 1 75 dX11_reckons_73 rfl rfl ?_
            refine z_iload 0 77 dX11_reckons_75 rfl rfl ?_
            refine z_imul 78 dX11_reckons_77 rfl ?_
            refine z_goto 93 dX11_reckons_78 rfl ?_
            refine z_mvV [.int a2, .int 0, .int (vz8 * vz10)] 96 dX11_reckons_93 ok_X11_reckons_205 rfl rfl (Nat.le_of_ble_eq_true rfl) rc_33 ⟨rfl, rfl⟩ ⟨Nat.le_refl _, Nat.le_refl _⟩ rfl (t_X11_give tg C o X a2 0 (vz8 * vz10) Mz4 _ h) (fun Mz17 h => ?_)
            refine z_iconst 0 97 dX11_reckons_96 rfl rfl ?_
            exact z_iret dX11_reckons_97 rfl ⟨Nat.le_refl _, Nat.le_refl _⟩ ⟨0, Mz17, rfl, rfl, h⟩
        · replace h := h.2 hcz12
          refine z_iload 1 61 dX11_reckons_59 rfl rfl ?_
          refine z_iload 0 63 dX11_reckons_61 rfl rfl ?_
          refine z_isub 64 dX11_reckons_63 rfl ?_
          refine z_goto 93 dX11_reckons_64 rfl ?_
          refine z_mvV [.int a2, .int 0, .int (vz8 - vz10)] 96 dX11_reckons_93 ok_X11_reckons_205 rfl rfl (Nat.le_of_ble_eq_true rfl) rc_33 ⟨rfl, rfl⟩ ⟨Nat.le_refl _, Nat.le_refl _⟩ rfl (t_X11_give tg C o X a2 0 (vz8 - vz10) Mz4 _ h) (fun Mz18 h => ?_)
          refine z_iconst 0 97 dX11_reckons_96 rfl rfl ?_
          exact z_iret dX11_reckons_97 rfl ⟨Nat.le_refl _, Nat.le_refl _⟩ ⟨0, Mz18, rfl, rfl, h⟩
      · replace h := h.2 hcz11
        refine z_iload 1 47 dX11_reckons_45 rfl rfl ?_
        refine z_iload 0 49 dX11_reckons_47 rfl rfl ?_
        refine z_iadd 50 dX11_reckons_49 rfl ?_
        refine z_goto 93 dX11_reckons_50 rfl ?_
        refine z_mvV [.int a2, .int 0, .int (vz8 + vz10)] 96 dX11_reckons_93 ok_X11_reckons_205 rfl rfl (Nat.le_of_ble_eq_true rfl) rc_33 ⟨rfl, rfl⟩ ⟨Nat.le_refl _, Nat.le_refl _⟩ rfl (t_X11_give tg C o X a2 0 (vz8 + vz10) Mz4 _ h) (fun Mz19 h => ?_)
        refine z_iconst 0 97 dX11_reckons_96 rfl rfl ?_
        exact z_iret dX11_reckons_97 rfl ⟨Nat.le_refl _, Nat.le_refl _⟩ ⟨0, Mz19, rfl, rfl, h⟩
    · replace h := h.2 hcz6
      refine z_iconst 1 18 dX11_reckons_17 rfl rfl ?_
      exact z_iret dX11_reckons_18 rfl ⟨Nat.le_refl _, Nat.le_refl _⟩ ⟨1, Mz4, rfl, rfl, h⟩
def p_X11_does (a1 : Int32) (a2 : Int32) (a3 : Int32) (a4 : Int32) (M : mS) (Q : Int32 → mS → Prop) : Prop :=
  ((a1 = 0 → p_X11_give a2 0 a3 M (fun Mz2 => Q 0 Mz2)) ∧ (¬ a1 = 0 → ((a1 = 1 → vp_in a3 58 ∧ p_X11_give a2 ((m_a M 6) a3.toNatClampNeg) ((m_a M 7) a3.toNatClampNeg) M (fun Mz5 => Q 0 Mz5)) ∧ (¬ a1 = 1 → ((a1 = 2 → p_X11_give a2 1 0 M (fun Mz7 => Q 0 Mz7)) ∧ (¬ a1 = 2 → (((a1 = 3 ∨ a1 = 4) → ((¬ a1 = 3 → p_X11_makes a2 a3 0 M (fun rz11 Mz10 => Q rz11 Mz10)) ∧ (a1 = 3 → p_X11_makes a2 a3 1 M (fun rz13 Mz12 => Q rz13 Mz12)))) ∧ (¬ (a1 = 3 ∨ a1 = 4) → (((a1 = 5 ∨ a1 = 6) → p_X11_isNumber a3 M (fun rz19 Mz18 => ((rz19 = 0 → Q 1 Mz18) ∧ (¬ rz19 = 0 → vp_in a3 58 ∧ ((¬ a1 = 5 → p_X11_makes a2 ((m_a Mz18 7) a3.toNatClampNeg) 0 Mz18 (fun rz24 Mz23 => Q rz24 Mz23)) ∧ (a1 = 5 → p_X11_makes a2 ((m_a Mz18 7) a3.toNatClampNeg) 1 Mz18 (fun rz26 Mz25 => Q rz26 Mz25))))))) ∧ (¬ (a1 = 5 ∨ a1 = 6) → ((a1 = 7 → p_X11_reads a2 a3 a4 M (fun rz32 Mz31 => Q rz32 Mz31)) ∧ (¬ a1 = 7 → ((a1 = 8 → p_X11_isNumber a4 M (fun rz35 Mz34 => ((rz35 = 0 → Q 1 Mz34) ∧ (¬ rz35 = 0 → vp_in a4 58 ∧ p_X11_reads a2 a3 ((m_a Mz34 7) a4.toNatClampNeg) Mz34 (fun rz39 Mz38 => Q rz39 Mz38))))) ∧ (¬ a1 = 8 → ((a1 = 9 → p_X11_writes a2 a3 a4 M (fun rz42 Mz41 => Q rz42 Mz41)) ∧ (¬ a1 = 9 → ((a1 = 10 → p_X11_isNumber a3 M (fun rz45 Mz44 => ((rz45 = 0 → Q 1 Mz44) ∧ (¬ rz45 = 0 → vp_in a3 58 ∧ p_X11_writes a2 ((m_a Mz44 7) a3.toNatClampNeg) a4 Mz44 (fun rz49 Mz48 => Q rz49 Mz48))))) ∧ (¬ a1 = 10 → ((a1 = 11 → p_X11_isThing a3 M (fun rz52 Mz51 => ((¬ rz52 = 0 → vp_in a3 58 ∧ vp_in ((m_a Mz51 7) a3.toNatClampNeg) 1300 ∧ p_X11_give a2 0 ((m_a Mz51 1) ((m_a Mz51 7) a3.toNatClampNeg).toNatClampNeg) Mz51 (fun Mz56 => Q 0 Mz56)) ∧ (rz52 = 0 → Q 2 Mz51)))) ∧ (¬ a1 = 11 → ((a1 = 12 → vp_in a3 58 ∧ p_X11_sortOf ((m_a M 6) a3.toNatClampNeg) ((m_a M 7) a3.toNatClampNeg) M (fun rz60 Mz59 => p_X11_give a2 0 rz60 Mz59 (fun Mz61 => Q 0 Mz61))) ∧ (¬ a1 = 12 → ((a1 = 17 → vp_in a3 58 ∧ vp_in a4 58 ∧ ((¬ ((m_a M 6) a3.toNatClampNeg) = ((m_a M 6) a4.toNatClampNeg) → p_X11_give a2 0 0 M (fun Mz66 => Q 0 Mz66)) ∧ (((m_a M 6) a3.toNatClampNeg) = ((m_a M 6) a4.toNatClampNeg) → ((((m_a M 6) a3.toNatClampNeg) = 1 → p_X11_give a2 0 1 M (fun Mz68 => Q 0 Mz68)) ∧ (¬ ((m_a M 6) a3.toNatClampNeg) = 1 → ((¬ ((m_a M 7) a3.toNatClampNeg) = ((m_a M 7) a4.toNatClampNeg) → p_X11_give a2 0 0 M (fun Mz70 => Q 0 Mz70)) ∧ (((m_a M 7) a3.toNatClampNeg) = ((m_a M 7) a4.toNatClampNeg) → p_X11_give a2 0 1 M (fun Mz71 => Q 0 Mz71)))))))) ∧ (¬ a1 = 17 → ((a1 = 18 → ((¬ (m_i M 3) = 50 → vp_in a2 58 ∧ p_X11_give (8 + (m_i M 3)) ((m_a M 6) a2.toNatClampNeg) ((m_a M 7) a2.toNatClampNeg) M (fun Mz75 => Q 0 (m_iS Mz75 3 ((m_i Mz75 3) + 1)))) ∧ ((m_i M 3) = 50 → Q 6 M))) ∧ (¬ a1 = 18 → ((a1 = 19 → ((¬ (m_i M 3) = 0 → vp_in (8 + ((m_i M 3) - 1)) 58 ∧ p_X11_give a2 ((m_a M 6) (8 + ((m_i M 3) - 1)).toNatClampNeg) ((m_a M 7) (8 + ((m_i M 3) - 1)).toNatClampNeg) (m_iS M 3 ((m_i M 3) - 1)) (fun Mz79 => Q 0 Mz79)) ∧ ((m_i M 3) = 0 → Q 6 M))) ∧ (¬ a1 = 19 → p_X11_reckons a1 a2 a3 a4 M (fun rz81 Mz80 => Q rz81 Mz80)))))))))))))))))))))))))))))
set_option maxRecDepth 100000 in
set_option maxHeartbeats 4000000 in
theorem t_X11_does (tg : Bool) (C : cS) (o : Nat → Int64) (X : List va_E) (a1 : Int32) (a2 : Int32) (a3 : Int32) (a4 : Int32) (M : mS) (Q : Int32 → mS → Prop) (h : p_X11_does a1 a2 a3 a4 M Q) : z_M q_X11_does tg [.ref 233, .int a1, .int a2, .int a3, .int a4] (wz C M o X) (zm_i C o X Q) := by
  unfold p_X11_does at h
  refine z_enter (by decide) (Nat.le_of_ble_eq_true rfl) ?_
  refine z_iload_n 1 1 dX11_does_0 rfl rfl ?_
  by_cases hcz1 : a1 = 0
  · replace h := h.1 hcz1
    refine z_tabIn 96 dX11_does_1 (by rw [hcz1]; decide) (by rw [hcz1]; decide) (by rw [hcz1]; rfl) rfl ?_
    refine z_aload_n 0 97 dX11_does_96 rfl rfl ?_
    refine z_iload_n 2 98 dX11_does_97 rfl rfl ?_
    refine z_iconst 0 99 dX11_does_98 rfl rfl ?_
    refine z_iload_n 3 100 dX11_does_99 rfl rfl ?_
    refine z_mvV [.int a2, .int 0, .int a3] 103 dX11_does_100 ok_X11_does_205 rfl rfl (Nat.le_of_ble_eq_true rfl) rc_33 ⟨rfl, rfl⟩ ⟨Nat.le_refl _, Nat.le_refl _⟩ rfl (t_X11_give tg C o X a2 0 a3 M _ h) (fun Mz2 h => ?_)
    refine z_iconst 0 104 dX11_does_103 rfl rfl ?_
    exact z_iret dX11_does_104 rfl ⟨Nat.le_refl _, Nat.le_refl _⟩ ⟨0, Mz2, rfl, rfl, h⟩
  · replace h := h.2 hcz1
    by_cases hcz3 : a1 = 1
    · replace h := h.1 hcz3
      refine z_tabIn 105 dX11_does_1 (by rw [hcz3]; decide) (by rw [hcz3]; decide) (by rw [hcz3]; rfl) rfl ?_
      refine z_aload_n 0 106 dX11_does_105 rfl rfl ?_
      refine z_iload_n 2 107 dX11_does_106 rfl rfl ?_
      refine z_aload_n 0 108 dX11_does_107 rfl rfl ?_
      refine gr_33_9 111 dX11_does_108 of_X11_30 rfl ?_
      refine z_iload_n 3 112 dX11_does_111 rfl rfl ?_
      obtain ⟨hbz4, h⟩ := h
      refine gma_6 ((m_a M 6) a3.toNatClampNeg) 113 dX11_does_112 hbz4 rfl rfl ?_
      refine z_aload_n 0 114 dX11_does_113 rfl rfl ?_
      refine gr_33_10 117 dX11_does_114 of_X11_33 rfl ?_
      refine z_iload_n 3 118 dX11_does_117 rfl rfl ?_
      refine gma_7 ((m_a M 7) a3.toNatClampNeg) 119 dX11_does_118 hbz4 rfl rfl ?_
      refine z_mvV [.int a2, .int ((m_a M 6) a3.toNatClampNeg), .int ((m_a M 7) a3.toNatClampNeg)] 122 dX11_does_119 ok_X11_does_205 rfl rfl (Nat.le_of_ble_eq_true rfl) rc_33 ⟨rfl, rfl⟩ ⟨Nat.le_refl _, Nat.le_refl _⟩ rfl (t_X11_give tg C o X a2 ((m_a M 6) a3.toNatClampNeg) ((m_a M 7) a3.toNatClampNeg) M _ h) (fun Mz5 h => ?_)
      refine z_iconst 0 123 dX11_does_122 rfl rfl ?_
      exact z_iret dX11_does_123 rfl ⟨Nat.le_refl _, Nat.le_refl _⟩ ⟨0, Mz5, rfl, rfl, h⟩
    · replace h := h.2 hcz3
      by_cases hcz6 : a1 = 2
      · replace h := h.1 hcz6
        refine z_tabIn 124 dX11_does_1 (by rw [hcz6]; decide) (by rw [hcz6]; decide) (by rw [hcz6]; rfl) rfl ?_
        refine z_aload_n 0 125 dX11_does_124 rfl rfl ?_
        refine z_iload_n 2 126 dX11_does_125 rfl rfl ?_
        refine z_iconst 1 127 dX11_does_126 rfl rfl ?_
        refine z_iconst 0 128 dX11_does_127 rfl rfl ?_
        refine z_mvV [.int a2, .int 1, .int 0] 131 dX11_does_128 ok_X11_does_205 rfl rfl (Nat.le_of_ble_eq_true rfl) rc_33 ⟨rfl, rfl⟩ ⟨Nat.le_refl _, Nat.le_refl _⟩ rfl (t_X11_give tg C o X a2 1 0 M _ h) (fun Mz7 h => ?_)
        refine z_iconst 0 132 dX11_does_131 rfl rfl ?_
        exact z_iret dX11_does_132 rfl ⟨Nat.le_refl _, Nat.le_refl _⟩ ⟨0, Mz7, rfl, rfl, h⟩
      · replace h := h.2 hcz6
        by_cases hcz8 : (a1 = 3 ∨ a1 = 4)
        · replace h := h.1 hcz8
          have hkz14 : ∀ kk : z_go q_X11_does tg 133 [(0, .ref 233), (1, .int a1), (2, .int a2), (3, .int a3), (4, .int a4)] [] (wz C M o X) 0 0 (zm_i C o X Q), z_go q_X11_does tg 1 [(0, .ref 233), (1, .int a1), (2, .int a2), (3, .int a3), (4, .int a4)] [.int a1] (wz C M o X) 0 0 (zm_i C o X Q) := by
            intro kk
            rcases hcz8 with h9 | h9 <;> exact z_tabIn 133 dX11_does_1 (by rw [h9]; decide) (by rw [h9]; decide) (by rw [h9]; rfl) rfl kk
          refine hkz14 ?_
          refine z_aload_n 0 134 dX11_does_133 rfl rfl ?_
          refine z_iload_n 2 135 dX11_does_134 rfl rfl ?_
          refine z_iload_n 3 136 dX11_does_135 rfl rfl ?_
          refine z_iload_n 1 137 dX11_does_136 rfl rfl ?_
          refine z_iconst 3 138 dX11_does_137 rfl rfl ?_
          refine z_icmp_ne 145 141 dX11_does_138 rfl rfl (fun hcz9 => ?_) (fun hcz9 => ?_)
          · replace h := h.1 hcz9
            refine z_iconst 0 146 dX11_does_145 rfl rfl ?_
            refine z_miV [.int a2, .int a3, .int 0] 149 dX11_does_146 ok_X11_does_212 rfl rfl (Nat.le_of_ble_eq_true rfl) rc_33 ⟨rfl, rfl⟩ ⟨Nat.le_refl _, Nat.le_refl _⟩ rfl (t_X11_makes tg C o X a2 a3 0 M _ h) (fun rz11 Mz10 h => ?_)
            exact z_iret dX11_does_149 rfl ⟨Nat.le_refl _, Nat.le_refl _⟩ ⟨rz11, Mz10, rfl, rfl, h⟩
          · replace h := h.2 hcz9
            refine z_iconst 1 142 dX11_does_141 rfl rfl ?_
            refine z_goto 146 dX11_does_142 rfl ?_
            refine z_miV [.int a2, .int a3, .int 1] 149 dX11_does_146 ok_X11_does_212 rfl rfl (Nat.le_of_ble_eq_true rfl) rc_33 ⟨rfl, rfl⟩ ⟨Nat.le_refl _, Nat.le_refl _⟩ rfl (t_X11_makes tg C o X a2 a3 1 M _ h) (fun rz13 Mz12 h => ?_)
            exact z_iret dX11_does_149 rfl ⟨Nat.le_refl _, Nat.le_refl _⟩ ⟨rz13, Mz12, rfl, rfl, h⟩
        · replace h := h.2 hcz8
          have hcz15_ := hcz8
          simp only [not_or] at hcz15_
          obtain ⟨hcz15, hcz16⟩ := hcz15_
          by_cases hcz17 : (a1 = 5 ∨ a1 = 6)
          · replace h := h.1 hcz17
            have hkz27 : ∀ kk : z_go q_X11_does tg 150 [(0, .ref 233), (1, .int a1), (2, .int a2), (3, .int a3), (4, .int a4)] [] (wz C M o X) 0 0 (zm_i C o X Q), z_go q_X11_does tg 1 [(0, .ref 233), (1, .int a1), (2, .int a2), (3, .int a3), (4, .int a4)] [.int a1] (wz C M o X) 0 0 (zm_i C o X Q) := by
              intro kk
              rcases hcz17 with h9 | h9 <;> exact z_tabIn 150 dX11_does_1 (by rw [h9]; decide) (by rw [h9]; decide) (by rw [h9]; rfl) rfl kk
            refine hkz27 ?_
            refine z_aload_n 0 151 dX11_does_150 rfl rfl ?_
            refine z_iload_n 3 152 dX11_does_151 rfl rfl ?_
            refine z_miV [.int a3] 155 dX11_does_152 ok_X11_does_209 rfl rfl (Nat.le_of_ble_eq_true rfl) rc_33 ⟨rfl, rfl⟩ ⟨Nat.le_refl _, Nat.le_refl _⟩ rfl (t_X11_isNumber tg C o X a3 M _ h) (fun rz19 Mz18 h => ?_)
            refine z_if_eq 182 158 dX11_does_155 rfl rfl (fun hcz20 => ?_) (fun hcz20 => ?_)
            · replace h := h.1 hcz20
              refine z_iconst 1 183 dX11_does_182 rfl rfl ?_
              exact z_iret dX11_does_183 rfl ⟨Nat.le_refl _, Nat.le_refl _⟩ ⟨1, Mz18, rfl, rfl, h⟩
            · replace h := h.2 hcz20
              refine z_aload_n 0 159 dX11_does_158 rfl rfl ?_
              refine z_iload_n 2 160 dX11_does_159 rfl rfl ?_
              refine z_aload_n 0 161 dX11_does_160 rfl rfl ?_
              refine gr_33_10 164 dX11_does_161 of_X11_33 rfl ?_
              refine z_iload_n 3 165 dX11_does_164 rfl rfl ?_
              obtain ⟨hbz21, h⟩ := h
              refine gma_7 ((m_a Mz18 7) a3.toNatClampNeg) 166 dX11_does_165 hbz21 rfl rfl ?_
              refine z_iload_n 1 167 dX11_does_166 rfl rfl ?_
              refine z_iconst 5 168 dX11_does_167 rfl rfl ?_
              refine z_icmp_ne 175 171 dX11_does_168 rfl rfl (fun hcz22 => ?_) (fun hcz22 => ?_)
              · replace h := h.1 hcz22
                refine z_iconst 0 176 dX11_does_175 rfl rfl ?_
                refine z_miV [.int a2, .int ((m_a Mz18 7) a3.toNatClampNeg), .int 0] 179 dX11_does_176 ok_X11_does_212 rfl rfl (Nat.le_of_ble_eq_true rfl) rc_33 ⟨rfl, rfl⟩ ⟨Nat.le_refl _, Nat.le_refl _⟩ rfl (t_X11_makes tg C o X a2 ((m_a Mz18 7) a3.toNatClampNeg) 0 Mz18 _ h) (fun rz24 Mz23 h => ?_)
                refine z_goto 183 dX11_does_179 rfl ?_
                exact z_iret dX11_does_183 rfl ⟨Nat.le_refl _, Nat.le_refl _⟩ ⟨rz24, Mz23, rfl, rfl, h⟩
              · replace h := h.2 hcz22
                refine z_iconst 1 172 dX11_does_171 rfl rfl ?_
                refine z_goto 176 dX11_does_172 rfl ?_
                refine z_miV [.int a2, .int ((m_a Mz18 7) a3.toNatClampNeg), .int 1] 179 dX11_does_176 ok_X11_does_212 rfl rfl (Nat.le_of_ble_eq_true rfl) rc_33 ⟨rfl, rfl⟩ ⟨Nat.le_refl _, Nat.le_refl _⟩ rfl (t_X11_makes tg C o X a2 ((m_a Mz18 7) a3.toNatClampNeg) 1 Mz18 _ h) (fun rz26 Mz25 h => ?_)
                refine z_goto 183 dX11_does_179 rfl ?_
                exact z_iret dX11_does_183 rfl ⟨Nat.le_refl _, Nat.le_refl _⟩ ⟨rz26, Mz25, rfl, rfl, h⟩
          · replace h := h.2 hcz17
            have hcz28_ := hcz17
            simp only [not_or] at hcz28_
            obtain ⟨hcz28, hcz29⟩ := hcz28_
            by_cases hcz30 : a1 = 7
            · replace h := h.1 hcz30
              refine z_tabIn 184 dX11_does_1 (by rw [hcz30]; decide) (by rw [hcz30]; decide) (by rw [hcz30]; rfl) rfl ?_
              refine z_aload_n 0 185 dX11_does_184 rfl rfl ?_
              refine z_iload_n 2 186 dX11_does_185 rfl rfl ?_
              refine z_iload_n 3 187 dX11_does_186 rfl rfl ?_
              refine z_iload 4 189 dX11_does_187 rfl rfl ?_
              refine z_miV [.int a2, .int a3, .int a4] 192 dX11_does_189 ok_X11_does_215 rfl rfl (Nat.le_of_ble_eq_true rfl) rc_33 ⟨rfl, rfl⟩ ⟨Nat.le_refl _, Nat.le_refl _⟩ rfl (t_X11_reads tg C o X a2 a3 a4 M _ h) (fun rz32 Mz31 h => ?_)
              exact z_iret dX11_does_192 rfl ⟨Nat.le_refl _, Nat.le_refl _⟩ ⟨rz32, Mz31, rfl, rfl, h⟩
            · replace h := h.2 hcz30
              by_cases hcz33 : a1 = 8
              · replace h := h.1 hcz33
                refine z_tabIn 193 dX11_does_1 (by rw [hcz33]; decide) (by rw [hcz33]; decide) (by rw [hcz33]; rfl) rfl ?_
                refine z_aload_n 0 194 dX11_does_193 rfl rfl ?_
                refine z_iload 4 196 dX11_does_194 rfl rfl ?_
                refine z_miV [.int a4] 199 dX11_does_196 ok_X11_does_209 rfl rfl (Nat.le_of_ble_eq_true rfl) rc_33 ⟨rfl, rfl⟩ ⟨Nat.le_refl _, Nat.le_refl _⟩ rfl (t_X11_isNumber tg C o X a4 M _ h) (fun rz35 Mz34 h => ?_)
                refine z_if_eq 218 202 dX11_does_199 rfl rfl (fun hcz36 => ?_) (fun hcz36 => ?_)
                · replace h := h.1 hcz36
                  refine z_iconst 1 219 dX11_does_218 rfl rfl ?_
                  exact z_iret dX11_does_219 rfl ⟨Nat.le_refl _, Nat.le_refl _⟩ ⟨1, Mz34, rfl, rfl, h⟩
                · replace h := h.2 hcz36
                  refine z_aload_n 0 203 dX11_does_202 rfl rfl ?_
                  refine z_iload_n 2 204 dX11_does_203 rfl rfl ?_
                  refine z_iload_n 3 205 dX11_does_204 rfl rfl ?_
                  refine z_aload_n 0 206 dX11_does_205 rfl rfl ?_
                  refine gr_33_10 209 dX11_does_206 of_X11_33 rfl ?_
                  refine z_iload 4 211 dX11_does_209 rfl rfl ?_
                  obtain ⟨hbz37, h⟩ := h
                  refine gma_7 ((m_a Mz34 7) a4.toNatClampNeg) 212 dX11_does_211 hbz37 rfl rfl ?_
                  refine z_miV [.int a2, .int a3, .int ((m_a Mz34 7) a4.toNatClampNeg)] 215 dX11_does_212 ok_X11_does_215 rfl rfl (Nat.le_of_ble_eq_true rfl) rc_33 ⟨rfl, rfl⟩ ⟨Nat.le_refl _, Nat.le_refl _⟩ rfl (t_X11_reads tg C o X a2 a3 ((m_a Mz34 7) a4.toNatClampNeg) Mz34 _ h) (fun rz39 Mz38 h => ?_)
                  refine z_goto 219 dX11_does_215 rfl ?_
                  exact z_iret dX11_does_219 rfl ⟨Nat.le_refl _, Nat.le_refl _⟩ ⟨rz39, Mz38, rfl, rfl, h⟩
              · replace h := h.2 hcz33
                by_cases hcz40 : a1 = 9
                · replace h := h.1 hcz40
                  refine z_tabIn 220 dX11_does_1 (by rw [hcz40]; decide) (by rw [hcz40]; decide) (by rw [hcz40]; rfl) rfl ?_
                  refine z_aload_n 0 221 dX11_does_220 rfl rfl ?_
                  refine z_iload_n 2 222 dX11_does_221 rfl rfl ?_
                  refine z_iload_n 3 223 dX11_does_222 rfl rfl ?_
                  refine z_iload 4 225 dX11_does_223 rfl rfl ?_
                  refine z_miV [.int a2, .int a3, .int a4] 228 dX11_does_225 ok_X11_does_219 rfl rfl (Nat.le_of_ble_eq_true rfl) rc_33 ⟨rfl, rfl⟩ ⟨Nat.le_refl _, Nat.le_refl _⟩ rfl (t_X11_writes tg C o X a2 a3 a4 M _ h) (fun rz42 Mz41 h => ?_)
                  exact z_iret dX11_does_228 rfl ⟨Nat.le_refl _, Nat.le_refl _⟩ ⟨rz42, Mz41, rfl, rfl, h⟩
                · replace h := h.2 hcz40
                  by_cases hcz43 : a1 = 10
                  · replace h := h.1 hcz43
                    refine z_tabIn 229 dX11_does_1 (by rw [hcz43]; decide) (by rw [hcz43]; decide) (by rw [hcz43]; rfl) rfl ?_
                    refine z_aload_n 0 230 dX11_does_229 rfl rfl ?_
                    refine z_iload_n 3 231 dX11_does_230 rfl rfl ?_
                    refine z_miV [.int a3] 234 dX11_does_231 ok_X11_does_209 rfl rfl (Nat.le_of_ble_eq_true rfl) rc_33 ⟨rfl, rfl⟩ ⟨Nat.le_refl _, Nat.le_refl _⟩ rfl (t_X11_isNumber tg C o X a3 M _ h) (fun rz45 Mz44 h => ?_)
                    refine z_if_eq 253 237 dX11_does_234 rfl rfl (fun hcz46 => ?_) (fun hcz46 => ?_)
                    · replace h := h.1 hcz46
                      refine z_iconst 1 254 dX11_does_253 rfl rfl ?_
                      exact z_iret dX11_does_254 rfl ⟨Nat.le_refl _, Nat.le_refl _⟩ ⟨1, Mz44, rfl, rfl, h⟩
                    · replace h := h.2 hcz46
                      refine z_aload_n 0 238 dX11_does_237 rfl rfl ?_
                      refine z_iload_n 2 239 dX11_does_238 rfl rfl ?_
                      refine z_aload_n 0 240 dX11_does_239 rfl rfl ?_
                      refine gr_33_10 243 dX11_does_240 of_X11_33 rfl ?_
                      refine z_iload_n 3 244 dX11_does_243 rfl rfl ?_
                      obtain ⟨hbz47, h⟩ := h
                      refine gma_7 ((m_a Mz44 7) a3.toNatClampNeg) 245 dX11_does_244 hbz47 rfl rfl ?_
                      refine z_iload 4 247 dX11_does_245 rfl rfl ?_
                      refine z_miV [.int a2, .int ((m_a Mz44 7) a3.toNatClampNeg), .int a4] 250 dX11_does_247 ok_X11_does_219 rfl rfl (Nat.le_of_ble_eq_true rfl) rc_33 ⟨rfl, rfl⟩ ⟨Nat.le_refl _, Nat.le_refl _⟩ rfl (t_X11_writes tg C o X a2 ((m_a Mz44 7) a3.toNatClampNeg) a4 Mz44 _ h) (fun rz49 Mz48 h => ?_)
                      refine z_goto 254 dX11_does_250 rfl ?_
                      exact z_iret dX11_does_254 rfl ⟨Nat.le_refl _, Nat.le_refl _⟩ ⟨rz49, Mz48, rfl, rfl, h⟩
                  · replace h := h.2 hcz43
                    by_cases hcz50 : a1 = 11
                    · replace h := h.1 hcz50
                      refine z_tabIn 255 dX11_does_1 (by rw [hcz50]; decide) (by rw [hcz50]; decide) (by rw [hcz50]; rfl) rfl ?_
                      refine z_aload_n 0 256 dX11_does_255 rfl rfl ?_
                      refine z_iload_n 3 257 dX11_does_256 rfl rfl ?_
                      refine z_miV [.int a3] 260 dX11_does_257 ok_X11_does_202 rfl rfl (Nat.le_of_ble_eq_true rfl) rc_33 ⟨rfl, rfl⟩ ⟨Nat.le_refl _, Nat.le_refl _⟩ rfl (t_X11_isThing tg C o X a3 M _ h) (fun rz52 Mz51 h => ?_)
                      refine z_if_ne 265 263 dX11_does_260 rfl rfl (fun hcz53 => ?_) (fun hcz53 => ?_)
                      · replace h := h.1 hcz53
                        refine z_aload_n 0 266 dX11_does_265 rfl rfl ?_
                        refine z_iload_n 2 267 dX11_does_266 rfl rfl ?_
                        refine z_iconst 0 268 dX11_does_267 rfl rfl ?_
                        refine z_aload_n 0 269 dX11_does_268 rfl rfl ?_
                        refine gr_33_4 272 dX11_does_269 of_X11_13 rfl ?_
                        refine z_aload_n 0 273 dX11_does_272 rfl rfl ?_
                        refine gr_33_10 276 dX11_does_273 of_X11_33 rfl ?_
                        refine z_iload_n 3 277 dX11_does_276 rfl rfl ?_
                        obtain ⟨hbz54, h⟩ := h
                        refine gma_7 ((m_a Mz51 7) a3.toNatClampNeg) 278 dX11_does_277 hbz54 rfl rfl ?_
                        obtain ⟨hbz55, h⟩ := h
                        refine gma_1 ((m_a Mz51 1) ((m_a Mz51 7) a3.toNatClampNeg).toNatClampNeg) 279 dX11_does_278 hbz55 rfl rfl ?_
                        refine z_mvV [.int a2, .int 0, .int ((m_a Mz51 1) ((m_a Mz51 7) a3.toNatClampNeg).toNatClampNeg)] 282 dX11_does_279 ok_X11_does_205 rfl rfl (Nat.le_of_ble_eq_true rfl) rc_33 ⟨rfl, rfl⟩ ⟨Nat.le_refl _, Nat.le_refl _⟩ rfl (t_X11_give tg C o X a2 0 ((m_a Mz51 1) ((m_a Mz51 7) a3.toNatClampNeg).toNatClampNeg) Mz51 _ h) (fun Mz56 h => ?_)
                        refine z_iconst 0 283 dX11_does_282 rfl rfl ?_
                        exact z_iret dX11_does_283 rfl ⟨Nat.le_refl _, Nat.le_refl _⟩ ⟨0, Mz56, rfl, rfl, h⟩
                      · replace h := h.2 hcz53
                        refine z_iconst 2 264 dX11_does_263 rfl rfl ?_
                        exact z_iret dX11_does_264 rfl ⟨Nat.le_refl _, Nat.le_refl _⟩ ⟨2, Mz51, rfl, rfl, h⟩
                    · replace h := h.2 hcz50
                      by_cases hcz57 : a1 = 12
                      · replace h := h.1 hcz57
                        refine z_tabIn 284 dX11_does_1 (by rw [hcz57]; decide) (by rw [hcz57]; decide) (by rw [hcz57]; rfl) rfl ?_
                        refine z_aload_n 0 285 dX11_does_284 rfl rfl ?_
                        refine z_iload_n 2 286 dX11_does_285 rfl rfl ?_
                        refine z_iconst 0 287 dX11_does_286 rfl rfl ?_
                        refine z_aload_n 0 288 dX11_does_287 rfl rfl ?_
                        refine z_aload_n 0 289 dX11_does_288 rfl rfl ?_
                        refine gr_33_9 292 dX11_does_289 of_X11_30 rfl ?_
                        refine z_iload_n 3 293 dX11_does_292 rfl rfl ?_
                        obtain ⟨hbz58, h⟩ := h
                        refine gma_6 ((m_a M 6) a3.toNatClampNeg) 294 dX11_does_293 hbz58 rfl rfl ?_
                        refine z_aload_n 0 295 dX11_does_294 rfl rfl ?_
                        refine gr_33_10 298 dX11_does_295 of_X11_33 rfl ?_
                        refine z_iload_n 3 299 dX11_does_298 rfl rfl ?_
                        refine gma_7 ((m_a M 7) a3.toNatClampNeg) 300 dX11_does_299 hbz58 rfl rfl ?_
                        refine z_miV [.int ((m_a M 6) a3.toNatClampNeg), .int ((m_a M 7) a3.toNatClampNeg)] 303 dX11_does_300 ok_X11_does_222 rfl rfl (Nat.le_of_ble_eq_true rfl) rc_33 ⟨rfl, rfl⟩ ⟨Nat.le_refl _, Nat.le_refl _⟩ rfl (t_X11_sortOf tg C o X ((m_a M 6) a3.toNatClampNeg) ((m_a M 7) a3.toNatClampNeg) M _ h) (fun rz60 Mz59 h => ?_)
                        refine z_mvV [.int a2, .int 0, .int rz60] 306 dX11_does_303 ok_X11_does_205 rfl rfl (Nat.le_of_ble_eq_true rfl) rc_33 ⟨rfl, rfl⟩ ⟨Nat.le_refl _, Nat.le_refl _⟩ rfl (t_X11_give tg C o X a2 0 rz60 Mz59 _ h) (fun Mz61 h => ?_)
                        refine z_iconst 0 307 dX11_does_306 rfl rfl ?_
                        exact z_iret dX11_does_307 rfl ⟨Nat.le_refl _, Nat.le_refl _⟩ ⟨0, Mz61, rfl, rfl, h⟩
                      · replace h := h.2 hcz57
                        by_cases hcz62 : a1 = 17
                        · replace h := h.1 hcz62
                          refine z_tabIn 308 dX11_does_1 (by rw [hcz62]; decide) (by rw [hcz62]; decide) (by rw [hcz62]; rfl) rfl ?_
                          refine z_aload_n 0 309 dX11_does_308 rfl rfl ?_
                          refine z_iload_n 2 310 dX11_does_309 rfl rfl ?_
                          refine z_iconst 0 311 dX11_does_310 rfl rfl ?_
                          refine z_aload_n 0 312 dX11_does_311 rfl rfl ?_
                          refine gr_33_9 315 dX11_does_312 of_X11_30 rfl ?_
                          refine z_iload_n 3 316 dX11_does_315 rfl rfl ?_
                          obtain ⟨hbz63, h⟩ := h
                          refine gma_6 ((m_a M 6) a3.toNatClampNeg) 317 dX11_does_316 hbz63 rfl rfl ?_
                          refine z_aload_n 0 318 dX11_does_317 rfl rfl ?_
                          refine gr_33_9 321 dX11_does_318 of_X11_30 rfl ?_
                          refine z_iload 4 323 dX11_does_321 rfl rfl ?_
                          obtain ⟨hbz64, h⟩ := h
                          refine gma_6 ((m_a M 6) a4.toNatClampNeg) 324 dX11_does_323 hbz64 rfl rfl ?_
                          refine z_icmp_ne 357 327 dX11_does_324 rfl rfl (fun hcz65 => ?_) (fun hcz65 => ?_)
                          · replace h := h.1 hcz65
                            refine z_iconst 0 358 dX11_does_357 rfl rfl ?_
                            refine z_mvV [.int a2, .int 0, .int 0] 361 dX11_does_358 ok_X11_does_205 rfl rfl (Nat.le_of_ble_eq_true rfl) rc_33 ⟨rfl, rfl⟩ ⟨Nat.le_refl _, Nat.le_refl _⟩ rfl (t_X11_give tg C o X a2 0 0 M _ h) (fun Mz66 h => ?_)
                            refine z_iconst 0 362 dX11_does_361 rfl rfl ?_
                            exact z_iret dX11_does_362 rfl ⟨Nat.le_refl _, Nat.le_refl _⟩ ⟨0, Mz66, rfl, rfl, h⟩
                          · replace h := h.2 hcz65
                            refine z_aload_n 0 328 dX11_does_327 rfl rfl ?_
                            refine gr_33_9 331 dX11_does_328 of_X11_30 rfl ?_
                            refine z_iload_n 3 332 dX11_does_331 rfl rfl ?_
                            refine gma_6 ((m_a M 6) a3.toNatClampNeg) 333 dX11_does_332 hbz63 rfl rfl ?_
                            refine z_iconst 1 334 dX11_does_333 rfl rfl ?_
                            refine z_icmp_eq 353 337 dX11_does_334 rfl rfl (fun hcz67 => ?_) (fun hcz67 => ?_)
                            · replace h := h.1 hcz67
                              refine z_iconst 1 354 dX11_does_353 rfl rfl ?_
                              refine z_goto 358 dX11_does_354 rfl ?_
                              refine z_mvV [.int a2, .int 0, .int 1] 361 dX11_does_358 ok_X11_does_205 rfl rfl (Nat.le_of_ble_eq_true rfl) rc_33 ⟨rfl, rfl⟩ ⟨Nat.le_refl _, Nat.le_refl _⟩ rfl (t_X11_give tg C o X a2 0 1 M _ h) (fun Mz68 h => ?_)
                              refine z_iconst 0 362 dX11_does_361 rfl rfl ?_
                              exact z_iret dX11_does_362 rfl ⟨Nat.le_refl _, Nat.le_refl _⟩ ⟨0, Mz68, rfl, rfl, h⟩
                            · replace h := h.2 hcz67
                              refine z_aload_n 0 338 dX11_does_337 rfl rfl ?_
                              refine gr_33_10 341 dX11_does_338 of_X11_33 rfl ?_
                              refine z_iload_n 3 342 dX11_does_341 rfl rfl ?_
                              refine gma_7 ((m_a M 7) a3.toNatClampNeg) 343 dX11_does_342 hbz63 rfl rfl ?_
                              refine z_aload_n 0 344 dX11_does_343 rfl rfl ?_
                              refine gr_33_10 347 dX11_does_344 of_X11_33 rfl ?_
                              refine z_iload 4 349 dX11_does_347 rfl rfl ?_
                              refine gma_7 ((m_a M 7) a4.toNatClampNeg) 350 dX11_does_349 hbz64 rfl rfl ?_
                              refine z_icmp_ne 357 353 dX11_does_350 rfl rfl (fun hcz69 => ?_) (fun hcz69 => ?_)
                              · replace h := h.1 hcz69
                                refine z_iconst 0 358 dX11_does_357 rfl rfl ?_
                                refine z_mvV [.int a2, .int 0, .int 0] 361 dX11_does_358 ok_X11_does_205 rfl rfl (Nat.le_of_ble_eq_true rfl) rc_33 ⟨rfl, rfl⟩ ⟨Nat.le_refl _, Nat.le_refl _⟩ rfl (t_X11_give tg C o X a2 0 0 M _ h) (fun Mz70 h => ?_)
                                refine z_iconst 0 362 dX11_does_361 rfl rfl ?_
                                exact z_iret dX11_does_362 rfl ⟨Nat.le_refl _, Nat.le_refl _⟩ ⟨0, Mz70, rfl, rfl, h⟩
                              · replace h := h.2 hcz69
                                refine z_iconst 1 354 dX11_does_353 rfl rfl ?_
                                refine z_goto 358 dX11_does_354 rfl ?_
                                refine z_mvV [.int a2, .int 0, .int 1] 361 dX11_does_358 ok_X11_does_205 rfl rfl (Nat.le_of_ble_eq_true rfl) rc_33 ⟨rfl, rfl⟩ ⟨Nat.le_refl _, Nat.le_refl _⟩ rfl (t_X11_give tg C o X a2 0 1 M _ h) (fun Mz71 h => ?_)
                                refine z_iconst 0 362 dX11_does_361 rfl rfl ?_
                                exact z_iret dX11_does_362 rfl ⟨Nat.le_refl _, Nat.le_refl _⟩ ⟨0, Mz71, rfl, rfl, h⟩
                        · replace h := h.2 hcz62
                          by_cases hcz72 : a1 = 18
                          · replace h := h.1 hcz72
                            refine z_tabIn 363 dX11_does_1 (by rw [hcz72]; decide) (by rw [hcz72]; decide) (by rw [hcz72]; rfl) rfl ?_
                            refine z_aload_n 0 364 dX11_does_363 rfl rfl ?_
                            refine gmi_3 (m_i M 3) 367 dX11_does_364 of_X11_173 rfl rfl ?_
                            refine z_bipush 50 369 dX11_does_367 rfl rfl ?_
                            refine z_icmp_ne 375 372 dX11_does_369 rfl rfl (fun hcz73 => ?_) (fun hcz73 => ?_)
                            · replace h := h.1 hcz73
                              refine z_aload_n 0 376 dX11_does_375 rfl rfl ?_
                              refine z_bipush 8 378 dX11_does_376 rfl rfl ?_
                              refine z_aload_n 0 379 dX11_does_378 rfl rfl ?_
                              refine gmi_3 (m_i M 3) 382 dX11_does_379 of_X11_173 rfl rfl ?_
                              refine z_iadd 383 dX11_does_382 rfl ?_
                              refine z_aload_n 0 384 dX11_does_383 rfl rfl ?_
                              refine gr_33_9 387 dX11_does_384 of_X11_30 rfl ?_
                              refine z_iload_n 2 388 dX11_does_387 rfl rfl ?_
                              obtain ⟨hbz74, h⟩ := h
                              refine gma_6 ((m_a M 6) a2.toNatClampNeg) 389 dX11_does_388 hbz74 rfl rfl ?_
                              refine z_aload_n 0 390 dX11_does_389 rfl rfl ?_
                              refine gr_33_10 393 dX11_does_390 of_X11_33 rfl ?_
                              refine z_iload_n 2 394 dX11_does_393 rfl rfl ?_
                              refine gma_7 ((m_a M 7) a2.toNatClampNeg) 395 dX11_does_394 hbz74 rfl rfl ?_
                              refine z_mvV [.int (8 + (m_i M 3)), .int ((m_a M 6) a2.toNatClampNeg), .int ((m_a M 7) a2.toNatClampNeg)] 398 dX11_does_395 ok_X11_does_205 rfl rfl (Nat.le_of_ble_eq_true rfl) rc_33 ⟨rfl, rfl⟩ ⟨Nat.le_refl _, Nat.le_refl _⟩ rfl (t_X11_give tg C o X (8 + (m_i M 3)) ((m_a M 6) a2.toNatClampNeg) ((m_a M 7) a2.toNatClampNeg) M _ h) (fun Mz75 h => ?_)
                              refine z_aload_n 0 399 dX11_does_398 rfl rfl ?_
                              refine z_dup rfl 400 dX11_does_399 rfl ?_
                              refine gmi_3 (m_i Mz75 3) 403 dX11_does_400 of_X11_173 rfl rfl ?_
                              refine z_iconst 1 404 dX11_does_403 rfl rfl ?_
                              refine z_iadd 405 dX11_does_404 rfl ?_
                              refine pmi_3 408 dX11_does_405 op_X11_173 rfl ?_
                              refine z_iconst 0 409 dX11_does_408 rfl rfl ?_
                              exact z_iret dX11_does_409 rfl ⟨Nat.le_refl _, Nat.le_refl _⟩ ⟨0, (m_iS Mz75 3 ((m_i Mz75 3) + 1)), rfl, rfl, h⟩
                            · replace h := h.2 hcz73
                              refine z_bipush 6 374 dX11_does_372 rfl rfl ?_
                              exact z_iret dX11_does_374 rfl ⟨Nat.le_refl _, Nat.le_refl _⟩ ⟨6, M, rfl, rfl, h⟩
                          · replace h := h.2 hcz72
                            by_cases hcz76 : a1 = 19
                            · replace h := h.1 hcz76
                              refine z_tabIn 410 dX11_does_1 (by rw [hcz76]; decide) (by rw [hcz76]; decide) (by rw [hcz76]; rfl) rfl ?_
                              refine z_aload_n 0 411 dX11_does_410 rfl rfl ?_
                              refine gmi_3 (m_i M 3) 414 dX11_does_411 of_X11_173 rfl rfl ?_
                              refine z_if_ne 420 417 dX11_does_414 rfl rfl (fun hcz77 => ?_) (fun hcz77 => ?_)
                              · replace h := h.1 hcz77
                                refine z_aload_n 0 421 dX11_does_420 rfl rfl ?_
                                refine z_dup rfl 422 dX11_does_421 rfl ?_
                                refine gmi_3 (m_i M 3) 425 dX11_does_422 of_X11_173 rfl rfl ?_
                                refine z_iconst 1 426 dX11_does_425 rfl rfl ?_
                                refine z_isub 427 dX11_does_426 rfl ?_
                                refine pmi_3 430 dX11_does_427 op_X11_173 rfl ?_
                                refine z_aload_n 0 431 dX11_does_430 rfl rfl ?_
                                refine z_iload_n 2 432 dX11_does_431 rfl rfl ?_
                                refine z_aload_n 0 433 dX11_does_432 rfl rfl ?_
                                refine gr_33_9 436 dX11_does_433 of_X11_30 rfl ?_
                                refine z_bipush 8 438 dX11_does_436 rfl rfl ?_
                                refine z_aload_n 0 439 dX11_does_438 rfl rfl ?_
                                refine gmi_3 ((m_i M 3) - 1) 442 dX11_does_439 of_X11_173 rfl rfl ?_
                                refine z_iadd 443 dX11_does_442 rfl ?_
                                obtain ⟨hbz78, h⟩ := h
                                refine gma_6 ((m_a M 6) (8 + ((m_i M 3) - 1)).toNatClampNeg) 444 dX11_does_443 hbz78 rfl rfl ?_
                                refine z_aload_n 0 445 dX11_does_444 rfl rfl ?_
                                refine gr_33_10 448 dX11_does_445 of_X11_33 rfl ?_
                                refine z_bipush 8 450 dX11_does_448 rfl rfl ?_
                                refine z_aload_n 0 451 dX11_does_450 rfl rfl ?_
                                refine gmi_3 ((m_i M 3) - 1) 454 dX11_does_451 of_X11_173 rfl rfl ?_
                                refine z_iadd 455 dX11_does_454 rfl ?_
                                refine gma_7 ((m_a M 7) (8 + ((m_i M 3) - 1)).toNatClampNeg) 456 dX11_does_455 hbz78 rfl rfl ?_
                                refine z_mvV [.int a2, .int ((m_a M 6) (8 + ((m_i M 3) - 1)).toNatClampNeg), .int ((m_a M 7) (8 + ((m_i M 3) - 1)).toNatClampNeg)] 459 dX11_does_456 ok_X11_does_205 rfl rfl (Nat.le_of_ble_eq_true rfl) rc_33 ⟨rfl, rfl⟩ ⟨Nat.le_refl _, Nat.le_refl _⟩ rfl (t_X11_give tg C o X a2 ((m_a M 6) (8 + ((m_i M 3) - 1)).toNatClampNeg) ((m_a M 7) (8 + ((m_i M 3) - 1)).toNatClampNeg) (m_iS M 3 ((m_i M 3) - 1)) _ h) (fun Mz79 h => ?_)
                                refine z_iconst 0 460 dX11_does_459 rfl rfl ?_
                                exact z_iret dX11_does_460 rfl ⟨Nat.le_refl _, Nat.le_refl _⟩ ⟨0, Mz79, rfl, rfl, h⟩
                              · replace h := h.2 hcz77
                                refine z_bipush 6 419 dX11_does_417 rfl rfl ?_
                                exact z_iret dX11_does_419 rfl ⟨Nat.le_refl _, Nat.le_refl _⟩ ⟨6, M, rfl, rfl, h⟩
                            · replace h := h.2 hcz76
                              refine z_tab [0, 1, 2, 3, 4, 5, 6, 7, 8, 9, 10, 11, 12, 17, 18, 19] 461 dX11_does_1 (List.forall_mem_cons.mpr ⟨hcz1, (List.forall_mem_cons.mpr ⟨hcz3, (List.forall_mem_cons.mpr ⟨hcz6, (List.forall_mem_cons.mpr ⟨hcz15, (List.forall_mem_cons.mpr ⟨hcz16, (List.forall_mem_cons.mpr ⟨hcz28, (List.forall_mem_cons.mpr ⟨hcz29, (List.forall_mem_cons.mpr ⟨hcz30, (List.forall_mem_cons.mpr ⟨hcz33, (List.forall_mem_cons.mpr ⟨hcz40, (List.forall_mem_cons.mpr ⟨hcz43, (List.forall_mem_cons.mpr ⟨hcz50, (List.forall_mem_cons.mpr ⟨hcz57, (List.forall_mem_cons.mpr ⟨hcz62, (List.forall_mem_cons.mpr ⟨hcz72, (List.forall_mem_cons.mpr ⟨hcz76, (fun _ q9 => absurd q9 List.not_mem_nil)⟩)⟩)⟩)⟩)⟩)⟩)⟩)⟩)⟩)⟩)⟩)⟩)⟩)⟩)⟩)⟩) (by decide +kernel) (by decide) rfl ?_
                              refine z_aload_n 0 462 dX11_does_461 rfl rfl ?_
                              refine z_iload_n 1 463 dX11_does_462 rfl rfl ?_
                              refine z_iload_n 2 464 dX11_does_463 rfl rfl ?_
                              refine z_iload_n 3 465 dX11_does_464 rfl rfl ?_
                              refine z_iload 4 467 dX11_does_465 rfl rfl ?_
                              refine z_miV [.int a1, .int a2, .int a3, .int a4] 470 dX11_does_467 ok_X11_does_226 rfl rfl (Nat.le_of_ble_eq_true rfl) rc_33 ⟨rfl, rfl⟩ ⟨Nat.le_refl _, Nat.le_refl _⟩ rfl (t_X11_reckons tg C o X a1 a2 a3 a4 M _ h) (fun rz81 Mz80 h => ?_)
                              exact z_iret dX11_does_470 rfl ⟨Nat.le_refl _, Nat.le_refl _⟩ ⟨rz81, Mz80, rfl, rfl, h⟩
end ZG
