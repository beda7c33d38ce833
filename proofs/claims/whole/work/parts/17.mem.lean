section ZG
def p_X3_home (a1 : Int32) (C : cS) (Q : Int32 → cS → Prop) : Prop :=
  vp_in a1 (2 * c_sz C) ∧ ((¬ ((c_a C 10) a1.toNatClampNeg) = 6 → Q a1 C) ∧ (((c_a C 10) a1.toNatClampNeg) = 6 → Q ((c_a C 11) a1.toNatClampNeg) C))
set_option maxRecDepth 100000 in
set_option maxHeartbeats 4000000 in
theorem t_X3_home (tg : Bool) (M : mS) (o : Nat → Int64) (X : List va_E) (a1 : Int32) (C : cS) (Q : Int32 → cS → Prop) (h : p_X3_home a1 C Q) : z_M q_X3_home tg [.ref 218, .int a1] (wz C M o X) (zc_i M o X Q) := by
  unfold p_X3_home at h
  refine z_enter (by decide) (Nat.le_of_ble_eq_true rfl) ?_
  refine z_aload_n 0 1 dX3_home_0 rfl rfl ?_
  refine gr_18_2 4 dX3_home_1 of_X3_28 rfl ?_
  refine z_iload_n 1 5 dX3_home_4 rfl rfl ?_
  obtain ⟨hbz1, h⟩ := h
  refine gca_10 ((c_a C 10) a1.toNatClampNeg) 6 dX3_home_5 hbz1 rfl rfl ?_
  refine z_bipush 6 8 dX3_home_6 rfl rfl ?_
  refine z_icmp_ne 20 11 dX3_home_8 rfl rfl (fun hcz2 => ?_) (fun hcz2 => ?_)
  · replace h := h.1 hcz2
    refine z_iload_n 1 21 dX3_home_20 rfl rfl ?_
    exact z_iret dX3_home_21 rfl ⟨Nat.le_refl _, Nat.le_refl _⟩ ⟨a1, C, rfl, rfl, h⟩
  · replace h := h.2 hcz2
    refine z_aload_n 0 12 dX3_home_11 rfl rfl ?_
    refine gr_18_3 15 dX3_home_12 of_X3_31 rfl ?_
    refine z_iload_n 1 16 dX3_home_15 rfl rfl ?_
    refine gca_11 ((c_a C 11) a1.toNatClampNeg) 17 dX3_home_16 hbz1 rfl rfl ?_
    refine z_goto 21 dX3_home_17 rfl ?_
    exact z_iret dX3_home_21 rfl ⟨Nat.le_refl _, Nat.le_refl _⟩ ⟨(c_a C 11) a1.toNatClampNeg, C, rfl, rfl, h⟩
def p_X3_halfOf (a1 : Int32) (C : cS) (Q : Int32 → cS → Prop) : Prop :=
  (((c_i C 9) ≤ a1 → Q 1 C) ∧ (¬ (c_i C 9) ≤ a1 → Q 0 C))
set_option maxRecDepth 100000 in
set_option maxHeartbeats 4000000 in
theorem t_X3_halfOf (tg : Bool) (M : mS) (o : Nat → Int64) (X : List va_E) (a1 : Int32) (C : cS) (Q : Int32 → cS → Prop) (h : p_X3_halfOf a1 C Q) : z_M q_X3_halfOf tg [.ref 218, .int a1] (wz C M o X) (zc_i M o X Q) := by
  unfold p_X3_halfOf at h
  refine z_enter (by decide) (Nat.le_of_ble_eq_true rfl) ?_
  refine z_iload_n 1 1 dX3_halfOf_0 rfl rfl ?_
  refine z_aload_n 0 2 dX3_halfOf_1 rfl rfl ?_
  refine gci_9 (c_i C 9) 5 dX3_halfOf_2 of_X3_21 rfl rfl ?_
  refine z_icmp_ge 12 8 dX3_halfOf_5 rfl rfl (fun hcz1 => ?_) (fun hcz1 => ?_)
  · replace h := h.1 hcz1
    refine z_iconst 1 13 dX3_halfOf_12 rfl rfl ?_
    exact z_iret dX3_halfOf_13 rfl ⟨Nat.le_refl _, Nat.le_refl _⟩ ⟨1, C, rfl, rfl, h⟩
  · replace h := h.2 hcz1
    refine z_iconst 0 9 dX3_halfOf_8 rfl rfl ?_
    refine z_goto 13 dX3_halfOf_9 rfl ?_
    exact z_iret dX3_halfOf_13 rfl ⟨Nat.le_refl _, Nat.le_refl _⟩ ⟨0, C, rfl, rfl, h⟩
def b_X3_move_53 (R9 : Int32 → Int32 → Int32 → Int32 → cS → Prop) (Q : Int32 → cS → Prop) (K101 : Int32 → Int32 → Int32 → cS → Prop) (l1 : Int32) (l2 : Int32) (l3 : Int32) (l4 : Int32) (C : cS) : Prop :=
  ((l2 ≤ l4 → K101 l1 l2 l3 C) ∧ (¬ l2 ≤ l4 → vp_in (l1 + l4) (2 * c_sz C) ∧ vp_in (l3 + l4) (2 * c_sz C) ∧ ∀ vz8 : Int32, vz8 = l4 + 1 → R9 l1 l2 l3 vz8 (c_aU (c_aU C 10 (l3 + l4) ((c_a C 10) (l1 + l4).toNatClampNeg)) 11 (l3 + l4) ((c_a C 11) (l1 + l4).toNatClampNeg))))
def w_X3_move_53 (Q : Int32 → cS → Prop) (K101 : Int32 → Int32 → Int32 → cS → Prop) : Nat → Int32 → Int32 → Int32 → Int32 → cS → Prop
 | 0 => fun _ _ _ _ _ => False
 | n + 1 => fun l1 l2 l3 l4 C => b_X3_move_53 (w_X3_move_53 Q K101 n) Q K101 l1 l2 l3 l4 C
set_option maxRecDepth 100000 in
set_option maxHeartbeats 4000000 in
theorem tb_X3_move_53 (_ : Bool) (M : mS) (o : Nat → Int64) (X : List va_E) (R9 : Int32 → Int32 → Int32 → Int32 → cS → Prop) (Q : Int32 → cS → Prop) (K101 : Int32 → Int32 → Int32 → cS → Prop) (hR9 : ∀ (l1 : Int32) (l2 : Int32) (l3 : Int32) (l4 : Int32) (C : cS), R9 l1 l2 l3 l4 C → z_go q_X3_move false 53 [(1, .int l1), (2, .int l2), (3, .int l3), (4, .int l4), (0, .ref 218)] [] (wz C M o X) 0 0 (zc_i M o X Q)) (hK101 : ∀ (l1 : Int32) (l2 : Int32) (l3 : Int32) (C : cS), K101 l1 l2 l3 C → z_go q_X3_move false 101 [(1, .int l1), (2, .int l2), (3, .int l3), (0, .ref 218)] [] (wz C M o X) 0 0 (zc_i M o X Q)) (l1 : Int32) (l2 : Int32) (l3 : Int32) (l4 : Int32) (C : cS) (h : b_X3_move_53 R9 Q K101 l1 l2 l3 l4 C) : z_go q_X3_move false 53 [(1, .int l1), (2, .int l2), (3, .int l3), (4, .int l4), (0, .ref 218)] [] (wz C M o X) 0 0 (zc_i M o X Q) := by
  unfold b_X3_move_53 at h
  refine z_iload 3 55 dX3_move_53 rfl rfl ?_
  refine z_iload_n 1 56 dX3_move_55 rfl rfl ?_
  refine z_icmp_ge 101 59 dX3_move_56 rfl rfl (fun hcz5 => ?_) (fun hcz5 => ?_)
  · replace h := h.1 hcz5
    refine z_pick [(1, .int l1), (2, .int l2), (3, .int l3), (0, .ref 218)] [0, 1, 2, 4] rfl ?_
    exact hK101 l1 l2 l3 C h
  · replace h := h.2 hcz5
    refine z_aload_n 4 60 dX3_move_59 rfl rfl ?_
    refine gr_18_2 63 dX3_move_60 of_X3_28 rfl ?_
    refine z_iload_n 2 64 dX3_move_63 rfl rfl ?_
    refine z_iload 3 66 dX3_move_64 rfl rfl ?_
    refine z_iadd 67 dX3_move_66 rfl ?_
    refine z_aload_n 4 68 dX3_move_67 rfl rfl ?_
    refine gr_18_2 71 dX3_move_68 of_X3_28 rfl ?_
    refine z_iload_n 0 72 dX3_move_71 rfl rfl ?_
    refine z_iload 3 74 dX3_move_72 rfl rfl ?_
    refine z_iadd 75 dX3_move_74 rfl ?_
    obtain ⟨hbz6, h⟩ := h
    refine gca_10 ((c_a C 10) (l1 + l4).toNatClampNeg) 76 dX3_move_75 hbz6 rfl rfl ?_
    obtain ⟨hbz7, h⟩ := h
    refine pca_10 77 dX3_move_76 hbz7 rfl ?_
    refine z_aload_n 4 78 dX3_move_77 rfl rfl ?_
    refine gr_18_3 81 dX3_move_78 of_X3_31 rfl ?_
    refine z_iload_n 2 82 dX3_move_81 rfl rfl ?_
    refine z_iload 3 84 dX3_move_82 rfl rfl ?_
    refine z_iadd 85 dX3_move_84 rfl ?_
    refine z_aload_n 4 86 dX3_move_85 rfl rfl ?_
    refine gr_18_3 89 dX3_move_86 of_X3_31 rfl ?_
    refine z_iload_n 0 90 dX3_move_89 rfl rfl ?_
    refine z_iload 3 92 dX3_move_90 rfl rfl ?_
    refine z_iadd 93 dX3_move_92 rfl ?_
    refine gca_11 ((c_a C 11) (l1 + l4).toNatClampNeg) 94 dX3_move_93 hbz6 rfl rfl ?_
    refine pca_11 95 dX3_move_94 hbz7 rfl ?_
    obtain ⟨vz8, hvz8⟩ : ∃ v : Int32, v = l4 + 1 := ⟨_, rfl⟩
    replace h := h vz8 hvz8
    refine z_iinc vz8 [(4, .int vz8), (1, .int l1), (2, .int l2), (3, .int l3), (0, .ref 218)] 3 98 dX3_move_95 rfl hvz8.symm (Nat.le_of_ble_eq_true rfl) rfl rfl ?_
    refine z_goto 53 dX3_move_98 rfl ?_
    refine z_pick [(1, .int l1), (2, .int l2), (3, .int l3), (4, .int vz8), (0, .ref 218)] [1, 2, 3, 0, 4] rfl ?_
    exact hR9 l1 l2 l3 vz8 (c_aU (c_aU C 10 (l3 + l4) ((c_a C 10) (l1 + l4).toNatClampNeg)) 11 (l3 + l4) ((c_a C 11) (l1 + l4).toNatClampNeg)) h
theorem tw_X3_move_53 (_ : Bool) (M : mS) (o : Nat → Int64) (X : List va_E) (Q : Int32 → cS → Prop) (K101 : Int32 → Int32 → Int32 → cS → Prop) (hK101 : ∀ (l1 : Int32) (l2 : Int32) (l3 : Int32) (C : cS), K101 l1 l2 l3 C → z_go q_X3_move false 101 [(1, .int l1), (2, .int l2), (3, .int l3), (0, .ref 218)] [] (wz C M o X) 0 0 (zc_i M o X Q)) : ∀ (n : Nat) (l1 : Int32) (l2 : Int32) (l3 : Int32) (l4 : Int32) (C : cS), w_X3_move_53 Q K101 n l1 l2 l3 l4 C → z_go q_X3_move false 53 [(1, .int l1), (2, .int l2), (3, .int l3), (4, .int l4), (0, .ref 218)] [] (wz C M o X) 0 0 (zc_i M o X Q) := by
  intro n
  induction n with
  | zero => intro l1 l2 l3 l4 C h; exact h.elim
  | succ n ih => intro l1 l2 l3 l4 C h; exact tb_X3_move_53 false M o X _ Q K101 ih hK101 l1 l2 l3 l4 C h
def p_X3_move (a1 : Int32) (C : cS) (Q : Int32 → cS → Prop) : Prop :=
  vp_in a1 (2 * c_sz C) ∧ ∀ vz2 : Int32, vz2 = ((c_a C 11) a1.toNatClampNeg) + 2 → ((((c_i C 13) + vz2) ≤ (c_i C 15) → ∀ vz4 : Int32, vz4 = ((c_i C 12) * (c_i C 9)) + (c_i C 13) → ∃ nz14 : Nat, w_X3_move_53 Q (fun lz9 lz10 lz11 Cz12 => vp_in lz9 (2 * c_sz Cz12) ∧ Q lz11 (c_aU (c_iS (c_aU (c_aU Cz12 10 lz9 6) 11 lz9 lz11) 13 ((c_i Cz12 13) + lz10)) 14 5 (((c_a Cz12 14) (5 : Int32).toNatClampNeg) + 1))) nz14 a1 vz2 vz4 0 C) ∧ (¬ ((c_i C 13) + vz2) ≤ (c_i C 15) → Q (-1) (c_aU C 14 8 (((c_a C 14) (8 : Int32).toNatClampNeg) + 1))))
set_option maxRecDepth 100000 in
set_option maxHeartbeats 4000000 in
theorem t_X3_move (_ : Bool) (M : mS) (o : Nat → Int64) (X : List va_E) (a1 : Int32) (C : cS) (Q : Int32 → cS → Prop) (h : p_X3_move a1 C Q) : z_M q_X3_move false [.ref 218, .int a1] (wz C M o X) (zc_i M o X Q) := by
  unfold p_X3_move at h
  refine z_enter (by decide) (Nat.le_of_ble_eq_true rfl) ?_
  refine z_aload_n 0 1 dX3_move_0 rfl rfl ?_
  refine gr_18_3 4 dX3_move_1 of_X3_31 rfl ?_
  refine z_iload_n 1 5 dX3_move_4 rfl rfl ?_
  obtain ⟨hbz1, h⟩ := h
  refine gca_11 ((c_a C 11) a1.toNatClampNeg) 6 dX3_move_5 hbz1 rfl rfl ?_
  refine z_iconst 2 7 dX3_move_6 rfl rfl ?_
  refine z_iadd 8 dX3_move_7 rfl ?_
  refine z_topi (fun vz2 hvz2 => ?_)
  replace h := h vz2 hvz2
  refine z_istore_n [(2, .int vz2), (0, .ref 218), (1, .int a1)] 9 dX3_move_8 (Nat.le_of_ble_eq_true rfl) rfl rfl ?_
  refine z_aload_n 1 10 dX3_move_9 rfl rfl ?_
  refine gci_13 (c_i C 13) 13 dX3_move_10 of_X3_65 rfl rfl ?_
  refine z_iload_n 0 14 dX3_move_13 rfl rfl ?_
  refine z_iadd 15 dX3_move_14 rfl ?_
  refine z_aload_n 1 16 dX3_move_15 rfl rfl ?_
  refine gci_15 (c_i C 15) 19 dX3_move_16 of_X3_34 rfl rfl ?_
  refine z_icmp_le 35 22 dX3_move_19 rfl rfl (fun hcz3 => ?_) (fun hcz3 => ?_)
  · replace h := h.1 hcz3
    refine z_aload_n 1 36 dX3_move_35 rfl rfl ?_
    refine gci_12 (c_i C 12) 39 dX3_move_36 of_X3_68 rfl rfl ?_
    refine z_aload_n 1 40 dX3_move_39 rfl rfl ?_
    refine gci_9 (c_i C 9) 43 dX3_move_40 of_X3_21 rfl rfl ?_
    refine z_imul 44 dX3_move_43 rfl ?_
    refine z_aload_n 1 45 dX3_move_44 rfl rfl ?_
    refine gci_13 (c_i C 13) 48 dX3_move_45 of_X3_65 rfl rfl ?_
    refine z_iadd 49 dX3_move_48 rfl ?_
    refine z_topi (fun vz4 hvz4 => ?_)
    replace h := h vz4 hvz4
    refine z_istore_n [(3, .int vz4), (2, .int vz2), (0, .ref 218), (1, .int a1)] 50 dX3_move_49 (Nat.le_of_ble_eq_true rfl) rfl rfl ?_
    refine z_iconst 0 51 dX3_move_50 rfl rfl ?_
    refine z_istore [(4, .int 0), (3, .int vz4), (2, .int vz2), (0, .ref 218), (1, .int a1)] 53 dX3_move_51 (Nat.le_of_ble_eq_true rfl) rfl rfl ?_
    obtain ⟨nz14, h⟩ := h
    refine z_pick [(1, .int a1), (2, .int vz2), (3, .int vz4), (4, .int 0), (0, .ref 218)] [4, 2, 1, 0, 3] rfl ?_
    refine tw_X3_move_53 false M o X Q _ (fun lz9 lz10 lz11 Cz12 h => ?_) nz14 a1 vz2 vz4 0 C h
    · refine z_aload_n 3 102 dX3_move_101 rfl rfl ?_
      refine gr_18_2 105 dX3_move_102 of_X3_28 rfl ?_
      refine z_iload_n 0 106 dX3_move_105 rfl rfl ?_
      refine z_bipush 6 108 dX3_move_106 rfl rfl ?_
      obtain ⟨hbz13, h⟩ := h
      refine pca_10 109 dX3_move_108 hbz13 rfl ?_
      refine z_aload_n 3 110 dX3_move_109 rfl rfl ?_
      refine gr_18_3 113 dX3_move_110 of_X3_31 rfl ?_
      refine z_iload_n 0 114 dX3_move_113 rfl rfl ?_
      refine z_iload_n 2 115 dX3_move_114 rfl rfl ?_
      refine pca_11 116 dX3_move_115 hbz13 rfl ?_
      refine z_aload_n 3 117 dX3_move_116 rfl rfl ?_
      refine z_dup rfl 118 dX3_move_117 rfl ?_
      refine gci_13 (c_i Cz12 13) 121 dX3_move_118 of_X3_65 rfl rfl ?_
      refine z_iload_n 1 122 dX3_move_121 rfl rfl ?_
      refine z_iadd 123 dX3_move_122 rfl ?_
      refine pci_13 126 dX3_move_123 op_X3_65 rfl ?_
      refine z_aload_n 3 127 dX3_move_126 rfl rfl ?_
      refine gr_18_11 130 dX3_move_127 of_X3_18 rfl ?_
      refine z_iconst 5 131 dX3_move_130 rfl rfl ?_
      refine z_dup2 rfl rfl 132 dX3_move_131 rfl ?_
      refine gca_14 ((c_a Cz12 14) (5 : Int32).toNatClampNeg) 133 dX3_move_132 (z_lit rfl) rfl rfl ?_
      refine z_iconst 1 134 dX3_move_133 rfl rfl ?_
      refine z_iadd 135 dX3_move_134 rfl ?_
      refine pca_14 136 dX3_move_135 (z_lit rfl) rfl ?_
      refine z_iload_n 2 137 dX3_move_136 rfl rfl ?_
      exact z_iret dX3_move_137 rfl ⟨Nat.le_refl _, Nat.le_refl _⟩ ⟨lz11, (c_aU (c_iS (c_aU (c_aU Cz12 10 lz9 6) 11 lz9 lz11) 13 ((c_i Cz12 13) + lz10)) 14 5 (((c_a Cz12 14) (5 : Int32).toNatClampNeg) + 1)), rfl, rfl, h⟩
  · replace h := h.2 hcz3
    refine z_aload_n 1 23 dX3_move_22 rfl rfl ?_
    refine gr_18_11 26 dX3_move_23 of_X3_18 rfl ?_
    refine z_bipush 8 28 dX3_move_26 rfl rfl ?_
    refine z_dup2 rfl rfl 29 dX3_move_28 rfl ?_
    refine gca_14 ((c_a C 14) (8 : Int32).toNatClampNeg) 30 dX3_move_29 (z_lit rfl) rfl rfl ?_
    refine z_iconst 1 31 dX3_move_30 rfl rfl ?_
    refine z_iadd 32 dX3_move_31 rfl ?_
    refine pca_14 33 dX3_move_32 (z_lit rfl) rfl ?_
    refine z_iconst (-1) 34 dX3_move_33 rfl rfl ?_
    exact z_iret dX3_move_34 rfl ⟨Nat.le_refl _, Nat.le_refl _⟩ ⟨(-1), (c_aU C 14 8 (((c_a C 14) (8 : Int32).toNatClampNeg) + 1)), rfl, rfl, h⟩
def p_X3_bringH (a3 : Int32) (C : cS) (Q : Int32 → cS → Prop) : Prop :=
  vp_in a3 (2 * c_sz C) ∧ ((((c_a C 10) a3.toNatClampNeg) = 2 → p_X3_home ((c_a C 11) a3.toNatClampNeg) C (fun rz4 Cz3 => p_X3_halfOf rz4 Cz3 (fun rz6 Cz5 => ((¬ rz6 = (c_i Cz5 12) → p_X3_move rz4 Cz5 (fun rz9 Cz8 => ((¬ rz9 = (-1) → vp_in a3 (2 * c_sz Cz8) ∧ Q 1 (c_aU Cz8 11 a3 rz9)) ∧ (rz9 = (-1) → Q 0 Cz8)))) ∧ (rz6 = (c_i Cz5 12) → ((¬ rz4 = (-1) → vp_in a3 (2 * c_sz Cz5) ∧ Q 1 (c_aU Cz5 11 a3 rz4)) ∧ (rz4 = (-1) → Q 0 Cz5))))))) ∧ (¬ ((c_a C 10) a3.toNatClampNeg) = 2 → Q 1 C))
set_option maxRecDepth 100000 in
set_option maxHeartbeats 4000000 in
theorem t_X3_bringH (_ : Bool) (M : mS) (o : Nat → Int64) (X : List va_E) (a3 : Int32) (C : cS) (Q : Int32 → cS → Prop) (h : p_X3_bringH a3 C Q) : z_M q_X3_bring false [.ref 218, .ref 222, .ref 223, .int a3] (wz C M o X) (zc_i M o X Q) := by
  unfold p_X3_bringH at h
  refine z_enter (by decide) (Nat.le_of_ble_eq_true rfl) ?_
  refine z_aload_n 1 1 dX3_bring_0 rfl rfl ?_
  refine z_iload_n 3 2 dX3_bring_1 rfl rfl ?_
  obtain ⟨hbz1, h⟩ := h
  refine gca_10 ((c_a C 10) a3.toNatClampNeg) 3 dX3_bring_2 hbz1 rfl rfl ?_
  refine z_iconst 2 4 dX3_bring_3 rfl rfl ?_
  refine z_icmp_eq 9 7 dX3_bring_4 rfl rfl (fun hcz2 => ?_) (fun hcz2 => ?_)
  · replace h := h.1 hcz2
    refine z_aload_n 0 10 dX3_bring_9 rfl rfl ?_
    refine z_aload_n 2 11 dX3_bring_10 rfl rfl ?_
    refine z_iload_n 3 12 dX3_bring_11 rfl rfl ?_
    refine gca_11 ((c_a C 11) a3.toNatClampNeg) 13 dX3_bring_12 hbz1 rfl rfl ?_
    refine z_ciV [.int ((c_a C 11) a3.toNatClampNeg)] 16 dX3_bring_13 ok_X3_bring_40 rfl rfl (Nat.le_of_ble_eq_true rfl) rc_18 ⟨rfl, rfl⟩ ⟨Nat.le_refl _, Nat.le_refl _⟩ rfl (t_X3_home false M o X ((c_a C 11) a3.toNatClampNeg) C _ h) (fun rz4 Cz3 h => ?_)
    refine z_istore [(4, .int rz4), (0, .ref 218), (1, .ref 222), (2, .ref 223), (3, .int a3)] 18 dX3_bring_16 (Nat.le_of_ble_eq_true rfl) rfl rfl ?_
    refine z_aload_n 1 19 dX3_bring_18 rfl rfl ?_
    refine z_iload 0 21 dX3_bring_19 rfl rfl ?_
    refine z_ciV [.int rz4] 24 dX3_bring_21 ok_X3_bring_54 rfl rfl (Nat.le_of_ble_eq_true rfl) rc_18 ⟨rfl, rfl⟩ ⟨Nat.le_refl _, Nat.le_refl _⟩ rfl (t_X3_halfOf false M o X rz4 Cz3 _ h) (fun rz6 Cz5 h => ?_)
    refine z_aload_n 1 25 dX3_bring_24 rfl rfl ?_
    refine gci_12 (c_i Cz5 12) 28 dX3_bring_25 of_X3_68 rfl rfl ?_
    refine z_icmp_ne 36 31 dX3_bring_28 rfl rfl (fun hcz7 => ?_) (fun hcz7 => ?_)
    · replace h := h.1 hcz7
      refine z_aload_n 1 37 dX3_bring_36 rfl rfl ?_
      refine z_iload 0 39 dX3_bring_37 rfl rfl ?_
      refine z_ciV [.int rz4] 42 dX3_bring_39 ok_X3_bring_71 rfl rfl (Nat.le_of_ble_eq_true rfl) rc_18 ⟨rfl, rfl⟩ ⟨Nat.le_refl _, Nat.le_refl _⟩ rfl (t_X3_move false M o X rz4 Cz5 _ h) (fun rz9 Cz8 h => ?_)
      refine z_istore [(5, .int rz9), (4, .int rz4), (0, .ref 218), (1, .ref 222), (2, .ref 223), (3, .int a3)] 44 dX3_bring_42 (Nat.le_of_ble_eq_true rfl) rfl rfl ?_
      refine z_iload 0 46 dX3_bring_44 rfl rfl ?_
      refine z_iconst (-1) 47 dX3_bring_46 rfl rfl ?_
      refine z_icmp_ne 52 50 dX3_bring_47 rfl rfl (fun hcz10 => ?_) (fun hcz10 => ?_)
      · replace h := h.1 hcz10
        refine z_aload_n 4 53 dX3_bring_52 rfl rfl ?_
        refine z_iload_n 5 54 dX3_bring_53 rfl rfl ?_
        refine z_iload 0 56 dX3_bring_54 rfl rfl ?_
        obtain ⟨hbz11, h⟩ := h
        refine pca_11 57 dX3_bring_56 hbz11 rfl ?_
        refine z_iconst 1 58 dX3_bring_57 rfl rfl ?_
        exact z_zret dX3_bring_58 rfl rfl ⟨Nat.le_refl _, Nat.le_refl _⟩ ⟨1, (c_aU Cz8 11 a3 rz9), rfl, rfl, h⟩
      · replace h := h.2 hcz10
        refine z_iconst 0 51 dX3_bring_50 rfl rfl ?_
        exact z_zret dX3_bring_51 rfl rfl ⟨Nat.le_refl _, Nat.le_refl _⟩ ⟨0, Cz8, rfl, rfl, h⟩
    · replace h := h.2 hcz7
      refine z_iload 0 33 dX3_bring_31 rfl rfl ?_
      refine z_goto 42 dX3_bring_33 rfl ?_
      refine z_istore [(5, .int rz4), (4, .int rz4), (0, .ref 218), (1, .ref 222), (2, .ref 223), (3, .int a3)] 44 dX3_bring_42 (Nat.le_of_ble_eq_true rfl) rfl rfl ?_
      refine z_iload 0 46 dX3_bring_44 rfl rfl ?_
      refine z_iconst (-1) 47 dX3_bring_46 rfl rfl ?_
      refine z_icmp_ne 52 50 dX3_bring_47 rfl rfl (fun hcz12 => ?_) (fun hcz12 => ?_)
      · replace h := h.1 hcz12
        refine z_aload_n 4 53 dX3_bring_52 rfl rfl ?_
        refine z_iload_n 5 54 dX3_bring_53 rfl rfl ?_
        refine z_iload 0 56 dX3_bring_54 rfl rfl ?_
        obtain ⟨hbz13, h⟩ := h
        refine pca_11 57 dX3_bring_56 hbz13 rfl ?_
        refine z_iconst 1 58 dX3_bring_57 rfl rfl ?_
        exact z_zret dX3_bring_58 rfl rfl ⟨Nat.le_refl _, Nat.le_refl _⟩ ⟨1, (c_aU Cz5 11 a3 rz4), rfl, rfl, h⟩
      · replace h := h.2 hcz12
        refine z_iconst 0 51 dX3_bring_50 rfl rfl ?_
        exact z_zret dX3_bring_51 rfl rfl ⟨Nat.le_refl _, Nat.le_refl _⟩ ⟨0, Cz5, rfl, rfl, h⟩
  · replace h := h.2 hcz2
    refine z_iconst 1 8 dX3_bring_7 rfl rfl ?_
    exact z_zret dX3_bring_8 rfl rfl ⟨Nat.le_refl _, Nat.le_refl _⟩ ⟨1, C, rfl, rfl, h⟩
def p_X3_bringR (a3 : Int32) (C : cS) (Q : Int32 → cS → Prop) : Prop :=
  vp_in a3 58 ∧ ((((c_a C 12) a3.toNatClampNeg) = 2 → p_X3_home ((c_a C 13) a3.toNatClampNeg) C (fun rz4 Cz3 => p_X3_halfOf rz4 Cz3 (fun rz6 Cz5 => ((¬ rz6 = (c_i Cz5 12) → p_X3_move rz4 Cz5 (fun rz9 Cz8 => ((¬ rz9 = (-1) → Q 1 (c_aU Cz8 13 a3 rz9)) ∧ (rz9 = (-1) → Q 0 Cz8)))) ∧ (rz6 = (c_i Cz5 12) → ((¬ rz4 = (-1) → Q 1 (c_aU Cz5 13 a3 rz4)) ∧ (rz4 = (-1) → Q 0 Cz5))))))) ∧ (¬ ((c_a C 12) a3.toNatClampNeg) = 2 → Q 1 C))
set_option maxRecDepth 100000 in
set_option maxHeartbeats 4000000 in
theorem t_X3_bringR (_ : Bool) (M : mS) (o : Nat → Int64) (X : List va_E) (a3 : Int32) (C : cS) (Q : Int32 → cS → Prop) (h : p_X3_bringR a3 C Q) : z_M q_X3_bring false [.ref 218, .ref 219, .ref 220, .int a3] (wz C M o X) (zc_i M o X Q) := by
  unfold p_X3_bringR at h
  refine z_enter (by decide) (Nat.le_of_ble_eq_true rfl) ?_
  refine z_aload_n 1 1 dX3_bring_0 rfl rfl ?_
  refine z_iload_n 3 2 dX3_bring_1 rfl rfl ?_
  obtain ⟨hbz1, h⟩ := h
  refine gca_12 ((c_a C 12) a3.toNatClampNeg) 3 dX3_bring_2 hbz1 rfl rfl ?_
  refine z_iconst 2 4 dX3_bring_3 rfl rfl ?_
  refine z_icmp_eq 9 7 dX3_bring_4 rfl rfl (fun hcz2 => ?_) (fun hcz2 => ?_)
  · replace h := h.1 hcz2
    refine z_aload_n 0 10 dX3_bring_9 rfl rfl ?_
    refine z_aload_n 2 11 dX3_bring_10 rfl rfl ?_
    refine z_iload_n 3 12 dX3_bring_11 rfl rfl ?_
    refine gca_13 ((c_a C 13) a3.toNatClampNeg) 13 dX3_bring_12 hbz1 rfl rfl ?_
    refine z_ciV [.int ((c_a C 13) a3.toNatClampNeg)] 16 dX3_bring_13 ok_X3_bring_40 rfl rfl (Nat.le_of_ble_eq_true rfl) rc_18 ⟨rfl, rfl⟩ ⟨Nat.le_refl _, Nat.le_refl _⟩ rfl (t_X3_home false M o X ((c_a C 13) a3.toNatClampNeg) C _ h) (fun rz4 Cz3 h => ?_)
    refine z_istore [(4, .int rz4), (0, .ref 218), (1, .ref 219), (2, .ref 220), (3, .int a3)] 18 dX3_bring_16 (Nat.le_of_ble_eq_true rfl) rfl rfl ?_
    refine z_aload_n 1 19 dX3_bring_18 rfl rfl ?_
    refine z_iload 0 21 dX3_bring_19 rfl rfl ?_
    refine z_ciV [.int rz4] 24 dX3_bring_21 ok_X3_bring_54 rfl rfl (Nat.le_of_ble_eq_true rfl) rc_18 ⟨rfl, rfl⟩ ⟨Nat.le_refl _, Nat.le_refl _⟩ rfl (t_X3_halfOf false M o X rz4 Cz3 _ h) (fun rz6 Cz5 h => ?_)
    refine z_aload_n 1 25 dX3_bring_24 rfl rfl ?_
    refine gci_12 (c_i Cz5 12) 28 dX3_bring_25 of_X3_68 rfl rfl ?_
    refine z_icmp_ne 36 31 dX3_bring_28 rfl rfl (fun hcz7 => ?_) (fun hcz7 => ?_)
    · replace h := h.1 hcz7
      refine z_aload_n 1 37 dX3_bring_36 rfl rfl ?_
      refine z_iload 0 39 dX3_bring_37 rfl rfl ?_
      refine z_ciV [.int rz4] 42 dX3_bring_39 ok_X3_bring_71 rfl rfl (Nat.le_of_ble_eq_true rfl) rc_18 ⟨rfl, rfl⟩ ⟨Nat.le_refl _, Nat.le_refl _⟩ rfl (t_X3_move false M o X rz4 Cz5 _ h) (fun rz9 Cz8 h => ?_)
      refine z_istore [(5, .int rz9), (4, .int rz4), (0, .ref 218), (1, .ref 219), (2, .ref 220), (3, .int a3)] 44 dX3_bring_42 (Nat.le_of_ble_eq_true rfl) rfl rfl ?_
      refine z_iload 0 46 dX3_bring_44 rfl rfl ?_
      refine z_iconst (-1) 47 dX3_bring_46 rfl rfl ?_
      refine z_icmp_ne 52 50 dX3_bring_47 rfl rfl (fun hcz10 => ?_) (fun hcz10 => ?_)
      · replace h := h.1 hcz10
        refine z_aload_n 4 53 dX3_bring_52 rfl rfl ?_
        refine z_iload_n 5 54 dX3_bring_53 rfl rfl ?_
        refine z_iload 0 56 dX3_bring_54 rfl rfl ?_
        refine pca_13 57 dX3_bring_56 hbz1 rfl ?_
        refine z_iconst 1 58 dX3_bring_57 rfl rfl ?_
        exact z_zret dX3_bring_58 rfl rfl ⟨Nat.le_refl _, Nat.le_refl _⟩ ⟨1, (c_aU Cz8 13 a3 rz9), rfl, rfl, h⟩
      · replace h := h.2 hcz10
        refine z_iconst 0 51 dX3_bring_50 rfl rfl ?_
        exact z_zret dX3_bring_51 rfl rfl ⟨Nat.le_refl _, Nat.le_refl _⟩ ⟨0, Cz8, rfl, rfl, h⟩
    · replace h := h.2 hcz7
      refine z_iload 0 33 dX3_bring_31 rfl rfl ?_
      refine z_goto 42 dX3_bring_33 rfl ?_
      refine z_istore [(5, .int rz4), (4, .int rz4), (0, .ref 218), (1, .ref 219), (2, .ref 220), (3, .int a3)] 44 dX3_bring_42 (Nat.le_of_ble_eq_true rfl) rfl rfl ?_
      refine z_iload 0 46 dX3_bring_44 rfl rfl ?_
      refine z_iconst (-1) 47 dX3_bring_46 rfl rfl ?_
      refine z_icmp_ne 52 50 dX3_bring_47 rfl rfl (fun hcz11 => ?_) (fun hcz11 => ?_)
      · replace h := h.1 hcz11
        refine z_aload_n 4 53 dX3_bring_52 rfl rfl ?_
        refine z_iload_n 5 54 dX3_bring_53 rfl rfl ?_
        refine z_iload 0 56 dX3_bring_54 rfl rfl ?_
        refine pca_13 57 dX3_bring_56 hbz1 rfl ?_
        refine z_iconst 1 58 dX3_bring_57 rfl rfl ?_
        exact z_zret dX3_bring_58 rfl rfl ⟨Nat.le_refl _, Nat.le_refl _⟩ ⟨1, (c_aU Cz5 13 a3 rz4), rfl, rfl, h⟩
      · replace h := h.2 hcz11
        refine z_iconst 0 51 dX3_bring_50 rfl rfl ?_
        exact z_zret dX3_bring_51 rfl rfl ⟨Nat.le_refl _, Nat.le_refl _⟩ ⟨0, Cz5, rfl, rfl, h⟩
  · replace h := h.2 hcz2
    refine z_iconst 1 8 dX3_bring_7 rfl rfl ?_
    exact z_zret dX3_bring_8 rfl rfl ⟨Nat.le_refl _, Nat.le_refl _⟩ ⟨1, C, rfl, rfl, h⟩
def b_X3_passWords_5 (R9 : Int32 → Int32 → cS → Prop) (Q : Int32 → cS → Prop) (K68 : Int32 → cS → Prop) (l1 : Int32) (l2 : Int32) (C : cS) : Prop :=
  ((l1 ≤ ((c_i C 14) - l2) → K68 l2 C) ∧ (¬ l1 ≤ ((c_i C 14) - l2) → (((c_i C 13) ≤ (c_i C 14) → K68 l2 C) ∧ (¬ (c_i C 13) ≤ (c_i C 14) → p_X3_bringH (((c_i C 12) * (c_i C 9)) + (c_i C 14)) C (fun rz5 Cz4 => ((rz5 = 0 → K68 l2 Cz4) ∧ (¬ rz5 = 0 → R9 l1 l2 (c_iS Cz4 14 ((c_i Cz4 14) + 1)))))))))
def w_X3_passWords_5 (Q : Int32 → cS → Prop) (K68 : Int32 → cS → Prop) : Nat → Int32 → Int32 → cS → Prop
 | 0 => fun _ _ _ => False
 | n + 1 => fun l1 l2 C => b_X3_passWords_5 (w_X3_passWords_5 Q K68 n) Q K68 l1 l2 C
set_option maxRecDepth 100000 in
set_option maxHeartbeats 4000000 in
theorem tb_X3_passWords_5 (_ : Bool) (M : mS) (o : Nat → Int64) (X : List va_E) (R9 : Int32 → Int32 → cS → Prop) (Q : Int32 → cS → Prop) (K68 : Int32 → cS → Prop) (hR9 : ∀ (l1 : Int32) (l2 : Int32) (C : cS), R9 l1 l2 C → z_go q_X3_passWords false 5 [(1, .int l1), (2, .int l2), (0, .ref 218)] [] (wz C M o X) 0 0 (zc_i M o X Q)) (hK68 : ∀ (l2 : Int32) (C : cS), K68 l2 C → z_go q_X3_passWords false 68 [(2, .int l2), (0, .ref 218)] [] (wz C M o X) 0 0 (zc_i M o X Q)) (l1 : Int32) (l2 : Int32) (C : cS) (h : b_X3_passWords_5 R9 Q K68 l1 l2 C) : z_go q_X3_passWords false 5 [(1, .int l1), (2, .int l2), (0, .ref 218)] [] (wz C M o X) 0 0 (zc_i M o X Q) := by
  unfold b_X3_passWords_5 at h
  refine z_aload_n 2 6 dX3_passWords_5 rfl rfl ?_
  refine gci_14 (c_i C 14) 9 dX3_passWords_6 of_X3_74 rfl rfl ?_
  refine z_iload_n 1 10 dX3_passWords_9 rfl rfl ?_
  refine z_isub 11 dX3_passWords_10 rfl ?_
  refine z_iload_n 0 12 dX3_passWords_11 rfl rfl ?_
  refine z_icmp_ge 68 15 dX3_passWords_12 rfl rfl (fun hcz2 => ?_) (fun hcz2 => ?_)
  · replace h := h.1 hcz2
    refine z_pick [(2, .int l2), (0, .ref 218)] [1, 2] rfl ?_
    exact hK68 l2 C h
  · replace h := h.2 hcz2
    refine z_aload_n 2 16 dX3_passWords_15 rfl rfl ?_
    refine gci_14 (c_i C 14) 19 dX3_passWords_16 of_X3_74 rfl rfl ?_
    refine z_aload_n 2 20 dX3_passWords_19 rfl rfl ?_
    refine gci_13 (c_i C 13) 23 dX3_passWords_20 of_X3_65 rfl rfl ?_
    refine z_icmp_ge 68 26 dX3_passWords_23 rfl rfl (fun hcz3 => ?_) (fun hcz3 => ?_)
    · replace h := h.1 hcz3
      refine z_pick [(2, .int l2), (0, .ref 218)] [1, 2] rfl ?_
      exact hK68 l2 C h
    · replace h := h.2 hcz3
      refine z_aload_n 2 27 dX3_passWords_26 rfl rfl ?_
      refine z_aload_n 2 28 dX3_passWords_27 rfl rfl ?_
      refine gr_18_2 31 dX3_passWords_28 of_X3_28 rfl ?_
      refine z_aload_n 2 32 dX3_passWords_31 rfl rfl ?_
      refine gr_18_3 35 dX3_passWords_32 of_X3_31 rfl ?_
      refine z_aload_n 2 36 dX3_passWords_35 rfl rfl ?_
      refine gci_12 (c_i C 12) 39 dX3_passWords_36 of_X3_68 rfl rfl ?_
      refine z_aload_n 2 40 dX3_passWords_39 rfl rfl ?_
      refine gci_9 (c_i C 9) 43 dX3_passWords_40 of_X3_21 rfl rfl ?_
      refine z_imul 44 dX3_passWords_43 rfl ?_
      refine z_aload_n 2 45 dX3_passWords_44 rfl rfl ?_
      refine gci_14 (c_i C 14) 48 dX3_passWords_45 of_X3_74 rfl rfl ?_
      refine z_iadd 49 dX3_passWords_48 rfl ?_
      refine z_ciV [.ref 222, .ref 223, .int (((c_i C 12) * (c_i C 9)) + (c_i C 14))] 52 dX3_passWords_49 ok_X3_passWords_77 rfl rfl (Nat.le_of_ble_eq_true rfl) rc_18 ⟨rfl, rfl⟩ ⟨Nat.le_refl _, Nat.le_refl _⟩ rfl (t_X3_bringH false M o X (((c_i C 12) * (c_i C 9)) + (c_i C 14)) C _ h) (fun rz5 Cz4 h => ?_)
      refine z_if_eq 68 55 dX3_passWords_52 rfl rfl (fun hcz6 => ?_) (fun hcz6 => ?_)
      · replace h := h.1 hcz6
        refine z_pick [(2, .int l2), (0, .ref 218)] [1, 2] rfl ?_
        exact hK68 l2 Cz4 h
      · replace h := h.2 hcz6
        refine z_aload_n 2 56 dX3_passWords_55 rfl rfl ?_
        refine z_dup rfl 57 dX3_passWords_56 rfl ?_
        refine gci_14 (c_i Cz4 14) 60 dX3_passWords_57 of_X3_74 rfl rfl ?_
        refine z_iconst 1 61 dX3_passWords_60 rfl rfl ?_
        refine z_iadd 62 dX3_passWords_61 rfl ?_
        refine pci_14 65 dX3_passWords_62 op_X3_74 rfl ?_
        refine z_goto 5 dX3_passWords_65 rfl ?_
        refine z_pick [(1, .int l1), (2, .int l2), (0, .ref 218)] [0, 1, 2] rfl ?_
        exact hR9 l1 l2 (c_iS Cz4 14 ((c_i Cz4 14) + 1)) h
theorem tw_X3_passWords_5 (_ : Bool) (M : mS) (o : Nat → Int64) (X : List va_E) (Q : Int32 → cS → Prop) (K68 : Int32 → cS → Prop) (hK68 : ∀ (l2 : Int32) (C : cS), K68 l2 C → z_go q_X3_passWords false 68 [(2, .int l2), (0, .ref 218)] [] (wz C M o X) 0 0 (zc_i M o X Q)) : ∀ (n : Nat) (l1 : Int32) (l2 : Int32) (C : cS), w_X3_passWords_5 Q K68 n l1 l2 C → z_go q_X3_passWords false 5 [(1, .int l1), (2, .int l2), (0, .ref 218)] [] (wz C M o X) 0 0 (zc_i M o X Q) := by
  intro n
  induction n with
  | zero => intro l1 l2 C h; exact h.elim
  | succ n ih => intro l1 l2 C h; exact tb_X3_passWords_5 false M o X _ Q K68 ih hK68 l1 l2 C h
def p_X3_passWords (a1 : Int32) (C : cS) (Q : Int32 → cS → Prop) : Prop :=
  ∀ vz1 : Int32, vz1 = c_i C 14 → ∃ nz9 : Nat, w_X3_passWords_5 Q (fun lz7 Cz8 => Q ((c_i Cz8 14) - lz7) (c_aU Cz8 14 6 (((c_a Cz8 14) (6 : Int32).toNatClampNeg) + ((c_i Cz8 14) - lz7)))) nz9 a1 vz1 C
set_option maxRecDepth 100000 in
set_option maxHeartbeats 4000000 in
theorem t_X3_passWords (_ : Bool) (M : mS) (o : Nat → Int64) (X : List va_E) (a1 : Int32) (C : cS) (Q : Int32 → cS → Prop) (h : p_X3_passWords a1 C Q) : z_M q_X3_passWords false [.ref 218, .int a1] (wz C M o X) (zc_i M o X Q) := by
  unfold p_X3_passWords at h
  refine z_enter (by decide) (Nat.le_of_ble_eq_true rfl) ?_
  refine z_aload_n 0 1 dX3_passWords_0 rfl rfl ?_
  refine gci_14 (c_i C 14) 4 dX3_passWords_1 of_X3_74 rfl rfl ?_
  refine z_topi (fun vz1 hvz1 => ?_)
  replace h := h vz1 hvz1
  refine z_istore_n [(2, .int vz1), (0, .ref 218), (1, .int a1)] 5 dX3_passWords_4 (Nat.le_of_ble_eq_true rfl) rfl rfl ?_
  obtain ⟨nz9, h⟩ := h
  refine z_pick [(1, .int a1), (2, .int vz1), (0, .ref 218)] [2, 0, 1] rfl ?_
  refine tw_X3_passWords_5 false M o X Q _ (fun lz7 Cz8 h => ?_) nz9 a1 vz1 C h
  · refine z_aload_n 1 69 dX3_passWords_68 rfl rfl ?_
    refine gr_18_11 72 dX3_passWords_69 of_X3_18 rfl ?_
    refine z_bipush 6 74 dX3_passWords_72 rfl rfl ?_
    refine z_dup2 rfl rfl 75 dX3_passWords_74 rfl ?_
    refine gca_14 ((c_a Cz8 14) (6 : Int32).toNatClampNeg) 76 dX3_passWords_75 (z_lit rfl) rfl rfl ?_
    refine z_aload_n 1 77 dX3_passWords_76 rfl rfl ?_
    refine gci_14 (c_i Cz8 14) 80 dX3_passWords_77 of_X3_74 rfl rfl ?_
    refine z_iload_n 0 81 dX3_passWords_80 rfl rfl ?_
    refine z_isub 82 dX3_passWords_81 rfl ?_
    refine z_iadd 83 dX3_passWords_82 rfl ?_
    refine pca_14 84 dX3_passWords_83 (z_lit rfl) rfl ?_
    refine z_aload_n 1 85 dX3_passWords_84 rfl rfl ?_
    refine gci_14 (c_i Cz8 14) 88 dX3_passWords_85 of_X3_74 rfl rfl ?_
    refine z_iload_n 0 89 dX3_passWords_88 rfl rfl ?_
    refine z_isub 90 dX3_passWords_89 rfl ?_
    exact z_iret dX3_passWords_90 rfl ⟨Nat.le_refl _, Nat.le_refl _⟩ ⟨(c_i Cz8 14) - lz7, (c_aU Cz8 14 6 (((c_a Cz8 14) (6 : Int32).toNatClampNeg) + ((c_i Cz8 14) - lz7))), rfl, rfl, h⟩
def p_X3_roots (C : cS) (Q : Int32 → cS → Prop) : Prop :=
  Q (8 + (c_i C 11)) C
set_option maxRecDepth 100000 in
set_option maxHeartbeats 4000000 in
theorem t_X3_roots (tg : Bool) (M : mS) (o : Nat → Int64) (X : List va_E) (C : cS) (Q : Int32 → cS → Prop) (h : p_X3_roots C Q) : z_M q_X3_roots tg [.ref 218] (wz C M o X) (zc_i M o X Q) := by
  unfold p_X3_roots at h
  refine z_enter (by decide) (Nat.le_of_ble_eq_true rfl) ?_
  refine z_bipush 8 2 dX3_roots_0 rfl rfl ?_
  refine z_aload_n 0 3 dX3_roots_2 rfl rfl ?_
  refine gci_11 (c_i C 11) 6 dX3_roots_3 of_X3_37 rfl rfl ?_
  refine z_iadd 7 dX3_roots_6 rfl ?_
  exact z_iret dX3_roots_7 rfl ⟨Nat.le_refl _, Nat.le_refl _⟩ ⟨8 + (c_i C 11), C, rfl, rfl, h⟩
def b_X3_turnOver_37 (R9 : Int32 → Int32 → cS → Prop) (Q : cS → Prop) (K65 : Int32 → cS → Prop) (l1 : Int32) (l2 : Int32) (C : cS) : Prop :=
  p_X3_roots C (fun rz3 Cz2 => ((rz3 ≤ l2 → K65 l1 Cz2) ∧ (¬ rz3 ≤ l2 → p_X3_bringR l2 Cz2 (fun rz6 Cz5 => ∀ vz7 : Int32, vz7 = l2 + 1 → R9 l1 vz7 Cz5))))
def w_X3_turnOver_37 (Q : cS → Prop) (K65 : Int32 → cS → Prop) : Nat → Int32 → Int32 → cS → Prop
 | 0 => fun _ _ _ => False
 | n + 1 => fun l1 l2 C => b_X3_turnOver_37 (w_X3_turnOver_37 Q K65 n) Q K65 l1 l2 C
set_option maxRecDepth 100000 in
set_option maxHeartbeats 4000000 in
theorem tb_X3_turnOver_37 (_ : Bool) (M : mS) (o : Nat → Int64) (X : List va_E) (R9 : Int32 → Int32 → cS → Prop) (Q : cS → Prop) (K65 : Int32 → cS → Prop) (hR9 : ∀ (l1 : Int32) (l2 : Int32) (C : cS), R9 l1 l2 C → z_go q_X3_turnOver false 37 [(1, .int l1), (2, .int l2), (0, .ref 218)] [] (wz C M o X) 0 0 (zc_v M o X Q)) (hK65 : ∀ (l1 : Int32) (C : cS), K65 l1 C → z_go q_X3_turnOver false 65 [(1, .int l1), (0, .ref 218)] [] (wz C M o X) 0 0 (zc_v M o X Q)) (l1 : Int32) (l2 : Int32) (C : cS) (h : b_X3_turnOver_37 R9 Q K65 l1 l2 C) : z_go q_X3_turnOver false 37 [(1, .int l1), (2, .int l2), (0, .ref 218)] [] (wz C M o X) 0 0 (zc_v M o X Q) := by
  unfold b_X3_turnOver_37 at h
  refine z_iload_n 1 38 dX3_turnOver_37 rfl rfl ?_
  refine z_aload_n 2 39 dX3_turnOver_38 rfl rfl ?_
  refine z_ciV [] 42 dX3_turnOver_39 ok_X3_turnOver_81 rfl rfl (Nat.le_of_ble_eq_true rfl) rc_18 ⟨rfl, rfl⟩ ⟨Nat.le_refl _, Nat.le_refl _⟩ rfl (t_X3_roots false M o X  C _ h) (fun rz3 Cz2 h => ?_)
  refine z_icmp_ge 65 45 dX3_turnOver_42 rfl rfl (fun hcz4 => ?_) (fun hcz4 => ?_)
  · replace h := h.1 hcz4
    refine z_pick [(1, .int l1), (0, .ref 218)] [0, 2] rfl ?_
    exact hK65 l1 Cz2 h
  · replace h := h.2 hcz4
    refine z_aload_n 2 46 dX3_turnOver_45 rfl rfl ?_
    refine z_aload_n 2 47 dX3_turnOver_46 rfl rfl ?_
    refine gr_18_4 50 dX3_turnOver_47 of_X3_9 rfl ?_
    refine z_aload_n 2 51 dX3_turnOver_50 rfl rfl ?_
    refine gr_18_5 54 dX3_turnOver_51 of_X3_15 rfl ?_
    refine z_iload_n 1 55 dX3_turnOver_54 rfl rfl ?_
    refine z_ciV [.ref 219, .ref 220, .int l2] 58 dX3_turnOver_55 ok_X3_turnOver_77 rfl rfl (Nat.le_of_ble_eq_true rfl) rc_18 ⟨rfl, rfl⟩ ⟨Nat.le_refl _, Nat.le_refl _⟩ rfl (t_X3_bringR false M o X l2 Cz2 _ h) (fun rz6 Cz5 h => ?_)
    refine z_pop rfl 59 dX3_turnOver_58 rfl ?_
    obtain ⟨vz7, hvz7⟩ : ∃ v : Int32, v = l2 + 1 := ⟨_, rfl⟩
    replace h := h vz7 hvz7
    refine z_iinc vz7 [(2, .int vz7), (1, .int l1), (0, .ref 218)] 1 62 dX3_turnOver_59 rfl hvz7.symm (Nat.le_of_ble_eq_true rfl) rfl rfl ?_
    refine z_goto 37 dX3_turnOver_62 rfl ?_
    refine z_pick [(1, .int l1), (2, .int vz7), (0, .ref 218)] [1, 0, 2] rfl ?_
    exact hR9 l1 vz7 Cz5 h
theorem tw_X3_turnOver_37 (_ : Bool) (M : mS) (o : Nat → Int64) (X : List va_E) (Q : cS → Prop) (K65 : Int32 → cS → Prop) (hK65 : ∀ (l1 : Int32) (C : cS), K65 l1 C → z_go q_X3_turnOver false 65 [(1, .int l1), (0, .ref 218)] [] (wz C M o X) 0 0 (zc_v M o X Q)) : ∀ (n : Nat) (l1 : Int32) (l2 : Int32) (C : cS), w_X3_turnOver_37 Q K65 n l1 l2 C → z_go q_X3_turnOver false 37 [(1, .int l1), (2, .int l2), (0, .ref 218)] [] (wz C M o X) 0 0 (zc_v M o X Q) := by
  intro n
  induction n with
  | zero => intro l1 l2 C h; exact h.elim
  | succ n ih => intro l1 l2 C h; exact tb_X3_turnOver_37 false M o X _ Q K65 ih hK65 l1 l2 C h
def p_X3_turnOver (C : cS) (Q : cS → Prop) : Prop :=
  ∀ vz1 : Int32, vz1 = (c_a C 14) (5 : Int32).toNatClampNeg → ∃ nz10 : Nat, w_X3_turnOver_37 Q (fun lz8 Cz9 => Q (c_aU (c_aU Cz9 14 4 (((c_a Cz9 14) (4 : Int32).toNatClampNeg) + 1)) 14 12 (((upd (c_a Cz9 14) (4 : Int32).toNatClampNeg (((c_a Cz9 14) (4 : Int32).toNatClampNeg) + 1)) (5 : Int32).toNatClampNeg) - lz8))) nz10 vz1 0 (c_iS (c_iS (c_iS (c_iS C 12 (1 - (c_i C 12))) 13 0) 14 0) 15 (c_i C 9))
set_option maxRecDepth 100000 in
set_option maxHeartbeats 4000000 in
theorem t_X3_turnOver (_ : Bool) (M : mS) (o : Nat → Int64) (X : List va_E) (C : cS) (Q : cS → Prop) (h : p_X3_turnOver C Q) : z_M q_X3_turnOver false [.ref 218] (wz C M o X) (zc_v M o X Q) := by
  unfold p_X3_turnOver at h
  refine z_enter (by decide) (Nat.le_of_ble_eq_true rfl) ?_
  refine z_aload_n 0 1 dX3_turnOver_0 rfl rfl ?_
  refine gr_18_11 4 dX3_turnOver_1 of_X3_18 rfl ?_
  refine z_iconst 5 5 dX3_turnOver_4 rfl rfl ?_
  refine gca_14 ((c_a C 14) (5 : Int32).toNatClampNeg) 6 dX3_turnOver_5 (z_lit rfl) rfl rfl ?_
  refine z_topi (fun vz1 hvz1 => ?_)
  replace h := h vz1 hvz1
  refine z_istore_n [(1, .int vz1), (0, .ref 218)] 7 dX3_turnOver_6 (Nat.le_of_ble_eq_true rfl) rfl rfl ?_
  refine z_aload_n 1 8 dX3_turnOver_7 rfl rfl ?_
  refine z_iconst 1 9 dX3_turnOver_8 rfl rfl ?_
  refine z_aload_n 1 10 dX3_turnOver_9 rfl rfl ?_
  refine gci_12 (c_i C 12) 13 dX3_turnOver_10 of_X3_68 rfl rfl ?_
  refine z_isub 14 dX3_turnOver_13 rfl ?_
  refine pci_12 17 dX3_turnOver_14 op_X3_68 rfl ?_
  refine z_aload_n 1 18 dX3_turnOver_17 rfl rfl ?_
  refine z_iconst 0 19 dX3_turnOver_18 rfl rfl ?_
  refine pci_13 22 dX3_turnOver_19 op_X3_65 rfl ?_
  refine z_aload_n 1 23 dX3_turnOver_22 rfl rfl ?_
  refine z_iconst 0 24 dX3_turnOver_23 rfl rfl ?_
  refine pci_14 27 dX3_turnOver_24 op_X3_74 rfl ?_
  refine z_aload_n 1 28 dX3_turnOver_27 rfl rfl ?_
  refine z_aload_n 1 29 dX3_turnOver_28 rfl rfl ?_
  refine gci_9 (c_i C 9) 32 dX3_turnOver_29 of_X3_21 rfl rfl ?_
  refine pci_15 35 dX3_turnOver_32 op_X3_34 rfl ?_
  refine z_iconst 0 36 dX3_turnOver_35 rfl rfl ?_
  refine z_istore_n [(2, .int 0), (1, .int vz1), (0, .ref 218)] 37 dX3_turnOver_36 (Nat.le_of_ble_eq_true rfl) rfl rfl ?_
  obtain ⟨nz10, h⟩ := h
  refine z_pick [(1, .int vz1), (2, .int 0), (0, .ref 218)] [1, 0, 2] rfl ?_
  refine tw_X3_turnOver_37 false M o X Q _ (fun lz8 Cz9 h => ?_) nz10 vz1 0 (c_iS (c_iS (c_iS (c_iS C 12 (1 - (c_i C 12))) 13 0) 14 0) 15 (c_i C 9)) h
  · refine z_aload_n 1 66 dX3_turnOver_65 rfl rfl ?_
    refine gr_18_11 69 dX3_turnOver_66 of_X3_18 rfl ?_
    refine z_iconst 4 70 dX3_turnOver_69 rfl rfl ?_
    refine z_dup2 rfl rfl 71 dX3_turnOver_70 rfl ?_
    refine gca_14 ((c_a Cz9 14) (4 : Int32).toNatClampNeg) 72 dX3_turnOver_71 (z_lit rfl) rfl rfl ?_
    refine z_iconst 1 73 dX3_turnOver_72 rfl rfl ?_
    refine z_iadd 74 dX3_turnOver_73 rfl ?_
    refine pca_14 75 dX3_turnOver_74 (z_lit rfl) rfl ?_
    refine z_aload_n 1 76 dX3_turnOver_75 rfl rfl ?_
    refine gr_18_11 79 dX3_turnOver_76 of_X3_18 rfl ?_
    refine z_bipush 12 81 dX3_turnOver_79 rfl rfl ?_
    refine z_aload_n 1 82 dX3_turnOver_81 rfl rfl ?_
    refine gr_18_11 85 dX3_turnOver_82 of_X3_18 rfl ?_
    refine z_iconst 5 86 dX3_turnOver_85 rfl rfl ?_
    refine gca_14 ((upd (c_a Cz9 14) (4 : Int32).toNatClampNeg (((c_a Cz9 14) (4 : Int32).toNatClampNeg) + 1)) (5 : Int32).toNatClampNeg) 87 dX3_turnOver_86 (z_lit rfl) rfl rfl ?_
    refine z_iload_n 0 88 dX3_turnOver_87 rfl rfl ?_
    refine z_isub 89 dX3_turnOver_88 rfl ?_
    refine pca_14 90 dX3_turnOver_89 (z_lit rfl) rfl ?_
    exact z_vret dX3_turnOver_90 rfl ⟨Nat.le_refl _, Nat.le_refl _⟩ ⟨(c_aU (c_aU Cz9 14 4 (((c_a Cz9 14) (4 : Int32).toNatClampNeg) + 1)) 14 12 (((upd (c_a Cz9 14) (4 : Int32).toNatClampNeg (((c_a Cz9 14) (4 : Int32).toNatClampNeg) + 1)) (5 : Int32).toNatClampNeg) - lz8)), rfl, rfl, h⟩
def j_X3_makeRoom_53 (Q : Int32 → cS → Prop) (l1 : Int32) (C : cS) : Prop :=
  ((((c_i C 15) - (c_i C 13)) < l1 → (((c_i C 13) ≤ (c_i C 14) → p_X3_turnOver C (fun Cz6 => ((((c_i Cz6 15) - (c_i Cz6 13)) < l1 → Q 10 (c_aU Cz6 14 10 (((c_a Cz6 14) (10 : Int32).toNatClampNeg) + 1))) ∧ (¬ ((c_i Cz6 15) - (c_i Cz6 13)) < l1 → Q 0 Cz6)))) ∧ (¬ (c_i C 13) ≤ (c_i C 14) → Q 9 (c_aU C 14 9 (((c_a C 14) (9 : Int32).toNatClampNeg) + 1))))) ∧ (¬ ((c_i C 15) - (c_i C 13)) < l1 → Q 0 C))
set_option maxRecDepth 100000 in
set_option maxHeartbeats 4000000 in
theorem tj_X3_makeRoom_53 (_ : Bool) (M : mS) (o : Nat → Int64) (X : List va_E) (Q : Int32 → cS → Prop) (l1 : Int32) (C : cS) (h : j_X3_makeRoom_53 Q l1 C) : z_go q_X3_makeRoom false 53 [(1, .int l1), (0, .ref 218)] [] (wz C M o X) 0 0 (zc_i M o X Q) := by
  unfold j_X3_makeRoom_53 at h
  refine z_aload_n 1 54 dX3_makeRoom_53 rfl rfl ?_
  refine gci_15 (c_i C 15) 57 dX3_makeRoom_54 of_X3_34 rfl rfl ?_
  refine z_aload_n 1 58 dX3_makeRoom_57 rfl rfl ?_
  refine gci_13 (c_i C 13) 61 dX3_makeRoom_58 of_X3_65 rfl rfl ?_
  refine z_isub 62 dX3_makeRoom_61 rfl ?_
  refine z_iload_n 0 63 dX3_makeRoom_62 rfl rfl ?_
  refine z_icmp_lt 68 66 dX3_makeRoom_63 rfl rfl (fun hcz4 => ?_) (fun hcz4 => ?_)
  · replace h := h.1 hcz4
    refine z_aload_n 1 69 dX3_makeRoom_68 rfl rfl ?_
    refine gci_14 (c_i C 14) 72 dX3_makeRoom_69 of_X3_74 rfl rfl ?_
    refine z_aload_n 1 73 dX3_makeRoom_72 rfl rfl ?_
    refine gci_13 (c_i C 13) 76 dX3_makeRoom_73 of_X3_65 rfl rfl ?_
    refine z_icmp_ge 93 79 dX3_makeRoom_76 rfl rfl (fun hcz5 => ?_) (fun hcz5 => ?_)
    · replace h := h.1 hcz5
      refine z_aload_n 1 94 dX3_makeRoom_93 rfl rfl ?_
      refine z_cvV [] 97 dX3_makeRoom_94 ok_X3_makeRoom_93 rfl rfl (Nat.le_of_ble_eq_true rfl) rc_18 ⟨rfl, rfl⟩ ⟨Nat.le_refl _, Nat.le_refl _⟩ rfl (t_X3_turnOver false M o X  C _ h) (fun Cz6 h => ?_)
      refine z_aload_n 1 98 dX3_makeRoom_97 rfl rfl ?_
      refine gci_15 (c_i Cz6 15) 101 dX3_makeRoom_98 of_X3_34 rfl rfl ?_
      refine z_aload_n 1 102 dX3_makeRoom_101 rfl rfl ?_
      refine gci_13 (c_i Cz6 13) 105 dX3_makeRoom_102 of_X3_65 rfl rfl ?_
      refine z_isub 106 dX3_makeRoom_105 rfl ?_
      refine z_iload_n 0 107 dX3_makeRoom_106 rfl rfl ?_
      refine z_icmp_lt 112 110 dX3_makeRoom_107 rfl rfl (fun hcz7 => ?_) (fun hcz7 => ?_)
      · replace h := h.1 hcz7
        refine z_aload_n 1 113 dX3_makeRoom_112 rfl rfl ?_
        refine gr_18_11 116 dX3_makeRoom_113 of_X3_18 rfl ?_
        refine z_bipush 10 118 dX3_makeRoom_116 rfl rfl ?_
        refine z_dup2 rfl rfl 119 dX3_makeRoom_118 rfl ?_
        refine gca_14 ((c_a Cz6 14) (10 : Int32).toNatClampNeg) 120 dX3_makeRoom_119 (z_lit rfl) rfl rfl ?_
        refine z_iconst 1 121 dX3_makeRoom_120 rfl rfl ?_
        refine z_iadd 122 dX3_makeRoom_121 rfl ?_
        refine pca_14 123 dX3_makeRoom_122 (z_lit rfl) rfl ?_
        refine z_bipush 10 125 dX3_makeRoom_123 rfl rfl ?_
        exact z_iret dX3_makeRoom_125 rfl ⟨Nat.le_refl _, Nat.le_refl _⟩ ⟨10, (c_aU Cz6 14 10 (((c_a Cz6 14) (10 : Int32).toNatClampNeg) + 1)), rfl, rfl, h⟩
      · replace h := h.2 hcz7
        refine z_iconst 0 111 dX3_makeRoom_110 rfl rfl ?_
        exact z_iret dX3_makeRoom_111 rfl ⟨Nat.le_refl _, Nat.le_refl _⟩ ⟨0, Cz6, rfl, rfl, h⟩
    · replace h := h.2 hcz5
      refine z_aload_n 1 80 dX3_makeRoom_79 rfl rfl ?_
      refine gr_18_11 83 dX3_makeRoom_80 of_X3_18 rfl ?_
      refine z_bipush 9 85 dX3_makeRoom_83 rfl rfl ?_
      refine z_dup2 rfl rfl 86 dX3_makeRoom_85 rfl ?_
      refine gca_14 ((c_a C 14) (9 : Int32).toNatClampNeg) 87 dX3_makeRoom_86 (z_lit rfl) rfl rfl ?_
      refine z_iconst 1 88 dX3_makeRoom_87 rfl rfl ?_
      refine z_iadd 89 dX3_makeRoom_88 rfl ?_
      refine pca_14 90 dX3_makeRoom_89 (z_lit rfl) rfl ?_
      refine z_bipush 9 92 dX3_makeRoom_90 rfl rfl ?_
      exact z_iret dX3_makeRoom_92 rfl ⟨Nat.le_refl _, Nat.le_refl _⟩ ⟨9, (c_aU C 14 9 (((c_a C 14) (9 : Int32).toNatClampNeg) + 1)), rfl, rfl, h⟩
  · replace h := h.2 hcz4
    refine z_iconst 0 67 dX3_makeRoom_66 rfl rfl ?_
    exact z_iret dX3_makeRoom_67 rfl ⟨Nat.le_refl _, Nat.le_refl _⟩ ⟨0, C, rfl, rfl, h⟩
def p_X3_makeRoom (a1 : Int32) (C : cS) (Q : Int32 → cS → Prop) : Prop :=
  p_X3_passWords ((c_i C 10) * a1) C (fun rz2 Cz1 => ((((c_i Cz1 10) * a1) ≤ rz2 → j_X3_makeRoom_53 Q a1 (c_aU Cz1 14 11 (if (c_a Cz1 14) (11 : Int32).toNatClampNeg < rz2 then rz2 else (c_a Cz1 14) (11 : Int32).toNatClampNeg))) ∧ (¬ ((c_i Cz1 10) * a1) ≤ rz2 → (((c_i Cz1 13) ≤ (c_i Cz1 14) → j_X3_makeRoom_53 Q a1 (c_aU Cz1 14 11 (if (c_a Cz1 14) (11 : Int32).toNatClampNeg < rz2 then rz2 else (c_a Cz1 14) (11 : Int32).toNatClampNeg))) ∧ (¬ (c_i Cz1 13) ≤ (c_i Cz1 14) → Q 8 (c_aU Cz1 14 11 (if (c_a Cz1 14) (11 : Int32).toNatClampNeg < rz2 then rz2 else (c_a Cz1 14) (11 : Int32).toNatClampNeg)))))))
set_option maxRecDepth 100000 in
set_option maxHeartbeats 4000000 in
theorem t_X3_makeRoom (_ : Bool) (M : mS) (o : Nat → Int64) (X : List va_E) (a1 : Int32) (C : cS) (Q : Int32 → cS → Prop) (h : p_X3_makeRoom a1 C Q) : z_M q_X3_makeRoom false [.ref 218, .int a1] (wz C M o X) (zc_i M o X Q) := by
  unfold p_X3_makeRoom at h
  refine z_enter (by decide) (Nat.le_of_ble_eq_true rfl) ?_
  refine z_aload_n 0 1 dX3_makeRoom_0 rfl rfl ?_
  refine z_aload_n 0 2 dX3_makeRoom_1 rfl rfl ?_
  refine gci_10 (c_i C 10) 5 dX3_makeRoom_2 of_X3_25 rfl rfl ?_
  refine z_iload_n 1 6 dX3_makeRoom_5 rfl rfl ?_
  refine z_imul 7 dX3_makeRoom_6 rfl ?_
  refine z_ciV [.int ((c_i C 10) * a1)] 10 dX3_makeRoom_7 ok_X3_makeRoom_85 rfl rfl (Nat.le_of_ble_eq_true rfl) rc_18 ⟨rfl, rfl⟩ ⟨Nat.le_refl _, Nat.le_refl _⟩ rfl (t_X3_passWords false M o X ((c_i C 10) * a1) C _ h) (fun rz2 Cz1 h => ?_)
  refine z_istore_n [(2, .int rz2), (0, .ref 218), (1, .int a1)] 11 dX3_makeRoom_10 (Nat.le_of_ble_eq_true rfl) rfl rfl ?_
  refine z_aload_n 1 12 dX3_makeRoom_11 rfl rfl ?_
  refine gr_18_11 15 dX3_makeRoom_12 of_X3_18 rfl ?_
  refine z_bipush 11 17 dX3_makeRoom_15 rfl rfl ?_
  refine z_aload_n 1 18 dX3_makeRoom_17 rfl rfl ?_
  refine gr_18_11 21 dX3_makeRoom_18 of_X3_18 rfl ?_
  refine z_bipush 11 23 dX3_makeRoom_21 rfl rfl ?_
  refine gca_14 ((c_a Cz1 14) (11 : Int32).toNatClampNeg) 24 dX3_makeRoom_23 (z_lit rfl) rfl rfl ?_
  refine z_iload_n 0 25 dX3_makeRoom_24 rfl rfl ?_
  refine z_max 28 dX3_makeRoom_25 ok_X3_makeRoom_88 ⟨by decide, Nat.le_of_ble_eq_true rfl, Nat.le_refl _, Nat.le_refl _⟩ rfl ?_
  refine pca_14 29 dX3_makeRoom_28 (z_lit rfl) rfl ?_
  refine z_iload_n 0 30 dX3_makeRoom_29 rfl rfl ?_
  refine z_aload_n 1 31 dX3_makeRoom_30 rfl rfl ?_
  refine gci_10 (c_i Cz1 10) 34 dX3_makeRoom_31 of_X3_25 rfl rfl ?_
  refine z_iload_n 2 35 dX3_makeRoom_34 rfl rfl ?_
  refine z_imul 36 dX3_makeRoom_35 rfl ?_
  refine z_icmp_ge 53 39 dX3_makeRoom_36 rfl rfl (fun hcz3 => ?_) (fun hcz3 => ?_)
  · replace h := h.1 hcz3
    refine z_pick [(1, .int a1), (0, .ref 218)] [2, 1] rfl ?_
    exact tj_X3_makeRoom_53 false M o X Q a1 (c_aU Cz1 14 11 (if (c_a Cz1 14) (11 : Int32).toNatClampNeg < rz2 then rz2 else (c_a Cz1 14) (11 : Int32).toNatClampNeg)) h
  · replace h := h.2 hcz3
    refine z_aload_n 1 40 dX3_makeRoom_39 rfl rfl ?_
    refine gci_14 (c_i Cz1 14) 43 dX3_makeRoom_40 of_X3_74 rfl rfl ?_
    refine z_aload_n 1 44 dX3_makeRoom_43 rfl rfl ?_
    refine gci_13 (c_i Cz1 13) 47 dX3_makeRoom_44 of_X3_65 rfl rfl ?_
    refine z_icmp_ge 53 50 dX3_makeRoom_47 rfl rfl (fun hcz8 => ?_) (fun hcz8 => ?_)
    · replace h := h.1 hcz8
      refine z_pick [(1, .int a1), (0, .ref 218)] [2, 1] rfl ?_
      exact tj_X3_makeRoom_53 false M o X Q a1 (c_aU Cz1 14 11 (if (c_a Cz1 14) (11 : Int32).toNatClampNeg < rz2 then rz2 else (c_a Cz1 14) (11 : Int32).toNatClampNeg)) h
    · replace h := h.2 hcz8
      refine z_bipush 8 52 dX3_makeRoom_50 rfl rfl ?_
      exact z_iret dX3_makeRoom_52 rfl ⟨Nat.le_refl _, Nat.le_refl _⟩ ⟨8, (c_aU Cz1 14 11 (if (c_a Cz1 14) (11 : Int32).toNatClampNeg < rz2 then rz2 else (c_a Cz1 14) (11 : Int32).toNatClampNeg)), rfl, rfl, h⟩
def b_X3_lay_64 (R9 : Int32 → Int32 → Int32 → Int32 → cS → Prop) (Q : Int32 → cS → Prop) (K105 : Int32 → cS → Prop) (l1 : Int32) (l2 : Int32) (l3 : Int32) (l4 : Int32) (C : cS) : Prop :=
  ((((l3 + 2) + l1) ≤ l4 → K105 l3 C) ∧ (¬ ((l3 + 2) + l1) ≤ l4 → ((¬ l2 = 3 → vp_in l4 (2 * c_sz C) ∧ ∀ vz8 : Int32, vz8 = l4 + 1 → R9 l1 l2 l3 vz8 (c_aU (c_aU C 10 l4 0) 11 l4 0)) ∧ (l2 = 3 → vp_in l4 (2 * c_sz C) ∧ ∀ vz10 : Int32, vz10 = l4 + 1 → R9 l1 l2 l3 vz10 (c_aU (c_aU C 10 l4 1) 11 l4 0)))))
def w_X3_lay_64 (Q : Int32 → cS → Prop) (K105 : Int32 → cS → Prop) : Nat → Int32 → Int32 → Int32 → Int32 → cS → Prop
 | 0 => fun _ _ _ _ _ => False
 | n + 1 => fun l1 l2 l3 l4 C => b_X3_lay_64 (w_X3_lay_64 Q K105 n) Q K105 l1 l2 l3 l4 C
set_option maxRecDepth 100000 in
set_option maxHeartbeats 4000000 in
theorem tb_X3_lay_64 (tg : Bool) (M : mS) (o : Nat → Int64) (X : List va_E) (R9 : Int32 → Int32 → Int32 → Int32 → cS → Prop) (Q : Int32 → cS → Prop) (K105 : Int32 → cS → Prop) (hR9 : ∀ (l1 : Int32) (l2 : Int32) (l3 : Int32) (l4 : Int32) (C : cS), R9 l1 l2 l3 l4 C → z_go q_X3_lay tg 64 [(1, .int l1), (2, .int l2), (3, .int l3), (4, .int l4), (0, .ref 218)] [] (wz C M o X) 0 0 (zc_i M o X Q)) (hK105 : ∀ (l3 : Int32) (C : cS), K105 l3 C → z_go q_X3_lay tg 105 [(3, .int l3), (0, .ref 218)] [] (wz C M o X) 0 0 (zc_i M o X Q)) (l1 : Int32) (l2 : Int32) (l3 : Int32) (l4 : Int32) (C : cS) (h : b_X3_lay_64 R9 Q K105 l1 l2 l3 l4 C) : z_go q_X3_lay tg 64 [(1, .int l1), (2, .int l2), (3, .int l3), (4, .int l4), (0, .ref 218)] [] (wz C M o X) 0 0 (zc_i M o X Q) := by
  unfold b_X3_lay_64 at h
  refine z_iload 3 66 dX3_lay_64 rfl rfl ?_
  refine z_iload_n 2 67 dX3_lay_66 rfl rfl ?_
  refine z_iconst 2 68 dX3_lay_67 rfl rfl ?_
  refine z_iadd 69 dX3_lay_68 rfl ?_
  refine z_iload_n 0 70 dX3_lay_69 rfl rfl ?_
  refine z_iadd 71 dX3_lay_70 rfl ?_
  refine z_icmp_ge 105 74 dX3_lay_71 rfl rfl (fun hcz5 => ?_) (fun hcz5 => ?_)
  · replace h := h.1 hcz5
    refine z_pick [(3, .int l3), (0, .ref 218)] [2, 4] rfl ?_
    exact hK105 l3 C h
  · replace h := h.2 hcz5
    refine z_aload_n 4 75 dX3_lay_74 rfl rfl ?_
    refine gr_18_2 78 dX3_lay_75 of_X3_28 rfl ?_
    refine z_iload 3 80 dX3_lay_78 rfl rfl ?_
    refine z_iload_n 1 81 dX3_lay_80 rfl rfl ?_
    refine z_iconst 3 82 dX3_lay_81 rfl rfl ?_
    refine z_icmp_ne 89 85 dX3_lay_82 rfl rfl (fun hcz6 => ?_) (fun hcz6 => ?_)
    · replace h := h.1 hcz6
      refine z_iconst 0 90 dX3_lay_89 rfl rfl ?_
      obtain ⟨hbz7, h⟩ := h
      refine pca_10 91 dX3_lay_90 hbz7 rfl ?_
      refine z_aload_n 4 92 dX3_lay_91 rfl rfl ?_
      refine gr_18_3 95 dX3_lay_92 of_X3_31 rfl ?_
      refine z_iload 3 97 dX3_lay_95 rfl rfl ?_
      refine z_iconst 0 98 dX3_lay_97 rfl rfl ?_
      refine pca_11 99 dX3_lay_98 hbz7 rfl ?_
      obtain ⟨vz8, hvz8⟩ : ∃ v : Int32, v = l4 + 1 := ⟨_, rfl⟩
      replace h := h vz8 hvz8
      refine z_iinc vz8 [(4, .int vz8), (1, .int l1), (2, .int l2), (3, .int l3), (0, .ref 218)] 3 102 dX3_lay_99 rfl hvz8.symm (Nat.le_of_ble_eq_true rfl) rfl rfl ?_
      refine z_goto 64 dX3_lay_102 rfl ?_
      refine z_pick [(1, .int l1), (2, .int l2), (3, .int l3), (4, .int vz8), (0, .ref 218)] [1, 2, 3, 0, 4] rfl ?_
      exact hR9 l1 l2 l3 vz8 (c_aU (c_aU C 10 l4 0) 11 l4 0) h
    · replace h := h.2 hcz6
      refine z_iconst 1 86 dX3_lay_85 rfl rfl ?_
      refine z_goto 90 dX3_lay_86 rfl ?_
      obtain ⟨hbz9, h⟩ := h
      refine pca_10 91 dX3_lay_90 hbz9 rfl ?_
      refine z_aload_n 4 92 dX3_lay_91 rfl rfl ?_
      refine gr_18_3 95 dX3_lay_92 of_X3_31 rfl ?_
      refine z_iload 3 97 dX3_lay_95 rfl rfl ?_
      refine z_iconst 0 98 dX3_lay_97 rfl rfl ?_
      refine pca_11 99 dX3_lay_98 hbz9 rfl ?_
      obtain ⟨vz10, hvz10⟩ : ∃ v : Int32, v = l4 + 1 := ⟨_, rfl⟩
      replace h := h vz10 hvz10
      refine z_iinc vz10 [(4, .int vz10), (1, .int l1), (2, .int l2), (3, .int l3), (0, .ref 218)] 3 102 dX3_lay_99 rfl hvz10.symm (Nat.le_of_ble_eq_true rfl) rfl rfl ?_
      refine z_goto 64 dX3_lay_102 rfl ?_
      refine z_pick [(1, .int l1), (2, .int l2), (3, .int l3), (4, .int vz10), (0, .ref 218)] [1, 2, 3, 0, 4] rfl ?_
      exact hR9 l1 l2 l3 vz10 (c_aU (c_aU C 10 l4 1) 11 l4 0) h
theorem tw_X3_lay_64 (tg : Bool) (M : mS) (o : Nat → Int64) (X : List va_E) (Q : Int32 → cS → Prop) (K105 : Int32 → cS → Prop) (hK105 : ∀ (l3 : Int32) (C : cS), K105 l3 C → z_go q_X3_lay tg 105 [(3, .int l3), (0, .ref 218)] [] (wz C M o X) 0 0 (zc_i M o X Q)) : ∀ (n : Nat) (l1 : Int32) (l2 : Int32) (l3 : Int32) (l4 : Int32) (C : cS), w_X3_lay_64 Q K105 n l1 l2 l3 l4 C → z_go q_X3_lay tg 64 [(1, .int l1), (2, .int l2), (3, .int l3), (4, .int l4), (0, .ref 218)] [] (wz C M o X) 0 0 (zc_i M o X Q) := by
  intro n
  induction n with
  | zero => intro l1 l2 l3 l4 C h; exact h.elim
  | succ n ih => intro l1 l2 l3 l4 C h; exact tb_X3_lay_64 tg M o X _ Q K105 ih hK105 l1 l2 l3 l4 C h
def p_X3_lay (a1 : Int32) (a2 : Int32) (C : cS) (Q : Int32 → cS → Prop) : Prop :=
  ∀ vz1 : Int32, vz1 = ((c_i C 12) * (c_i C 9)) + ((c_i C 15) - (a1 + 2)) → vp_in vz1 (2 * c_sz C) ∧ vp_in (vz1 + 1) (2 * c_sz C) ∧ ∀ vz4 : Int32, vz4 = vz1 + 2 → ∃ nz13 : Nat, w_X3_lay_64 Q (fun lz11 Cz12 => Q lz11 (c_aU Cz12 14 7 (((c_a Cz12 14) (7 : Int32).toNatClampNeg) + 1))) nz13 a1 a2 vz1 vz4 (c_aU (c_aU (c_aU (c_aU (c_iS C 15 ((c_i C 15) - (a1 + 2))) 10 vz1 a2) 11 vz1 a1) 10 (vz1 + 1) 5) 11 (vz1 + 1) 0)
set_option maxRecDepth 100000 in
set_option maxHeartbeats 4000000 in
theorem t_X3_lay (tg : Bool) (M : mS) (o : Nat → Int64) (X : List va_E) (a1 : Int32) (a2 : Int32) (C : cS) (Q : Int32 → cS → Prop) (h : p_X3_lay a1 a2 C Q) : z_M q_X3_lay tg [.ref 218, .int a1, .int a2] (wz C M o X) (zc_i M o X Q) := by
  unfold p_X3_lay at h
  refine z_enter (by decide) (Nat.le_of_ble_eq_true rfl) ?_
  refine z_aload_n 0 1 dX3_lay_0 rfl rfl ?_
  refine z_dup rfl 2 dX3_lay_1 rfl ?_
  refine gci_15 (c_i C 15) 5 dX3_lay_2 of_X3_34 rfl rfl ?_
  refine z_iload_n 1 6 dX3_lay_5 rfl rfl ?_
  refine z_iconst 2 7 dX3_lay_6 rfl rfl ?_
  refine z_iadd 8 dX3_lay_7 rfl ?_
  refine z_isub 9 dX3_lay_8 rfl ?_
  refine pci_15 12 dX3_lay_9 op_X3_34 rfl ?_
  refine z_aload_n 0 13 dX3_lay_12 rfl rfl ?_
  refine gci_12 (c_i C 12) 16 dX3_lay_13 of_X3_68 rfl rfl ?_
  refine z_aload_n 0 17 dX3_lay_16 rfl rfl ?_
  refine gci_9 (c_i C 9) 20 dX3_lay_17 of_X3_21 rfl rfl ?_
  refine z_imul 21 dX3_lay_20 rfl ?_
  refine z_aload_n 0 22 dX3_lay_21 rfl rfl ?_
  refine gci_15 ((c_i C 15) - (a1 + 2)) 25 dX3_lay_22 of_X3_34 rfl rfl ?_
  refine z_iadd 26 dX3_lay_25 rfl ?_
  refine z_topi (fun vz1 hvz1 => ?_)
  replace h := h vz1 hvz1
  refine z_istore_n [(3, .int vz1), (0, .ref 218), (1, .int a1), (2, .int a2)] 27 dX3_lay_26 (Nat.le_of_ble_eq_true rfl) rfl rfl ?_
  refine z_aload_n 1 28 dX3_lay_27 rfl rfl ?_
  refine gr_18_2 31 dX3_lay_28 of_X3_28 rfl ?_
  refine z_iload_n 0 32 dX3_lay_31 rfl rfl ?_
  refine z_iload_n 3 33 dX3_lay_32 rfl rfl ?_
  obtain ⟨hbz2, h⟩ := h
  refine pca_10 34 dX3_lay_33 hbz2 rfl ?_
  refine z_aload_n 1 35 dX3_lay_34 rfl rfl ?_
  refine gr_18_3 38 dX3_lay_35 of_X3_31 rfl ?_
  refine z_iload_n 0 39 dX3_lay_38 rfl rfl ?_
  refine z_iload_n 2 40 dX3_lay_39 rfl rfl ?_
  refine pca_11 41 dX3_lay_40 hbz2 rfl ?_
  refine z_aload_n 1 42 dX3_lay_41 rfl rfl ?_
  refine gr_18_2 45 dX3_lay_42 of_X3_28 rfl ?_
  refine z_iload_n 0 46 dX3_lay_45 rfl rfl ?_
  refine z_iconst 1 47 dX3_lay_46 rfl rfl ?_
  refine z_iadd 48 dX3_lay_47 rfl ?_
  refine z_iconst 5 49 dX3_lay_48 rfl rfl ?_
  obtain ⟨hbz3, h⟩ := h
  refine pca_10 50 dX3_lay_49 hbz3 rfl ?_
  refine z_aload_n 1 51 dX3_lay_50 rfl rfl ?_
  refine gr_18_3 54 dX3_lay_51 of_X3_31 rfl ?_
  refine z_iload_n 0 55 dX3_lay_54 rfl rfl ?_
  refine z_iconst 1 56 dX3_lay_55 rfl rfl ?_
  refine z_iadd 57 dX3_lay_56 rfl ?_
  refine z_iconst 0 58 dX3_lay_57 rfl rfl ?_
  refine pca_11 59 dX3_lay_58 hbz3 rfl ?_
  refine z_iload_n 0 60 dX3_lay_59 rfl rfl ?_
  refine z_iconst 2 61 dX3_lay_60 rfl rfl ?_
  refine z_iadd 62 dX3_lay_61 rfl ?_
  refine z_topi (fun vz4 hvz4 => ?_)
  replace h := h vz4 hvz4
  refine z_istore [(4, .int vz4), (3, .int vz1), (0, .ref 218), (1, .int a1), (2, .int a2)] 64 dX3_lay_62 (Nat.le_of_ble_eq_true rfl) rfl rfl ?_
  obtain ⟨nz13, h⟩ := h
  refine z_pick [(1, .int a1), (2, .int a2), (3, .int vz1), (4, .int vz4), (0, .ref 218)] [3, 4, 1, 0, 2] rfl ?_
  refine tw_X3_lay_64 tg M o X Q _ (fun lz11 Cz12 h => ?_) nz13 a1 a2 vz1 vz4 (c_aU (c_aU (c_aU (c_aU (c_iS C 15 ((c_i C 15) - (a1 + 2))) 10 vz1 a2) 11 vz1 a1) 10 (vz1 + 1) 5) 11 (vz1 + 1) 0) h
  · refine z_aload_n 1 106 dX3_lay_105 rfl rfl ?_
    refine gr_18_11 109 dX3_lay_106 of_X3_18 rfl ?_
    refine z_bipush 7 111 dX3_lay_109 rfl rfl ?_
    refine z_dup2 rfl rfl 112 dX3_lay_111 rfl ?_
    refine gca_14 ((c_a Cz12 14) (7 : Int32).toNatClampNeg) 113 dX3_lay_112 (z_lit rfl) rfl rfl ?_
    refine z_iconst 1 114 dX3_lay_113 rfl rfl ?_
    refine z_iadd 115 dX3_lay_114 rfl ?_
    refine pca_14 116 dX3_lay_115 (z_lit rfl) rfl ?_
    refine z_iload_n 0 117 dX3_lay_116 rfl rfl ?_
    exact z_iret dX3_lay_117 rfl ⟨Nat.le_refl _, Nat.le_refl _⟩ ⟨lz11, (c_aU Cz12 14 7 (((c_a Cz12 14) (7 : Int32).toNatClampNeg) + 1)), rfl, rfl, h⟩
def p_X3_slotsOf (a1 : Int32) (C : cS) (Q : Int32 → cS → Prop) : Prop :=
  p_X3_home a1 C (fun rz2 Cz1 => vp_in rz2 (2 * c_sz Cz1) ∧ Q ((c_a Cz1 11) rz2.toNatClampNeg) Cz1)
set_option maxRecDepth 100000 in
set_option maxHeartbeats 4000000 in
theorem t_X3_slotsOf (tg : Bool) (M : mS) (o : Nat → Int64) (X : List va_E) (a1 : Int32) (C : cS) (Q : Int32 → cS → Prop) (h : p_X3_slotsOf a1 C Q) : z_M q_X3_slotsOf tg [.ref 218, .int a1] (wz C M o X) (zc_i M o X Q) := by
  unfold p_X3_slotsOf at h
  refine z_enter (by decide) (Nat.le_of_ble_eq_true rfl) ?_
  refine z_aload_n 0 1 dX3_slotsOf_0 rfl rfl ?_
  refine gr_18_3 4 dX3_slotsOf_1 of_X3_31 rfl ?_
  refine z_aload_n 0 5 dX3_slotsOf_4 rfl rfl ?_
  refine z_iload_n 1 6 dX3_slotsOf_5 rfl rfl ?_
  refine z_ciV [.int a1] 9 dX3_slotsOf_6 ok_X3_slotsOf_40 rfl rfl (Nat.le_of_ble_eq_true rfl) rc_18 ⟨rfl, rfl⟩ ⟨Nat.le_refl _, Nat.le_refl _⟩ rfl (t_X3_home tg M o X a1 C _ h) (fun rz2 Cz1 h => ?_)
  obtain ⟨hbz3, h⟩ := h
  refine gca_11 ((c_a Cz1 11) rz2.toNatClampNeg) 10 dX3_slotsOf_9 hbz3 rfl rfl ?_
  exact z_iret dX3_slotsOf_10 rfl ⟨Nat.le_refl _, Nat.le_refl _⟩ ⟨(c_a Cz1 11) rz2.toNatClampNeg, Cz1, rfl, rfl, h⟩
def p_X3_slotOf (a1 : Int32) (a2 : Int32) (C : cS) (Q : Int32 → cS → Prop) : Prop :=
  vp_in a1 58 ∧ ((¬ ((c_a C 12) a1.toNatClampNeg) = 2 → Q (-1) C) ∧ (((c_a C 12) a1.toNatClampNeg) = 2 → ((a2 < 0 → Q (-1) C) ∧ (¬ a2 < 0 → p_X3_slotsOf ((c_a C 13) a1.toNatClampNeg) C (fun rz5 Cz4 => ((a2 < rz5 → p_X3_home ((c_a Cz4 13) a1.toNatClampNeg) Cz4 (fun rz8 Cz7 => Q ((rz8 + 2) + a2) Cz7)) ∧ (¬ a2 < rz5 → Q (-1) Cz4)))))))
set_option maxRecDepth 100000 in
set_option maxHeartbeats 4000000 in
theorem t_X3_slotOf (tg : Bool) (M : mS) (o : Nat → Int64) (X : List va_E) (a1 : Int32) (a2 : Int32) (C : cS) (Q : Int32 → cS → Prop) (h : p_X3_slotOf a1 a2 C Q) : z_M q_X3_slotOf tg [.ref 218, .int a1, .int a2] (wz C M o X) (zc_i M o X Q) := by
  unfold p_X3_slotOf at h
  refine z_enter (by decide) (Nat.le_of_ble_eq_true rfl) ?_
  refine z_aload_n 0 1 dX3_slotOf_0 rfl rfl ?_
  refine gr_18_4 4 dX3_slotOf_1 of_X3_9 rfl ?_
  refine z_iload_n 1 5 dX3_slotOf_4 rfl rfl ?_
  obtain ⟨hbz1, h⟩ := h
  refine gca_12 ((c_a C 12) a1.toNatClampNeg) 6 dX3_slotOf_5 hbz1 rfl rfl ?_
  refine z_iconst 2 7 dX3_slotOf_6 rfl rfl ?_
  refine z_icmp_ne 28 10 dX3_slotOf_7 rfl rfl (fun hcz2 => ?_) (fun hcz2 => ?_)
  · replace h := h.1 hcz2
    refine z_iconst (-1) 29 dX3_slotOf_28 rfl rfl ?_
    exact z_iret dX3_slotOf_29 rfl ⟨Nat.le_refl _, Nat.le_refl _⟩ ⟨(-1), C, rfl, rfl, h⟩
  · replace h := h.2 hcz2
    refine z_iload_n 2 11 dX3_slotOf_10 rfl rfl ?_
    refine z_if_lt 28 14 dX3_slotOf_11 rfl rfl (fun hcz3 => ?_) (fun hcz3 => ?_)
    · replace h := h.1 hcz3
      refine z_iconst (-1) 29 dX3_slotOf_28 rfl rfl ?_
      exact z_iret dX3_slotOf_29 rfl ⟨Nat.le_refl _, Nat.le_refl _⟩ ⟨(-1), C, rfl, rfl, h⟩
    · replace h := h.2 hcz3
      refine z_iload_n 2 15 dX3_slotOf_14 rfl rfl ?_
      refine z_aload_n 0 16 dX3_slotOf_15 rfl rfl ?_
      refine z_aload_n 0 17 dX3_slotOf_16 rfl rfl ?_
      refine gr_18_5 20 dX3_slotOf_17 of_X3_15 rfl ?_
      refine z_iload_n 1 21 dX3_slotOf_20 rfl rfl ?_
      refine gca_13 ((c_a C 13) a1.toNatClampNeg) 22 dX3_slotOf_21 hbz1 rfl rfl ?_
      refine z_ciV [.int ((c_a C 13) a1.toNatClampNeg)] 25 dX3_slotOf_22 ok_X3_slotOf_44 rfl rfl (Nat.le_of_ble_eq_true rfl) rc_18 ⟨rfl, rfl⟩ ⟨Nat.le_refl _, Nat.le_refl _⟩ rfl (t_X3_slotsOf tg M o X ((c_a C 13) a1.toNatClampNeg) C _ h) (fun rz5 Cz4 h => ?_)
      refine z_icmp_lt 30 28 dX3_slotOf_25 rfl rfl (fun hcz6 => ?_) (fun hcz6 => ?_)
      · replace h := h.1 hcz6
        refine z_aload_n 0 31 dX3_slotOf_30 rfl rfl ?_
        refine z_aload_n 0 32 dX3_slotOf_31 rfl rfl ?_
        refine gr_18_5 35 dX3_slotOf_32 of_X3_15 rfl ?_
        refine z_iload_n 1 36 dX3_slotOf_35 rfl rfl ?_
        refine gca_13 ((c_a Cz4 13) a1.toNatClampNeg) 37 dX3_slotOf_36 hbz1 rfl rfl ?_
        refine z_ciV [.int ((c_a Cz4 13) a1.toNatClampNeg)] 40 dX3_slotOf_37 ok_X3_slotOf_40 rfl rfl (Nat.le_of_ble_eq_true rfl) rc_18 ⟨rfl, rfl⟩ ⟨Nat.le_refl _, Nat.le_refl _⟩ rfl (t_X3_home tg M o X ((c_a Cz4 13) a1.toNatClampNeg) Cz4 _ h) (fun rz8 Cz7 h => ?_)
        refine z_iconst 2 41 dX3_slotOf_40 rfl rfl ?_
        refine z_iadd 42 dX3_slotOf_41 rfl ?_
        refine z_iload_n 2 43 dX3_slotOf_42 rfl rfl ?_
        refine z_iadd 44 dX3_slotOf_43 rfl ?_
        exact z_iret dX3_slotOf_44 rfl ⟨Nat.le_refl _, Nat.le_refl _⟩ ⟨(rz8 + 2) + a2, Cz7, rfl, rfl, h⟩
      · replace h := h.2 hcz6
        refine z_iconst (-1) 29 dX3_slotOf_28 rfl rfl ?_
        exact z_iret dX3_slotOf_29 rfl ⟨Nat.le_refl _, Nat.le_refl _⟩ ⟨(-1), Cz4, rfl, rfl, h⟩
def p_X3_isRow (a1 : Int32) (C : cS) (Q : Int32 → cS → Prop) : Prop :=
  p_X3_home a1 C (fun rz2 Cz1 => vp_in rz2 (2 * c_sz Cz1) ∧ ((¬ ((c_a Cz1 10) rz2.toNatClampNeg) = 3 → Q 0 Cz1) ∧ (((c_a Cz1 10) rz2.toNatClampNeg) = 3 → Q 1 Cz1)))
set_option maxRecDepth 100000 in
set_option maxHeartbeats 4000000 in
theorem t_X3_isRow (tg : Bool) (M : mS) (o : Nat → Int64) (X : List va_E) (a1 : Int32) (C : cS) (Q : Int32 → cS → Prop) (h : p_X3_isRow a1 C Q) : z_M q_X3_isRow tg [.ref 218, .int a1] (wz C M o X) (zc_i M o X Q) := by
  unfold p_X3_isRow at h
  refine z_enter (by decide) (Nat.le_of_ble_eq_true rfl) ?_
  refine z_aload_n 0 1 dX3_isRow_0 rfl rfl ?_
  refine gr_18_2 4 dX3_isRow_1 of_X3_28 rfl ?_
  refine z_aload_n 0 5 dX3_isRow_4 rfl rfl ?_
  refine z_iload_n 1 6 dX3_isRow_5 rfl rfl ?_
  refine z_ciV [.int a1] 9 dX3_isRow_6 ok_X3_isRow_40 rfl rfl (Nat.le_of_ble_eq_true rfl) rc_18 ⟨rfl, rfl⟩ ⟨Nat.le_refl _, Nat.le_refl _⟩ rfl (t_X3_home tg M o X a1 C _ h) (fun rz2 Cz1 h => ?_)
  obtain ⟨hbz3, h⟩ := h
  refine gca_10 ((c_a Cz1 10) rz2.toNatClampNeg) 10 dX3_isRow_9 hbz3 rfl rfl ?_
  refine z_iconst 3 11 dX3_isRow_10 rfl rfl ?_
  refine z_icmp_ne 18 14 dX3_isRow_11 rfl rfl (fun hcz4 => ?_) (fun hcz4 => ?_)
  · replace h := h.1 hcz4
    refine z_iconst 0 19 dX3_isRow_18 rfl rfl ?_
    exact z_zret dX3_isRow_19 rfl rfl ⟨Nat.le_refl _, Nat.le_refl _⟩ ⟨0, Cz1, rfl, rfl, h⟩
  · replace h := h.2 hcz4
    refine z_iconst 1 15 dX3_isRow_14 rfl rfl ?_
    refine z_goto 19 dX3_isRow_15 rfl ?_
    exact z_zret dX3_isRow_19 rfl rfl ⟨Nat.le_refl _, Nat.le_refl _⟩ ⟨1, Cz1, rfl, rfl, h⟩
def p_X3_kindOf (a1 : Int32) (a2 : Int32) (C : cS) (Q : Int32 → cS → Prop) : Prop :=
  ((a1 = 2 → p_X3_isRow a2 C (fun rz3 Cz2 => ((rz3 = 0 → Q 3 Cz2) ∧ (¬ rz3 = 0 → Q 2 Cz2)))) ∧ (¬ a1 = 2 → Q a1 C))
set_option maxRecDepth 100000 in
set_option maxHeartbeats 4000000 in
theorem t_X3_kindOf (tg : Bool) (M : mS) (o : Nat → Int64) (X : List va_E) (a1 : Int32) (a2 : Int32) (C : cS) (Q : Int32 → cS → Prop) (h : p_X3_kindOf a1 a2 C Q) : z_M q_X3_kindOf tg [.ref 218, .int a1, .int a2] (wz C M o X) (zc_i M o X Q) := by
  unfold p_X3_kindOf at h
  refine z_enter (by decide) (Nat.le_of_ble_eq_true rfl) ?_
  refine z_iload_n 1 1 dX3_kindOf_0 rfl rfl ?_
  refine z_iconst 2 2 dX3_kindOf_1 rfl rfl ?_
  refine z_icmp_eq 9 5 dX3_kindOf_2 rfl rfl (fun hcz1 => ?_) (fun hcz1 => ?_)
  · replace h := h.1 hcz1
    refine z_aload_n 0 10 dX3_kindOf_9 rfl rfl ?_
    refine z_iload_n 2 11 dX3_kindOf_10 rfl rfl ?_
    refine z_ciV [.int a2] 14 dX3_kindOf_11 ok_X3_kindOf_61 rfl rfl (Nat.le_of_ble_eq_true rfl) rc_18 ⟨rfl, rfl⟩ ⟨Nat.le_refl _, Nat.le_refl _⟩ rfl (t_X3_isRow tg M o X a2 C _ h) (fun rz3 Cz2 h => ?_)
    refine z_if_eq 21 17 dX3_kindOf_14 rfl rfl (fun hcz4 => ?_) (fun hcz4 => ?_)
    · replace h := h.1 hcz4
      refine z_iconst 3 22 dX3_kindOf_21 rfl rfl ?_
      exact z_iret dX3_kindOf_22 rfl ⟨Nat.le_refl _, Nat.le_refl _⟩ ⟨3, Cz2, rfl, rfl, h⟩
    · replace h := h.2 hcz4
      refine z_iconst 2 18 dX3_kindOf_17 rfl rfl ?_
      refine z_goto 22 dX3_kindOf_18 rfl ?_
      exact z_iret dX3_kindOf_22 rfl ⟨Nat.le_refl _, Nat.le_refl _⟩ ⟨2, Cz2, rfl, rfl, h⟩
  · replace h := h.2 hcz1
    refine z_iload_n 1 6 dX3_kindOf_5 rfl rfl ?_
    refine z_goto 22 dX3_kindOf_6 rfl ?_
    exact z_iret dX3_kindOf_22 rfl ⟨Nat.le_refl _, Nat.le_refl _⟩ ⟨a1, C, rfl, rfl, h⟩
def p_X3_count (a1 : Int32) (C : cS) (Q : Int32 → cS → Prop) : Prop :=
  ((a1 < 4 → Q (-1) C) ∧ (¬ a1 < 4 → ((13 ≤ a1 → Q (-1) C) ∧ (¬ 13 ≤ a1 → vp_in a1 13 ∧ Q ((c_a C 14) a1.toNatClampNeg) C))))
set_option maxRecDepth 100000 in
set_option maxHeartbeats 4000000 in
theorem t_X3_count (tg : Bool) (M : mS) (o : Nat → Int64) (X : List va_E) (a1 : Int32) (C : cS) (Q : Int32 → cS → Prop) (h : p_X3_count a1 C Q) : z_M q_X3_count tg [.ref 218, .int a1] (wz C M o X) (zc_i M o X Q) := by
  unfold p_X3_count at h
  refine z_enter (by decide) (Nat.le_of_ble_eq_true rfl) ?_
  refine z_iload_n 1 1 dX3_count_0 rfl rfl ?_
  refine z_iconst 4 2 dX3_count_1 rfl rfl ?_
  refine z_icmp_lt 20 5 dX3_count_2 rfl rfl (fun hcz1 => ?_) (fun hcz1 => ?_)
  · replace h := h.1 hcz1
    refine z_iconst (-1) 21 dX3_count_20 rfl rfl ?_
    exact z_iret dX3_count_21 rfl ⟨Nat.le_refl _, Nat.le_refl _⟩ ⟨(-1), C, rfl, rfl, h⟩
  · replace h := h.2 hcz1
    refine z_iload_n 1 6 dX3_count_5 rfl rfl ?_
    refine z_bipush 13 8 dX3_count_6 rfl rfl ?_
    refine z_icmp_ge 20 11 dX3_count_8 rfl rfl (fun hcz2 => ?_) (fun hcz2 => ?_)
    · replace h := h.1 hcz2
      refine z_iconst (-1) 21 dX3_count_20 rfl rfl ?_
      exact z_iret dX3_count_21 rfl ⟨Nat.le_refl _, Nat.le_refl _⟩ ⟨(-1), C, rfl, rfl, h⟩
    · replace h := h.2 hcz2
      refine z_aload_n 0 12 dX3_count_11 rfl rfl ?_
      refine gr_18_11 15 dX3_count_12 of_X3_18 rfl ?_
      refine z_iload_n 1 16 dX3_count_15 rfl rfl ?_
      obtain ⟨hbz3, h⟩ := h
      refine gca_14 ((c_a C 14) a1.toNatClampNeg) 17 dX3_count_16 hbz3 rfl rfl ?_
      refine z_goto 21 dX3_count_17 rfl ?_
      exact z_iret dX3_count_21 rfl ⟨Nat.le_refl _, Nat.le_refl _⟩ ⟨(c_a C 14) a1.toNatClampNeg, C, rfl, rfl, h⟩
def p_X3_placeOf (a1 : Int32) (C : cS) (Q : Int32 → cS → Prop) : Prop :=
  p_X3_halfOf a1 C (fun rz2 Cz1 => Q (a1 - (rz2 * (c_i Cz1 9))) Cz1)
set_option maxRecDepth 100000 in
set_option maxHeartbeats 4000000 in
theorem t_X3_placeOf (tg : Bool) (M : mS) (o : Nat → Int64) (X : List va_E) (a1 : Int32) (C : cS) (Q : Int32 → cS → Prop) (h : p_X3_placeOf a1 C Q) : z_M q_X3_placeOf tg [.ref 218, .int a1] (wz C M o X) (zc_i M o X Q) := by
  unfold p_X3_placeOf at h
  refine z_enter (by decide) (Nat.le_of_ble_eq_true rfl) ?_
  refine z_iload_n 1 1 dX3_placeOf_0 rfl rfl ?_
  refine z_aload_n 0 2 dX3_placeOf_1 rfl rfl ?_
  refine z_iload_n 1 3 dX3_placeOf_2 rfl rfl ?_
  refine z_ciV [.int a1] 6 dX3_placeOf_3 ok_X3_placeOf_54 rfl rfl (Nat.le_of_ble_eq_true rfl) rc_18 ⟨rfl, rfl⟩ ⟨Nat.le_refl _, Nat.le_refl _⟩ rfl (t_X3_halfOf tg M o X a1 C _ h) (fun rz2 Cz1 h => ?_)
  refine z_aload_n 0 7 dX3_placeOf_6 rfl rfl ?_
  refine gci_9 (c_i Cz1 9) 10 dX3_placeOf_7 of_X3_21 rfl rfl ?_
  refine z_imul 11 dX3_placeOf_10 rfl ?_
  refine z_isub 12 dX3_placeOf_11 rfl ?_
  exact z_iret dX3_placeOf_12 rfl ⟨Nat.le_refl _, Nat.le_refl _⟩ ⟨a1 - (rz2 * (c_i Cz1 9)), Cz1, rfl, rfl, h⟩
def p_X3_aboutWord (a1 : Int32) (a2 : Int32) (a3 : Int32) (C : cS) (Q : Int32 → cS → Prop) : Prop :=
  ((¬ a3 = 0 → ((¬ a3 = 1 → Q (-1) C) ∧ (a3 = 1 → ((¬ a1 = 2 → ((¬ a1 = 0 → Q 0 C) ∧ (a1 = 0 → Q a2 C))) ∧ (a1 = 2 → p_X3_slotsOf a2 C (fun rz6 Cz5 => Q rz6 Cz5)))))) ∧ (a3 = 0 → p_X3_kindOf a1 a2 C (fun rz8 Cz7 => Q rz8 Cz7)))
set_option maxRecDepth 100000 in
set_option maxHeartbeats 4000000 in
theorem t_X3_aboutWord (tg : Bool) (M : mS) (o : Nat → Int64) (X : List va_E) (a1 : Int32) (a2 : Int32) (a3 : Int32) (C : cS) (Q : Int32 → cS → Prop) (h : p_X3_aboutWord a1 a2 a3 C Q) : z_M q_X3_aboutWord tg [.ref 218, .int a1, .int a2, .int a3] (wz C M o X) (zc_i M o X Q) := by
  unfold p_X3_aboutWord at h
  refine z_enter (by decide) (Nat.le_of_ble_eq_true rfl) ?_
  refine z_iload_n 3 1 dX3_aboutWord_0 rfl rfl ?_
  refine z_if_ne 11 4 dX3_aboutWord_1 rfl rfl (fun hcz1 => ?_) (fun hcz1 => ?_)
  · replace h := h.1 hcz1
    refine z_iload_n 3 12 dX3_aboutWord_11 rfl rfl ?_
    refine z_iconst 1 13 dX3_aboutWord_12 rfl rfl ?_
    refine z_icmp_ne 39 16 dX3_aboutWord_13 rfl rfl (fun hcz2 => ?_) (fun hcz2 => ?_)
    · replace h := h.1 hcz2
      refine z_iconst (-1) 40 dX3_aboutWord_39 rfl rfl ?_
      exact z_iret dX3_aboutWord_40 rfl ⟨Nat.le_refl _, Nat.le_refl _⟩ ⟨(-1), C, rfl, rfl, h⟩
    · replace h := h.2 hcz2
      refine z_iload_n 1 17 dX3_aboutWord_16 rfl rfl ?_
      refine z_iconst 2 18 dX3_aboutWord_17 rfl rfl ?_
      refine z_icmp_ne 29 21 dX3_aboutWord_18 rfl rfl (fun hcz3 => ?_) (fun hcz3 => ?_)
      · replace h := h.1 hcz3
        refine z_iload_n 1 30 dX3_aboutWord_29 rfl rfl ?_
        refine z_if_ne 37 33 dX3_aboutWord_30 rfl rfl (fun hcz4 => ?_) (fun hcz4 => ?_)
        · replace h := h.1 hcz4
          refine z_iconst 0 38 dX3_aboutWord_37 rfl rfl ?_
          exact z_iret dX3_aboutWord_38 rfl ⟨Nat.le_refl _, Nat.le_refl _⟩ ⟨0, C, rfl, rfl, h⟩
        · replace h := h.2 hcz4
          refine z_iload_n 2 34 dX3_aboutWord_33 rfl rfl ?_
          refine z_goto 38 dX3_aboutWord_34 rfl ?_
          exact z_iret dX3_aboutWord_38 rfl ⟨Nat.le_refl _, Nat.le_refl _⟩ ⟨a2, C, rfl, rfl, h⟩
      · replace h := h.2 hcz3
        refine z_aload_n 0 22 dX3_aboutWord_21 rfl rfl ?_
        refine z_iload_n 2 23 dX3_aboutWord_22 rfl rfl ?_
        refine z_ciV [.int a2] 26 dX3_aboutWord_23 ok_X3_aboutWord_44 rfl rfl (Nat.le_of_ble_eq_true rfl) rc_18 ⟨rfl, rfl⟩ ⟨Nat.le_refl _, Nat.le_refl _⟩ rfl (t_X3_slotsOf tg M o X a2 C _ h) (fun rz6 Cz5 h => ?_)
        refine z_goto 38 dX3_aboutWord_26 rfl ?_
        exact z_iret dX3_aboutWord_38 rfl ⟨Nat.le_refl _, Nat.le_refl _⟩ ⟨rz6, Cz5, rfl, rfl, h⟩
  · replace h := h.2 hcz1
    refine z_aload_n 0 5 dX3_aboutWord_4 rfl rfl ?_
    refine z_iload_n 1 6 dX3_aboutWord_5 rfl rfl ?_
    refine z_iload_n 2 7 dX3_aboutWord_6 rfl rfl ?_
    refine z_ciV [.int a1, .int a2] 10 dX3_aboutWord_7 ok_X3_aboutWord_57 rfl rfl (Nat.le_of_ble_eq_true rfl) rc_18 ⟨rfl, rfl⟩ ⟨Nat.le_refl _, Nat.le_refl _⟩ rfl (t_X3_kindOf tg M o X a1 a2 C _ h) (fun rz8 Cz7 h => ?_)
    exact z_iret dX3_aboutWord_10 rfl ⟨Nat.le_refl _, Nat.le_refl _⟩ ⟨rz8, Cz7, rfl, rfl, h⟩
def p_X3_aboutRoot (a1 : Int32) (a2 : Int32) (C : cS) (Q : Int32 → cS → Prop) : Prop :=
  ((¬ a2 = 2 → vp_in a1 58 ∧ p_X3_aboutWord ((c_a C 12) a1.toNatClampNeg) ((c_a C 13) a1.toNatClampNeg) a2 C (fun rz4 Cz3 => Q rz4 Cz3)) ∧ (a2 = 2 → vp_in a1 58 ∧ ((¬ ((c_a C 12) a1.toNatClampNeg) = 2 → Q (-1) C) ∧ (((c_a C 12) a1.toNatClampNeg) = 2 → p_X3_home ((c_a C 13) a1.toNatClampNeg) C (fun rz8 Cz7 => p_X3_placeOf rz8 Cz7 (fun rz10 Cz9 => Q rz10 Cz9))))))
set_option maxRecDepth 100000 in
set_option maxHeartbeats 4000000 in
theorem t_X3_aboutRoot (tg : Bool) (M : mS) (o : Nat → Int64) (X : List va_E) (a1 : Int32) (a2 : Int32) (C : cS) (Q : Int32 → cS → Prop) (h : p_X3_aboutRoot a1 a2 C Q) : z_M q_X3_aboutRoot tg [.ref 218, .int a1, .int a2] (wz C M o X) (zc_i M o X Q) := by
  unfold p_X3_aboutRoot at h
  refine z_enter (by decide) (Nat.le_of_ble_eq_true rfl) ?_
  refine z_iload_n 2 1 dX3_aboutRoot_0 rfl rfl ?_
  refine z_iconst 2 2 dX3_aboutRoot_1 rfl rfl ?_
  refine z_icmp_ne 44 5 dX3_aboutRoot_2 rfl rfl (fun hcz1 => ?_) (fun hcz1 => ?_)
  · replace h := h.1 hcz1
    refine z_aload_n 0 45 dX3_aboutRoot_44 rfl rfl ?_
    refine z_aload_n 0 46 dX3_aboutRoot_45 rfl rfl ?_
    refine gr_18_4 49 dX3_aboutRoot_46 of_X3_9 rfl ?_
    refine z_iload_n 1 50 dX3_aboutRoot_49 rfl rfl ?_
    obtain ⟨hbz2, h⟩ := h
    refine gca_12 ((c_a C 12) a1.toNatClampNeg) 51 dX3_aboutRoot_50 hbz2 rfl rfl ?_
    refine z_aload_n 0 52 dX3_aboutRoot_51 rfl rfl ?_
    refine gr_18_5 55 dX3_aboutRoot_52 of_X3_15 rfl ?_
    refine z_iload_n 1 56 dX3_aboutRoot_55 rfl rfl ?_
    refine gca_13 ((c_a C 13) a1.toNatClampNeg) 57 dX3_aboutRoot_56 hbz2 rfl rfl ?_
    refine z_iload_n 2 58 dX3_aboutRoot_57 rfl rfl ?_
    refine z_ciV [.int ((c_a C 12) a1.toNatClampNeg), .int ((c_a C 13) a1.toNatClampNeg), .int a2] 61 dX3_aboutRoot_58 ok_X3_aboutRoot_50 rfl rfl (Nat.le_of_ble_eq_true rfl) rc_18 ⟨rfl, rfl⟩ ⟨Nat.le_refl _, Nat.le_refl _⟩ rfl (t_X3_aboutWord tg M o X ((c_a C 12) a1.toNatClampNeg) ((c_a C 13) a1.toNatClampNeg) a2 C _ h) (fun rz4 Cz3 h => ?_)
    exact z_iret dX3_aboutRoot_61 rfl ⟨Nat.le_refl _, Nat.le_refl _⟩ ⟨rz4, Cz3, rfl, rfl, h⟩
  · replace h := h.2 hcz1
    refine z_aload_n 0 6 dX3_aboutRoot_5 rfl rfl ?_
    refine gr_18_4 9 dX3_aboutRoot_6 of_X3_9 rfl ?_
    refine z_iload_n 1 10 dX3_aboutRoot_9 rfl rfl ?_
    obtain ⟨hbz5, h⟩ := h
    refine gca_12 ((c_a C 12) a1.toNatClampNeg) 11 dX3_aboutRoot_10 hbz5 rfl rfl ?_
    refine z_iconst 2 12 dX3_aboutRoot_11 rfl rfl ?_
    refine z_icmp_ne 19 15 dX3_aboutRoot_12 rfl rfl (fun hcz6 => ?_) (fun hcz6 => ?_)
    · replace h := h.1 hcz6
      refine z_iconst 0 20 dX3_aboutRoot_19 rfl rfl ?_
      refine z_istore_n [(3, .int 0), (0, .ref 218), (1, .int a1), (2, .int a2)] 21 dX3_aboutRoot_20 (Nat.le_of_ble_eq_true rfl) rfl rfl ?_
      refine z_iload_n 0 22 dX3_aboutRoot_21 rfl rfl ?_
      refine z_if_eq 42 25 dX3_aboutRoot_22 rfl rfl (fun _ => ?_) (fun hc => absurd hc (by decide))
      refine z_iconst (-1) 43 dX3_aboutRoot_42 rfl rfl ?_
      exact z_iret dX3_aboutRoot_43 rfl ⟨Nat.le_refl _, Nat.le_refl _⟩ ⟨(-1), C, rfl, rfl, h⟩
    · replace h := h.2 hcz6
      refine z_iconst 1 16 dX3_aboutRoot_15 rfl rfl ?_
      refine z_goto 20 dX3_aboutRoot_16 rfl ?_
      refine z_istore_n [(3, .int 1), (0, .ref 218), (1, .int a1), (2, .int a2)] 21 dX3_aboutRoot_20 (Nat.le_of_ble_eq_true rfl) rfl rfl ?_
      refine z_iload_n 0 22 dX3_aboutRoot_21 rfl rfl ?_
      refine z_if_eq 42 25 dX3_aboutRoot_22 rfl rfl (fun hc => absurd hc (by decide)) (fun _ => ?_)
      refine z_aload_n 1 26 dX3_aboutRoot_25 rfl rfl ?_
      refine z_aload_n 1 27 dX3_aboutRoot_26 rfl rfl ?_
      refine z_aload_n 1 28 dX3_aboutRoot_27 rfl rfl ?_
      refine gr_18_5 31 dX3_aboutRoot_28 of_X3_15 rfl ?_
      refine z_iload_n 2 32 dX3_aboutRoot_31 rfl rfl ?_
      refine gca_13 ((c_a C 13) a1.toNatClampNeg) 33 dX3_aboutRoot_32 hbz5 rfl rfl ?_
      refine z_ciV [.int ((c_a C 13) a1.toNatClampNeg)] 36 dX3_aboutRoot_33 ok_X3_aboutRoot_40 rfl rfl (Nat.le_of_ble_eq_true rfl) rc_18 ⟨rfl, rfl⟩ ⟨Nat.le_refl _, Nat.le_refl _⟩ rfl (t_X3_home tg M o X ((c_a C 13) a1.toNatClampNeg) C _ h) (fun rz8 Cz7 h => ?_)
      refine z_ciV [.int rz8] 39 dX3_aboutRoot_36 ok_X3_aboutRoot_47 rfl rfl (Nat.le_of_ble_eq_true rfl) rc_18 ⟨rfl, rfl⟩ ⟨Nat.le_refl _, Nat.le_refl _⟩ rfl (t_X3_placeOf tg M o X rz8 Cz7 _ h) (fun rz10 Cz9 h => ?_)
      refine z_goto 43 dX3_aboutRoot_39 rfl ?_
      exact z_iret dX3_aboutRoot_43 rfl ⟨Nat.le_refl _, Nat.le_refl _⟩ ⟨rz10, Cz9, rfl, rfl, h⟩
def p_X3_aboutSlot (a1 : Int32) (a2 : Int32) (C : cS) (Q : Int32 → cS → Prop) : Prop :=
  ((¬ a2 = 2 → vp_in a1 (2 * c_sz C) ∧ p_X3_aboutWord ((c_a C 10) a1.toNatClampNeg) ((c_a C 11) a1.toNatClampNeg) a2 C (fun rz4 Cz3 => Q rz4 Cz3)) ∧ (a2 = 2 → vp_in a1 (2 * c_sz C) ∧ ((¬ ((c_a C 10) a1.toNatClampNeg) = 2 → Q (-1) C) ∧ (((c_a C 10) a1.toNatClampNeg) = 2 → p_X3_home ((c_a C 11) a1.toNatClampNeg) C (fun rz8 Cz7 => p_X3_halfOf rz8 Cz7 (fun rz10 Cz9 => Q rz10 Cz9))))))
set_option maxRecDepth 100000 in
set_option maxHeartbeats 4000000 in
theorem t_X3_aboutSlot (tg : Bool) (M : mS) (o : Nat → Int64) (X : List va_E) (a1 : Int32) (a2 : Int32) (C : cS) (Q : Int32 → cS → Prop) (h : p_X3_aboutSlot a1 a2 C Q) : z_M q_X3_aboutSlot tg [.ref 218, .int a1, .int a2] (wz C M o X) (zc_i M o X Q) := by
  unfold p_X3_aboutSlot at h
  refine z_enter (by decide) (Nat.le_of_ble_eq_true rfl) ?_
  refine z_iload_n 2 1 dX3_aboutSlot_0 rfl rfl ?_
  refine z_iconst 2 2 dX3_aboutSlot_1 rfl rfl ?_
  refine z_icmp_ne 34 5 dX3_aboutSlot_2 rfl rfl (fun hcz1 => ?_) (fun hcz1 => ?_)
  · replace h := h.1 hcz1
    refine z_aload_n 0 35 dX3_aboutSlot_34 rfl rfl ?_
    refine z_aload_n 0 36 dX3_aboutSlot_35 rfl rfl ?_
    refine gr_18_2 39 dX3_aboutSlot_36 of_X3_28 rfl ?_
    refine z_iload_n 1 40 dX3_aboutSlot_39 rfl rfl ?_
    obtain ⟨hbz2, h⟩ := h
    refine gca_10 ((c_a C 10) a1.toNatClampNeg) 41 dX3_aboutSlot_40 hbz2 rfl rfl ?_
    refine z_aload_n 0 42 dX3_aboutSlot_41 rfl rfl ?_
    refine gr_18_3 45 dX3_aboutSlot_42 of_X3_31 rfl ?_
    refine z_iload_n 1 46 dX3_aboutSlot_45 rfl rfl ?_
    refine gca_11 ((c_a C 11) a1.toNatClampNeg) 47 dX3_aboutSlot_46 hbz2 rfl rfl ?_
    refine z_iload_n 2 48 dX3_aboutSlot_47 rfl rfl ?_
    refine z_ciV [.int ((c_a C 10) a1.toNatClampNeg), .int ((c_a C 11) a1.toNatClampNeg), .int a2] 51 dX3_aboutSlot_48 ok_X3_aboutSlot_50 rfl rfl (Nat.le_of_ble_eq_true rfl) rc_18 ⟨rfl, rfl⟩ ⟨Nat.le_refl _, Nat.le_refl _⟩ rfl (t_X3_aboutWord tg M o X ((c_a C 10) a1.toNatClampNeg) ((c_a C 11) a1.toNatClampNeg) a2 C _ h) (fun rz4 Cz3 h => ?_)
    exact z_iret dX3_aboutSlot_51 rfl ⟨Nat.le_refl _, Nat.le_refl _⟩ ⟨rz4, Cz3, rfl, rfl, h⟩
  · replace h := h.2 hcz1
    refine z_aload_n 0 6 dX3_aboutSlot_5 rfl rfl ?_
    refine gr_18_2 9 dX3_aboutSlot_6 of_X3_28 rfl ?_
    refine z_iload_n 1 10 dX3_aboutSlot_9 rfl rfl ?_
    obtain ⟨hbz5, h⟩ := h
    refine gca_10 ((c_a C 10) a1.toNatClampNeg) 11 dX3_aboutSlot_10 hbz5 rfl rfl ?_
    refine z_iconst 2 12 dX3_aboutSlot_11 rfl rfl ?_
    refine z_icmp_ne 32 15 dX3_aboutSlot_12 rfl rfl (fun hcz6 => ?_) (fun hcz6 => ?_)
    · replace h := h.1 hcz6
      refine z_iconst (-1) 33 dX3_aboutSlot_32 rfl rfl ?_
      exact z_iret dX3_aboutSlot_33 rfl ⟨Nat.le_refl _, Nat.le_refl _⟩ ⟨(-1), C, rfl, rfl, h⟩
    · replace h := h.2 hcz6
      refine z_aload_n 0 16 dX3_aboutSlot_15 rfl rfl ?_
      refine z_aload_n 0 17 dX3_aboutSlot_16 rfl rfl ?_
      refine z_aload_n 0 18 dX3_aboutSlot_17 rfl rfl ?_
      refine gr_18_3 21 dX3_aboutSlot_18 of_X3_31 rfl ?_
      refine z_iload_n 1 22 dX3_aboutSlot_21 rfl rfl ?_
      refine gca_11 ((c_a C 11) a1.toNatClampNeg) 23 dX3_aboutSlot_22 hbz5 rfl rfl ?_
      refine z_ciV [.int ((c_a C 11) a1.toNatClampNeg)] 26 dX3_aboutSlot_23 ok_X3_aboutSlot_40 rfl rfl (Nat.le_of_ble_eq_true rfl) rc_18 ⟨rfl, rfl⟩ ⟨Nat.le_refl _, Nat.le_refl _⟩ rfl (t_X3_home tg M o X ((c_a C 11) a1.toNatClampNeg) C _ h) (fun rz8 Cz7 h => ?_)
      refine z_ciV [.int rz8] 29 dX3_aboutSlot_26 ok_X3_aboutSlot_54 rfl rfl (Nat.le_of_ble_eq_true rfl) rc_18 ⟨rfl, rfl⟩ ⟨Nat.le_refl _, Nat.le_refl _⟩ rfl (t_X3_halfOf tg M o X rz8 Cz7 _ h) (fun rz10 Cz9 h => ?_)
      refine z_goto 33 dX3_aboutSlot_29 rfl ?_
      exact z_iret dX3_aboutSlot_33 rfl ⟨Nat.le_refl _, Nat.le_refl _⟩ ⟨rz10, Cz9, rfl, rfl, h⟩
end ZG
