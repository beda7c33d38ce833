section ZG
def p_X2_give (a1 : Int32) (a2 : Int32) (a3 : Int32) (C : cS) (Q : Int32 → cS → Prop) : Prop :=
  vp_in a1 58 ∧ Q 0 (c_aU (c_aU C 12 a1 a2) 13 a1 a3)
set_option maxRecDepth 100000 in
set_option maxHeartbeats 4000000 in
theorem t_X2_give (tg : Bool) (M : mS) (o : Nat → Int64) (X : List va_E) (a1 : Int32) (a2 : Int32) (a3 : Int32) (C : cS) (Q : Int32 → cS → Prop) (h : p_X2_give a1 a2 a3 C Q) : z_M q_X2_give tg [.ref 224, .int a1, .int a2, .int a3] (wz C M o X) (zc_i M o X Q) := by
  unfold p_X2_give at h
  refine z_enter (by decide) (Nat.le_of_ble_eq_true rfl) ?_
  refine z_aload_n 0 1 dX2_give_0 rfl rfl ?_
  refine gr_24_0 4 dX2_give_1 of_X2_9 rfl ?_
  refine gr_18_4 7 dX2_give_4 of_X2_33 rfl ?_
  refine z_iload_n 1 8 dX2_give_7 rfl rfl ?_
  refine z_iload_n 2 9 dX2_give_8 rfl rfl ?_
  obtain ⟨hbz1, h⟩ := h
  refine pca_12 10 dX2_give_9 hbz1 rfl ?_
  refine z_aload_n 0 11 dX2_give_10 rfl rfl ?_
  refine gr_24_0 14 dX2_give_11 of_X2_9 rfl ?_
  refine gr_18_5 17 dX2_give_14 of_X2_36 rfl ?_
  refine z_iload_n 1 18 dX2_give_17 rfl rfl ?_
  refine z_iload_n 3 19 dX2_give_18 rfl rfl ?_
  refine pca_13 20 dX2_give_19 hbz1 rfl ?_
  refine z_iconst 0 21 dX2_give_20 rfl rfl ?_
  exact z_iret dX2_give_21 rfl ⟨Nat.le_refl _, Nat.le_refl _⟩ ⟨0, (c_aU (c_aU C 12 a1 a2) 13 a1 a3), rfl, rfl, h⟩
def p_X2_makeThing (a1 : Int32) (a2 : Int32) (a3 : Int32) (C : cS) (Q : Int32 → cS → Prop) : Prop :=
  ((a2 < 0 → Q 4 C) ∧ (¬ a2 < 0 → ((a2 ≤ 40 → p_X3_makeRoom (a2 + 2) C (fun rz4 Cz3 => ((rz4 = 0 → p_X3_lay a2 a3 Cz3 (fun rz7 Cz6 => p_X2_give a1 2 rz7 Cz6 (fun rz9 Cz8 => Q rz9 Cz8))) ∧ (¬ rz4 = 0 → Q rz4 Cz3)))) ∧ (¬ a2 ≤ 40 → Q 4 C))))
set_option maxRecDepth 100000 in
set_option maxHeartbeats 4000000 in
theorem t_X2_makeThing (_ : Bool) (M : mS) (o : Nat → Int64) (X : List va_E) (a1 : Int32) (a2 : Int32) (a3 : Int32) (C : cS) (Q : Int32 → cS → Prop) (h : p_X2_makeThing a1 a2 a3 C Q) : z_M q_X2_makeThing false [.ref 224, .int a1, .int a2, .int a3] (wz C M o X) (zc_i M o X Q) := by
  unfold p_X2_makeThing at h
  refine z_enter (by decide) (Nat.le_of_ble_eq_true rfl) ?_
  refine z_iload_n 2 1 dX2_makeThing_0 rfl rfl ?_
  refine z_if_lt 10 4 dX2_makeThing_1 rfl rfl (fun hcz1 => ?_) (fun hcz1 => ?_)
  · replace h := h.1 hcz1
    refine z_iconst 4 11 dX2_makeThing_10 rfl rfl ?_
    exact z_iret dX2_makeThing_11 rfl ⟨Nat.le_refl _, Nat.le_refl _⟩ ⟨4, C, rfl, rfl, h⟩
  · replace h := h.2 hcz1
    refine z_iload_n 2 5 dX2_makeThing_4 rfl rfl ?_
    refine z_bipush 40 7 dX2_makeThing_5 rfl rfl ?_
    refine z_icmp_le 12 10 dX2_makeThing_7 rfl rfl (fun hcz2 => ?_) (fun hcz2 => ?_)
    · replace h := h.1 hcz2
      refine z_aload_n 0 13 dX2_makeThing_12 rfl rfl ?_
      refine gr_24_0 16 dX2_makeThing_13 of_X2_9 rfl ?_
      refine z_iload_n 2 17 dX2_makeThing_16 rfl rfl ?_
      refine z_iconst 2 18 dX2_makeThing_17 rfl rfl ?_
      refine z_iadd 19 dX2_makeThing_18 rfl ?_
      refine z_ciV [.int (a2 + 2)] 22 dX2_makeThing_19 ok_X2_makeThing_80 rfl rfl (Nat.le_of_ble_eq_true rfl) rc_18 ⟨rfl, rfl⟩ ⟨Nat.le_refl _, Nat.le_refl _⟩ rfl (t_X3_makeRoom false M o X (a2 + 2) C _ h) (fun rz4 Cz3 h => ?_)
      refine z_istore [(4, .int rz4), (0, .ref 224), (1, .int a1), (2, .int a2), (3, .int a3)] 24 dX2_makeThing_22 (Nat.le_of_ble_eq_true rfl) rfl rfl ?_
      refine z_iload 0 26 dX2_makeThing_24 rfl rfl ?_
      refine z_if_eq 34 29 dX2_makeThing_26 rfl rfl (fun hcz5 => ?_) (fun hcz5 => ?_)
      · replace h := h.1 hcz5
        refine z_aload_n 1 35 dX2_makeThing_34 rfl rfl ?_
        refine z_iload_n 2 36 dX2_makeThing_35 rfl rfl ?_
        refine z_iconst 2 37 dX2_makeThing_36 rfl rfl ?_
        refine z_aload_n 1 38 dX2_makeThing_37 rfl rfl ?_
        refine gr_24_0 41 dX2_makeThing_38 of_X2_9 rfl ?_
        refine z_iload_n 3 42 dX2_makeThing_41 rfl rfl ?_
        refine z_iload_n 4 43 dX2_makeThing_42 rfl rfl ?_
        refine z_ciV [.int a2, .int a3] 46 dX2_makeThing_43 ok_X2_makeThing_83 rfl rfl (Nat.le_of_ble_eq_true rfl) rc_18 ⟨rfl, rfl⟩ ⟨Nat.le_refl _, Nat.le_refl _⟩ rfl (t_X3_lay false M o X a2 a3 Cz3 _ h) (fun rz7 Cz6 h => ?_)
        refine z_ciV [.int a1, .int 2, .int rz7] 49 dX2_makeThing_46 ok_X2_makeThing_29 rfl rfl (Nat.le_of_ble_eq_true rfl) rc_24 ⟨rfl, rfl⟩ ⟨Nat.le_refl _, Nat.le_refl _⟩ rfl (t_X2_give false M o X a1 2 rz7 Cz6 _ h) (fun rz9 Cz8 h => ?_)
        exact z_iret dX2_makeThing_49 rfl ⟨Nat.le_refl _, Nat.le_refl _⟩ ⟨rz9, Cz8, rfl, rfl, h⟩
      · replace h := h.2 hcz5
        refine z_iload 0 31 dX2_makeThing_29 rfl rfl ?_
        refine z_goto 49 dX2_makeThing_31 rfl ?_
        exact z_iret dX2_makeThing_49 rfl ⟨Nat.le_refl _, Nat.le_refl _⟩ ⟨rz4, Cz3, rfl, rfl, h⟩
    · replace h := h.2 hcz2
      refine z_iconst 4 11 dX2_makeThing_10 rfl rfl ?_
      exact z_iret dX2_makeThing_11 rfl ⟨Nat.le_refl _, Nat.le_refl _⟩ ⟨4, C, rfl, rfl, h⟩
def p_X2_hasNumber (a1 : Int32) (C : cS) (Q : Int32 → cS → Prop) : Prop :=
  vp_in a1 58 ∧ ((¬ ((c_a C 12) a1.toNatClampNeg) = 0 → Q 0 C) ∧ (((c_a C 12) a1.toNatClampNeg) = 0 → Q 1 C))
set_option maxRecDepth 100000 in
set_option maxHeartbeats 4000000 in
theorem t_X2_hasNumber (tg : Bool) (M : mS) (o : Nat → Int64) (X : List va_E) (a1 : Int32) (C : cS) (Q : Int32 → cS → Prop) (h : p_X2_hasNumber a1 C Q) : z_M q_X2_hasNumber tg [.ref 224, .int a1] (wz C M o X) (zc_i M o X Q) := by
  unfold p_X2_hasNumber at h
  refine z_enter (by decide) (Nat.le_of_ble_eq_true rfl) ?_
  refine z_aload_n 0 1 dX2_hasNumber_0 rfl rfl ?_
  refine gr_24_0 4 dX2_hasNumber_1 of_X2_9 rfl ?_
  refine gr_18_4 7 dX2_hasNumber_4 of_X2_33 rfl ?_
  refine z_iload_n 1 8 dX2_hasNumber_7 rfl rfl ?_
  obtain ⟨hbz1, h⟩ := h
  refine gca_12 ((c_a C 12) a1.toNatClampNeg) 9 dX2_hasNumber_8 hbz1 rfl rfl ?_
  refine z_if_ne 16 12 dX2_hasNumber_9 rfl rfl (fun hcz2 => ?_) (fun hcz2 => ?_)
  · replace h := h.1 hcz2
    refine z_iconst 0 17 dX2_hasNumber_16 rfl rfl ?_
    exact z_zret dX2_hasNumber_17 rfl rfl ⟨Nat.le_refl _, Nat.le_refl _⟩ ⟨0, C, rfl, rfl, h⟩
  · replace h := h.2 hcz2
    refine z_iconst 1 13 dX2_hasNumber_12 rfl rfl ?_
    refine z_goto 17 dX2_hasNumber_13 rfl ?_
    exact z_zret dX2_hasNumber_17 rfl rfl ⟨Nat.le_refl _, Nat.le_refl _⟩ ⟨1, C, rfl, rfl, h⟩
def p_X2_number (a1 : Int32) (C : cS) (Q : Int32 → cS → Prop) : Prop :=
  vp_in a1 58 ∧ Q ((c_a C 13) a1.toNatClampNeg) C
set_option maxRecDepth 100000 in
set_option maxHeartbeats 4000000 in
theorem t_X2_number (tg : Bool) (M : mS) (o : Nat → Int64) (X : List va_E) (a1 : Int32) (C : cS) (Q : Int32 → cS → Prop) (h : p_X2_number a1 C Q) : z_M q_X2_number tg [.ref 224, .int a1] (wz C M o X) (zc_i M o X Q) := by
  unfold p_X2_number at h
  refine z_enter (by decide) (Nat.le_of_ble_eq_true rfl) ?_
  refine z_aload_n 0 1 dX2_number_0 rfl rfl ?_
  refine gr_24_0 4 dX2_number_1 of_X2_9 rfl ?_
  refine gr_18_5 7 dX2_number_4 of_X2_36 rfl ?_
  refine z_iload_n 1 8 dX2_number_7 rfl rfl ?_
  obtain ⟨hbz1, h⟩ := h
  refine gca_13 ((c_a C 13) a1.toNatClampNeg) 9 dX2_number_8 hbz1 rfl rfl ?_
  exact z_iret dX2_number_9 rfl ⟨Nat.le_refl _, Nat.le_refl _⟩ ⟨(c_a C 13) a1.toNatClampNeg, C, rfl, rfl, h⟩
def p_X2_hasThing (a1 : Int32) (C : cS) (Q : Int32 → cS → Prop) : Prop :=
  vp_in a1 58 ∧ ((¬ ((c_a C 12) a1.toNatClampNeg) = 2 → Q 0 C) ∧ (((c_a C 12) a1.toNatClampNeg) = 2 → Q 1 C))
set_option maxRecDepth 100000 in
set_option maxHeartbeats 4000000 in
theorem t_X2_hasThing (tg : Bool) (M : mS) (o : Nat → Int64) (X : List va_E) (a1 : Int32) (C : cS) (Q : Int32 → cS → Prop) (h : p_X2_hasThing a1 C Q) : z_M q_X2_hasThing tg [.ref 224, .int a1] (wz C M o X) (zc_i M o X Q) := by
  unfold p_X2_hasThing at h
  refine z_enter (by decide) (Nat.le_of_ble_eq_true rfl) ?_
  refine z_aload_n 0 1 dX2_hasThing_0 rfl rfl ?_
  refine gr_24_0 4 dX2_hasThing_1 of_X2_9 rfl ?_
  refine gr_18_4 7 dX2_hasThing_4 of_X2_33 rfl ?_
  refine z_iload_n 1 8 dX2_hasThing_7 rfl rfl ?_
  obtain ⟨hbz1, h⟩ := h
  refine gca_12 ((c_a C 12) a1.toNatClampNeg) 9 dX2_hasThing_8 hbz1 rfl rfl ?_
  refine z_iconst 2 10 dX2_hasThing_9 rfl rfl ?_
  refine z_icmp_ne 17 13 dX2_hasThing_10 rfl rfl (fun hcz2 => ?_) (fun hcz2 => ?_)
  · replace h := h.1 hcz2
    refine z_iconst 0 18 dX2_hasThing_17 rfl rfl ?_
    exact z_zret dX2_hasThing_18 rfl rfl ⟨Nat.le_refl _, Nat.le_refl _⟩ ⟨0, C, rfl, rfl, h⟩
  · replace h := h.2 hcz2
    refine z_iconst 1 14 dX2_hasThing_13 rfl rfl ?_
    refine z_goto 18 dX2_hasThing_14 rfl ?_
    exact z_zret dX2_hasThing_18 rfl rfl ⟨Nat.le_refl _, Nat.le_refl _⟩ ⟨1, C, rfl, rfl, h⟩
def p_X2_readSlot (a1 : Int32) (a2 : Int32) (a3 : Int32) (C : cS) (Q : Int32 → cS → Prop) : Prop :=
  p_X2_hasThing a2 C (fun rz2 Cz1 => ((¬ rz2 = 0 → p_X3_slotOf a2 a3 Cz1 (fun rz5 Cz4 => ((¬ rz5 = (-1) → p_X3_bringH rz5 Cz4 (fun rz8 Cz7 => ((rz8 = 0 → Q 8 Cz7) ∧ (¬ rz8 = 0 → vp_in rz5 (2 * c_sz Cz7) ∧ p_X2_give a1 ((c_a Cz7 10) rz5.toNatClampNeg) ((c_a Cz7 11) rz5.toNatClampNeg) Cz7 (fun rz12 Cz11 => Q rz12 Cz11))))) ∧ (rz5 = (-1) → Q 3 Cz4)))) ∧ (rz2 = 0 → Q 2 Cz1)))
set_option maxRecDepth 100000 in
set_option maxHeartbeats 4000000 in
theorem t_X2_readSlot (_ : Bool) (M : mS) (o : Nat → Int64) (X : List va_E) (a1 : Int32) (a2 : Int32) (a3 : Int32) (C : cS) (Q : Int32 → cS → Prop) (h : p_X2_readSlot a1 a2 a3 C Q) : z_M q_X2_readSlot false [.ref 224, .int a1, .int a2, .int a3] (wz C M o X) (zc_i M o X Q) := by
  unfold p_X2_readSlot at h
  refine z_enter (by decide) (Nat.le_of_ble_eq_true rfl) ?_
  refine z_aload_n 0 1 dX2_readSlot_0 rfl rfl ?_
  refine z_iload_n 2 2 dX2_readSlot_1 rfl rfl ?_
  refine z_ciV [.int a2] 5 dX2_readSlot_2 ok_X2_readSlot_56 rfl rfl (Nat.le_of_ble_eq_true rfl) rc_24 ⟨rfl, rfl⟩ ⟨Nat.le_refl _, Nat.le_refl _⟩ rfl (t_X2_hasThing false M o X a2 C _ h) (fun rz2 Cz1 h => ?_)
  refine z_if_ne 10 8 dX2_readSlot_5 rfl rfl (fun hcz3 => ?_) (fun hcz3 => ?_)
  · replace h := h.1 hcz3
    refine z_aload_n 0 11 dX2_readSlot_10 rfl rfl ?_
    refine gr_24_0 14 dX2_readSlot_11 of_X2_9 rfl ?_
    refine z_iload_n 2 15 dX2_readSlot_14 rfl rfl ?_
    refine z_iload_n 3 16 dX2_readSlot_15 rfl rfl ?_
    refine z_ciV [.int a2, .int a3] 19 dX2_readSlot_16 ok_X2_readSlot_86 rfl rfl (Nat.le_of_ble_eq_true rfl) rc_18 ⟨rfl, rfl⟩ ⟨Nat.le_refl _, Nat.le_refl _⟩ rfl (t_X3_slotOf false M o X a2 a3 Cz1 _ h) (fun rz5 Cz4 h => ?_)
    refine z_istore [(4, .int rz5), (0, .ref 224), (1, .int a1), (2, .int a2), (3, .int a3)] 21 dX2_readSlot_19 (Nat.le_of_ble_eq_true rfl) rfl rfl ?_
    refine z_iload 0 23 dX2_readSlot_21 rfl rfl ?_
    refine z_iconst (-1) 24 dX2_readSlot_23 rfl rfl ?_
    refine z_icmp_ne 29 27 dX2_readSlot_24 rfl rfl (fun hcz6 => ?_) (fun hcz6 => ?_)
    · replace h := h.1 hcz6
      refine z_aload_n 1 30 dX2_readSlot_29 rfl rfl ?_
      refine gr_24_0 33 dX2_readSlot_30 of_X2_9 rfl ?_
      refine z_aload_n 1 34 dX2_readSlot_33 rfl rfl ?_
      refine gr_24_0 37 dX2_readSlot_34 of_X2_9 rfl ?_
      refine gr_18_2 40 dX2_readSlot_37 of_X2_89 rfl ?_
      refine z_aload_n 1 41 dX2_readSlot_40 rfl rfl ?_
      refine gr_24_0 44 dX2_readSlot_41 of_X2_9 rfl ?_
      refine gr_18_3 47 dX2_readSlot_44 of_X2_92 rfl ?_
      refine z_iload 0 49 dX2_readSlot_47 rfl rfl ?_
      refine z_ciV [.ref 222, .ref 223, .int rz5] 52 dX2_readSlot_49 ok_X2_readSlot_95 rfl rfl (Nat.le_of_ble_eq_true rfl) rc_18 ⟨rfl, rfl⟩ ⟨Nat.le_refl _, Nat.le_refl _⟩ rfl (t_X3_bringH false M o X rz5 Cz4 _ h) (fun rz8 Cz7 h => ?_)
      refine z_istore [(5, .int rz8), (4, .int rz5), (0, .ref 224), (1, .int a1), (2, .int a2), (3, .int a3)] 54 dX2_readSlot_52 (Nat.le_of_ble_eq_true rfl) rfl rfl ?_
      refine z_iload 0 56 dX2_readSlot_54 rfl rfl ?_
      refine z_if_eq 87 59 dX2_readSlot_56 rfl rfl (fun hcz9 => ?_) (fun hcz9 => ?_)
      · replace h := h.1 hcz9
        refine z_bipush 8 89 dX2_readSlot_87 rfl rfl ?_
        exact z_iret dX2_readSlot_89 rfl ⟨Nat.le_refl _, Nat.le_refl _⟩ ⟨8, Cz7, rfl, rfl, h⟩
      · replace h := h.2 hcz9
        refine z_aload_n 2 60 dX2_readSlot_59 rfl rfl ?_
        refine z_iload_n 3 61 dX2_readSlot_60 rfl rfl ?_
        refine z_aload_n 2 62 dX2_readSlot_61 rfl rfl ?_
        refine gr_24_0 65 dX2_readSlot_62 of_X2_9 rfl ?_
        refine gr_18_2 68 dX2_readSlot_65 of_X2_89 rfl ?_
        refine z_iload 1 70 dX2_readSlot_68 rfl rfl ?_
        obtain ⟨hbz10, h⟩ := h
        refine gca_10 ((c_a Cz7 10) rz5.toNatClampNeg) 71 dX2_readSlot_70 hbz10 rfl rfl ?_
        refine z_aload_n 2 72 dX2_readSlot_71 rfl rfl ?_
        refine gr_24_0 75 dX2_readSlot_72 of_X2_9 rfl ?_
        refine gr_18_3 78 dX2_readSlot_75 of_X2_92 rfl ?_
        refine z_iload 1 80 dX2_readSlot_78 rfl rfl ?_
        refine gca_11 ((c_a Cz7 11) rz5.toNatClampNeg) 81 dX2_readSlot_80 hbz10 rfl rfl ?_
        refine z_ciV [.int a1, .int ((c_a Cz7 10) rz5.toNatClampNeg), .int ((c_a Cz7 11) rz5.toNatClampNeg)] 84 dX2_readSlot_81 ok_X2_readSlot_29 rfl rfl (Nat.le_of_ble_eq_true rfl) rc_24 ⟨rfl, rfl⟩ ⟨Nat.le_refl _, Nat.le_refl _⟩ rfl (t_X2_give false M o X a1 ((c_a Cz7 10) rz5.toNatClampNeg) ((c_a Cz7 11) rz5.toNatClampNeg) Cz7 _ h) (fun rz12 Cz11 h => ?_)
        refine z_goto 89 dX2_readSlot_84 rfl ?_
        exact z_iret dX2_readSlot_89 rfl ⟨Nat.le_refl _, Nat.le_refl _⟩ ⟨rz12, Cz11, rfl, rfl, h⟩
    · replace h := h.2 hcz6
      refine z_iconst 3 28 dX2_readSlot_27 rfl rfl ?_
      exact z_iret dX2_readSlot_28 rfl ⟨Nat.le_refl _, Nat.le_refl _⟩ ⟨3, Cz4, rfl, rfl, h⟩
  · replace h := h.2 hcz3
    refine z_iconst 2 9 dX2_readSlot_8 rfl rfl ?_
    exact z_iret dX2_readSlot_9 rfl ⟨Nat.le_refl _, Nat.le_refl _⟩ ⟨2, Cz1, rfl, rfl, h⟩
def j_X2_writeSlot_58 (Q : Int32 → cS → Prop) (l3 : Int32) (l4 : Int32) (C : cS) : Prop :=
  vp_in l3 58 ∧ vp_in l4 (2 * c_sz C) ∧ Q 0 (c_aU (c_aU C 10 l4 ((c_a C 12) l3.toNatClampNeg)) 11 l4 ((c_a C 13) l3.toNatClampNeg))
set_option maxRecDepth 100000 in
set_option maxHeartbeats 4000000 in
theorem tj_X2_writeSlot_58 (tg : Bool) (M : mS) (o : Nat → Int64) (X : List va_E) (Q : Int32 → cS → Prop) (l3 : Int32) (l4 : Int32) (C : cS) (h : j_X2_writeSlot_58 Q l3 l4 C) : z_go q_X2_writeSlot tg 58 [(3, .int l3), (4, .int l4), (0, .ref 224)] [] (wz C M o X) 0 0 (zc_i M o X Q) := by
  unfold j_X2_writeSlot_58 at h
  refine z_aload_n 2 59 dX2_writeSlot_58 rfl rfl ?_
  refine gr_24_0 62 dX2_writeSlot_59 of_X2_9 rfl ?_
  refine gr_18_2 65 dX2_writeSlot_62 of_X2_89 rfl ?_
  refine z_iload 1 67 dX2_writeSlot_65 rfl rfl ?_
  refine z_aload_n 2 68 dX2_writeSlot_67 rfl rfl ?_
  refine gr_24_0 71 dX2_writeSlot_68 of_X2_9 rfl ?_
  refine gr_18_4 74 dX2_writeSlot_71 of_X2_33 rfl ?_
  refine z_iload_n 0 75 dX2_writeSlot_74 rfl rfl ?_
  obtain ⟨hbz11, h⟩ := h
  refine gca_12 ((c_a C 12) l3.toNatClampNeg) 76 dX2_writeSlot_75 hbz11 rfl rfl ?_
  obtain ⟨hbz12, h⟩ := h
  refine pca_10 77 dX2_writeSlot_76 hbz12 rfl ?_
  refine z_aload_n 2 78 dX2_writeSlot_77 rfl rfl ?_
  refine gr_24_0 81 dX2_writeSlot_78 of_X2_9 rfl ?_
  refine gr_18_3 84 dX2_writeSlot_81 of_X2_92 rfl ?_
  refine z_iload 1 86 dX2_writeSlot_84 rfl rfl ?_
  refine z_aload_n 2 87 dX2_writeSlot_86 rfl rfl ?_
  refine gr_24_0 90 dX2_writeSlot_87 of_X2_9 rfl ?_
  refine gr_18_5 93 dX2_writeSlot_90 of_X2_36 rfl ?_
  refine z_iload_n 0 94 dX2_writeSlot_93 rfl rfl ?_
  refine gca_13 ((c_a C 13) l3.toNatClampNeg) 95 dX2_writeSlot_94 hbz11 rfl rfl ?_
  refine pca_11 96 dX2_writeSlot_95 hbz12 rfl ?_
  refine z_iconst 0 97 dX2_writeSlot_96 rfl rfl ?_
  exact z_iret dX2_writeSlot_97 rfl ⟨Nat.le_refl _, Nat.le_refl _⟩ ⟨0, (c_aU (c_aU C 10 l4 ((c_a C 12) l3.toNatClampNeg)) 11 l4 ((c_a C 13) l3.toNatClampNeg)), rfl, rfl, h⟩
def p_X2_writeSlot (a1 : Int32) (a2 : Int32) (a3 : Int32) (C : cS) (Q : Int32 → cS → Prop) : Prop :=
  p_X2_hasThing a1 C (fun rz2 Cz1 => ((¬ rz2 = 0 → p_X3_slotOf a1 a2 Cz1 (fun rz5 Cz4 => ((¬ rz5 = (-1) → vp_in a1 58 ∧ p_X3_isRow ((c_a Cz4 13) a1.toNatClampNeg) Cz4 (fun rz9 Cz8 => ((¬ rz9 = 0 → j_X2_writeSlot_58 Q a3 rz5 Cz8) ∧ (rz9 = 0 → p_X2_hasNumber a3 Cz8 (fun rz14 Cz13 => ((¬ rz14 = 0 → j_X2_writeSlot_58 Q a3 rz5 Cz13) ∧ (rz14 = 0 → Q 5 Cz13))))))) ∧ (rz5 = (-1) → Q 3 Cz4)))) ∧ (rz2 = 0 → Q 2 Cz1)))
set_option maxRecDepth 100000 in
set_option maxHeartbeats 4000000 in
theorem t_X2_writeSlot (tg : Bool) (M : mS) (o : Nat → Int64) (X : List va_E) (a1 : Int32) (a2 : Int32) (a3 : Int32) (C : cS) (Q : Int32 → cS → Prop) (h : p_X2_writeSlot a1 a2 a3 C Q) : z_M q_X2_writeSlot tg [.ref 224, .int a1, .int a2, .int a3] (wz C M o X) (zc_i M o X Q) := by
  unfold p_X2_writeSlot at h
  refine z_enter (by decide) (Nat.le_of_ble_eq_true rfl) ?_
  refine z_aload_n 0 1 dX2_writeSlot_0 rfl rfl ?_
  refine z_iload_n 1 2 dX2_writeSlot_1 rfl rfl ?_
  refine z_ciV [.int a1] 5 dX2_writeSlot_2 ok_X2_writeSlot_56 rfl rfl (Nat.le_of_ble_eq_true rfl) rc_24 ⟨rfl, rfl⟩ ⟨Nat.le_refl _, Nat.le_refl _⟩ rfl (t_X2_hasThing tg M o X a1 C _ h) (fun rz2 Cz1 h => ?_)
  refine z_if_ne 10 8 dX2_writeSlot_5 rfl rfl (fun hcz3 => ?_) (fun hcz3 => ?_)
  · replace h := h.1 hcz3
    refine z_aload_n 0 11 dX2_writeSlot_10 rfl rfl ?_
    refine gr_24_0 14 dX2_writeSlot_11 of_X2_9 rfl ?_
    refine z_iload_n 1 15 dX2_writeSlot_14 rfl rfl ?_
    refine z_iload_n 2 16 dX2_writeSlot_15 rfl rfl ?_
    refine z_ciV [.int a1, .int a2] 19 dX2_writeSlot_16 ok_X2_writeSlot_86 rfl rfl (Nat.le_of_ble_eq_true rfl) rc_18 ⟨rfl, rfl⟩ ⟨Nat.le_refl _, Nat.le_refl _⟩ rfl (t_X3_slotOf tg M o X a1 a2 Cz1 _ h) (fun rz5 Cz4 h => ?_)
    refine z_istore [(4, .int rz5), (0, .ref 224), (1, .int a1), (2, .int a2), (3, .int a3)] 21 dX2_writeSlot_19 (Nat.le_of_ble_eq_true rfl) rfl rfl ?_
    refine z_iload 0 23 dX2_writeSlot_21 rfl rfl ?_
    refine z_iconst (-1) 24 dX2_writeSlot_23 rfl rfl ?_
    refine z_icmp_ne 29 27 dX2_writeSlot_24 rfl rfl (fun hcz6 => ?_) (fun hcz6 => ?_)
    · replace h := h.1 hcz6
      refine z_aload_n 1 30 dX2_writeSlot_29 rfl rfl ?_
      refine gr_24_0 33 dX2_writeSlot_30 of_X2_9 rfl ?_
      refine z_aload_n 1 34 dX2_writeSlot_33 rfl rfl ?_
      refine gr_24_0 37 dX2_writeSlot_34 of_X2_9 rfl ?_
      refine gr_18_5 40 dX2_writeSlot_37 of_X2_36 rfl ?_
      refine z_iload_n 2 41 dX2_writeSlot_40 rfl rfl ?_
      obtain ⟨hbz7, h⟩ := h
      refine gca_13 ((c_a Cz4 13) a1.toNatClampNeg) 42 dX2_writeSlot_41 hbz7 rfl rfl ?_
      refine z_ciV [.int ((c_a Cz4 13) a1.toNatClampNeg)] 45 dX2_writeSlot_42 ok_X2_writeSlot_99 rfl rfl (Nat.le_of_ble_eq_true rfl) rc_18 ⟨rfl, rfl⟩ ⟨Nat.le_refl _, Nat.le_refl _⟩ rfl (t_X3_isRow tg M o X ((c_a Cz4 13) a1.toNatClampNeg) Cz4 _ h) (fun rz9 Cz8 h => ?_)
      refine z_if_ne 58 48 dX2_writeSlot_45 rfl rfl (fun hcz10 => ?_) (fun hcz10 => ?_)
      · replace h := h.1 hcz10
        refine z_pick [(3, .int a3), (4, .int rz5), (0, .ref 224)] [4, 0, 1] rfl ?_
        exact tj_X2_writeSlot_58 tg M o X Q a3 rz5 Cz8 h
      · replace h := h.2 hcz10
        refine z_aload_n 1 49 dX2_writeSlot_48 rfl rfl ?_
        refine z_iload_n 4 50 dX2_writeSlot_49 rfl rfl ?_
        refine z_ciV [.int a3] 53 dX2_writeSlot_50 ok_X2_writeSlot_42 rfl rfl (Nat.le_of_ble_eq_true rfl) rc_24 ⟨rfl, rfl⟩ ⟨Nat.le_refl _, Nat.le_refl _⟩ rfl (t_X2_hasNumber tg M o X a3 Cz8 _ h) (fun rz14 Cz13 h => ?_)
        refine z_if_ne 58 56 dX2_writeSlot_53 rfl rfl (fun hcz15 => ?_) (fun hcz15 => ?_)
        · replace h := h.1 hcz15
          refine z_pick [(3, .int a3), (4, .int rz5), (0, .ref 224)] [4, 0, 1] rfl ?_
          exact tj_X2_writeSlot_58 tg M o X Q a3 rz5 Cz13 h
        · replace h := h.2 hcz15
          refine z_iconst 5 57 dX2_writeSlot_56 rfl rfl ?_
          exact z_iret dX2_writeSlot_57 rfl ⟨Nat.le_refl _, Nat.le_refl _⟩ ⟨5, Cz13, rfl, rfl, h⟩
    · replace h := h.2 hcz6
      refine z_iconst 3 28 dX2_writeSlot_27 rfl rfl ?_
      exact z_iret dX2_writeSlot_28 rfl ⟨Nat.le_refl _, Nat.le_refl _⟩ ⟨3, Cz4, rfl, rfl, h⟩
  · replace h := h.2 hcz3
    refine z_iconst 2 9 dX2_writeSlot_8 rfl rfl ?_
    exact z_iret dX2_writeSlot_9 rfl ⟨Nat.le_refl _, Nat.le_refl _⟩ ⟨2, Cz1, rfl, rfl, h⟩
def p_X2_reckon (i1 : Nat) (a2 : Int32) (a3 : Int32) (C : cS) (Q : Int32 → cS → Prop) : Prop :=
  i1 < 26 ∧ vp_in (nI i1) 26 ∧ ∀ vz3 : Int32, vz3 = z_swm.getD (nI i1).toNatClampNeg 0 → ((vz3 = 14 → p_X2_number a2 C (fun rz6 Cz5 => p_X2_number a3 Cz5 (fun rz8 Cz7 => Q (rz6 + rz8) Cz7))) ∧ (¬ vz3 = 14 → ((vz3 = 15 → p_X2_number a2 C (fun rz11 Cz10 => p_X2_number a3 Cz10 (fun rz13 Cz12 => Q (rz11 - rz13) Cz12))) ∧ (¬ vz3 = 15 → ((vz3 = 16 → p_X2_number a2 C (fun rz16 Cz15 => p_X2_number a3 Cz15 (fun rz18 Cz17 => Q (rz16 * rz18) Cz17))) ∧ (¬ vz3 = 16 → p_X2_number a2 C (fun rz20 Cz19 => p_X2_number a3 Cz19 (fun rz22 Cz21 => ((rz22 ≤ rz20 → Q 0 Cz21) ∧ (¬ rz22 ≤ rz20 → Q 1 Cz21))))))))))
set_option maxRecDepth 100000 in
set_option maxHeartbeats 4000000 in
theorem t_X2_reckon (tg : Bool) (M : mS) (o : Nat → Int64) (X : List va_E) (i1 : Nat) (a2 : Int32) (a3 : Int32) (C : cS) (Q : Int32 → cS → Prop) (h : p_X2_reckon i1 a2 a3 C Q) : z_M q_X2_reckon tg [.ref 224, .ref (2 + i1), .int a2, .int a3] (wz C M o X) (zc_i M o X Q) := by
  unfold p_X2_reckon at h
  refine z_enter (by decide) (Nat.le_of_ble_eq_true rfl) ?_
  refine z_gets (.ref 28) 3 dX2_reckon_0 (List.mem_of_getElem? (i := 1) rfl) ol_X2_15 rfl ?_
  refine z_aload_n 1 4 dX2_reckon_3 rfl rfl ?_
  obtain ⟨hqz1, h⟩ := h
  refine z_ord i1 7 dX2_reckon_4 ok_X2_reckon_21 hqz1 rfl ⟨by decide, Nat.le_of_ble_eq_true rfl⟩ rfl ?_
  obtain ⟨hbz2, h⟩ := h
  refine z_tiald 0 8 dX2_reckon_7 (List.mem_of_getElem? (i := 1) rfl) (Nat.lt_succ_self 0) rfl hbz2 rfl ?_
  refine z_topi (fun vz3 hvz3 => ?_)
  replace h := h vz3 hvz3
  by_cases hcz4 : vz3 = 14
  · replace h := h.1 hcz4
    refine z_tabIn 36 dX2_reckon_8 (by rw [hcz4]; decide) (by rw [hcz4]; decide) (by rw [hcz4]; rfl) rfl ?_
    refine z_aload_n 0 37 dX2_reckon_36 rfl rfl ?_
    refine z_iload_n 2 38 dX2_reckon_37 rfl rfl ?_
    refine z_ciV [.int a2] 41 dX2_reckon_38 ok_X2_reckon_46 rfl rfl (Nat.le_of_ble_eq_true rfl) rc_24 ⟨rfl, rfl⟩ ⟨Nat.le_refl _, Nat.le_refl _⟩ rfl (t_X2_number tg M o X a2 C _ h) (fun rz6 Cz5 h => ?_)
    refine z_aload_n 0 42 dX2_reckon_41 rfl rfl ?_
    refine z_iload_n 3 43 dX2_reckon_42 rfl rfl ?_
    refine z_ciV [.int a3] 46 dX2_reckon_43 ok_X2_reckon_46 rfl rfl (Nat.le_of_ble_eq_true rfl) rc_24 ⟨rfl, rfl⟩ ⟨Nat.le_refl _, Nat.le_refl _⟩ rfl (t_X2_number tg M o X a3 Cz5 _ h) (fun rz8 Cz7 h => ?_)
    refine z_iadd 47 dX2_reckon_46 rfl ?_
    exact z_iret dX2_reckon_47 rfl ⟨Nat.le_refl _, Nat.le_refl _⟩ ⟨rz6 + rz8, Cz7, rfl, rfl, h⟩
  · replace h := h.2 hcz4
    by_cases hcz9 : vz3 = 15
    · replace h := h.1 hcz9
      refine z_tabIn 48 dX2_reckon_8 (by rw [hcz9]; decide) (by rw [hcz9]; decide) (by rw [hcz9]; rfl) rfl ?_
      refine z_aload_n 0 49 dX2_reckon_48 rfl rfl ?_
      refine z_iload_n 2 50 dX2_reckon_49 rfl rfl ?_
      refine z_ciV [.int a2] 53 dX2_reckon_50 ok_X2_reckon_46 rfl rfl (Nat.le_of_ble_eq_true rfl) rc_24 ⟨rfl, rfl⟩ ⟨Nat.le_refl _, Nat.le_refl _⟩ rfl (t_X2_number tg M o X a2 C _ h) (fun rz11 Cz10 h => ?_)
      refine z_aload_n 0 54 dX2_reckon_53 rfl rfl ?_
      refine z_iload_n 3 55 dX2_reckon_54 rfl rfl ?_
      refine z_ciV [.int a3] 58 dX2_reckon_55 ok_X2_reckon_46 rfl rfl (Nat.le_of_ble_eq_true rfl) rc_24 ⟨rfl, rfl⟩ ⟨Nat.le_refl _, Nat.le_refl _⟩ rfl (t_X2_number tg M o X a3 Cz10 _ h) (fun rz13 Cz12 h => ?_)
      refine z_isub 59 dX2_reckon_58 rfl ?_
      exact z_iret dX2_reckon_59 rfl ⟨Nat.le_refl _, Nat.le_refl _⟩ ⟨rz11 - rz13, Cz12, rfl, rfl, h⟩
    · replace h := h.2 hcz9
      by_cases hcz14 : vz3 = 16
      · replace h := h.1 hcz14
        refine z_tabIn 60 dX2_reckon_8 (by rw [hcz14]; decide) (by rw [hcz14]; decide) (by rw [hcz14]; rfl) rfl ?_
        refine z_aload_n 0 61 dX2_reckon_60 rfl rfl ?_
        refine z_iload_n 2 62 dX2_reckon_61 rfl rfl ?_
        refine z_ciV [.int a2] 65 dX2_reckon_62 ok_X2_reckon_46 rfl rfl (Nat.le_of_ble_eq_true rfl) rc_24 ⟨rfl, rfl⟩ ⟨Nat.le_refl _, Nat.le_refl _⟩ rfl (t_X2_number tg M o X a2 C _ h) (fun rz16 Cz15 h => ?_)
        refine z_aload_n 0 66 dX2_reckon_65 rfl rfl ?_
        refine z_iload_n 3 67 dX2_reckon_66 rfl rfl ?_
        refine z_ciV [.int a3] 70 dX2_reckon_67 ok_X2_reckon_46 rfl rfl (Nat.le_of_ble_eq_true rfl) rc_24 ⟨rfl, rfl⟩ ⟨Nat.le_refl _, Nat.le_refl _⟩ rfl (t_X2_number tg M o X a3 Cz15 _ h) (fun rz18 Cz17 h => ?_)
        refine z_imul 71 dX2_reckon_70 rfl ?_
        exact z_iret dX2_reckon_71 rfl ⟨Nat.le_refl _, Nat.le_refl _⟩ ⟨rz16 * rz18, Cz17, rfl, rfl, h⟩
      · replace h := h.2 hcz14
        refine z_tab [14, 15, 16] 72 dX2_reckon_8 (List.forall_mem_cons.mpr ⟨hcz4, (List.forall_mem_cons.mpr ⟨hcz9, (List.forall_mem_cons.mpr ⟨hcz14, (fun _ q9 => absurd q9 List.not_mem_nil)⟩)⟩)⟩) (by decide +kernel) (by decide) rfl ?_
        refine z_aload_n 0 73 dX2_reckon_72 rfl rfl ?_
        refine z_iload_n 2 74 dX2_reckon_73 rfl rfl ?_
        refine z_ciV [.int a2] 77 dX2_reckon_74 ok_X2_reckon_46 rfl rfl (Nat.le_of_ble_eq_true rfl) rc_24 ⟨rfl, rfl⟩ ⟨Nat.le_refl _, Nat.le_refl _⟩ rfl (t_X2_number tg M o X a2 C _ h) (fun rz20 Cz19 h => ?_)
        refine z_aload_n 0 78 dX2_reckon_77 rfl rfl ?_
        refine z_iload_n 3 79 dX2_reckon_78 rfl rfl ?_
        refine z_ciV [.int a3] 82 dX2_reckon_79 ok_X2_reckon_46 rfl rfl (Nat.le_of_ble_eq_true rfl) rc_24 ⟨rfl, rfl⟩ ⟨Nat.le_refl _, Nat.le_refl _⟩ rfl (t_X2_number tg M o X a3 Cz19 _ h) (fun rz22 Cz21 h => ?_)
        refine z_icmp_ge 89 85 dX2_reckon_82 rfl rfl (fun hcz23 => ?_) (fun hcz23 => ?_)
        · replace h := h.1 hcz23
          refine z_iconst 0 90 dX2_reckon_89 rfl rfl ?_
          exact z_iret dX2_reckon_90 rfl ⟨Nat.le_refl _, Nat.le_refl _⟩ ⟨0, Cz21, rfl, rfl, h⟩
        · replace h := h.2 hcz23
          refine z_iconst 1 86 dX2_reckon_85 rfl rfl ?_
          refine z_goto 90 dX2_reckon_86 rfl ?_
          exact z_iret dX2_reckon_90 rfl ⟨Nat.le_refl _, Nat.le_refl _⟩ ⟨1, Cz21, rfl, rfl, h⟩
def p_X2_haveSame (a1 : Int32) (a2 : Int32) (C : cS) (Q : Int32 → cS → Prop) : Prop :=
  vp_in a1 58 ∧ vp_in a2 58 ∧ ((¬ ((c_a C 12) a1.toNatClampNeg) = ((c_a C 12) a2.toNatClampNeg) → Q 0 C) ∧ (((c_a C 12) a1.toNatClampNeg) = ((c_a C 12) a2.toNatClampNeg) → ((¬ ((c_a C 13) a1.toNatClampNeg) = ((c_a C 13) a2.toNatClampNeg) → Q 0 C) ∧ (((c_a C 13) a1.toNatClampNeg) = ((c_a C 13) a2.toNatClampNeg) → Q 1 C))))
set_option maxRecDepth 100000 in
set_option maxHeartbeats 4000000 in
theorem t_X2_haveSame (tg : Bool) (M : mS) (o : Nat → Int64) (X : List va_E) (a1 : Int32) (a2 : Int32) (C : cS) (Q : Int32 → cS → Prop) (h : p_X2_haveSame a1 a2 C Q) : z_M q_X2_haveSame tg [.ref 224, .int a1, .int a2] (wz C M o X) (zc_i M o X Q) := by
  unfold p_X2_haveSame at h
  refine z_enter (by decide) (Nat.le_of_ble_eq_true rfl) ?_
  refine z_aload_n 0 1 dX2_haveSame_0 rfl rfl ?_
  refine gr_24_0 4 dX2_haveSame_1 of_X2_9 rfl ?_
  refine gr_18_4 7 dX2_haveSame_4 of_X2_33 rfl ?_
  refine z_iload_n 1 8 dX2_haveSame_7 rfl rfl ?_
  obtain ⟨hbz1, h⟩ := h
  refine gca_12 ((c_a C 12) a1.toNatClampNeg) 9 dX2_haveSame_8 hbz1 rfl rfl ?_
  refine z_aload_n 0 10 dX2_haveSame_9 rfl rfl ?_
  refine gr_24_0 13 dX2_haveSame_10 of_X2_9 rfl ?_
  refine gr_18_4 16 dX2_haveSame_13 of_X2_33 rfl ?_
  refine z_iload_n 2 17 dX2_haveSame_16 rfl rfl ?_
  obtain ⟨hbz2, h⟩ := h
  refine gca_12 ((c_a C 12) a2.toNatClampNeg) 18 dX2_haveSame_17 hbz2 rfl rfl ?_
  refine z_icmp_ne 46 21 dX2_haveSame_18 rfl rfl (fun hcz3 => ?_) (fun hcz3 => ?_)
  · replace h := h.1 hcz3
    refine z_iconst 0 47 dX2_haveSame_46 rfl rfl ?_
    exact z_zret dX2_haveSame_47 rfl rfl ⟨Nat.le_refl _, Nat.le_refl _⟩ ⟨0, C, rfl, rfl, h⟩
  · replace h := h.2 hcz3
    refine z_aload_n 0 22 dX2_haveSame_21 rfl rfl ?_
    refine gr_24_0 25 dX2_haveSame_22 of_X2_9 rfl ?_
    refine gr_18_5 28 dX2_haveSame_25 of_X2_36 rfl ?_
    refine z_iload_n 1 29 dX2_haveSame_28 rfl rfl ?_
    refine gca_13 ((c_a C 13) a1.toNatClampNeg) 30 dX2_haveSame_29 hbz1 rfl rfl ?_
    refine z_aload_n 0 31 dX2_haveSame_30 rfl rfl ?_
    refine gr_24_0 34 dX2_haveSame_31 of_X2_9 rfl ?_
    refine gr_18_5 37 dX2_haveSame_34 of_X2_36 rfl ?_
    refine z_iload_n 2 38 dX2_haveSame_37 rfl rfl ?_
    refine gca_13 ((c_a C 13) a2.toNatClampNeg) 39 dX2_haveSame_38 hbz2 rfl rfl ?_
    refine z_icmp_ne 46 42 dX2_haveSame_39 rfl rfl (fun hcz4 => ?_) (fun hcz4 => ?_)
    · replace h := h.1 hcz4
      refine z_iconst 0 47 dX2_haveSame_46 rfl rfl ?_
      exact z_zret dX2_haveSame_47 rfl rfl ⟨Nat.le_refl _, Nat.le_refl _⟩ ⟨0, C, rfl, rfl, h⟩
    · replace h := h.2 hcz4
      refine z_iconst 1 43 dX2_haveSame_42 rfl rfl ?_
      refine z_goto 47 dX2_haveSame_43 rfl ?_
      exact z_zret dX2_haveSame_47 rfl rfl ⟨Nat.le_refl _, Nat.le_refl _⟩ ⟨1, C, rfl, rfl, h⟩
def p_X2_pushHand (a1 : Int32) (C : cS) (Q : Int32 → cS → Prop) : Prop :=
  (((c_i C 11) < 50 → p_X3_roots (c_iS C 11 ((c_i C 11) + 1)) (fun rz3 Cz2 => vp_in a1 58 ∧ p_X2_give (rz3 - 1) ((c_a Cz2 12) a1.toNatClampNeg) ((c_a Cz2 13) a1.toNatClampNeg) Cz2 (fun rz6 Cz5 => Q rz6 Cz5))) ∧ (¬ (c_i C 11) < 50 → Q 6 C))
set_option maxRecDepth 100000 in
set_option maxHeartbeats 4000000 in
theorem t_X2_pushHand (tg : Bool) (M : mS) (o : Nat → Int64) (X : List va_E) (a1 : Int32) (C : cS) (Q : Int32 → cS → Prop) (h : p_X2_pushHand a1 C Q) : z_M q_X2_pushHand tg [.ref 224, .int a1] (wz C M o X) (zc_i M o X Q) := by
  unfold p_X2_pushHand at h
  refine z_enter (by decide) (Nat.le_of_ble_eq_true rfl) ?_
  refine z_aload_n 0 1 dX2_pushHand_0 rfl rfl ?_
  refine gr_24_0 4 dX2_pushHand_1 of_X2_9 rfl ?_
  refine gci_11 (c_i C 11) 7 dX2_pushHand_4 of_X2_102 rfl rfl ?_
  refine z_bipush 50 9 dX2_pushHand_7 rfl rfl ?_
  refine z_icmp_lt 15 12 dX2_pushHand_9 rfl rfl (fun hcz1 => ?_) (fun hcz1 => ?_)
  · replace h := h.1 hcz1
    refine z_aload_n 0 16 dX2_pushHand_15 rfl rfl ?_
    refine gr_24_0 19 dX2_pushHand_16 of_X2_9 rfl ?_
    refine z_dup rfl 20 dX2_pushHand_19 rfl ?_
    refine gci_11 (c_i C 11) 23 dX2_pushHand_20 of_X2_102 rfl rfl ?_
    refine z_iconst 1 24 dX2_pushHand_23 rfl rfl ?_
    refine z_iadd 25 dX2_pushHand_24 rfl ?_
    refine pci_11 28 dX2_pushHand_25 op_X2_102 rfl ?_
    refine z_aload_n 0 29 dX2_pushHand_28 rfl rfl ?_
    refine z_aload_n 0 30 dX2_pushHand_29 rfl rfl ?_
    refine gr_24_0 33 dX2_pushHand_30 of_X2_9 rfl ?_
    refine z_ciV [] 36 dX2_pushHand_33 ok_X2_pushHand_106 rfl rfl (Nat.le_of_ble_eq_true rfl) rc_18 ⟨rfl, rfl⟩ ⟨Nat.le_refl _, Nat.le_refl _⟩ rfl (t_X3_roots tg M o X  (c_iS C 11 ((c_i C 11) + 1)) _ h) (fun rz3 Cz2 h => ?_)
    refine z_iconst 1 37 dX2_pushHand_36 rfl rfl ?_
    refine z_isub 38 dX2_pushHand_37 rfl ?_
    refine z_aload_n 0 39 dX2_pushHand_38 rfl rfl ?_
    refine gr_24_0 42 dX2_pushHand_39 of_X2_9 rfl ?_
    refine gr_18_4 45 dX2_pushHand_42 of_X2_33 rfl ?_
    refine z_iload_n 1 46 dX2_pushHand_45 rfl rfl ?_
    obtain ⟨hbz4, h⟩ := h
    refine gca_12 ((c_a Cz2 12) a1.toNatClampNeg) 47 dX2_pushHand_46 hbz4 rfl rfl ?_
    refine z_aload_n 0 48 dX2_pushHand_47 rfl rfl ?_
    refine gr_24_0 51 dX2_pushHand_48 of_X2_9 rfl ?_
    refine gr_18_5 54 dX2_pushHand_51 of_X2_36 rfl ?_
    refine z_iload_n 1 55 dX2_pushHand_54 rfl rfl ?_
    refine gca_13 ((c_a Cz2 13) a1.toNatClampNeg) 56 dX2_pushHand_55 hbz4 rfl rfl ?_
    refine z_ciV [.int (rz3 - 1), .int ((c_a Cz2 12) a1.toNatClampNeg), .int ((c_a Cz2 13) a1.toNatClampNeg)] 59 dX2_pushHand_56 ok_X2_pushHand_29 rfl rfl (Nat.le_of_ble_eq_true rfl) rc_24 ⟨rfl, rfl⟩ ⟨Nat.le_refl _, Nat.le_refl _⟩ rfl (t_X2_give tg M o X (rz3 - 1) ((c_a Cz2 12) a1.toNatClampNeg) ((c_a Cz2 13) a1.toNatClampNeg) Cz2 _ h) (fun rz6 Cz5 h => ?_)
    exact z_iret dX2_pushHand_59 rfl ⟨Nat.le_refl _, Nat.le_refl _⟩ ⟨rz6, Cz5, rfl, rfl, h⟩
  · replace h := h.2 hcz1
    refine z_bipush 6 14 dX2_pushHand_12 rfl rfl ?_
    exact z_iret dX2_pushHand_14 rfl ⟨Nat.le_refl _, Nat.le_refl _⟩ ⟨6, C, rfl, rfl, h⟩
def p_X2_popHand (a1 : Int32) (C : cS) (Q : Int32 → cS → Prop) : Prop :=
  ((0 < (c_i C 11) → p_X3_roots C (fun rz3 Cz2 => ∀ vz4 : Int32, vz4 = rz3 - 1 → vp_in vz4 58 ∧ p_X2_give a1 ((c_a Cz2 12) vz4.toNatClampNeg) ((c_a Cz2 13) vz4.toNatClampNeg) (c_iS Cz2 11 ((c_i Cz2 11) - 1)) (fun rz7 Cz6 => Q rz7 Cz6))) ∧ (¬ 0 < (c_i C 11) → Q 6 C))
set_option maxRecDepth 100000 in
set_option maxHeartbeats 4000000 in
theorem t_X2_popHand (tg : Bool) (M : mS) (o : Nat → Int64) (X : List va_E) (a1 : Int32) (C : cS) (Q : Int32 → cS → Prop) (h : p_X2_popHand a1 C Q) : z_M q_X2_popHand tg [.ref 224, .int a1] (wz C M o X) (zc_i M o X Q) := by
  unfold p_X2_popHand at h
  refine z_enter (by decide) (Nat.le_of_ble_eq_true rfl) ?_
  refine z_aload_n 0 1 dX2_popHand_0 rfl rfl ?_
  refine gr_24_0 4 dX2_popHand_1 of_X2_9 rfl ?_
  refine gci_11 (c_i C 11) 7 dX2_popHand_4 of_X2_102 rfl rfl ?_
  refine z_if_gt 13 10 dX2_popHand_7 rfl rfl (fun hcz1 => ?_) (fun hcz1 => ?_)
  · replace h := h.1 hcz1
    refine z_aload_n 0 14 dX2_popHand_13 rfl rfl ?_
    refine gr_24_0 17 dX2_popHand_14 of_X2_9 rfl ?_
    refine z_ciV [] 20 dX2_popHand_17 ok_X2_popHand_106 rfl rfl (Nat.le_of_ble_eq_true rfl) rc_18 ⟨rfl, rfl⟩ ⟨Nat.le_refl _, Nat.le_refl _⟩ rfl (t_X3_roots tg M o X  C _ h) (fun rz3 Cz2 h => ?_)
    refine z_iconst 1 21 dX2_popHand_20 rfl rfl ?_
    refine z_isub 22 dX2_popHand_21 rfl ?_
    refine z_topi (fun vz4 hvz4 => ?_)
    replace h := h vz4 hvz4
    refine z_istore_n [(2, .int vz4), (0, .ref 224), (1, .int a1)] 23 dX2_popHand_22 (Nat.le_of_ble_eq_true rfl) rfl rfl ?_
    refine z_aload_n 1 24 dX2_popHand_23 rfl rfl ?_
    refine gr_24_0 27 dX2_popHand_24 of_X2_9 rfl ?_
    refine z_dup rfl 28 dX2_popHand_27 rfl ?_
    refine gci_11 (c_i Cz2 11) 31 dX2_popHand_28 of_X2_102 rfl rfl ?_
    refine z_iconst 1 32 dX2_popHand_31 rfl rfl ?_
    refine z_isub 33 dX2_popHand_32 rfl ?_
    refine pci_11 36 dX2_popHand_33 op_X2_102 rfl ?_
    refine z_aload_n 1 37 dX2_popHand_36 rfl rfl ?_
    refine z_iload_n 2 38 dX2_popHand_37 rfl rfl ?_
    refine z_aload_n 1 39 dX2_popHand_38 rfl rfl ?_
    refine gr_24_0 42 dX2_popHand_39 of_X2_9 rfl ?_
    refine gr_18_4 45 dX2_popHand_42 of_X2_33 rfl ?_
    refine z_iload_n 0 46 dX2_popHand_45 rfl rfl ?_
    obtain ⟨hbz5, h⟩ := h
    refine gca_12 ((c_a Cz2 12) vz4.toNatClampNeg) 47 dX2_popHand_46 hbz5 rfl rfl ?_
    refine z_aload_n 1 48 dX2_popHand_47 rfl rfl ?_
    refine gr_24_0 51 dX2_popHand_48 of_X2_9 rfl ?_
    refine gr_18_5 54 dX2_popHand_51 of_X2_36 rfl ?_
    refine z_iload_n 0 55 dX2_popHand_54 rfl rfl ?_
    refine gca_13 ((c_a Cz2 13) vz4.toNatClampNeg) 56 dX2_popHand_55 hbz5 rfl rfl ?_
    refine z_ciV [.int a1, .int ((c_a Cz2 12) vz4.toNatClampNeg), .int ((c_a Cz2 13) vz4.toNatClampNeg)] 59 dX2_popHand_56 ok_X2_popHand_29 rfl rfl (Nat.le_of_ble_eq_true rfl) rc_24 ⟨rfl, rfl⟩ ⟨Nat.le_refl _, Nat.le_refl _⟩ rfl (t_X2_give tg M o X a1 ((c_a Cz2 12) vz4.toNatClampNeg) ((c_a Cz2 13) vz4.toNatClampNeg) (c_iS Cz2 11 ((c_i Cz2 11) - 1)) _ h) (fun rz7 Cz6 h => ?_)
    exact z_iret dX2_popHand_59 rfl ⟨Nat.le_refl _, Nat.le_refl _⟩ ⟨rz7, Cz6, rfl, rfl, h⟩
  · replace h := h.2 hcz1
    refine z_bipush 6 12 dX2_popHand_10 rfl rfl ?_
    exact z_iret dX2_popHand_12 rfl ⟨Nat.le_refl _, Nat.le_refl _⟩ ⟨6, C, rfl, rfl, h⟩
def p_X2_perform (i1 : Nat) (a2 : Int32) (a3 : Int32) (a4 : Int32) (C : cS) (Q : Int32 → cS → Prop) : Prop :=
  i1 < 26 ∧ vp_in (nI i1) 26 ∧ ∀ vz3 : Int32, vz3 = z_swm.getD (nI i1).toNatClampNeg 0 → ((vz3 = 1 → p_X2_give a2 0 a3 C (fun rz6 Cz5 => Q rz6 Cz5)) ∧ (¬ vz3 = 1 → ((vz3 = 2 → vp_in a3 58 ∧ p_X2_give a2 ((c_a C 12) a3.toNatClampNeg) ((c_a C 13) a3.toNatClampNeg) C (fun rz10 Cz9 => Q rz10 Cz9)) ∧ (¬ vz3 = 2 → ((vz3 = 3 → p_X2_give a2 1 0 C (fun rz13 Cz12 => Q rz13 Cz12)) ∧ (¬ vz3 = 3 → ((vz3 = 4 → p_X2_makeThing a2 a3 3 C (fun rz16 Cz15 => Q rz16 Cz15)) ∧ (¬ vz3 = 4 → ((vz3 = 5 → p_X2_makeThing a2 a3 4 C (fun rz19 Cz18 => Q rz19 Cz18)) ∧ (¬ vz3 = 5 → ((vz3 = 6 → p_X2_hasNumber a3 C (fun rz22 Cz21 => ((rz22 = 0 → Q 1 Cz21) ∧ (¬ rz22 = 0 → p_X2_number a3 Cz21 (fun rz25 Cz24 => p_X2_makeThing a2 rz25 3 Cz24 (fun rz27 Cz26 => Q rz27 Cz26)))))) ∧ (¬ vz3 = 6 → ((vz3 = 7 → p_X2_hasNumber a3 C (fun rz30 Cz29 => ((rz30 = 0 → Q 1 Cz29) ∧ (¬ rz30 = 0 → p_X2_number a3 Cz29 (fun rz33 Cz32 => p_X2_makeThing a2 rz33 4 Cz32 (fun rz35 Cz34 => Q rz35 Cz34)))))) ∧ (¬ vz3 = 7 → ((vz3 = 8 → p_X2_readSlot a2 a3 a4 C (fun rz38 Cz37 => Q rz38 Cz37)) ∧ (¬ vz3 = 8 → ((vz3 = 9 → p_X2_hasNumber a4 C (fun rz41 Cz40 => ((rz41 = 0 → Q 1 Cz40) ∧ (¬ rz41 = 0 → p_X2_number a4 Cz40 (fun rz44 Cz43 => p_X2_readSlot a2 a3 rz44 Cz43 (fun rz46 Cz45 => Q rz46 Cz45)))))) ∧ (¬ vz3 = 9 → ((vz3 = 10 → p_X2_writeSlot a2 a3 a4 C (fun rz49 Cz48 => Q rz49 Cz48)) ∧ (¬ vz3 = 10 → ((vz3 = 11 → p_X2_hasNumber a3 C (fun rz52 Cz51 => ((rz52 = 0 → Q 1 Cz51) ∧ (¬ rz52 = 0 → p_X2_number a3 Cz51 (fun rz55 Cz54 => p_X2_writeSlot a2 rz55 a4 Cz54 (fun rz57 Cz56 => Q rz57 Cz56)))))) ∧ (¬ vz3 = 11 → ((vz3 = 12 → p_X2_hasThing a3 C (fun rz60 Cz59 => ((rz60 = 0 → Q 2 Cz59) ∧ (¬ rz60 = 0 → vp_in a3 58 ∧ p_X3_slotsOf ((c_a Cz59 13) a3.toNatClampNeg) Cz59 (fun rz64 Cz63 => p_X2_give a2 0 rz64 Cz63 (fun rz66 Cz65 => Q rz66 Cz65)))))) ∧ (¬ vz3 = 12 → ((vz3 = 13 → vp_in a3 58 ∧ p_X3_kindOf ((c_a C 12) a3.toNatClampNeg) ((c_a C 13) a3.toNatClampNeg) C (fun rz70 Cz69 => p_X2_give a2 0 rz70 Cz69 (fun rz72 Cz71 => Q rz72 Cz71))) ∧ (¬ vz3 = 13 → (((vz3 = 14 ∨ vz3 = 15 ∨ vz3 = 16 ∨ vz3 = 17) → p_X2_hasNumber a3 C (fun rz75 Cz74 => ((rz75 = 0 → Q 1 Cz74) ∧ (¬ rz75 = 0 → p_X2_hasNumber a4 Cz74 (fun rz78 Cz77 => ((rz78 = 0 → Q 1 Cz77) ∧ (¬ rz78 = 0 → p_X2_reckon i1 a3 a4 Cz77 (fun rz81 Cz80 => p_X2_give a2 0 rz81 Cz80 (fun rz83 Cz82 => Q rz83 Cz82))))))))) ∧ (¬ (vz3 = 14 ∨ vz3 = 15 ∨ vz3 = 16 ∨ vz3 = 17) → ((vz3 = 18 → p_X2_haveSame a3 a4 C (fun rz91 Cz90 => ((rz91 = 0 → p_X2_give a2 0 0 Cz90 (fun rz94 Cz93 => Q rz94 Cz93)) ∧ (¬ rz91 = 0 → p_X2_give a2 0 1 Cz90 (fun rz96 Cz95 => Q rz96 Cz95))))) ∧ (¬ vz3 = 18 → ((vz3 = 19 → p_X2_pushHand a2 C (fun rz99 Cz98 => Q rz99 Cz98)) ∧ (¬ vz3 = 19 → ((vz3 = 20 → p_X2_popHand a2 C (fun rz102 Cz101 => Q rz102 Cz101)) ∧ (¬ vz3 = 20 → Q 0 C))))))))))))))))))))))))))))))))))
set_option maxRecDepth 100000 in
set_option maxHeartbeats 4000000 in
theorem t_X2_perform (_ : Bool) (M : mS) (o : Nat → Int64) (X : List va_E) (i1 : Nat) (a2 : Int32) (a3 : Int32) (a4 : Int32) (C : cS) (Q : Int32 → cS → Prop) (h : p_X2_perform i1 a2 a3 a4 C Q) : z_M q_X2_perform false [.ref 224, .ref (2 + i1), .int a2, .int a3, .int a4] (wz C M o X) (zc_i M o X Q) := by
  unfold p_X2_perform at h
  refine z_enter (by decide) (Nat.le_of_ble_eq_true rfl) ?_
  refine z_gets (.ref 28) 3 dX2_perform_0 (List.mem_of_getElem? (i := 1) rfl) ol_X2_15 rfl ?_
  refine z_aload_n 1 4 dX2_perform_3 rfl rfl ?_
  obtain ⟨hqz1, h⟩ := h
  refine z_ord i1 7 dX2_perform_4 ok_X2_perform_21 hqz1 rfl ⟨by decide, Nat.le_of_ble_eq_true rfl⟩ rfl ?_
  obtain ⟨hbz2, h⟩ := h
  refine z_tiald 0 8 dX2_perform_7 (List.mem_of_getElem? (i := 1) rfl) (Nat.lt_succ_self 0) rfl hbz2 rfl ?_
  refine z_topi (fun vz3 hvz3 => ?_)
  replace h := h vz3 hvz3
  by_cases hcz4 : vz3 = 1
  · replace h := h.1 hcz4
    refine z_tabIn 104 dX2_perform_8 (by rw [hcz4]; decide) (by rw [hcz4]; decide) (by rw [hcz4]; rfl) rfl ?_
    refine z_aload_n 0 105 dX2_perform_104 rfl rfl ?_
    refine z_iload_n 2 106 dX2_perform_105 rfl rfl ?_
    refine z_iconst 0 107 dX2_perform_106 rfl rfl ?_
    refine z_iload_n 3 108 dX2_perform_107 rfl rfl ?_
    refine z_ciV [.int a2, .int 0, .int a3] 111 dX2_perform_108 ok_X2_perform_29 rfl rfl (Nat.le_of_ble_eq_true rfl) rc_24 ⟨rfl, rfl⟩ ⟨Nat.le_refl _, Nat.le_refl _⟩ rfl (t_X2_give false M o X a2 0 a3 C _ h) (fun rz6 Cz5 h => ?_)
    exact z_iret dX2_perform_111 rfl ⟨Nat.le_refl _, Nat.le_refl _⟩ ⟨rz6, Cz5, rfl, rfl, h⟩
  · replace h := h.2 hcz4
    by_cases hcz7 : vz3 = 2
    · replace h := h.1 hcz7
      refine z_tabIn 112 dX2_perform_8 (by rw [hcz7]; decide) (by rw [hcz7]; decide) (by rw [hcz7]; rfl) rfl ?_
      refine z_aload_n 0 113 dX2_perform_112 rfl rfl ?_
      refine z_iload_n 2 114 dX2_perform_113 rfl rfl ?_
      refine z_aload_n 0 115 dX2_perform_114 rfl rfl ?_
      refine gr_24_0 118 dX2_perform_115 of_X2_9 rfl ?_
      refine gr_18_4 121 dX2_perform_118 of_X2_33 rfl ?_
      refine z_iload_n 3 122 dX2_perform_121 rfl rfl ?_
      obtain ⟨hbz8, h⟩ := h
      refine gca_12 ((c_a C 12) a3.toNatClampNeg) 123 dX2_perform_122 hbz8 rfl rfl ?_
      refine z_aload_n 0 124 dX2_perform_123 rfl rfl ?_
      refine gr_24_0 127 dX2_perform_124 of_X2_9 rfl ?_
      refine gr_18_5 130 dX2_perform_127 of_X2_36 rfl ?_
      refine z_iload_n 3 131 dX2_perform_130 rfl rfl ?_
      refine gca_13 ((c_a C 13) a3.toNatClampNeg) 132 dX2_perform_131 hbz8 rfl rfl ?_
      refine z_ciV [.int a2, .int ((c_a C 12) a3.toNatClampNeg), .int ((c_a C 13) a3.toNatClampNeg)] 135 dX2_perform_132 ok_X2_perform_29 rfl rfl (Nat.le_of_ble_eq_true rfl) rc_24 ⟨rfl, rfl⟩ ⟨Nat.le_refl _, Nat.le_refl _⟩ rfl (t_X2_give false M o X a2 ((c_a C 12) a3.toNatClampNeg) ((c_a C 13) a3.toNatClampNeg) C _ h) (fun rz10 Cz9 h => ?_)
      exact z_iret dX2_perform_135 rfl ⟨Nat.le_refl _, Nat.le_refl _⟩ ⟨rz10, Cz9, rfl, rfl, h⟩
    · replace h := h.2 hcz7
      by_cases hcz11 : vz3 = 3
      · replace h := h.1 hcz11
        refine z_tabIn 136 dX2_perform_8 (by rw [hcz11]; decide) (by rw [hcz11]; decide) (by rw [hcz11]; rfl) rfl ?_
        refine z_aload_n 0 137 dX2_perform_136 rfl rfl ?_
        refine z_iload_n 2 138 dX2_perform_137 rfl rfl ?_
        refine z_iconst 1 139 dX2_perform_138 rfl rfl ?_
        refine z_iconst 0 140 dX2_perform_139 rfl rfl ?_
        refine z_ciV [.int a2, .int 1, .int 0] 143 dX2_perform_140 ok_X2_perform_29 rfl rfl (Nat.le_of_ble_eq_true rfl) rc_24 ⟨rfl, rfl⟩ ⟨Nat.le_refl _, Nat.le_refl _⟩ rfl (t_X2_give false M o X a2 1 0 C _ h) (fun rz13 Cz12 h => ?_)
        exact z_iret dX2_perform_143 rfl ⟨Nat.le_refl _, Nat.le_refl _⟩ ⟨rz13, Cz12, rfl, rfl, h⟩
      · replace h := h.2 hcz11
        by_cases hcz14 : vz3 = 4
        · replace h := h.1 hcz14
          refine z_tabIn 144 dX2_perform_8 (by rw [hcz14]; decide) (by rw [hcz14]; decide) (by rw [hcz14]; rfl) rfl ?_
          refine z_aload_n 0 145 dX2_perform_144 rfl rfl ?_
          refine z_iload_n 2 146 dX2_perform_145 rfl rfl ?_
          refine z_iload_n 3 147 dX2_perform_146 rfl rfl ?_
          refine z_iconst 3 148 dX2_perform_147 rfl rfl ?_
          refine z_ciV [.int a2, .int a3, .int 3] 151 dX2_perform_148 ok_X2_perform_39 rfl rfl (Nat.le_of_ble_eq_true rfl) rc_24 ⟨rfl, rfl⟩ ⟨Nat.le_refl _, Nat.le_refl _⟩ rfl (t_X2_makeThing false M o X a2 a3 3 C _ h) (fun rz16 Cz15 h => ?_)
          exact z_iret dX2_perform_151 rfl ⟨Nat.le_refl _, Nat.le_refl _⟩ ⟨rz16, Cz15, rfl, rfl, h⟩
        · replace h := h.2 hcz14
          by_cases hcz17 : vz3 = 5
          · replace h := h.1 hcz17
            refine z_tabIn 152 dX2_perform_8 (by rw [hcz17]; decide) (by rw [hcz17]; decide) (by rw [hcz17]; rfl) rfl ?_
            refine z_aload_n 0 153 dX2_perform_152 rfl rfl ?_
            refine z_iload_n 2 154 dX2_perform_153 rfl rfl ?_
            refine z_iload_n 3 155 dX2_perform_154 rfl rfl ?_
            refine z_iconst 4 156 dX2_perform_155 rfl rfl ?_
            refine z_ciV [.int a2, .int a3, .int 4] 159 dX2_perform_156 ok_X2_perform_39 rfl rfl (Nat.le_of_ble_eq_true rfl) rc_24 ⟨rfl, rfl⟩ ⟨Nat.le_refl _, Nat.le_refl _⟩ rfl (t_X2_makeThing false M o X a2 a3 4 C _ h) (fun rz19 Cz18 h => ?_)
            exact z_iret dX2_perform_159 rfl ⟨Nat.le_refl _, Nat.le_refl _⟩ ⟨rz19, Cz18, rfl, rfl, h⟩
          · replace h := h.2 hcz17
            by_cases hcz20 : vz3 = 6
            · replace h := h.1 hcz20
              refine z_tabIn 160 dX2_perform_8 (by rw [hcz20]; decide) (by rw [hcz20]; decide) (by rw [hcz20]; rfl) rfl ?_
              refine z_aload_n 0 161 dX2_perform_160 rfl rfl ?_
              refine z_iload_n 3 162 dX2_perform_161 rfl rfl ?_
              refine z_ciV [.int a3] 165 dX2_perform_162 ok_X2_perform_42 rfl rfl (Nat.le_of_ble_eq_true rfl) rc_24 ⟨rfl, rfl⟩ ⟨Nat.le_refl _, Nat.le_refl _⟩ rfl (t_X2_hasNumber false M o X a3 C _ h) (fun rz22 Cz21 h => ?_)
              refine z_if_eq 182 168 dX2_perform_165 rfl rfl (fun hcz23 => ?_) (fun hcz23 => ?_)
              · replace h := h.1 hcz23
                refine z_iconst 1 183 dX2_perform_182 rfl rfl ?_
                exact z_iret dX2_perform_183 rfl ⟨Nat.le_refl _, Nat.le_refl _⟩ ⟨1, Cz21, rfl, rfl, h⟩
              · replace h := h.2 hcz23
                refine z_aload_n 0 169 dX2_perform_168 rfl rfl ?_
                refine z_iload_n 2 170 dX2_perform_169 rfl rfl ?_
                refine z_aload_n 0 171 dX2_perform_170 rfl rfl ?_
                refine z_iload_n 3 172 dX2_perform_171 rfl rfl ?_
                refine z_ciV [.int a3] 175 dX2_perform_172 ok_X2_perform_46 rfl rfl (Nat.le_of_ble_eq_true rfl) rc_24 ⟨rfl, rfl⟩ ⟨Nat.le_refl _, Nat.le_refl _⟩ rfl (t_X2_number false M o X a3 Cz21 _ h) (fun rz25 Cz24 h => ?_)
                refine z_iconst 3 176 dX2_perform_175 rfl rfl ?_
                refine z_ciV [.int a2, .int rz25, .int 3] 179 dX2_perform_176 ok_X2_perform_39 rfl rfl (Nat.le_of_ble_eq_true rfl) rc_24 ⟨rfl, rfl⟩ ⟨Nat.le_refl _, Nat.le_refl _⟩ rfl (t_X2_makeThing false M o X a2 rz25 3 Cz24 _ h) (fun rz27 Cz26 h => ?_)
                refine z_goto 183 dX2_perform_179 rfl ?_
                exact z_iret dX2_perform_183 rfl ⟨Nat.le_refl _, Nat.le_refl _⟩ ⟨rz27, Cz26, rfl, rfl, h⟩
            · replace h := h.2 hcz20
              by_cases hcz28 : vz3 = 7
              · replace h := h.1 hcz28
                refine z_tabIn 184 dX2_perform_8 (by rw [hcz28]; decide) (by rw [hcz28]; decide) (by rw [hcz28]; rfl) rfl ?_
                refine z_aload_n 0 185 dX2_perform_184 rfl rfl ?_
                refine z_iload_n 3 186 dX2_perform_185 rfl rfl ?_
                refine z_ciV [.int a3] 189 dX2_perform_186 ok_X2_perform_42 rfl rfl (Nat.le_of_ble_eq_true rfl) rc_24 ⟨rfl, rfl⟩ ⟨Nat.le_refl _, Nat.le_refl _⟩ rfl (t_X2_hasNumber false M o X a3 C _ h) (fun rz30 Cz29 h => ?_)
                refine z_if_eq 206 192 dX2_perform_189 rfl rfl (fun hcz31 => ?_) (fun hcz31 => ?_)
                · replace h := h.1 hcz31
                  refine z_iconst 1 207 dX2_perform_206 rfl rfl ?_
                  exact z_iret dX2_perform_207 rfl ⟨Nat.le_refl _, Nat.le_refl _⟩ ⟨1, Cz29, rfl, rfl, h⟩
                · replace h := h.2 hcz31
                  refine z_aload_n 0 193 dX2_perform_192 rfl rfl ?_
                  refine z_iload_n 2 194 dX2_perform_193 rfl rfl ?_
                  refine z_aload_n 0 195 dX2_perform_194 rfl rfl ?_
                  refine z_iload_n 3 196 dX2_perform_195 rfl rfl ?_
                  refine z_ciV [.int a3] 199 dX2_perform_196 ok_X2_perform_46 rfl rfl (Nat.le_of_ble_eq_true rfl) rc_24 ⟨rfl, rfl⟩ ⟨Nat.le_refl _, Nat.le_refl _⟩ rfl (t_X2_number false M o X a3 Cz29 _ h) (fun rz33 Cz32 h => ?_)
                  refine z_iconst 4 200 dX2_perform_199 rfl rfl ?_
                  refine z_ciV [.int a2, .int rz33, .int 4] 203 dX2_perform_200 ok_X2_perform_39 rfl rfl (Nat.le_of_ble_eq_true rfl) rc_24 ⟨rfl, rfl⟩ ⟨Nat.le_refl _, Nat.le_refl _⟩ rfl (t_X2_makeThing false M o X a2 rz33 4 Cz32 _ h) (fun rz35 Cz34 h => ?_)
                  refine z_goto 207 dX2_perform_203 rfl ?_
                  exact z_iret dX2_perform_207 rfl ⟨Nat.le_refl _, Nat.le_refl _⟩ ⟨rz35, Cz34, rfl, rfl, h⟩
              · replace h := h.2 hcz28
                by_cases hcz36 : vz3 = 8
                · replace h := h.1 hcz36
                  refine z_tabIn 208 dX2_perform_8 (by rw [hcz36]; decide) (by rw [hcz36]; decide) (by rw [hcz36]; rfl) rfl ?_
                  refine z_aload_n 0 209 dX2_perform_208 rfl rfl ?_
                  refine z_iload_n 2 210 dX2_perform_209 rfl rfl ?_
                  refine z_iload_n 3 211 dX2_perform_210 rfl rfl ?_
                  refine z_iload 4 213 dX2_perform_211 rfl rfl ?_
                  refine z_ciV [.int a2, .int a3, .int a4] 216 dX2_perform_213 ok_X2_perform_50 rfl rfl (Nat.le_of_ble_eq_true rfl) rc_24 ⟨rfl, rfl⟩ ⟨Nat.le_refl _, Nat.le_refl _⟩ rfl (t_X2_readSlot false M o X a2 a3 a4 C _ h) (fun rz38 Cz37 h => ?_)
                  exact z_iret dX2_perform_216 rfl ⟨Nat.le_refl _, Nat.le_refl _⟩ ⟨rz38, Cz37, rfl, rfl, h⟩
                · replace h := h.2 hcz36
                  by_cases hcz39 : vz3 = 9
                  · replace h := h.1 hcz39
                    refine z_tabIn 217 dX2_perform_8 (by rw [hcz39]; decide) (by rw [hcz39]; decide) (by rw [hcz39]; rfl) rfl ?_
                    refine z_aload_n 0 218 dX2_perform_217 rfl rfl ?_
                    refine z_iload 4 220 dX2_perform_218 rfl rfl ?_
                    refine z_ciV [.int a4] 223 dX2_perform_220 ok_X2_perform_42 rfl rfl (Nat.le_of_ble_eq_true rfl) rc_24 ⟨rfl, rfl⟩ ⟨Nat.le_refl _, Nat.le_refl _⟩ rfl (t_X2_hasNumber false M o X a4 C _ h) (fun rz41 Cz40 h => ?_)
                    refine z_if_eq 241 226 dX2_perform_223 rfl rfl (fun hcz42 => ?_) (fun hcz42 => ?_)
                    · replace h := h.1 hcz42
                      refine z_iconst 1 242 dX2_perform_241 rfl rfl ?_
                      exact z_iret dX2_perform_242 rfl ⟨Nat.le_refl _, Nat.le_refl _⟩ ⟨1, Cz40, rfl, rfl, h⟩
                    · replace h := h.2 hcz42
                      refine z_aload_n 0 227 dX2_perform_226 rfl rfl ?_
                      refine z_iload_n 2 228 dX2_perform_227 rfl rfl ?_
                      refine z_iload_n 3 229 dX2_perform_228 rfl rfl ?_
                      refine z_aload_n 0 230 dX2_perform_229 rfl rfl ?_
                      refine z_iload 4 232 dX2_perform_230 rfl rfl ?_
                      refine z_ciV [.int a4] 235 dX2_perform_232 ok_X2_perform_46 rfl rfl (Nat.le_of_ble_eq_true rfl) rc_24 ⟨rfl, rfl⟩ ⟨Nat.le_refl _, Nat.le_refl _⟩ rfl (t_X2_number false M o X a4 Cz40 _ h) (fun rz44 Cz43 h => ?_)
                      refine z_ciV [.int a2, .int a3, .int rz44] 238 dX2_perform_235 ok_X2_perform_50 rfl rfl (Nat.le_of_ble_eq_true rfl) rc_24 ⟨rfl, rfl⟩ ⟨Nat.le_refl _, Nat.le_refl _⟩ rfl (t_X2_readSlot false M o X a2 a3 rz44 Cz43 _ h) (fun rz46 Cz45 h => ?_)
                      refine z_goto 242 dX2_perform_238 rfl ?_
                      exact z_iret dX2_perform_242 rfl ⟨Nat.le_refl _, Nat.le_refl _⟩ ⟨rz46, Cz45, rfl, rfl, h⟩
                  · replace h := h.2 hcz39
                    by_cases hcz47 : vz3 = 10
                    · replace h := h.1 hcz47
                      refine z_tabIn 243 dX2_perform_8 (by rw [hcz47]; decide) (by rw [hcz47]; decide) (by rw [hcz47]; rfl) rfl ?_
                      refine z_aload_n 0 244 dX2_perform_243 rfl rfl ?_
                      refine z_iload_n 2 245 dX2_perform_244 rfl rfl ?_
                      refine z_iload_n 3 246 dX2_perform_245 rfl rfl ?_
                      refine z_iload 4 248 dX2_perform_246 rfl rfl ?_
                      refine z_ciV [.int a2, .int a3, .int a4] 251 dX2_perform_248 ok_X2_perform_53 rfl rfl (Nat.le_of_ble_eq_true rfl) rc_24 ⟨rfl, rfl⟩ ⟨Nat.le_refl _, Nat.le_refl _⟩ rfl (t_X2_writeSlot false M o X a2 a3 a4 C _ h) (fun rz49 Cz48 h => ?_)
                      exact z_iret dX2_perform_251 rfl ⟨Nat.le_refl _, Nat.le_refl _⟩ ⟨rz49, Cz48, rfl, rfl, h⟩
                    · replace h := h.2 hcz47
                      by_cases hcz50 : vz3 = 11
                      · replace h := h.1 hcz50
                        refine z_tabIn 252 dX2_perform_8 (by rw [hcz50]; decide) (by rw [hcz50]; decide) (by rw [hcz50]; rfl) rfl ?_
                        refine z_aload_n 0 253 dX2_perform_252 rfl rfl ?_
                        refine z_iload_n 3 254 dX2_perform_253 rfl rfl ?_
                        refine z_ciV [.int a3] 257 dX2_perform_254 ok_X2_perform_42 rfl rfl (Nat.le_of_ble_eq_true rfl) rc_24 ⟨rfl, rfl⟩ ⟨Nat.le_refl _, Nat.le_refl _⟩ rfl (t_X2_hasNumber false M o X a3 C _ h) (fun rz52 Cz51 h => ?_)
                        refine z_if_eq 275 260 dX2_perform_257 rfl rfl (fun hcz53 => ?_) (fun hcz53 => ?_)
                        · replace h := h.1 hcz53
                          refine z_iconst 1 276 dX2_perform_275 rfl rfl ?_
                          exact z_iret dX2_perform_276 rfl ⟨Nat.le_refl _, Nat.le_refl _⟩ ⟨1, Cz51, rfl, rfl, h⟩
                        · replace h := h.2 hcz53
                          refine z_aload_n 0 261 dX2_perform_260 rfl rfl ?_
                          refine z_iload_n 2 262 dX2_perform_261 rfl rfl ?_
                          refine z_aload_n 0 263 dX2_perform_262 rfl rfl ?_
                          refine z_iload_n 3 264 dX2_perform_263 rfl rfl ?_
                          refine z_ciV [.int a3] 267 dX2_perform_264 ok_X2_perform_46 rfl rfl (Nat.le_of_ble_eq_true rfl) rc_24 ⟨rfl, rfl⟩ ⟨Nat.le_refl _, Nat.le_refl _⟩ rfl (t_X2_number false M o X a3 Cz51 _ h) (fun rz55 Cz54 h => ?_)
                          refine z_iload 4 269 dX2_perform_267 rfl rfl ?_
                          refine z_ciV [.int a2, .int rz55, .int a4] 272 dX2_perform_269 ok_X2_perform_53 rfl rfl (Nat.le_of_ble_eq_true rfl) rc_24 ⟨rfl, rfl⟩ ⟨Nat.le_refl _, Nat.le_refl _⟩ rfl (t_X2_writeSlot false M o X a2 rz55 a4 Cz54 _ h) (fun rz57 Cz56 h => ?_)
                          refine z_goto 276 dX2_perform_272 rfl ?_
                          exact z_iret dX2_perform_276 rfl ⟨Nat.le_refl _, Nat.le_refl _⟩ ⟨rz57, Cz56, rfl, rfl, h⟩
                      · replace h := h.2 hcz50
                        by_cases hcz58 : vz3 = 12
                        · replace h := h.1 hcz58
                          refine z_tabIn 277 dX2_perform_8 (by rw [hcz58]; decide) (by rw [hcz58]; decide) (by rw [hcz58]; rfl) rfl ?_
                          refine z_aload_n 0 278 dX2_perform_277 rfl rfl ?_
                          refine z_iload_n 3 279 dX2_perform_278 rfl rfl ?_
                          refine z_ciV [.int a3] 282 dX2_perform_279 ok_X2_perform_56 rfl rfl (Nat.le_of_ble_eq_true rfl) rc_24 ⟨rfl, rfl⟩ ⟨Nat.le_refl _, Nat.le_refl _⟩ rfl (t_X2_hasThing false M o X a3 C _ h) (fun rz60 Cz59 h => ?_)
                          refine z_if_eq 310 285 dX2_perform_282 rfl rfl (fun hcz61 => ?_) (fun hcz61 => ?_)
                          · replace h := h.1 hcz61
                            refine z_iconst 2 311 dX2_perform_310 rfl rfl ?_
                            exact z_iret dX2_perform_311 rfl ⟨Nat.le_refl _, Nat.le_refl _⟩ ⟨2, Cz59, rfl, rfl, h⟩
                          · replace h := h.2 hcz61
                            refine z_aload_n 0 286 dX2_perform_285 rfl rfl ?_
                            refine z_iload_n 2 287 dX2_perform_286 rfl rfl ?_
                            refine z_iconst 0 288 dX2_perform_287 rfl rfl ?_
                            refine z_aload_n 0 289 dX2_perform_288 rfl rfl ?_
                            refine gr_24_0 292 dX2_perform_289 of_X2_9 rfl ?_
                            refine z_aload_n 0 293 dX2_perform_292 rfl rfl ?_
                            refine gr_24_0 296 dX2_perform_293 of_X2_9 rfl ?_
                            refine gr_18_5 299 dX2_perform_296 of_X2_36 rfl ?_
                            refine z_iload_n 3 300 dX2_perform_299 rfl rfl ?_
                            obtain ⟨hbz62, h⟩ := h
                            refine gca_13 ((c_a Cz59 13) a3.toNatClampNeg) 301 dX2_perform_300 hbz62 rfl rfl ?_
                            refine z_ciV [.int ((c_a Cz59 13) a3.toNatClampNeg)] 304 dX2_perform_301 ok_X2_perform_59 rfl rfl (Nat.le_of_ble_eq_true rfl) rc_18 ⟨rfl, rfl⟩ ⟨Nat.le_refl _, Nat.le_refl _⟩ rfl (t_X3_slotsOf false M o X ((c_a Cz59 13) a3.toNatClampNeg) Cz59 _ h) (fun rz64 Cz63 h => ?_)
                            refine z_ciV [.int a2, .int 0, .int rz64] 307 dX2_perform_304 ok_X2_perform_29 rfl rfl (Nat.le_of_ble_eq_true rfl) rc_24 ⟨rfl, rfl⟩ ⟨Nat.le_refl _, Nat.le_refl _⟩ rfl (t_X2_give false M o X a2 0 rz64 Cz63 _ h) (fun rz66 Cz65 h => ?_)
                            refine z_goto 311 dX2_perform_307 rfl ?_
                            exact z_iret dX2_perform_311 rfl ⟨Nat.le_refl _, Nat.le_refl _⟩ ⟨rz66, Cz65, rfl, rfl, h⟩
                        · replace h := h.2 hcz58
                          by_cases hcz67 : vz3 = 13
                          · replace h := h.1 hcz67
                            refine z_tabIn 312 dX2_perform_8 (by rw [hcz67]; decide) (by rw [hcz67]; decide) (by rw [hcz67]; rfl) rfl ?_
                            refine z_aload_n 0 313 dX2_perform_312 rfl rfl ?_
                            refine z_iload_n 2 314 dX2_perform_313 rfl rfl ?_
                            refine z_iconst 0 315 dX2_perform_314 rfl rfl ?_
                            refine z_aload_n 0 316 dX2_perform_315 rfl rfl ?_
                            refine gr_24_0 319 dX2_perform_316 of_X2_9 rfl ?_
                            refine z_aload_n 0 320 dX2_perform_319 rfl rfl ?_
                            refine gr_24_0 323 dX2_perform_320 of_X2_9 rfl ?_
                            refine gr_18_4 326 dX2_perform_323 of_X2_33 rfl ?_
                            refine z_iload_n 3 327 dX2_perform_326 rfl rfl ?_
                            obtain ⟨hbz68, h⟩ := h
                            refine gca_12 ((c_a C 12) a3.toNatClampNeg) 328 dX2_perform_327 hbz68 rfl rfl ?_
                            refine z_aload_n 0 329 dX2_perform_328 rfl rfl ?_
                            refine gr_24_0 332 dX2_perform_329 of_X2_9 rfl ?_
                            refine gr_18_5 335 dX2_perform_332 of_X2_36 rfl ?_
                            refine z_iload_n 3 336 dX2_perform_335 rfl rfl ?_
                            refine gca_13 ((c_a C 13) a3.toNatClampNeg) 337 dX2_perform_336 hbz68 rfl rfl ?_
                            refine z_ciV [.int ((c_a C 12) a3.toNatClampNeg), .int ((c_a C 13) a3.toNatClampNeg)] 340 dX2_perform_337 ok_X2_perform_62 rfl rfl (Nat.le_of_ble_eq_true rfl) rc_18 ⟨rfl, rfl⟩ ⟨Nat.le_refl _, Nat.le_refl _⟩ rfl (t_X3_kindOf false M o X ((c_a C 12) a3.toNatClampNeg) ((c_a C 13) a3.toNatClampNeg) C _ h) (fun rz70 Cz69 h => ?_)
                            refine z_ciV [.int a2, .int 0, .int rz70] 343 dX2_perform_340 ok_X2_perform_29 rfl rfl (Nat.le_of_ble_eq_true rfl) rc_24 ⟨rfl, rfl⟩ ⟨Nat.le_refl _, Nat.le_refl _⟩ rfl (t_X2_give false M o X a2 0 rz70 Cz69 _ h) (fun rz72 Cz71 h => ?_)
                            exact z_iret dX2_perform_343 rfl ⟨Nat.le_refl _, Nat.le_refl _⟩ ⟨rz72, Cz71, rfl, rfl, h⟩
                          · replace h := h.2 hcz67
                            by_cases hcz73 : (vz3 = 14 ∨ vz3 = 15 ∨ vz3 = 16 ∨ vz3 = 17)
                            · replace h := h.1 hcz73
                              have hkz84 : ∀ kk : z_go q_X2_perform false 344 [(0, .ref 224), (1, .ref (2 + i1)), (2, .int a2), (3, .int a3), (4, .int a4)] [] (wz C M o X) 0 0 (zc_i M o X Q), z_go q_X2_perform false 8 [(0, .ref 224), (1, .ref (2 + i1)), (2, .int a2), (3, .int a3), (4, .int a4)] [.int vz3] (wz C M o X) 0 0 (zc_i M o X Q) := by
                                intro kk
                                rcases hcz73 with h9 | h9 | h9 | h9 <;> exact z_tabIn 344 dX2_perform_8 (by rw [h9]; decide) (by rw [h9]; decide) (by rw [h9]; rfl) rfl kk
                              refine hkz84 ?_
                              refine z_aload_n 0 345 dX2_perform_344 rfl rfl ?_
                              refine z_iload_n 3 346 dX2_perform_345 rfl rfl ?_
                              refine z_ciV [.int a3] 349 dX2_perform_346 ok_X2_perform_42 rfl rfl (Nat.le_of_ble_eq_true rfl) rc_24 ⟨rfl, rfl⟩ ⟨Nat.le_refl _, Nat.le_refl _⟩ rfl (t_X2_hasNumber false M o X a3 C _ h) (fun rz75 Cz74 h => ?_)
                              refine z_if_eq 378 352 dX2_perform_349 rfl rfl (fun hcz76 => ?_) (fun hcz76 => ?_)
                              · replace h := h.1 hcz76
                                refine z_iconst 1 379 dX2_perform_378 rfl rfl ?_
                                exact z_iret dX2_perform_379 rfl ⟨Nat.le_refl _, Nat.le_refl _⟩ ⟨1, Cz74, rfl, rfl, h⟩
                              · replace h := h.2 hcz76
                                refine z_aload_n 0 353 dX2_perform_352 rfl rfl ?_
                                refine z_iload 4 355 dX2_perform_353 rfl rfl ?_
                                refine z_ciV [.int a4] 358 dX2_perform_355 ok_X2_perform_42 rfl rfl (Nat.le_of_ble_eq_true rfl) rc_24 ⟨rfl, rfl⟩ ⟨Nat.le_refl _, Nat.le_refl _⟩ rfl (t_X2_hasNumber false M o X a4 Cz74 _ h) (fun rz78 Cz77 h => ?_)
                                refine z_if_eq 378 361 dX2_perform_358 rfl rfl (fun hcz79 => ?_) (fun hcz79 => ?_)
                                · replace h := h.1 hcz79
                                  refine z_iconst 1 379 dX2_perform_378 rfl rfl ?_
                                  exact z_iret dX2_perform_379 rfl ⟨Nat.le_refl _, Nat.le_refl _⟩ ⟨1, Cz77, rfl, rfl, h⟩
                                · replace h := h.2 hcz79
                                  refine z_aload_n 0 362 dX2_perform_361 rfl rfl ?_
                                  refine z_iload_n 2 363 dX2_perform_362 rfl rfl ?_
                                  refine z_iconst 0 364 dX2_perform_363 rfl rfl ?_
                                  refine z_aload_n 0 365 dX2_perform_364 rfl rfl ?_
                                  refine z_aload_n 1 366 dX2_perform_365 rfl rfl ?_
                                  refine z_iload_n 3 367 dX2_perform_366 rfl rfl ?_
                                  refine z_iload 4 369 dX2_perform_367 rfl rfl ?_
                                  refine z_ciV [.ref (2 + i1), .int a3, .int a4] 372 dX2_perform_369 ok_X2_perform_66 rfl rfl (Nat.le_of_ble_eq_true rfl) rc_24 ⟨rfl, rfl⟩ ⟨Nat.le_refl _, Nat.le_refl _⟩ rfl (t_X2_reckon false M o X i1 a3 a4 Cz77 _ h) (fun rz81 Cz80 h => ?_)
                                  refine z_ciV [.int a2, .int 0, .int rz81] 375 dX2_perform_372 ok_X2_perform_29 rfl rfl (Nat.le_of_ble_eq_true rfl) rc_24 ⟨rfl, rfl⟩ ⟨Nat.le_refl _, Nat.le_refl _⟩ rfl (t_X2_give false M o X a2 0 rz81 Cz80 _ h) (fun rz83 Cz82 h => ?_)
                                  refine z_goto 379 dX2_perform_375 rfl ?_
                                  exact z_iret dX2_perform_379 rfl ⟨Nat.le_refl _, Nat.le_refl _⟩ ⟨rz83, Cz82, rfl, rfl, h⟩
                            · replace h := h.2 hcz73
                              have hcz85_ := hcz73
                              simp only [not_or] at hcz85_
                              obtain ⟨hcz85, hcz86, hcz87, hcz88⟩ := hcz85_
                              by_cases hcz89 : vz3 = 18
                              · replace h := h.1 hcz89
                                refine z_tabIn 380 dX2_perform_8 (by rw [hcz89]; decide) (by rw [hcz89]; decide) (by rw [hcz89]; rfl) rfl ?_
                                refine z_aload_n 0 381 dX2_perform_380 rfl rfl ?_
                                refine z_iload_n 2 382 dX2_perform_381 rfl rfl ?_
                                refine z_iconst 0 383 dX2_perform_382 rfl rfl ?_
                                refine z_aload_n 0 384 dX2_perform_383 rfl rfl ?_
                                refine z_iload_n 3 385 dX2_perform_384 rfl rfl ?_
                                refine z_iload 4 387 dX2_perform_385 rfl rfl ?_
                                refine z_ciV [.int a3, .int a4] 390 dX2_perform_387 ok_X2_perform_70 rfl rfl (Nat.le_of_ble_eq_true rfl) rc_24 ⟨rfl, rfl⟩ ⟨Nat.le_refl _, Nat.le_refl _⟩ rfl (t_X2_haveSame false M o X a3 a4 C _ h) (fun rz91 Cz90 h => ?_)
                                refine z_if_eq 397 393 dX2_perform_390 rfl rfl (fun hcz92 => ?_) (fun hcz92 => ?_)
                                · replace h := h.1 hcz92
                                  refine z_iconst 0 398 dX2_perform_397 rfl rfl ?_
                                  refine z_ciV [.int a2, .int 0, .int 0] 401 dX2_perform_398 ok_X2_perform_29 rfl rfl (Nat.le_of_ble_eq_true rfl) rc_24 ⟨rfl, rfl⟩ ⟨Nat.le_refl _, Nat.le_refl _⟩ rfl (t_X2_give false M o X a2 0 0 Cz90 _ h) (fun rz94 Cz93 h => ?_)
                                  exact z_iret dX2_perform_401 rfl ⟨Nat.le_refl _, Nat.le_refl _⟩ ⟨rz94, Cz93, rfl, rfl, h⟩
                                · replace h := h.2 hcz92
                                  refine z_iconst 1 394 dX2_perform_393 rfl rfl ?_
                                  refine z_goto 398 dX2_perform_394 rfl ?_
                                  refine z_ciV [.int a2, .int 0, .int 1] 401 dX2_perform_398 ok_X2_perform_29 rfl rfl (Nat.le_of_ble_eq_true rfl) rc_24 ⟨rfl, rfl⟩ ⟨Nat.le_refl _, Nat.le_refl _⟩ rfl (t_X2_give false M o X a2 0 1 Cz90 _ h) (fun rz96 Cz95 h => ?_)
                                  exact z_iret dX2_perform_401 rfl ⟨Nat.le_refl _, Nat.le_refl _⟩ ⟨rz96, Cz95, rfl, rfl, h⟩
                              · replace h := h.2 hcz89
                                by_cases hcz97 : vz3 = 19
                                · replace h := h.1 hcz97
                                  refine z_tabIn 402 dX2_perform_8 (by rw [hcz97]; decide) (by rw [hcz97]; decide) (by rw [hcz97]; rfl) rfl ?_
                                  refine z_aload_n 0 403 dX2_perform_402 rfl rfl ?_
                                  refine z_iload_n 2 404 dX2_perform_403 rfl rfl ?_
                                  refine z_ciV [.int a2] 407 dX2_perform_404 ok_X2_perform_74 rfl rfl (Nat.le_of_ble_eq_true rfl) rc_24 ⟨rfl, rfl⟩ ⟨Nat.le_refl _, Nat.le_refl _⟩ rfl (t_X2_pushHand false M o X a2 C _ h) (fun rz99 Cz98 h => ?_)
                                  exact z_iret dX2_perform_407 rfl ⟨Nat.le_refl _, Nat.le_refl _⟩ ⟨rz99, Cz98, rfl, rfl, h⟩
                                · replace h := h.2 hcz97
                                  by_cases hcz100 : vz3 = 20
                                  · replace h := h.1 hcz100
                                    refine z_tabIn 408 dX2_perform_8 (by rw [hcz100]; decide) (by rw [hcz100]; decide) (by rw [hcz100]; rfl) rfl ?_
                                    refine z_aload_n 0 409 dX2_perform_408 rfl rfl ?_
                                    refine z_iload_n 2 410 dX2_perform_409 rfl rfl ?_
                                    refine z_ciV [.int a2] 413 dX2_perform_410 ok_X2_perform_77 rfl rfl (Nat.le_of_ble_eq_true rfl) rc_24 ⟨rfl, rfl⟩ ⟨Nat.le_refl _, Nat.le_refl _⟩ rfl (t_X2_popHand false M o X a2 C _ h) (fun rz102 Cz101 h => ?_)
                                    exact z_iret dX2_perform_413 rfl ⟨Nat.le_refl _, Nat.le_refl _⟩ ⟨rz102, Cz101, rfl, rfl, h⟩
                                  · replace h := h.2 hcz100
                                    refine z_tab [1, 2, 3, 4, 5, 6, 7, 8, 9, 10, 11, 12, 13, 14, 15, 16, 17, 18, 19, 20] 414 dX2_perform_8 (List.forall_mem_cons.mpr ⟨hcz4, (List.forall_mem_cons.mpr ⟨hcz7, (List.forall_mem_cons.mpr ⟨hcz11, (List.forall_mem_cons.mpr ⟨hcz14, (List.forall_mem_cons.mpr ⟨hcz17, (List.forall_mem_cons.mpr ⟨hcz20, (List.forall_mem_cons.mpr ⟨hcz28, (List.forall_mem_cons.mpr ⟨hcz36, (List.forall_mem_cons.mpr ⟨hcz39, (List.forall_mem_cons.mpr ⟨hcz47, (List.forall_mem_cons.mpr ⟨hcz50, (List.forall_mem_cons.mpr ⟨hcz58, (List.forall_mem_cons.mpr ⟨hcz67, (List.forall_mem_cons.mpr ⟨hcz85, (List.forall_mem_cons.mpr ⟨hcz86, (List.forall_mem_cons.mpr ⟨hcz87, (List.forall_mem_cons.mpr ⟨hcz88, (List.forall_mem_cons.mpr ⟨hcz89, (List.forall_mem_cons.mpr ⟨hcz97, (List.forall_mem_cons.mpr ⟨hcz100, (fun _ q9 => absurd q9 List.not_mem_nil)⟩)⟩)⟩)⟩)⟩)⟩)⟩)⟩)⟩)⟩)⟩)⟩)⟩)⟩)⟩)⟩)⟩)⟩)⟩)⟩) (by decide +kernel) (by decide) rfl ?_
                                    refine z_iconst 0 415 dX2_perform_414 rfl rfl ?_
                                    exact z_iret dX2_perform_415 rfl ⟨Nat.le_refl _, Nat.le_refl _⟩ ⟨0, C, rfl, rfl, h⟩
end ZG
