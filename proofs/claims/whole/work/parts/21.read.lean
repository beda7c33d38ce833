section ZG
def p_X5_refuse (a1 : Int32) (a2 : Int32) (C : cS) (Q : Int32 → cS → Prop) : Prop :=
  p_X8_placeAt a2 (c_iS C 3 a1) (fun rz2 Cz1 => Q 0 (c_iS Cz1 4 rz2))
set_option maxRecDepth 100000 in
set_option maxHeartbeats 4000000 in
theorem t_X5_refuse (tg : Bool) (M : mS) (o : Nat → Int64) (X : List va_E) (a1 : Int32) (a2 : Int32) (C : cS) (Q : Int32 → cS → Prop) (h : p_X5_refuse a1 a2 C Q) : z_M q_X5_refuse tg [.ref 202, .int a1, .int a2] (wz C M o X) (zc_i M o X Q) := by
  unfold p_X5_refuse at h
  refine z_enter (by decide) (Nat.le_of_ble_eq_true rfl) ?_
  refine z_aload_n 0 1 dX5_refuse_0 rfl rfl ?_
  refine z_iload_n 1 2 dX5_refuse_1 rfl rfl ?_
  refine pci_3 5 dX5_refuse_2 op_X5_18 rfl ?_
  refine z_aload_n 0 6 dX5_refuse_5 rfl rfl ?_
  refine z_aload_n 0 7 dX5_refuse_6 rfl rfl ?_
  refine gr_2_0 10 dX5_refuse_7 of_X5_12 rfl ?_
  refine z_iload_n 2 11 dX5_refuse_10 rfl rfl ?_
  refine z_ciV [.int a2] 14 dX5_refuse_11 ok_X5_refuse_79 rfl rfl (Nat.le_of_ble_eq_true rfl) rc_3 ⟨rfl, rfl⟩ ⟨Nat.le_refl _, Nat.le_refl _⟩ rfl (t_X8_placeAt tg M o X a2 (c_iS C 3 a1) _ h) (fun rz2 Cz1 h => ?_)
  refine pci_4 17 dX5_refuse_14 op_X5_31 rfl ?_
  refine z_iconst 0 18 dX5_refuse_17 rfl rfl ?_
  exact z_zret dX5_refuse_18 rfl rfl ⟨Nat.le_refl _, Nat.le_refl _⟩ ⟨0, (c_iS Cz1 4 rz2), rfl, rfl, h⟩
def j_X5_mayBegin_50 (b2 : Bool) (Q : Int32 → cS → Prop) (l1 : Int32) (s0 : Int32) (C : cS) : Prop :=
  ((s0 = 0 → (((c_pn C b2) < 150 → Q 1 C) ∧ (¬ (c_pn C b2) < 150 → p_X5_refuse 5 l1 C (fun rz8 Cz7 => ((rz8 = 0 → Q 0 Cz7) ∧ (¬ rz8 = 0 → Q 1 Cz7)))))) ∧ (¬ s0 = 0 → p_X8_nameAt l1 C (fun rz11 Cz10 => p_X4_actLabelled b2 rz11 Cz10 (fun rz13 Cz12 => ((rz13 = (-1) → (((c_pn Cz12 b2) < 150 → Q 1 Cz12) ∧ (¬ (c_pn Cz12 b2) < 150 → p_X5_refuse 5 l1 Cz12 (fun rz17 Cz16 => ((rz17 = 0 → Q 0 Cz16) ∧ (¬ rz17 = 0 → Q 1 Cz16)))))) ∧ (¬ rz13 = (-1) → p_X5_refuse 3 l1 Cz12 (fun rz20 Cz19 => (rz20 = 0 ∨ rz20 = 1) ∧ Q rz20 Cz19)))))))
set_option maxRecDepth 100000 in
set_option maxHeartbeats 4000000 in
theorem tj_X5_mayBegin_50 (tg : Bool) (M : mS) (o : Nat → Int64) (X : List va_E) (b2 : Bool) (Q : Int32 → cS → Prop) (l1 : Int32) (s0 : Int32) (C : cS) (h : j_X5_mayBegin_50 b2 Q l1 s0 C) : z_go q_X5_mayBegin tg 50 [(1, .int l1), (0, .ref 202), (2, .ref (200 + pO b2))] [.int s0] (wz C M o X) 0 0 (zc_i M o X Q) := by
  unfold j_X5_mayBegin_50 at h
  refine z_istore [(4, .int s0), (1, .int l1), (0, .ref 202), (2, .ref (200 + pO b2))] 52 dX5_mayBegin_50 (Nat.le_of_ble_eq_true rfl) rfl rfl ?_
  refine z_iload 0 54 dX5_mayBegin_52 rfl rfl ?_
  refine z_if_eq 80 57 dX5_mayBegin_54 rfl rfl (fun hcz5 => ?_) (fun hcz5 => ?_)
  · replace h := h.1 hcz5
    refine z_aload_n 3 81 dX5_mayBegin_80 rfl rfl ?_
    refine gpc (c_pn C b2) 84 dX5_mayBegin_81 of_X5_22 rfl rfl ?_
    refine z_sipush 150 87 dX5_mayBegin_84 rfl rfl ?_
    refine z_icmp_lt 99 90 dX5_mayBegin_87 rfl rfl (fun hcz6 => ?_) (fun hcz6 => ?_)
    · replace h := h.1 hcz6
      refine z_iconst 1 100 dX5_mayBegin_99 rfl rfl ?_
      refine z_goto 104 dX5_mayBegin_100 rfl ?_
      exact z_zret dX5_mayBegin_104 rfl rfl ⟨Nat.le_refl _, Nat.le_refl _⟩ ⟨1, C, rfl, rfl, h⟩
    · replace h := h.2 hcz6
      refine z_aload_n 2 91 dX5_mayBegin_90 rfl rfl ?_
      refine z_iconst 5 92 dX5_mayBegin_91 rfl rfl ?_
      refine z_iload_n 1 93 dX5_mayBegin_92 rfl rfl ?_
      refine z_ciV [.int 5, .int l1] 96 dX5_mayBegin_93 ok_X5_mayBegin_96 rfl rfl (Nat.le_of_ble_eq_true rfl) rc_2 ⟨rfl, rfl⟩ ⟨Nat.le_refl _, Nat.le_refl _⟩ rfl (t_X5_refuse tg M o X 5 l1 C _ h) (fun rz8 Cz7 h => ?_)
      refine z_if_eq 103 99 dX5_mayBegin_96 rfl rfl (fun hcz9 => ?_) (fun hcz9 => ?_)
      · replace h := h.1 hcz9
        refine z_iconst 0 104 dX5_mayBegin_103 rfl rfl ?_
        exact z_zret dX5_mayBegin_104 rfl rfl ⟨Nat.le_refl _, Nat.le_refl _⟩ ⟨0, Cz7, rfl, rfl, h⟩
      · replace h := h.2 hcz9
        refine z_iconst 1 100 dX5_mayBegin_99 rfl rfl ?_
        refine z_goto 104 dX5_mayBegin_100 rfl ?_
        exact z_zret dX5_mayBegin_104 rfl rfl ⟨Nat.le_refl _, Nat.le_refl _⟩ ⟨1, Cz7, rfl, rfl, h⟩
  · replace h := h.2 hcz5
    refine z_aload_n 3 58 dX5_mayBegin_57 rfl rfl ?_
    refine z_aload_n 2 59 dX5_mayBegin_58 rfl rfl ?_
    refine gr_2_0 62 dX5_mayBegin_59 of_X5_12 rfl ?_
    refine z_iload_n 1 63 dX5_mayBegin_62 rfl rfl ?_
    refine z_clV [.int l1] 66 dX5_mayBegin_63 ok_X5_mayBegin_68 rfl rfl (Nat.le_of_ble_eq_true rfl) rc_3 ⟨rfl, rfl⟩ ⟨Nat.le_refl _, Nat.le_refl _⟩ rfl (t_X8_nameAt tg M o X l1 C _ h) (fun rz11 Cz10 h => ?_)
    refine z_ciV [.long rz11] 69 dX5_mayBegin_66 ok_X5_mayBegin_99 rfl rfl (Nat.le_of_ble_eq_true rfl) (rc_p b2) ⟨rfl, rfl⟩ ⟨Nat.le_refl _, Nat.le_refl _⟩ rfl (t_X4_actLabelled tg M o X b2 rz11 Cz10 _ h) (fun rz13 Cz12 h => ?_)
    refine z_iconst (-1) 70 dX5_mayBegin_69 rfl rfl ?_
    refine z_icmp_eq 80 73 dX5_mayBegin_70 rfl rfl (fun hcz14 => ?_) (fun hcz14 => ?_)
    · replace h := h.1 hcz14
      refine z_aload_n 3 81 dX5_mayBegin_80 rfl rfl ?_
      refine gpc (c_pn Cz12 b2) 84 dX5_mayBegin_81 of_X5_22 rfl rfl ?_
      refine z_sipush 150 87 dX5_mayBegin_84 rfl rfl ?_
      refine z_icmp_lt 99 90 dX5_mayBegin_87 rfl rfl (fun hcz15 => ?_) (fun hcz15 => ?_)
      · replace h := h.1 hcz15
        refine z_iconst 1 100 dX5_mayBegin_99 rfl rfl ?_
        refine z_goto 104 dX5_mayBegin_100 rfl ?_
        exact z_zret dX5_mayBegin_104 rfl rfl ⟨Nat.le_refl _, Nat.le_refl _⟩ ⟨1, Cz12, rfl, rfl, h⟩
      · replace h := h.2 hcz15
        refine z_aload_n 2 91 dX5_mayBegin_90 rfl rfl ?_
        refine z_iconst 5 92 dX5_mayBegin_91 rfl rfl ?_
        refine z_iload_n 1 93 dX5_mayBegin_92 rfl rfl ?_
        refine z_ciV [.int 5, .int l1] 96 dX5_mayBegin_93 ok_X5_mayBegin_96 rfl rfl (Nat.le_of_ble_eq_true rfl) rc_2 ⟨rfl, rfl⟩ ⟨Nat.le_refl _, Nat.le_refl _⟩ rfl (t_X5_refuse tg M o X 5 l1 Cz12 _ h) (fun rz17 Cz16 h => ?_)
        refine z_if_eq 103 99 dX5_mayBegin_96 rfl rfl (fun hcz18 => ?_) (fun hcz18 => ?_)
        · replace h := h.1 hcz18
          refine z_iconst 0 104 dX5_mayBegin_103 rfl rfl ?_
          exact z_zret dX5_mayBegin_104 rfl rfl ⟨Nat.le_refl _, Nat.le_refl _⟩ ⟨0, Cz16, rfl, rfl, h⟩
        · replace h := h.2 hcz18
          refine z_iconst 1 100 dX5_mayBegin_99 rfl rfl ?_
          refine z_goto 104 dX5_mayBegin_100 rfl ?_
          exact z_zret dX5_mayBegin_104 rfl rfl ⟨Nat.le_refl _, Nat.le_refl _⟩ ⟨1, Cz16, rfl, rfl, h⟩
    · replace h := h.2 hcz14
      refine z_aload_n 2 74 dX5_mayBegin_73 rfl rfl ?_
      refine z_iconst 3 75 dX5_mayBegin_74 rfl rfl ?_
      refine z_iload_n 1 76 dX5_mayBegin_75 rfl rfl ?_
      refine z_ciV [.int 3, .int l1] 79 dX5_mayBegin_76 ok_X5_mayBegin_96 rfl rfl (Nat.le_of_ble_eq_true rfl) rc_2 ⟨rfl, rfl⟩ ⟨Nat.le_refl _, Nat.le_refl _⟩ rfl (t_X5_refuse tg M o X 3 l1 Cz12 _ h) (fun rz20 Cz19 h => ?_)
      obtain ⟨hqz21, h⟩ := h
      exact z_zret dX5_mayBegin_79 rfl (by rcases hqz21 with h9 | h9 <;> rw [h9] <;> rfl) ⟨Nat.le_refl _, Nat.le_refl _⟩ ⟨rz20, Cz19, rfl, rfl, h⟩
def j_X5_mayBegin_49 (b2 : Bool) (Q : Int32 → cS → Prop) (l1 : Int32) (C : cS) : Prop :=
  j_X5_mayBegin_50 b2 Q l1 0 C
set_option maxRecDepth 100000 in
set_option maxHeartbeats 4000000 in
theorem tj_X5_mayBegin_49 (tg : Bool) (M : mS) (o : Nat → Int64) (X : List va_E) (b2 : Bool) (Q : Int32 → cS → Prop) (l1 : Int32) (C : cS) (h : j_X5_mayBegin_49 b2 Q l1 C) : z_go q_X5_mayBegin tg 49 [(1, .int l1), (0, .ref 202), (2, .ref (200 + pO b2))] [] (wz C M o X) 0 0 (zc_i M o X Q) := by
  unfold j_X5_mayBegin_49 at h
  refine z_iconst 0 50 dX5_mayBegin_49 rfl rfl ?_
  refine z_pick [(1, .int l1), (0, .ref 202), (2, .ref (200 + pO b2))] [0, 1, 2] rfl ?_
  exact tj_X5_mayBegin_50 tg M o X b2 Q l1 0 C h
def j_X5_mayBegin_26 (b2 : Bool) (Q : Int32 → cS → Prop) (l1 : Int32) (l3 : Int32) (C : cS) : Prop :=
  ((¬ l3 = 3 → j_X5_mayBegin_49 b2 Q l1 C) ∧ (l3 = 3 → p_X8_kindAt (l1 + 1) C (fun rz23 Cz22 => ((¬ rz23 = 4 → j_X5_mayBegin_49 b2 Q l1 Cz22) ∧ (rz23 = 4 → j_X5_mayBegin_50 b2 Q l1 1 Cz22)))))
set_option maxRecDepth 100000 in
set_option maxHeartbeats 4000000 in
theorem tj_X5_mayBegin_26 (tg : Bool) (M : mS) (o : Nat → Int64) (X : List va_E) (b2 : Bool) (Q : Int32 → cS → Prop) (l1 : Int32) (l3 : Int32) (C : cS) (h : j_X5_mayBegin_26 b2 Q l1 l3 C) : z_go q_X5_mayBegin tg 26 [(1, .int l1), (3, .int l3), (0, .ref 202), (2, .ref (200 + pO b2))] [] (wz C M o X) 0 0 (zc_i M o X Q) := by
  unfold j_X5_mayBegin_26 at h
  refine z_iload_n 1 27 dX5_mayBegin_26 rfl rfl ?_
  refine z_iconst 3 28 dX5_mayBegin_27 rfl rfl ?_
  refine z_icmp_ne 49 31 dX5_mayBegin_28 rfl rfl (fun hcz4 => ?_) (fun hcz4 => ?_)
  · replace h := h.1 hcz4
    refine z_pick [(1, .int l1), (0, .ref 202), (2, .ref (200 + pO b2))] [0, 2, 3] rfl ?_
    exact tj_X5_mayBegin_49 tg M o X b2 Q l1 C h
  · replace h := h.2 hcz4
    refine z_aload_n 2 32 dX5_mayBegin_31 rfl rfl ?_
    refine gr_2_0 35 dX5_mayBegin_32 of_X5_12 rfl ?_
    refine z_iload_n 0 36 dX5_mayBegin_35 rfl rfl ?_
    refine z_iconst 1 37 dX5_mayBegin_36 rfl rfl ?_
    refine z_iadd 38 dX5_mayBegin_37 rfl ?_
    refine z_ciV [.int (l1 + 1)] 41 dX5_mayBegin_38 ok_X5_mayBegin_53 rfl rfl (Nat.le_of_ble_eq_true rfl) rc_3 ⟨rfl, rfl⟩ ⟨Nat.le_refl _, Nat.le_refl _⟩ rfl (t_X8_kindAt tg M o X (l1 + 1) C _ h) (fun rz23 Cz22 h => ?_)
    refine z_iconst 4 42 dX5_mayBegin_41 rfl rfl ?_
    refine z_icmp_ne 49 45 dX5_mayBegin_42 rfl rfl (fun hcz24 => ?_) (fun hcz24 => ?_)
    · replace h := h.1 hcz24
      refine z_pick [(1, .int l1), (0, .ref 202), (2, .ref (200 + pO b2))] [0, 2, 3] rfl ?_
      exact tj_X5_mayBegin_49 tg M o X b2 Q l1 Cz22 h
    · replace h := h.2 hcz24
      refine z_iconst 1 46 dX5_mayBegin_45 rfl rfl ?_
      refine z_goto 50 dX5_mayBegin_46 rfl ?_
      refine z_pick [(1, .int l1), (0, .ref 202), (2, .ref (200 + pO b2))] [0, 2, 3] rfl ?_
      exact tj_X5_mayBegin_50 tg M o X b2 Q l1 1 Cz22 h
def p_X5_mayBegin (a1 : Int32) (b2 : Bool) (C : cS) (Q : Int32 → cS → Prop) : Prop :=
  p_X8_kindAt a1 C (fun rz2 Cz1 => ((rz2 = 3 → j_X5_mayBegin_26 b2 Q a1 rz2 Cz1) ∧ (¬ rz2 = 3 → ((rz2 = 2 → j_X5_mayBegin_26 b2 Q a1 rz2 Cz1) ∧ (¬ rz2 = 2 → p_X5_refuse 2 a1 Cz1 (fun rz27 Cz26 => (rz27 = 0 ∨ rz27 = 1) ∧ Q rz27 Cz26))))))
set_option maxRecDepth 100000 in
set_option maxHeartbeats 4000000 in
theorem t_X5_mayBegin (tg : Bool) (M : mS) (o : Nat → Int64) (X : List va_E) (a1 : Int32) (b2 : Bool) (C : cS) (Q : Int32 → cS → Prop) (h : p_X5_mayBegin a1 b2 C Q) : z_M q_X5_mayBegin tg [.ref 202, .int a1, .ref (200 + pO b2)] (wz C M o X) (zc_i M o X Q) := by
  unfold p_X5_mayBegin at h
  refine z_enter (by decide) (Nat.le_of_ble_eq_true rfl) ?_
  refine z_aload_n 0 1 dX5_mayBegin_0 rfl rfl ?_
  refine gr_2_0 4 dX5_mayBegin_1 of_X5_12 rfl ?_
  refine z_iload_n 1 5 dX5_mayBegin_4 rfl rfl ?_
  refine z_ciV [.int a1] 8 dX5_mayBegin_5 ok_X5_mayBegin_53 rfl rfl (Nat.le_of_ble_eq_true rfl) rc_3 ⟨rfl, rfl⟩ ⟨Nat.le_refl _, Nat.le_refl _⟩ rfl (t_X8_kindAt tg M o X a1 C _ h) (fun rz2 Cz1 h => ?_)
  refine z_istore_n [(3, .int rz2), (0, .ref 202), (1, .int a1), (2, .ref (200 + pO b2))] 9 dX5_mayBegin_8 (Nat.le_of_ble_eq_true rfl) rfl rfl ?_
  refine z_iload_n 0 10 dX5_mayBegin_9 rfl rfl ?_
  refine z_iconst 3 11 dX5_mayBegin_10 rfl rfl ?_
  refine z_icmp_eq 26 14 dX5_mayBegin_11 rfl rfl (fun hcz3 => ?_) (fun hcz3 => ?_)
  · replace h := h.1 hcz3
    refine z_pick [(1, .int a1), (3, .int rz2), (0, .ref 202), (2, .ref (200 + pO b2))] [2, 0, 1, 3] rfl ?_
    exact tj_X5_mayBegin_26 tg M o X b2 Q a1 rz2 Cz1 h
  · replace h := h.2 hcz3
    refine z_iload_n 0 15 dX5_mayBegin_14 rfl rfl ?_
    refine z_iconst 2 16 dX5_mayBegin_15 rfl rfl ?_
    refine z_icmp_eq 26 19 dX5_mayBegin_16 rfl rfl (fun hcz25 => ?_) (fun hcz25 => ?_)
    · replace h := h.1 hcz25
      refine z_pick [(1, .int a1), (3, .int rz2), (0, .ref 202), (2, .ref (200 + pO b2))] [2, 0, 1, 3] rfl ?_
      exact tj_X5_mayBegin_26 tg M o X b2 Q a1 rz2 Cz1 h
    · replace h := h.2 hcz25
      refine z_aload_n 1 20 dX5_mayBegin_19 rfl rfl ?_
      refine z_iconst 2 21 dX5_mayBegin_20 rfl rfl ?_
      refine z_iload_n 2 22 dX5_mayBegin_21 rfl rfl ?_
      refine z_ciV [.int 2, .int a1] 25 dX5_mayBegin_22 ok_X5_mayBegin_96 rfl rfl (Nat.le_of_ble_eq_true rfl) rc_2 ⟨rfl, rfl⟩ ⟨Nat.le_refl _, Nat.le_refl _⟩ rfl (t_X5_refuse tg M o X 2 a1 Cz1 _ h) (fun rz27 Cz26 h => ?_)
      obtain ⟨hqz28, h⟩ := h
      exact z_zret dX5_mayBegin_25 rfl (by rcases hqz28 with h9 | h9 <;> rw [h9] <;> rfl) ⟨Nat.le_refl _, Nat.le_refl _⟩ ⟨rz27, Cz26, rfl, rfl, h⟩
def p_X5_stands (a1 : Int32) (a2 : Int32) (C : cS) (Q : Int32 → cS → Prop) : Prop :=
  p_X8_kindAt a1 C (fun rz2 Cz1 => ((rz2 = a2 → Q 1 Cz1) ∧ (¬ rz2 = a2 → p_X5_refuse 2 a1 Cz1 (fun rz5 Cz4 => ((rz5 = 0 → Q 0 Cz4) ∧ (¬ rz5 = 0 → Q 1 Cz4))))))
set_option maxRecDepth 100000 in
set_option maxHeartbeats 4000000 in
theorem t_X5_stands (tg : Bool) (M : mS) (o : Nat → Int64) (X : List va_E) (a1 : Int32) (a2 : Int32) (C : cS) (Q : Int32 → cS → Prop) (h : p_X5_stands a1 a2 C Q) : z_M q_X5_stands tg [.ref 202, .int a1, .int a2] (wz C M o X) (zc_i M o X Q) := by
  unfold p_X5_stands at h
  refine z_enter (by decide) (Nat.le_of_ble_eq_true rfl) ?_
  refine z_aload_n 0 1 dX5_stands_0 rfl rfl ?_
  refine gr_2_0 4 dX5_stands_1 of_X5_12 rfl ?_
  refine z_iload_n 1 5 dX5_stands_4 rfl rfl ?_
  refine z_ciV [.int a1] 8 dX5_stands_5 ok_X5_stands_53 rfl rfl (Nat.le_of_ble_eq_true rfl) rc_3 ⟨rfl, rfl⟩ ⟨Nat.le_refl _, Nat.le_refl _⟩ rfl (t_X8_kindAt tg M o X a1 C _ h) (fun rz2 Cz1 h => ?_)
  refine z_iload_n 2 9 dX5_stands_8 rfl rfl ?_
  refine z_icmp_eq 21 12 dX5_stands_9 rfl rfl (fun hcz3 => ?_) (fun hcz3 => ?_)
  · replace h := h.1 hcz3
    refine z_iconst 1 22 dX5_stands_21 rfl rfl ?_
    refine z_goto 26 dX5_stands_22 rfl ?_
    exact z_zret dX5_stands_26 rfl rfl ⟨Nat.le_refl _, Nat.le_refl _⟩ ⟨1, Cz1, rfl, rfl, h⟩
  · replace h := h.2 hcz3
    refine z_aload_n 0 13 dX5_stands_12 rfl rfl ?_
    refine z_iconst 2 14 dX5_stands_13 rfl rfl ?_
    refine z_iload_n 1 15 dX5_stands_14 rfl rfl ?_
    refine z_ciV [.int 2, .int a1] 18 dX5_stands_15 ok_X5_stands_96 rfl rfl (Nat.le_of_ble_eq_true rfl) rc_2 ⟨rfl, rfl⟩ ⟨Nat.le_refl _, Nat.le_refl _⟩ rfl (t_X5_refuse tg M o X 2 a1 Cz1 _ h) (fun rz5 Cz4 h => ?_)
    refine z_if_eq 25 21 dX5_stands_18 rfl rfl (fun hcz6 => ?_) (fun hcz6 => ?_)
    · replace h := h.1 hcz6
      refine z_iconst 0 26 dX5_stands_25 rfl rfl ?_
      exact z_zret dX5_stands_26 rfl rfl ⟨Nat.le_refl _, Nat.le_refl _⟩ ⟨0, Cz4, rfl, rfl, h⟩
    · replace h := h.2 hcz6
      refine z_iconst 1 22 dX5_stands_21 rfl rfl ?_
      refine z_goto 26 dX5_stands_22 rfl ?_
      exact z_zret dX5_stands_26 rfl rfl ⟨Nat.le_refl _, Nat.le_refl _⟩ ⟨1, Cz4, rfl, rfl, h⟩
def p_X5_tokenFor (a0 : Int32) (C : cS) (Q : Int32 → cS → Prop) : Prop :=
  ((¬ a0 = 72 → ((¬ a0 = 78 → Q 3 C) ∧ (a0 = 78 → Q 0 C))) ∧ (a0 = 72 → Q 1 C))
set_option maxRecDepth 100000 in
set_option maxHeartbeats 4000000 in
theorem t_X5_tokenFor (tg : Bool) (M : mS) (o : Nat → Int64) (X : List va_E) (a0 : Int32) (C : cS) (Q : Int32 → cS → Prop) (h : p_X5_tokenFor a0 C Q) : z_M q_X5_tokenFor tg [.int a0] (wz C M o X) (zc_i M o X Q) := by
  unfold p_X5_tokenFor at h
  refine z_enter (by decide) (Nat.le_of_ble_eq_true rfl) ?_
  refine z_iload_n 0 1 dX5_tokenFor_0 rfl rfl ?_
  refine z_bipush 72 3 dX5_tokenFor_1 rfl rfl ?_
  refine z_icmp_ne 10 6 dX5_tokenFor_3 rfl rfl (fun hcz1 => ?_) (fun hcz1 => ?_)
  · replace h := h.1 hcz1
    refine z_iload_n 0 11 dX5_tokenFor_10 rfl rfl ?_
    refine z_bipush 78 13 dX5_tokenFor_11 rfl rfl ?_
    refine z_icmp_ne 20 16 dX5_tokenFor_13 rfl rfl (fun hcz2 => ?_) (fun hcz2 => ?_)
    · replace h := h.1 hcz2
      refine z_iconst 3 21 dX5_tokenFor_20 rfl rfl ?_
      exact z_iret dX5_tokenFor_21 rfl ⟨Nat.le_refl _, Nat.le_refl _⟩ ⟨3, C, rfl, rfl, h⟩
    · replace h := h.2 hcz2
      refine z_iconst 0 17 dX5_tokenFor_16 rfl rfl ?_
      refine z_goto 21 dX5_tokenFor_17 rfl ?_
      exact z_iret dX5_tokenFor_21 rfl ⟨Nat.le_refl _, Nat.le_refl _⟩ ⟨0, C, rfl, rfl, h⟩
  · replace h := h.2 hcz1
    refine z_iconst 1 7 dX5_tokenFor_6 rfl rfl ?_
    refine z_goto 21 dX5_tokenFor_7 rfl ?_
    exact z_iret dX5_tokenFor_21 rfl ⟨Nat.le_refl _, Nat.le_refl _⟩ ⟨1, C, rfl, rfl, h⟩
def j_X5_readTaken_62 (t2 : Nat) (b4 : Bool) (Q : Int32 → cS → Prop) (R9 : Int32 → Int32 → Int32 → cS → Prop) (K39 : Int32 → cS → Prop) (K104 : Int32 → cS → Prop) (l3 : Int32) (l5 : Int32) (l6 : Int32) (s0 : Int32) (C : cS) : Prop :=
  ((s0 = 0 → p_X8_valueAt l5 C (fun rz17 Cz16 => vp_in ((l3 * 3) + l6) 450 ∧ ∀ vz19 : Int32, vz19 = l5 + 1 → ∀ vz20 : Int32, vz20 = l6 + 1 → R9 l3 vz19 vz20 (c_paU Cz16 1 b4 ((l3 * 3) + l6) rz17))) ∧ (¬ s0 = 0 → vp_in ((l3 * 3) + l6) 450 ∧ ∀ vz22 : Int32, vz22 = l5 + 1 → ∀ vz23 : Int32, vz23 = l6 + 1 → R9 l3 vz22 vz23 (c_paU C 1 b4 ((l3 * 3) + l6) l5)))
set_option maxRecDepth 100000 in
set_option maxHeartbeats 4000000 in
theorem tj_X5_readTaken_62 (tg : Bool) (M : mS) (o : Nat → Int64) (X : List va_E) (t2 : Nat) (b4 : Bool) (Q : Int32 → cS → Prop) (R9 : Int32 → Int32 → Int32 → cS → Prop) (K39 : Int32 → cS → Prop) (K104 : Int32 → cS → Prop) (hR9 : ∀ (l3 : Int32) (l5 : Int32) (l6 : Int32) (C : cS), R9 l3 l5 l6 C → z_go q_X5_readTaken tg 6 [(3, .int l3), (5, .int l5), (6, .int l6), (0, .ref 202), (2, .ref (30 + t2)), (4, .ref (200 + pO b4))] [] (wz C M o X) 0 0 (zc_i M o X Q)) (hK39 : ∀ (l5 : Int32) (C : cS), K39 l5 C → z_go q_X5_readTaken tg 39 [(5, .int l5)] [] (wz C M o X) 0 0 (zc_i M o X Q)) (hK104 : ∀ (l5 : Int32) (C : cS), K104 l5 C → z_go q_X5_readTaken tg 104 [(5, .int l5), (0, .ref 202)] [] (wz C M o X) 0 0 (zc_i M o X Q)) (l3 : Int32) (l5 : Int32) (l6 : Int32) (s0 : Int32) (C : cS) (h : j_X5_readTaken_62 t2 b4 Q R9 K39 K104 l3 l5 l6 s0 C) : z_go q_X5_readTaken tg 62 [(3, .int l3), (5, .int l5), (6, .int l6), (0, .ref 202), (2, .ref (30 + t2)), (4, .ref (200 + pO b4))] [.int s0] (wz C M o X) 0 0 (zc_i M o X Q) := by
  unfold j_X5_readTaken_62 at h
  refine z_istore [(7, .int s0), (3, .int l3), (5, .int l5), (6, .int l6), (0, .ref 202), (2, .ref (30 + t2)), (4, .ref (200 + pO b4))] 64 dX5_readTaken_62 (Nat.le_of_ble_eq_true rfl) rfl rfl ?_
  refine z_aload 6 66 dX5_readTaken_64 rfl rfl ?_
  refine gr_p1 69 dX5_readTaken_66 of_X5_117 rfl ?_
  refine z_iload_n 1 70 dX5_readTaken_69 rfl rfl ?_
  refine z_iconst 3 71 dX5_readTaken_70 rfl rfl ?_
  refine z_imul 72 dX5_readTaken_71 rfl ?_
  refine z_iload 3 74 dX5_readTaken_72 rfl rfl ?_
  refine z_iadd 75 dX5_readTaken_74 rfl ?_
  refine z_iload 0 77 dX5_readTaken_75 rfl rfl ?_
  refine z_if_eq 85 80 dX5_readTaken_77 rfl rfl (fun hcz15 => ?_) (fun hcz15 => ?_)
  · replace h := h.1 hcz15
    refine z_aload_n 4 86 dX5_readTaken_85 rfl rfl ?_
    refine gr_2_0 89 dX5_readTaken_86 of_X5_12 rfl ?_
    refine z_iload 2 91 dX5_readTaken_89 rfl rfl ?_
    refine z_ciV [.int l5] 94 dX5_readTaken_91 ok_X5_readTaken_61 rfl rfl (Nat.le_of_ble_eq_true rfl) rc_3 ⟨rfl, rfl⟩ ⟨Nat.le_refl _, Nat.le_refl _⟩ rfl (t_X8_valueAt tg M o X l5 C _ h) (fun rz17 Cz16 h => ?_)
    obtain ⟨hbz18, h⟩ := h
    refine pp1 95 dX5_readTaken_94 hbz18 rfl ?_
    obtain ⟨vz19, hvz19⟩ : ∃ v : Int32, v = l5 + 1 := ⟨_, rfl⟩
    replace h := h vz19 hvz19
    refine z_iinc vz19 [(5, .int vz19), (7, .int s0), (3, .int l3), (6, .int l6), (0, .ref 202), (2, .ref (30 + t2)), (4, .ref (200 + pO b4))] 2 98 dX5_readTaken_95 rfl hvz19.symm (Nat.le_of_ble_eq_true rfl) rfl rfl ?_
    obtain ⟨vz20, hvz20⟩ : ∃ v : Int32, v = l6 + 1 := ⟨_, rfl⟩
    replace h := h vz20 hvz20
    refine z_iinc vz20 [(6, .int vz20), (5, .int vz19), (7, .int s0), (3, .int l3), (0, .ref 202), (2, .ref (30 + t2)), (4, .ref (200 + pO b4))] 3 101 dX5_readTaken_98 rfl hvz20.symm (Nat.le_of_ble_eq_true rfl) rfl rfl ?_
    refine z_goto 6 dX5_readTaken_101 rfl ?_
    refine z_pick [(3, .int l3), (5, .int vz19), (6, .int vz20), (0, .ref 202), (2, .ref (30 + t2)), (4, .ref (200 + pO b4))] [3, 1, 0, 4, 5, 6] rfl ?_
    exact hR9 l3 vz19 vz20 (c_paU Cz16 1 b4 ((l3 * 3) + l6) rz17) h
  · replace h := h.2 hcz15
    refine z_iload 2 82 dX5_readTaken_80 rfl rfl ?_
    refine z_goto 94 dX5_readTaken_82 rfl ?_
    obtain ⟨hbz21, h⟩ := h
    refine pp1 95 dX5_readTaken_94 hbz21 rfl ?_
    obtain ⟨vz22, hvz22⟩ : ∃ v : Int32, v = l5 + 1 := ⟨_, rfl⟩
    replace h := h vz22 hvz22
    refine z_iinc vz22 [(5, .int vz22), (7, .int s0), (3, .int l3), (6, .int l6), (0, .ref 202), (2, .ref (30 + t2)), (4, .ref (200 + pO b4))] 2 98 dX5_readTaken_95 rfl hvz22.symm (Nat.le_of_ble_eq_true rfl) rfl rfl ?_
    obtain ⟨vz23, hvz23⟩ : ∃ v : Int32, v = l6 + 1 := ⟨_, rfl⟩
    replace h := h vz23 hvz23
    refine z_iinc vz23 [(6, .int vz23), (5, .int vz22), (7, .int s0), (3, .int l3), (0, .ref 202), (2, .ref (30 + t2)), (4, .ref (200 + pO b4))] 3 101 dX5_readTaken_98 rfl hvz23.symm (Nat.le_of_ble_eq_true rfl) rfl rfl ?_
    refine z_goto 6 dX5_readTaken_101 rfl ?_
    refine z_pick [(3, .int l3), (5, .int vz22), (6, .int vz23), (0, .ref 202), (2, .ref (30 + t2)), (4, .ref (200 + pO b4))] [3, 1, 0, 4, 5, 6] rfl ?_
    exact hR9 l3 vz22 vz23 (c_paU C 1 b4 ((l3 * 3) + l6) l5) h
def b_X5_readTaken_6 (t2 : Nat) (b4 : Bool) (R9 : Int32 → Int32 → Int32 → cS → Prop) (Q : Int32 → cS → Prop) (K39 : Int32 → cS → Prop) (K104 : Int32 → cS → Prop) (l3 : Int32) (l5 : Int32) (l6 : Int32) (C : cS) : Prop :=
  t2 < 40 ∧ (((nI (z_tlen t2)) ≤ l6 → K104 l5 C) ∧ (¬ (nI (z_tlen t2)) ≤ l6 → ((3 ≤ l6 → K104 l5 C) ∧ (¬ 3 ≤ l6 → vp_in l6 (z_tlen t2) ∧ p_X5_tokenFor (z_tchr t2 l6.toNatClampNeg) C (fun rz8 Cz7 => p_X5_stands l5 rz8 Cz7 (fun rz10 Cz9 => ((¬ rz10 = 0 → p_X8_kindAt l5 Cz9 (fun rz13 Cz12 => ((¬ rz13 = 3 → j_X5_readTaken_62 t2 b4 Q R9 K39 K104 l3 l5 l6 0 Cz12) ∧ (rz13 = 3 → j_X5_readTaken_62 t2 b4 Q R9 K39 K104 l3 l5 l6 1 Cz12)))) ∧ (rz10 = 0 → K39 l5 Cz9))))))))
def w_X5_readTaken_6 (t2 : Nat) (b4 : Bool) (Q : Int32 → cS → Prop) (K39 : Int32 → cS → Prop) (K104 : Int32 → cS → Prop) : Nat → Int32 → Int32 → Int32 → cS → Prop
 | 0 => fun _ _ _ _ => False
 | n + 1 => fun l3 l5 l6 C => b_X5_readTaken_6 t2 b4 (w_X5_readTaken_6 t2 b4 Q K39 K104 n) Q K39 K104 l3 l5 l6 C
set_option maxRecDepth 100000 in
set_option maxHeartbeats 4000000 in
theorem tb_X5_readTaken_6 (tg : Bool) (M : mS) (o : Nat → Int64) (X : List va_E) (t2 : Nat) (b4 : Bool) (R9 : Int32 → Int32 → Int32 → cS → Prop) (Q : Int32 → cS → Prop) (K39 : Int32 → cS → Prop) (K104 : Int32 → cS → Prop) (hR9 : ∀ (l3 : Int32) (l5 : Int32) (l6 : Int32) (C : cS), R9 l3 l5 l6 C → z_go q_X5_readTaken tg 6 [(3, .int l3), (5, .int l5), (6, .int l6), (0, .ref 202), (2, .ref (30 + t2)), (4, .ref (200 + pO b4))] [] (wz C M o X) 0 0 (zc_i M o X Q)) (hK39 : ∀ (l5 : Int32) (C : cS), K39 l5 C → z_go q_X5_readTaken tg 39 [(5, .int l5)] [] (wz C M o X) 0 0 (zc_i M o X Q)) (hK104 : ∀ (l5 : Int32) (C : cS), K104 l5 C → z_go q_X5_readTaken tg 104 [(5, .int l5), (0, .ref 202)] [] (wz C M o X) 0 0 (zc_i M o X Q)) (l3 : Int32) (l5 : Int32) (l6 : Int32) (C : cS) (h : b_X5_readTaken_6 t2 b4 R9 Q K39 K104 l3 l5 l6 C) : z_go q_X5_readTaken tg 6 [(3, .int l3), (5, .int l5), (6, .int l6), (0, .ref 202), (2, .ref (30 + t2)), (4, .ref (200 + pO b4))] [] (wz C M o X) 0 0 (zc_i M o X Q) := by
  unfold b_X5_readTaken_6 at h
  refine z_iload 2 8 dX5_readTaken_6 rfl rfl ?_
  refine z_aload_n 4 9 dX5_readTaken_8 rfl rfl ?_
  obtain ⟨hqz1, h⟩ := h
  refine z_kiV [] 12 dX5_readTaken_9 ok_X5_readTaken_103 rfl rfl (Nat.le_of_ble_eq_true rfl) (z_recvX t2 (List.mem_of_getElem? (i := 1) rfl) hqz1 rfl) ⟨rfl, rfl⟩ ⟨Nat.le_refl _, Nat.le_refl _⟩ rfl (t_len tg t2 _ hqz1) (fun rz2 hrz2 => ?_)
  subst hrz2
  refine z_icmp_ge 104 15 dX5_readTaken_12 rfl rfl (fun hcz3 => ?_) (fun hcz3 => ?_)
  · replace h := h.1 hcz3
    refine z_pick [(5, .int l5), (0, .ref 202)] [1, 3] rfl ?_
    exact hK104 l5 C h
  · replace h := h.2 hcz3
    refine z_iload 2 17 dX5_readTaken_15 rfl rfl ?_
    refine z_iconst 3 18 dX5_readTaken_17 rfl rfl ?_
    refine z_icmp_ge 104 21 dX5_readTaken_18 rfl rfl (fun hcz4 => ?_) (fun hcz4 => ?_)
    · replace h := h.1 hcz4
      refine z_pick [(5, .int l5), (0, .ref 202)] [1, 3] rfl ?_
      exact hK104 l5 C h
    · replace h := h.2 hcz4
      refine z_aload_n 3 22 dX5_readTaken_21 rfl rfl ?_
      refine z_iload 1 24 dX5_readTaken_22 rfl rfl ?_
      refine z_aload_n 4 25 dX5_readTaken_24 rfl rfl ?_
      refine z_iload 2 27 dX5_readTaken_25 rfl rfl ?_
      obtain ⟨hbz5, h⟩ := h
      refine z_kiV [.int l6] 30 dX5_readTaken_27 ok_X5_readTaken_109 rfl rfl (Nat.le_of_ble_eq_true rfl) (z_recvX t2 (List.mem_of_getElem? (i := 1) rfl) hqz1 rfl) ⟨rfl, rfl⟩ ⟨Nat.le_refl _, Nat.le_refl _⟩ rfl (t_chr tg t2 l6 _ hqz1 hbz5) (fun rz6 hrz6 => ?_)
      subst hrz6
      refine z_ciS [.int (z_tchr t2 l6.toNatClampNeg)] 33 dX5_readTaken_30 ok_X5_readTaken_113 rfl rfl (Nat.le_of_ble_eq_true rfl) ⟨rfl, rfl⟩ ⟨Nat.le_refl _, Nat.le_refl _⟩ rfl (t_X5_tokenFor tg M o X (z_tchr t2 l6.toNatClampNeg) C _ h) (fun rz8 Cz7 h => ?_)
      refine z_ciV [.int l5, .int rz8] 36 dX5_readTaken_33 ok_X5_readTaken_57 rfl rfl (Nat.le_of_ble_eq_true rfl) rc_2 ⟨rfl, rfl⟩ ⟨Nat.le_refl _, Nat.le_refl _⟩ rfl (t_X5_stands tg M o X l5 rz8 Cz7 _ h) (fun rz10 Cz9 h => ?_)
      refine z_if_ne 44 39 dX5_readTaken_36 rfl rfl (fun hcz11 => ?_) (fun hcz11 => ?_)
      · replace h := h.1 hcz11
        refine z_aload_n 3 45 dX5_readTaken_44 rfl rfl ?_
        refine gr_2_0 48 dX5_readTaken_45 of_X5_12 rfl ?_
        refine z_iload 1 50 dX5_readTaken_48 rfl rfl ?_
        refine z_ciV [.int l5] 53 dX5_readTaken_50 ok_X5_readTaken_53 rfl rfl (Nat.le_of_ble_eq_true rfl) rc_3 ⟨rfl, rfl⟩ ⟨Nat.le_refl _, Nat.le_refl _⟩ rfl (t_X8_kindAt tg M o X l5 Cz9 _ h) (fun rz13 Cz12 h => ?_)
        refine z_iconst 3 54 dX5_readTaken_53 rfl rfl ?_
        refine z_icmp_ne 61 57 dX5_readTaken_54 rfl rfl (fun hcz14 => ?_) (fun hcz14 => ?_)
        · replace h := h.1 hcz14
          refine z_iconst 0 62 dX5_readTaken_61 rfl rfl ?_
          refine z_pick [(3, .int l3), (5, .int l5), (6, .int l6), (0, .ref 202), (2, .ref (30 + t2)), (4, .ref (200 + pO b4))] [0, 1, 2, 3, 4, 5] rfl ?_
          exact tj_X5_readTaken_62 tg M o X t2 b4 Q R9 K39 K104 hR9 hK39 hK104 l3 l5 l6 0 Cz12 h
        · replace h := h.2 hcz14
          refine z_iconst 1 58 dX5_readTaken_57 rfl rfl ?_
          refine z_goto 62 dX5_readTaken_58 rfl ?_
          refine z_pick [(3, .int l3), (5, .int l5), (6, .int l6), (0, .ref 202), (2, .ref (30 + t2)), (4, .ref (200 + pO b4))] [0, 1, 2, 3, 4, 5] rfl ?_
          exact tj_X5_readTaken_62 tg M o X t2 b4 Q R9 K39 K104 hR9 hK39 hK104 l3 l5 l6 1 Cz12 h
      · replace h := h.2 hcz11
        refine z_pick [(5, .int l5)] [1] rfl ?_
        exact hK39 l5 Cz9 h
theorem tw_X5_readTaken_6 (tg : Bool) (M : mS) (o : Nat → Int64) (X : List va_E) (t2 : Nat) (b4 : Bool) (Q : Int32 → cS → Prop) (K39 : Int32 → cS → Prop) (K104 : Int32 → cS → Prop) (hK39 : ∀ (l5 : Int32) (C : cS), K39 l5 C → z_go q_X5_readTaken tg 39 [(5, .int l5)] [] (wz C M o X) 0 0 (zc_i M o X Q)) (hK104 : ∀ (l5 : Int32) (C : cS), K104 l5 C → z_go q_X5_readTaken tg 104 [(5, .int l5), (0, .ref 202)] [] (wz C M o X) 0 0 (zc_i M o X Q)) : ∀ (n : Nat) (l3 : Int32) (l5 : Int32) (l6 : Int32) (C : cS), w_X5_readTaken_6 t2 b4 Q K39 K104 n l3 l5 l6 C → z_go q_X5_readTaken tg 6 [(3, .int l3), (5, .int l5), (6, .int l6), (0, .ref 202), (2, .ref (30 + t2)), (4, .ref (200 + pO b4))] [] (wz C M o X) 0 0 (zc_i M o X Q) := by
  intro n
  induction n with
  | zero => intro l3 l5 l6 C h; exact h.elim
  | succ n ih => intro l3 l5 l6 C h; exact tb_X5_readTaken_6 tg M o X t2 b4 _ Q K39 K104 ih hK39 hK104 l3 l5 l6 C h
def p_X5_readTaken (a1 : Int32) (t2 : Nat) (a3 : Int32) (b4 : Bool) (C : cS) (Q : Int32 → cS → Prop) : Prop :=
  ∃ nz30 : Nat, w_X5_readTaken_6 t2 b4 Q (fun lz24 Cz25 => Q (lz24 + 1) Cz25) (fun lz26 Cz27 => p_X5_stands lz26 5 Cz27 (fun rz29 Cz28 => Q (lz26 + 1) Cz28)) nz30 a3 a1 0 C
set_option maxRecDepth 100000 in
set_option maxHeartbeats 4000000 in
theorem t_X5_readTaken (tg : Bool) (M : mS) (o : Nat → Int64) (X : List va_E) (a1 : Int32) (t2 : Nat) (a3 : Int32) (b4 : Bool) (C : cS) (Q : Int32 → cS → Prop) (h : p_X5_readTaken a1 t2 a3 b4 C Q) : z_M q_X5_readTaken tg [.ref 202, .int a1, .ref (30 + t2), .int a3, .ref (200 + pO b4)] (wz C M o X) (zc_i M o X Q) := by
  unfold p_X5_readTaken at h
  refine z_enter (by decide) (Nat.le_of_ble_eq_true rfl) ?_
  refine z_iload_n 1 1 dX5_readTaken_0 rfl rfl ?_
  refine z_istore [(5, .int a1), (0, .ref 202), (1, .int a1), (2, .ref (30 + t2)), (3, .int a3), (4, .ref (200 + pO b4))] 3 dX5_readTaken_1 (Nat.le_of_ble_eq_true rfl) rfl rfl ?_
  refine z_iconst 0 4 dX5_readTaken_3 rfl rfl ?_
  refine z_istore [(6, .int 0), (5, .int a1), (0, .ref 202), (1, .int a1), (2, .ref (30 + t2)), (3, .int a3), (4, .ref (200 + pO b4))] 6 dX5_readTaken_4 (Nat.le_of_ble_eq_true rfl) rfl rfl ?_
  obtain ⟨nz30, h⟩ := h
  refine z_pick [(3, .int a3), (5, .int a1), (6, .int 0), (0, .ref 202), (2, .ref (30 + t2)), (4, .ref (200 + pO b4))] [5, 1, 0, 2, 4, 6] rfl ?_
  refine tw_X5_readTaken_6 tg M o X t2 b4 Q _ _ (fun lz24 Cz25 h => ?_) (fun lz26 Cz27 h => ?_) nz30 a3 a1 0 C h
  · refine z_iload 0 41 dX5_readTaken_39 rfl rfl ?_
    refine z_iconst 1 42 dX5_readTaken_41 rfl rfl ?_
    refine z_iadd 43 dX5_readTaken_42 rfl ?_
    exact z_iret dX5_readTaken_43 rfl ⟨Nat.le_refl _, Nat.le_refl _⟩ ⟨lz24 + 1, Cz25, rfl, rfl, h⟩
  · refine z_aload_n 1 105 dX5_readTaken_104 rfl rfl ?_
    refine z_iload 0 107 dX5_readTaken_105 rfl rfl ?_
    refine z_iconst 5 108 dX5_readTaken_107 rfl rfl ?_
    refine z_ciV [.int lz26, .int 5] 111 dX5_readTaken_108 ok_X5_readTaken_57 rfl rfl (Nat.le_of_ble_eq_true rfl) rc_2 ⟨rfl, rfl⟩ ⟨Nat.le_refl _, Nat.le_refl _⟩ rfl (t_X5_stands tg M o X lz26 5 Cz27 _ h) (fun rz29 Cz28 h => ?_)
    refine z_pop rfl 112 dX5_readTaken_111 rfl ?_
    refine z_iload 0 114 dX5_readTaken_112 rfl rfl ?_
    refine z_iconst 1 115 dX5_readTaken_114 rfl rfl ?_
    refine z_iadd 116 dX5_readTaken_115 rfl ?_
    exact z_iret dX5_readTaken_116 rfl ⟨Nat.le_refl _, Nat.le_refl _⟩ ⟨lz26 + 1, Cz28, rfl, rfl, h⟩
def j_X5_readAct_112 (b2 : Bool) (Q : Int32 → cS → Prop) (l4 : Int32) (l5 : Int32) (l6 : Int32) (s0 : Int32) (s1 : Int64) (C : cS) : Prop :=
  vp_in s0 150 ∧ vp_in l5 150 ∧ p_X8_placeAt l4 (c_paU (c_plU C b2 s0 s1) 0 b2 l5 l6) (fun rz19 Cz18 => vp_in l6 26 ∧ p_X5_readTaken (l4 + 1) (z_tkx.getD l6.toNatClampNeg 0) l5 b2 (c_pnS (c_paU Cz18 2 b2 l5 rz19) b2 ((c_pn Cz18 b2) + 1)) (fun rz22 Cz21 => Q rz22 Cz21))
set_option maxRecDepth 100000 in
set_option maxHeartbeats 4000000 in
theorem tj_X5_readAct_112 (tg : Bool) (M : mS) (o : Nat → Int64) (X : List va_E) (b2 : Bool) (Q : Int32 → cS → Prop) (l4 : Int32) (l5 : Int32) (l6 : Int32) (s0 : Int32) (s1 : Int64) (C : cS) (h : j_X5_readAct_112 b2 Q l4 l5 l6 s0 s1 C) : z_go q_X5_readAct tg 112 [(4, .int l4), (5, .int l5), (6, .int l6), (0, .ref 202), (2, .ref (200 + pO b2))] [.long s1, .int s0, .ref (201 + 3 + pO b2)] (wz C M o X) 0 0 (zc_i M o X Q) := by
  unfold j_X5_readAct_112 at h
  obtain ⟨hbz16, h⟩ := h
  refine pp3 113 dX5_readAct_112 hbz16 rfl ?_
  refine z_aload_n 4 114 dX5_readAct_113 rfl rfl ?_
  refine gr_p0 117 dX5_readAct_114 of_X5_72 rfl ?_
  refine z_iload 1 119 dX5_readAct_117 rfl rfl ?_
  refine z_iload 2 121 dX5_readAct_119 rfl rfl ?_
  obtain ⟨hbz17, h⟩ := h
  refine pp0 122 dX5_readAct_121 hbz17 rfl ?_
  refine z_aload_n 4 123 dX5_readAct_122 rfl rfl ?_
  refine gr_p2 126 dX5_readAct_123 of_X5_76 rfl ?_
  refine z_iload 1 128 dX5_readAct_126 rfl rfl ?_
  refine z_aload_n 3 129 dX5_readAct_128 rfl rfl ?_
  refine gr_2_0 132 dX5_readAct_129 of_X5_12 rfl ?_
  refine z_iload 0 134 dX5_readAct_132 rfl rfl ?_
  refine z_ciV [.int l4] 137 dX5_readAct_134 ok_X5_readAct_79 rfl rfl (Nat.le_of_ble_eq_true rfl) rc_3 ⟨rfl, rfl⟩ ⟨Nat.le_refl _, Nat.le_refl _⟩ rfl (t_X8_placeAt tg M o X l4 (c_paU (c_plU C b2 s0 s1) 0 b2 l5 l6) _ h) (fun rz19 Cz18 h => ?_)
  refine pp2 138 dX5_readAct_137 hbz17 rfl ?_
  refine z_aload_n 4 139 dX5_readAct_138 rfl rfl ?_
  refine z_dup rfl 140 dX5_readAct_139 rfl ?_
  refine gpc (c_pn Cz18 b2) 143 dX5_readAct_140 of_X5_22 rfl rfl ?_
  refine z_iconst 1 144 dX5_readAct_143 rfl rfl ?_
  refine z_iadd 145 dX5_readAct_144 rfl ?_
  refine ppc 148 dX5_readAct_145 op_X5_22 rfl ?_
  refine z_aload_n 3 149 dX5_readAct_148 rfl rfl ?_
  refine z_iload 0 151 dX5_readAct_149 rfl rfl ?_
  refine z_iconst 1 152 dX5_readAct_151 rfl rfl ?_
  refine z_iadd 153 dX5_readAct_152 rfl ?_
  refine z_getsN (.ref 1) 156 dX5_readAct_153 (List.mem_of_getElem? (i := 0) rfl) (List.mem_of_getElem? (i := 1) rfl) rfl ?_
  refine z_iload 2 158 dX5_readAct_156 rfl rfl ?_
  obtain ⟨hbz20, h⟩ := h
  refine z_taald 0 159 dX5_readAct_158 (List.mem_of_getElem? (i := 0) rfl) (Nat.lt_succ_self 0) rfl hbz20 rfl ?_
  refine z_getX l6.toNatClampNeg 162 dX5_readAct_159 (List.mem_of_getElem? (i := 2) rfl) (z_inlt hbz20) rfl ol_X5_86 rfl ?_
  refine z_iload 1 164 dX5_readAct_162 rfl rfl ?_
  refine z_aload_n 4 165 dX5_readAct_164 rfl rfl ?_
  refine z_ciV [.int (l4 + 1), .ref (30 + (z_tkx.getD l6.toNatClampNeg 0)), .int l5, .ref (200 + pO b2)] 168 dX5_readAct_165 ok_X5_readAct_92 rfl rfl (Nat.le_of_ble_eq_true rfl) rc_2 ⟨rfl, rfl⟩ ⟨Nat.le_refl _, Nat.le_refl _⟩ rfl (t_X5_readTaken tg M o X (l4 + 1) (z_tkx.getD l6.toNatClampNeg 0) l5 b2 (c_pnS (c_paU Cz18 2 b2 l5 rz19) b2 ((c_pn Cz18 b2) + 1)) _ h) (fun rz22 Cz21 h => ?_)
  exact z_iret dX5_readAct_168 rfl ⟨Nat.le_refl _, Nat.le_refl _⟩ ⟨rz22, Cz21, rfl, rfl, h⟩
def j_X5_readAct_59 (b2 : Bool) (Q : Int32 → cS → Prop) (l1 : Int32) (l3 : Int32) (l4 : Int32) (C : cS) : Prop :=
  p_X5_stands l4 2 C (fun rz10 Cz9 => ((¬ rz10 = 0 → ∀ vz12 : Int32, vz12 = c_pn Cz9 b2 → p_X8_valueAt l4 Cz9 (fun rz14 Cz13 => ((l3 = 0 → j_X5_readAct_112 b2 Q l4 vz12 rz14 vz12 0 Cz13) ∧ (¬ l3 = 0 → p_X8_nameAt l1 Cz13 (fun rz24 Cz23 => j_X5_readAct_112 b2 Q l4 vz12 rz14 vz12 rz24 Cz23))))) ∧ (rz10 = 0 → Q (l1 + 1) Cz9)))
set_option maxRecDepth 100000 in
set_option maxHeartbeats 4000000 in
theorem tj_X5_readAct_59 (tg : Bool) (M : mS) (o : Nat → Int64) (X : List va_E) (b2 : Bool) (Q : Int32 → cS → Prop) (l1 : Int32) (l3 : Int32) (l4 : Int32) (C : cS) (h : j_X5_readAct_59 b2 Q l1 l3 l4 C) : z_go q_X5_readAct tg 59 [(1, .int l1), (3, .int l3), (4, .int l4), (0, .ref 202), (2, .ref (200 + pO b2))] [] (wz C M o X) 0 0 (zc_i M o X Q) := by
  unfold j_X5_readAct_59 at h
  refine z_aload_n 3 60 dX5_readAct_59 rfl rfl ?_
  refine z_iload 2 62 dX5_readAct_60 rfl rfl ?_
  refine z_iconst 2 63 dX5_readAct_62 rfl rfl ?_
  refine z_ciV [.int l4, .int 2] 66 dX5_readAct_63 ok_X5_readAct_57 rfl rfl (Nat.le_of_ble_eq_true rfl) rc_2 ⟨rfl, rfl⟩ ⟨Nat.le_refl _, Nat.le_refl _⟩ rfl (t_X5_stands tg M o X l4 2 C _ h) (fun rz10 Cz9 h => ?_)
  refine z_if_ne 73 69 dX5_readAct_66 rfl rfl (fun hcz11 => ?_) (fun hcz11 => ?_)
  · replace h := h.1 hcz11
    refine z_aload_n 4 74 dX5_readAct_73 rfl rfl ?_
    refine gpc (c_pn Cz9 b2) 77 dX5_readAct_74 of_X5_22 rfl rfl ?_
    refine z_topi (fun vz12 hvz12 => ?_)
    replace h := h vz12 hvz12
    refine z_istore [(5, .int vz12), (1, .int l1), (3, .int l3), (4, .int l4), (0, .ref 202), (2, .ref (200 + pO b2))] 79 dX5_readAct_77 (Nat.le_of_ble_eq_true rfl) rfl rfl ?_
    refine z_aload_n 4 80 dX5_readAct_79 rfl rfl ?_
    refine gr_2_0 83 dX5_readAct_80 of_X5_12 rfl ?_
    refine z_iload 3 85 dX5_readAct_83 rfl rfl ?_
    refine z_ciV [.int l4] 88 dX5_readAct_85 ok_X5_readAct_61 rfl rfl (Nat.le_of_ble_eq_true rfl) rc_3 ⟨rfl, rfl⟩ ⟨Nat.le_refl _, Nat.le_refl _⟩ rfl (t_X8_valueAt tg M o X l4 Cz9 _ h) (fun rz14 Cz13 h => ?_)
    refine z_istore [(6, .int rz14), (5, .int vz12), (1, .int l1), (3, .int l3), (4, .int l4), (0, .ref 202), (2, .ref (200 + pO b2))] 90 dX5_readAct_88 (Nat.le_of_ble_eq_true rfl) rfl rfl ?_
    refine z_aload_n 6 91 dX5_readAct_90 rfl rfl ?_
    refine gr_p3 94 dX5_readAct_91 of_X5_64 rfl ?_
    refine z_iload 1 96 dX5_readAct_94 rfl rfl ?_
    refine z_iload_n 3 97 dX5_readAct_96 rfl rfl ?_
    refine z_if_eq 111 100 dX5_readAct_97 rfl rfl (fun hcz15 => ?_) (fun hcz15 => ?_)
    · replace h := h.1 hcz15
      refine z_lconst 0 112 dX5_readAct_111 rfl rfl ?_
      refine z_pick [(4, .int l4), (5, .int vz12), (6, .int rz14), (0, .ref 202), (2, .ref (200 + pO b2))] [4, 1, 0, 5, 6] rfl ?_
      exact tj_X5_readAct_112 tg M o X b2 Q l4 vz12 rz14 vz12 0 Cz13 h
    · replace h := h.2 hcz15
      refine z_aload_n 5 101 dX5_readAct_100 rfl rfl ?_
      refine gr_2_0 104 dX5_readAct_101 of_X5_12 rfl ?_
      refine z_iload_n 2 105 dX5_readAct_104 rfl rfl ?_
      refine z_clV [.int l1] 108 dX5_readAct_105 ok_X5_readAct_68 rfl rfl (Nat.le_of_ble_eq_true rfl) rc_3 ⟨rfl, rfl⟩ ⟨Nat.le_refl _, Nat.le_refl _⟩ rfl (t_X8_nameAt tg M o X l1 Cz13 _ h) (fun rz24 Cz23 h => ?_)
      refine z_goto 112 dX5_readAct_108 rfl ?_
      refine z_pick [(4, .int l4), (5, .int vz12), (6, .int rz14), (0, .ref 202), (2, .ref (200 + pO b2))] [4, 1, 0, 5, 6] rfl ?_
      exact tj_X5_readAct_112 tg M o X b2 Q l4 vz12 rz14 vz12 rz24 Cz23 h
  · replace h := h.2 hcz11
    refine z_iload_n 0 70 dX5_readAct_69 rfl rfl ?_
    refine z_iconst 1 71 dX5_readAct_70 rfl rfl ?_
    refine z_iadd 72 dX5_readAct_71 rfl ?_
    exact z_iret dX5_readAct_72 rfl ⟨Nat.le_refl _, Nat.le_refl _⟩ ⟨l1 + 1, Cz9, rfl, rfl, h⟩
def j_X5_readAct_42 (b2 : Bool) (Q : Int32 → cS → Prop) (l1 : Int32) (l3 : Int32) (s0 : Int32) (C : cS) : Prop :=
  ((l3 = 0 → j_X5_readAct_59 b2 Q l1 l3 s0 C) ∧ (¬ l3 = 0 → p_X5_stands (l1 + 1) 4 C (fun rz26 Cz25 => ((rz26 = 0 → Q (l1 + 1) Cz25) ∧ (¬ rz26 = 0 → j_X5_readAct_59 b2 Q l1 l3 s0 Cz25)))))
set_option maxRecDepth 100000 in
set_option maxHeartbeats 4000000 in
theorem tj_X5_readAct_42 (tg : Bool) (M : mS) (o : Nat → Int64) (X : List va_E) (b2 : Bool) (Q : Int32 → cS → Prop) (l1 : Int32) (l3 : Int32) (s0 : Int32) (C : cS) (h : j_X5_readAct_42 b2 Q l1 l3 s0 C) : z_go q_X5_readAct tg 42 [(1, .int l1), (3, .int l3), (0, .ref 202), (2, .ref (200 + pO b2))] [.int s0] (wz C M o X) 0 0 (zc_i M o X Q) := by
  unfold j_X5_readAct_42 at h
  refine z_istore [(4, .int s0), (1, .int l1), (3, .int l3), (0, .ref 202), (2, .ref (200 + pO b2))] 44 dX5_readAct_42 (Nat.le_of_ble_eq_true rfl) rfl rfl ?_
  refine z_iload_n 2 45 dX5_readAct_44 rfl rfl ?_
  refine z_if_eq 59 48 dX5_readAct_45 rfl rfl (fun hcz8 => ?_) (fun hcz8 => ?_)
  · replace h := h.1 hcz8
    refine z_pick [(1, .int l1), (3, .int l3), (4, .int s0), (0, .ref 202), (2, .ref (200 + pO b2))] [1, 2, 0, 3, 4] rfl ?_
    exact tj_X5_readAct_59 tg M o X b2 Q l1 l3 s0 C h
  · replace h := h.2 hcz8
    refine z_aload_n 3 49 dX5_readAct_48 rfl rfl ?_
    refine z_iload_n 1 50 dX5_readAct_49 rfl rfl ?_
    refine z_iconst 1 51 dX5_readAct_50 rfl rfl ?_
    refine z_iadd 52 dX5_readAct_51 rfl ?_
    refine z_iconst 4 53 dX5_readAct_52 rfl rfl ?_
    refine z_ciV [.int (l1 + 1), .int 4] 56 dX5_readAct_53 ok_X5_readAct_57 rfl rfl (Nat.le_of_ble_eq_true rfl) rc_2 ⟨rfl, rfl⟩ ⟨Nat.le_refl _, Nat.le_refl _⟩ rfl (t_X5_stands tg M o X (l1 + 1) 4 C _ h) (fun rz26 Cz25 h => ?_)
    refine z_if_eq 69 59 dX5_readAct_56 rfl rfl (fun hcz27 => ?_) (fun hcz27 => ?_)
    · replace h := h.1 hcz27
      refine z_iload_n 1 70 dX5_readAct_69 rfl rfl ?_
      refine z_iconst 1 71 dX5_readAct_70 rfl rfl ?_
      refine z_iadd 72 dX5_readAct_71 rfl ?_
      exact z_iret dX5_readAct_72 rfl ⟨Nat.le_refl _, Nat.le_refl _⟩ ⟨l1 + 1, Cz25, rfl, rfl, h⟩
    · replace h := h.2 hcz27
      refine z_pick [(1, .int l1), (3, .int l3), (4, .int s0), (0, .ref 202), (2, .ref (200 + pO b2))] [1, 2, 0, 3, 4] rfl ?_
      exact tj_X5_readAct_59 tg M o X b2 Q l1 l3 s0 Cz25 h
def j_X5_readAct_30 (b2 : Bool) (Q : Int32 → cS → Prop) (l1 : Int32) (s0 : Int32) (C : cS) : Prop :=
  ((s0 = 0 → j_X5_readAct_42 b2 Q l1 s0 l1 C) ∧ (¬ s0 = 0 → j_X5_readAct_42 b2 Q l1 s0 (l1 + 2) C))
set_option maxRecDepth 100000 in
set_option maxHeartbeats 4000000 in
theorem tj_X5_readAct_30 (tg : Bool) (M : mS) (o : Nat → Int64) (X : List va_E) (b2 : Bool) (Q : Int32 → cS → Prop) (l1 : Int32) (s0 : Int32) (C : cS) (h : j_X5_readAct_30 b2 Q l1 s0 C) : z_go q_X5_readAct tg 30 [(1, .int l1), (0, .ref 202), (2, .ref (200 + pO b2))] [.int s0] (wz C M o X) 0 0 (zc_i M o X Q) := by
  unfold j_X5_readAct_30 at h
  refine z_istore_n [(3, .int s0), (1, .int l1), (0, .ref 202), (2, .ref (200 + pO b2))] 31 dX5_readAct_30 (Nat.le_of_ble_eq_true rfl) rfl rfl ?_
  refine z_iload_n 0 32 dX5_readAct_31 rfl rfl ?_
  refine z_if_eq 41 35 dX5_readAct_32 rfl rfl (fun hcz7 => ?_) (fun hcz7 => ?_)
  · replace h := h.1 hcz7
    refine z_iload_n 1 42 dX5_readAct_41 rfl rfl ?_
    refine z_pick [(1, .int l1), (3, .int s0), (0, .ref 202), (2, .ref (200 + pO b2))] [1, 0, 2, 3] rfl ?_
    exact tj_X5_readAct_42 tg M o X b2 Q l1 s0 l1 C h
  · replace h := h.2 hcz7
    refine z_iload_n 1 36 dX5_readAct_35 rfl rfl ?_
    refine z_iconst 2 37 dX5_readAct_36 rfl rfl ?_
    refine z_iadd 38 dX5_readAct_37 rfl ?_
    refine z_goto 42 dX5_readAct_38 rfl ?_
    refine z_pick [(1, .int l1), (3, .int s0), (0, .ref 202), (2, .ref (200 + pO b2))] [1, 0, 2, 3] rfl ?_
    exact tj_X5_readAct_42 tg M o X b2 Q l1 s0 (l1 + 2) C h
def p_X5_readAct (a1 : Int32) (b2 : Bool) (C : cS) (Q : Int32 → cS → Prop) : Prop :=
  p_X5_mayBegin a1 b2 C (fun rz2 Cz1 => ((¬ rz2 = 0 → p_X8_kindAt a1 Cz1 (fun rz5 Cz4 => ((¬ rz5 = 3 → j_X5_readAct_30 b2 Q a1 0 Cz4) ∧ (rz5 = 3 → j_X5_readAct_30 b2 Q a1 1 Cz4)))) ∧ (rz2 = 0 → Q (a1 + 1) Cz1)))
set_option maxRecDepth 100000 in
set_option maxHeartbeats 4000000 in
theorem t_X5_readAct (tg : Bool) (M : mS) (o : Nat → Int64) (X : List va_E) (a1 : Int32) (b2 : Bool) (C : cS) (Q : Int32 → cS → Prop) (h : p_X5_readAct a1 b2 C Q) : z_M q_X5_readAct tg [.ref 202, .int a1, .ref (200 + pO b2)] (wz C M o X) (zc_i M o X Q) := by
  unfold p_X5_readAct at h
  refine z_enter (by decide) (Nat.le_of_ble_eq_true rfl) ?_
  refine z_aload_n 0 1 dX5_readAct_0 rfl rfl ?_
  refine z_iload_n 1 2 dX5_readAct_1 rfl rfl ?_
  refine z_aload_n 2 3 dX5_readAct_2 rfl rfl ?_
  refine z_ciV [.int a1, .ref (200 + pO b2)] 6 dX5_readAct_3 ok_X5_readAct_49 rfl rfl (Nat.le_of_ble_eq_true rfl) rc_2 ⟨rfl, rfl⟩ ⟨Nat.le_refl _, Nat.le_refl _⟩ rfl (t_X5_mayBegin tg M o X a1 b2 C _ h) (fun rz2 Cz1 h => ?_)
  refine z_if_ne 13 9 dX5_readAct_6 rfl rfl (fun hcz3 => ?_) (fun hcz3 => ?_)
  · replace h := h.1 hcz3
    refine z_aload_n 0 14 dX5_readAct_13 rfl rfl ?_
    refine gr_2_0 17 dX5_readAct_14 of_X5_12 rfl ?_
    refine z_iload_n 1 18 dX5_readAct_17 rfl rfl ?_
    refine z_ciV [.int a1] 21 dX5_readAct_18 ok_X5_readAct_53 rfl rfl (Nat.le_of_ble_eq_true rfl) rc_3 ⟨rfl, rfl⟩ ⟨Nat.le_refl _, Nat.le_refl _⟩ rfl (t_X8_kindAt tg M o X a1 Cz1 _ h) (fun rz5 Cz4 h => ?_)
    refine z_iconst 3 22 dX5_readAct_21 rfl rfl ?_
    refine z_icmp_ne 29 25 dX5_readAct_22 rfl rfl (fun hcz6 => ?_) (fun hcz6 => ?_)
    · replace h := h.1 hcz6
      refine z_iconst 0 30 dX5_readAct_29 rfl rfl ?_
      refine z_pick [(1, .int a1), (0, .ref 202), (2, .ref (200 + pO b2))] [1, 0, 2] rfl ?_
      exact tj_X5_readAct_30 tg M o X b2 Q a1 0 Cz4 h
    · replace h := h.2 hcz6
      refine z_iconst 1 26 dX5_readAct_25 rfl rfl ?_
      refine z_goto 30 dX5_readAct_26 rfl ?_
      refine z_pick [(1, .int a1), (0, .ref 202), (2, .ref (200 + pO b2))] [1, 0, 2] rfl ?_
      exact tj_X5_readAct_30 tg M o X b2 Q a1 1 Cz4 h
  · replace h := h.2 hcz3
    refine z_iload_n 1 10 dX5_readAct_9 rfl rfl ?_
    refine z_iconst 1 11 dX5_readAct_10 rfl rfl ?_
    refine z_iadd 12 dX5_readAct_11 rfl ?_
    exact z_iret dX5_readAct_12 rfl ⟨Nat.le_refl _, Nat.le_refl _⟩ ⟨a1 + 1, Cz1, rfl, rfl, h⟩
def p_X5_bind (b1 : Bool) (a2 : Int32) (C : cS) (Q : cS → Prop) : Prop :=
  vp_in a2 450 ∧ ∀ vz2 : Int32, vz2 = (c_pa C 1 b1) a2.toNatClampNeg → p_X8_nameAt vz2 C (fun rz4 Cz3 => p_X4_actLabelled b1 rz4 Cz3 (fun rz6 Cz5 => ((¬ rz6 = (-1) → Q (c_paU Cz5 1 b1 a2 rz6)) ∧ (rz6 = (-1) → p_X5_refuse 4 vz2 Cz5 (fun rz9 Cz8 => Q Cz8)))))
set_option maxRecDepth 100000 in
set_option maxHeartbeats 4000000 in
theorem t_X5_bind (tg : Bool) (M : mS) (o : Nat → Int64) (X : List va_E) (b1 : Bool) (a2 : Int32) (C : cS) (Q : cS → Prop) (h : p_X5_bind b1 a2 C Q) : z_M q_X5_bind tg [.ref 202, .ref (200 + pO b1), .int a2] (wz C M o X) (zc_v M o X Q) := by
  unfold p_X5_bind at h
  refine z_enter (by decide) (Nat.le_of_ble_eq_true rfl) ?_
  refine z_aload_n 1 1 dX5_bind_0 rfl rfl ?_
  refine gr_p1 4 dX5_bind_1 of_X5_117 rfl ?_
  refine z_iload_n 2 5 dX5_bind_4 rfl rfl ?_
  obtain ⟨hbz1, h⟩ := h
  refine gp1 ((c_pa C 1 b1) a2.toNatClampNeg) 6 dX5_bind_5 hbz1 rfl rfl ?_
  refine z_topi (fun vz2 hvz2 => ?_)
  replace h := h vz2 hvz2
  refine z_istore_n [(3, .int vz2), (0, .ref 202), (1, .ref (200 + pO b1)), (2, .int a2)] 7 dX5_bind_6 (Nat.le_of_ble_eq_true rfl) rfl rfl ?_
  refine z_aload_n 2 8 dX5_bind_7 rfl rfl ?_
  refine z_aload_n 1 9 dX5_bind_8 rfl rfl ?_
  refine gr_2_0 12 dX5_bind_9 of_X5_12 rfl ?_
  refine z_iload_n 0 13 dX5_bind_12 rfl rfl ?_
  refine z_clV [.int vz2] 16 dX5_bind_13 ok_X5_bind_68 rfl rfl (Nat.le_of_ble_eq_true rfl) rc_3 ⟨rfl, rfl⟩ ⟨Nat.le_refl _, Nat.le_refl _⟩ rfl (t_X8_nameAt tg M o X vz2 C _ h) (fun rz4 Cz3 h => ?_)
  refine z_ciV [.long rz4] 19 dX5_bind_16 ok_X5_bind_99 rfl rfl (Nat.le_of_ble_eq_true rfl) (rc_p b1) ⟨rfl, rfl⟩ ⟨Nat.le_refl _, Nat.le_refl _⟩ rfl (t_X4_actLabelled tg M o X b1 rz4 Cz3 _ h) (fun rz6 Cz5 h => ?_)
  refine z_istore [(4, .int rz6), (3, .int vz2), (0, .ref 202), (1, .ref (200 + pO b1)), (2, .int a2)] 21 dX5_bind_19 (Nat.le_of_ble_eq_true rfl) rfl rfl ?_
  refine z_iload 0 23 dX5_bind_21 rfl rfl ?_
  refine z_iconst (-1) 24 dX5_bind_23 rfl rfl ?_
  refine z_icmp_ne 37 27 dX5_bind_24 rfl rfl (fun hcz7 => ?_) (fun hcz7 => ?_)
  · replace h := h.1 hcz7
    refine z_aload_n 3 38 dX5_bind_37 rfl rfl ?_
    refine gr_p1 41 dX5_bind_38 of_X5_117 rfl ?_
    refine z_iload_n 4 42 dX5_bind_41 rfl rfl ?_
    refine z_iload 0 44 dX5_bind_42 rfl rfl ?_
    refine pp1 45 dX5_bind_44 hbz1 rfl ?_
    exact z_vret dX5_bind_45 rfl ⟨Nat.le_refl _, Nat.le_refl _⟩ ⟨(c_paU Cz5 1 b1 a2 rz6), rfl, rfl, h⟩
  · replace h := h.2 hcz7
    refine z_aload_n 2 28 dX5_bind_27 rfl rfl ?_
    refine z_iconst 4 29 dX5_bind_28 rfl rfl ?_
    refine z_iload_n 1 30 dX5_bind_29 rfl rfl ?_
    refine z_ciV [.int 4, .int vz2] 33 dX5_bind_30 ok_X5_bind_96 rfl rfl (Nat.le_of_ble_eq_true rfl) rc_2 ⟨rfl, rfl⟩ ⟨Nat.le_refl _, Nat.le_refl _⟩ rfl (t_X5_refuse tg M o X 4 vz2 Cz5 _ h) (fun rz9 Cz8 h => ?_)
    refine z_pop rfl 34 dX5_bind_33 rfl ?_
    refine z_goto 45 dX5_bind_34 rfl ?_
    exact z_vret dX5_bind_45 rfl ⟨Nat.le_refl _, Nat.le_refl _⟩ ⟨Cz8, rfl, rfl, h⟩
def b_X5_bindLabels_34 (b1 : Bool) (R9 : Int32 → Nat → Int32 → cS → Prop) (Q : cS → Prop) (K79 : Int32 → cS → Prop) (l2 : Int32) (l3 : Nat) (l4 : Int32) (C : cS) : Prop :=
  l3 < 40 ∧ (((nI (z_tlen l3)) ≤ l4 → K79 l2 C) ∧ (¬ (nI (z_tlen l3)) ≤ l4 → ((3 ≤ l4 → K79 l2 C) ∧ (¬ 3 ≤ l4 → vp_in l4 (z_tlen l3) ∧ p_X5_tokenFor (z_tchr l3 l4.toNatClampNeg) C (fun rz13 Cz12 => ((¬ rz13 = 3 → ∀ vz15 : Int32, vz15 = l4 + 1 → R9 l2 l3 vz15 Cz12) ∧ (rz13 = 3 → p_X5_bind b1 ((l2 * 3) + l4) Cz12 (fun Cz16 => ∀ vz17 : Int32, vz17 = l4 + 1 → R9 l2 l3 vz17 Cz16))))))))
def w_X5_bindLabels_34 (b1 : Bool) (Q : cS → Prop) (K79 : Int32 → cS → Prop) : Nat → Int32 → Nat → Int32 → cS → Prop
 | 0 => fun _ _ _ _ => False
 | n + 1 => fun l2 l3 l4 C => b_X5_bindLabels_34 b1 (w_X5_bindLabels_34 b1 Q K79 n) Q K79 l2 l3 l4 C
set_option maxRecDepth 100000 in
set_option maxHeartbeats 4000000 in
theorem tb_X5_bindLabels_34 (tg : Bool) (M : mS) (o : Nat → Int64) (X : List va_E) (b1 : Bool) (R9 : Int32 → Nat → Int32 → cS → Prop) (Q : cS → Prop) (K79 : Int32 → cS → Prop) (hR9 : ∀ (l2 : Int32) (l3 : Nat) (l4 : Int32) (C : cS), R9 l2 l3 l4 C → z_go q_X5_bindLabels tg 34 [(2, .int l2), (3, .ref (30 + l3)), (4, .int l4), (0, .ref 202), (1, .ref (200 + pO b1))] [] (wz C M o X) 0 0 (zc_v M o X Q)) (hK79 : ∀ (l2 : Int32) (C : cS), K79 l2 C → z_go q_X5_bindLabels tg 79 [(2, .int l2), (0, .ref 202), (1, .ref (200 + pO b1))] [] (wz C M o X) 0 0 (zc_v M o X Q)) (l2 : Int32) (l3 : Nat) (l4 : Int32) (C : cS) (h : b_X5_bindLabels_34 b1 R9 Q K79 l2 l3 l4 C) : z_go q_X5_bindLabels tg 34 [(2, .int l2), (3, .ref (30 + l3)), (4, .int l4), (0, .ref 202), (1, .ref (200 + pO b1))] [] (wz C M o X) 0 0 (zc_v M o X Q) := by
  unfold b_X5_bindLabels_34 at h
  refine z_iload 2 36 dX5_bindLabels_34 rfl rfl ?_
  refine z_aload_n 1 37 dX5_bindLabels_36 rfl rfl ?_
  obtain ⟨hqz6, h⟩ := h
  refine z_kiV [] 40 dX5_bindLabels_37 ok_X5_bindLabels_103 rfl rfl (Nat.le_of_ble_eq_true rfl) (z_recvX l3 (List.mem_of_getElem? (i := 1) rfl) hqz6 rfl) ⟨rfl, rfl⟩ ⟨Nat.le_refl _, Nat.le_refl _⟩ rfl (t_len tg l3 _ hqz6) (fun rz7 hrz7 => ?_)
  subst hrz7
  refine z_icmp_ge 79 43 dX5_bindLabels_40 rfl rfl (fun hcz8 => ?_) (fun hcz8 => ?_)
  · replace h := h.1 hcz8
    refine z_pick [(2, .int l2), (0, .ref 202), (1, .ref (200 + pO b1))] [0, 3, 4] rfl ?_
    exact hK79 l2 C h
  · replace h := h.2 hcz8
    refine z_iload 2 45 dX5_bindLabels_43 rfl rfl ?_
    refine z_iconst 3 46 dX5_bindLabels_45 rfl rfl ?_
    refine z_icmp_ge 79 49 dX5_bindLabels_46 rfl rfl (fun hcz9 => ?_) (fun hcz9 => ?_)
    · replace h := h.1 hcz9
      refine z_pick [(2, .int l2), (0, .ref 202), (1, .ref (200 + pO b1))] [0, 3, 4] rfl ?_
      exact hK79 l2 C h
    · replace h := h.2 hcz9
      refine z_aload_n 1 50 dX5_bindLabels_49 rfl rfl ?_
      refine z_iload 2 52 dX5_bindLabels_50 rfl rfl ?_
      obtain ⟨hbz10, h⟩ := h
      refine z_kiV [.int l4] 55 dX5_bindLabels_52 ok_X5_bindLabels_109 rfl rfl (Nat.le_of_ble_eq_true rfl) (z_recvX l3 (List.mem_of_getElem? (i := 1) rfl) hqz6 rfl) ⟨rfl, rfl⟩ ⟨Nat.le_refl _, Nat.le_refl _⟩ rfl (t_chr tg l3 l4 _ hqz6 hbz10) (fun rz11 hrz11 => ?_)
      subst hrz11
      refine z_ciS [.int (z_tchr l3 l4.toNatClampNeg)] 58 dX5_bindLabels_55 ok_X5_bindLabels_113 rfl rfl (Nat.le_of_ble_eq_true rfl) ⟨rfl, rfl⟩ ⟨Nat.le_refl _, Nat.le_refl _⟩ rfl (t_X5_tokenFor tg M o X (z_tchr l3 l4.toNatClampNeg) C _ h) (fun rz13 Cz12 h => ?_)
      refine z_iconst 3 59 dX5_bindLabels_58 rfl rfl ?_
      refine z_icmp_ne 73 62 dX5_bindLabels_59 rfl rfl (fun hcz14 => ?_) (fun hcz14 => ?_)
      · replace h := h.1 hcz14
        obtain ⟨vz15, hvz15⟩ : ∃ v : Int32, v = l4 + 1 := ⟨_, rfl⟩
        replace h := h vz15 hvz15
        refine z_iinc vz15 [(4, .int vz15), (2, .int l2), (3, .ref (30 + l3)), (0, .ref 202), (1, .ref (200 + pO b1))] 2 76 dX5_bindLabels_73 rfl hvz15.symm (Nat.le_of_ble_eq_true rfl) rfl rfl ?_
        refine z_goto 34 dX5_bindLabels_76 rfl ?_
        refine z_pick [(2, .int l2), (3, .ref (30 + l3)), (4, .int vz15), (0, .ref 202), (1, .ref (200 + pO b1))] [1, 2, 0, 3, 4] rfl ?_
        exact hR9 l2 l3 vz15 Cz12 h
      · replace h := h.2 hcz14
        refine z_aload_n 3 63 dX5_bindLabels_62 rfl rfl ?_
        refine z_aload_n 4 64 dX5_bindLabels_63 rfl rfl ?_
        refine z_iload_n 0 65 dX5_bindLabels_64 rfl rfl ?_
        refine z_iconst 3 66 dX5_bindLabels_65 rfl rfl ?_
        refine z_imul 67 dX5_bindLabels_66 rfl ?_
        refine z_iload 2 69 dX5_bindLabels_67 rfl rfl ?_
        refine z_iadd 70 dX5_bindLabels_69 rfl ?_
        refine z_cvV [.ref (200 + pO b1), .int ((l2 * 3) + l4)] 73 dX5_bindLabels_70 ok_X5_bindLabels_120 rfl rfl (Nat.le_of_ble_eq_true rfl) rc_2 ⟨rfl, rfl⟩ ⟨Nat.le_refl _, Nat.le_refl _⟩ rfl (t_X5_bind tg M o X b1 ((l2 * 3) + l4) Cz12 _ h) (fun Cz16 h => ?_)
        obtain ⟨vz17, hvz17⟩ : ∃ v : Int32, v = l4 + 1 := ⟨_, rfl⟩
        replace h := h vz17 hvz17
        refine z_iinc vz17 [(4, .int vz17), (2, .int l2), (3, .ref (30 + l3)), (0, .ref 202), (1, .ref (200 + pO b1))] 2 76 dX5_bindLabels_73 rfl hvz17.symm (Nat.le_of_ble_eq_true rfl) rfl rfl ?_
        refine z_goto 34 dX5_bindLabels_76 rfl ?_
        refine z_pick [(2, .int l2), (3, .ref (30 + l3)), (4, .int vz17), (0, .ref 202), (1, .ref (200 + pO b1))] [1, 2, 0, 3, 4] rfl ?_
        exact hR9 l2 l3 vz17 Cz16 h
theorem tw_X5_bindLabels_34 (tg : Bool) (M : mS) (o : Nat → Int64) (X : List va_E) (b1 : Bool) (Q : cS → Prop) (K79 : Int32 → cS → Prop) (hK79 : ∀ (l2 : Int32) (C : cS), K79 l2 C → z_go q_X5_bindLabels tg 79 [(2, .int l2), (0, .ref 202), (1, .ref (200 + pO b1))] [] (wz C M o X) 0 0 (zc_v M o X Q)) : ∀ (n : Nat) (l2 : Int32) (l3 : Nat) (l4 : Int32) (C : cS), w_X5_bindLabels_34 b1 Q K79 n l2 l3 l4 C → z_go q_X5_bindLabels tg 34 [(2, .int l2), (3, .ref (30 + l3)), (4, .int l4), (0, .ref 202), (1, .ref (200 + pO b1))] [] (wz C M o X) 0 0 (zc_v M o X Q) := by
  intro n
  induction n with
  | zero => intro l2 l3 l4 C h; exact h.elim
  | succ n ih => intro l2 l3 l4 C h; exact tb_X5_bindLabels_34 tg M o X b1 _ Q K79 ih hK79 l2 l3 l4 C h
def b_X5_bindLabels_2 (b1 : Bool) (R9 : Int32 → cS → Prop) (Q : cS → Prop) (K85 : cS → Prop) (l2 : Int32) (C : cS) : Prop :=
  (((c_pn C b1) ≤ l2 → K85 C) ∧ (¬ (c_pn C b1) ≤ l2 → ((¬ (c_i C 3) = 0 → K85 C) ∧ ((c_i C 3) = 0 → vp_in l2 150 ∧ vp_in ((c_pa C 0 b1) l2.toNatClampNeg) 26 ∧ ∀ tz5 : Nat, tz5 = z_tkx.getD (((c_pa C 0 b1) l2.toNatClampNeg).toNatClampNeg) 0 → ∃ nz21 : Nat, w_X5_bindLabels_34 b1 Q (fun lz18 Cz19 => ∀ vz20 : Int32, vz20 = lz18 + 1 → R9 vz20 Cz19) nz21 l2 tz5 0 C))))
def w_X5_bindLabels_2 (b1 : Bool) (Q : cS → Prop) (K85 : cS → Prop) : Nat → Int32 → cS → Prop
 | 0 => fun _ _ => False
 | n + 1 => fun l2 C => b_X5_bindLabels_2 b1 (w_X5_bindLabels_2 b1 Q K85 n) Q K85 l2 C
set_option maxRecDepth 100000 in
set_option maxHeartbeats 4000000 in
theorem tb_X5_bindLabels_2 (tg : Bool) (M : mS) (o : Nat → Int64) (X : List va_E) (b1 : Bool) (R9 : Int32 → cS → Prop) (Q : cS → Prop) (K85 : cS → Prop) (hR9 : ∀ (l2 : Int32) (C : cS), R9 l2 C → z_go q_X5_bindLabels tg 2 [(2, .int l2), (0, .ref 202), (1, .ref (200 + pO b1))] [] (wz C M o X) 0 0 (zc_v M o X Q)) (hK85 : ∀ (C : cS), K85 C → z_go q_X5_bindLabels tg 85 [] [] (wz C M o X) 0 0 (zc_v M o X Q)) (l2 : Int32) (C : cS) (h : b_X5_bindLabels_2 b1 R9 Q K85 l2 C) : z_go q_X5_bindLabels tg 2 [(2, .int l2), (0, .ref 202), (1, .ref (200 + pO b1))] [] (wz C M o X) 0 0 (zc_v M o X Q) := by
  unfold b_X5_bindLabels_2 at h
  refine z_iload_n 0 3 dX5_bindLabels_2 rfl rfl ?_
  refine z_aload_n 2 4 dX5_bindLabels_3 rfl rfl ?_
  refine gpc (c_pn C b1) 7 dX5_bindLabels_4 of_X5_22 rfl rfl ?_
  refine z_icmp_ge 85 10 dX5_bindLabels_7 rfl rfl (fun hcz1 => ?_) (fun hcz1 => ?_)
  · replace h := h.1 hcz1
    refine z_pick [] [] rfl ?_
    exact hK85  C h
  · replace h := h.2 hcz1
    refine z_aload_n 1 11 dX5_bindLabels_10 rfl rfl ?_
    refine gci_3 (c_i C 3) 14 dX5_bindLabels_11 of_X5_18 rfl rfl ?_
    refine z_if_ne 85 17 dX5_bindLabels_14 rfl rfl (fun hcz2 => ?_) (fun hcz2 => ?_)
    · replace h := h.1 hcz2
      refine z_pick [] [] rfl ?_
      exact hK85  C h
    · replace h := h.2 hcz2
      refine z_getsN (.ref 1) 20 dX5_bindLabels_17 (List.mem_of_getElem? (i := 0) rfl) (List.mem_of_getElem? (i := 1) rfl) rfl ?_
      refine z_aload_n 2 21 dX5_bindLabels_20 rfl rfl ?_
      refine gr_p0 24 dX5_bindLabels_21 of_X5_72 rfl ?_
      refine z_iload_n 0 25 dX5_bindLabels_24 rfl rfl ?_
      obtain ⟨hbz3, h⟩ := h
      refine gp0 ((c_pa C 0 b1) l2.toNatClampNeg) 26 dX5_bindLabels_25 hbz3 rfl rfl ?_
      obtain ⟨hbz4, h⟩ := h
      refine z_taald 0 27 dX5_bindLabels_26 (List.mem_of_getElem? (i := 0) rfl) (Nat.lt_succ_self 0) rfl hbz4 rfl ?_
      refine z_getX (((c_pa C 0 b1) l2.toNatClampNeg).toNatClampNeg) 30 dX5_bindLabels_27 (List.mem_of_getElem? (i := 2) rfl) (z_inlt hbz4) rfl ol_X5_86 rfl ?_
      obtain ⟨tz5, htz5⟩ : ∃ t : Nat, t = z_tkx.getD (((c_pa C 0 b1) l2.toNatClampNeg).toNatClampNeg) 0 := ⟨_, rfl⟩
      replace h := h tz5 htz5
      rw [← htz5]
      refine z_astore_n [(3, .ref (30 + tz5)), (2, .int l2), (0, .ref 202), (1, .ref (200 + pO b1))] 31 dX5_bindLabels_30 (Nat.le_of_ble_eq_true rfl) rfl rfl ?_
      refine z_iconst 0 32 dX5_bindLabels_31 rfl rfl ?_
      refine z_istore [(4, .int 0), (3, .ref (30 + tz5)), (2, .int l2), (0, .ref 202), (1, .ref (200 + pO b1))] 34 dX5_bindLabels_32 (Nat.le_of_ble_eq_true rfl) rfl rfl ?_
      obtain ⟨nz21, h⟩ := h
      refine z_pick [(2, .int l2), (3, .ref (30 + tz5)), (4, .int 0), (0, .ref 202), (1, .ref (200 + pO b1))] [2, 1, 0, 3, 4] rfl ?_
      refine tw_X5_bindLabels_34 tg M o X b1 Q _ (fun lz18 Cz19 h => ?_) nz21 l2 tz5 0 C h
      · obtain ⟨vz20, hvz20⟩ : ∃ v : Int32, v = lz18 + 1 := ⟨_, rfl⟩
        replace h := h vz20 hvz20
        refine z_iinc vz20 [(2, .int vz20), (0, .ref 202), (1, .ref (200 + pO b1))] 0 82 dX5_bindLabels_79 rfl hvz20.symm (Nat.le_of_ble_eq_true rfl) rfl rfl ?_
        refine z_goto 2 dX5_bindLabels_82 rfl ?_
        refine z_pick [(2, .int vz20), (0, .ref 202), (1, .ref (200 + pO b1))] [0, 1, 2] rfl ?_
        exact hR9 vz20 Cz19 h
theorem tw_X5_bindLabels_2 (tg : Bool) (M : mS) (o : Nat → Int64) (X : List va_E) (b1 : Bool) (Q : cS → Prop) (K85 : cS → Prop) (hK85 : ∀ (C : cS), K85 C → z_go q_X5_bindLabels tg 85 [] [] (wz C M o X) 0 0 (zc_v M o X Q)) : ∀ (n : Nat) (l2 : Int32) (C : cS), w_X5_bindLabels_2 b1 Q K85 n l2 C → z_go q_X5_bindLabels tg 2 [(2, .int l2), (0, .ref 202), (1, .ref (200 + pO b1))] [] (wz C M o X) 0 0 (zc_v M o X Q) := by
  intro n
  induction n with
  | zero => intro l2 C h; exact h.elim
  | succ n ih => intro l2 C h; exact tb_X5_bindLabels_2 tg M o X b1 _ Q K85 ih hK85 l2 C h
def p_X5_bindLabels (b1 : Bool) (C : cS) (Q : cS → Prop) : Prop :=
  ∃ nz23 : Nat, w_X5_bindLabels_2 b1 Q (fun Cz22 => Q Cz22) nz23 0 C
set_option maxRecDepth 100000 in
set_option maxHeartbeats 4000000 in
theorem t_X5_bindLabels (tg : Bool) (M : mS) (o : Nat → Int64) (X : List va_E) (b1 : Bool) (C : cS) (Q : cS → Prop) (h : p_X5_bindLabels b1 C Q) : z_M q_X5_bindLabels tg [.ref 202, .ref (200 + pO b1)] (wz C M o X) (zc_v M o X Q) := by
  unfold p_X5_bindLabels at h
  refine z_enter (by decide) (Nat.le_of_ble_eq_true rfl) ?_
  refine z_iconst 0 1 dX5_bindLabels_0 rfl rfl ?_
  refine z_istore_n [(2, .int 0), (0, .ref 202), (1, .ref (200 + pO b1))] 2 dX5_bindLabels_1 (Nat.le_of_ble_eq_true rfl) rfl rfl ?_
  obtain ⟨nz23, h⟩ := h
  refine z_pick [(2, .int 0), (0, .ref 202), (1, .ref (200 + pO b1))] [0, 1, 2] rfl ?_
  refine tw_X5_bindLabels_2 tg M o X b1 Q _ (fun Cz22 h => ?_) nz23 0 C h
  · exact z_vret dX5_bindLabels_85 rfl ⟨Nat.le_refl _, Nat.le_refl _⟩ ⟨Cz22, rfl, rfl, h⟩
def b_X5_readText_38 (b3 : Bool) (R9 : Int32 → cS → Prop) (Q : Int32 → cS → Prop) (K76 : cS → Prop) (l5 : Int32) (C : cS) : Prop :=
  (((c_i C 5) ≤ l5 → K76 C) ∧ (¬ (c_i C 5) ≤ l5 → ((¬ (c_i C 3) = 0 → K76 C) ∧ ((c_i C 3) = 0 → p_X5_readAct l5 b3 C (fun rz7 Cz6 => ∀ vz8 : Int32, vz8 = (if l5 + 1 < rz7 then rz7 else l5 + 1) → R9 vz8 Cz6)))))
def w_X5_readText_38 (b3 : Bool) (Q : Int32 → cS → Prop) (K76 : cS → Prop) : Nat → Int32 → cS → Prop
 | 0 => fun _ _ => False
 | n + 1 => fun l5 C => b_X5_readText_38 b3 (w_X5_readText_38 b3 Q K76 n) Q K76 l5 C
set_option maxRecDepth 100000 in
set_option maxHeartbeats 4000000 in
theorem tb_X5_readText_38 (tg : Bool) (M : mS) (o : Nat → Int64) (X : List va_E) (b3 : Bool) (R9 : Int32 → cS → Prop) (Q : Int32 → cS → Prop) (K76 : cS → Prop) (hR9 : ∀ (l5 : Int32) (C : cS), R9 l5 C → z_go q_X5_readText tg 38 [(5, .int l5), (0, .ref 202), (3, .ref (200 + pO b3))] [] (wz C M o X) 0 0 (zc_i M o X Q)) (hK76 : ∀ (C : cS), K76 C → z_go q_X5_readText tg 76 [(0, .ref 202), (3, .ref (200 + pO b3))] [] (wz C M o X) 0 0 (zc_i M o X Q)) (l5 : Int32) (C : cS) (h : b_X5_readText_38 b3 R9 Q K76 l5 C) : z_go q_X5_readText tg 38 [(5, .int l5), (0, .ref 202), (3, .ref (200 + pO b3))] [] (wz C M o X) 0 0 (zc_i M o X Q) := by
  unfold b_X5_readText_38 at h
  refine z_iload 0 40 dX5_readText_38 rfl rfl ?_
  refine z_aload_n 1 41 dX5_readText_40 rfl rfl ?_
  refine gr_2_0 44 dX5_readText_41 of_X5_12 rfl ?_
  refine gci_5 (c_i C 5) 47 dX5_readText_44 of_X5_34 rfl rfl ?_
  refine z_icmp_ge 76 50 dX5_readText_47 rfl rfl (fun hcz4 => ?_) (fun hcz4 => ?_)
  · replace h := h.1 hcz4
    refine z_pick [(0, .ref 202), (3, .ref (200 + pO b3))] [1, 2] rfl ?_
    exact hK76  C h
  · replace h := h.2 hcz4
    refine z_aload_n 1 51 dX5_readText_50 rfl rfl ?_
    refine gci_3 (c_i C 3) 54 dX5_readText_51 of_X5_18 rfl rfl ?_
    refine z_if_ne 76 57 dX5_readText_54 rfl rfl (fun hcz5 => ?_) (fun hcz5 => ?_)
    · replace h := h.1 hcz5
      refine z_pick [(0, .ref 202), (3, .ref (200 + pO b3))] [1, 2] rfl ?_
      exact hK76  C h
    · replace h := h.2 hcz5
      refine z_iload 0 59 dX5_readText_57 rfl rfl ?_
      refine z_iconst 1 60 dX5_readText_59 rfl rfl ?_
      refine z_iadd 61 dX5_readText_60 rfl ?_
      refine z_aload_n 1 62 dX5_readText_61 rfl rfl ?_
      refine z_iload 0 64 dX5_readText_62 rfl rfl ?_
      refine z_aload_n 2 65 dX5_readText_64 rfl rfl ?_
      refine z_ciV [.int l5, .ref (200 + pO b3)] 68 dX5_readText_65 ok_X5_readText_35 rfl rfl (Nat.le_of_ble_eq_true rfl) rc_2 ⟨rfl, rfl⟩ ⟨Nat.le_refl _, Nat.le_refl _⟩ rfl (t_X5_readAct tg M o X l5 b3 C _ h) (fun rz7 Cz6 h => ?_)
      refine z_max 71 dX5_readText_68 ok_X5_readText_39 ⟨by decide, Nat.le_of_ble_eq_true rfl, Nat.le_refl _, Nat.le_refl _⟩ rfl ?_
      refine z_topi (fun vz8 hvz8 => ?_)
      replace h := h vz8 hvz8
      refine z_istore [(5, .int vz8), (0, .ref 202), (3, .ref (200 + pO b3))] 73 dX5_readText_71 (Nat.le_of_ble_eq_true rfl) rfl rfl ?_
      refine z_goto 38 dX5_readText_73 rfl ?_
      refine z_pick [(5, .int vz8), (0, .ref 202), (3, .ref (200 + pO b3))] [0, 1, 2] rfl ?_
      exact hR9 vz8 Cz6 h
theorem tw_X5_readText_38 (tg : Bool) (M : mS) (o : Nat → Int64) (X : List va_E) (b3 : Bool) (Q : Int32 → cS → Prop) (K76 : cS → Prop) (hK76 : ∀ (C : cS), K76 C → z_go q_X5_readText tg 76 [(0, .ref 202), (3, .ref (200 + pO b3))] [] (wz C M o X) 0 0 (zc_i M o X Q)) : ∀ (n : Nat) (l5 : Int32) (C : cS), w_X5_readText_38 b3 Q K76 n l5 C → z_go q_X5_readText tg 38 [(5, .int l5), (0, .ref 202), (3, .ref (200 + pO b3))] [] (wz C M o X) 0 0 (zc_i M o X Q) := by
  intro n
  induction n with
  | zero => intro l5 C h; exact h.elim
  | succ n ih => intro l5 C h; exact tb_X5_readText_38 tg M o X b3 _ Q K76 ih hK76 l5 C h
def p_X5_readText (a2 : Int32) (b3 : Bool) (C : cS) (Q : Int32 → cS → Prop) : Prop :=
  p_X8_cut a2 (c_pnS (c_iS C 3 0) b3 0) (fun rz2 Cz1 => ((rz2 = (-1) → ∃ nz12 : Nat, w_X5_readText_38 b3 Q (fun Cz9 => ((¬ (c_i Cz9 3) = 0 → Q (c_i Cz9 3) Cz9) ∧ ((c_i Cz9 3) = 0 → p_X5_bindLabels b3 Cz9 (fun Cz11 => Q (c_i Cz11 3) Cz11)))) nz12 0 Cz1) ∧ (¬ rz2 = (-1) → Q 1 (c_iS Cz1 4 rz2))))
set_option maxRecDepth 100000 in
set_option maxHeartbeats 4000000 in
theorem t_X5_readText (tg : Bool) (M : mS) (o : Nat → Int64) (X : List va_E) (a2 : Int32) (b3 : Bool) (C : cS) (Q : Int32 → cS → Prop) (h : p_X5_readText a2 b3 C Q) : z_M q_X5_readText tg [.ref 202, .ref 201, .int a2, .ref (200 + pO b3)] (wz C M o X) (zc_i M o X Q) := by
  unfold p_X5_readText at h
  refine z_enter (by decide) (Nat.le_of_ble_eq_true rfl) ?_
  refine z_aload_n 0 1 dX5_readText_0 rfl rfl ?_
  refine z_iconst 0 2 dX5_readText_1 rfl rfl ?_
  refine pci_3 5 dX5_readText_2 op_X5_18 rfl ?_
  refine z_aload_n 3 6 dX5_readText_5 rfl rfl ?_
  refine z_iconst 0 7 dX5_readText_6 rfl rfl ?_
  refine ppc 10 dX5_readText_7 op_X5_22 rfl ?_
  refine z_aload_n 0 11 dX5_readText_10 rfl rfl ?_
  refine gr_2_0 14 dX5_readText_11 of_X5_12 rfl ?_
  refine z_aload_n 1 15 dX5_readText_14 rfl rfl ?_
  refine z_iload_n 2 16 dX5_readText_15 rfl rfl ?_
  refine z_ciV [.ref 201, .int a2] 19 dX5_readText_16 ok_X5_readText_27 rfl rfl (Nat.le_of_ble_eq_true rfl) rc_3 ⟨rfl, rfl⟩ ⟨Nat.le_refl _, Nat.le_refl _⟩ rfl (t_X8_cut tg M o X a2 (c_pnS (c_iS C 3 0) b3 0) _ h) (fun rz2 Cz1 h => ?_)
  refine z_istore [(4, .int rz2), (0, .ref 202), (1, .ref 201), (2, .int a2), (3, .ref (200 + pO b3))] 21 dX5_readText_19 (Nat.le_of_ble_eq_true rfl) rfl rfl ?_
  refine z_iload 0 23 dX5_readText_21 rfl rfl ?_
  refine z_iconst (-1) 24 dX5_readText_23 rfl rfl ?_
  refine z_icmp_eq 35 27 dX5_readText_24 rfl rfl (fun hcz3 => ?_) (fun hcz3 => ?_)
  · replace h := h.1 hcz3
    refine z_iconst 0 36 dX5_readText_35 rfl rfl ?_
    refine z_istore [(5, .int 0), (4, .int rz2), (0, .ref 202), (1, .ref 201), (2, .int a2), (3, .ref (200 + pO b3))] 38 dX5_readText_36 (Nat.le_of_ble_eq_true rfl) rfl rfl ?_
    obtain ⟨nz12, h⟩ := h
    refine z_pick [(5, .int 0), (0, .ref 202), (3, .ref (200 + pO b3))] [0, 2, 5] rfl ?_
    refine tw_X5_readText_38 tg M o X b3 Q _ (fun Cz9 h => ?_) nz12 0 Cz1 h
    · refine z_aload_n 0 77 dX5_readText_76 rfl rfl ?_
      refine gci_3 (c_i Cz9 3) 80 dX5_readText_77 of_X5_18 rfl rfl ?_
      refine z_if_ne 88 83 dX5_readText_80 rfl rfl (fun hcz10 => ?_) (fun hcz10 => ?_)
      · replace h := h.1 hcz10
        refine z_aload_n 0 89 dX5_readText_88 rfl rfl ?_
        refine gci_3 (c_i Cz9 3) 92 dX5_readText_89 of_X5_18 rfl rfl ?_
        exact z_iret dX5_readText_92 rfl ⟨Nat.le_refl _, Nat.le_refl _⟩ ⟨c_i Cz9 3, Cz9, rfl, rfl, h⟩
      · replace h := h.2 hcz10
        refine z_aload_n 0 84 dX5_readText_83 rfl rfl ?_
        refine z_aload_n 1 85 dX5_readText_84 rfl rfl ?_
        refine z_cvV [.ref (200 + pO b3)] 88 dX5_readText_85 ok_X5_readText_45 rfl rfl (Nat.le_of_ble_eq_true rfl) rc_2 ⟨rfl, rfl⟩ ⟨Nat.le_refl _, Nat.le_refl _⟩ rfl (t_X5_bindLabels tg M o X b3 Cz9 _ h) (fun Cz11 h => ?_)
        refine z_aload_n 0 89 dX5_readText_88 rfl rfl ?_
        refine gci_3 (c_i Cz11 3) 92 dX5_readText_89 of_X5_18 rfl rfl ?_
        exact z_iret dX5_readText_92 rfl ⟨Nat.le_refl _, Nat.le_refl _⟩ ⟨c_i Cz11 3, Cz11, rfl, rfl, h⟩
  · replace h := h.2 hcz3
    refine z_aload_n 1 28 dX5_readText_27 rfl rfl ?_
    refine z_iload 0 30 dX5_readText_28 rfl rfl ?_
    refine pci_4 33 dX5_readText_30 op_X5_31 rfl ?_
    refine z_iconst 1 34 dX5_readText_33 rfl rfl ?_
    exact z_iret dX5_readText_34 rfl ⟨Nat.le_refl _, Nat.le_refl _⟩ ⟨1, (c_iS Cz1 4 rz2), rfl, rfl, h⟩
end ZG
