section ZG
def b_X10_feedNumber_3 (R9 : Int32 → Int32 → cS → Prop) (Q : cS → Prop) (K36 : cS → Prop) (l1 : Int32) (l2 : Int32) (C : cS) : Prop :=
  ((l2 < 0 → K36 C) ∧ (¬ l2 < 0 → vp_in (c_i C 0) 2000 ∧ ∀ vz3 : Int32, vz3 = l2 + (-8) → R9 l1 vz3 (c_iS (c_aU C 0 (c_i C 0) (vp_nar .byte ((l1 >>> (l2 &&& 31) : Int32).toInt8.toInt32))) 0 ((c_i C 0) + 1))))
def w_X10_feedNumber_3 (Q : cS → Prop) (K36 : cS → Prop) : Nat → Int32 → Int32 → cS → Prop
 | 0 => fun _ _ _ => False
 | n + 1 => fun l1 l2 C => b_X10_feedNumber_3 (w_X10_feedNumber_3 Q K36 n) Q K36 l1 l2 C
set_option maxRecDepth 100000 in
set_option maxHeartbeats 4000000 in
theorem tb_X10_feedNumber_3 (tg : Bool) (M : mS) (o : Nat → Int64) (X : List va_E) (R9 : Int32 → Int32 → cS → Prop) (Q : cS → Prop) (K36 : cS → Prop) (hR9 : ∀ (l1 : Int32) (l2 : Int32) (C : cS), R9 l1 l2 C → z_go q_X10_feedNumber tg 3 [(1, .int l1), (2, .int l2), (0, .ref 200)] [] (wz C M o X) 0 0 (zc_v M o X Q)) (hK36 : ∀ (C : cS), K36 C → z_go q_X10_feedNumber tg 36 [] [] (wz C M o X) 0 0 (zc_v M o X Q)) (l1 : Int32) (l2 : Int32) (C : cS) (h : b_X10_feedNumber_3 R9 Q K36 l1 l2 C) : z_go q_X10_feedNumber tg 3 [(1, .int l1), (2, .int l2), (0, .ref 200)] [] (wz C M o X) 0 0 (zc_v M o X Q) := by
  unfold b_X10_feedNumber_3 at h
  refine z_iload_n 1 4 dX10_feedNumber_3 rfl rfl ?_
  refine z_if_lt 36 7 dX10_feedNumber_4 rfl rfl (fun hcz1 => ?_) (fun hcz1 => ?_)
  · replace h := h.1 hcz1
    refine z_pick [] [] rfl ?_
    exact hK36  C h
  · replace h := h.2 hcz1
    refine z_aload_n 2 8 dX10_feedNumber_7 rfl rfl ?_
    refine gr_0_0 11 dX10_feedNumber_8 of_X10_9 rfl ?_
    refine z_aload_n 2 12 dX10_feedNumber_11 rfl rfl ?_
    refine gci_0 (c_i C 0) 15 dX10_feedNumber_12 of_X10_75 rfl rfl ?_
    refine z_iload_n 0 16 dX10_feedNumber_15 rfl rfl ?_
    refine z_iload_n 1 17 dX10_feedNumber_16 rfl rfl ?_
    refine z_ishr 18 dX10_feedNumber_17 rfl ?_
    refine z_i2b 19 dX10_feedNumber_18 rfl ?_
    obtain ⟨hbz2, h⟩ := h
    refine pca_0 20 dX10_feedNumber_19 hbz2 rfl ?_
    refine z_aload_n 2 21 dX10_feedNumber_20 rfl rfl ?_
    refine z_dup rfl 22 dX10_feedNumber_21 rfl ?_
    refine gci_0 (c_i C 0) 25 dX10_feedNumber_22 of_X10_75 rfl rfl ?_
    refine z_iconst 1 26 dX10_feedNumber_25 rfl rfl ?_
    refine z_iadd 27 dX10_feedNumber_26 rfl ?_
    refine pci_0 30 dX10_feedNumber_27 op_X10_75 rfl ?_
    obtain ⟨vz3, hvz3⟩ : ∃ v : Int32, v = l2 + (-8) := ⟨_, rfl⟩
    replace h := h vz3 hvz3
    refine z_iinc vz3 [(2, .int vz3), (1, .int l1), (0, .ref 200)] 1 33 dX10_feedNumber_30 rfl hvz3.symm (Nat.le_of_ble_eq_true rfl) rfl rfl ?_
    refine z_goto 3 dX10_feedNumber_33 rfl ?_
    refine z_pick [(1, .int l1), (2, .int vz3), (0, .ref 200)] [1, 0, 2] rfl ?_
    exact hR9 l1 vz3 (c_iS (c_aU C 0 (c_i C 0) (vp_nar .byte ((l1 >>> (l2 &&& 31) : Int32).toInt8.toInt32))) 0 ((c_i C 0) + 1)) h
theorem tw_X10_feedNumber_3 (tg : Bool) (M : mS) (o : Nat → Int64) (X : List va_E) (Q : cS → Prop) (K36 : cS → Prop) (hK36 : ∀ (C : cS), K36 C → z_go q_X10_feedNumber tg 36 [] [] (wz C M o X) 0 0 (zc_v M o X Q)) : ∀ (n : Nat) (l1 : Int32) (l2 : Int32) (C : cS), w_X10_feedNumber_3 Q K36 n l1 l2 C → z_go q_X10_feedNumber tg 3 [(1, .int l1), (2, .int l2), (0, .ref 200)] [] (wz C M o X) 0 0 (zc_v M o X Q) := by
  intro n
  induction n with
  | zero => intro l1 l2 C h; exact h.elim
  | succ n ih => intro l1 l2 C h; exact tb_X10_feedNumber_3 tg M o X _ Q K36 ih hK36 l1 l2 C h
def p_X10_feedNumber (a1 : Int32) (C : cS) (Q : cS → Prop) : Prop :=
  ∃ nz5 : Nat, w_X10_feedNumber_3 Q (fun Cz4 => Q Cz4) nz5 a1 24 C
set_option maxRecDepth 100000 in
set_option maxHeartbeats 4000000 in
theorem t_X10_feedNumber (tg : Bool) (M : mS) (o : Nat → Int64) (X : List va_E) (a1 : Int32) (C : cS) (Q : cS → Prop) (h : p_X10_feedNumber a1 C Q) : z_M q_X10_feedNumber tg [.ref 200, .int a1] (wz C M o X) (zc_v M o X Q) := by
  unfold p_X10_feedNumber at h
  refine z_enter (by decide) (Nat.le_of_ble_eq_true rfl) ?_
  refine z_bipush 24 2 dX10_feedNumber_0 rfl rfl ?_
  refine z_istore_n [(2, .int 24), (0, .ref 200), (1, .int a1)] 3 dX10_feedNumber_2 (Nat.le_of_ble_eq_true rfl) rfl rfl ?_
  obtain ⟨nz5, h⟩ := h
  refine z_pick [(1, .int a1), (2, .int 24), (0, .ref 200)] [2, 0, 1] rfl ?_
  refine tw_X10_feedNumber_3 tg M o X Q _ (fun Cz4 h => ?_) nz5 a1 24 C h
  · exact z_vret dX10_feedNumber_36 rfl ⟨Nat.le_refl _, Nat.le_refl _⟩ ⟨Cz4, rfl, rfl, h⟩
def p_X10_feed (a1 : Int32) (a2 : Int32) (a3 : Int32) (a4 : Int32) (a5 : Int32) (C : cS) (Q : Int32 → cS → Prop) : Prop :=
  ((((c_i C 0) + 20) ≤ 2000 → p_X10_feedNumber a1 C (fun Cz2 => p_X10_feedNumber a2 Cz2 (fun Cz3 => p_X10_feedNumber a3 Cz3 (fun Cz4 => p_X10_feedNumber a4 Cz4 (fun Cz5 => p_X10_feedNumber a5 Cz5 (fun Cz6 => Q (c_i Cz6 0) Cz6)))))) ∧ (¬ ((c_i C 0) + 20) ≤ 2000 → Q (-1) C))
set_option maxRecDepth 100000 in
set_option maxHeartbeats 4000000 in
theorem t_X10_feed (tg : Bool) (M : mS) (o : Nat → Int64) (X : List va_E) (a1 : Int32) (a2 : Int32) (a3 : Int32) (a4 : Int32) (a5 : Int32) (C : cS) (Q : Int32 → cS → Prop) (h : p_X10_feed a1 a2 a3 a4 a5 C Q) : z_M q_X10_feed tg [.ref 200, .int a1, .int a2, .int a3, .int a4, .int a5] (wz C M o X) (zc_i M o X Q) := by
  unfold p_X10_feed at h
  refine z_enter (by decide) (Nat.le_of_ble_eq_true rfl) ?_
  refine z_aload_n 0 1 dX10_feed_0 rfl rfl ?_
  refine gci_0 (c_i C 0) 4 dX10_feed_1 of_X10_75 rfl rfl ?_
  refine z_bipush 20 6 dX10_feed_4 rfl rfl ?_
  refine z_iadd 7 dX10_feed_6 rfl ?_
  refine z_sipush 2000 10 dX10_feed_7 rfl rfl ?_
  refine z_icmp_le 15 13 dX10_feed_10 rfl rfl (fun hcz1 => ?_) (fun hcz1 => ?_)
  · replace h := h.1 hcz1
    refine z_aload_n 0 16 dX10_feed_15 rfl rfl ?_
    refine z_iload_n 1 17 dX10_feed_16 rfl rfl ?_
    refine z_cvV [.int a1] 20 dX10_feed_17 ok_X10_feed_79 rfl rfl (Nat.le_of_ble_eq_true rfl) rc_0 ⟨rfl, rfl⟩ ⟨Nat.le_refl _, Nat.le_refl _⟩ rfl (t_X10_feedNumber tg M o X a1 C _ h) (fun Cz2 h => ?_)
    refine z_aload_n 0 21 dX10_feed_20 rfl rfl ?_
    refine z_iload_n 2 22 dX10_feed_21 rfl rfl ?_
    refine z_cvV [.int a2] 25 dX10_feed_22 ok_X10_feed_79 rfl rfl (Nat.le_of_ble_eq_true rfl) rc_0 ⟨rfl, rfl⟩ ⟨Nat.le_refl _, Nat.le_refl _⟩ rfl (t_X10_feedNumber tg M o X a2 Cz2 _ h) (fun Cz3 h => ?_)
    refine z_aload_n 0 26 dX10_feed_25 rfl rfl ?_
    refine z_iload_n 3 27 dX10_feed_26 rfl rfl ?_
    refine z_cvV [.int a3] 30 dX10_feed_27 ok_X10_feed_79 rfl rfl (Nat.le_of_ble_eq_true rfl) rc_0 ⟨rfl, rfl⟩ ⟨Nat.le_refl _, Nat.le_refl _⟩ rfl (t_X10_feedNumber tg M o X a3 Cz3 _ h) (fun Cz4 h => ?_)
    refine z_aload_n 0 31 dX10_feed_30 rfl rfl ?_
    refine z_iload 4 33 dX10_feed_31 rfl rfl ?_
    refine z_cvV [.int a4] 36 dX10_feed_33 ok_X10_feed_79 rfl rfl (Nat.le_of_ble_eq_true rfl) rc_0 ⟨rfl, rfl⟩ ⟨Nat.le_refl _, Nat.le_refl _⟩ rfl (t_X10_feedNumber tg M o X a4 Cz4 _ h) (fun Cz5 h => ?_)
    refine z_aload_n 0 37 dX10_feed_36 rfl rfl ?_
    refine z_iload 5 39 dX10_feed_37 rfl rfl ?_
    refine z_cvV [.int a5] 42 dX10_feed_39 ok_X10_feed_79 rfl rfl (Nat.le_of_ble_eq_true rfl) rc_0 ⟨rfl, rfl⟩ ⟨Nat.le_refl _, Nat.le_refl _⟩ rfl (t_X10_feedNumber tg M o X a5 Cz5 _ h) (fun Cz6 h => ?_)
    refine z_aload_n 0 43 dX10_feed_42 rfl rfl ?_
    refine gci_0 (c_i Cz6 0) 46 dX10_feed_43 of_X10_75 rfl rfl ?_
    exact z_iret dX10_feed_46 rfl ⟨Nat.le_refl _, Nat.le_refl _⟩ ⟨c_i Cz6 0, Cz6, rfl, rfl, h⟩
  · replace h := h.2 hcz1
    refine z_iconst (-1) 14 dX10_feed_13 rfl rfl ?_
    exact z_iret dX10_feed_14 rfl ⟨Nat.le_refl _, Nat.le_refl _⟩ ⟨(-1), C, rfl, rfl, h⟩
def p_X10_end (a1 : Int32) (C : cS) (Q : Int32 → cS → Prop) : Prop :=
  ((a1 < 0 → Q (-1) C) ∧ (¬ a1 < 0 → ((a1 ≤ (c_i C 0) → Q a1 (c_iS C 0 a1)) ∧ (¬ a1 ≤ (c_i C 0) → Q (-1) C))))
set_option maxRecDepth 100000 in
set_option maxHeartbeats 4000000 in
theorem t_X10_end (tg : Bool) (M : mS) (o : Nat → Int64) (X : List va_E) (a1 : Int32) (C : cS) (Q : Int32 → cS → Prop) (h : p_X10_end a1 C Q) : z_M q_X10_end tg [.ref 200, .int a1] (wz C M o X) (zc_i M o X Q) := by
  unfold p_X10_end at h
  refine z_enter (by decide) (Nat.le_of_ble_eq_true rfl) ?_
  refine z_iload_n 1 1 dX10_end_0 rfl rfl ?_
  refine z_if_lt 12 4 dX10_end_1 rfl rfl (fun hcz1 => ?_) (fun hcz1 => ?_)
  · replace h := h.1 hcz1
    refine z_iconst (-1) 13 dX10_end_12 rfl rfl ?_
    exact z_iret dX10_end_13 rfl ⟨Nat.le_refl _, Nat.le_refl _⟩ ⟨(-1), C, rfl, rfl, h⟩
  · replace h := h.2 hcz1
    refine z_iload_n 1 5 dX10_end_4 rfl rfl ?_
    refine z_aload_n 0 6 dX10_end_5 rfl rfl ?_
    refine gci_0 (c_i C 0) 9 dX10_end_6 of_X10_75 rfl rfl ?_
    refine z_icmp_le 14 12 dX10_end_9 rfl rfl (fun hcz2 => ?_) (fun hcz2 => ?_)
    · replace h := h.1 hcz2
      refine z_aload_n 0 15 dX10_end_14 rfl rfl ?_
      refine z_iload_n 1 16 dX10_end_15 rfl rfl ?_
      refine pci_0 19 dX10_end_16 op_X10_75 rfl ?_
      refine z_iload_n 1 20 dX10_end_19 rfl rfl ?_
      exact z_iret dX10_end_20 rfl ⟨Nat.le_refl _, Nat.le_refl _⟩ ⟨a1, (c_iS C 0 a1), rfl, rfl, h⟩
    · replace h := h.2 hcz2
      refine z_iconst (-1) 13 dX10_end_12 rfl rfl ?_
      exact z_iret dX10_end_13 rfl ⟨Nat.le_refl _, Nat.le_refl _⟩ ⟨(-1), C, rfl, rfl, h⟩
def p_X10_program (C : cS) (Q : Int32 → cS → Prop) : Prop :=
  ∀ vz1 : Int32, vz1 = c_i C 0 → p_X5_readText vz1 (c_spa C) (c_iS C 0 0) (fun rz3 Cz2 => ((rz3 = 0 → p_X6_forget (c_iS (c_curS (c_spaS (c_iS Cz2 2 rz3) (c_cur Cz2)) (c_spa Cz2)) 1 1) (fun Cz5 => Q (c_pn Cz5 (c_cur Cz5)) Cz5)) ∧ (¬ rz3 = 0 → Q ((-1) - (c_i Cz2 4)) (c_iS Cz2 2 rz3))))
set_option maxRecDepth 100000 in
set_option maxHeartbeats 4000000 in
theorem t_X10_program (tg : Bool) (M : mS) (o : Nat → Int64) (X : List va_E) (C : cS) (Q : Int32 → cS → Prop) (h : p_X10_program C Q) : z_M q_X10_program tg [.ref 200] (wz C M o X) (zc_i M o X Q) := by
  unfold p_X10_program at h
  refine z_enter (by decide) (Nat.le_of_ble_eq_true rfl) ?_
  refine z_aload_n 0 1 dX10_program_0 rfl rfl ?_
  refine gci_0 (c_i C 0) 4 dX10_program_1 of_X10_75 rfl rfl ?_
  refine z_topi (fun vz1 hvz1 => ?_)
  replace h := h vz1 hvz1
  refine z_istore_n [(1, .int vz1), (0, .ref 200)] 5 dX10_program_4 (Nat.le_of_ble_eq_true rfl) rfl rfl ?_
  refine z_aload_n 1 6 dX10_program_5 rfl rfl ?_
  refine z_iconst 0 7 dX10_program_6 rfl rfl ?_
  refine pci_0 10 dX10_program_7 op_X10_75 rfl ?_
  refine z_aload_n 1 11 dX10_program_10 rfl rfl ?_
  refine z_aload_n 1 12 dX10_program_11 rfl rfl ?_
  refine gr_0_2 15 dX10_program_12 of_X10_16 rfl ?_
  refine z_aload_n 1 16 dX10_program_15 rfl rfl ?_
  refine gr_0_0 19 dX10_program_16 of_X10_9 rfl ?_
  refine z_iload_n 0 20 dX10_program_19 rfl rfl ?_
  refine z_aload_n 1 21 dX10_program_20 rfl rfl ?_
  refine gr_spa (c_spa C) 24 dX10_program_21 of_X10_27 rfl rfl ?_
  refine z_ciV [.ref 201, .int vz1, .ref (200 + pO (c_spa C))] 27 dX10_program_24 ok_X10_program_83 rfl rfl (Nat.le_of_ble_eq_true rfl) rc_2 ⟨rfl, rfl⟩ ⟨Nat.le_refl _, Nat.le_refl _⟩ rfl (t_X5_readText tg M o X vz1 (c_spa C) (c_iS C 0 0) _ h) (fun rz3 Cz2 h => ?_)
  refine pci_2 30 dX10_program_27 op_X10_87 rfl ?_
  refine z_aload_n 1 31 dX10_program_30 rfl rfl ?_
  refine gci_2 rz3 34 dX10_program_31 of_X10_87 rfl rfl ?_
  refine z_if_eq 47 37 dX10_program_34 rfl rfl (fun hcz4 => ?_) (fun hcz4 => ?_)
  · replace h := h.1 hcz4
    refine z_aload_n 1 48 dX10_program_47 rfl rfl ?_
    refine gr_spa (c_spa Cz2) 51 dX10_program_48 of_X10_27 rfl rfl ?_
    refine z_astore_n [(2, .ref (200 + pO (c_spa Cz2))), (1, .int vz1), (0, .ref 200)] 52 dX10_program_51 (Nat.le_of_ble_eq_true rfl) rfl rfl ?_
    refine z_aload_n 2 53 dX10_program_52 rfl rfl ?_
    refine z_aload_n 2 54 dX10_program_53 rfl rfl ?_
    refine gr_cur (c_cur Cz2) 57 dX10_program_54 of_X10_23 rfl rfl ?_
    refine pr_spa 60 dX10_program_57 op_X10_27 rfl ?_
    refine z_aload_n 2 61 dX10_program_60 rfl rfl ?_
    refine z_aload_n 0 62 dX10_program_61 rfl rfl ?_
    refine pr_cur 65 dX10_program_62 op_X10_23 rfl ?_
    refine z_aload_n 2 66 dX10_program_65 rfl rfl ?_
    refine z_iconst 1 67 dX10_program_66 rfl rfl ?_
    refine pci_1 70 dX10_program_67 op_X10_93 (by decide) rfl ?_
    refine z_aload_n 2 71 dX10_program_70 rfl rfl ?_
    refine gr_0_9 74 dX10_program_71 of_X10_57 rfl ?_
    refine z_cvV [] 77 dX10_program_74 ok_X10_program_97 rfl rfl (Nat.le_of_ble_eq_true rfl) rc_25 ⟨rfl, rfl⟩ ⟨Nat.le_refl _, Nat.le_refl _⟩ rfl (t_X6_forget tg M o X  (c_iS (c_curS (c_spaS (c_iS Cz2 2 rz3) (c_cur Cz2)) (c_spa Cz2)) 1 1) _ h) (fun Cz5 h => ?_)
    refine z_aload_n 2 78 dX10_program_77 rfl rfl ?_
    refine gr_cur (c_cur Cz5) 81 dX10_program_78 of_X10_23 rfl rfl ?_
    refine gpc (c_pn Cz5 (c_cur Cz5)) 84 dX10_program_81 of_X10_100 rfl rfl ?_
    exact z_iret dX10_program_84 rfl ⟨Nat.le_refl _, Nat.le_refl _⟩ ⟨c_pn Cz5 (c_cur Cz5), Cz5, rfl, rfl, h⟩
  · replace h := h.2 hcz4
    refine z_iconst (-1) 38 dX10_program_37 rfl rfl ?_
    refine z_aload_n 1 39 dX10_program_38 rfl rfl ?_
    refine gr_0_2 42 dX10_program_39 of_X10_16 rfl ?_
    refine gci_4 (c_i Cz2 4) 45 dX10_program_42 of_X10_90 rfl rfl ?_
    refine z_isub 46 dX10_program_45 rfl ?_
    exact z_iret dX10_program_46 rfl ⟨Nat.le_refl _, Nat.le_refl _⟩ ⟨(-1) - (c_i Cz2 4), (c_iS Cz2 2 rz3), rfl, rfl, h⟩
def p_X10_fault (C : cS) (Q : Int32 → cS → Prop) : Prop :=
  Q (c_i C 2) C
set_option maxRecDepth 100000 in
set_option maxHeartbeats 4000000 in
theorem t_X10_fault (tg : Bool) (M : mS) (o : Nat → Int64) (X : List va_E) (C : cS) (Q : Int32 → cS → Prop) (h : p_X10_fault C Q) : z_M q_X10_fault tg [.ref 200] (wz C M o X) (zc_i M o X Q) := by
  unfold p_X10_fault at h
  refine z_enter (by decide) (Nat.le_of_ble_eq_true rfl) ?_
  refine z_aload_n 0 1 dX10_fault_0 rfl rfl ?_
  refine gci_2 (c_i C 2) 4 dX10_fault_1 of_X10_87 rfl rfl ?_
  exact z_iret dX10_fault_4 rfl ⟨Nat.le_refl _, Nat.le_refl _⟩ ⟨c_i C 2, C, rfl, rfl, h⟩
def p_X10_about (a1 : Int32) (C : cS) (Q : Int32 → cS → Prop) : Prop :=
  ((a1 = 0 → Q (c_i C 16) C) ∧ (¬ a1 = 0 → ((a1 = 1 → Q (c_i C 17) C) ∧ (¬ a1 = 1 → ((a1 = 2 → p_X6_nextAct C (fun rz5 Cz4 => Q rz5 Cz4)) ∧ (¬ a1 = 2 → ((a1 = 3 → p_X6_nextPlace C (fun rz8 Cz7 => Q rz8 Cz7)) ∧ (¬ a1 = 3 → ((a1 = 4 → Q (c_i C 19) C) ∧ (¬ a1 = 4 → ((a1 = 5 → Q (c_i C 20) C) ∧ (¬ a1 = 5 → ((a1 = 6 → Q (c_i C 21) C) ∧ (¬ a1 = 6 → Q (-1) C))))))))))))))
set_option maxRecDepth 100000 in
set_option maxHeartbeats 4000000 in
theorem t_X10_about (tg : Bool) (M : mS) (o : Nat → Int64) (X : List va_E) (a1 : Int32) (C : cS) (Q : Int32 → cS → Prop) (h : p_X10_about a1 C Q) : z_M q_X10_about tg [.ref 200, .int a1] (wz C M o X) (zc_i M o X Q) := by
  unfold p_X10_about at h
  refine z_enter (by decide) (Nat.le_of_ble_eq_true rfl) ?_
  refine z_iload_n 1 1 dX10_about_0 rfl rfl ?_
  by_cases hcz1 : a1 = 0
  · replace h := h.1 hcz1
    refine z_tabIn 44 dX10_about_1 (by rw [hcz1]; decide) (by rw [hcz1]; decide) (by rw [hcz1]; rfl) rfl ?_
    refine z_aload_n 0 45 dX10_about_44 rfl rfl ?_
    refine gr_0_9 48 dX10_about_45 of_X10_57 rfl ?_
    refine gci_16 (c_i C 16) 51 dX10_about_48 of_X10_119 rfl rfl ?_
    exact z_iret dX10_about_51 rfl ⟨Nat.le_refl _, Nat.le_refl _⟩ ⟨c_i C 16, C, rfl, rfl, h⟩
  · replace h := h.2 hcz1
    by_cases hcz2 : a1 = 1
    · replace h := h.1 hcz2
      refine z_tabIn 52 dX10_about_1 (by rw [hcz2]; decide) (by rw [hcz2]; decide) (by rw [hcz2]; rfl) rfl ?_
      refine z_aload_n 0 53 dX10_about_52 rfl rfl ?_
      refine gr_0_9 56 dX10_about_53 of_X10_57 rfl ?_
      refine gci_17 (c_i C 17) 59 dX10_about_56 of_X10_128 rfl rfl ?_
      exact z_iret dX10_about_59 rfl ⟨Nat.le_refl _, Nat.le_refl _⟩ ⟨c_i C 17, C, rfl, rfl, h⟩
    · replace h := h.2 hcz2
      by_cases hcz3 : a1 = 2
      · replace h := h.1 hcz3
        refine z_tabIn 60 dX10_about_1 (by rw [hcz3]; decide) (by rw [hcz3]; decide) (by rw [hcz3]; rfl) rfl ?_
        refine z_aload_n 0 61 dX10_about_60 rfl rfl ?_
        refine gr_0_9 64 dX10_about_61 of_X10_57 rfl ?_
        refine z_ciV [] 67 dX10_about_64 ok_X10_about_131 rfl rfl (Nat.le_of_ble_eq_true rfl) rc_25 ⟨rfl, rfl⟩ ⟨Nat.le_refl _, Nat.le_refl _⟩ rfl (t_X6_nextAct tg M o X  C _ h) (fun rz5 Cz4 h => ?_)
        exact z_iret dX10_about_67 rfl ⟨Nat.le_refl _, Nat.le_refl _⟩ ⟨rz5, Cz4, rfl, rfl, h⟩
      · replace h := h.2 hcz3
        by_cases hcz6 : a1 = 3
        · replace h := h.1 hcz6
          refine z_tabIn 68 dX10_about_1 (by rw [hcz6]; decide) (by rw [hcz6]; decide) (by rw [hcz6]; rfl) rfl ?_
          refine z_aload_n 0 69 dX10_about_68 rfl rfl ?_
          refine gr_0_9 72 dX10_about_69 of_X10_57 rfl ?_
          refine z_ciV [] 75 dX10_about_72 ok_X10_about_135 rfl rfl (Nat.le_of_ble_eq_true rfl) rc_25 ⟨rfl, rfl⟩ ⟨Nat.le_refl _, Nat.le_refl _⟩ rfl (t_X6_nextPlace tg M o X  C _ h) (fun rz8 Cz7 h => ?_)
          exact z_iret dX10_about_75 rfl ⟨Nat.le_refl _, Nat.le_refl _⟩ ⟨rz8, Cz7, rfl, rfl, h⟩
        · replace h := h.2 hcz6
          by_cases hcz9 : a1 = 4
          · replace h := h.1 hcz9
            refine z_tabIn 76 dX10_about_1 (by rw [hcz9]; decide) (by rw [hcz9]; decide) (by rw [hcz9]; rfl) rfl ?_
            refine z_aload_n 0 77 dX10_about_76 rfl rfl ?_
            refine gr_0_9 80 dX10_about_77 of_X10_57 rfl ?_
            refine gci_19 (c_i C 19) 83 dX10_about_80 of_X10_138 rfl rfl ?_
            exact z_iret dX10_about_83 rfl ⟨Nat.le_refl _, Nat.le_refl _⟩ ⟨c_i C 19, C, rfl, rfl, h⟩
          · replace h := h.2 hcz9
            by_cases hcz10 : a1 = 5
            · replace h := h.1 hcz10
              refine z_tabIn 84 dX10_about_1 (by rw [hcz10]; decide) (by rw [hcz10]; decide) (by rw [hcz10]; rfl) rfl ?_
              refine z_aload_n 0 85 dX10_about_84 rfl rfl ?_
              refine gr_0_9 88 dX10_about_85 of_X10_57 rfl ?_
              refine gci_20 (c_i C 20) 91 dX10_about_88 of_X10_141 rfl rfl ?_
              exact z_iret dX10_about_91 rfl ⟨Nat.le_refl _, Nat.le_refl _⟩ ⟨c_i C 20, C, rfl, rfl, h⟩
            · replace h := h.2 hcz10
              by_cases hcz11 : a1 = 6
              · replace h := h.1 hcz11
                refine z_tabIn 92 dX10_about_1 (by rw [hcz11]; decide) (by rw [hcz11]; decide) (by rw [hcz11]; rfl) rfl ?_
                refine z_aload_n 0 93 dX10_about_92 rfl rfl ?_
                refine gr_0_9 96 dX10_about_93 of_X10_57 rfl ?_
                refine gci_21 (c_i C 21) 99 dX10_about_96 of_X10_144 rfl rfl ?_
                exact z_iret dX10_about_99 rfl ⟨Nat.le_refl _, Nat.le_refl _⟩ ⟨c_i C 21, C, rfl, rfl, h⟩
              · replace h := h.2 hcz11
                refine z_tab [0, 1, 2, 3, 4, 5, 6] 100 dX10_about_1 (List.forall_mem_cons.mpr ⟨hcz1, (List.forall_mem_cons.mpr ⟨hcz2, (List.forall_mem_cons.mpr ⟨hcz3, (List.forall_mem_cons.mpr ⟨hcz6, (List.forall_mem_cons.mpr ⟨hcz9, (List.forall_mem_cons.mpr ⟨hcz10, (List.forall_mem_cons.mpr ⟨hcz11, (fun _ q9 => absurd q9 List.not_mem_nil)⟩)⟩)⟩)⟩)⟩)⟩)⟩) (by decide +kernel) (by decide) rfl ?_
                refine z_iconst (-1) 101 dX10_about_100 rfl rfl ?_
                exact z_iret dX10_about_101 rfl ⟨Nat.le_refl _, Nat.le_refl _⟩ ⟨(-1), C, rfl, rfl, h⟩
def b_X10_handsFit_3 (i0 : Nat) (R9 : Int32 → Int32 → Int32 → Int32 → cS → Prop) (Q : Int32 → cS → Prop) (K59 : cS → Prop) (K67 : cS → Prop) (l1 : Int32) (l2 : Int32) (l3 : Int32) (l4 : Int32) (C : cS) : Prop :=
  i0 < 26 ∧ z_tkx.getD i0 0 < 40 ∧ (((nI (z_tlen (z_tkx.getD i0 0))) ≤ l4 → K67 C) ∧ (¬ (nI (z_tlen (z_tkx.getD i0 0))) ≤ l4 → ((¬ l4 = 0 → ((¬ l4 = 1 → vp_in l4 (z_tlen (z_tkx.getD i0 0)) ∧ ((¬ (z_tchr (z_tkx.getD i0 0) l4.toNatClampNeg) = 72 → ∀ vz10 : Int32, vz10 = l4 + 1 → R9 l1 l2 l3 vz10 C) ∧ ((z_tchr (z_tkx.getD i0 0) l4.toNatClampNeg) = 72 → p_X10_isHand l3 C (fun rz12 Cz11 => ((¬ rz12 = 0 → ∀ vz14 : Int32, vz14 = l4 + 1 → R9 l1 l2 l3 vz14 Cz11) ∧ (rz12 = 0 → K59 Cz11)))))) ∧ (l4 = 1 → vp_in l4 (z_tlen (z_tkx.getD i0 0)) ∧ ((¬ (z_tchr (z_tkx.getD i0 0) l4.toNatClampNeg) = 72 → ∀ vz18 : Int32, vz18 = l4 + 1 → R9 l1 l2 l3 vz18 C) ∧ ((z_tchr (z_tkx.getD i0 0) l4.toNatClampNeg) = 72 → p_X10_isHand l2 C (fun rz20 Cz19 => ((¬ rz20 = 0 → ∀ vz22 : Int32, vz22 = l4 + 1 → R9 l1 l2 l3 vz22 Cz19) ∧ (rz20 = 0 → K59 Cz19)))))))) ∧ (l4 = 0 → vp_in l4 (z_tlen (z_tkx.getD i0 0)) ∧ ((¬ (z_tchr (z_tkx.getD i0 0) l4.toNatClampNeg) = 72 → ∀ vz26 : Int32, vz26 = l4 + 1 → R9 l1 l2 l3 vz26 C) ∧ ((z_tchr (z_tkx.getD i0 0) l4.toNatClampNeg) = 72 → p_X10_isHand l1 C (fun rz28 Cz27 => ((¬ rz28 = 0 → ∀ vz30 : Int32, vz30 = l4 + 1 → R9 l1 l2 l3 vz30 Cz27) ∧ (rz28 = 0 → K59 Cz27)))))))))
def w_X10_handsFit_3 (i0 : Nat) (Q : Int32 → cS → Prop) (K59 : cS → Prop) (K67 : cS → Prop) : Nat → Int32 → Int32 → Int32 → Int32 → cS → Prop
 | 0 => fun _ _ _ _ _ => False
 | n + 1 => fun l1 l2 l3 l4 C => b_X10_handsFit_3 i0 (w_X10_handsFit_3 i0 Q K59 K67 n) Q K59 K67 l1 l2 l3 l4 C
set_option maxRecDepth 100000 in
set_option maxHeartbeats 4000000 in
theorem tb_X10_handsFit_3 (tg : Bool) (M : mS) (o : Nat → Int64) (X : List va_E) (i0 : Nat) (R9 : Int32 → Int32 → Int32 → Int32 → cS → Prop) (Q : Int32 → cS → Prop) (K59 : cS → Prop) (K67 : cS → Prop) (hR9 : ∀ (l1 : Int32) (l2 : Int32) (l3 : Int32) (l4 : Int32) (C : cS), R9 l1 l2 l3 l4 C → z_go q_X10_handsFit tg 3 [(1, .int l1), (2, .int l2), (3, .int l3), (4, .int l4), (0, .ref (2 + i0))] [] (wz C M o X) 0 0 (zc_i M o X Q)) (hK59 : ∀ (C : cS), K59 C → z_go q_X10_handsFit tg 59 [] [] (wz C M o X) 0 0 (zc_i M o X Q)) (hK67 : ∀ (C : cS), K67 C → z_go q_X10_handsFit tg 67 [] [] (wz C M o X) 0 0 (zc_i M o X Q)) (l1 : Int32) (l2 : Int32) (l3 : Int32) (l4 : Int32) (C : cS) (h : b_X10_handsFit_3 i0 R9 Q K59 K67 l1 l2 l3 l4 C) : z_go q_X10_handsFit tg 3 [(1, .int l1), (2, .int l2), (3, .int l3), (4, .int l4), (0, .ref (2 + i0))] [] (wz C M o X) 0 0 (zc_i M o X Q) := by
  unfold b_X10_handsFit_3 at h
  refine z_iload 3 5 dX10_handsFit_3 rfl rfl ?_
  refine z_aload_n 4 6 dX10_handsFit_5 rfl rfl ?_
  obtain ⟨hqz1, h⟩ := h
  refine z_getX i0 9 dX10_handsFit_6 (List.mem_of_getElem? (i := 2) rfl) hqz1 rfl ol_X10_240 rfl ?_
  obtain ⟨hqz2, h⟩ := h
  refine z_kiV [] 12 dX10_handsFit_9 ok_X10_handsFit_246 rfl rfl (Nat.le_of_ble_eq_true rfl) (z_recvX (z_tkx.getD i0 0) (List.mem_of_getElem? (i := 1) rfl) hqz2 rfl) ⟨rfl, rfl⟩ ⟨Nat.le_refl _, Nat.le_refl _⟩ rfl (t_len tg (z_tkx.getD i0 0) _ hqz2) (fun rz3 hrz3 => ?_)
  subst hrz3
  refine z_icmp_ge 67 15 dX10_handsFit_12 rfl rfl (fun hcz4 => ?_) (fun hcz4 => ?_)
  · replace h := h.1 hcz4
    refine z_pick [] [] rfl ?_
    exact hK67  C h
  · replace h := h.2 hcz4
    refine z_iload 3 17 dX10_handsFit_15 rfl rfl ?_
    refine z_if_ne 24 20 dX10_handsFit_17 rfl rfl (fun hcz5 => ?_) (fun hcz5 => ?_)
    · replace h := h.1 hcz5
      refine z_iload 3 26 dX10_handsFit_24 rfl rfl ?_
      refine z_iconst 1 27 dX10_handsFit_26 rfl rfl ?_
      refine z_icmp_ne 34 30 dX10_handsFit_27 rfl rfl (fun hcz6 => ?_) (fun hcz6 => ?_)
      · replace h := h.1 hcz6
        refine z_iload_n 2 35 dX10_handsFit_34 rfl rfl ?_
        refine z_istore [(5, .int l3), (1, .int l1), (2, .int l2), (3, .int l3), (4, .int l4), (0, .ref (2 + i0))] 37 dX10_handsFit_35 (Nat.le_of_ble_eq_true rfl) rfl rfl ?_
        refine z_aload_n 5 38 dX10_handsFit_37 rfl rfl ?_
        refine z_getX i0 41 dX10_handsFit_38 (List.mem_of_getElem? (i := 2) rfl) hqz1 rfl ol_X10_240 rfl ?_
        refine z_iload 4 43 dX10_handsFit_41 rfl rfl ?_
        obtain ⟨hbz7, h⟩ := h
        refine z_kiV [.int l4] 46 dX10_handsFit_43 ok_X10_handsFit_250 rfl rfl (Nat.le_of_ble_eq_true rfl) (z_recvX (z_tkx.getD i0 0) (List.mem_of_getElem? (i := 1) rfl) hqz2 rfl) ⟨rfl, rfl⟩ ⟨Nat.le_refl _, Nat.le_refl _⟩ rfl (t_chr tg (z_tkx.getD i0 0) l4 _ hqz2 hbz7) (fun rz8 hrz8 => ?_)
        subst hrz8
        refine z_bipush 72 48 dX10_handsFit_46 rfl rfl ?_
        refine z_icmp_ne 61 51 dX10_handsFit_48 rfl rfl (fun hcz9 => ?_) (fun hcz9 => ?_)
        · replace h := h.1 hcz9
          obtain ⟨vz10, hvz10⟩ : ∃ v : Int32, v = l4 + 1 := ⟨_, rfl⟩
          replace h := h vz10 hvz10
          refine z_iinc vz10 [(4, .int vz10), (5, .int l3), (1, .int l1), (2, .int l2), (3, .int l3), (0, .ref (2 + i0))] 4 64 dX10_handsFit_61 rfl hvz10.symm (Nat.le_of_ble_eq_true rfl) rfl rfl ?_
          refine z_goto 3 dX10_handsFit_64 rfl ?_
          refine z_pick [(1, .int l1), (2, .int l2), (3, .int l3), (4, .int vz10), (0, .ref (2 + i0))] [2, 3, 4, 0, 5] rfl ?_
          exact hR9 l1 l2 l3 vz10 C h
        · replace h := h.2 hcz9
          refine z_iload 0 53 dX10_handsFit_51 rfl rfl ?_
          refine z_ciS [.int l3] 56 dX10_handsFit_53 ok_X10_handsFit_199 rfl rfl (Nat.le_of_ble_eq_true rfl) ⟨rfl, rfl⟩ ⟨Nat.le_refl _, Nat.le_refl _⟩ rfl (t_X10_isHand tg M o X l3 C _ h) (fun rz12 Cz11 h => ?_)
          refine z_if_ne 61 59 dX10_handsFit_56 rfl rfl (fun hcz13 => ?_) (fun hcz13 => ?_)
          · replace h := h.1 hcz13
            obtain ⟨vz14, hvz14⟩ : ∃ v : Int32, v = l4 + 1 := ⟨_, rfl⟩
            replace h := h vz14 hvz14
            refine z_iinc vz14 [(4, .int vz14), (5, .int l3), (1, .int l1), (2, .int l2), (3, .int l3), (0, .ref (2 + i0))] 4 64 dX10_handsFit_61 rfl hvz14.symm (Nat.le_of_ble_eq_true rfl) rfl rfl ?_
            refine z_goto 3 dX10_handsFit_64 rfl ?_
            refine z_pick [(1, .int l1), (2, .int l2), (3, .int l3), (4, .int vz14), (0, .ref (2 + i0))] [2, 3, 4, 0, 5] rfl ?_
            exact hR9 l1 l2 l3 vz14 Cz11 h
          · replace h := h.2 hcz13
            refine z_pick [] [] rfl ?_
            exact hK59  Cz11 h
      · replace h := h.2 hcz6
        refine z_iload_n 1 31 dX10_handsFit_30 rfl rfl ?_
        refine z_goto 35 dX10_handsFit_31 rfl ?_
        refine z_istore [(5, .int l2), (1, .int l1), (2, .int l2), (3, .int l3), (4, .int l4), (0, .ref (2 + i0))] 37 dX10_handsFit_35 (Nat.le_of_ble_eq_true rfl) rfl rfl ?_
        refine z_aload_n 5 38 dX10_handsFit_37 rfl rfl ?_
        refine z_getX i0 41 dX10_handsFit_38 (List.mem_of_getElem? (i := 2) rfl) hqz1 rfl ol_X10_240 rfl ?_
        refine z_iload 4 43 dX10_handsFit_41 rfl rfl ?_
        obtain ⟨hbz15, h⟩ := h
        refine z_kiV [.int l4] 46 dX10_handsFit_43 ok_X10_handsFit_250 rfl rfl (Nat.le_of_ble_eq_true rfl) (z_recvX (z_tkx.getD i0 0) (List.mem_of_getElem? (i := 1) rfl) hqz2 rfl) ⟨rfl, rfl⟩ ⟨Nat.le_refl _, Nat.le_refl _⟩ rfl (t_chr tg (z_tkx.getD i0 0) l4 _ hqz2 hbz15) (fun rz16 hrz16 => ?_)
        subst hrz16
        refine z_bipush 72 48 dX10_handsFit_46 rfl rfl ?_
        refine z_icmp_ne 61 51 dX10_handsFit_48 rfl rfl (fun hcz17 => ?_) (fun hcz17 => ?_)
        · replace h := h.1 hcz17
          obtain ⟨vz18, hvz18⟩ : ∃ v : Int32, v = l4 + 1 := ⟨_, rfl⟩
          replace h := h vz18 hvz18
          refine z_iinc vz18 [(4, .int vz18), (5, .int l2), (1, .int l1), (2, .int l2), (3, .int l3), (0, .ref (2 + i0))] 4 64 dX10_handsFit_61 rfl hvz18.symm (Nat.le_of_ble_eq_true rfl) rfl rfl ?_
          refine z_goto 3 dX10_handsFit_64 rfl ?_
          refine z_pick [(1, .int l1), (2, .int l2), (3, .int l3), (4, .int vz18), (0, .ref (2 + i0))] [2, 3, 4, 0, 5] rfl ?_
          exact hR9 l1 l2 l3 vz18 C h
        · replace h := h.2 hcz17
          refine z_iload 0 53 dX10_handsFit_51 rfl rfl ?_
          refine z_ciS [.int l2] 56 dX10_handsFit_53 ok_X10_handsFit_199 rfl rfl (Nat.le_of_ble_eq_true rfl) ⟨rfl, rfl⟩ ⟨Nat.le_refl _, Nat.le_refl _⟩ rfl (t_X10_isHand tg M o X l2 C _ h) (fun rz20 Cz19 h => ?_)
          refine z_if_ne 61 59 dX10_handsFit_56 rfl rfl (fun hcz21 => ?_) (fun hcz21 => ?_)
          · replace h := h.1 hcz21
            obtain ⟨vz22, hvz22⟩ : ∃ v : Int32, v = l4 + 1 := ⟨_, rfl⟩
            replace h := h vz22 hvz22
            refine z_iinc vz22 [(4, .int vz22), (5, .int l2), (1, .int l1), (2, .int l2), (3, .int l3), (0, .ref (2 + i0))] 4 64 dX10_handsFit_61 rfl hvz22.symm (Nat.le_of_ble_eq_true rfl) rfl rfl ?_
            refine z_goto 3 dX10_handsFit_64 rfl ?_
            refine z_pick [(1, .int l1), (2, .int l2), (3, .int l3), (4, .int vz22), (0, .ref (2 + i0))] [2, 3, 4, 0, 5] rfl ?_
            exact hR9 l1 l2 l3 vz22 Cz19 h
          · replace h := h.2 hcz21
            refine z_pick [] [] rfl ?_
            exact hK59  Cz19 h
    · replace h := h.2 hcz5
      refine z_iload_n 0 21 dX10_handsFit_20 rfl rfl ?_
      refine z_goto 35 dX10_handsFit_21 rfl ?_
      refine z_istore [(5, .int l1), (1, .int l1), (2, .int l2), (3, .int l3), (4, .int l4), (0, .ref (2 + i0))] 37 dX10_handsFit_35 (Nat.le_of_ble_eq_true rfl) rfl rfl ?_
      refine z_aload_n 5 38 dX10_handsFit_37 rfl rfl ?_
      refine z_getX i0 41 dX10_handsFit_38 (List.mem_of_getElem? (i := 2) rfl) hqz1 rfl ol_X10_240 rfl ?_
      refine z_iload 4 43 dX10_handsFit_41 rfl rfl ?_
      obtain ⟨hbz23, h⟩ := h
      refine z_kiV [.int l4] 46 dX10_handsFit_43 ok_X10_handsFit_250 rfl rfl (Nat.le_of_ble_eq_true rfl) (z_recvX (z_tkx.getD i0 0) (List.mem_of_getElem? (i := 1) rfl) hqz2 rfl) ⟨rfl, rfl⟩ ⟨Nat.le_refl _, Nat.le_refl _⟩ rfl (t_chr tg (z_tkx.getD i0 0) l4 _ hqz2 hbz23) (fun rz24 hrz24 => ?_)
      subst hrz24
      refine z_bipush 72 48 dX10_handsFit_46 rfl rfl ?_
      refine z_icmp_ne 61 51 dX10_handsFit_48 rfl rfl (fun hcz25 => ?_) (fun hcz25 => ?_)
      · replace h := h.1 hcz25
        obtain ⟨vz26, hvz26⟩ : ∃ v : Int32, v = l4 + 1 := ⟨_, rfl⟩
        replace h := h vz26 hvz26
        refine z_iinc vz26 [(4, .int vz26), (5, .int l1), (1, .int l1), (2, .int l2), (3, .int l3), (0, .ref (2 + i0))] 4 64 dX10_handsFit_61 rfl hvz26.symm (Nat.le_of_ble_eq_true rfl) rfl rfl ?_
        refine z_goto 3 dX10_handsFit_64 rfl ?_
        refine z_pick [(1, .int l1), (2, .int l2), (3, .int l3), (4, .int vz26), (0, .ref (2 + i0))] [2, 3, 4, 0, 5] rfl ?_
        exact hR9 l1 l2 l3 vz26 C h
      · replace h := h.2 hcz25
        refine z_iload 0 53 dX10_handsFit_51 rfl rfl ?_
        refine z_ciS [.int l1] 56 dX10_handsFit_53 ok_X10_handsFit_199 rfl rfl (Nat.le_of_ble_eq_true rfl) ⟨rfl, rfl⟩ ⟨Nat.le_refl _, Nat.le_refl _⟩ rfl (t_X10_isHand tg M o X l1 C _ h) (fun rz28 Cz27 h => ?_)
        refine z_if_ne 61 59 dX10_handsFit_56 rfl rfl (fun hcz29 => ?_) (fun hcz29 => ?_)
        · replace h := h.1 hcz29
          obtain ⟨vz30, hvz30⟩ : ∃ v : Int32, v = l4 + 1 := ⟨_, rfl⟩
          replace h := h vz30 hvz30
          refine z_iinc vz30 [(4, .int vz30), (5, .int l1), (1, .int l1), (2, .int l2), (3, .int l3), (0, .ref (2 + i0))] 4 64 dX10_handsFit_61 rfl hvz30.symm (Nat.le_of_ble_eq_true rfl) rfl rfl ?_
          refine z_goto 3 dX10_handsFit_64 rfl ?_
          refine z_pick [(1, .int l1), (2, .int l2), (3, .int l3), (4, .int vz30), (0, .ref (2 + i0))] [2, 3, 4, 0, 5] rfl ?_
          exact hR9 l1 l2 l3 vz30 Cz27 h
        · replace h := h.2 hcz29
          refine z_pick [] [] rfl ?_
          exact hK59  Cz27 h
theorem tw_X10_handsFit_3 (tg : Bool) (M : mS) (o : Nat → Int64) (X : List va_E) (i0 : Nat) (Q : Int32 → cS → Prop) (K59 : cS → Prop) (K67 : cS → Prop) (hK59 : ∀ (C : cS), K59 C → z_go q_X10_handsFit tg 59 [] [] (wz C M o X) 0 0 (zc_i M o X Q)) (hK67 : ∀ (C : cS), K67 C → z_go q_X10_handsFit tg 67 [] [] (wz C M o X) 0 0 (zc_i M o X Q)) : ∀ (n : Nat) (l1 : Int32) (l2 : Int32) (l3 : Int32) (l4 : Int32) (C : cS), w_X10_handsFit_3 i0 Q K59 K67 n l1 l2 l3 l4 C → z_go q_X10_handsFit tg 3 [(1, .int l1), (2, .int l2), (3, .int l3), (4, .int l4), (0, .ref (2 + i0))] [] (wz C M o X) 0 0 (zc_i M o X Q) := by
  intro n
  induction n with
  | zero => intro l1 l2 l3 l4 C h; exact h.elim
  | succ n ih => intro l1 l2 l3 l4 C h; exact tb_X10_handsFit_3 tg M o X i0 _ Q K59 K67 ih hK59 hK67 l1 l2 l3 l4 C h
def p_X10_handsFit (i0 : Nat) (a1 : Int32) (a2 : Int32) (a3 : Int32) (C : cS) (Q : Int32 → cS → Prop) : Prop :=
  ∃ nz33 : Nat, w_X10_handsFit_3 i0 Q (fun Cz31 => Q 0 Cz31) (fun Cz32 => Q 1 Cz32) nz33 a1 a2 a3 0 C
set_option maxRecDepth 100000 in
set_option maxHeartbeats 4000000 in
theorem t_X10_handsFit (tg : Bool) (M : mS) (o : Nat → Int64) (X : List va_E) (i0 : Nat) (a1 : Int32) (a2 : Int32) (a3 : Int32) (C : cS) (Q : Int32 → cS → Prop) (h : p_X10_handsFit i0 a1 a2 a3 C Q) : z_M q_X10_handsFit tg [.ref (2 + i0), .int a1, .int a2, .int a3] (wz C M o X) (zc_i M o X Q) := by
  unfold p_X10_handsFit at h
  refine z_enter (by decide) (Nat.le_of_ble_eq_true rfl) ?_
  refine z_iconst 0 1 dX10_handsFit_0 rfl rfl ?_
  refine z_istore [(4, .int 0), (0, .ref (2 + i0)), (1, .int a1), (2, .int a2), (3, .int a3)] 3 dX10_handsFit_1 (Nat.le_of_ble_eq_true rfl) rfl rfl ?_
  obtain ⟨nz33, h⟩ := h
  refine z_pick [(1, .int a1), (2, .int a2), (3, .int a3), (4, .int 0), (0, .ref (2 + i0))] [2, 3, 4, 0, 1] rfl ?_
  refine tw_X10_handsFit_3 tg M o X i0 Q _ _ (fun Cz31 h => ?_) (fun Cz32 h => ?_) nz33 a1 a2 a3 0 C h
  · refine z_iconst 0 60 dX10_handsFit_59 rfl rfl ?_
    exact z_zret dX10_handsFit_60 rfl rfl ⟨Nat.le_refl _, Nat.le_refl _⟩ ⟨0, Cz31, rfl, rfl, h⟩
  · refine z_iconst 1 68 dX10_handsFit_67 rfl rfl ?_
    exact z_zret dX10_handsFit_68 rfl rfl ⟨Nat.le_refl _, Nat.le_refl _⟩ ⟨1, Cz32, rfl, rfl, h⟩
def p_X10_act (a1 : Int32) (a2 : Int32) (a3 : Int32) (a4 : Int32) (C : cS) (Q : Int32 → cS → Prop) : Prop :=
  ((a1 < 0 → Q (-1) C) ∧ (¬ a1 < 0 → ((a1 ≤ 19 → vp_in a1 26 ∧ ∀ tz4 : Nat, tz4 = a1.toNatClampNeg → p_X10_handsFit tz4 a2 a3 a4 C (fun rz6 Cz5 => ((rz6 = 0 → Q (-1) Cz5) ∧ (¬ rz6 = 0 → p_X2_perform tz4 a2 a3 a4 Cz5 (fun rz9 Cz8 => Q rz9 Cz8))))) ∧ (¬ a1 ≤ 19 → Q (-1) C))))
set_option maxRecDepth 100000 in
set_option maxHeartbeats 4000000 in
theorem t_X10_act (_ : Bool) (M : mS) (o : Nat → Int64) (X : List va_E) (a1 : Int32) (a2 : Int32) (a3 : Int32) (a4 : Int32) (C : cS) (Q : Int32 → cS → Prop) (h : p_X10_act a1 a2 a3 a4 C Q) : z_M q_X10_act false [.ref 200, .int a1, .int a2, .int a3, .int a4] (wz C M o X) (zc_i M o X Q) := by
  unfold p_X10_act at h
  refine z_enter (by decide) (Nat.le_of_ble_eq_true rfl) ?_
  refine z_iload_n 1 1 dX10_act_0 rfl rfl ?_
  refine z_if_lt 10 4 dX10_act_1 rfl rfl (fun hcz1 => ?_) (fun hcz1 => ?_)
  · replace h := h.1 hcz1
    refine z_iconst (-1) 11 dX10_act_10 rfl rfl ?_
    exact z_iret dX10_act_11 rfl ⟨Nat.le_refl _, Nat.le_refl _⟩ ⟨(-1), C, rfl, rfl, h⟩
  · replace h := h.2 hcz1
    refine z_iload_n 1 5 dX10_act_4 rfl rfl ?_
    refine z_bipush 19 7 dX10_act_5 rfl rfl ?_
    refine z_icmp_le 12 10 dX10_act_7 rfl rfl (fun hcz2 => ?_) (fun hcz2 => ?_)
    · replace h := h.1 hcz2
      refine z_gets (.ref 1) 15 dX10_act_12 (List.mem_of_getElem? (i := 0) rfl) ol_X10_160 rfl ?_
      refine z_iload_n 1 16 dX10_act_15 rfl rfl ?_
      obtain ⟨hbz3, h⟩ := h
      refine z_taald 0 17 dX10_act_16 (List.mem_of_getElem? (i := 0) rfl) (Nat.lt_succ_self 0) rfl hbz3 rfl ?_
      obtain ⟨tz4, htz4⟩ : ∃ t : Nat, t = a1.toNatClampNeg := ⟨_, rfl⟩
      replace h := h tz4 htz4
      rw [← htz4]
      refine z_astore [(5, .ref (2 + tz4)), (0, .ref 200), (1, .int a1), (2, .int a2), (3, .int a3), (4, .int a4)] 19 dX10_act_17 (Nat.le_of_ble_eq_true rfl) rfl rfl ?_
      refine z_aload 0 21 dX10_act_19 rfl rfl ?_
      refine z_iload_n 3 22 dX10_act_21 rfl rfl ?_
      refine z_iload_n 4 23 dX10_act_22 rfl rfl ?_
      refine z_iload 5 25 dX10_act_23 rfl rfl ?_
      refine z_ciS [.ref (2 + tz4), .int a2, .int a3, .int a4] 28 dX10_act_25 ok_X10_act_164 rfl rfl (Nat.le_of_ble_eq_true rfl) ⟨rfl, rfl⟩ ⟨Nat.le_refl _, Nat.le_refl _⟩ rfl (t_X10_handsFit false M o X tz4 a2 a3 a4 C _ h) (fun rz6 Cz5 h => ?_)
      refine z_if_eq 47 31 dX10_act_28 rfl rfl (fun hcz7 => ?_) (fun hcz7 => ?_)
      · replace h := h.1 hcz7
        refine z_iconst (-1) 48 dX10_act_47 rfl rfl ?_
        exact z_iret dX10_act_48 rfl ⟨Nat.le_refl _, Nat.le_refl _⟩ ⟨(-1), Cz5, rfl, rfl, h⟩
      · replace h := h.2 hcz7
        refine z_aload_n 1 32 dX10_act_31 rfl rfl ?_
        refine gr_0_8 35 dX10_act_32 of_X10_48 rfl ?_
        refine z_aload 0 37 dX10_act_35 rfl rfl ?_
        refine z_iload_n 3 38 dX10_act_37 rfl rfl ?_
        refine z_iload_n 4 39 dX10_act_38 rfl rfl ?_
        refine z_iload 5 41 dX10_act_39 rfl rfl ?_
        refine z_ciV [.ref (2 + tz4), .int a2, .int a3, .int a4] 44 dX10_act_41 ok_X10_act_168 rfl rfl (Nat.le_of_ble_eq_true rfl) rc_24 ⟨rfl, rfl⟩ ⟨Nat.le_refl _, Nat.le_refl _⟩ rfl (t_X2_perform false M o X tz4 a2 a3 a4 Cz5 _ h) (fun rz9 Cz8 h => ?_)
        refine z_goto 48 dX10_act_44 rfl ?_
        exact z_iret dX10_act_48 rfl ⟨Nat.le_refl _, Nat.le_refl _⟩ ⟨rz9, Cz8, rfl, rfl, h⟩
    · replace h := h.2 hcz2
      refine z_iconst (-1) 11 dX10_act_10 rfl rfl ?_
      exact z_iret dX10_act_11 rfl ⟨Nat.le_refl _, Nat.le_refl _⟩ ⟨(-1), C, rfl, rfl, h⟩
def p_X10_pass (a1 : Int32) (C : cS) (Q : Int32 → cS → Prop) : Prop :=
  ((a1 < 0 → Q (-1) C) ∧ (¬ a1 < 0 → ((a1 ≤ 1000 → p_X3_passWords a1 C (fun rz4 Cz3 => Q rz4 Cz3)) ∧ (¬ a1 ≤ 1000 → Q (-1) C))))
set_option maxRecDepth 100000 in
set_option maxHeartbeats 4000000 in
theorem t_X10_pass (_ : Bool) (M : mS) (o : Nat → Int64) (X : List va_E) (a1 : Int32) (C : cS) (Q : Int32 → cS → Prop) (h : p_X10_pass a1 C Q) : z_M q_X10_pass false [.ref 200, .int a1] (wz C M o X) (zc_i M o X Q) := by
  unfold p_X10_pass at h
  refine z_enter (by decide) (Nat.le_of_ble_eq_true rfl) ?_
  refine z_iload_n 1 1 dX10_pass_0 rfl rfl ?_
  refine z_if_lt 11 4 dX10_pass_1 rfl rfl (fun hcz1 => ?_) (fun hcz1 => ?_)
  · replace h := h.1 hcz1
    refine z_iconst (-1) 12 dX10_pass_11 rfl rfl ?_
    refine z_goto 23 dX10_pass_12 rfl ?_
    exact z_iret dX10_pass_23 rfl ⟨Nat.le_refl _, Nat.le_refl _⟩ ⟨(-1), C, rfl, rfl, h⟩
  · replace h := h.2 hcz1
    refine z_iload_n 1 5 dX10_pass_4 rfl rfl ?_
    refine z_sipush 1000 8 dX10_pass_5 rfl rfl ?_
    refine z_icmp_le 15 11 dX10_pass_8 rfl rfl (fun hcz2 => ?_) (fun hcz2 => ?_)
    · replace h := h.1 hcz2
      refine z_aload_n 0 16 dX10_pass_15 rfl rfl ?_
      refine gr_0_7 19 dX10_pass_16 of_X10_39 rfl ?_
      refine z_iload_n 1 20 dX10_pass_19 rfl rfl ?_
      refine z_ciV [.int a1] 23 dX10_pass_20 ok_X10_pass_172 rfl rfl (Nat.le_of_ble_eq_true rfl) rc_18 ⟨rfl, rfl⟩ ⟨Nat.le_refl _, Nat.le_refl _⟩ rfl (t_X3_passWords false M o X a1 C _ h) (fun rz4 Cz3 h => ?_)
      exact z_iret dX10_pass_23 rfl ⟨Nat.le_refl _, Nat.le_refl _⟩ ⟨rz4, Cz3, rfl, rfl, h⟩
    · replace h := h.2 hcz2
      refine z_iconst (-1) 12 dX10_pass_11 rfl rfl ?_
      refine z_goto 23 dX10_pass_12 rfl ?_
      exact z_iret dX10_pass_23 rfl ⟨Nat.le_refl _, Nat.le_refl _⟩ ⟨(-1), C, rfl, rfl, h⟩
def p_X10_turn (C : cS) (Q : Int32 → cS → Prop) : Prop :=
  (((c_i C 13) ≤ (c_i C 14) → p_X3_turnOver C (fun Cz2 => Q 1 Cz2)) ∧ (¬ (c_i C 13) ≤ (c_i C 14) → Q 0 C))
set_option maxRecDepth 100000 in
set_option maxHeartbeats 4000000 in
theorem t_X10_turn (_ : Bool) (M : mS) (o : Nat → Int64) (X : List va_E) (C : cS) (Q : Int32 → cS → Prop) (h : p_X10_turn C Q) : z_M q_X10_turn false [.ref 200] (wz C M o X) (zc_i M o X Q) := by
  unfold p_X10_turn at h
  refine z_enter (by decide) (Nat.le_of_ble_eq_true rfl) ?_
  refine z_aload_n 0 1 dX10_turn_0 rfl rfl ?_
  refine gr_0_7 4 dX10_turn_1 of_X10_39 rfl ?_
  refine gci_14 (c_i C 14) 7 dX10_turn_4 of_X10_176 rfl rfl ?_
  refine z_aload_n 0 8 dX10_turn_7 rfl rfl ?_
  refine gr_0_7 11 dX10_turn_8 of_X10_39 rfl ?_
  refine gci_13 (c_i C 13) 14 dX10_turn_11 of_X10_179 rfl rfl ?_
  refine z_icmp_ge 19 17 dX10_turn_14 rfl rfl (fun hcz1 => ?_) (fun hcz1 => ?_)
  · replace h := h.1 hcz1
    refine z_aload_n 0 20 dX10_turn_19 rfl rfl ?_
    refine gr_0_7 23 dX10_turn_20 of_X10_39 rfl ?_
    refine z_cvV [] 26 dX10_turn_23 ok_X10_turn_182 rfl rfl (Nat.le_of_ble_eq_true rfl) rc_18 ⟨rfl, rfl⟩ ⟨Nat.le_refl _, Nat.le_refl _⟩ rfl (t_X3_turnOver false M o X  C _ h) (fun Cz2 h => ?_)
    refine z_iconst 1 27 dX10_turn_26 rfl rfl ?_
    exact z_zret dX10_turn_27 rfl rfl ⟨Nat.le_refl _, Nat.le_refl _⟩ ⟨1, Cz2, rfl, rfl, h⟩
  · replace h := h.2 hcz1
    refine z_iconst 0 18 dX10_turn_17 rfl rfl ?_
    exact z_zret dX10_turn_18 rfl rfl ⟨Nat.le_refl _, Nat.le_refl _⟩ ⟨0, C, rfl, rfl, h⟩
def p_X10_memory (a1 : Int32) (C : cS) (Q : Int32 → cS → Prop) : Prop :=
  ((a1 = 0 → Q (c_i C 13) C) ∧ (¬ a1 = 0 → ((a1 = 1 → Q (c_i C 14) C) ∧ (¬ a1 = 1 → ((a1 = 2 → Q (c_i C 15) C) ∧ (¬ a1 = 2 → ((a1 = 3 → Q (c_i C 12) C) ∧ (¬ a1 = 3 → ((a1 = 13 → Q (c_i C 9) C) ∧ (¬ a1 = 13 → ((a1 = 14 → Q (c_i C 10) C) ∧ (¬ a1 = 14 → p_X3_count a1 C (fun rz8 Cz7 => Q rz8 Cz7)))))))))))))
set_option maxRecDepth 100000 in
set_option maxHeartbeats 4000000 in
theorem t_X10_memory (tg : Bool) (M : mS) (o : Nat → Int64) (X : List va_E) (a1 : Int32) (C : cS) (Q : Int32 → cS → Prop) (h : p_X10_memory a1 C Q) : z_M q_X10_memory tg [.ref 200, .int a1] (wz C M o X) (zc_i M o X Q) := by
  unfold p_X10_memory at h
  refine z_enter (by decide) (Nat.le_of_ble_eq_true rfl) ?_
  refine z_iload_n 1 1 dX10_memory_0 rfl rfl ?_
  by_cases hcz1 : a1 = 0
  · replace h := h.1 hcz1
    refine z_tabIn 76 dX10_memory_1 (by rw [hcz1]; decide) (by rw [hcz1]; decide) (by rw [hcz1]; rfl) rfl ?_
    refine z_aload_n 0 77 dX10_memory_76 rfl rfl ?_
    refine gr_0_7 80 dX10_memory_77 of_X10_39 rfl ?_
    refine gci_13 (c_i C 13) 83 dX10_memory_80 of_X10_179 rfl rfl ?_
    exact z_iret dX10_memory_83 rfl ⟨Nat.le_refl _, Nat.le_refl _⟩ ⟨c_i C 13, C, rfl, rfl, h⟩
  · replace h := h.2 hcz1
    by_cases hcz2 : a1 = 1
    · replace h := h.1 hcz2
      refine z_tabIn 84 dX10_memory_1 (by rw [hcz2]; decide) (by rw [hcz2]; decide) (by rw [hcz2]; rfl) rfl ?_
      refine z_aload_n 0 85 dX10_memory_84 rfl rfl ?_
      refine gr_0_7 88 dX10_memory_85 of_X10_39 rfl ?_
      refine gci_14 (c_i C 14) 91 dX10_memory_88 of_X10_176 rfl rfl ?_
      exact z_iret dX10_memory_91 rfl ⟨Nat.le_refl _, Nat.le_refl _⟩ ⟨c_i C 14, C, rfl, rfl, h⟩
    · replace h := h.2 hcz2
      by_cases hcz3 : a1 = 2
      · replace h := h.1 hcz3
        refine z_tabIn 92 dX10_memory_1 (by rw [hcz3]; decide) (by rw [hcz3]; decide) (by rw [hcz3]; rfl) rfl ?_
        refine z_aload_n 0 93 dX10_memory_92 rfl rfl ?_
        refine gr_0_7 96 dX10_memory_93 of_X10_39 rfl ?_
        refine gci_15 (c_i C 15) 99 dX10_memory_96 of_X10_185 rfl rfl ?_
        exact z_iret dX10_memory_99 rfl ⟨Nat.le_refl _, Nat.le_refl _⟩ ⟨c_i C 15, C, rfl, rfl, h⟩
      · replace h := h.2 hcz3
        by_cases hcz4 : a1 = 3
        · replace h := h.1 hcz4
          refine z_tabIn 100 dX10_memory_1 (by rw [hcz4]; decide) (by rw [hcz4]; decide) (by rw [hcz4]; rfl) rfl ?_
          refine z_aload_n 0 101 dX10_memory_100 rfl rfl ?_
          refine gr_0_7 104 dX10_memory_101 of_X10_39 rfl ?_
          refine gci_12 (c_i C 12) 107 dX10_memory_104 of_X10_188 rfl rfl ?_
          exact z_iret dX10_memory_107 rfl ⟨Nat.le_refl _, Nat.le_refl _⟩ ⟨c_i C 12, C, rfl, rfl, h⟩
        · replace h := h.2 hcz4
          by_cases hcz5 : a1 = 13
          · replace h := h.1 hcz5
            refine z_tabIn 108 dX10_memory_1 (by rw [hcz5]; decide) (by rw [hcz5]; decide) (by rw [hcz5]; rfl) rfl ?_
            refine z_aload_n 0 109 dX10_memory_108 rfl rfl ?_
            refine gr_0_7 112 dX10_memory_109 of_X10_39 rfl ?_
            refine gci_9 (c_i C 9) 115 dX10_memory_112 of_X10_191 rfl rfl ?_
            exact z_iret dX10_memory_115 rfl ⟨Nat.le_refl _, Nat.le_refl _⟩ ⟨c_i C 9, C, rfl, rfl, h⟩
          · replace h := h.2 hcz5
            by_cases hcz6 : a1 = 14
            · replace h := h.1 hcz6
              refine z_tabIn 116 dX10_memory_1 (by rw [hcz6]; decide) (by rw [hcz6]; decide) (by rw [hcz6]; rfl) rfl ?_
              refine z_aload_n 0 117 dX10_memory_116 rfl rfl ?_
              refine gr_0_7 120 dX10_memory_117 of_X10_39 rfl ?_
              refine gci_10 (c_i C 10) 123 dX10_memory_120 of_X10_194 rfl rfl ?_
              exact z_iret dX10_memory_123 rfl ⟨Nat.le_refl _, Nat.le_refl _⟩ ⟨c_i C 10, C, rfl, rfl, h⟩
            · replace h := h.2 hcz6
              refine z_tab [0, 1, 2, 3, 13, 14] 124 dX10_memory_1 (List.forall_mem_cons.mpr ⟨hcz1, (List.forall_mem_cons.mpr ⟨hcz2, (List.forall_mem_cons.mpr ⟨hcz3, (List.forall_mem_cons.mpr ⟨hcz4, (List.forall_mem_cons.mpr ⟨hcz5, (List.forall_mem_cons.mpr ⟨hcz6, (fun _ q9 => absurd q9 List.not_mem_nil)⟩)⟩)⟩)⟩)⟩)⟩) (by decide +kernel) (by decide) rfl ?_
              refine z_aload_n 0 125 dX10_memory_124 rfl rfl ?_
              refine gr_0_7 128 dX10_memory_125 of_X10_39 rfl ?_
              refine z_iload_n 1 129 dX10_memory_128 rfl rfl ?_
              refine z_ciV [.int a1] 132 dX10_memory_129 ok_X10_memory_197 rfl rfl (Nat.le_of_ble_eq_true rfl) rc_18 ⟨rfl, rfl⟩ ⟨Nat.le_refl _, Nat.le_refl _⟩ rfl (t_X3_count tg M o X a1 C _ h) (fun rz8 Cz7 h => ?_)
              exact z_iret dX10_memory_132 rfl ⟨Nat.le_refl _, Nat.le_refl _⟩ ⟨rz8, Cz7, rfl, rfl, h⟩
def p_X10_hand (a1 : Int32) (a2 : Int32) (C : cS) (Q : Int32 → cS → Prop) : Prop :=
  p_X10_isHand a1 C (fun rz2 Cz1 => ((rz2 = 0 → Q (-1) Cz1) ∧ (¬ rz2 = 0 → p_X3_aboutRoot a1 a2 Cz1 (fun rz5 Cz4 => Q rz5 Cz4))))
set_option maxRecDepth 100000 in
set_option maxHeartbeats 4000000 in
theorem t_X10_hand (tg : Bool) (M : mS) (o : Nat → Int64) (X : List va_E) (a1 : Int32) (a2 : Int32) (C : cS) (Q : Int32 → cS → Prop) (h : p_X10_hand a1 a2 C Q) : z_M q_X10_hand tg [.ref 200, .int a1, .int a2] (wz C M o X) (zc_i M o X Q) := by
  unfold p_X10_hand at h
  refine z_enter (by decide) (Nat.le_of_ble_eq_true rfl) ?_
  refine z_iload_n 1 1 dX10_hand_0 rfl rfl ?_
  refine z_ciS [.int a1] 4 dX10_hand_1 ok_X10_hand_199 rfl rfl (Nat.le_of_ble_eq_true rfl) ⟨rfl, rfl⟩ ⟨Nat.le_refl _, Nat.le_refl _⟩ rfl (t_X10_isHand tg M o X a1 C _ h) (fun rz2 Cz1 h => ?_)
  refine z_if_eq 19 7 dX10_hand_4 rfl rfl (fun hcz3 => ?_) (fun hcz3 => ?_)
  · replace h := h.1 hcz3
    refine z_iconst (-1) 20 dX10_hand_19 rfl rfl ?_
    exact z_iret dX10_hand_20 rfl ⟨Nat.le_refl _, Nat.le_refl _⟩ ⟨(-1), Cz1, rfl, rfl, h⟩
  · replace h := h.2 hcz3
    refine z_aload_n 0 8 dX10_hand_7 rfl rfl ?_
    refine gr_0_7 11 dX10_hand_8 of_X10_39 rfl ?_
    refine z_iload_n 1 12 dX10_hand_11 rfl rfl ?_
    refine z_iload_n 2 13 dX10_hand_12 rfl rfl ?_
    refine z_ciV [.int a1, .int a2] 16 dX10_hand_13 ok_X10_hand_202 rfl rfl (Nat.le_of_ble_eq_true rfl) rc_18 ⟨rfl, rfl⟩ ⟨Nat.le_refl _, Nat.le_refl _⟩ rfl (t_X3_aboutRoot tg M o X a1 a2 Cz1 _ h) (fun rz5 Cz4 h => ?_)
    refine z_goto 20 dX10_hand_16 rfl ?_
    exact z_iret dX10_hand_20 rfl ⟨Nat.le_refl _, Nat.le_refl _⟩ ⟨rz5, Cz4, rfl, rfl, h⟩
def p_X10_stack (a1 : Int32) (a2 : Int32) (C : cS) (Q : Int32 → cS → Prop) : Prop :=
  ((a1 < 0 → Q (-1) C) ∧ (¬ a1 < 0 → ((a1 < (c_i C 11) → p_X3_aboutRoot (8 + a1) a2 C (fun rz4 Cz3 => Q rz4 Cz3)) ∧ (¬ a1 < (c_i C 11) → Q (-1) C))))
set_option maxRecDepth 100000 in
set_option maxHeartbeats 4000000 in
theorem t_X10_stack (tg : Bool) (M : mS) (o : Nat → Int64) (X : List va_E) (a1 : Int32) (a2 : Int32) (C : cS) (Q : Int32 → cS → Prop) (h : p_X10_stack a1 a2 C Q) : z_M q_X10_stack tg [.ref 200, .int a1, .int a2] (wz C M o X) (zc_i M o X Q) := by
  unfold p_X10_stack at h
  refine z_enter (by decide) (Nat.le_of_ble_eq_true rfl) ?_
  refine z_iload_n 1 1 dX10_stack_0 rfl rfl ?_
  refine z_if_lt 15 4 dX10_stack_1 rfl rfl (fun hcz1 => ?_) (fun hcz1 => ?_)
  · replace h := h.1 hcz1
    refine z_iconst (-1) 16 dX10_stack_15 rfl rfl ?_
    refine z_goto 31 dX10_stack_16 rfl ?_
    exact z_iret dX10_stack_31 rfl ⟨Nat.le_refl _, Nat.le_refl _⟩ ⟨(-1), C, rfl, rfl, h⟩
  · replace h := h.2 hcz1
    refine z_iload_n 1 5 dX10_stack_4 rfl rfl ?_
    refine z_aload_n 0 6 dX10_stack_5 rfl rfl ?_
    refine gr_0_7 9 dX10_stack_6 of_X10_39 rfl ?_
    refine gci_11 (c_i C 11) 12 dX10_stack_9 of_X10_206 rfl rfl ?_
    refine z_icmp_lt 19 15 dX10_stack_12 rfl rfl (fun hcz2 => ?_) (fun hcz2 => ?_)
    · replace h := h.1 hcz2
      refine z_aload_n 0 20 dX10_stack_19 rfl rfl ?_
      refine gr_0_7 23 dX10_stack_20 of_X10_39 rfl ?_
      refine z_bipush 8 25 dX10_stack_23 rfl rfl ?_
      refine z_iload_n 1 26 dX10_stack_25 rfl rfl ?_
      refine z_iadd 27 dX10_stack_26 rfl ?_
      refine z_iload_n 2 28 dX10_stack_27 rfl rfl ?_
      refine z_ciV [.int (8 + a1), .int a2] 31 dX10_stack_28 ok_X10_stack_202 rfl rfl (Nat.le_of_ble_eq_true rfl) rc_18 ⟨rfl, rfl⟩ ⟨Nat.le_refl _, Nat.le_refl _⟩ rfl (t_X3_aboutRoot tg M o X (8 + a1) a2 C _ h) (fun rz4 Cz3 h => ?_)
      exact z_iret dX10_stack_31 rfl ⟨Nat.le_refl _, Nat.le_refl _⟩ ⟨rz4, Cz3, rfl, rfl, h⟩
    · replace h := h.2 hcz2
      refine z_iconst (-1) 16 dX10_stack_15 rfl rfl ?_
      refine z_goto 31 dX10_stack_16 rfl ?_
      exact z_iret dX10_stack_31 rfl ⟨Nat.le_refl _, Nat.le_refl _⟩ ⟨(-1), C, rfl, rfl, h⟩
def p_X10_slot (a1 : Int32) (a2 : Int32) (a3 : Int32) (C : cS) (Q : Int32 → cS → Prop) : Prop :=
  p_X10_isHand a1 C (fun rz2 Cz1 => ((rz2 = 0 → Q (-1) Cz1) ∧ (¬ rz2 = 0 → p_X3_slotOf a1 a2 Cz1 (fun rz5 Cz4 => ((¬ rz5 = (-1) → p_X3_aboutSlot rz5 a3 Cz4 (fun rz8 Cz7 => Q rz8 Cz7)) ∧ (rz5 = (-1) → Q (-1) Cz4))))))
set_option maxRecDepth 100000 in
set_option maxHeartbeats 4000000 in
theorem t_X10_slot (tg : Bool) (M : mS) (o : Nat → Int64) (X : List va_E) (a1 : Int32) (a2 : Int32) (a3 : Int32) (C : cS) (Q : Int32 → cS → Prop) (h : p_X10_slot a1 a2 a3 C Q) : z_M q_X10_slot tg [.ref 200, .int a1, .int a2, .int a3] (wz C M o X) (zc_i M o X Q) := by
  unfold p_X10_slot at h
  refine z_enter (by decide) (Nat.le_of_ble_eq_true rfl) ?_
  refine z_iload_n 1 1 dX10_slot_0 rfl rfl ?_
  refine z_ciS [.int a1] 4 dX10_slot_1 ok_X10_slot_199 rfl rfl (Nat.le_of_ble_eq_true rfl) ⟨rfl, rfl⟩ ⟨Nat.le_refl _, Nat.le_refl _⟩ rfl (t_X10_isHand tg M o X a1 C _ h) (fun rz2 Cz1 h => ?_)
  refine z_if_eq 19 7 dX10_slot_4 rfl rfl (fun hcz3 => ?_) (fun hcz3 => ?_)
  · replace h := h.1 hcz3
    refine z_iconst (-1) 20 dX10_slot_19 rfl rfl ?_
    refine z_istore [(4, .int (-1)), (0, .ref 200), (1, .int a1), (2, .int a2), (3, .int a3)] 22 dX10_slot_20 (Nat.le_of_ble_eq_true rfl) rfl rfl ?_
    refine z_iload 0 24 dX10_slot_22 rfl rfl ?_
    refine z_iconst (-1) 25 dX10_slot_24 rfl rfl ?_
    refine z_icmp_ne 32 28 dX10_slot_25 rfl rfl (fun hc => absurd hc (by decide)) (fun _ => ?_)
    refine z_iconst (-1) 29 dX10_slot_28 rfl rfl ?_
    refine z_goto 42 dX10_slot_29 rfl ?_
    exact z_iret dX10_slot_42 rfl ⟨Nat.le_refl _, Nat.le_refl _⟩ ⟨(-1), Cz1, rfl, rfl, h⟩
  · replace h := h.2 hcz3
    refine z_aload_n 0 8 dX10_slot_7 rfl rfl ?_
    refine gr_0_7 11 dX10_slot_8 of_X10_39 rfl ?_
    refine z_iload_n 1 12 dX10_slot_11 rfl rfl ?_
    refine z_iload_n 2 13 dX10_slot_12 rfl rfl ?_
    refine z_ciV [.int a1, .int a2] 16 dX10_slot_13 ok_X10_slot_209 rfl rfl (Nat.le_of_ble_eq_true rfl) rc_18 ⟨rfl, rfl⟩ ⟨Nat.le_refl _, Nat.le_refl _⟩ rfl (t_X3_slotOf tg M o X a1 a2 Cz1 _ h) (fun rz5 Cz4 h => ?_)
    refine z_goto 20 dX10_slot_16 rfl ?_
    refine z_istore [(4, .int rz5), (0, .ref 200), (1, .int a1), (2, .int a2), (3, .int a3)] 22 dX10_slot_20 (Nat.le_of_ble_eq_true rfl) rfl rfl ?_
    refine z_iload 0 24 dX10_slot_22 rfl rfl ?_
    refine z_iconst (-1) 25 dX10_slot_24 rfl rfl ?_
    refine z_icmp_ne 32 28 dX10_slot_25 rfl rfl (fun hcz6 => ?_) (fun hcz6 => ?_)
    · replace h := h.1 hcz6
      refine z_aload_n 1 33 dX10_slot_32 rfl rfl ?_
      refine gr_0_7 36 dX10_slot_33 of_X10_39 rfl ?_
      refine z_iload 0 38 dX10_slot_36 rfl rfl ?_
      refine z_iload_n 4 39 dX10_slot_38 rfl rfl ?_
      refine z_ciV [.int rz5, .int a3] 42 dX10_slot_39 ok_X10_slot_212 rfl rfl (Nat.le_of_ble_eq_true rfl) rc_18 ⟨rfl, rfl⟩ ⟨Nat.le_refl _, Nat.le_refl _⟩ rfl (t_X3_aboutSlot tg M o X rz5 a3 Cz4 _ h) (fun rz8 Cz7 h => ?_)
      exact z_iret dX10_slot_42 rfl ⟨Nat.le_refl _, Nat.le_refl _⟩ ⟨rz8, Cz7, rfl, rfl, h⟩
    · replace h := h.2 hcz6
      refine z_iconst (-1) 29 dX10_slot_28 rfl rfl ?_
      refine z_goto 42 dX10_slot_29 rfl ?_
      exact z_iret dX10_slot_42 rfl ⟨Nat.le_refl _, Nat.le_refl _⟩ ⟨(-1), Cz4, rfl, rfl, h⟩
def p_X10_reach (a1 : Int32) (C : cS) (Q : Int32 → cS → Prop) : Prop :=
  ((a1 = 0 → p_X9_findFromRoots C (fun Cz2 => ((¬ a1 = 0 → p_X9_words Cz2 (fun rz5 Cz4 => Q rz5 Cz4)) ∧ (a1 = 0 → Q (c_i Cz2 22) Cz2)))) ∧ (¬ a1 = 0 → ((a1 = 1 → p_X9_findFromRoots C (fun Cz7 => ((¬ a1 = 0 → p_X9_words Cz7 (fun rz10 Cz9 => Q rz10 Cz9)) ∧ (a1 = 0 → Q (c_i Cz7 22) Cz7)))) ∧ (¬ a1 = 1 → Q (-1) C))))
set_option maxRecDepth 100000 in
set_option maxHeartbeats 4000000 in
theorem t_X10_reach (tg : Bool) (M : mS) (o : Nat → Int64) (X : List va_E) (a1 : Int32) (C : cS) (Q : Int32 → cS → Prop) (h : p_X10_reach a1 C Q) : z_M q_X10_reach tg [.ref 200, .int a1] (wz C M o X) (zc_i M o X Q) := by
  unfold p_X10_reach at h
  refine z_enter (by decide) (Nat.le_of_ble_eq_true rfl) ?_
  refine z_iload_n 1 1 dX10_reach_0 rfl rfl ?_
  refine z_if_eq 11 4 dX10_reach_1 rfl rfl (fun hcz1 => ?_) (fun hcz1 => ?_)
  · replace h := h.1 hcz1
    refine z_aload_n 0 12 dX10_reach_11 rfl rfl ?_
    refine gr_0_10 15 dX10_reach_12 of_X10_64 rfl ?_
    refine z_cvV [] 18 dX10_reach_15 ok_X10_reach_215 rfl rfl (Nat.le_of_ble_eq_true rfl) rc_28 ⟨rfl, rfl⟩ ⟨Nat.le_refl _, Nat.le_refl _⟩ rfl (t_X9_findFromRoots tg M o X  C _ h) (fun Cz2 h => ?_)
    refine z_iload_n 1 19 dX10_reach_18 rfl rfl ?_
    refine z_if_ne 32 22 dX10_reach_19 rfl rfl (fun hcz3 => ?_) (fun hcz3 => ?_)
    · replace h := h.1 hcz3
      refine z_aload_n 0 33 dX10_reach_32 rfl rfl ?_
      refine gr_0_10 36 dX10_reach_33 of_X10_64 rfl ?_
      refine z_ciV [] 39 dX10_reach_36 ok_X10_reach_219 rfl rfl (Nat.le_of_ble_eq_true rfl) rc_28 ⟨rfl, rfl⟩ ⟨Nat.le_refl _, Nat.le_refl _⟩ rfl (t_X9_words tg M o X  Cz2 _ h) (fun rz5 Cz4 h => ?_)
      exact z_iret dX10_reach_39 rfl ⟨Nat.le_refl _, Nat.le_refl _⟩ ⟨rz5, Cz4, rfl, rfl, h⟩
    · replace h := h.2 hcz3
      refine z_aload_n 0 23 dX10_reach_22 rfl rfl ?_
      refine gr_0_10 26 dX10_reach_23 of_X10_64 rfl ?_
      refine gci_22 (c_i Cz2 22) 29 dX10_reach_26 of_X10_218 rfl rfl ?_
      refine z_goto 39 dX10_reach_29 rfl ?_
      exact z_iret dX10_reach_39 rfl ⟨Nat.le_refl _, Nat.le_refl _⟩ ⟨c_i Cz2 22, Cz2, rfl, rfl, h⟩
  · replace h := h.2 hcz1
    refine z_iload_n 1 5 dX10_reach_4 rfl rfl ?_
    refine z_iconst 1 6 dX10_reach_5 rfl rfl ?_
    refine z_icmp_eq 11 9 dX10_reach_6 rfl rfl (fun hcz6 => ?_) (fun hcz6 => ?_)
    · replace h := h.1 hcz6
      refine z_aload_n 0 12 dX10_reach_11 rfl rfl ?_
      refine gr_0_10 15 dX10_reach_12 of_X10_64 rfl ?_
      refine z_cvV [] 18 dX10_reach_15 ok_X10_reach_215 rfl rfl (Nat.le_of_ble_eq_true rfl) rc_28 ⟨rfl, rfl⟩ ⟨Nat.le_refl _, Nat.le_refl _⟩ rfl (t_X9_findFromRoots tg M o X  C _ h) (fun Cz7 h => ?_)
      refine z_iload_n 1 19 dX10_reach_18 rfl rfl ?_
      refine z_if_ne 32 22 dX10_reach_19 rfl rfl (fun hcz8 => ?_) (fun hcz8 => ?_)
      · replace h := h.1 hcz8
        refine z_aload_n 0 33 dX10_reach_32 rfl rfl ?_
        refine gr_0_10 36 dX10_reach_33 of_X10_64 rfl ?_
        refine z_ciV [] 39 dX10_reach_36 ok_X10_reach_219 rfl rfl (Nat.le_of_ble_eq_true rfl) rc_28 ⟨rfl, rfl⟩ ⟨Nat.le_refl _, Nat.le_refl _⟩ rfl (t_X9_words tg M o X  Cz7 _ h) (fun rz10 Cz9 h => ?_)
        exact z_iret dX10_reach_39 rfl ⟨Nat.le_refl _, Nat.le_refl _⟩ ⟨rz10, Cz9, rfl, rfl, h⟩
      · replace h := h.2 hcz8
        refine z_aload_n 0 23 dX10_reach_22 rfl rfl ?_
        refine gr_0_10 26 dX10_reach_23 of_X10_64 rfl ?_
        refine gci_22 (c_i Cz7 22) 29 dX10_reach_26 of_X10_218 rfl rfl ?_
        refine z_goto 39 dX10_reach_29 rfl ?_
        exact z_iret dX10_reach_39 rfl ⟨Nat.le_refl _, Nat.le_refl _⟩ ⟨c_i Cz7 22, Cz7, rfl, rfl, h⟩
    · replace h := h.2 hcz6
      refine z_iconst (-1) 10 dX10_reach_9 rfl rfl ?_
      exact z_iret dX10_reach_10 rfl ⟨Nat.le_refl _, Nat.le_refl _⟩ ⟨(-1), C, rfl, rfl, h⟩
def p_X10_show (a1 : Int32) (C : cS) (Q : Int32 → cS → Prop) : Prop :=
  p_X10_isHand a1 C (fun rz2 Cz1 => ((¬ rz2 = 0 → p_X9_write a1 (c_iS Cz1 23 0) (fun Cz4 => Q (c_i Cz4 23) Cz4)) ∧ (rz2 = 0 → Q (-1) Cz1)))
set_option maxRecDepth 100000 in
set_option maxHeartbeats 4000000 in
theorem t_X10_show (tg : Bool) (M : mS) (o : Nat → Int64) (X : List va_E) (a1 : Int32) (C : cS) (Q : Int32 → cS → Prop) (h : p_X10_show a1 C Q) : z_M q_X10_show tg [.ref 200, .int a1] (wz C M o X) (zc_i M o X Q) := by
  unfold p_X10_show at h
  refine z_enter (by decide) (Nat.le_of_ble_eq_true rfl) ?_
  refine z_iload_n 1 1 dX10_show_0 rfl rfl ?_
  refine z_ciS [.int a1] 4 dX10_show_1 ok_X10_show_199 rfl rfl (Nat.le_of_ble_eq_true rfl) ⟨rfl, rfl⟩ ⟨Nat.le_refl _, Nat.le_refl _⟩ rfl (t_X10_isHand tg M o X a1 C _ h) (fun rz2 Cz1 h => ?_)
  refine z_if_ne 9 7 dX10_show_4 rfl rfl (fun hcz3 => ?_) (fun hcz3 => ?_)
  · replace h := h.1 hcz3
    refine z_aload_n 0 10 dX10_show_9 rfl rfl ?_
    refine gr_0_11 13 dX10_show_10 of_X10_71 rfl ?_
    refine z_iconst 0 14 dX10_show_13 rfl rfl ?_
    refine pci_23 17 dX10_show_14 op_X10_222 rfl ?_
    refine z_aload_n 0 18 dX10_show_17 rfl rfl ?_
    refine gr_0_10 21 dX10_show_18 of_X10_64 rfl ?_
    refine z_iload_n 1 22 dX10_show_21 rfl rfl ?_
    refine z_aload_n 0 23 dX10_show_22 rfl rfl ?_
    refine gr_0_11 26 dX10_show_23 of_X10_71 rfl ?_
    refine z_cvV [.int a1, .ref 231] 29 dX10_show_26 ok_X10_show_225 rfl rfl (Nat.le_of_ble_eq_true rfl) rc_28 ⟨rfl, rfl⟩ ⟨Nat.le_refl _, Nat.le_refl _⟩ rfl (t_X9_write tg M o X a1 (c_iS Cz1 23 0) _ h) (fun Cz4 h => ?_)
    refine z_aload_n 0 30 dX10_show_29 rfl rfl ?_
    refine gr_0_11 33 dX10_show_30 of_X10_71 rfl ?_
    refine gci_23 (c_i Cz4 23) 36 dX10_show_33 of_X10_222 rfl rfl ?_
    exact z_iret dX10_show_36 rfl ⟨Nat.le_refl _, Nat.le_refl _⟩ ⟨c_i Cz4 23, Cz4, rfl, rfl, h⟩
  · replace h := h.2 hcz3
    refine z_iconst (-1) 8 dX10_show_7 rfl rfl ?_
    exact z_iret dX10_show_8 rfl ⟨Nat.le_refl _, Nat.le_refl _⟩ ⟨(-1), Cz1, rfl, rfl, h⟩
def p_X10_letter (a1 : Int32) (C : cS) (Q : Int32 → cS → Prop) : Prop :=
  ((a1 < 0 → Q (-1) C) ∧ (¬ a1 < 0 → ((a1 < (c_i C 23) → vp_in a1 600 ∧ Q ((c_a C 19) a1.toNatClampNeg) C) ∧ (¬ a1 < (c_i C 23) → Q (-1) C))))
set_option maxRecDepth 100000 in
set_option maxHeartbeats 4000000 in
theorem t_X10_letter (tg : Bool) (M : mS) (o : Nat → Int64) (X : List va_E) (a1 : Int32) (C : cS) (Q : Int32 → cS → Prop) (h : p_X10_letter a1 C Q) : z_M q_X10_letter tg [.ref 200, .int a1] (wz C M o X) (zc_i M o X Q) := by
  unfold p_X10_letter at h
  refine z_enter (by decide) (Nat.le_of_ble_eq_true rfl) ?_
  refine z_iload_n 1 1 dX10_letter_0 rfl rfl ?_
  refine z_if_lt 15 4 dX10_letter_1 rfl rfl (fun hcz1 => ?_) (fun hcz1 => ?_)
  · replace h := h.1 hcz1
    refine z_iconst (-1) 16 dX10_letter_15 rfl rfl ?_
    refine z_goto 28 dX10_letter_16 rfl ?_
    exact z_iret dX10_letter_28 rfl ⟨Nat.le_refl _, Nat.le_refl _⟩ ⟨(-1), C, rfl, rfl, h⟩
  · replace h := h.2 hcz1
    refine z_iload_n 1 5 dX10_letter_4 rfl rfl ?_
    refine z_aload_n 0 6 dX10_letter_5 rfl rfl ?_
    refine gr_0_11 9 dX10_letter_6 of_X10_71 rfl ?_
    refine gci_23 (c_i C 23) 12 dX10_letter_9 of_X10_222 rfl rfl ?_
    refine z_icmp_lt 19 15 dX10_letter_12 rfl rfl (fun hcz2 => ?_) (fun hcz2 => ?_)
    · replace h := h.1 hcz2
      refine z_aload_n 0 20 dX10_letter_19 rfl rfl ?_
      refine gr_0_11 23 dX10_letter_20 of_X10_71 rfl ?_
      refine gr_31_0 26 dX10_letter_23 of_X10_229 rfl ?_
      refine z_iload_n 1 27 dX10_letter_26 rfl rfl ?_
      obtain ⟨hbz3, h⟩ := h
      refine gca_19 ((c_a C 19) a1.toNatClampNeg) 28 dX10_letter_27 hbz3 rfl rfl ?_
      exact z_iret dX10_letter_28 rfl ⟨Nat.le_refl _, Nat.le_refl _⟩ ⟨(c_a C 19) a1.toNatClampNeg, C, rfl, rfl, h⟩
    · replace h := h.2 hcz2
      refine z_iconst (-1) 16 dX10_letter_15 rfl rfl ?_
      refine z_goto 28 dX10_letter_16 rfl ?_
      exact z_iret dX10_letter_28 rfl ⟨Nat.le_refl _, Nat.le_refl _⟩ ⟨(-1), C, rfl, rfl, h⟩
def p_X10_nearest (a0 : Int32) (a1 : Int32) (a2 : Int32) (C : cS) (Q : Int32 → cS → Prop) : Prop :=
  Q (if a1 < if a0 < a2 then a0 else a2 then if a0 < a2 then a0 else a2 else a1) C
set_option maxRecDepth 100000 in
set_option maxHeartbeats 4000000 in
theorem t_X10_nearest (tg : Bool) (M : mS) (o : Nat → Int64) (X : List va_E) (a0 : Int32) (a1 : Int32) (a2 : Int32) (C : cS) (Q : Int32 → cS → Prop) (h : p_X10_nearest a0 a1 a2 C Q) : z_M q_X10_nearest tg [.int a0, .int a1, .int a2] (wz C M o X) (zc_i M o X Q) := by
  unfold p_X10_nearest at h
  refine z_enter (by decide) (Nat.le_of_ble_eq_true rfl) ?_
  refine z_iload_n 1 1 dX10_nearest_0 rfl rfl ?_
  refine z_iload_n 2 2 dX10_nearest_1 rfl rfl ?_
  refine z_iload_n 0 3 dX10_nearest_2 rfl rfl ?_
  refine z_min 6 dX10_nearest_3 ok_X10_nearest_232 ⟨by decide, Nat.le_of_ble_eq_true rfl, Nat.le_refl _, Nat.le_refl _⟩ rfl ?_
  refine z_max 9 dX10_nearest_6 ok_X10_nearest_237 ⟨by decide, Nat.le_of_ble_eq_true rfl, Nat.le_refl _, Nat.le_refl _⟩ rfl ?_
  exact z_iret dX10_nearest_9 rfl ⟨Nat.le_refl _, Nat.le_refl _⟩ ⟨if a1 < if a0 < a2 then a0 else a2 then if a0 < a2 then a0 else a2 else a1, C, rfl, rfl, h⟩
end ZG
