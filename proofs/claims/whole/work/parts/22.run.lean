section ZG
def p_X6_forget (C : cS) (Q : cS → Prop) : Prop :=
  Q (c_iS (c_iS (c_iS (c_iS (c_iS (c_iS C 16 0) 17 0) 18 0) 19 0) 20 0) 21 0)
set_option maxRecDepth 100000 in
set_option maxHeartbeats 4000000 in
theorem t_X6_forget (tg : Bool) (M : mS) (o : Nat → Int64) (X : List va_E) (C : cS) (Q : cS → Prop) (h : p_X6_forget C Q) : z_M q_X6_forget tg [.ref 225] (wz C M o X) (zc_v M o X Q) := by
  unfold p_X6_forget at h
  refine z_enter (by decide) (Nat.le_of_ble_eq_true rfl) ?_
  refine z_aload_n 0 1 dX6_forget_0 rfl rfl ?_
  refine z_iconst 0 2 dX6_forget_1 rfl rfl ?_
  refine pci_16 5 dX6_forget_2 op_X6_26 rfl ?_
  refine z_aload_n 0 6 dX6_forget_5 rfl rfl ?_
  refine z_iconst 0 7 dX6_forget_6 rfl rfl ?_
  refine pci_17 10 dX6_forget_7 op_X6_30 rfl ?_
  refine z_aload_n 0 11 dX6_forget_10 rfl rfl ?_
  refine z_iconst 0 12 dX6_forget_11 rfl rfl ?_
  refine pci_18 15 dX6_forget_12 op_X6_33 rfl ?_
  refine z_aload_n 0 16 dX6_forget_15 rfl rfl ?_
  refine z_iconst 0 17 dX6_forget_16 rfl rfl ?_
  refine pci_19 20 dX6_forget_17 op_X6_36 rfl ?_
  refine z_aload_n 0 21 dX6_forget_20 rfl rfl ?_
  refine z_iconst 0 22 dX6_forget_21 rfl rfl ?_
  refine pci_20 25 dX6_forget_22 op_X6_39 rfl ?_
  refine z_aload_n 0 26 dX6_forget_25 rfl rfl ?_
  refine z_iconst 0 27 dX6_forget_26 rfl rfl ?_
  refine pci_21 30 dX6_forget_27 op_X6_42 rfl ?_
  exact z_vret dX6_forget_30 rfl ⟨Nat.le_refl _, Nat.le_refl _⟩ ⟨(c_iS (c_iS (c_iS (c_iS (c_iS (c_iS C 16 0) 17 0) 18 0) 19 0) 20 0) 21 0), rfl, rfl, h⟩
def p_X6_hasNext (C : cS) (Q : Int32 → cS → Prop) : Prop :=
  (((c_i C 16) = 1 → Q 1 C) ∧ (¬ (c_i C 16) = 1 → ((¬ (c_i C 16) = 3 → Q 0 C) ∧ ((c_i C 16) = 3 → Q 1 C))))
set_option maxRecDepth 100000 in
set_option maxHeartbeats 4000000 in
theorem t_X6_hasNext (tg : Bool) (M : mS) (o : Nat → Int64) (X : List va_E) (C : cS) (Q : Int32 → cS → Prop) (h : p_X6_hasNext C Q) : z_M q_X6_hasNext tg [.ref 225] (wz C M o X) (zc_i M o X Q) := by
  unfold p_X6_hasNext at h
  refine z_enter (by decide) (Nat.le_of_ble_eq_true rfl) ?_
  refine z_aload_n 0 1 dX6_hasNext_0 rfl rfl ?_
  refine gci_16 (c_i C 16) 4 dX6_hasNext_1 of_X6_26 rfl rfl ?_
  refine z_iconst 1 5 dX6_hasNext_4 rfl rfl ?_
  refine z_icmp_eq 16 8 dX6_hasNext_5 rfl rfl (fun hcz1 => ?_) (fun hcz1 => ?_)
  · replace h := h.1 hcz1
    refine z_iconst 1 17 dX6_hasNext_16 rfl rfl ?_
    refine z_goto 21 dX6_hasNext_17 rfl ?_
    exact z_zret dX6_hasNext_21 rfl rfl ⟨Nat.le_refl _, Nat.le_refl _⟩ ⟨1, C, rfl, rfl, h⟩
  · replace h := h.2 hcz1
    refine z_aload_n 0 9 dX6_hasNext_8 rfl rfl ?_
    refine gci_16 (c_i C 16) 12 dX6_hasNext_9 of_X6_26 rfl rfl ?_
    refine z_iconst 3 13 dX6_hasNext_12 rfl rfl ?_
    refine z_icmp_ne 20 16 dX6_hasNext_13 rfl rfl (fun hcz2 => ?_) (fun hcz2 => ?_)
    · replace h := h.1 hcz2
      refine z_iconst 0 21 dX6_hasNext_20 rfl rfl ?_
      exact z_zret dX6_hasNext_21 rfl rfl ⟨Nat.le_refl _, Nat.le_refl _⟩ ⟨0, C, rfl, rfl, h⟩
    · replace h := h.2 hcz2
      refine z_iconst 1 17 dX6_hasNext_16 rfl rfl ?_
      refine z_goto 21 dX6_hasNext_17 rfl ?_
      exact z_zret dX6_hasNext_21 rfl rfl ⟨Nat.le_refl _, Nat.le_refl _⟩ ⟨1, C, rfl, rfl, h⟩
def p_X6_nextAct (C : cS) (Q : Int32 → cS → Prop) : Prop :=
  p_X6_hasNext C (fun rz2 Cz1 => ((rz2 = 0 → Q (-1) Cz1) ∧ (¬ rz2 = 0 → Q (c_i Cz1 18) Cz1)))
set_option maxRecDepth 100000 in
set_option maxHeartbeats 4000000 in
theorem t_X6_nextAct (tg : Bool) (M : mS) (o : Nat → Int64) (X : List va_E) (C : cS) (Q : Int32 → cS → Prop) (h : p_X6_nextAct C Q) : z_M q_X6_nextAct tg [.ref 225] (wz C M o X) (zc_i M o X Q) := by
  unfold p_X6_nextAct at h
  refine z_enter (by decide) (Nat.le_of_ble_eq_true rfl) ?_
  refine z_aload_n 0 1 dX6_nextAct_0 rfl rfl ?_
  refine z_ciV [] 4 dX6_nextAct_1 ok_X6_nextAct_52 rfl rfl (Nat.le_of_ble_eq_true rfl) rc_25 ⟨rfl, rfl⟩ ⟨Nat.le_refl _, Nat.le_refl _⟩ rfl (t_X6_hasNext tg M o X  C _ h) (fun rz2 Cz1 h => ?_)
  refine z_if_eq 14 7 dX6_nextAct_4 rfl rfl (fun hcz3 => ?_) (fun hcz3 => ?_)
  · replace h := h.1 hcz3
    refine z_iconst (-1) 15 dX6_nextAct_14 rfl rfl ?_
    exact z_iret dX6_nextAct_15 rfl ⟨Nat.le_refl _, Nat.le_refl _⟩ ⟨(-1), Cz1, rfl, rfl, h⟩
  · replace h := h.2 hcz3
    refine z_aload_n 0 8 dX6_nextAct_7 rfl rfl ?_
    refine gci_18 (c_i Cz1 18) 11 dX6_nextAct_8 of_X6_33 rfl rfl ?_
    refine z_goto 15 dX6_nextAct_11 rfl ?_
    exact z_iret dX6_nextAct_15 rfl ⟨Nat.le_refl _, Nat.le_refl _⟩ ⟨c_i Cz1 18, Cz1, rfl, rfl, h⟩
def p_X6_nextPlace (C : cS) (Q : Int32 → cS → Prop) : Prop :=
  p_X6_hasNext C (fun rz2 Cz1 => ((rz2 = 0 → Q (-1) Cz1) ∧ (¬ rz2 = 0 → vp_in (c_i Cz1 18) 150 ∧ Q ((c_pa Cz1 2 (c_rp Cz1)) (c_i Cz1 18).toNatClampNeg) Cz1)))
set_option maxRecDepth 100000 in
set_option maxHeartbeats 4000000 in
theorem t_X6_nextPlace (tg : Bool) (M : mS) (o : Nat → Int64) (X : List va_E) (C : cS) (Q : Int32 → cS → Prop) (h : p_X6_nextPlace C Q) : z_M q_X6_nextPlace tg [.ref 225] (wz C M o X) (zc_i M o X Q) := by
  unfold p_X6_nextPlace at h
  refine z_enter (by decide) (Nat.le_of_ble_eq_true rfl) ?_
  refine z_aload_n 0 1 dX6_nextPlace_0 rfl rfl ?_
  refine z_ciV [] 4 dX6_nextPlace_1 ok_X6_nextPlace_52 rfl rfl (Nat.le_of_ble_eq_true rfl) rc_25 ⟨rfl, rfl⟩ ⟨Nat.le_refl _, Nat.le_refl _⟩ rfl (t_X6_hasNext tg M o X  C _ h) (fun rz2 Cz1 h => ?_)
  refine z_if_eq 22 7 dX6_nextPlace_4 rfl rfl (fun hcz3 => ?_) (fun hcz3 => ?_)
  · replace h := h.1 hcz3
    refine z_iconst (-1) 23 dX6_nextPlace_22 rfl rfl ?_
    exact z_iret dX6_nextPlace_23 rfl ⟨Nat.le_refl _, Nat.le_refl _⟩ ⟨(-1), Cz1, rfl, rfl, h⟩
  · replace h := h.2 hcz3
    refine z_aload_n 0 8 dX6_nextPlace_7 rfl rfl ?_
    refine gr_rp (c_rp Cz1) 11 dX6_nextPlace_8 of_X6_22 rfl rfl ?_
    refine gr_p2 14 dX6_nextPlace_11 of_X6_56 rfl ?_
    refine z_aload_n 0 15 dX6_nextPlace_14 rfl rfl ?_
    refine gci_18 (c_i Cz1 18) 18 dX6_nextPlace_15 of_X6_33 rfl rfl ?_
    obtain ⟨hbz4, h⟩ := h
    refine gp2 ((c_pa Cz1 2 (c_rp Cz1)) (c_i Cz1 18).toNatClampNeg) 19 dX6_nextPlace_18 hbz4 rfl rfl ?_
    refine z_goto 23 dX6_nextPlace_19 rfl ?_
    exact z_iret dX6_nextPlace_23 rfl ⟨Nat.le_refl _, Nat.le_refl _⟩ ⟨(c_pa Cz1 2 (c_rp Cz1)) (c_i Cz1 18).toNatClampNeg, Cz1, rfl, rfl, h⟩
def p_X6_goOnAt (a1 : Int32) (C : cS) (Q : Int32 → cS → Prop) : Prop :=
  (((c_pn C (c_rp C)) ≤ a1 → Q 0 (c_iS (c_iS C 18 a1) 16 2)) ∧ (¬ (c_pn C (c_rp C)) ≤ a1 → Q 0 (c_iS (c_iS C 18 a1) 16 1)))
set_option maxRecDepth 100000 in
set_option maxHeartbeats 4000000 in
theorem t_X6_goOnAt (tg : Bool) (M : mS) (o : Nat → Int64) (X : List va_E) (a1 : Int32) (C : cS) (Q : Int32 → cS → Prop) (h : p_X6_goOnAt a1 C Q) : z_M q_X6_goOnAt tg [.ref 225, .int a1] (wz C M o X) (zc_i M o X Q) := by
  unfold p_X6_goOnAt at h
  refine z_enter (by decide) (Nat.le_of_ble_eq_true rfl) ?_
  refine z_aload_n 0 1 dX6_goOnAt_0 rfl rfl ?_
  refine z_iload_n 1 2 dX6_goOnAt_1 rfl rfl ?_
  refine pci_18 5 dX6_goOnAt_2 op_X6_33 rfl ?_
  refine z_aload_n 0 6 dX6_goOnAt_5 rfl rfl ?_
  refine z_iload_n 1 7 dX6_goOnAt_6 rfl rfl ?_
  refine z_aload_n 0 8 dX6_goOnAt_7 rfl rfl ?_
  refine gr_rp (c_rp C) 11 dX6_goOnAt_8 of_X6_22 rfl rfl ?_
  refine gpc (c_pn C (c_rp C)) 14 dX6_goOnAt_11 of_X6_108 rfl rfl ?_
  refine z_icmp_ge 21 17 dX6_goOnAt_14 rfl rfl (fun hcz1 => ?_) (fun hcz1 => ?_)
  · replace h := h.1 hcz1
    refine z_iconst 2 22 dX6_goOnAt_21 rfl rfl ?_
    refine pci_16 25 dX6_goOnAt_22 op_X6_26 rfl ?_
    refine z_iconst 0 26 dX6_goOnAt_25 rfl rfl ?_
    exact z_iret dX6_goOnAt_26 rfl ⟨Nat.le_refl _, Nat.le_refl _⟩ ⟨0, (c_iS (c_iS C 18 a1) 16 2), rfl, rfl, h⟩
  · replace h := h.2 hcz1
    refine z_iconst 1 18 dX6_goOnAt_17 rfl rfl ?_
    refine z_goto 22 dX6_goOnAt_18 rfl ?_
    refine pci_16 25 dX6_goOnAt_22 op_X6_26 rfl ?_
    refine z_iconst 0 26 dX6_goOnAt_25 rfl rfl ?_
    exact z_iret dX6_goOnAt_26 rfl ⟨Nat.le_refl _, Nat.le_refl _⟩ ⟨0, (c_iS (c_iS C 18 a1) 16 1), rfl, rfl, h⟩
def p_X6_start (b1 : Bool) (C : cS) (Q : cS → Prop) : Prop :=
  p_X6_forget C (fun Cz1 => p_X6_goOnAt 0 (c_rpS Cz1 b1) (fun rz3 Cz2 => Q Cz2))
set_option maxRecDepth 100000 in
set_option maxHeartbeats 4000000 in
theorem t_X6_start (tg : Bool) (M : mS) (o : Nat → Int64) (X : List va_E) (b1 : Bool) (C : cS) (Q : cS → Prop) (h : p_X6_start b1 C Q) : z_M q_X6_start tg [.ref 225, .ref (200 + pO b1)] (wz C M o X) (zc_v M o X Q) := by
  unfold p_X6_start at h
  refine z_enter (by decide) (Nat.le_of_ble_eq_true rfl) ?_
  refine z_aload_n 0 1 dX6_start_0 rfl rfl ?_
  refine z_cvV [] 4 dX6_start_1 ok_X6_start_45 rfl rfl (Nat.le_of_ble_eq_true rfl) rc_25 ⟨rfl, rfl⟩ ⟨Nat.le_refl _, Nat.le_refl _⟩ rfl (t_X6_forget tg M o X  C _ h) (fun Cz1 h => ?_)
  refine z_aload_n 0 5 dX6_start_4 rfl rfl ?_
  refine z_aload_n 1 6 dX6_start_5 rfl rfl ?_
  refine pr_rp 9 dX6_start_6 op_X6_22 rfl ?_
  refine z_aload_n 0 10 dX6_start_9 rfl rfl ?_
  refine z_iconst 0 11 dX6_start_10 rfl rfl ?_
  refine z_ciV [.int 0] 14 dX6_start_11 ok_X6_start_48 rfl rfl (Nat.le_of_ble_eq_true rfl) rc_25 ⟨rfl, rfl⟩ ⟨Nat.le_refl _, Nat.le_refl _⟩ rfl (t_X6_goOnAt tg M o X 0 (c_rpS Cz1 b1) _ h) (fun rz3 Cz2 h => ?_)
  refine z_pop rfl 15 dX6_start_14 rfl ?_
  exact z_vret dX6_start_15 rfl ⟨Nat.le_refl _, Nat.le_refl _⟩ ⟨Cz2, rfl, rfl, h⟩
def p_X6_hasSaid (a1 : Int32) (C : cS) (Q : Int32 → cS → Prop) : Prop :=
  ((a1 < 0 → Q 0 C) ∧ (¬ a1 < 0 → (((c_i C 21) ≤ a1 → Q 0 C) ∧ (¬ (c_i C 21) ≤ a1 → ((300 ≤ a1 → Q 0 C) ∧ (¬ 300 ≤ a1 → Q 1 C))))))
set_option maxRecDepth 100000 in
set_option maxHeartbeats 4000000 in
theorem t_X6_hasSaid (tg : Bool) (M : mS) (o : Nat → Int64) (X : List va_E) (a1 : Int32) (C : cS) (Q : Int32 → cS → Prop) (h : p_X6_hasSaid a1 C Q) : z_M q_X6_hasSaid tg [.ref 225, .int a1] (wz C M o X) (zc_i M o X Q) := by
  unfold p_X6_hasSaid at h
  refine z_enter (by decide) (Nat.le_of_ble_eq_true rfl) ?_
  refine z_iload_n 1 1 dX6_hasSaid_0 rfl rfl ?_
  refine z_if_lt 23 4 dX6_hasSaid_1 rfl rfl (fun hcz1 => ?_) (fun hcz1 => ?_)
  · replace h := h.1 hcz1
    refine z_iconst 0 24 dX6_hasSaid_23 rfl rfl ?_
    exact z_zret dX6_hasSaid_24 rfl rfl ⟨Nat.le_refl _, Nat.le_refl _⟩ ⟨0, C, rfl, rfl, h⟩
  · replace h := h.2 hcz1
    refine z_iload_n 1 5 dX6_hasSaid_4 rfl rfl ?_
    refine z_aload_n 0 6 dX6_hasSaid_5 rfl rfl ?_
    refine gci_21 (c_i C 21) 9 dX6_hasSaid_6 of_X6_42 rfl rfl ?_
    refine z_icmp_ge 23 12 dX6_hasSaid_9 rfl rfl (fun hcz2 => ?_) (fun hcz2 => ?_)
    · replace h := h.1 hcz2
      refine z_iconst 0 24 dX6_hasSaid_23 rfl rfl ?_
      exact z_zret dX6_hasSaid_24 rfl rfl ⟨Nat.le_refl _, Nat.le_refl _⟩ ⟨0, C, rfl, rfl, h⟩
    · replace h := h.2 hcz2
      refine z_iload_n 1 13 dX6_hasSaid_12 rfl rfl ?_
      refine z_sipush 300 16 dX6_hasSaid_13 rfl rfl ?_
      refine z_icmp_ge 23 19 dX6_hasSaid_16 rfl rfl (fun hcz3 => ?_) (fun hcz3 => ?_)
      · replace h := h.1 hcz3
        refine z_iconst 0 24 dX6_hasSaid_23 rfl rfl ?_
        exact z_zret dX6_hasSaid_24 rfl rfl ⟨Nat.le_refl _, Nat.le_refl _⟩ ⟨0, C, rfl, rfl, h⟩
      · replace h := h.2 hcz3
        refine z_iconst 1 20 dX6_hasSaid_19 rfl rfl ?_
        refine z_goto 24 dX6_hasSaid_20 rfl ?_
        exact z_zret dX6_hasSaid_24 rfl rfl ⟨Nat.le_refl _, Nat.le_refl _⟩ ⟨1, C, rfl, rfl, h⟩
def p_X6_say (a1 : Int32) (C : cS) (Q : Int32 → cS → Prop) : Prop :=
  p_X2_hasNumber a1 C (fun rz2 Cz1 => ((¬ rz2 = 0 → (((c_i Cz1 21) < 0 → p_X6_goOnAt ((c_i Cz1 18) + 1) (c_iS Cz1 21 ((c_i Cz1 21) + 1)) (fun rz6 Cz5 => Q rz6 Cz5)) ∧ (¬ (c_i Cz1 21) < 0 → ((300 ≤ (c_i Cz1 21) → p_X6_goOnAt ((c_i Cz1 18) + 1) (c_iS Cz1 21 ((c_i Cz1 21) + 1)) (fun rz9 Cz8 => Q rz9 Cz8)) ∧ (¬ 300 ≤ (c_i Cz1 21) → p_X2_number a1 Cz1 (fun rz11 Cz10 => vp_in (c_i Cz1 21) 300 ∧ p_X6_goOnAt ((c_i Cz10 18) + 1) (c_iS (c_aU Cz10 16 (c_i Cz1 21) rz11) 21 ((c_i Cz10 21) + 1)) (fun rz14 Cz13 => Q rz14 Cz13))))))) ∧ (rz2 = 0 → Q 1 Cz1)))
set_option maxRecDepth 100000 in
set_option maxHeartbeats 4000000 in
theorem t_X6_say (tg : Bool) (M : mS) (o : Nat → Int64) (X : List va_E) (a1 : Int32) (C : cS) (Q : Int32 → cS → Prop) (h : p_X6_say a1 C Q) : z_M q_X6_say tg [.ref 225, .int a1] (wz C M o X) (zc_i M o X Q) := by
  unfold p_X6_say at h
  refine z_enter (by decide) (Nat.le_of_ble_eq_true rfl) ?_
  refine z_aload_n 0 1 dX6_say_0 rfl rfl ?_
  refine gr_25_0 4 dX6_say_1 of_X6_18 rfl ?_
  refine z_iload_n 1 5 dX6_say_4 rfl rfl ?_
  refine z_ciV [.int a1] 8 dX6_say_5 ok_X6_say_95 rfl rfl (Nat.le_of_ble_eq_true rfl) rc_24 ⟨rfl, rfl⟩ ⟨Nat.le_refl _, Nat.le_refl _⟩ rfl (t_X2_hasNumber tg M o X a1 C _ h) (fun rz2 Cz1 h => ?_)
  refine z_if_ne 13 11 dX6_say_8 rfl rfl (fun hcz3 => ?_) (fun hcz3 => ?_)
  · replace h := h.1 hcz3
    refine z_aload_n 0 14 dX6_say_13 rfl rfl ?_
    refine gci_21 (c_i Cz1 21) 17 dX6_say_14 of_X6_42 rfl rfl ?_
    refine z_if_lt 47 20 dX6_say_17 rfl rfl (fun hcz4 => ?_) (fun hcz4 => ?_)
    · replace h := h.1 hcz4
      refine z_aload_n 0 48 dX6_say_47 rfl rfl ?_
      refine z_dup rfl 49 dX6_say_48 rfl ?_
      refine gci_21 (c_i Cz1 21) 52 dX6_say_49 of_X6_42 rfl rfl ?_
      refine z_iconst 1 53 dX6_say_52 rfl rfl ?_
      refine z_iadd 54 dX6_say_53 rfl ?_
      refine pci_21 57 dX6_say_54 op_X6_42 rfl ?_
      refine z_aload_n 0 58 dX6_say_57 rfl rfl ?_
      refine z_aload_n 0 59 dX6_say_58 rfl rfl ?_
      refine gci_18 (c_i Cz1 18) 62 dX6_say_59 of_X6_33 rfl rfl ?_
      refine z_iconst 1 63 dX6_say_62 rfl rfl ?_
      refine z_iadd 64 dX6_say_63 rfl ?_
      refine z_ciV [.int ((c_i Cz1 18) + 1)] 67 dX6_say_64 ok_X6_say_48 rfl rfl (Nat.le_of_ble_eq_true rfl) rc_25 ⟨rfl, rfl⟩ ⟨Nat.le_refl _, Nat.le_refl _⟩ rfl (t_X6_goOnAt tg M o X ((c_i Cz1 18) + 1) (c_iS Cz1 21 ((c_i Cz1 21) + 1)) _ h) (fun rz6 Cz5 h => ?_)
      exact z_iret dX6_say_67 rfl ⟨Nat.le_refl _, Nat.le_refl _⟩ ⟨rz6, Cz5, rfl, rfl, h⟩
    · replace h := h.2 hcz4
      refine z_aload_n 0 21 dX6_say_20 rfl rfl ?_
      refine gci_21 (c_i Cz1 21) 24 dX6_say_21 of_X6_42 rfl rfl ?_
      refine z_sipush 300 27 dX6_say_24 rfl rfl ?_
      refine z_icmp_ge 47 30 dX6_say_27 rfl rfl (fun hcz7 => ?_) (fun hcz7 => ?_)
      · replace h := h.1 hcz7
        refine z_aload_n 0 48 dX6_say_47 rfl rfl ?_
        refine z_dup rfl 49 dX6_say_48 rfl ?_
        refine gci_21 (c_i Cz1 21) 52 dX6_say_49 of_X6_42 rfl rfl ?_
        refine z_iconst 1 53 dX6_say_52 rfl rfl ?_
        refine z_iadd 54 dX6_say_53 rfl ?_
        refine pci_21 57 dX6_say_54 op_X6_42 rfl ?_
        refine z_aload_n 0 58 dX6_say_57 rfl rfl ?_
        refine z_aload_n 0 59 dX6_say_58 rfl rfl ?_
        refine gci_18 (c_i Cz1 18) 62 dX6_say_59 of_X6_33 rfl rfl ?_
        refine z_iconst 1 63 dX6_say_62 rfl rfl ?_
        refine z_iadd 64 dX6_say_63 rfl ?_
        refine z_ciV [.int ((c_i Cz1 18) + 1)] 67 dX6_say_64 ok_X6_say_48 rfl rfl (Nat.le_of_ble_eq_true rfl) rc_25 ⟨rfl, rfl⟩ ⟨Nat.le_refl _, Nat.le_refl _⟩ rfl (t_X6_goOnAt tg M o X ((c_i Cz1 18) + 1) (c_iS Cz1 21 ((c_i Cz1 21) + 1)) _ h) (fun rz9 Cz8 h => ?_)
        exact z_iret dX6_say_67 rfl ⟨Nat.le_refl _, Nat.le_refl _⟩ ⟨rz9, Cz8, rfl, rfl, h⟩
      · replace h := h.2 hcz7
        refine z_aload_n 0 31 dX6_say_30 rfl rfl ?_
        refine gr_25_8 34 dX6_say_31 of_X6_15 rfl ?_
        refine z_aload_n 0 35 dX6_say_34 rfl rfl ?_
        refine gci_21 (c_i Cz1 21) 38 dX6_say_35 of_X6_42 rfl rfl ?_
        refine z_aload_n 0 39 dX6_say_38 rfl rfl ?_
        refine gr_25_0 42 dX6_say_39 of_X6_18 rfl ?_
        refine z_iload_n 1 43 dX6_say_42 rfl rfl ?_
        refine z_ciV [.int a1] 46 dX6_say_43 ok_X6_say_99 rfl rfl (Nat.le_of_ble_eq_true rfl) rc_24 ⟨rfl, rfl⟩ ⟨Nat.le_refl _, Nat.le_refl _⟩ rfl (t_X2_number tg M o X a1 Cz1 _ h) (fun rz11 Cz10 h => ?_)
        obtain ⟨hbz12, h⟩ := h
        refine pca_16 47 dX6_say_46 hbz12 rfl ?_
        refine z_aload_n 0 48 dX6_say_47 rfl rfl ?_
        refine z_dup rfl 49 dX6_say_48 rfl ?_
        refine gci_21 (c_i Cz10 21) 52 dX6_say_49 of_X6_42 rfl rfl ?_
        refine z_iconst 1 53 dX6_say_52 rfl rfl ?_
        refine z_iadd 54 dX6_say_53 rfl ?_
        refine pci_21 57 dX6_say_54 op_X6_42 rfl ?_
        refine z_aload_n 0 58 dX6_say_57 rfl rfl ?_
        refine z_aload_n 0 59 dX6_say_58 rfl rfl ?_
        refine gci_18 (c_i Cz10 18) 62 dX6_say_59 of_X6_33 rfl rfl ?_
        refine z_iconst 1 63 dX6_say_62 rfl rfl ?_
        refine z_iadd 64 dX6_say_63 rfl ?_
        refine z_ciV [.int ((c_i Cz10 18) + 1)] 67 dX6_say_64 ok_X6_say_48 rfl rfl (Nat.le_of_ble_eq_true rfl) rc_25 ⟨rfl, rfl⟩ ⟨Nat.le_refl _, Nat.le_refl _⟩ rfl (t_X6_goOnAt tg M o X ((c_i Cz10 18) + 1) (c_iS (c_aU Cz10 16 (c_i Cz1 21) rz11) 21 ((c_i Cz10 21) + 1)) _ h) (fun rz14 Cz13 h => ?_)
        exact z_iret dX6_say_67 rfl ⟨Nat.le_refl _, Nat.le_refl _⟩ ⟨rz14, Cz13, rfl, rfl, h⟩
  · replace h := h.2 hcz3
    refine z_iconst 1 12 dX6_say_11 rfl rfl ?_
    exact z_iret dX6_say_12 rfl ⟨Nat.le_refl _, Nat.le_refl _⟩ ⟨1, Cz1, rfl, rfl, h⟩
def p_X6_openCall (a1 : Int32) (C : cS) (Q : Int32 → cS → Prop) : Prop :=
  (((c_i C 20) < 30 → vp_in (c_i C 20) 30 ∧ p_X6_goOnAt a1 (c_iS (c_aU C 15 (c_i C 20) ((c_i C 18) + 1)) 20 ((c_i C 20) + 1)) (fun rz4 Cz3 => Q rz4 Cz3)) ∧ (¬ (c_i C 20) < 30 → Q 7 C))
set_option maxRecDepth 100000 in
set_option maxHeartbeats 4000000 in
theorem t_X6_openCall (tg : Bool) (M : mS) (o : Nat → Int64) (X : List va_E) (a1 : Int32) (C : cS) (Q : Int32 → cS → Prop) (h : p_X6_openCall a1 C Q) : z_M q_X6_openCall tg [.ref 225, .int a1] (wz C M o X) (zc_i M o X Q) := by
  unfold p_X6_openCall at h
  refine z_enter (by decide) (Nat.le_of_ble_eq_true rfl) ?_
  refine z_aload_n 0 1 dX6_openCall_0 rfl rfl ?_
  refine gci_20 (c_i C 20) 4 dX6_openCall_1 of_X6_39 rfl rfl ?_
  refine z_bipush 30 6 dX6_openCall_4 rfl rfl ?_
  refine z_icmp_lt 12 9 dX6_openCall_6 rfl rfl (fun hcz1 => ?_) (fun hcz1 => ?_)
  · replace h := h.1 hcz1
    refine z_aload_n 0 13 dX6_openCall_12 rfl rfl ?_
    refine gr_25_6 16 dX6_openCall_13 of_X6_11 rfl ?_
    refine z_aload_n 0 17 dX6_openCall_16 rfl rfl ?_
    refine gci_20 (c_i C 20) 20 dX6_openCall_17 of_X6_39 rfl rfl ?_
    refine z_aload_n 0 21 dX6_openCall_20 rfl rfl ?_
    refine gci_18 (c_i C 18) 24 dX6_openCall_21 of_X6_33 rfl rfl ?_
    refine z_iconst 1 25 dX6_openCall_24 rfl rfl ?_
    refine z_iadd 26 dX6_openCall_25 rfl ?_
    obtain ⟨hbz2, h⟩ := h
    refine pca_15 27 dX6_openCall_26 hbz2 rfl ?_
    refine z_aload_n 0 28 dX6_openCall_27 rfl rfl ?_
    refine z_dup rfl 29 dX6_openCall_28 rfl ?_
    refine gci_20 (c_i C 20) 32 dX6_openCall_29 of_X6_39 rfl rfl ?_
    refine z_iconst 1 33 dX6_openCall_32 rfl rfl ?_
    refine z_iadd 34 dX6_openCall_33 rfl ?_
    refine pci_20 37 dX6_openCall_34 op_X6_39 rfl ?_
    refine z_aload_n 0 38 dX6_openCall_37 rfl rfl ?_
    refine z_iload_n 1 39 dX6_openCall_38 rfl rfl ?_
    refine z_ciV [.int a1] 42 dX6_openCall_39 ok_X6_openCall_48 rfl rfl (Nat.le_of_ble_eq_true rfl) rc_25 ⟨rfl, rfl⟩ ⟨Nat.le_refl _, Nat.le_refl _⟩ rfl (t_X6_goOnAt tg M o X a1 (c_iS (c_aU C 15 (c_i C 20) ((c_i C 18) + 1)) 20 ((c_i C 20) + 1)) _ h) (fun rz4 Cz3 h => ?_)
    exact z_iret dX6_openCall_42 rfl ⟨Nat.le_refl _, Nat.le_refl _⟩ ⟨rz4, Cz3, rfl, rfl, h⟩
  · replace h := h.2 hcz1
    refine z_bipush 7 11 dX6_openCall_9 rfl rfl ?_
    exact z_iret dX6_openCall_11 rfl ⟨Nat.le_refl _, Nat.le_refl _⟩ ⟨7, C, rfl, rfl, h⟩
def p_X6_goBack (C : cS) (Q : Int32 → cS → Prop) : Prop :=
  ((0 < (c_i C 20) → vp_in ((c_i C 20) - 1) 30 ∧ p_X6_goOnAt ((c_a C 15) ((c_i C 20) - 1).toNatClampNeg) (c_iS C 20 ((c_i C 20) - 1)) (fun rz4 Cz3 => Q rz4 Cz3)) ∧ (¬ 0 < (c_i C 20) → p_X6_goOnAt (c_pn C (c_rp C)) C (fun rz6 Cz5 => Q rz6 Cz5)))
set_option maxRecDepth 100000 in
set_option maxHeartbeats 4000000 in
theorem t_X6_goBack (tg : Bool) (M : mS) (o : Nat → Int64) (X : List va_E) (C : cS) (Q : Int32 → cS → Prop) (h : p_X6_goBack C Q) : z_M q_X6_goBack tg [.ref 225] (wz C M o X) (zc_i M o X Q) := by
  unfold p_X6_goBack at h
  refine z_enter (by decide) (Nat.le_of_ble_eq_true rfl) ?_
  refine z_aload_n 0 1 dX6_goBack_0 rfl rfl ?_
  refine gci_20 (c_i C 20) 4 dX6_goBack_1 of_X6_39 rfl rfl ?_
  refine z_if_gt 19 7 dX6_goBack_4 rfl rfl (fun hcz1 => ?_) (fun hcz1 => ?_)
  · replace h := h.1 hcz1
    refine z_aload_n 0 20 dX6_goBack_19 rfl rfl ?_
    refine z_dup rfl 21 dX6_goBack_20 rfl ?_
    refine gci_20 (c_i C 20) 24 dX6_goBack_21 of_X6_39 rfl rfl ?_
    refine z_iconst 1 25 dX6_goBack_24 rfl rfl ?_
    refine z_isub 26 dX6_goBack_25 rfl ?_
    refine pci_20 29 dX6_goBack_26 op_X6_39 rfl ?_
    refine z_aload_n 0 30 dX6_goBack_29 rfl rfl ?_
    refine z_aload_n 0 31 dX6_goBack_30 rfl rfl ?_
    refine gr_25_6 34 dX6_goBack_31 of_X6_11 rfl ?_
    refine z_aload_n 0 35 dX6_goBack_34 rfl rfl ?_
    refine gci_20 ((c_i C 20) - 1) 38 dX6_goBack_35 of_X6_39 rfl rfl ?_
    obtain ⟨hbz2, h⟩ := h
    refine gca_15 ((c_a C 15) ((c_i C 20) - 1).toNatClampNeg) 39 dX6_goBack_38 hbz2 rfl rfl ?_
    refine z_ciV [.int ((c_a C 15) ((c_i C 20) - 1).toNatClampNeg)] 42 dX6_goBack_39 ok_X6_goBack_48 rfl rfl (Nat.le_of_ble_eq_true rfl) rc_25 ⟨rfl, rfl⟩ ⟨Nat.le_refl _, Nat.le_refl _⟩ rfl (t_X6_goOnAt tg M o X ((c_a C 15) ((c_i C 20) - 1).toNatClampNeg) (c_iS C 20 ((c_i C 20) - 1)) _ h) (fun rz4 Cz3 h => ?_)
    exact z_iret dX6_goBack_42 rfl ⟨Nat.le_refl _, Nat.le_refl _⟩ ⟨rz4, Cz3, rfl, rfl, h⟩
  · replace h := h.2 hcz1
    refine z_aload_n 0 8 dX6_goBack_7 rfl rfl ?_
    refine z_aload_n 0 9 dX6_goBack_8 rfl rfl ?_
    refine gr_rp (c_rp C) 12 dX6_goBack_9 of_X6_22 rfl rfl ?_
    refine gpc (c_pn C (c_rp C)) 15 dX6_goBack_12 of_X6_108 rfl rfl ?_
    refine z_ciV [.int (c_pn C (c_rp C))] 18 dX6_goBack_15 ok_X6_goBack_48 rfl rfl (Nat.le_of_ble_eq_true rfl) rc_25 ⟨rfl, rfl⟩ ⟨Nat.le_refl _, Nat.le_refl _⟩ rfl (t_X6_goOnAt tg M o X (c_pn C (c_rp C)) C _ h) (fun rz6 Cz5 h => ?_)
    exact z_iret dX6_goBack_18 rfl ⟨Nat.le_refl _, Nat.le_refl _⟩ ⟨rz6, Cz5, rfl, rfl, h⟩
def p_X6_steer (i1 : Nat) (a2 : Int32) (a3 : Int32) (C : cS) (Q : Int32 → cS → Prop) : Prop :=
  i1 < 26 ∧ vp_in (nI i1) 26 ∧ ∀ vz3 : Int32, vz3 = z_swm.getD (nI i1).toNatClampNeg 0 → ((vz3 = 21 → p_X6_say a2 C (fun rz6 Cz5 => Q rz6 Cz5)) ∧ (¬ vz3 = 21 → ((vz3 = 22 → p_X6_goOnAt a2 C (fun rz9 Cz8 => Q rz9 Cz8)) ∧ (¬ vz3 = 22 → ((vz3 = 23 → p_X2_hasNumber a2 C (fun rz12 Cz11 => ((rz12 = 0 → p_X6_goOnAt ((c_i Cz11 18) + 1) Cz11 (fun rz15 Cz14 => Q rz15 Cz14)) ∧ (¬ rz12 = 0 → p_X2_number a2 Cz11 (fun rz17 Cz16 => ((¬ rz17 = 0 → p_X6_goOnAt ((c_i Cz16 18) + 1) Cz16 (fun rz20 Cz19 => Q rz20 Cz19)) ∧ (rz17 = 0 → p_X6_goOnAt a3 Cz16 (fun rz22 Cz21 => Q rz22 Cz21)))))))) ∧ (¬ vz3 = 23 → ((vz3 = 24 → p_X6_openCall a2 C (fun rz25 Cz24 => Q rz25 Cz24)) ∧ (¬ vz3 = 24 → ((vz3 = 25 → p_X6_goBack C (fun rz28 Cz27 => Q rz28 Cz27)) ∧ (¬ vz3 = 25 → p_X6_goOnAt (c_pn C (c_rp C)) C (fun rz30 Cz29 => Q rz30 Cz29)))))))))))
set_option maxRecDepth 100000 in
set_option maxHeartbeats 4000000 in
theorem t_X6_steer (tg : Bool) (M : mS) (o : Nat → Int64) (X : List va_E) (i1 : Nat) (a2 : Int32) (a3 : Int32) (C : cS) (Q : Int32 → cS → Prop) (h : p_X6_steer i1 a2 a3 C Q) : z_M q_X6_steer tg [.ref 225, .ref (2 + i1), .int a2, .int a3] (wz C M o X) (zc_i M o X Q) := by
  unfold p_X6_steer at h
  refine z_enter (by decide) (Nat.le_of_ble_eq_true rfl) ?_
  refine z_gets (.ref 28) 3 dX6_steer_0 (List.mem_of_getElem? (i := 1) rfl) ol_X6_81 rfl ?_
  refine z_aload_n 1 4 dX6_steer_3 rfl rfl ?_
  obtain ⟨hqz1, h⟩ := h
  refine z_ord i1 7 dX6_steer_4 ok_X6_steer_86 hqz1 rfl ⟨by decide, Nat.le_of_ble_eq_true rfl⟩ rfl ?_
  obtain ⟨hbz2, h⟩ := h
  refine z_tiald 0 8 dX6_steer_7 (List.mem_of_getElem? (i := 1) rfl) (Nat.lt_succ_self 0) rfl hbz2 rfl ?_
  refine z_topi (fun vz3 hvz3 => ?_)
  replace h := h vz3 hvz3
  by_cases hcz4 : vz3 = 21
  · replace h := h.1 hcz4
    refine z_tabIn 44 dX6_steer_8 (by rw [hcz4]; decide) (by rw [hcz4]; decide) (by rw [hcz4]; rfl) rfl ?_
    refine z_aload_n 0 45 dX6_steer_44 rfl rfl ?_
    refine z_iload_n 2 46 dX6_steer_45 rfl rfl ?_
    refine z_ciV [.int a2] 49 dX6_steer_46 ok_X6_steer_92 rfl rfl (Nat.le_of_ble_eq_true rfl) rc_25 ⟨rfl, rfl⟩ ⟨Nat.le_refl _, Nat.le_refl _⟩ rfl (t_X6_say tg M o X a2 C _ h) (fun rz6 Cz5 h => ?_)
    exact z_iret dX6_steer_49 rfl ⟨Nat.le_refl _, Nat.le_refl _⟩ ⟨rz6, Cz5, rfl, rfl, h⟩
  · replace h := h.2 hcz4
    by_cases hcz7 : vz3 = 22
    · replace h := h.1 hcz7
      refine z_tabIn 50 dX6_steer_8 (by rw [hcz7]; decide) (by rw [hcz7]; decide) (by rw [hcz7]; rfl) rfl ?_
      refine z_aload_n 0 51 dX6_steer_50 rfl rfl ?_
      refine z_iload_n 2 52 dX6_steer_51 rfl rfl ?_
      refine z_ciV [.int a2] 55 dX6_steer_52 ok_X6_steer_48 rfl rfl (Nat.le_of_ble_eq_true rfl) rc_25 ⟨rfl, rfl⟩ ⟨Nat.le_refl _, Nat.le_refl _⟩ rfl (t_X6_goOnAt tg M o X a2 C _ h) (fun rz9 Cz8 h => ?_)
      exact z_iret dX6_steer_55 rfl ⟨Nat.le_refl _, Nat.le_refl _⟩ ⟨rz9, Cz8, rfl, rfl, h⟩
    · replace h := h.2 hcz7
      by_cases hcz10 : vz3 = 23
      · replace h := h.1 hcz10
        refine z_tabIn 56 dX6_steer_8 (by rw [hcz10]; decide) (by rw [hcz10]; decide) (by rw [hcz10]; rfl) rfl ?_
        refine z_aload_n 0 57 dX6_steer_56 rfl rfl ?_
        refine z_aload_n 0 58 dX6_steer_57 rfl rfl ?_
        refine gr_25_0 61 dX6_steer_58 of_X6_18 rfl ?_
        refine z_iload_n 2 62 dX6_steer_61 rfl rfl ?_
        refine z_ciV [.int a2] 65 dX6_steer_62 ok_X6_steer_95 rfl rfl (Nat.le_of_ble_eq_true rfl) rc_24 ⟨rfl, rfl⟩ ⟨Nat.le_refl _, Nat.le_refl _⟩ rfl (t_X2_hasNumber tg M o X a2 C _ h) (fun rz12 Cz11 h => ?_)
        refine z_if_eq 83 68 dX6_steer_65 rfl rfl (fun hcz13 => ?_) (fun hcz13 => ?_)
        · replace h := h.1 hcz13
          refine z_aload_n 0 84 dX6_steer_83 rfl rfl ?_
          refine gci_18 (c_i Cz11 18) 87 dX6_steer_84 of_X6_33 rfl rfl ?_
          refine z_iconst 1 88 dX6_steer_87 rfl rfl ?_
          refine z_iadd 89 dX6_steer_88 rfl ?_
          refine z_ciV [.int ((c_i Cz11 18) + 1)] 92 dX6_steer_89 ok_X6_steer_48 rfl rfl (Nat.le_of_ble_eq_true rfl) rc_25 ⟨rfl, rfl⟩ ⟨Nat.le_refl _, Nat.le_refl _⟩ rfl (t_X6_goOnAt tg M o X ((c_i Cz11 18) + 1) Cz11 _ h) (fun rz15 Cz14 h => ?_)
          exact z_iret dX6_steer_92 rfl ⟨Nat.le_refl _, Nat.le_refl _⟩ ⟨rz15, Cz14, rfl, rfl, h⟩
        · replace h := h.2 hcz13
          refine z_aload_n 0 69 dX6_steer_68 rfl rfl ?_
          refine gr_25_0 72 dX6_steer_69 of_X6_18 rfl ?_
          refine z_iload_n 2 73 dX6_steer_72 rfl rfl ?_
          refine z_ciV [.int a2] 76 dX6_steer_73 ok_X6_steer_99 rfl rfl (Nat.le_of_ble_eq_true rfl) rc_24 ⟨rfl, rfl⟩ ⟨Nat.le_refl _, Nat.le_refl _⟩ rfl (t_X2_number tg M o X a2 Cz11 _ h) (fun rz17 Cz16 h => ?_)
          refine z_if_ne 83 79 dX6_steer_76 rfl rfl (fun hcz18 => ?_) (fun hcz18 => ?_)
          · replace h := h.1 hcz18
            refine z_aload_n 0 84 dX6_steer_83 rfl rfl ?_
            refine gci_18 (c_i Cz16 18) 87 dX6_steer_84 of_X6_33 rfl rfl ?_
            refine z_iconst 1 88 dX6_steer_87 rfl rfl ?_
            refine z_iadd 89 dX6_steer_88 rfl ?_
            refine z_ciV [.int ((c_i Cz16 18) + 1)] 92 dX6_steer_89 ok_X6_steer_48 rfl rfl (Nat.le_of_ble_eq_true rfl) rc_25 ⟨rfl, rfl⟩ ⟨Nat.le_refl _, Nat.le_refl _⟩ rfl (t_X6_goOnAt tg M o X ((c_i Cz16 18) + 1) Cz16 _ h) (fun rz20 Cz19 h => ?_)
            exact z_iret dX6_steer_92 rfl ⟨Nat.le_refl _, Nat.le_refl _⟩ ⟨rz20, Cz19, rfl, rfl, h⟩
          · replace h := h.2 hcz18
            refine z_iload_n 3 80 dX6_steer_79 rfl rfl ?_
            refine z_goto 89 dX6_steer_80 rfl ?_
            refine z_ciV [.int a3] 92 dX6_steer_89 ok_X6_steer_48 rfl rfl (Nat.le_of_ble_eq_true rfl) rc_25 ⟨rfl, rfl⟩ ⟨Nat.le_refl _, Nat.le_refl _⟩ rfl (t_X6_goOnAt tg M o X a3 Cz16 _ h) (fun rz22 Cz21 h => ?_)
            exact z_iret dX6_steer_92 rfl ⟨Nat.le_refl _, Nat.le_refl _⟩ ⟨rz22, Cz21, rfl, rfl, h⟩
      · replace h := h.2 hcz10
        by_cases hcz23 : vz3 = 24
        · replace h := h.1 hcz23
          refine z_tabIn 93 dX6_steer_8 (by rw [hcz23]; decide) (by rw [hcz23]; decide) (by rw [hcz23]; rfl) rfl ?_
          refine z_aload_n 0 94 dX6_steer_93 rfl rfl ?_
          refine z_iload_n 2 95 dX6_steer_94 rfl rfl ?_
          refine z_ciV [.int a2] 98 dX6_steer_95 ok_X6_steer_102 rfl rfl (Nat.le_of_ble_eq_true rfl) rc_25 ⟨rfl, rfl⟩ ⟨Nat.le_refl _, Nat.le_refl _⟩ rfl (t_X6_openCall tg M o X a2 C _ h) (fun rz25 Cz24 h => ?_)
          exact z_iret dX6_steer_98 rfl ⟨Nat.le_refl _, Nat.le_refl _⟩ ⟨rz25, Cz24, rfl, rfl, h⟩
        · replace h := h.2 hcz23
          by_cases hcz26 : vz3 = 25
          · replace h := h.1 hcz26
            refine z_tabIn 99 dX6_steer_8 (by rw [hcz26]; decide) (by rw [hcz26]; decide) (by rw [hcz26]; rfl) rfl ?_
            refine z_aload_n 0 100 dX6_steer_99 rfl rfl ?_
            refine z_ciV [] 103 dX6_steer_100 ok_X6_steer_105 rfl rfl (Nat.le_of_ble_eq_true rfl) rc_25 ⟨rfl, rfl⟩ ⟨Nat.le_refl _, Nat.le_refl _⟩ rfl (t_X6_goBack tg M o X  C _ h) (fun rz28 Cz27 h => ?_)
            exact z_iret dX6_steer_103 rfl ⟨Nat.le_refl _, Nat.le_refl _⟩ ⟨rz28, Cz27, rfl, rfl, h⟩
          · replace h := h.2 hcz26
            refine z_tab [21, 22, 23, 24, 25] 104 dX6_steer_8 (List.forall_mem_cons.mpr ⟨hcz4, (List.forall_mem_cons.mpr ⟨hcz7, (List.forall_mem_cons.mpr ⟨hcz10, (List.forall_mem_cons.mpr ⟨hcz23, (List.forall_mem_cons.mpr ⟨hcz26, (fun _ q9 => absurd q9 List.not_mem_nil)⟩)⟩)⟩)⟩)⟩) (by decide +kernel) (by decide) rfl ?_
            refine z_aload_n 0 105 dX6_steer_104 rfl rfl ?_
            refine z_aload_n 0 106 dX6_steer_105 rfl rfl ?_
            refine gr_rp (c_rp C) 109 dX6_steer_106 of_X6_22 rfl rfl ?_
            refine gpc (c_pn C (c_rp C)) 112 dX6_steer_109 of_X6_108 rfl rfl ?_
            refine z_ciV [.int (c_pn C (c_rp C))] 115 dX6_steer_112 ok_X6_steer_48 rfl rfl (Nat.le_of_ble_eq_true rfl) rc_25 ⟨rfl, rfl⟩ ⟨Nat.le_refl _, Nat.le_refl _⟩ rfl (t_X6_goOnAt tg M o X (c_pn C (c_rp C)) C _ h) (fun rz30 Cz29 h => ?_)
            exact z_iret dX6_steer_115 rfl ⟨Nat.le_refl _, Nat.le_refl _⟩ ⟨rz30, Cz29, rfl, rfl, h⟩
def j_X6_step_114 (Q : Int32 → cS → Prop) (C : cS) : Prop :=
  (((c_i C 17) = 0 → Q 1 (c_iS C 19 ((c_i C 19) + 1))) ∧ (¬ (c_i C 17) = 0 → Q 0 (c_iS C 16 3)))
set_option maxRecDepth 100000 in
set_option maxHeartbeats 4000000 in
theorem tj_X6_step_114 (_ : Bool) (M : mS) (o : Nat → Int64) (X : List va_E) (Q : Int32 → cS → Prop) (C : cS) (h : j_X6_step_114 Q C) : z_go q_X6_step false 114 [(0, .ref 225)] [] (wz C M o X) 0 0 (zc_i M o X Q) := by
  unfold j_X6_step_114 at h
  refine z_aload_n 0 115 dX6_step_114 rfl rfl ?_
  refine gci_17 (c_i C 17) 118 dX6_step_115 of_X6_30 rfl rfl ?_
  refine z_if_eq 128 121 dX6_step_118 rfl rfl (fun hcz15 => ?_) (fun hcz15 => ?_)
  · replace h := h.1 hcz15
    refine z_aload_n 0 129 dX6_step_128 rfl rfl ?_
    refine z_dup rfl 130 dX6_step_129 rfl ?_
    refine gci_19 (c_i C 19) 133 dX6_step_130 of_X6_36 rfl rfl ?_
    refine z_iconst 1 134 dX6_step_133 rfl rfl ?_
    refine z_iadd 135 dX6_step_134 rfl ?_
    refine pci_19 138 dX6_step_135 op_X6_36 rfl ?_
    refine z_iconst 1 139 dX6_step_138 rfl rfl ?_
    exact z_zret dX6_step_139 rfl rfl ⟨Nat.le_refl _, Nat.le_refl _⟩ ⟨1, (c_iS C 19 ((c_i C 19) + 1)), rfl, rfl, h⟩
  · replace h := h.2 hcz15
    refine z_aload_n 0 122 dX6_step_121 rfl rfl ?_
    refine z_iconst 3 123 dX6_step_122 rfl rfl ?_
    refine pci_16 126 dX6_step_123 op_X6_26 rfl ?_
    refine z_iconst 0 127 dX6_step_126 rfl rfl ?_
    exact z_zret dX6_step_127 rfl rfl ⟨Nat.le_refl _, Nat.le_refl _⟩ ⟨0, (c_iS C 16 3), rfl, rfl, h⟩
def p_X6_step (C : cS) (Q : Int32 → cS → Prop) : Prop :=
  p_X6_hasNext C (fun rz2 Cz1 => ((¬ rz2 = 0 → vp_in (c_i Cz1 18) 150 ∧ ∀ vz5 : Int32, vz5 = (c_pa Cz1 0 (c_rp Cz1)) (c_i Cz1 18).toNatClampNeg → ∀ vz6 : Int32, vz6 = (c_i Cz1 18) * 3 → ((vz5 ≤ 19 → vp_in vz5 26 ∧ vp_in vz6 450 ∧ vp_in (vz6 + 1) 450 ∧ vp_in (vz6 + 2) 450 ∧ p_X2_perform vz5.toNatClampNeg ((c_pa Cz1 1 (c_rp Cz1)) vz6.toNatClampNeg) ((c_pa Cz1 1 (c_rp Cz1)) (vz6 + 1).toNatClampNeg) ((c_pa Cz1 1 (c_rp Cz1)) (vz6 + 2).toNatClampNeg) Cz1 (fun rz13 Cz12 => ((¬ rz13 = 0 → j_X6_step_114 Q (c_iS Cz12 17 rz13)) ∧ (rz13 = 0 → p_X6_goOnAt ((c_i Cz12 18) + 1) (c_iS Cz12 17 rz13) (fun rz17 Cz16 => j_X6_step_114 Q Cz16))))) ∧ (¬ vz5 ≤ 19 → vp_in vz5 26 ∧ vp_in vz6 450 ∧ vp_in (vz6 + 1) 450 ∧ p_X6_steer vz5.toNatClampNeg ((c_pa Cz1 1 (c_rp Cz1)) vz6.toNatClampNeg) ((c_pa Cz1 1 (c_rp Cz1)) (vz6 + 1).toNatClampNeg) Cz1 (fun rz22 Cz21 => j_X6_step_114 Q (c_iS Cz21 17 rz22))))) ∧ (rz2 = 0 → Q 0 Cz1)))
set_option maxRecDepth 100000 in
set_option maxHeartbeats 4000000 in
theorem t_X6_step (_ : Bool) (M : mS) (o : Nat → Int64) (X : List va_E) (C : cS) (Q : Int32 → cS → Prop) (h : p_X6_step C Q) : z_M q_X6_step false [.ref 225] (wz C M o X) (zc_i M o X Q) := by
  unfold p_X6_step at h
  refine z_enter (by decide) (Nat.le_of_ble_eq_true rfl) ?_
  refine z_aload_n 0 1 dX6_step_0 rfl rfl ?_
  refine z_ciV [] 4 dX6_step_1 ok_X6_step_52 rfl rfl (Nat.le_of_ble_eq_true rfl) rc_25 ⟨rfl, rfl⟩ ⟨Nat.le_refl _, Nat.le_refl _⟩ rfl (t_X6_hasNext false M o X  C _ h) (fun rz2 Cz1 h => ?_)
  refine z_if_ne 9 7 dX6_step_4 rfl rfl (fun hcz3 => ?_) (fun hcz3 => ?_)
  · replace h := h.1 hcz3
    refine z_aload_n 0 10 dX6_step_9 rfl rfl ?_
    refine gr_rp (c_rp Cz1) 13 dX6_step_10 of_X6_22 rfl rfl ?_
    refine gr_p0 16 dX6_step_13 of_X6_61 rfl ?_
    refine z_aload_n 0 17 dX6_step_16 rfl rfl ?_
    refine gci_18 (c_i Cz1 18) 20 dX6_step_17 of_X6_33 rfl rfl ?_
    obtain ⟨hbz4, h⟩ := h
    refine gp0 ((c_pa Cz1 0 (c_rp Cz1)) (c_i Cz1 18).toNatClampNeg) 21 dX6_step_20 hbz4 rfl rfl ?_
    refine z_topi (fun vz5 hvz5 => ?_)
    replace h := h vz5 hvz5
    refine z_istore_n [(1, .int vz5), (0, .ref 225)] 22 dX6_step_21 (Nat.le_of_ble_eq_true rfl) rfl rfl ?_
    refine z_aload_n 1 23 dX6_step_22 rfl rfl ?_
    refine gr_rp (c_rp Cz1) 26 dX6_step_23 of_X6_22 rfl rfl ?_
    refine gr_p1 29 dX6_step_26 of_X6_64 rfl ?_
    refine z_astore_n [(2, .ref (201 + 1 + pO (c_rp Cz1))), (1, .int vz5), (0, .ref 225)] 30 dX6_step_29 (Nat.le_of_ble_eq_true rfl) rfl rfl ?_
    refine z_aload_n 2 31 dX6_step_30 rfl rfl ?_
    refine gci_18 (c_i Cz1 18) 34 dX6_step_31 of_X6_33 rfl rfl ?_
    refine z_iconst 3 35 dX6_step_34 rfl rfl ?_
    refine z_imul 36 dX6_step_35 rfl ?_
    refine z_topi (fun vz6 hvz6 => ?_)
    replace h := h vz6 hvz6
    refine z_istore_n [(3, .int vz6), (2, .ref (201 + 1 + pO (c_rp Cz1))), (1, .int vz5), (0, .ref 225)] 37 dX6_step_36 (Nat.le_of_ble_eq_true rfl) rfl rfl ?_
    refine z_iload_n 2 38 dX6_step_37 rfl rfl ?_
    refine z_bipush 19 40 dX6_step_38 rfl rfl ?_
    refine z_icmp_le 67 43 dX6_step_40 rfl rfl (fun hcz7 => ?_) (fun hcz7 => ?_)
    · replace h := h.1 hcz7
      refine z_aload_n 3 68 dX6_step_67 rfl rfl ?_
      refine z_aload_n 3 69 dX6_step_68 rfl rfl ?_
      refine gr_25_0 72 dX6_step_69 of_X6_18 rfl ?_
      refine z_getsN (.ref 1) 75 dX6_step_72 (List.mem_of_getElem? (i := 0) rfl) (List.mem_of_getElem? (i := 2) rfl) rfl ?_
      refine z_iload_n 2 76 dX6_step_75 rfl rfl ?_
      obtain ⟨hbz8, h⟩ := h
      refine z_taald 0 77 dX6_step_76 (List.mem_of_getElem? (i := 0) rfl) (Nat.lt_succ_self 0) rfl hbz8 rfl ?_
      refine z_aload_n 1 78 dX6_step_77 rfl rfl ?_
      refine z_iload_n 0 79 dX6_step_78 rfl rfl ?_
      obtain ⟨hbz9, h⟩ := h
      refine gp1 ((c_pa Cz1 1 (c_rp Cz1)) vz6.toNatClampNeg) 80 dX6_step_79 hbz9 rfl rfl ?_
      refine z_aload_n 1 81 dX6_step_80 rfl rfl ?_
      refine z_iload_n 0 82 dX6_step_81 rfl rfl ?_
      refine z_iconst 1 83 dX6_step_82 rfl rfl ?_
      refine z_iadd 84 dX6_step_83 rfl ?_
      obtain ⟨hbz10, h⟩ := h
      refine gp1 ((c_pa Cz1 1 (c_rp Cz1)) (vz6 + 1).toNatClampNeg) 85 dX6_step_84 hbz10 rfl rfl ?_
      refine z_aload_n 1 86 dX6_step_85 rfl rfl ?_
      refine z_iload_n 0 87 dX6_step_86 rfl rfl ?_
      refine z_iconst 2 88 dX6_step_87 rfl rfl ?_
      refine z_iadd 89 dX6_step_88 rfl ?_
      obtain ⟨hbz11, h⟩ := h
      refine gp1 ((c_pa Cz1 1 (c_rp Cz1)) (vz6 + 2).toNatClampNeg) 90 dX6_step_89 hbz11 rfl rfl ?_
      refine z_ciV [.ref (2 + vz5.toNatClampNeg), .int ((c_pa Cz1 1 (c_rp Cz1)) vz6.toNatClampNeg), .int ((c_pa Cz1 1 (c_rp Cz1)) (vz6 + 1).toNatClampNeg), .int ((c_pa Cz1 1 (c_rp Cz1)) (vz6 + 2).toNatClampNeg)] 93 dX6_step_90 ok_X6_step_75 rfl rfl (Nat.le_of_ble_eq_true rfl) rc_24 ⟨rfl, rfl⟩ ⟨Nat.le_refl _, Nat.le_refl _⟩ rfl (t_X2_perform false M o X vz5.toNatClampNeg ((c_pa Cz1 1 (c_rp Cz1)) vz6.toNatClampNeg) ((c_pa Cz1 1 (c_rp Cz1)) (vz6 + 1).toNatClampNeg) ((c_pa Cz1 1 (c_rp Cz1)) (vz6 + 2).toNatClampNeg) Cz1 _ h) (fun rz13 Cz12 h => ?_)
      refine pci_17 96 dX6_step_93 op_X6_30 rfl ?_
      refine z_aload_n 3 97 dX6_step_96 rfl rfl ?_
      refine gci_17 rz13 100 dX6_step_97 of_X6_30 rfl rfl ?_
      refine z_if_ne 114 103 dX6_step_100 rfl rfl (fun hcz14 => ?_) (fun hcz14 => ?_)
      · replace h := h.1 hcz14
        refine z_pick [(0, .ref 225)] [3] rfl ?_
        exact tj_X6_step_114 false M o X Q (c_iS Cz12 17 rz13) h
      · replace h := h.2 hcz14
        refine z_aload_n 3 104 dX6_step_103 rfl rfl ?_
        refine z_aload_n 3 105 dX6_step_104 rfl rfl ?_
        refine gci_18 (c_i Cz12 18) 108 dX6_step_105 of_X6_33 rfl rfl ?_
        refine z_iconst 1 109 dX6_step_108 rfl rfl ?_
        refine z_iadd 110 dX6_step_109 rfl ?_
        refine z_ciV [.int ((c_i Cz12 18) + 1)] 113 dX6_step_110 ok_X6_step_48 rfl rfl (Nat.le_of_ble_eq_true rfl) rc_25 ⟨rfl, rfl⟩ ⟨Nat.le_refl _, Nat.le_refl _⟩ rfl (t_X6_goOnAt false M o X ((c_i Cz12 18) + 1) (c_iS Cz12 17 rz13) _ h) (fun rz17 Cz16 h => ?_)
        refine z_pop rfl 114 dX6_step_113 rfl ?_
        refine z_pick [(0, .ref 225)] [3] rfl ?_
        exact tj_X6_step_114 false M o X Q Cz16 h
    · replace h := h.2 hcz7
      refine z_aload_n 3 44 dX6_step_43 rfl rfl ?_
      refine z_aload_n 3 45 dX6_step_44 rfl rfl ?_
      refine z_getsN (.ref 1) 48 dX6_step_45 (List.mem_of_getElem? (i := 0) rfl) (List.mem_of_getElem? (i := 2) rfl) rfl ?_
      refine z_iload_n 2 49 dX6_step_48 rfl rfl ?_
      obtain ⟨hbz18, h⟩ := h
      refine z_taald 0 50 dX6_step_49 (List.mem_of_getElem? (i := 0) rfl) (Nat.lt_succ_self 0) rfl hbz18 rfl ?_
      refine z_aload_n 1 51 dX6_step_50 rfl rfl ?_
      refine z_iload_n 0 52 dX6_step_51 rfl rfl ?_
      obtain ⟨hbz19, h⟩ := h
      refine gp1 ((c_pa Cz1 1 (c_rp Cz1)) vz6.toNatClampNeg) 53 dX6_step_52 hbz19 rfl rfl ?_
      refine z_aload_n 1 54 dX6_step_53 rfl rfl ?_
      refine z_iload_n 0 55 dX6_step_54 rfl rfl ?_
      refine z_iconst 1 56 dX6_step_55 rfl rfl ?_
      refine z_iadd 57 dX6_step_56 rfl ?_
      obtain ⟨hbz20, h⟩ := h
      refine gp1 ((c_pa Cz1 1 (c_rp Cz1)) (vz6 + 1).toNatClampNeg) 58 dX6_step_57 hbz20 rfl rfl ?_
      refine z_ciV [.ref (2 + vz5.toNatClampNeg), .int ((c_pa Cz1 1 (c_rp Cz1)) vz6.toNatClampNeg), .int ((c_pa Cz1 1 (c_rp Cz1)) (vz6 + 1).toNatClampNeg)] 61 dX6_step_58 ok_X6_step_71 rfl rfl (Nat.le_of_ble_eq_true rfl) rc_25 ⟨rfl, rfl⟩ ⟨Nat.le_refl _, Nat.le_refl _⟩ rfl (t_X6_steer false M o X vz5.toNatClampNeg ((c_pa Cz1 1 (c_rp Cz1)) vz6.toNatClampNeg) ((c_pa Cz1 1 (c_rp Cz1)) (vz6 + 1).toNatClampNeg) Cz1 _ h) (fun rz22 Cz21 h => ?_)
      refine pci_17 64 dX6_step_61 op_X6_30 rfl ?_
      refine z_goto 114 dX6_step_64 rfl ?_
      refine z_pick [(0, .ref 225)] [3] rfl ?_
      exact tj_X6_step_114 false M o X Q (c_iS Cz21 17 rz22) h
  · replace h := h.2 hcz3
    refine z_iconst 0 8 dX6_step_7 rfl rfl ?_
    exact z_zret dX6_step_8 rfl rfl ⟨Nat.le_refl _, Nat.le_refl _⟩ ⟨0, Cz1, rfl, rfl, h⟩
end ZG
