section ZG
def b_X9_clear_2 (R9 : Int32 → cS → Prop) (Q : cS → Prop) (K28 : cS → Prop) (l1 : Int32) (C : cS) : Prop :=
  (((c_i C 22) ≤ l1 → K28 C) ∧ (¬ (c_i C 22) ≤ l1 → vp_in l1 (2 * c_sz C) ∧ vp_in ((c_a C 17) l1.toNatClampNeg) (2 * c_sz C) ∧ ∀ vz4 : Int32, vz4 = l1 + 1 → R9 vz4 (c_aU C 18 ((c_a C 17) l1.toNatClampNeg) 0)))
def w_X9_clear_2 (Q : cS → Prop) (K28 : cS → Prop) : Nat → Int32 → cS → Prop
 | 0 => fun _ _ => False
 | n + 1 => fun l1 C => b_X9_clear_2 (w_X9_clear_2 Q K28 n) Q K28 l1 C
set_option maxRecDepth 100000 in
set_option maxHeartbeats 4000000 in
theorem tb_X9_clear_2 (tg : Bool) (M : mS) (o : Nat → Int64) (X : List va_E) (R9 : Int32 → cS → Prop) (Q : cS → Prop) (K28 : cS → Prop) (hR9 : ∀ (l1 : Int32) (C : cS), R9 l1 C → z_go q_X9_clear tg 2 [(1, .int l1), (0, .ref 228)] [] (wz C M o X) 0 0 (zc_v M o X Q)) (hK28 : ∀ (C : cS), K28 C → z_go q_X9_clear tg 28 [(0, .ref 228)] [] (wz C M o X) 0 0 (zc_v M o X Q)) (l1 : Int32) (C : cS) (h : b_X9_clear_2 R9 Q K28 l1 C) : z_go q_X9_clear tg 2 [(1, .int l1), (0, .ref 228)] [] (wz C M o X) 0 0 (zc_v M o X Q) := by
  unfold b_X9_clear_2 at h
  refine z_iload_n 0 3 dX9_clear_2 rfl rfl ?_
  refine z_aload_n 1 4 dX9_clear_3 rfl rfl ?_
  refine gci_22 (c_i C 22) 7 dX9_clear_4 of_X9_43 rfl rfl ?_
  refine z_icmp_ge 28 10 dX9_clear_7 rfl rfl (fun hcz1 => ?_) (fun hcz1 => ?_)
  · replace h := h.1 hcz1
    refine z_pick [(0, .ref 228)] [1] rfl ?_
    exact hK28  C h
  · replace h := h.2 hcz1
    refine z_aload_n 1 11 dX9_clear_10 rfl rfl ?_
    refine gr_28_2 14 dX9_clear_11 of_X9_23 rfl ?_
    refine z_aload_n 1 15 dX9_clear_14 rfl rfl ?_
    refine gr_28_1 18 dX9_clear_15 of_X9_19 rfl ?_
    refine z_iload_n 0 19 dX9_clear_18 rfl rfl ?_
    obtain ⟨hbz2, h⟩ := h
    refine gca_17 ((c_a C 17) l1.toNatClampNeg) 20 dX9_clear_19 hbz2 rfl rfl ?_
    refine z_iconst 0 21 dX9_clear_20 rfl rfl ?_
    obtain ⟨hbz3, h⟩ := h
    refine pca_18 22 dX9_clear_21 hbz3 rfl ?_
    obtain ⟨vz4, hvz4⟩ : ∃ v : Int32, v = l1 + 1 := ⟨_, rfl⟩
    replace h := h vz4 hvz4
    refine z_iinc vz4 [(1, .int vz4), (0, .ref 228)] 0 25 dX9_clear_22 rfl hvz4.symm (Nat.le_of_ble_eq_true rfl) rfl rfl ?_
    refine z_goto 2 dX9_clear_25 rfl ?_
    refine z_pick [(1, .int vz4), (0, .ref 228)] [0, 1] rfl ?_
    exact hR9 vz4 (c_aU C 18 ((c_a C 17) l1.toNatClampNeg) 0) h
theorem tw_X9_clear_2 (tg : Bool) (M : mS) (o : Nat → Int64) (X : List va_E) (Q : cS → Prop) (K28 : cS → Prop) (hK28 : ∀ (C : cS), K28 C → z_go q_X9_clear tg 28 [(0, .ref 228)] [] (wz C M o X) 0 0 (zc_v M o X Q)) : ∀ (n : Nat) (l1 : Int32) (C : cS), w_X9_clear_2 Q K28 n l1 C → z_go q_X9_clear tg 2 [(1, .int l1), (0, .ref 228)] [] (wz C M o X) 0 0 (zc_v M o X Q) := by
  intro n
  induction n with
  | zero => intro l1 C h; exact h.elim
  | succ n ih => intro l1 C h; exact tb_X9_clear_2 tg M o X _ Q K28 ih hK28 l1 C h
def p_X9_clear (C : cS) (Q : cS → Prop) : Prop :=
  ∃ nz6 : Nat, w_X9_clear_2 Q (fun Cz5 => Q (c_iS Cz5 22 0)) nz6 0 C
set_option maxRecDepth 100000 in
set_option maxHeartbeats 4000000 in
theorem t_X9_clear (tg : Bool) (M : mS) (o : Nat → Int64) (X : List va_E) (C : cS) (Q : cS → Prop) (h : p_X9_clear C Q) : z_M q_X9_clear tg [.ref 228] (wz C M o X) (zc_v M o X Q) := by
  unfold p_X9_clear at h
  refine z_enter (by decide) (Nat.le_of_ble_eq_true rfl) ?_
  refine z_iconst 0 1 dX9_clear_0 rfl rfl ?_
  refine z_istore_n [(1, .int 0), (0, .ref 228)] 2 dX9_clear_1 (Nat.le_of_ble_eq_true rfl) rfl rfl ?_
  obtain ⟨nz6, h⟩ := h
  refine z_pick [(1, .int 0), (0, .ref 228)] [0, 1] rfl ?_
  refine tw_X9_clear_2 tg M o X Q _ (fun Cz5 h => ?_) nz6 0 C h
  · refine z_aload_n 0 29 dX9_clear_28 rfl rfl ?_
    refine z_iconst 0 30 dX9_clear_29 rfl rfl ?_
    refine pci_22 33 dX9_clear_30 op_X9_43 rfl ?_
    exact z_vret dX9_clear_33 rfl ⟨Nat.le_refl _, Nat.le_refl _⟩ ⟨(c_iS Cz5 22 0), rfl, rfl, h⟩
def p_X9_meet (a1 : Int32) (a2 : Int32) (C : cS) (Q : Int32 → cS → Prop) : Prop :=
  ((a1 = 2 → p_X3_home a2 C (fun rz3 Cz2 => vp_in rz3 (2 * c_sz Cz2) ∧ ((¬ ((c_a Cz2 18) rz3.toNatClampNeg) = 0 → Q ((c_a Cz2 18) rz3.toNatClampNeg) Cz2) ∧ (((c_a Cz2 18) rz3.toNatClampNeg) = 0 → (((Int32.ofNat (2 * c_sz Cz2)) ≤ (c_i Cz2 22) → Q ((c_a Cz2 18) rz3.toNatClampNeg) Cz2) ∧ (¬ (Int32.ofNat (2 * c_sz Cz2)) ≤ (c_i Cz2 22) → vp_in (c_i Cz2 22) (2 * c_sz Cz2) ∧ Q ((upd (c_a Cz2 18) rz3.toNatClampNeg ((c_i Cz2 22) + 1)) rz3.toNatClampNeg) (c_aU (c_iS (c_aU Cz2 17 (c_i Cz2 22) rz3) 22 ((c_i Cz2 22) + 1)) 18 rz3 ((c_i Cz2 22) + 1)))))))) ∧ (¬ a1 = 2 → Q 0 C))
set_option maxRecDepth 100000 in
set_option maxHeartbeats 4000000 in
theorem t_X9_meet (tg : Bool) (M : mS) (o : Nat → Int64) (X : List va_E) (a1 : Int32) (a2 : Int32) (C : cS) (Q : Int32 → cS → Prop) (h : p_X9_meet a1 a2 C Q) : z_M q_X9_meet tg [.ref 228, .int a1, .int a2] (wz C M o X) (zc_i M o X Q) := by
  unfold p_X9_meet at h
  refine z_enter (by decide) (Nat.le_of_ble_eq_true rfl) ?_
  refine z_iload_n 1 1 dX9_meet_0 rfl rfl ?_
  refine z_iconst 2 2 dX9_meet_1 rfl rfl ?_
  refine z_icmp_eq 7 5 dX9_meet_2 rfl rfl (fun hcz1 => ?_) (fun hcz1 => ?_)
  · replace h := h.1 hcz1
    refine z_aload_n 0 8 dX9_meet_7 rfl rfl ?_
    refine gr_28_0 11 dX9_meet_8 of_X9_7 rfl ?_
    refine z_iload_n 2 12 dX9_meet_11 rfl rfl ?_
    refine z_ciV [.int a2] 15 dX9_meet_12 ok_X9_meet_77 rfl rfl (Nat.le_of_ble_eq_true rfl) rc_18 ⟨rfl, rfl⟩ ⟨Nat.le_refl _, Nat.le_refl _⟩ rfl (t_X3_home tg M o X a2 C _ h) (fun rz3 Cz2 h => ?_)
    refine z_istore_n [(3, .int rz3), (0, .ref 228), (1, .int a1), (2, .int a2)] 16 dX9_meet_15 (Nat.le_of_ble_eq_true rfl) rfl rfl ?_
    refine z_aload_n 1 17 dX9_meet_16 rfl rfl ?_
    refine gr_28_2 20 dX9_meet_17 of_X9_23 rfl ?_
    refine z_iload_n 0 21 dX9_meet_20 rfl rfl ?_
    obtain ⟨hbz4, h⟩ := h
    refine gca_18 ((c_a Cz2 18) rz3.toNatClampNeg) 22 dX9_meet_21 hbz4 rfl rfl ?_
    refine z_if_ne 67 25 dX9_meet_22 rfl rfl (fun hcz5 => ?_) (fun hcz5 => ?_)
    · replace h := h.1 hcz5
      refine z_aload_n 1 68 dX9_meet_67 rfl rfl ?_
      refine gr_28_2 71 dX9_meet_68 of_X9_23 rfl ?_
      refine z_iload_n 0 72 dX9_meet_71 rfl rfl ?_
      refine gca_18 ((c_a Cz2 18) rz3.toNatClampNeg) 73 dX9_meet_72 hbz4 rfl rfl ?_
      exact z_iret dX9_meet_73 rfl ⟨Nat.le_refl _, Nat.le_refl _⟩ ⟨(c_a Cz2 18) rz3.toNatClampNeg, Cz2, rfl, rfl, h⟩
    · replace h := h.2 hcz5
      refine z_aload_n 1 26 dX9_meet_25 rfl rfl ?_
      refine gci_22 (c_i Cz2 22) 29 dX9_meet_26 of_X9_43 rfl rfl ?_
      refine z_aload_n 1 30 dX9_meet_29 rfl rfl ?_
      refine gr_28_1 33 dX9_meet_30 of_X9_19 rfl ?_
      refine z_alen (Int32.ofNat (2 * c_sz Cz2)) 29 34 dX9_meet_33 rfl rfl (by decide) rfl rfl ?_
      refine z_icmp_ge 67 37 dX9_meet_34 rfl rfl (fun hcz6 => ?_) (fun hcz6 => ?_)
      · replace h := h.1 hcz6
        refine z_aload_n 1 68 dX9_meet_67 rfl rfl ?_
        refine gr_28_2 71 dX9_meet_68 of_X9_23 rfl ?_
        refine z_iload_n 0 72 dX9_meet_71 rfl rfl ?_
        refine gca_18 ((c_a Cz2 18) rz3.toNatClampNeg) 73 dX9_meet_72 hbz4 rfl rfl ?_
        exact z_iret dX9_meet_73 rfl ⟨Nat.le_refl _, Nat.le_refl _⟩ ⟨(c_a Cz2 18) rz3.toNatClampNeg, Cz2, rfl, rfl, h⟩
      · replace h := h.2 hcz6
        refine z_aload_n 1 38 dX9_meet_37 rfl rfl ?_
        refine gr_28_1 41 dX9_meet_38 of_X9_19 rfl ?_
        refine z_aload_n 1 42 dX9_meet_41 rfl rfl ?_
        refine gci_22 (c_i Cz2 22) 45 dX9_meet_42 of_X9_43 rfl rfl ?_
        refine z_iload_n 0 46 dX9_meet_45 rfl rfl ?_
        obtain ⟨hbz7, h⟩ := h
        refine pca_17 47 dX9_meet_46 hbz7 rfl ?_
        refine z_aload_n 1 48 dX9_meet_47 rfl rfl ?_
        refine z_dup rfl 49 dX9_meet_48 rfl ?_
        refine gci_22 (c_i Cz2 22) 52 dX9_meet_49 of_X9_43 rfl rfl ?_
        refine z_iconst 1 53 dX9_meet_52 rfl rfl ?_
        refine z_iadd 54 dX9_meet_53 rfl ?_
        refine pci_22 57 dX9_meet_54 op_X9_43 rfl ?_
        refine z_aload_n 1 58 dX9_meet_57 rfl rfl ?_
        refine gr_28_2 61 dX9_meet_58 of_X9_23 rfl ?_
        refine z_iload_n 0 62 dX9_meet_61 rfl rfl ?_
        refine z_aload_n 1 63 dX9_meet_62 rfl rfl ?_
        refine gci_22 ((c_i Cz2 22) + 1) 66 dX9_meet_63 of_X9_43 rfl rfl ?_
        refine pca_18 67 dX9_meet_66 hbz4 rfl ?_
        refine z_aload_n 1 68 dX9_meet_67 rfl rfl ?_
        refine gr_28_2 71 dX9_meet_68 of_X9_23 rfl ?_
        refine z_iload_n 0 72 dX9_meet_71 rfl rfl ?_
        refine gca_18 ((upd (c_a Cz2 18) rz3.toNatClampNeg ((c_i Cz2 22) + 1)) rz3.toNatClampNeg) 73 dX9_meet_72 hbz4 rfl rfl ?_
        exact z_iret dX9_meet_73 rfl ⟨Nat.le_refl _, Nat.le_refl _⟩ ⟨(upd (c_a Cz2 18) rz3.toNatClampNeg ((c_i Cz2 22) + 1)) rz3.toNatClampNeg, (c_aU (c_iS (c_aU Cz2 17 (c_i Cz2 22) rz3) 22 ((c_i Cz2 22) + 1)) 18 rz3 ((c_i Cz2 22) + 1)), rfl, rfl, h⟩
  · replace h := h.2 hcz1
    refine z_iconst 0 6 dX9_meet_5 rfl rfl ?_
    exact z_iret dX9_meet_6 rfl ⟨Nat.le_refl _, Nat.le_refl _⟩ ⟨0, C, rfl, rfl, h⟩
def b_X9_findFromRoots_6 (R9 : Int32 → cS → Prop) (Q : cS → Prop) (K46 : cS → Prop) (l1 : Int32) (C : cS) : Prop :=
  p_X3_roots C (fun rz3 Cz2 => ((rz3 ≤ l1 → K46 Cz2) ∧ (¬ rz3 ≤ l1 → vp_in l1 58 ∧ p_X9_meet ((c_a Cz2 12) l1.toNatClampNeg) ((c_a Cz2 13) l1.toNatClampNeg) Cz2 (fun rz7 Cz6 => ∀ vz8 : Int32, vz8 = l1 + 1 → R9 vz8 Cz6))))
def w_X9_findFromRoots_6 (Q : cS → Prop) (K46 : cS → Prop) : Nat → Int32 → cS → Prop
 | 0 => fun _ _ => False
 | n + 1 => fun l1 C => b_X9_findFromRoots_6 (w_X9_findFromRoots_6 Q K46 n) Q K46 l1 C
set_option maxRecDepth 100000 in
set_option maxHeartbeats 4000000 in
theorem tb_X9_findFromRoots_6 (tg : Bool) (M : mS) (o : Nat → Int64) (X : List va_E) (R9 : Int32 → cS → Prop) (Q : cS → Prop) (K46 : cS → Prop) (hR9 : ∀ (l1 : Int32) (C : cS), R9 l1 C → z_go q_X9_findFromRoots tg 6 [(1, .int l1), (0, .ref 228)] [] (wz C M o X) 0 0 (zc_v M o X Q)) (hK46 : ∀ (C : cS), K46 C → z_go q_X9_findFromRoots tg 46 [(0, .ref 228)] [] (wz C M o X) 0 0 (zc_v M o X Q)) (l1 : Int32) (C : cS) (h : b_X9_findFromRoots_6 R9 Q K46 l1 C) : z_go q_X9_findFromRoots tg 6 [(1, .int l1), (0, .ref 228)] [] (wz C M o X) 0 0 (zc_v M o X Q) := by
  unfold b_X9_findFromRoots_6 at h
  refine z_iload_n 0 7 dX9_findFromRoots_6 rfl rfl ?_
  refine z_aload_n 1 8 dX9_findFromRoots_7 rfl rfl ?_
  refine gr_28_0 11 dX9_findFromRoots_8 of_X9_7 rfl ?_
  refine z_ciV [] 14 dX9_findFromRoots_11 ok_X9_findFromRoots_29 rfl rfl (Nat.le_of_ble_eq_true rfl) rc_18 ⟨rfl, rfl⟩ ⟨Nat.le_refl _, Nat.le_refl _⟩ rfl (t_X3_roots tg M o X  C _ h) (fun rz3 Cz2 h => ?_)
  refine z_icmp_ge 46 17 dX9_findFromRoots_14 rfl rfl (fun hcz4 => ?_) (fun hcz4 => ?_)
  · replace h := h.1 hcz4
    refine z_pick [(0, .ref 228)] [1] rfl ?_
    exact hK46  Cz2 h
  · replace h := h.2 hcz4
    refine z_aload_n 1 18 dX9_findFromRoots_17 rfl rfl ?_
    refine z_aload_n 1 19 dX9_findFromRoots_18 rfl rfl ?_
    refine gr_28_0 22 dX9_findFromRoots_19 of_X9_7 rfl ?_
    refine gr_18_4 25 dX9_findFromRoots_22 of_X9_33 rfl ?_
    refine z_iload_n 0 26 dX9_findFromRoots_25 rfl rfl ?_
    obtain ⟨hbz5, h⟩ := h
    refine gca_12 ((c_a Cz2 12) l1.toNatClampNeg) 27 dX9_findFromRoots_26 hbz5 rfl rfl ?_
    refine z_aload_n 1 28 dX9_findFromRoots_27 rfl rfl ?_
    refine gr_28_0 31 dX9_findFromRoots_28 of_X9_7 rfl ?_
    refine gr_18_5 34 dX9_findFromRoots_31 of_X9_36 rfl ?_
    refine z_iload_n 0 35 dX9_findFromRoots_34 rfl rfl ?_
    refine gca_13 ((c_a Cz2 13) l1.toNatClampNeg) 36 dX9_findFromRoots_35 hbz5 rfl rfl ?_
    refine z_ciV [.int ((c_a Cz2 12) l1.toNatClampNeg), .int ((c_a Cz2 13) l1.toNatClampNeg)] 39 dX9_findFromRoots_36 ok_X9_findFromRoots_39 rfl rfl (Nat.le_of_ble_eq_true rfl) rc_28 ⟨rfl, rfl⟩ ⟨Nat.le_refl _, Nat.le_refl _⟩ rfl (t_X9_meet tg M o X ((c_a Cz2 12) l1.toNatClampNeg) ((c_a Cz2 13) l1.toNatClampNeg) Cz2 _ h) (fun rz7 Cz6 h => ?_)
    refine z_pop rfl 40 dX9_findFromRoots_39 rfl ?_
    obtain ⟨vz8, hvz8⟩ : ∃ v : Int32, v = l1 + 1 := ⟨_, rfl⟩
    replace h := h vz8 hvz8
    refine z_iinc vz8 [(1, .int vz8), (0, .ref 228)] 0 43 dX9_findFromRoots_40 rfl hvz8.symm (Nat.le_of_ble_eq_true rfl) rfl rfl ?_
    refine z_goto 6 dX9_findFromRoots_43 rfl ?_
    refine z_pick [(1, .int vz8), (0, .ref 228)] [0, 1] rfl ?_
    exact hR9 vz8 Cz6 h
theorem tw_X9_findFromRoots_6 (tg : Bool) (M : mS) (o : Nat → Int64) (X : List va_E) (Q : cS → Prop) (K46 : cS → Prop) (hK46 : ∀ (C : cS), K46 C → z_go q_X9_findFromRoots tg 46 [(0, .ref 228)] [] (wz C M o X) 0 0 (zc_v M o X Q)) : ∀ (n : Nat) (l1 : Int32) (C : cS), w_X9_findFromRoots_6 Q K46 n l1 C → z_go q_X9_findFromRoots tg 6 [(1, .int l1), (0, .ref 228)] [] (wz C M o X) 0 0 (zc_v M o X Q) := by
  intro n
  induction n with
  | zero => intro l1 C h; exact h.elim
  | succ n ih => intro l1 C h; exact tb_X9_findFromRoots_6 tg M o X _ Q K46 ih hK46 l1 C h
def b_X9_findFromRoots_91 (R9 : Int32 → Int32 → Int32 → Int32 → cS → Prop) (Q : cS → Prop) (K130 : Int32 → cS → Prop) (l1 : Int32) (l2 : Int32) (l3 : Int32) (l4 : Int32) (C : cS) : Prop :=
  (((l2 + l3) ≤ l4 → K130 l1 C) ∧ (¬ (l2 + l3) ≤ l4 → vp_in l4 (2 * c_sz C) ∧ p_X9_meet ((c_a C 10) l4.toNatClampNeg) ((c_a C 11) l4.toNatClampNeg) C (fun rz19 Cz18 => ∀ vz20 : Int32, vz20 = l4 + 1 → R9 l1 l2 l3 vz20 Cz18)))
def w_X9_findFromRoots_91 (Q : cS → Prop) (K130 : Int32 → cS → Prop) : Nat → Int32 → Int32 → Int32 → Int32 → cS → Prop
 | 0 => fun _ _ _ _ _ => False
 | n + 1 => fun l1 l2 l3 l4 C => b_X9_findFromRoots_91 (w_X9_findFromRoots_91 Q K130 n) Q K130 l1 l2 l3 l4 C
set_option maxRecDepth 100000 in
set_option maxHeartbeats 4000000 in
theorem tb_X9_findFromRoots_91 (tg : Bool) (M : mS) (o : Nat → Int64) (X : List va_E) (R9 : Int32 → Int32 → Int32 → Int32 → cS → Prop) (Q : cS → Prop) (K130 : Int32 → cS → Prop) (hR9 : ∀ (l1 : Int32) (l2 : Int32) (l3 : Int32) (l4 : Int32) (C : cS), R9 l1 l2 l3 l4 C → z_go q_X9_findFromRoots tg 91 [(1, .int l1), (2, .int l2), (3, .int l3), (4, .int l4), (0, .ref 228)] [] (wz C M o X) 0 0 (zc_v M o X Q)) (hK130 : ∀ (l1 : Int32) (C : cS), K130 l1 C → z_go q_X9_findFromRoots tg 130 [(1, .int l1), (0, .ref 228)] [] (wz C M o X) 0 0 (zc_v M o X Q)) (l1 : Int32) (l2 : Int32) (l3 : Int32) (l4 : Int32) (C : cS) (h : b_X9_findFromRoots_91 R9 Q K130 l1 l2 l3 l4 C) : z_go q_X9_findFromRoots tg 91 [(1, .int l1), (2, .int l2), (3, .int l3), (4, .int l4), (0, .ref 228)] [] (wz C M o X) 0 0 (zc_v M o X Q) := by
  unfold b_X9_findFromRoots_91 at h
  refine z_iload 3 93 dX9_findFromRoots_91 rfl rfl ?_
  refine z_iload_n 1 94 dX9_findFromRoots_93 rfl rfl ?_
  refine z_iload_n 2 95 dX9_findFromRoots_94 rfl rfl ?_
  refine z_iadd 96 dX9_findFromRoots_95 rfl ?_
  refine z_icmp_ge 130 99 dX9_findFromRoots_96 rfl rfl (fun hcz16 => ?_) (fun hcz16 => ?_)
  · replace h := h.1 hcz16
    refine z_pick [(1, .int l1), (0, .ref 228)] [0, 4] rfl ?_
    exact hK130 l1 C h
  · replace h := h.2 hcz16
    refine z_aload_n 4 100 dX9_findFromRoots_99 rfl rfl ?_
    refine z_aload_n 4 101 dX9_findFromRoots_100 rfl rfl ?_
    refine gr_28_0 104 dX9_findFromRoots_101 of_X9_7 rfl ?_
    refine gr_18_2 107 dX9_findFromRoots_104 of_X9_50 rfl ?_
    refine z_iload 3 109 dX9_findFromRoots_107 rfl rfl ?_
    obtain ⟨hbz17, h⟩ := h
    refine gca_10 ((c_a C 10) l4.toNatClampNeg) 110 dX9_findFromRoots_109 hbz17 rfl rfl ?_
    refine z_aload_n 4 111 dX9_findFromRoots_110 rfl rfl ?_
    refine gr_28_0 114 dX9_findFromRoots_111 of_X9_7 rfl ?_
    refine gr_18_3 117 dX9_findFromRoots_114 of_X9_53 rfl ?_
    refine z_iload 3 119 dX9_findFromRoots_117 rfl rfl ?_
    refine gca_11 ((c_a C 11) l4.toNatClampNeg) 120 dX9_findFromRoots_119 hbz17 rfl rfl ?_
    refine z_ciV [.int ((c_a C 10) l4.toNatClampNeg), .int ((c_a C 11) l4.toNatClampNeg)] 123 dX9_findFromRoots_120 ok_X9_findFromRoots_39 rfl rfl (Nat.le_of_ble_eq_true rfl) rc_28 ⟨rfl, rfl⟩ ⟨Nat.le_refl _, Nat.le_refl _⟩ rfl (t_X9_meet tg M o X ((c_a C 10) l4.toNatClampNeg) ((c_a C 11) l4.toNatClampNeg) C _ h) (fun rz19 Cz18 h => ?_)
    refine z_pop rfl 124 dX9_findFromRoots_123 rfl ?_
    obtain ⟨vz20, hvz20⟩ : ∃ v : Int32, v = l4 + 1 := ⟨_, rfl⟩
    replace h := h vz20 hvz20
    refine z_iinc vz20 [(4, .int vz20), (1, .int l1), (2, .int l2), (3, .int l3), (0, .ref 228)] 3 127 dX9_findFromRoots_124 rfl hvz20.symm (Nat.le_of_ble_eq_true rfl) rfl rfl ?_
    refine z_goto 91 dX9_findFromRoots_127 rfl ?_
    refine z_pick [(1, .int l1), (2, .int l2), (3, .int l3), (4, .int vz20), (0, .ref 228)] [1, 2, 3, 0, 4] rfl ?_
    exact hR9 l1 l2 l3 vz20 Cz18 h
theorem tw_X9_findFromRoots_91 (tg : Bool) (M : mS) (o : Nat → Int64) (X : List va_E) (Q : cS → Prop) (K130 : Int32 → cS → Prop) (hK130 : ∀ (l1 : Int32) (C : cS), K130 l1 C → z_go q_X9_findFromRoots tg 130 [(1, .int l1), (0, .ref 228)] [] (wz C M o X) 0 0 (zc_v M o X Q)) : ∀ (n : Nat) (l1 : Int32) (l2 : Int32) (l3 : Int32) (l4 : Int32) (C : cS), w_X9_findFromRoots_91 Q K130 n l1 l2 l3 l4 C → z_go q_X9_findFromRoots tg 91 [(1, .int l1), (2, .int l2), (3, .int l3), (4, .int l4), (0, .ref 228)] [] (wz C M o X) 0 0 (zc_v M o X Q) := by
  intro n
  induction n with
  | zero => intro l1 l2 l3 l4 C h; exact h.elim
  | succ n ih => intro l1 l2 l3 l4 C h; exact tb_X9_findFromRoots_91 tg M o X _ Q K130 ih hK130 l1 l2 l3 l4 C h
def b_X9_findFromRoots_48 (R9 : Int32 → cS → Prop) (Q : cS → Prop) (K136 : cS → Prop) (l1 : Int32) (C : cS) : Prop :=
  (((c_i C 22) ≤ l1 → K136 C) ∧ (¬ (c_i C 22) ≤ l1 → (((Int32.ofNat (2 * c_sz C)) ≤ l1 → K136 C) ∧ (¬ (Int32.ofNat (2 * c_sz C)) ≤ l1 → vp_in l1 (2 * c_sz C) ∧ ∀ vz13 : Int32, vz13 = ((c_a C 17) l1.toNatClampNeg) + 2 → p_X3_slotsOf ((c_a C 17) l1.toNatClampNeg) C (fun rz15 Cz14 => ∃ nz24 : Nat, w_X9_findFromRoots_91 Q (fun lz21 Cz22 => ∀ vz23 : Int32, vz23 = lz21 + 1 → R9 vz23 Cz22) nz24 l1 vz13 rz15 vz13 Cz14)))))
def w_X9_findFromRoots_48 (Q : cS → Prop) (K136 : cS → Prop) : Nat → Int32 → cS → Prop
 | 0 => fun _ _ => False
 | n + 1 => fun l1 C => b_X9_findFromRoots_48 (w_X9_findFromRoots_48 Q K136 n) Q K136 l1 C
set_option maxRecDepth 100000 in
set_option maxHeartbeats 4000000 in
theorem tb_X9_findFromRoots_48 (tg : Bool) (M : mS) (o : Nat → Int64) (X : List va_E) (R9 : Int32 → cS → Prop) (Q : cS → Prop) (K136 : cS → Prop) (hR9 : ∀ (l1 : Int32) (C : cS), R9 l1 C → z_go q_X9_findFromRoots tg 48 [(1, .int l1), (0, .ref 228)] [] (wz C M o X) 0 0 (zc_v M o X Q)) (hK136 : ∀ (C : cS), K136 C → z_go q_X9_findFromRoots tg 136 [] [] (wz C M o X) 0 0 (zc_v M o X Q)) (l1 : Int32) (C : cS) (h : b_X9_findFromRoots_48 R9 Q K136 l1 C) : z_go q_X9_findFromRoots tg 48 [(1, .int l1), (0, .ref 228)] [] (wz C M o X) 0 0 (zc_v M o X Q) := by
  unfold b_X9_findFromRoots_48 at h
  refine z_iload_n 0 49 dX9_findFromRoots_48 rfl rfl ?_
  refine z_aload_n 1 50 dX9_findFromRoots_49 rfl rfl ?_
  refine gci_22 (c_i C 22) 53 dX9_findFromRoots_50 of_X9_43 rfl rfl ?_
  refine z_icmp_ge 136 56 dX9_findFromRoots_53 rfl rfl (fun hcz10 => ?_) (fun hcz10 => ?_)
  · replace h := h.1 hcz10
    refine z_pick [] [] rfl ?_
    exact hK136  C h
  · replace h := h.2 hcz10
    refine z_iload_n 0 57 dX9_findFromRoots_56 rfl rfl ?_
    refine z_aload_n 1 58 dX9_findFromRoots_57 rfl rfl ?_
    refine gr_28_1 61 dX9_findFromRoots_58 of_X9_19 rfl ?_
    refine z_alen (Int32.ofNat (2 * c_sz C)) 29 62 dX9_findFromRoots_61 rfl rfl (by decide) rfl rfl ?_
    refine z_icmp_ge 136 65 dX9_findFromRoots_62 rfl rfl (fun hcz11 => ?_) (fun hcz11 => ?_)
    · replace h := h.1 hcz11
      refine z_pick [] [] rfl ?_
      exact hK136  C h
    · replace h := h.2 hcz11
      refine z_aload_n 1 66 dX9_findFromRoots_65 rfl rfl ?_
      refine gr_28_1 69 dX9_findFromRoots_66 of_X9_19 rfl ?_
      refine z_iload_n 0 70 dX9_findFromRoots_69 rfl rfl ?_
      obtain ⟨hbz12, h⟩ := h
      refine gca_17 ((c_a C 17) l1.toNatClampNeg) 71 dX9_findFromRoots_70 hbz12 rfl rfl ?_
      refine z_iconst 2 72 dX9_findFromRoots_71 rfl rfl ?_
      refine z_iadd 73 dX9_findFromRoots_72 rfl ?_
      refine z_topi (fun vz13 hvz13 => ?_)
      replace h := h vz13 hvz13
      refine z_istore_n [(2, .int vz13), (1, .int l1), (0, .ref 228)] 74 dX9_findFromRoots_73 (Nat.le_of_ble_eq_true rfl) rfl rfl ?_
      refine z_aload_n 2 75 dX9_findFromRoots_74 rfl rfl ?_
      refine gr_28_0 78 dX9_findFromRoots_75 of_X9_7 rfl ?_
      refine z_aload_n 2 79 dX9_findFromRoots_78 rfl rfl ?_
      refine gr_28_1 82 dX9_findFromRoots_79 of_X9_19 rfl ?_
      refine z_iload_n 1 83 dX9_findFromRoots_82 rfl rfl ?_
      refine gca_17 ((c_a C 17) l1.toNatClampNeg) 84 dX9_findFromRoots_83 hbz12 rfl rfl ?_
      refine z_ciV [.int ((c_a C 17) l1.toNatClampNeg)] 87 dX9_findFromRoots_84 ok_X9_findFromRoots_46 rfl rfl (Nat.le_of_ble_eq_true rfl) rc_18 ⟨rfl, rfl⟩ ⟨Nat.le_refl _, Nat.le_refl _⟩ rfl (t_X3_slotsOf tg M o X ((c_a C 17) l1.toNatClampNeg) C _ h) (fun rz15 Cz14 h => ?_)
      refine z_istore_n [(3, .int rz15), (2, .int vz13), (1, .int l1), (0, .ref 228)] 88 dX9_findFromRoots_87 (Nat.le_of_ble_eq_true rfl) rfl rfl ?_
      refine z_iload_n 1 89 dX9_findFromRoots_88 rfl rfl ?_
      refine z_istore [(4, .int vz13), (3, .int rz15), (2, .int vz13), (1, .int l1), (0, .ref 228)] 91 dX9_findFromRoots_89 (Nat.le_of_ble_eq_true rfl) rfl rfl ?_
      obtain ⟨nz24, h⟩ := h
      refine z_pick [(1, .int l1), (2, .int vz13), (3, .int rz15), (4, .int vz13), (0, .ref 228)] [3, 2, 1, 0, 4] rfl ?_
      refine tw_X9_findFromRoots_91 tg M o X Q _ (fun lz21 Cz22 h => ?_) nz24 l1 vz13 rz15 vz13 Cz14 h
      · obtain ⟨vz23, hvz23⟩ : ∃ v : Int32, v = lz21 + 1 := ⟨_, rfl⟩
        replace h := h vz23 hvz23
        refine z_iinc vz23 [(1, .int vz23), (0, .ref 228)] 0 133 dX9_findFromRoots_130 rfl hvz23.symm (Nat.le_of_ble_eq_true rfl) rfl rfl ?_
        refine z_goto 48 dX9_findFromRoots_133 rfl ?_
        refine z_pick [(1, .int vz23), (0, .ref 228)] [0, 1] rfl ?_
        exact hR9 vz23 Cz22 h
theorem tw_X9_findFromRoots_48 (tg : Bool) (M : mS) (o : Nat → Int64) (X : List va_E) (Q : cS → Prop) (K136 : cS → Prop) (hK136 : ∀ (C : cS), K136 C → z_go q_X9_findFromRoots tg 136 [] [] (wz C M o X) 0 0 (zc_v M o X Q)) : ∀ (n : Nat) (l1 : Int32) (C : cS), w_X9_findFromRoots_48 Q K136 n l1 C → z_go q_X9_findFromRoots tg 48 [(1, .int l1), (0, .ref 228)] [] (wz C M o X) 0 0 (zc_v M o X Q) := by
  intro n
  induction n with
  | zero => intro l1 C h; exact h.elim
  | succ n ih => intro l1 C h; exact tb_X9_findFromRoots_48 tg M o X _ Q K136 ih hK136 l1 C h
def p_X9_findFromRoots (C : cS) (Q : cS → Prop) : Prop :=
  p_X9_clear C (fun Cz1 => ∃ nz27 : Nat, w_X9_findFromRoots_6 Q (fun Cz9 => ∃ nz26 : Nat, w_X9_findFromRoots_48 Q (fun Cz25 => Q Cz25) nz26 0 Cz9) nz27 0 Cz1)
set_option maxRecDepth 100000 in
set_option maxHeartbeats 4000000 in
theorem t_X9_findFromRoots (tg : Bool) (M : mS) (o : Nat → Int64) (X : List va_E) (C : cS) (Q : cS → Prop) (h : p_X9_findFromRoots C Q) : z_M q_X9_findFromRoots tg [.ref 228] (wz C M o X) (zc_v M o X Q) := by
  unfold p_X9_findFromRoots at h
  refine z_enter (by decide) (Nat.le_of_ble_eq_true rfl) ?_
  refine z_aload_n 0 1 dX9_findFromRoots_0 rfl rfl ?_
  refine z_cvV [] 4 dX9_findFromRoots_1 ok_X9_findFromRoots_26 rfl rfl (Nat.le_of_ble_eq_true rfl) rc_28 ⟨rfl, rfl⟩ ⟨Nat.le_refl _, Nat.le_refl _⟩ rfl (t_X9_clear tg M o X  C _ h) (fun Cz1 h => ?_)
  refine z_iconst 0 5 dX9_findFromRoots_4 rfl rfl ?_
  refine z_istore_n [(1, .int 0), (0, .ref 228)] 6 dX9_findFromRoots_5 (Nat.le_of_ble_eq_true rfl) rfl rfl ?_
  obtain ⟨nz27, h⟩ := h
  refine z_pick [(1, .int 0), (0, .ref 228)] [0, 1] rfl ?_
  refine tw_X9_findFromRoots_6 tg M o X Q _ (fun Cz9 h => ?_) nz27 0 Cz1 h
  · refine z_iconst 0 47 dX9_findFromRoots_46 rfl rfl ?_
    refine z_istore_n [(1, .int 0), (0, .ref 228)] 48 dX9_findFromRoots_47 (Nat.le_of_ble_eq_true rfl) rfl rfl ?_
    obtain ⟨nz26, h⟩ := h
    refine z_pick [(1, .int 0), (0, .ref 228)] [0, 1] rfl ?_
    refine tw_X9_findFromRoots_48 tg M o X Q _ (fun Cz25 h => ?_) nz26 0 Cz9 h
    · exact z_vret dX9_findFromRoots_136 rfl ⟨Nat.le_refl _, Nat.le_refl _⟩ ⟨Cz25, rfl, rfl, h⟩
def b_X9_words_4 (R9 : Int32 → Int32 → cS → Prop) (Q : Int32 → cS → Prop) (K36 : Int32 → cS → Prop) (l1 : Int32) (l2 : Int32) (C : cS) : Prop :=
  (((c_i C 22) ≤ l2 → K36 l1 C) ∧ (¬ (c_i C 22) ≤ l2 → vp_in l2 (2 * c_sz C) ∧ p_X3_slotsOf ((c_a C 17) l2.toNatClampNeg) C (fun rz4 Cz3 => ∀ vz5 : Int32, vz5 = l1 + (rz4 + 2) → ∀ vz6 : Int32, vz6 = l2 + 1 → R9 vz5 vz6 Cz3)))
def w_X9_words_4 (Q : Int32 → cS → Prop) (K36 : Int32 → cS → Prop) : Nat → Int32 → Int32 → cS → Prop
 | 0 => fun _ _ _ => False
 | n + 1 => fun l1 l2 C => b_X9_words_4 (w_X9_words_4 Q K36 n) Q K36 l1 l2 C
set_option maxRecDepth 100000 in
set_option maxHeartbeats 4000000 in
theorem tb_X9_words_4 (tg : Bool) (M : mS) (o : Nat → Int64) (X : List va_E) (R9 : Int32 → Int32 → cS → Prop) (Q : Int32 → cS → Prop) (K36 : Int32 → cS → Prop) (hR9 : ∀ (l1 : Int32) (l2 : Int32) (C : cS), R9 l1 l2 C → z_go q_X9_words tg 4 [(1, .int l1), (2, .int l2), (0, .ref 228)] [] (wz C M o X) 0 0 (zc_i M o X Q)) (hK36 : ∀ (l1 : Int32) (C : cS), K36 l1 C → z_go q_X9_words tg 36 [(1, .int l1)] [] (wz C M o X) 0 0 (zc_i M o X Q)) (l1 : Int32) (l2 : Int32) (C : cS) (h : b_X9_words_4 R9 Q K36 l1 l2 C) : z_go q_X9_words tg 4 [(1, .int l1), (2, .int l2), (0, .ref 228)] [] (wz C M o X) 0 0 (zc_i M o X Q) := by
  unfold b_X9_words_4 at h
  refine z_iload_n 1 5 dX9_words_4 rfl rfl ?_
  refine z_aload_n 2 6 dX9_words_5 rfl rfl ?_
  refine gci_22 (c_i C 22) 9 dX9_words_6 of_X9_43 rfl rfl ?_
  refine z_icmp_ge 36 12 dX9_words_9 rfl rfl (fun hcz1 => ?_) (fun hcz1 => ?_)
  · replace h := h.1 hcz1
    refine z_pick [(1, .int l1)] [0] rfl ?_
    exact hK36 l1 C h
  · replace h := h.2 hcz1
    refine z_iload_n 0 13 dX9_words_12 rfl rfl ?_
    refine z_aload_n 2 14 dX9_words_13 rfl rfl ?_
    refine gr_28_0 17 dX9_words_14 of_X9_7 rfl ?_
    refine z_aload_n 2 18 dX9_words_17 rfl rfl ?_
    refine gr_28_1 21 dX9_words_18 of_X9_19 rfl ?_
    refine z_iload_n 1 22 dX9_words_21 rfl rfl ?_
    obtain ⟨hbz2, h⟩ := h
    refine gca_17 ((c_a C 17) l2.toNatClampNeg) 23 dX9_words_22 hbz2 rfl rfl ?_
    refine z_ciV [.int ((c_a C 17) l2.toNatClampNeg)] 26 dX9_words_23 ok_X9_words_46 rfl rfl (Nat.le_of_ble_eq_true rfl) rc_18 ⟨rfl, rfl⟩ ⟨Nat.le_refl _, Nat.le_refl _⟩ rfl (t_X3_slotsOf tg M o X ((c_a C 17) l2.toNatClampNeg) C _ h) (fun rz4 Cz3 h => ?_)
    refine z_iconst 2 27 dX9_words_26 rfl rfl ?_
    refine z_iadd 28 dX9_words_27 rfl ?_
    refine z_iadd 29 dX9_words_28 rfl ?_
    refine z_topi (fun vz5 hvz5 => ?_)
    replace h := h vz5 hvz5
    refine z_istore_n [(1, .int vz5), (2, .int l2), (0, .ref 228)] 30 dX9_words_29 (Nat.le_of_ble_eq_true rfl) rfl rfl ?_
    obtain ⟨vz6, hvz6⟩ : ∃ v : Int32, v = l2 + 1 := ⟨_, rfl⟩
    replace h := h vz6 hvz6
    refine z_iinc vz6 [(2, .int vz6), (1, .int vz5), (0, .ref 228)] 1 33 dX9_words_30 rfl hvz6.symm (Nat.le_of_ble_eq_true rfl) rfl rfl ?_
    refine z_goto 4 dX9_words_33 rfl ?_
    refine z_pick [(1, .int vz5), (2, .int vz6), (0, .ref 228)] [1, 0, 2] rfl ?_
    exact hR9 vz5 vz6 Cz3 h
theorem tw_X9_words_4 (tg : Bool) (M : mS) (o : Nat → Int64) (X : List va_E) (Q : Int32 → cS → Prop) (K36 : Int32 → cS → Prop) (hK36 : ∀ (l1 : Int32) (C : cS), K36 l1 C → z_go q_X9_words tg 36 [(1, .int l1)] [] (wz C M o X) 0 0 (zc_i M o X Q)) : ∀ (n : Nat) (l1 : Int32) (l2 : Int32) (C : cS), w_X9_words_4 Q K36 n l1 l2 C → z_go q_X9_words tg 4 [(1, .int l1), (2, .int l2), (0, .ref 228)] [] (wz C M o X) 0 0 (zc_i M o X Q) := by
  intro n
  induction n with
  | zero => intro l1 l2 C h; exact h.elim
  | succ n ih => intro l1 l2 C h; exact tb_X9_words_4 tg M o X _ Q K36 ih hK36 l1 l2 C h
def p_X9_words (C : cS) (Q : Int32 → cS → Prop) : Prop :=
  ∃ nz9 : Nat, w_X9_words_4 Q (fun lz7 Cz8 => Q lz7 Cz8) nz9 0 0 C
set_option maxRecDepth 100000 in
set_option maxHeartbeats 4000000 in
theorem t_X9_words (tg : Bool) (M : mS) (o : Nat → Int64) (X : List va_E) (C : cS) (Q : Int32 → cS → Prop) (h : p_X9_words C Q) : z_M q_X9_words tg [.ref 228] (wz C M o X) (zc_i M o X Q) := by
  unfold p_X9_words at h
  refine z_enter (by decide) (Nat.le_of_ble_eq_true rfl) ?_
  refine z_iconst 0 1 dX9_words_0 rfl rfl ?_
  refine z_istore_n [(1, .int 0), (0, .ref 228)] 2 dX9_words_1 (Nat.le_of_ble_eq_true rfl) rfl rfl ?_
  refine z_iconst 0 3 dX9_words_2 rfl rfl ?_
  refine z_istore_n [(2, .int 0), (1, .int 0), (0, .ref 228)] 4 dX9_words_3 (Nat.le_of_ble_eq_true rfl) rfl rfl ?_
  obtain ⟨nz9, h⟩ := h
  refine z_pick [(1, .int 0), (2, .int 0), (0, .ref 228)] [1, 0, 2] rfl ?_
  refine tw_X9_words_4 tg M o X Q _ (fun lz7 Cz8 h => ?_) nz9 0 0 C h
  · refine z_iload_n 0 37 dX9_words_36 rfl rfl ?_
    exact z_iret dX9_words_37 rfl ⟨Nat.le_refl _, Nat.le_refl _⟩ ⟨lz7, Cz8, rfl, rfl, h⟩
def p_X7_add (a1 : Int32) (C : cS) (Q : cS → Prop) : Prop :=
  ((600 ≤ (c_i C 23) → Q C) ∧ (¬ 600 ≤ (c_i C 23) → vp_in (c_i C 23) 600 ∧ Q (c_iS (c_aU C 19 (c_i C 23) (vp_nar .byte ((a1 : Int32).toInt8.toInt32))) 23 ((c_i C 23) + 1))))
set_option maxRecDepth 100000 in
set_option maxHeartbeats 4000000 in
theorem t_X7_add (tg : Bool) (M : mS) (o : Nat → Int64) (X : List va_E) (a1 : Int32) (C : cS) (Q : cS → Prop) (h : p_X7_add a1 C Q) : z_M q_X7_add tg [.ref 231, .int a1] (wz C M o X) (zc_v M o X Q) := by
  unfold p_X7_add at h
  refine z_enter (by decide) (Nat.le_of_ble_eq_true rfl) ?_
  refine z_aload_n 0 1 dX7_add_0 rfl rfl ?_
  refine gci_23 (c_i C 23) 4 dX7_add_1 of_X7_13 rfl rfl ?_
  refine z_sipush 600 7 dX7_add_4 rfl rfl ?_
  refine z_icmp_ge 31 10 dX7_add_7 rfl rfl (fun hcz1 => ?_) (fun hcz1 => ?_)
  · replace h := h.1 hcz1
    exact z_vret dX7_add_31 rfl ⟨Nat.le_refl _, Nat.le_refl _⟩ ⟨C, rfl, rfl, h⟩
  · replace h := h.2 hcz1
    refine z_aload_n 0 11 dX7_add_10 rfl rfl ?_
    refine gr_31_0 14 dX7_add_11 of_X7_9 rfl ?_
    refine z_aload_n 0 15 dX7_add_14 rfl rfl ?_
    refine gci_23 (c_i C 23) 18 dX7_add_15 of_X7_13 rfl rfl ?_
    refine z_iload_n 1 19 dX7_add_18 rfl rfl ?_
    refine z_i2b 20 dX7_add_19 rfl ?_
    obtain ⟨hbz2, h⟩ := h
    refine pca_19 21 dX7_add_20 hbz2 rfl ?_
    refine z_aload_n 0 22 dX7_add_21 rfl rfl ?_
    refine z_dup rfl 23 dX7_add_22 rfl ?_
    refine gci_23 (c_i C 23) 26 dX7_add_23 of_X7_13 rfl rfl ?_
    refine z_iconst 1 27 dX7_add_26 rfl rfl ?_
    refine z_iadd 28 dX7_add_27 rfl ?_
    refine pci_23 31 dX7_add_28 op_X7_13 rfl ?_
    exact z_vret dX7_add_31 rfl ⟨Nat.le_refl _, Nat.le_refl _⟩ ⟨(c_iS (c_aU C 19 (c_i C 23) (vp_nar .byte ((a1 : Int32).toInt8.toInt32))) 23 ((c_i C 23) + 1)), rfl, rfl, h⟩
def j_X7_addNumber_44 (Q : cS → Prop) (R9 : Int64 → Int64 → cS → Prop) (K72 : cS → Prop) (l2 : Int64) (l4 : Int64) (C : cS) : Prop :=
  ¬ l4 = 0 ∧ p_X7_add ((48 + ((l2 / l4) - (l2 / l4) / 10 * 10) : Int64).toInt32) C (fun Cz6 => ∀ vz7 : Int64, vz7 = l4 / 10 → R9 l2 vz7 Cz6)
set_option maxRecDepth 100000 in
set_option maxHeartbeats 4000000 in
theorem tj_X7_addNumber_44 (tg : Bool) (M : mS) (o : Nat → Int64) (X : List va_E) (Q : cS → Prop) (R9 : Int64 → Int64 → cS → Prop) (K72 : cS → Prop) (hR9 : ∀ (l2 : Int64) (l4 : Int64) (C : cS), R9 l2 l4 C → z_go q_X7_addNumber tg 23 [(2, .long l2), (4, .long l4), (0, .ref 231)] [] (wz C M o X) 0 0 (zc_v M o X Q)) (hK72 : ∀ (C : cS), K72 C → z_go q_X7_addNumber tg 72 [] [] (wz C M o X) 0 0 (zc_v M o X Q)) (l2 : Int64) (l4 : Int64) (C : cS) (h : j_X7_addNumber_44 Q R9 K72 l2 l4 C) : z_go q_X7_addNumber tg 44 [(2, .long l2), (4, .long l4), (0, .ref 231)] [] (wz C M o X) 0 0 (zc_v M o X Q) := by
  unfold j_X7_addNumber_44 at h
  refine z_aload_n 2 45 dX7_addNumber_44 rfl rfl ?_
  refine z_ldc2 48 48 dX7_addNumber_45 oc_X7_23 rfl ?_
  refine z_lload_n 0 49 dX7_addNumber_48 rfl rfl ?_
  refine z_lload 1 51 dX7_addNumber_49 rfl rfl ?_
  obtain ⟨hqz5, h⟩ := h
  refine z_ldiv hqz5 52 dX7_addNumber_51 rfl ?_
  refine z_ldc2 10 55 dX7_addNumber_52 oc_X7_25 rfl ?_
  refine z_lrem (by decide) 56 dX7_addNumber_55 rfl ?_
  refine z_ladd 57 dX7_addNumber_56 rfl ?_
  refine z_l2i 58 dX7_addNumber_57 rfl ?_
  refine z_cvV [.int ((48 + ((l2 / l4) - (l2 / l4) / 10 * 10) : Int64).toInt32)] 61 dX7_addNumber_58 ok_X7_addNumber_17 rfl rfl (Nat.le_of_ble_eq_true rfl) rc_31 ⟨rfl, rfl⟩ ⟨Nat.le_refl _, Nat.le_refl _⟩ rfl (t_X7_add tg M o X ((48 + ((l2 / l4) - (l2 / l4) / 10 * 10) : Int64).toInt32) C _ h) (fun Cz6 h => ?_)
  refine z_lload 1 63 dX7_addNumber_61 rfl rfl ?_
  refine z_ldc2 10 66 dX7_addNumber_63 oc_X7_25 rfl ?_
  refine z_ldiv (by decide) 67 dX7_addNumber_66 rfl ?_
  refine z_topl (fun vz7 hvz7 => ?_)
  replace h := h vz7 hvz7
  refine z_lstore [(4, .long vz7), (2, .long l2), (0, .ref 231)] 69 dX7_addNumber_67 (Nat.le_of_ble_eq_true rfl) rfl rfl ?_
  refine z_goto 23 dX7_addNumber_69 rfl ?_
  refine z_pick [(2, .long l2), (4, .long vz7), (0, .ref 231)] [1, 0, 2] rfl ?_
  exact hR9 l2 vz7 Cz6 h
def b_X7_addNumber_23 (R9 : Int64 → Int64 → cS → Prop) (Q : cS → Prop) (K72 : cS → Prop) (l2 : Int64) (l4 : Int64) (C : cS) : Prop :=
  (((lg_cmp l4 0) ≤ 0 → K72 C) ∧ (¬ (lg_cmp l4 0) ≤ 0 → ((0 ≤ (lg_cmp l2 l4) → j_X7_addNumber_44 Q R9 K72 l2 l4 C) ∧ (¬ 0 ≤ (lg_cmp l2 l4) → ((¬ (lg_cmp l4 1) = 0 → ∀ vz9 : Int64, vz9 = l4 / 10 → R9 l2 vz9 C) ∧ ((lg_cmp l4 1) = 0 → j_X7_addNumber_44 Q R9 K72 l2 l4 C))))))
def w_X7_addNumber_23 (Q : cS → Prop) (K72 : cS → Prop) : Nat → Int64 → Int64 → cS → Prop
 | 0 => fun _ _ _ => False
 | n + 1 => fun l2 l4 C => b_X7_addNumber_23 (w_X7_addNumber_23 Q K72 n) Q K72 l2 l4 C
set_option maxRecDepth 100000 in
set_option maxHeartbeats 4000000 in
theorem tb_X7_addNumber_23 (tg : Bool) (M : mS) (o : Nat → Int64) (X : List va_E) (R9 : Int64 → Int64 → cS → Prop) (Q : cS → Prop) (K72 : cS → Prop) (hR9 : ∀ (l2 : Int64) (l4 : Int64) (C : cS), R9 l2 l4 C → z_go q_X7_addNumber tg 23 [(2, .long l2), (4, .long l4), (0, .ref 231)] [] (wz C M o X) 0 0 (zc_v M o X Q)) (hK72 : ∀ (C : cS), K72 C → z_go q_X7_addNumber tg 72 [] [] (wz C M o X) 0 0 (zc_v M o X Q)) (l2 : Int64) (l4 : Int64) (C : cS) (h : b_X7_addNumber_23 R9 Q K72 l2 l4 C) : z_go q_X7_addNumber tg 23 [(2, .long l2), (4, .long l4), (0, .ref 231)] [] (wz C M o X) 0 0 (zc_v M o X Q) := by
  unfold b_X7_addNumber_23 at h
  refine z_lload 1 25 dX7_addNumber_23 rfl rfl ?_
  refine z_lconst 0 26 dX7_addNumber_25 rfl rfl ?_
  refine z_lcmp 27 dX7_addNumber_26 rfl ?_
  refine z_if_le 72 30 dX7_addNumber_27 rfl rfl (fun hcz3 => ?_) (fun hcz3 => ?_)
  · replace h := h.1 hcz3
    refine z_pick [] [] rfl ?_
    exact hK72  C h
  · replace h := h.2 hcz3
    refine z_lload_n 0 31 dX7_addNumber_30 rfl rfl ?_
    refine z_lload 1 33 dX7_addNumber_31 rfl rfl ?_
    refine z_lcmp 34 dX7_addNumber_33 rfl ?_
    refine z_if_ge 44 37 dX7_addNumber_34 rfl rfl (fun hcz4 => ?_) (fun hcz4 => ?_)
    · replace h := h.1 hcz4
      refine z_pick [(2, .long l2), (4, .long l4), (0, .ref 231)] [0, 1, 2] rfl ?_
      exact tj_X7_addNumber_44 tg M o X Q R9 K72 hR9 hK72 l2 l4 C h
    · replace h := h.2 hcz4
      refine z_lload 1 39 dX7_addNumber_37 rfl rfl ?_
      refine z_lconst 1 40 dX7_addNumber_39 rfl rfl ?_
      refine z_lcmp 41 dX7_addNumber_40 rfl ?_
      refine z_if_ne 61 44 dX7_addNumber_41 rfl rfl (fun hcz8 => ?_) (fun hcz8 => ?_)
      · replace h := h.1 hcz8
        refine z_lload 1 63 dX7_addNumber_61 rfl rfl ?_
        refine z_ldc2 10 66 dX7_addNumber_63 oc_X7_25 rfl ?_
        refine z_ldiv (by decide) 67 dX7_addNumber_66 rfl ?_
        refine z_topl (fun vz9 hvz9 => ?_)
        replace h := h vz9 hvz9
        refine z_lstore [(4, .long vz9), (2, .long l2), (0, .ref 231)] 69 dX7_addNumber_67 (Nat.le_of_ble_eq_true rfl) rfl rfl ?_
        refine z_goto 23 dX7_addNumber_69 rfl ?_
        refine z_pick [(2, .long l2), (4, .long vz9), (0, .ref 231)] [1, 0, 2] rfl ?_
        exact hR9 l2 vz9 C h
      · replace h := h.2 hcz8
        refine z_pick [(2, .long l2), (4, .long l4), (0, .ref 231)] [0, 1, 2] rfl ?_
        exact tj_X7_addNumber_44 tg M o X Q R9 K72 hR9 hK72 l2 l4 C h
theorem tw_X7_addNumber_23 (tg : Bool) (M : mS) (o : Nat → Int64) (X : List va_E) (Q : cS → Prop) (K72 : cS → Prop) (hK72 : ∀ (C : cS), K72 C → z_go q_X7_addNumber tg 72 [] [] (wz C M o X) 0 0 (zc_v M o X Q)) : ∀ (n : Nat) (l2 : Int64) (l4 : Int64) (C : cS), w_X7_addNumber_23 Q K72 n l2 l4 C → z_go q_X7_addNumber tg 23 [(2, .long l2), (4, .long l4), (0, .ref 231)] [] (wz C M o X) 0 0 (zc_v M o X Q) := by
  intro n
  induction n with
  | zero => intro l2 l4 C h; exact h.elim
  | succ n ih => intro l2 l4 C h; exact tb_X7_addNumber_23 tg M o X _ Q K72 ih hK72 l2 l4 C h
def p_X7_addNumber (a1 : Int32) (C : cS) (Q : cS → Prop) : Prop :=
  ∀ vz1 : Int64, vz1 = (a1 : Int32).toInt64 → ((0 ≤ (lg_cmp vz1 0) → ∃ nz11 : Nat, w_X7_addNumber_23 Q (fun Cz10 => Q Cz10) nz11 vz1 1000000000 C) ∧ (¬ 0 ≤ (lg_cmp vz1 0) → p_X7_add 45 C (fun Cz12 => ∀ vz13 : Int64, vz13 = -vz1 → ∃ nz15 : Nat, w_X7_addNumber_23 Q (fun Cz14 => Q Cz14) nz15 vz13 1000000000 Cz12)))
set_option maxRecDepth 100000 in
set_option maxHeartbeats 4000000 in
theorem t_X7_addNumber (tg : Bool) (M : mS) (o : Nat → Int64) (X : List va_E) (a1 : Int32) (C : cS) (Q : cS → Prop) (h : p_X7_addNumber a1 C Q) : z_M q_X7_addNumber tg [.ref 231, .int a1] (wz C M o X) (zc_v M o X Q) := by
  unfold p_X7_addNumber at h
  refine z_enter (by decide) (Nat.le_of_ble_eq_true rfl) ?_
  refine z_iload_n 1 1 dX7_addNumber_0 rfl rfl ?_
  refine z_i2l 2 dX7_addNumber_1 rfl ?_
  refine z_topl (fun vz1 hvz1 => ?_)
  replace h := h vz1 hvz1
  refine z_lstore_n [(2, .long vz1), (0, .ref 231), (1, .int a1)] 3 dX7_addNumber_2 (Nat.le_of_ble_eq_true rfl) rfl rfl ?_
  refine z_lload_n 0 4 dX7_addNumber_3 rfl rfl ?_
  refine z_lconst 0 5 dX7_addNumber_4 rfl rfl ?_
  refine z_lcmp 6 dX7_addNumber_5 rfl ?_
  refine z_if_ge 18 9 dX7_addNumber_6 rfl rfl (fun hcz2 => ?_) (fun hcz2 => ?_)
  · replace h := h.1 hcz2
    refine z_ldc2 1000000000 21 dX7_addNumber_18 oc_X7_21 rfl ?_
    refine z_lstore [(4, .long 1000000000), (2, .long vz1), (0, .ref 231), (1, .int a1)] 23 dX7_addNumber_21 (Nat.le_of_ble_eq_true rfl) rfl rfl ?_
    obtain ⟨nz11, h⟩ := h
    refine z_pick [(2, .long vz1), (4, .long 1000000000), (0, .ref 231)] [1, 0, 2] rfl ?_
    refine tw_X7_addNumber_23 tg M o X Q _ (fun Cz10 h => ?_) nz11 vz1 1000000000 C h
    · exact z_vret dX7_addNumber_72 rfl ⟨Nat.le_refl _, Nat.le_refl _⟩ ⟨Cz10, rfl, rfl, h⟩
  · replace h := h.2 hcz2
    refine z_aload_n 1 10 dX7_addNumber_9 rfl rfl ?_
    refine z_bipush 45 12 dX7_addNumber_10 rfl rfl ?_
    refine z_cvV [.int 45] 15 dX7_addNumber_12 ok_X7_addNumber_17 rfl rfl (Nat.le_of_ble_eq_true rfl) rc_31 ⟨rfl, rfl⟩ ⟨Nat.le_refl _, Nat.le_refl _⟩ rfl (t_X7_add tg M o X 45 C _ h) (fun Cz12 h => ?_)
    refine z_lload_n 0 16 dX7_addNumber_15 rfl rfl ?_
    refine z_lneg 17 dX7_addNumber_16 rfl ?_
    refine z_topl (fun vz13 hvz13 => ?_)
    replace h := h vz13 hvz13
    refine z_lstore_n [(2, .long vz13), (0, .ref 231), (1, .int a1)] 18 dX7_addNumber_17 (Nat.le_of_ble_eq_true rfl) rfl rfl ?_
    refine z_ldc2 1000000000 21 dX7_addNumber_18 oc_X7_21 rfl ?_
    refine z_lstore [(4, .long 1000000000), (2, .long vz13), (0, .ref 231), (1, .int a1)] 23 dX7_addNumber_21 (Nat.le_of_ble_eq_true rfl) rfl rfl ?_
    obtain ⟨nz15, h⟩ := h
    refine z_pick [(2, .long vz13), (4, .long 1000000000), (0, .ref 231)] [1, 0, 2] rfl ?_
    refine tw_X7_addNumber_23 tg M o X Q _ (fun Cz14 h => ?_) nz15 vz13 1000000000 Cz12 h
    · exact z_vret dX7_addNumber_72 rfl ⟨Nat.le_refl _, Nat.le_refl _⟩ ⟨Cz14, rfl, rfl, h⟩
def p_X9_writeWord (a1 : Int32) (a2 : Int32) (C : cS) (Q : cS → Prop) : Prop :=
  ((¬ a1 = 0 → ((¬ a1 = 2 → p_X7_add 46 C (fun Cz3 => Q Cz3)) ∧ (a1 = 2 → p_X7_add 35 C (fun Cz4 => p_X9_meet a1 a2 Cz4 (fun rz6 Cz5 => p_X7_addNumber rz6 Cz5 (fun Cz7 => Q Cz7)))))) ∧ (a1 = 0 → p_X7_addNumber a2 C (fun Cz8 => Q Cz8)))
set_option maxRecDepth 100000 in
set_option maxHeartbeats 4000000 in
theorem t_X9_writeWord (tg : Bool) (M : mS) (o : Nat → Int64) (X : List va_E) (a1 : Int32) (a2 : Int32) (C : cS) (Q : cS → Prop) (h : p_X9_writeWord a1 a2 C Q) : z_M q_X9_writeWord tg [.ref 228, .int a1, .int a2, .ref 231] (wz C M o X) (zc_v M o X Q) := by
  unfold p_X9_writeWord at h
  refine z_enter (by decide) (Nat.le_of_ble_eq_true rfl) ?_
  refine z_iload_n 1 1 dX9_writeWord_0 rfl rfl ?_
  refine z_if_ne 12 4 dX9_writeWord_1 rfl rfl (fun hcz1 => ?_) (fun hcz1 => ?_)
  · replace h := h.1 hcz1
    refine z_iload_n 1 13 dX9_writeWord_12 rfl rfl ?_
    refine z_iconst 2 14 dX9_writeWord_13 rfl rfl ?_
    refine z_icmp_ne 36 17 dX9_writeWord_14 rfl rfl (fun hcz2 => ?_) (fun hcz2 => ?_)
    · replace h := h.1 hcz2
      refine z_aload_n 3 37 dX9_writeWord_36 rfl rfl ?_
      refine z_bipush 46 39 dX9_writeWord_37 rfl rfl ?_
      refine z_cvV [.int 46] 42 dX9_writeWord_39 ok_X9_writeWord_60 rfl rfl (Nat.le_of_ble_eq_true rfl) rc_31 ⟨rfl, rfl⟩ ⟨Nat.le_refl _, Nat.le_refl _⟩ rfl (t_X7_add tg M o X 46 C _ h) (fun Cz3 h => ?_)
      exact z_vret dX9_writeWord_42 rfl ⟨Nat.le_refl _, Nat.le_refl _⟩ ⟨Cz3, rfl, rfl, h⟩
    · replace h := h.2 hcz2
      refine z_aload_n 3 18 dX9_writeWord_17 rfl rfl ?_
      refine z_bipush 35 20 dX9_writeWord_18 rfl rfl ?_
      refine z_cvV [.int 35] 23 dX9_writeWord_20 ok_X9_writeWord_60 rfl rfl (Nat.le_of_ble_eq_true rfl) rc_31 ⟨rfl, rfl⟩ ⟨Nat.le_refl _, Nat.le_refl _⟩ rfl (t_X7_add tg M o X 35 C _ h) (fun Cz4 h => ?_)
      refine z_aload_n 3 24 dX9_writeWord_23 rfl rfl ?_
      refine z_aload_n 0 25 dX9_writeWord_24 rfl rfl ?_
      refine z_iload_n 1 26 dX9_writeWord_25 rfl rfl ?_
      refine z_iload_n 2 27 dX9_writeWord_26 rfl rfl ?_
      refine z_ciV [.int a1, .int a2] 30 dX9_writeWord_27 ok_X9_writeWord_39 rfl rfl (Nat.le_of_ble_eq_true rfl) rc_28 ⟨rfl, rfl⟩ ⟨Nat.le_refl _, Nat.le_refl _⟩ rfl (t_X9_meet tg M o X a1 a2 Cz4 _ h) (fun rz6 Cz5 h => ?_)
      refine z_cvV [.int rz6] 33 dX9_writeWord_30 ok_X9_writeWord_74 rfl rfl (Nat.le_of_ble_eq_true rfl) rc_31 ⟨rfl, rfl⟩ ⟨Nat.le_refl _, Nat.le_refl _⟩ rfl (t_X7_addNumber tg M o X rz6 Cz5 _ h) (fun Cz7 h => ?_)
      refine z_goto 42 dX9_writeWord_33 rfl ?_
      exact z_vret dX9_writeWord_42 rfl ⟨Nat.le_refl _, Nat.le_refl _⟩ ⟨Cz7, rfl, rfl, h⟩
  · replace h := h.2 hcz1
    refine z_aload_n 3 5 dX9_writeWord_4 rfl rfl ?_
    refine z_iload_n 2 6 dX9_writeWord_5 rfl rfl ?_
    refine z_cvV [.int a2] 9 dX9_writeWord_6 ok_X9_writeWord_74 rfl rfl (Nat.le_of_ble_eq_true rfl) rc_31 ⟨rfl, rfl⟩ ⟨Nat.le_refl _, Nat.le_refl _⟩ rfl (t_X7_addNumber tg M o X a2 C _ h) (fun Cz8 h => ?_)
    refine z_goto 42 dX9_writeWord_9 rfl ?_
    exact z_vret dX9_writeWord_42 rfl ⟨Nat.le_refl _, Nat.le_refl _⟩ ⟨Cz8, rfl, rfl, h⟩
def j_X9_writeThing_66 (Q : cS → Prop) (R9 : Int32 → Int32 → Int32 → Int32 → cS → Prop) (K97 : Int32 → cS → Prop) (l3 : Int32) (l4 : Int32) (l5 : Int32) (l6 : Int32) (C : cS) : Prop :=
  vp_in l6 (2 * c_sz C) ∧ p_X9_writeWord ((c_a C 10) l6.toNatClampNeg) ((c_a C 11) l6.toNatClampNeg) C (fun Cz11 => ∀ vz12 : Int32, vz12 = l6 + 1 → R9 l3 l4 l5 vz12 Cz11)
set_option maxRecDepth 100000 in
set_option maxHeartbeats 4000000 in
theorem tj_X9_writeThing_66 (tg : Bool) (M : mS) (o : Nat → Int64) (X : List va_E) (Q : cS → Prop) (R9 : Int32 → Int32 → Int32 → Int32 → cS → Prop) (K97 : Int32 → cS → Prop) (hR9 : ∀ (l3 : Int32) (l4 : Int32) (l5 : Int32) (l6 : Int32) (C : cS), R9 l3 l4 l5 l6 C → z_go q_X9_writeThing tg 43 [(3, .int l3), (4, .int l4), (5, .int l5), (6, .int l6), (0, .ref 228), (2, .ref 231)] [] (wz C M o X) 0 0 (zc_v M o X Q)) (hK97 : ∀ (l3 : Int32) (C : cS), K97 l3 C → z_go q_X9_writeThing tg 97 [(3, .int l3), (2, .ref 231)] [] (wz C M o X) 0 0 (zc_v M o X Q)) (l3 : Int32) (l4 : Int32) (l5 : Int32) (l6 : Int32) (C : cS) (h : j_X9_writeThing_66 Q R9 K97 l3 l4 l5 l6 C) : z_go q_X9_writeThing tg 66 [(3, .int l3), (4, .int l4), (5, .int l5), (6, .int l6), (0, .ref 228), (2, .ref 231)] [] (wz C M o X) 0 0 (zc_v M o X Q) := by
  unfold j_X9_writeThing_66 at h
  refine z_aload_n 4 67 dX9_writeThing_66 rfl rfl ?_
  refine z_aload_n 4 68 dX9_writeThing_67 rfl rfl ?_
  refine gr_28_0 71 dX9_writeThing_68 of_X9_7 rfl ?_
  refine gr_18_2 74 dX9_writeThing_71 of_X9_50 rfl ?_
  refine z_iload 3 76 dX9_writeThing_74 rfl rfl ?_
  obtain ⟨hbz10, h⟩ := h
  refine gca_10 ((c_a C 10) l6.toNatClampNeg) 77 dX9_writeThing_76 hbz10 rfl rfl ?_
  refine z_aload_n 4 78 dX9_writeThing_77 rfl rfl ?_
  refine gr_28_0 81 dX9_writeThing_78 of_X9_7 rfl ?_
  refine gr_18_3 84 dX9_writeThing_81 of_X9_53 rfl ?_
  refine z_iload 3 86 dX9_writeThing_84 rfl rfl ?_
  refine gca_11 ((c_a C 11) l6.toNatClampNeg) 87 dX9_writeThing_86 hbz10 rfl rfl ?_
  refine z_aload_n 5 88 dX9_writeThing_87 rfl rfl ?_
  refine z_cvV [.int ((c_a C 10) l6.toNatClampNeg), .int ((c_a C 11) l6.toNatClampNeg), .ref 231] 91 dX9_writeThing_88 ok_X9_writeThing_56 rfl rfl (Nat.le_of_ble_eq_true rfl) rc_28 ⟨rfl, rfl⟩ ⟨Nat.le_refl _, Nat.le_refl _⟩ rfl (t_X9_writeWord tg M o X ((c_a C 10) l6.toNatClampNeg) ((c_a C 11) l6.toNatClampNeg) C _ h) (fun Cz11 h => ?_)
  obtain ⟨vz12, hvz12⟩ : ∃ v : Int32, v = l6 + 1 := ⟨_, rfl⟩
  replace h := h vz12 hvz12
  refine z_iinc vz12 [(6, .int vz12), (3, .int l3), (4, .int l4), (5, .int l5), (0, .ref 228), (2, .ref 231)] 3 94 dX9_writeThing_91 rfl hvz12.symm (Nat.le_of_ble_eq_true rfl) rfl rfl ?_
  refine z_goto 43 dX9_writeThing_94 rfl ?_
  refine z_pick [(3, .int l3), (4, .int l4), (5, .int l5), (6, .int vz12), (0, .ref 228), (2, .ref 231)] [1, 2, 3, 0, 4, 5] rfl ?_
  exact hR9 l3 l4 l5 vz12 Cz11 h
def b_X9_writeThing_43 (R9 : Int32 → Int32 → Int32 → Int32 → cS → Prop) (Q : cS → Prop) (K97 : Int32 → cS → Prop) (l3 : Int32) (l4 : Int32) (l5 : Int32) (l6 : Int32) (C : cS) : Prop :=
  (((l4 + l5) ≤ l6 → K97 l3 C) ∧ (¬ (l4 + l5) ≤ l6 → ((l6 ≤ l4 → j_X9_writeThing_66 Q R9 K97 l3 l4 l5 l6 C) ∧ (¬ l6 ≤ l4 → p_X7_add 32 C (fun Cz13 => j_X9_writeThing_66 Q R9 K97 l3 l4 l5 l6 Cz13)))))
def w_X9_writeThing_43 (Q : cS → Prop) (K97 : Int32 → cS → Prop) : Nat → Int32 → Int32 → Int32 → Int32 → cS → Prop
 | 0 => fun _ _ _ _ _ => False
 | n + 1 => fun l3 l4 l5 l6 C => b_X9_writeThing_43 (w_X9_writeThing_43 Q K97 n) Q K97 l3 l4 l5 l6 C
set_option maxRecDepth 100000 in
set_option maxHeartbeats 4000000 in
theorem tb_X9_writeThing_43 (tg : Bool) (M : mS) (o : Nat → Int64) (X : List va_E) (R9 : Int32 → Int32 → Int32 → Int32 → cS → Prop) (Q : cS → Prop) (K97 : Int32 → cS → Prop) (hR9 : ∀ (l3 : Int32) (l4 : Int32) (l5 : Int32) (l6 : Int32) (C : cS), R9 l3 l4 l5 l6 C → z_go q_X9_writeThing tg 43 [(3, .int l3), (4, .int l4), (5, .int l5), (6, .int l6), (0, .ref 228), (2, .ref 231)] [] (wz C M o X) 0 0 (zc_v M o X Q)) (hK97 : ∀ (l3 : Int32) (C : cS), K97 l3 C → z_go q_X9_writeThing tg 97 [(3, .int l3), (2, .ref 231)] [] (wz C M o X) 0 0 (zc_v M o X Q)) (l3 : Int32) (l4 : Int32) (l5 : Int32) (l6 : Int32) (C : cS) (h : b_X9_writeThing_43 R9 Q K97 l3 l4 l5 l6 C) : z_go q_X9_writeThing tg 43 [(3, .int l3), (4, .int l4), (5, .int l5), (6, .int l6), (0, .ref 228), (2, .ref 231)] [] (wz C M o X) 0 0 (zc_v M o X Q) := by
  unfold b_X9_writeThing_43 at h
  refine z_iload 3 45 dX9_writeThing_43 rfl rfl ?_
  refine z_iload 1 47 dX9_writeThing_45 rfl rfl ?_
  refine z_iload 2 49 dX9_writeThing_47 rfl rfl ?_
  refine z_iadd 50 dX9_writeThing_49 rfl ?_
  refine z_icmp_ge 97 53 dX9_writeThing_50 rfl rfl (fun hcz8 => ?_) (fun hcz8 => ?_)
  · replace h := h.1 hcz8
    refine z_pick [(3, .int l3), (2, .ref 231)] [0, 5] rfl ?_
    exact hK97 l3 C h
  · replace h := h.2 hcz8
    refine z_iload 3 55 dX9_writeThing_53 rfl rfl ?_
    refine z_iload 1 57 dX9_writeThing_55 rfl rfl ?_
    refine z_icmp_le 66 60 dX9_writeThing_57 rfl rfl (fun hcz9 => ?_) (fun hcz9 => ?_)
    · replace h := h.1 hcz9
      refine z_pick [(3, .int l3), (4, .int l4), (5, .int l5), (6, .int l6), (0, .ref 228), (2, .ref 231)] [0, 1, 2, 3, 4, 5] rfl ?_
      exact tj_X9_writeThing_66 tg M o X Q R9 K97 hR9 hK97 l3 l4 l5 l6 C h
    · replace h := h.2 hcz9
      refine z_aload_n 5 61 dX9_writeThing_60 rfl rfl ?_
      refine z_bipush 32 63 dX9_writeThing_61 rfl rfl ?_
      refine z_cvV [.int 32] 66 dX9_writeThing_63 ok_X9_writeThing_60 rfl rfl (Nat.le_of_ble_eq_true rfl) rc_31 ⟨rfl, rfl⟩ ⟨Nat.le_refl _, Nat.le_refl _⟩ rfl (t_X7_add tg M o X 32 C _ h) (fun Cz13 h => ?_)
      refine z_pick [(3, .int l3), (4, .int l4), (5, .int l5), (6, .int l6), (0, .ref 228), (2, .ref 231)] [0, 1, 2, 3, 4, 5] rfl ?_
      exact tj_X9_writeThing_66 tg M o X Q R9 K97 hR9 hK97 l3 l4 l5 l6 Cz13 h
theorem tw_X9_writeThing_43 (tg : Bool) (M : mS) (o : Nat → Int64) (X : List va_E) (Q : cS → Prop) (K97 : Int32 → cS → Prop) (hK97 : ∀ (l3 : Int32) (C : cS), K97 l3 C → z_go q_X9_writeThing tg 97 [(3, .int l3), (2, .ref 231)] [] (wz C M o X) 0 0 (zc_v M o X Q)) : ∀ (n : Nat) (l3 : Int32) (l4 : Int32) (l5 : Int32) (l6 : Int32) (C : cS), w_X9_writeThing_43 Q K97 n l3 l4 l5 l6 C → z_go q_X9_writeThing tg 43 [(3, .int l3), (4, .int l4), (5, .int l5), (6, .int l6), (0, .ref 228), (2, .ref 231)] [] (wz C M o X) 0 0 (zc_v M o X Q) := by
  intro n
  induction n with
  | zero => intro l3 l4 l5 l6 C h; exact h.elim
  | succ n ih => intro l3 l4 l5 l6 C h; exact tb_X9_writeThing_43 tg M o X _ Q K97 ih hK97 l3 l4 l5 l6 C h
def p_X9_writeThing (a1 : Int32) (C : cS) (Q : cS → Prop) : Prop :=
  p_X3_isRow a1 C (fun rz2 Cz1 => ((rz2 = 0 → p_X7_add 123 Cz1 (fun Cz4 => ∀ vz5 : Int32, vz5 = a1 + 2 → p_X3_slotsOf a1 Cz4 (fun rz7 Cz6 => ∃ nz19 : Nat, w_X9_writeThing_43 Q (fun lz14 Cz15 => ((lz14 = 0 → p_X7_add 125 Cz15 (fun Cz17 => Q Cz17)) ∧ (¬ lz14 = 0 → p_X7_add 93 Cz15 (fun Cz18 => Q Cz18)))) nz19 rz2 vz5 rz7 vz5 Cz6))) ∧ (¬ rz2 = 0 → p_X7_add 91 Cz1 (fun Cz20 => ∀ vz21 : Int32, vz21 = a1 + 2 → p_X3_slotsOf a1 Cz20 (fun rz23 Cz22 => ∃ nz29 : Nat, w_X9_writeThing_43 Q (fun lz24 Cz25 => ((lz24 = 0 → p_X7_add 125 Cz25 (fun Cz27 => Q Cz27)) ∧ (¬ lz24 = 0 → p_X7_add 93 Cz25 (fun Cz28 => Q Cz28)))) nz29 rz2 vz21 rz23 vz21 Cz22)))))
set_option maxRecDepth 100000 in
set_option maxHeartbeats 4000000 in
theorem t_X9_writeThing (tg : Bool) (M : mS) (o : Nat → Int64) (X : List va_E) (a1 : Int32) (C : cS) (Q : cS → Prop) (h : p_X9_writeThing a1 C Q) : z_M q_X9_writeThing tg [.ref 228, .int a1, .ref 231] (wz C M o X) (zc_v M o X Q) := by
  unfold p_X9_writeThing at h
  refine z_enter (by decide) (Nat.le_of_ble_eq_true rfl) ?_
  refine z_aload_n 0 1 dX9_writeThing_0 rfl rfl ?_
  refine gr_28_0 4 dX9_writeThing_1 of_X9_7 rfl ?_
  refine z_iload_n 1 5 dX9_writeThing_4 rfl rfl ?_
  refine z_ciV [.int a1] 8 dX9_writeThing_5 ok_X9_writeThing_70 rfl rfl (Nat.le_of_ble_eq_true rfl) rc_18 ⟨rfl, rfl⟩ ⟨Nat.le_refl _, Nat.le_refl _⟩ rfl (t_X3_isRow tg M o X a1 C _ h) (fun rz2 Cz1 h => ?_)
  refine z_istore_n [(3, .int rz2), (0, .ref 228), (1, .int a1), (2, .ref 231)] 9 dX9_writeThing_8 (Nat.le_of_ble_eq_true rfl) rfl rfl ?_
  refine z_aload_n 3 10 dX9_writeThing_9 rfl rfl ?_
  refine z_iload_n 0 11 dX9_writeThing_10 rfl rfl ?_
  refine z_if_eq 19 14 dX9_writeThing_11 rfl rfl (fun hcz3 => ?_) (fun hcz3 => ?_)
  · replace h := h.1 hcz3
    refine z_bipush 123 21 dX9_writeThing_19 rfl rfl ?_
    refine z_cvV [.int 123] 24 dX9_writeThing_21 ok_X9_writeThing_60 rfl rfl (Nat.le_of_ble_eq_true rfl) rc_31 ⟨rfl, rfl⟩ ⟨Nat.le_refl _, Nat.le_refl _⟩ rfl (t_X7_add tg M o X 123 Cz1 _ h) (fun Cz4 h => ?_)
    refine z_iload_n 2 25 dX9_writeThing_24 rfl rfl ?_
    refine z_iconst 2 26 dX9_writeThing_25 rfl rfl ?_
    refine z_iadd 27 dX9_writeThing_26 rfl ?_
    refine z_topi (fun vz5 hvz5 => ?_)
    replace h := h vz5 hvz5
    refine z_istore [(4, .int vz5), (3, .int rz2), (0, .ref 228), (1, .int a1), (2, .ref 231)] 29 dX9_writeThing_27 (Nat.le_of_ble_eq_true rfl) rfl rfl ?_
    refine z_aload_n 2 30 dX9_writeThing_29 rfl rfl ?_
    refine gr_28_0 33 dX9_writeThing_30 of_X9_7 rfl ?_
    refine z_iload_n 3 34 dX9_writeThing_33 rfl rfl ?_
    refine z_ciV [.int a1] 37 dX9_writeThing_34 ok_X9_writeThing_46 rfl rfl (Nat.le_of_ble_eq_true rfl) rc_18 ⟨rfl, rfl⟩ ⟨Nat.le_refl _, Nat.le_refl _⟩ rfl (t_X3_slotsOf tg M o X a1 Cz4 _ h) (fun rz7 Cz6 h => ?_)
    refine z_istore [(5, .int rz7), (4, .int vz5), (3, .int rz2), (0, .ref 228), (1, .int a1), (2, .ref 231)] 39 dX9_writeThing_37 (Nat.le_of_ble_eq_true rfl) rfl rfl ?_
    refine z_iload 1 41 dX9_writeThing_39 rfl rfl ?_
    refine z_istore [(6, .int vz5), (5, .int rz7), (4, .int vz5), (3, .int rz2), (0, .ref 228), (1, .int a1), (2, .ref 231)] 43 dX9_writeThing_41 (Nat.le_of_ble_eq_true rfl) rfl rfl ?_
    obtain ⟨nz19, h⟩ := h
    refine z_pick [(3, .int rz2), (4, .int vz5), (5, .int rz7), (6, .int vz5), (0, .ref 228), (2, .ref 231)] [3, 2, 1, 0, 4, 6] rfl ?_
    refine tw_X9_writeThing_43 tg M o X Q _ (fun lz14 Cz15 h => ?_) nz19 rz2 vz5 rz7 vz5 Cz6 h
    · refine z_aload_n 1 98 dX9_writeThing_97 rfl rfl ?_
      refine z_iload_n 0 99 dX9_writeThing_98 rfl rfl ?_
      refine z_if_eq 107 102 dX9_writeThing_99 rfl rfl (fun hcz16 => ?_) (fun hcz16 => ?_)
      · replace h := h.1 hcz16
        refine z_bipush 125 109 dX9_writeThing_107 rfl rfl ?_
        refine z_cvV [.int 125] 112 dX9_writeThing_109 ok_X9_writeThing_60 rfl rfl (Nat.le_of_ble_eq_true rfl) rc_31 ⟨rfl, rfl⟩ ⟨Nat.le_refl _, Nat.le_refl _⟩ rfl (t_X7_add tg M o X 125 Cz15 _ h) (fun Cz17 h => ?_)
        exact z_vret dX9_writeThing_112 rfl ⟨Nat.le_refl _, Nat.le_refl _⟩ ⟨Cz17, rfl, rfl, h⟩
      · replace h := h.2 hcz16
        refine z_bipush 93 104 dX9_writeThing_102 rfl rfl ?_
        refine z_goto 109 dX9_writeThing_104 rfl ?_
        refine z_cvV [.int 93] 112 dX9_writeThing_109 ok_X9_writeThing_60 rfl rfl (Nat.le_of_ble_eq_true rfl) rc_31 ⟨rfl, rfl⟩ ⟨Nat.le_refl _, Nat.le_refl _⟩ rfl (t_X7_add tg M o X 93 Cz15 _ h) (fun Cz18 h => ?_)
        exact z_vret dX9_writeThing_112 rfl ⟨Nat.le_refl _, Nat.le_refl _⟩ ⟨Cz18, rfl, rfl, h⟩
  · replace h := h.2 hcz3
    refine z_bipush 91 16 dX9_writeThing_14 rfl rfl ?_
    refine z_goto 21 dX9_writeThing_16 rfl ?_
    refine z_cvV [.int 91] 24 dX9_writeThing_21 ok_X9_writeThing_60 rfl rfl (Nat.le_of_ble_eq_true rfl) rc_31 ⟨rfl, rfl⟩ ⟨Nat.le_refl _, Nat.le_refl _⟩ rfl (t_X7_add tg M o X 91 Cz1 _ h) (fun Cz20 h => ?_)
    refine z_iload_n 2 25 dX9_writeThing_24 rfl rfl ?_
    refine z_iconst 2 26 dX9_writeThing_25 rfl rfl ?_
    refine z_iadd 27 dX9_writeThing_26 rfl ?_
    refine z_topi (fun vz21 hvz21 => ?_)
    replace h := h vz21 hvz21
    refine z_istore [(4, .int vz21), (3, .int rz2), (0, .ref 228), (1, .int a1), (2, .ref 231)] 29 dX9_writeThing_27 (Nat.le_of_ble_eq_true rfl) rfl rfl ?_
    refine z_aload_n 2 30 dX9_writeThing_29 rfl rfl ?_
    refine gr_28_0 33 dX9_writeThing_30 of_X9_7 rfl ?_
    refine z_iload_n 3 34 dX9_writeThing_33 rfl rfl ?_
    refine z_ciV [.int a1] 37 dX9_writeThing_34 ok_X9_writeThing_46 rfl rfl (Nat.le_of_ble_eq_true rfl) rc_18 ⟨rfl, rfl⟩ ⟨Nat.le_refl _, Nat.le_refl _⟩ rfl (t_X3_slotsOf tg M o X a1 Cz20 _ h) (fun rz23 Cz22 h => ?_)
    refine z_istore [(5, .int rz23), (4, .int vz21), (3, .int rz2), (0, .ref 228), (1, .int a1), (2, .ref 231)] 39 dX9_writeThing_37 (Nat.le_of_ble_eq_true rfl) rfl rfl ?_
    refine z_iload 1 41 dX9_writeThing_39 rfl rfl ?_
    refine z_istore [(6, .int vz21), (5, .int rz23), (4, .int vz21), (3, .int rz2), (0, .ref 228), (1, .int a1), (2, .ref 231)] 43 dX9_writeThing_41 (Nat.le_of_ble_eq_true rfl) rfl rfl ?_
    obtain ⟨nz29, h⟩ := h
    refine z_pick [(3, .int rz2), (4, .int vz21), (5, .int rz23), (6, .int vz21), (0, .ref 228), (2, .ref 231)] [3, 2, 1, 0, 4, 6] rfl ?_
    refine tw_X9_writeThing_43 tg M o X Q _ (fun lz24 Cz25 h => ?_) nz29 rz2 vz21 rz23 vz21 Cz22 h
    · refine z_aload_n 1 98 dX9_writeThing_97 rfl rfl ?_
      refine z_iload_n 0 99 dX9_writeThing_98 rfl rfl ?_
      refine z_if_eq 107 102 dX9_writeThing_99 rfl rfl (fun hcz26 => ?_) (fun hcz26 => ?_)
      · replace h := h.1 hcz26
        refine z_bipush 125 109 dX9_writeThing_107 rfl rfl ?_
        refine z_cvV [.int 125] 112 dX9_writeThing_109 ok_X9_writeThing_60 rfl rfl (Nat.le_of_ble_eq_true rfl) rc_31 ⟨rfl, rfl⟩ ⟨Nat.le_refl _, Nat.le_refl _⟩ rfl (t_X7_add tg M o X 125 Cz25 _ h) (fun Cz27 h => ?_)
        exact z_vret dX9_writeThing_112 rfl ⟨Nat.le_refl _, Nat.le_refl _⟩ ⟨Cz27, rfl, rfl, h⟩
      · replace h := h.2 hcz26
        refine z_bipush 93 104 dX9_writeThing_102 rfl rfl ?_
        refine z_goto 109 dX9_writeThing_104 rfl ?_
        refine z_cvV [.int 93] 112 dX9_writeThing_109 ok_X9_writeThing_60 rfl rfl (Nat.le_of_ble_eq_true rfl) rc_31 ⟨rfl, rfl⟩ ⟨Nat.le_refl _, Nat.le_refl _⟩ rfl (t_X7_add tg M o X 93 Cz25 _ h) (fun Cz28 h => ?_)
        exact z_vret dX9_writeThing_112 rfl ⟨Nat.le_refl _, Nat.le_refl _⟩ ⟨Cz28, rfl, rfl, h⟩
def b_X9_write_29 (R9 : Int32 → cS → Prop) (Q : cS → Prop) (K69 : cS → Prop) (l3 : Int32) (C : cS) : Prop :=
  (((c_i C 22) ≤ l3 → K69 C) ∧ (¬ (c_i C 22) ≤ l3 → (((Int32.ofNat (2 * c_sz C)) ≤ l3 → K69 C) ∧ (¬ (Int32.ofNat (2 * c_sz C)) ≤ l3 → p_X7_add 32 C (fun Cz6 => vp_in l3 (2 * c_sz Cz6) ∧ p_X9_writeThing ((c_a Cz6 17) l3.toNatClampNeg) Cz6 (fun Cz8 => ∀ vz9 : Int32, vz9 = l3 + 1 → R9 vz9 Cz8))))))
def w_X9_write_29 (Q : cS → Prop) (K69 : cS → Prop) : Nat → Int32 → cS → Prop
 | 0 => fun _ _ => False
 | n + 1 => fun l3 C => b_X9_write_29 (w_X9_write_29 Q K69 n) Q K69 l3 C
set_option maxRecDepth 100000 in
set_option maxHeartbeats 4000000 in
theorem tb_X9_write_29 (tg : Bool) (M : mS) (o : Nat → Int64) (X : List va_E) (R9 : Int32 → cS → Prop) (Q : cS → Prop) (K69 : cS → Prop) (hR9 : ∀ (l3 : Int32) (C : cS), R9 l3 C → z_go q_X9_write tg 29 [(3, .int l3), (0, .ref 228), (2, .ref 231)] [] (wz C M o X) 0 0 (zc_v M o X Q)) (hK69 : ∀ (C : cS), K69 C → z_go q_X9_write tg 69 [] [] (wz C M o X) 0 0 (zc_v M o X Q)) (l3 : Int32) (C : cS) (h : b_X9_write_29 R9 Q K69 l3 C) : z_go q_X9_write tg 29 [(3, .int l3), (0, .ref 228), (2, .ref 231)] [] (wz C M o X) 0 0 (zc_v M o X Q) := by
  unfold b_X9_write_29 at h
  refine z_iload_n 0 30 dX9_write_29 rfl rfl ?_
  refine z_aload_n 1 31 dX9_write_30 rfl rfl ?_
  refine gci_22 (c_i C 22) 34 dX9_write_31 of_X9_43 rfl rfl ?_
  refine z_icmp_ge 69 37 dX9_write_34 rfl rfl (fun hcz4 => ?_) (fun hcz4 => ?_)
  · replace h := h.1 hcz4
    refine z_pick [] [] rfl ?_
    exact hK69  C h
  · replace h := h.2 hcz4
    refine z_iload_n 0 38 dX9_write_37 rfl rfl ?_
    refine z_aload_n 1 39 dX9_write_38 rfl rfl ?_
    refine gr_28_1 42 dX9_write_39 of_X9_19 rfl ?_
    refine z_alen (Int32.ofNat (2 * c_sz C)) 29 43 dX9_write_42 rfl rfl (by decide) rfl rfl ?_
    refine z_icmp_ge 69 46 dX9_write_43 rfl rfl (fun hcz5 => ?_) (fun hcz5 => ?_)
    · replace h := h.1 hcz5
      refine z_pick [] [] rfl ?_
      exact hK69  C h
    · replace h := h.2 hcz5
      refine z_aload_n 2 47 dX9_write_46 rfl rfl ?_
      refine z_bipush 32 49 dX9_write_47 rfl rfl ?_
      refine z_cvV [.int 32] 52 dX9_write_49 ok_X9_write_60 rfl rfl (Nat.le_of_ble_eq_true rfl) rc_31 ⟨rfl, rfl⟩ ⟨Nat.le_refl _, Nat.le_refl _⟩ rfl (t_X7_add tg M o X 32 C _ h) (fun Cz6 h => ?_)
      refine z_aload_n 1 53 dX9_write_52 rfl rfl ?_
      refine z_aload_n 1 54 dX9_write_53 rfl rfl ?_
      refine gr_28_1 57 dX9_write_54 of_X9_19 rfl ?_
      refine z_iload_n 0 58 dX9_write_57 rfl rfl ?_
      obtain ⟨hbz7, h⟩ := h
      refine gca_17 ((c_a Cz6 17) l3.toNatClampNeg) 59 dX9_write_58 hbz7 rfl rfl ?_
      refine z_aload_n 2 60 dX9_write_59 rfl rfl ?_
      refine z_cvV [.int ((c_a Cz6 17) l3.toNatClampNeg), .ref 231] 63 dX9_write_60 ok_X9_write_66 rfl rfl (Nat.le_of_ble_eq_true rfl) rc_28 ⟨rfl, rfl⟩ ⟨Nat.le_refl _, Nat.le_refl _⟩ rfl (t_X9_writeThing tg M o X ((c_a Cz6 17) l3.toNatClampNeg) Cz6 _ h) (fun Cz8 h => ?_)
      obtain ⟨vz9, hvz9⟩ : ∃ v : Int32, v = l3 + 1 := ⟨_, rfl⟩
      replace h := h vz9 hvz9
      refine z_iinc vz9 [(3, .int vz9), (0, .ref 228), (2, .ref 231)] 0 66 dX9_write_63 rfl hvz9.symm (Nat.le_of_ble_eq_true rfl) rfl rfl ?_
      refine z_goto 29 dX9_write_66 rfl ?_
      refine z_pick [(3, .int vz9), (0, .ref 228), (2, .ref 231)] [0, 1, 2] rfl ?_
      exact hR9 vz9 Cz8 h
theorem tw_X9_write_29 (tg : Bool) (M : mS) (o : Nat → Int64) (X : List va_E) (Q : cS → Prop) (K69 : cS → Prop) (hK69 : ∀ (C : cS), K69 C → z_go q_X9_write tg 69 [] [] (wz C M o X) 0 0 (zc_v M o X Q)) : ∀ (n : Nat) (l3 : Int32) (C : cS), w_X9_write_29 Q K69 n l3 C → z_go q_X9_write tg 29 [(3, .int l3), (0, .ref 228), (2, .ref 231)] [] (wz C M o X) 0 0 (zc_v M o X Q) := by
  intro n
  induction n with
  | zero => intro l3 C h; exact h.elim
  | succ n ih => intro l3 C h; exact tb_X9_write_29 tg M o X _ Q K69 ih hK69 l3 C h
def p_X9_write (a1 : Int32) (C : cS) (Q : cS → Prop) : Prop :=
  p_X9_clear C (fun Cz1 => vp_in a1 58 ∧ p_X9_writeWord ((c_a Cz1 12) a1.toNatClampNeg) ((c_a Cz1 13) a1.toNatClampNeg) Cz1 (fun Cz3 => ∃ nz11 : Nat, w_X9_write_29 Q (fun Cz10 => Q Cz10) nz11 0 Cz3))
set_option maxRecDepth 100000 in
set_option maxHeartbeats 4000000 in
theorem t_X9_write (tg : Bool) (M : mS) (o : Nat → Int64) (X : List va_E) (a1 : Int32) (C : cS) (Q : cS → Prop) (h : p_X9_write a1 C Q) : z_M q_X9_write tg [.ref 228, .int a1, .ref 231] (wz C M o X) (zc_v M o X Q) := by
  unfold p_X9_write at h
  refine z_enter (by decide) (Nat.le_of_ble_eq_true rfl) ?_
  refine z_aload_n 0 1 dX9_write_0 rfl rfl ?_
  refine z_cvV [] 4 dX9_write_1 ok_X9_write_26 rfl rfl (Nat.le_of_ble_eq_true rfl) rc_28 ⟨rfl, rfl⟩ ⟨Nat.le_refl _, Nat.le_refl _⟩ rfl (t_X9_clear tg M o X  C _ h) (fun Cz1 h => ?_)
  refine z_aload_n 0 5 dX9_write_4 rfl rfl ?_
  refine z_aload_n 0 6 dX9_write_5 rfl rfl ?_
  refine gr_28_0 9 dX9_write_6 of_X9_7 rfl ?_
  refine gr_18_4 12 dX9_write_9 of_X9_33 rfl ?_
  refine z_iload_n 1 13 dX9_write_12 rfl rfl ?_
  obtain ⟨hbz2, h⟩ := h
  refine gca_12 ((c_a Cz1 12) a1.toNatClampNeg) 14 dX9_write_13 hbz2 rfl rfl ?_
  refine z_aload_n 0 15 dX9_write_14 rfl rfl ?_
  refine gr_28_0 18 dX9_write_15 of_X9_7 rfl ?_
  refine gr_18_5 21 dX9_write_18 of_X9_36 rfl ?_
  refine z_iload_n 1 22 dX9_write_21 rfl rfl ?_
  refine gca_13 ((c_a Cz1 13) a1.toNatClampNeg) 23 dX9_write_22 hbz2 rfl rfl ?_
  refine z_aload_n 2 24 dX9_write_23 rfl rfl ?_
  refine z_cvV [.int ((c_a Cz1 12) a1.toNatClampNeg), .int ((c_a Cz1 13) a1.toNatClampNeg), .ref 231] 27 dX9_write_24 ok_X9_write_56 rfl rfl (Nat.le_of_ble_eq_true rfl) rc_28 ⟨rfl, rfl⟩ ⟨Nat.le_refl _, Nat.le_refl _⟩ rfl (t_X9_writeWord tg M o X ((c_a Cz1 12) a1.toNatClampNeg) ((c_a Cz1 13) a1.toNatClampNeg) Cz1 _ h) (fun Cz3 h => ?_)
  refine z_iconst 0 28 dX9_write_27 rfl rfl ?_
  refine z_istore_n [(3, .int 0), (0, .ref 228), (1, .int a1), (2, .ref 231)] 29 dX9_write_28 (Nat.le_of_ble_eq_true rfl) rfl rfl ?_
  obtain ⟨nz11, h⟩ := h
  refine z_pick [(3, .int 0), (0, .ref 228), (2, .ref 231)] [0, 1, 3] rfl ?_
  refine tw_X9_write_29 tg M o X Q _ (fun Cz10 h => ?_) nz11 0 Cz3 h
  · exact z_vret dX9_write_69 rfl ⟨Nat.le_refl _, Nat.le_refl _⟩ ⟨Cz10, rfl, rfl, h⟩
end ZG
