section ZG
def p_X8_add (a1 : Int32) (a2 : Int32) (a3 : Int32) (a4 : Int64) (C : cS) (Q : cS → Prop) : Prop :=
  ((2000 ≤ (c_i C 5) → Q C) ∧ (¬ 2000 ≤ (c_i C 5) → vp_in (c_i C 5) 2000 ∧ Q (c_iS (c_lU (c_aU (c_aU (c_aU C 1 (c_i C 5) a1) 2 (c_i C 5) a2) 3 (c_i C 5) a3) 0 (c_i C 5) a4) 5 ((c_i C 5) + 1))))
set_option maxRecDepth 100000 in
set_option maxHeartbeats 4000000 in
theorem t_X8_add (tg : Bool) (M : mS) (o : Nat → Int64) (X : List va_E) (a1 : Int32) (a2 : Int32) (a3 : Int32) (a4 : Int64) (C : cS) (Q : cS → Prop) (h : p_X8_add a1 a2 a3 a4 C Q) : z_M q_X8_add tg [.ref 203, .int a1, .int a2, .int a3, .long a4] (wz C M o X) (zc_v M o X Q) := by
  unfold p_X8_add at h
  refine z_enter (by decide) (Nat.le_of_ble_eq_true rfl) ?_
  refine z_aload_n 0 1 dX8_add_0 rfl rfl ?_
  refine gci_5 (c_i C 5) 4 dX8_add_1 of_X8_25 rfl rfl ?_
  refine z_sipush 2000 7 dX8_add_4 rfl rfl ?_
  refine z_icmp_ge 61 10 dX8_add_7 rfl rfl (fun hcz1 => ?_) (fun hcz1 => ?_)
  · replace h := h.1 hcz1
    exact z_vret dX8_add_61 rfl ⟨Nat.le_refl _, Nat.le_refl _⟩ ⟨C, rfl, rfl, h⟩
  · replace h := h.2 hcz1
    refine z_aload_n 0 11 dX8_add_10 rfl rfl ?_
    refine gr_3_0 14 dX8_add_11 of_X8_9 rfl ?_
    refine z_aload_n 0 15 dX8_add_14 rfl rfl ?_
    refine gci_5 (c_i C 5) 18 dX8_add_15 of_X8_25 rfl rfl ?_
    refine z_iload_n 1 19 dX8_add_18 rfl rfl ?_
    obtain ⟨hbz2, h⟩ := h
    refine pca_1 20 dX8_add_19 hbz2 rfl ?_
    refine z_aload_n 0 21 dX8_add_20 rfl rfl ?_
    refine gr_3_1 24 dX8_add_21 of_X8_15 rfl ?_
    refine z_aload_n 0 25 dX8_add_24 rfl rfl ?_
    refine gci_5 (c_i C 5) 28 dX8_add_25 of_X8_25 rfl rfl ?_
    refine z_iload_n 2 29 dX8_add_28 rfl rfl ?_
    refine pca_2 30 dX8_add_29 hbz2 rfl ?_
    refine z_aload_n 0 31 dX8_add_30 rfl rfl ?_
    refine gr_3_2 34 dX8_add_31 of_X8_18 rfl ?_
    refine z_aload_n 0 35 dX8_add_34 rfl rfl ?_
    refine gci_5 (c_i C 5) 38 dX8_add_35 of_X8_25 rfl rfl ?_
    refine z_iload_n 3 39 dX8_add_38 rfl rfl ?_
    refine pca_3 40 dX8_add_39 hbz2 rfl ?_
    refine z_aload_n 0 41 dX8_add_40 rfl rfl ?_
    refine gr_3_3 44 dX8_add_41 of_X8_21 rfl ?_
    refine z_aload_n 0 45 dX8_add_44 rfl rfl ?_
    refine gci_5 (c_i C 5) 48 dX8_add_45 of_X8_25 rfl rfl ?_
    refine z_lload 4 50 dX8_add_48 rfl rfl ?_
    refine pcl_0 51 dX8_add_50 hbz2 rfl ?_
    refine z_aload_n 0 52 dX8_add_51 rfl rfl ?_
    refine z_dup rfl 53 dX8_add_52 rfl ?_
    refine gci_5 (c_i C 5) 56 dX8_add_53 of_X8_25 rfl rfl ?_
    refine z_iconst 1 57 dX8_add_56 rfl rfl ?_
    refine z_iadd 58 dX8_add_57 rfl ?_
    refine pci_5 61 dX8_add_58 op_X8_25 rfl ?_
    exact z_vret dX8_add_61 rfl ⟨Nat.le_refl _, Nat.le_refl _⟩ ⟨(c_iS (c_lU (c_aU (c_aU (c_aU C 1 (c_i C 5) a1) 2 (c_i C 5) a2) 3 (c_i C 5) a3) 0 (c_i C 5) a4) 5 ((c_i C 5) + 1)), rfl, rfl, h⟩
def p_X8_isLetter (a0 : Int32) (C : cS) (Q : Int32 → cS → Prop) : Prop :=
  ((a0 < 97 → Q 0 C) ∧ (¬ a0 < 97 → ((122 < a0 → Q 0 C) ∧ (¬ 122 < a0 → Q 1 C))))
set_option maxRecDepth 100000 in
set_option maxHeartbeats 4000000 in
theorem t_X8_isLetter (tg : Bool) (M : mS) (o : Nat → Int64) (X : List va_E) (a0 : Int32) (C : cS) (Q : Int32 → cS → Prop) (h : p_X8_isLetter a0 C Q) : z_M q_X8_isLetter tg [.int a0] (wz C M o X) (zc_i M o X Q) := by
  unfold p_X8_isLetter at h
  refine z_enter (by decide) (Nat.le_of_ble_eq_true rfl) ?_
  refine z_iload_n 0 1 dX8_isLetter_0 rfl rfl ?_
  refine z_bipush 97 3 dX8_isLetter_1 rfl rfl ?_
  refine z_icmp_lt 16 6 dX8_isLetter_3 rfl rfl (fun hcz1 => ?_) (fun hcz1 => ?_)
  · replace h := h.1 hcz1
    refine z_iconst 0 17 dX8_isLetter_16 rfl rfl ?_
    exact z_zret dX8_isLetter_17 rfl rfl ⟨Nat.le_refl _, Nat.le_refl _⟩ ⟨0, C, rfl, rfl, h⟩
  · replace h := h.2 hcz1
    refine z_iload_n 0 7 dX8_isLetter_6 rfl rfl ?_
    refine z_bipush 122 9 dX8_isLetter_7 rfl rfl ?_
    refine z_icmp_gt 16 12 dX8_isLetter_9 rfl rfl (fun hcz2 => ?_) (fun hcz2 => ?_)
    · replace h := h.1 hcz2
      refine z_iconst 0 17 dX8_isLetter_16 rfl rfl ?_
      exact z_zret dX8_isLetter_17 rfl rfl ⟨Nat.le_refl _, Nat.le_refl _⟩ ⟨0, C, rfl, rfl, h⟩
    · replace h := h.2 hcz2
      refine z_iconst 1 13 dX8_isLetter_12 rfl rfl ?_
      refine z_goto 17 dX8_isLetter_13 rfl ?_
      exact z_zret dX8_isLetter_17 rfl rfl ⟨Nat.le_refl _, Nat.le_refl _⟩ ⟨1, C, rfl, rfl, h⟩
def p_X8_isDigit (a0 : Int32) (C : cS) (Q : Int32 → cS → Prop) : Prop :=
  ((a0 < 48 → Q 0 C) ∧ (¬ a0 < 48 → ((57 < a0 → Q 0 C) ∧ (¬ 57 < a0 → Q 1 C))))
set_option maxRecDepth 100000 in
set_option maxHeartbeats 4000000 in
theorem t_X8_isDigit (tg : Bool) (M : mS) (o : Nat → Int64) (X : List va_E) (a0 : Int32) (C : cS) (Q : Int32 → cS → Prop) (h : p_X8_isDigit a0 C Q) : z_M q_X8_isDigit tg [.int a0] (wz C M o X) (zc_i M o X Q) := by
  unfold p_X8_isDigit at h
  refine z_enter (by decide) (Nat.le_of_ble_eq_true rfl) ?_
  refine z_iload_n 0 1 dX8_isDigit_0 rfl rfl ?_
  refine z_bipush 48 3 dX8_isDigit_1 rfl rfl ?_
  refine z_icmp_lt 16 6 dX8_isDigit_3 rfl rfl (fun hcz1 => ?_) (fun hcz1 => ?_)
  · replace h := h.1 hcz1
    refine z_iconst 0 17 dX8_isDigit_16 rfl rfl ?_
    exact z_zret dX8_isDigit_17 rfl rfl ⟨Nat.le_refl _, Nat.le_refl _⟩ ⟨0, C, rfl, rfl, h⟩
  · replace h := h.2 hcz1
    refine z_iload_n 0 7 dX8_isDigit_6 rfl rfl ?_
    refine z_bipush 57 9 dX8_isDigit_7 rfl rfl ?_
    refine z_icmp_gt 16 12 dX8_isDigit_9 rfl rfl (fun hcz2 => ?_) (fun hcz2 => ?_)
    · replace h := h.1 hcz2
      refine z_iconst 0 17 dX8_isDigit_16 rfl rfl ?_
      exact z_zret dX8_isDigit_17 rfl rfl ⟨Nat.le_refl _, Nat.le_refl _⟩ ⟨0, C, rfl, rfl, h⟩
    · replace h := h.2 hcz2
      refine z_iconst 1 13 dX8_isDigit_12 rfl rfl ?_
      refine z_goto 17 dX8_isDigit_13 rfl ?_
      exact z_zret dX8_isDigit_17 rfl rfl ⟨Nat.le_refl _, Nat.le_refl _⟩ ⟨1, C, rfl, rfl, h⟩
def b_X8_reads_15 (t3 : Nat) (R9 : Int32 → Int32 → Int32 → cS → Prop) (Q : Int32 → cS → Prop) (K36 : cS → Prop) (K44 : cS → Prop) (l1 : Int32) (l2 : Int32) (l4 : Int32) (C : cS) : Prop :=
  ((l2 ≤ l4 → K44 C) ∧ (¬ l2 ≤ l4 → vp_in l4 2000 ∧ t3 < 40 ∧ vp_in (l4 - l1) (z_tlen t3) ∧ ((((c_a C 0) l4.toNatClampNeg) = (z_tchr t3 (l4 - l1).toNatClampNeg) → ∀ vz10 : Int32, vz10 = l4 + 1 → R9 l1 l2 vz10 C) ∧ (¬ ((c_a C 0) l4.toNatClampNeg) = (z_tchr t3 (l4 - l1).toNatClampNeg) → K36 C))))
def w_X8_reads_15 (t3 : Nat) (Q : Int32 → cS → Prop) (K36 : cS → Prop) (K44 : cS → Prop) : Nat → Int32 → Int32 → Int32 → cS → Prop
 | 0 => fun _ _ _ _ => False
 | n + 1 => fun l1 l2 l4 C => b_X8_reads_15 t3 (w_X8_reads_15 t3 Q K36 K44 n) Q K36 K44 l1 l2 l4 C
set_option maxRecDepth 100000 in
set_option maxHeartbeats 4000000 in
theorem tb_X8_reads_15 (tg : Bool) (M : mS) (o : Nat → Int64) (X : List va_E) (t3 : Nat) (R9 : Int32 → Int32 → Int32 → cS → Prop) (Q : Int32 → cS → Prop) (K36 : cS → Prop) (K44 : cS → Prop) (hR9 : ∀ (l1 : Int32) (l2 : Int32) (l4 : Int32) (C : cS), R9 l1 l2 l4 C → z_go q_X8_reads tg 15 [(1, .int l1), (2, .int l2), (4, .int l4), (0, .ref 201), (3, .ref (30 + t3))] [] (wz C M o X) 0 0 (zc_i M o X Q)) (hK36 : ∀ (C : cS), K36 C → z_go q_X8_reads tg 36 [] [] (wz C M o X) 0 0 (zc_i M o X Q)) (hK44 : ∀ (C : cS), K44 C → z_go q_X8_reads tg 44 [] [] (wz C M o X) 0 0 (zc_i M o X Q)) (l1 : Int32) (l2 : Int32) (l4 : Int32) (C : cS) (h : b_X8_reads_15 t3 R9 Q K36 K44 l1 l2 l4 C) : z_go q_X8_reads tg 15 [(1, .int l1), (2, .int l2), (4, .int l4), (0, .ref 201), (3, .ref (30 + t3))] [] (wz C M o X) 0 0 (zc_i M o X Q) := by
  unfold b_X8_reads_15 at h
  refine z_iload 2 17 dX8_reads_15 rfl rfl ?_
  refine z_iload_n 1 18 dX8_reads_17 rfl rfl ?_
  refine z_icmp_ge 44 21 dX8_reads_18 rfl rfl (fun hcz4 => ?_) (fun hcz4 => ?_)
  · replace h := h.1 hcz4
    refine z_pick [] [] rfl ?_
    exact hK44  C h
  · replace h := h.2 hcz4
    refine z_aload_n 3 22 dX8_reads_21 rfl rfl ?_
    refine z_iload 2 24 dX8_reads_22 rfl rfl ?_
    obtain ⟨hbz5, h⟩ := h
    refine gca_0 ((c_a C 0) l4.toNatClampNeg) 25 dX8_reads_24 hbz5 rfl rfl ?_
    refine z_aload_n 4 26 dX8_reads_25 rfl rfl ?_
    refine z_iload 2 28 dX8_reads_26 rfl rfl ?_
    refine z_iload_n 0 29 dX8_reads_28 rfl rfl ?_
    refine z_isub 30 dX8_reads_29 rfl ?_
    obtain ⟨hqz6, h⟩ := h
    obtain ⟨hbz7, h⟩ := h
    refine z_kiV [.int (l4 - l1)] 33 dX8_reads_30 ok_X8_reads_85 rfl rfl (Nat.le_of_ble_eq_true rfl) (z_recvX t3 (List.mem_of_getElem? (i := 1) rfl) hqz6 rfl) ⟨rfl, rfl⟩ ⟨Nat.le_refl _, Nat.le_refl _⟩ rfl (t_chr tg t3 (l4 - l1) _ hqz6 hbz7) (fun rz8 hrz8 => ?_)
    subst hrz8
    refine z_icmp_eq 38 36 dX8_reads_33 rfl rfl (fun hcz9 => ?_) (fun hcz9 => ?_)
    · replace h := h.1 hcz9
      obtain ⟨vz10, hvz10⟩ : ∃ v : Int32, v = l4 + 1 := ⟨_, rfl⟩
      replace h := h vz10 hvz10
      refine z_iinc vz10 [(4, .int vz10), (1, .int l1), (2, .int l2), (0, .ref 201), (3, .ref (30 + t3))] 2 41 dX8_reads_38 rfl hvz10.symm (Nat.le_of_ble_eq_true rfl) rfl rfl ?_
      refine z_goto 15 dX8_reads_41 rfl ?_
      refine z_pick [(1, .int l1), (2, .int l2), (4, .int vz10), (0, .ref 201), (3, .ref (30 + t3))] [1, 2, 0, 3, 4] rfl ?_
      exact hR9 l1 l2 vz10 C h
    · replace h := h.2 hcz9
      refine z_pick [] [] rfl ?_
      exact hK36  C h
theorem tw_X8_reads_15 (tg : Bool) (M : mS) (o : Nat → Int64) (X : List va_E) (t3 : Nat) (Q : Int32 → cS → Prop) (K36 : cS → Prop) (K44 : cS → Prop) (hK36 : ∀ (C : cS), K36 C → z_go q_X8_reads tg 36 [] [] (wz C M o X) 0 0 (zc_i M o X Q)) (hK44 : ∀ (C : cS), K44 C → z_go q_X8_reads tg 44 [] [] (wz C M o X) 0 0 (zc_i M o X Q)) : ∀ (n : Nat) (l1 : Int32) (l2 : Int32) (l4 : Int32) (C : cS), w_X8_reads_15 t3 Q K36 K44 n l1 l2 l4 C → z_go q_X8_reads tg 15 [(1, .int l1), (2, .int l2), (4, .int l4), (0, .ref 201), (3, .ref (30 + t3))] [] (wz C M o X) 0 0 (zc_i M o X Q) := by
  intro n
  induction n with
  | zero => intro l1 l2 l4 C h; exact h.elim
  | succ n ih => intro l1 l2 l4 C h; exact tb_X8_reads_15 tg M o X t3 _ Q K36 K44 ih hK36 hK44 l1 l2 l4 C h
def p_X8_reads (a1 : Int32) (a2 : Int32) (t3 : Nat) (C : cS) (Q : Int32 → cS → Prop) : Prop :=
  t3 < 40 ∧ (((a2 - a1) = (nI (z_tlen t3)) → ∃ nz13 : Nat, w_X8_reads_15 t3 Q (fun Cz11 => Q 0 Cz11) (fun Cz12 => Q 1 Cz12) nz13 a1 a2 a1 C) ∧ (¬ (a2 - a1) = (nI (z_tlen t3)) → Q 0 C))
set_option maxRecDepth 100000 in
set_option maxHeartbeats 4000000 in
theorem t_X8_reads (tg : Bool) (M : mS) (o : Nat → Int64) (X : List va_E) (a1 : Int32) (a2 : Int32) (t3 : Nat) (C : cS) (Q : Int32 → cS → Prop) (h : p_X8_reads a1 a2 t3 C Q) : z_M q_X8_reads tg [.ref 201, .int a1, .int a2, .ref (30 + t3)] (wz C M o X) (zc_i M o X Q) := by
  unfold p_X8_reads at h
  refine z_enter (by decide) (Nat.le_of_ble_eq_true rfl) ?_
  refine z_iload_n 2 1 dX8_reads_0 rfl rfl ?_
  refine z_iload_n 1 2 dX8_reads_1 rfl rfl ?_
  refine z_isub 3 dX8_reads_2 rfl ?_
  refine z_aload_n 3 4 dX8_reads_3 rfl rfl ?_
  obtain ⟨hqz1, h⟩ := h
  refine z_kiV [] 7 dX8_reads_4 ok_X8_reads_79 rfl rfl (Nat.le_of_ble_eq_true rfl) (z_recvX t3 (List.mem_of_getElem? (i := 1) rfl) hqz1 rfl) ⟨rfl, rfl⟩ ⟨Nat.le_refl _, Nat.le_refl _⟩ rfl (t_len tg t3 _ hqz1) (fun rz2 hrz2 => ?_)
  subst hrz2
  refine z_icmp_eq 12 10 dX8_reads_7 rfl rfl (fun hcz3 => ?_) (fun hcz3 => ?_)
  · replace h := h.1 hcz3
    refine z_iload_n 1 13 dX8_reads_12 rfl rfl ?_
    refine z_istore [(4, .int a1), (0, .ref 201), (1, .int a1), (2, .int a2), (3, .ref (30 + t3))] 15 dX8_reads_13 (Nat.le_of_ble_eq_true rfl) rfl rfl ?_
    obtain ⟨nz13, h⟩ := h
    refine z_pick [(1, .int a1), (2, .int a2), (4, .int a1), (0, .ref 201), (3, .ref (30 + t3))] [2, 3, 0, 1, 4] rfl ?_
    refine tw_X8_reads_15 tg M o X t3 Q _ _ (fun Cz11 h => ?_) (fun Cz12 h => ?_) nz13 a1 a2 a1 C h
    · refine z_iconst 0 37 dX8_reads_36 rfl rfl ?_
      exact z_zret dX8_reads_37 rfl rfl ⟨Nat.le_refl _, Nat.le_refl _⟩ ⟨0, Cz11, rfl, rfl, h⟩
    · refine z_iconst 1 45 dX8_reads_44 rfl rfl ?_
      exact z_zret dX8_reads_45 rfl rfl ⟨Nat.le_refl _, Nat.le_refl _⟩ ⟨1, Cz12, rfl, rfl, h⟩
  · replace h := h.2 hcz3
    refine z_iconst 0 11 dX8_reads_10 rfl rfl ?_
    exact z_zret dX8_reads_11 rfl rfl ⟨Nat.le_refl _, Nat.le_refl _⟩ ⟨0, C, rfl, rfl, h⟩
def b_X8_actNamed_2 (R9 : Int32 → Int32 → Int32 → cS → Prop) (Q : Int32 → cS → Prop) (K27 : Int32 → cS → Prop) (K35 : cS → Prop) (l1 : Int32) (l2 : Int32) (l3 : Int32) (C : cS) : Prop :=
  ((26 ≤ l3 → K35 C) ∧ (¬ 26 ≤ l3 → vp_in l3 26 ∧ p_X8_reads l1 l2 l3.toNatClampNeg C (fun rz4 Cz3 => ((rz4 = 0 → ∀ vz6 : Int32, vz6 = l3 + 1 → R9 l1 l2 vz6 Cz3) ∧ (¬ rz4 = 0 → K27 l3 Cz3)))))
def w_X8_actNamed_2 (Q : Int32 → cS → Prop) (K27 : Int32 → cS → Prop) (K35 : cS → Prop) : Nat → Int32 → Int32 → Int32 → cS → Prop
 | 0 => fun _ _ _ _ => False
 | n + 1 => fun l1 l2 l3 C => b_X8_actNamed_2 (w_X8_actNamed_2 Q K27 K35 n) Q K27 K35 l1 l2 l3 C
set_option maxRecDepth 100000 in
set_option maxHeartbeats 4000000 in
theorem tb_X8_actNamed_2 (tg : Bool) (M : mS) (o : Nat → Int64) (X : List va_E) (R9 : Int32 → Int32 → Int32 → cS → Prop) (Q : Int32 → cS → Prop) (K27 : Int32 → cS → Prop) (K35 : cS → Prop) (hR9 : ∀ (l1 : Int32) (l2 : Int32) (l3 : Int32) (C : cS), R9 l1 l2 l3 C → z_go q_X8_actNamed tg 2 [(1, .int l1), (2, .int l2), (3, .int l3), (0, .ref 201)] [] (wz C M o X) 0 0 (zc_i M o X Q)) (hK27 : ∀ (l3 : Int32) (C : cS), K27 l3 C → z_go q_X8_actNamed tg 27 [(3, .int l3)] [] (wz C M o X) 0 0 (zc_i M o X Q)) (hK35 : ∀ (C : cS), K35 C → z_go q_X8_actNamed tg 35 [] [] (wz C M o X) 0 0 (zc_i M o X Q)) (l1 : Int32) (l2 : Int32) (l3 : Int32) (C : cS) (h : b_X8_actNamed_2 R9 Q K27 K35 l1 l2 l3 C) : z_go q_X8_actNamed tg 2 [(1, .int l1), (2, .int l2), (3, .int l3), (0, .ref 201)] [] (wz C M o X) 0 0 (zc_i M o X Q) := by
  unfold b_X8_actNamed_2 at h
  refine z_iload_n 2 3 dX8_actNamed_2 rfl rfl ?_
  refine z_getsN (.ref 1) 6 dX8_actNamed_3 (List.mem_of_getElem? (i := 0) rfl) (List.mem_of_getElem? (i := 0) rfl) rfl ?_
  refine z_talen 0 7 dX8_actNamed_6 (List.mem_of_getElem? (i := 0) rfl) (Nat.lt_succ_self 0) rfl rfl ?_
  refine z_icmp_ge 35 10 dX8_actNamed_7 rfl rfl (fun hcz1 => ?_) (fun hcz1 => ?_)
  · replace h := h.1 hcz1
    refine z_pick [] [] rfl ?_
    exact hK35  C h
  · replace h := h.2 hcz1
    refine z_aload_n 3 11 dX8_actNamed_10 rfl rfl ?_
    refine z_iload_n 0 12 dX8_actNamed_11 rfl rfl ?_
    refine z_iload_n 1 13 dX8_actNamed_12 rfl rfl ?_
    refine z_getsN (.ref 1) 16 dX8_actNamed_13 (List.mem_of_getElem? (i := 0) rfl) (List.mem_of_getElem? (i := 0) rfl) rfl ?_
    refine z_iload_n 2 17 dX8_actNamed_16 rfl rfl ?_
    obtain ⟨hbz2, h⟩ := h
    refine z_taald 0 18 dX8_actNamed_17 (List.mem_of_getElem? (i := 0) rfl) (Nat.lt_succ_self 0) rfl hbz2 rfl ?_
    refine z_getX l3.toNatClampNeg 21 dX8_actNamed_18 (List.mem_of_getElem? (i := 1) rfl) (z_inlt hbz2) rfl ol_X8_69 rfl ?_
    refine z_ciS [.ref 201, .int l1, .int l2, .ref (30 + l3.toNatClampNeg)] 24 dX8_actNamed_21 ok_X8_actNamed_75 rfl rfl (Nat.le_of_ble_eq_true rfl) ⟨rfl, rfl⟩ ⟨Nat.le_refl _, Nat.le_refl _⟩ rfl (t_X8_reads tg M o X l1 l2 l3.toNatClampNeg C _ h) (fun rz4 Cz3 h => ?_)
    refine z_if_eq 29 27 dX8_actNamed_24 rfl rfl (fun hcz5 => ?_) (fun hcz5 => ?_)
    · replace h := h.1 hcz5
      obtain ⟨vz6, hvz6⟩ : ∃ v : Int32, v = l3 + 1 := ⟨_, rfl⟩
      replace h := h vz6 hvz6
      refine z_iinc vz6 [(3, .int vz6), (1, .int l1), (2, .int l2), (0, .ref 201)] 2 32 dX8_actNamed_29 rfl hvz6.symm (Nat.le_of_ble_eq_true rfl) rfl rfl ?_
      refine z_goto 2 dX8_actNamed_32 rfl ?_
      refine z_pick [(1, .int l1), (2, .int l2), (3, .int vz6), (0, .ref 201)] [1, 2, 0, 3] rfl ?_
      exact hR9 l1 l2 vz6 Cz3 h
    · replace h := h.2 hcz5
      refine z_pick [(3, .int l3)] [2] rfl ?_
      exact hK27 l3 Cz3 h
theorem tw_X8_actNamed_2 (tg : Bool) (M : mS) (o : Nat → Int64) (X : List va_E) (Q : Int32 → cS → Prop) (K27 : Int32 → cS → Prop) (K35 : cS → Prop) (hK27 : ∀ (l3 : Int32) (C : cS), K27 l3 C → z_go q_X8_actNamed tg 27 [(3, .int l3)] [] (wz C M o X) 0 0 (zc_i M o X Q)) (hK35 : ∀ (C : cS), K35 C → z_go q_X8_actNamed tg 35 [] [] (wz C M o X) 0 0 (zc_i M o X Q)) : ∀ (n : Nat) (l1 : Int32) (l2 : Int32) (l3 : Int32) (C : cS), w_X8_actNamed_2 Q K27 K35 n l1 l2 l3 C → z_go q_X8_actNamed tg 2 [(1, .int l1), (2, .int l2), (3, .int l3), (0, .ref 201)] [] (wz C M o X) 0 0 (zc_i M o X Q) := by
  intro n
  induction n with
  | zero => intro l1 l2 l3 C h; exact h.elim
  | succ n ih => intro l1 l2 l3 C h; exact tb_X8_actNamed_2 tg M o X _ Q K27 K35 ih hK27 hK35 l1 l2 l3 C h
def p_X8_actNamed (a1 : Int32) (a2 : Int32) (C : cS) (Q : Int32 → cS → Prop) : Prop :=
  ∃ nz10 : Nat, w_X8_actNamed_2 Q (fun lz7 Cz8 => Q lz7 Cz8) (fun Cz9 => Q (-1) Cz9) nz10 a1 a2 0 C
set_option maxRecDepth 100000 in
set_option maxHeartbeats 4000000 in
theorem t_X8_actNamed (tg : Bool) (M : mS) (o : Nat → Int64) (X : List va_E) (a1 : Int32) (a2 : Int32) (C : cS) (Q : Int32 → cS → Prop) (h : p_X8_actNamed a1 a2 C Q) : z_M q_X8_actNamed tg [.ref 201, .int a1, .int a2] (wz C M o X) (zc_i M o X Q) := by
  unfold p_X8_actNamed at h
  refine z_enter (by decide) (Nat.le_of_ble_eq_true rfl) ?_
  refine z_iconst 0 1 dX8_actNamed_0 rfl rfl ?_
  refine z_istore_n [(3, .int 0), (0, .ref 201), (1, .int a1), (2, .int a2)] 2 dX8_actNamed_1 (Nat.le_of_ble_eq_true rfl) rfl rfl ?_
  obtain ⟨nz10, h⟩ := h
  refine z_pick [(1, .int a1), (2, .int a2), (3, .int 0), (0, .ref 201)] [2, 3, 0, 1] rfl ?_
  refine tw_X8_actNamed_2 tg M o X Q _ _ (fun lz7 Cz8 h => ?_) (fun Cz9 h => ?_) nz10 a1 a2 0 C h
  · refine z_iload_n 0 28 dX8_actNamed_27 rfl rfl ?_
    exact z_iret dX8_actNamed_28 rfl ⟨Nat.le_refl _, Nat.le_refl _⟩ ⟨lz7, Cz8, rfl, rfl, h⟩
  · refine z_iconst (-1) 36 dX8_actNamed_35 rfl rfl ?_
    exact z_iret dX8_actNamed_36 rfl ⟨Nat.le_refl _, Nat.le_refl _⟩ ⟨(-1), Cz9, rfl, rfl, h⟩
def p_X10_isHand (a0 : Int32) (C : cS) (Q : Int32 → cS → Prop) : Prop :=
  ((a0 < 0 → Q 0 C) ∧ (¬ a0 < 0 → ((8 ≤ a0 → Q 0 C) ∧ (¬ 8 ≤ a0 → Q 1 C))))
set_option maxRecDepth 100000 in
set_option maxHeartbeats 4000000 in
theorem t_X10_isHand (tg : Bool) (M : mS) (o : Nat → Int64) (X : List va_E) (a0 : Int32) (C : cS) (Q : Int32 → cS → Prop) (h : p_X10_isHand a0 C Q) : z_M q_X10_isHand tg [.int a0] (wz C M o X) (zc_i M o X Q) := by
  unfold p_X10_isHand at h
  refine z_enter (by decide) (Nat.le_of_ble_eq_true rfl) ?_
  refine z_iload_n 0 1 dX10_isHand_0 rfl rfl ?_
  refine z_if_lt 14 4 dX10_isHand_1 rfl rfl (fun hcz1 => ?_) (fun hcz1 => ?_)
  · replace h := h.1 hcz1
    refine z_iconst 0 15 dX10_isHand_14 rfl rfl ?_
    exact z_zret dX10_isHand_15 rfl rfl ⟨Nat.le_refl _, Nat.le_refl _⟩ ⟨0, C, rfl, rfl, h⟩
  · replace h := h.2 hcz1
    refine z_iload_n 0 5 dX10_isHand_4 rfl rfl ?_
    refine z_bipush 8 7 dX10_isHand_5 rfl rfl ?_
    refine z_icmp_ge 14 10 dX10_isHand_7 rfl rfl (fun hcz2 => ?_) (fun hcz2 => ?_)
    · replace h := h.1 hcz2
      refine z_iconst 0 15 dX10_isHand_14 rfl rfl ?_
      exact z_zret dX10_isHand_15 rfl rfl ⟨Nat.le_refl _, Nat.le_refl _⟩ ⟨0, C, rfl, rfl, h⟩
    · replace h := h.2 hcz2
      refine z_iconst 1 11 dX10_isHand_10 rfl rfl ?_
      refine z_goto 15 dX10_isHand_11 rfl ?_
      exact z_zret dX10_isHand_15 rfl rfl ⟨Nat.le_refl _, Nat.le_refl _⟩ ⟨1, C, rfl, rfl, h⟩
def j_X8_cutName_32 (Q : Int32 → cS → Prop) (R9 : Int32 → Int32 → Int32 → Int64 → cS → Prop) (K84 : Int32 → Int32 → Int64 → cS → Prop) (l2 : Int32) (l3 : Int32) (l4 : Int32) (l5 : Int64) (C : cS) : Prop :=
  vp_in l4 2000 ∧ p_X8_isDigit ((c_a C 0) l4.toNatClampNeg) C (fun rz8 Cz7 => ((rz8 = 0 → ∀ vz10 : Int32, vz10 = (((c_a Cz7 0) l4.toNatClampNeg) - 97) + 10 → ∀ vz11 : Int64, vz11 = ((l5 * 37) + ((vz10 : Int32).toInt64)) + 1 → ∀ vz12 : Int32, vz12 = l4 + 1 → R9 l2 l3 vz12 vz11 Cz7) ∧ (¬ rz8 = 0 → ∀ vz13 : Int32, vz13 = ((c_a Cz7 0) l4.toNatClampNeg) - 48 → ∀ vz14 : Int64, vz14 = ((l5 * 37) + ((vz13 : Int32).toInt64)) + 1 → ∀ vz15 : Int32, vz15 = l4 + 1 → R9 l2 l3 vz15 vz14 Cz7)))
set_option maxRecDepth 100000 in
set_option maxHeartbeats 4000000 in
theorem tj_X8_cutName_32 (tg : Bool) (M : mS) (o : Nat → Int64) (X : List va_E) (Q : Int32 → cS → Prop) (R9 : Int32 → Int32 → Int32 → Int64 → cS → Prop) (K84 : Int32 → Int32 → Int64 → cS → Prop) (hR9 : ∀ (l2 : Int32) (l3 : Int32) (l4 : Int32) (l5 : Int64) (C : cS), R9 l2 l3 l4 l5 C → z_go q_X8_cutName tg 6 [(2, .int l2), (3, .int l3), (4, .int l4), (5, .long l5), (0, .ref 203), (1, .ref 201)] [] (wz C M o X) 0 0 (zc_i M o X Q)) (hK84 : ∀ (l2 : Int32) (l4 : Int32) (l5 : Int64) (C : cS), K84 l2 l4 l5 C → z_go q_X8_cutName tg 84 [(2, .int l2), (4, .int l4), (5, .long l5), (0, .ref 203), (1, .ref 201)] [] (wz C M o X) 0 0 (zc_i M o X Q)) (l2 : Int32) (l3 : Int32) (l4 : Int32) (l5 : Int64) (C : cS) (h : j_X8_cutName_32 Q R9 K84 l2 l3 l4 l5 C) : z_go q_X8_cutName tg 32 [(2, .int l2), (3, .int l3), (4, .int l4), (5, .long l5), (0, .ref 203), (1, .ref 201)] [] (wz C M o X) 0 0 (zc_i M o X Q) := by
  unfold j_X8_cutName_32 at h
  refine z_aload_n 5 33 dX8_cutName_32 rfl rfl ?_
  refine z_iload 2 35 dX8_cutName_33 rfl rfl ?_
  obtain ⟨hbz6, h⟩ := h
  refine gca_0 ((c_a C 0) l4.toNatClampNeg) 36 dX8_cutName_35 hbz6 rfl rfl ?_
  refine z_ciS [.int ((c_a C 0) l4.toNatClampNeg)] 39 dX8_cutName_36 ok_X8_cutName_47 rfl rfl (Nat.le_of_ble_eq_true rfl) ⟨rfl, rfl⟩ ⟨Nat.le_refl _, Nat.le_refl _⟩ rfl (t_X8_isDigit tg M o X ((c_a C 0) l4.toNatClampNeg) C _ h) (fun rz8 Cz7 h => ?_)
  refine z_if_eq 52 42 dX8_cutName_39 rfl rfl (fun hcz9 => ?_) (fun hcz9 => ?_)
  · replace h := h.1 hcz9
    refine z_aload_n 5 53 dX8_cutName_52 rfl rfl ?_
    refine z_iload 2 55 dX8_cutName_53 rfl rfl ?_
    refine gca_0 ((c_a Cz7 0) l4.toNatClampNeg) 56 dX8_cutName_55 hbz6 rfl rfl ?_
    refine z_bipush 97 58 dX8_cutName_56 rfl rfl ?_
    refine z_isub 59 dX8_cutName_58 rfl ?_
    refine z_bipush 10 61 dX8_cutName_59 rfl rfl ?_
    refine z_iadd 62 dX8_cutName_61 rfl ?_
    refine z_topi (fun vz10 hvz10 => ?_)
    replace h := h vz10 hvz10
    refine z_istore [(7, .int vz10), (2, .int l2), (3, .int l3), (4, .int l4), (5, .long l5), (0, .ref 203), (1, .ref 201)] 64 dX8_cutName_62 (Nat.le_of_ble_eq_true rfl) rfl rfl ?_
    refine z_lload 4 66 dX8_cutName_64 rfl rfl ?_
    refine z_ldc2 37 69 dX8_cutName_66 oc_X8_53 rfl ?_
    refine z_lmul 70 dX8_cutName_69 rfl ?_
    refine z_iload 0 72 dX8_cutName_70 rfl rfl ?_
    refine z_i2l 73 dX8_cutName_72 rfl ?_
    refine z_ladd 74 dX8_cutName_73 rfl ?_
    refine z_lconst 1 75 dX8_cutName_74 rfl rfl ?_
    refine z_ladd 76 dX8_cutName_75 rfl ?_
    refine z_topl (fun vz11 hvz11 => ?_)
    replace h := h vz11 hvz11
    refine z_lstore [(5, .long vz11), (7, .int vz10), (2, .int l2), (3, .int l3), (4, .int l4), (0, .ref 203), (1, .ref 201)] 78 dX8_cutName_76 (Nat.le_of_ble_eq_true rfl) rfl rfl ?_
    obtain ⟨vz12, hvz12⟩ : ∃ v : Int32, v = l4 + 1 := ⟨_, rfl⟩
    replace h := h vz12 hvz12
    refine z_iinc vz12 [(4, .int vz12), (5, .long vz11), (7, .int vz10), (2, .int l2), (3, .int l3), (0, .ref 203), (1, .ref 201)] 4 81 dX8_cutName_78 rfl hvz12.symm (Nat.le_of_ble_eq_true rfl) rfl rfl ?_
    refine z_goto 6 dX8_cutName_81 rfl ?_
    refine z_pick [(2, .int l2), (3, .int l3), (4, .int vz12), (5, .long vz11), (0, .ref 203), (1, .ref 201)] [3, 4, 0, 1, 5, 6] rfl ?_
    exact hR9 l2 l3 vz12 vz11 Cz7 h
  · replace h := h.2 hcz9
    refine z_aload_n 5 43 dX8_cutName_42 rfl rfl ?_
    refine z_iload 2 45 dX8_cutName_43 rfl rfl ?_
    refine gca_0 ((c_a Cz7 0) l4.toNatClampNeg) 46 dX8_cutName_45 hbz6 rfl rfl ?_
    refine z_bipush 48 48 dX8_cutName_46 rfl rfl ?_
    refine z_isub 49 dX8_cutName_48 rfl ?_
    refine z_goto 62 dX8_cutName_49 rfl ?_
    refine z_topi (fun vz13 hvz13 => ?_)
    replace h := h vz13 hvz13
    refine z_istore [(7, .int vz13), (2, .int l2), (3, .int l3), (4, .int l4), (5, .long l5), (0, .ref 203), (1, .ref 201)] 64 dX8_cutName_62 (Nat.le_of_ble_eq_true rfl) rfl rfl ?_
    refine z_lload 4 66 dX8_cutName_64 rfl rfl ?_
    refine z_ldc2 37 69 dX8_cutName_66 oc_X8_53 rfl ?_
    refine z_lmul 70 dX8_cutName_69 rfl ?_
    refine z_iload 0 72 dX8_cutName_70 rfl rfl ?_
    refine z_i2l 73 dX8_cutName_72 rfl ?_
    refine z_ladd 74 dX8_cutName_73 rfl ?_
    refine z_lconst 1 75 dX8_cutName_74 rfl rfl ?_
    refine z_ladd 76 dX8_cutName_75 rfl ?_
    refine z_topl (fun vz14 hvz14 => ?_)
    replace h := h vz14 hvz14
    refine z_lstore [(5, .long vz14), (7, .int vz13), (2, .int l2), (3, .int l3), (4, .int l4), (0, .ref 203), (1, .ref 201)] 78 dX8_cutName_76 (Nat.le_of_ble_eq_true rfl) rfl rfl ?_
    obtain ⟨vz15, hvz15⟩ : ∃ v : Int32, v = l4 + 1 := ⟨_, rfl⟩
    replace h := h vz15 hvz15
    refine z_iinc vz15 [(4, .int vz15), (5, .long vz14), (7, .int vz13), (2, .int l2), (3, .int l3), (0, .ref 203), (1, .ref 201)] 4 81 dX8_cutName_78 rfl hvz15.symm (Nat.le_of_ble_eq_true rfl) rfl rfl ?_
    refine z_goto 6 dX8_cutName_81 rfl ?_
    refine z_pick [(2, .int l2), (3, .int l3), (4, .int vz15), (5, .long vz14), (0, .ref 203), (1, .ref 201)] [3, 4, 0, 1, 5, 6] rfl ?_
    exact hR9 l2 l3 vz15 vz14 Cz7 h
def b_X8_cutName_6 (R9 : Int32 → Int32 → Int32 → Int64 → cS → Prop) (Q : Int32 → cS → Prop) (K84 : Int32 → Int32 → Int64 → cS → Prop) (l2 : Int32) (l3 : Int32) (l4 : Int32) (l5 : Int64) (C : cS) : Prop :=
  ((l3 ≤ l4 → K84 l2 l4 l5 C) ∧ (¬ l3 ≤ l4 → vp_in l4 2000 ∧ p_X8_isLetter ((c_a C 0) l4.toNatClampNeg) C (fun rz4 Cz3 => ((¬ rz4 = 0 → j_X8_cutName_32 Q R9 K84 l2 l3 l4 l5 Cz3) ∧ (rz4 = 0 → p_X8_isDigit ((c_a Cz3 0) l4.toNatClampNeg) Cz3 (fun rz17 Cz16 => ((rz17 = 0 → K84 l2 l4 l5 Cz16) ∧ (¬ rz17 = 0 → j_X8_cutName_32 Q R9 K84 l2 l3 l4 l5 Cz16))))))))
def w_X8_cutName_6 (Q : Int32 → cS → Prop) (K84 : Int32 → Int32 → Int64 → cS → Prop) : Nat → Int32 → Int32 → Int32 → Int64 → cS → Prop
 | 0 => fun _ _ _ _ _ => False
 | n + 1 => fun l2 l3 l4 l5 C => b_X8_cutName_6 (w_X8_cutName_6 Q K84 n) Q K84 l2 l3 l4 l5 C
set_option maxRecDepth 100000 in
set_option maxHeartbeats 4000000 in
theorem tb_X8_cutName_6 (tg : Bool) (M : mS) (o : Nat → Int64) (X : List va_E) (R9 : Int32 → Int32 → Int32 → Int64 → cS → Prop) (Q : Int32 → cS → Prop) (K84 : Int32 → Int32 → Int64 → cS → Prop) (hR9 : ∀ (l2 : Int32) (l3 : Int32) (l4 : Int32) (l5 : Int64) (C : cS), R9 l2 l3 l4 l5 C → z_go q_X8_cutName tg 6 [(2, .int l2), (3, .int l3), (4, .int l4), (5, .long l5), (0, .ref 203), (1, .ref 201)] [] (wz C M o X) 0 0 (zc_i M o X Q)) (hK84 : ∀ (l2 : Int32) (l4 : Int32) (l5 : Int64) (C : cS), K84 l2 l4 l5 C → z_go q_X8_cutName tg 84 [(2, .int l2), (4, .int l4), (5, .long l5), (0, .ref 203), (1, .ref 201)] [] (wz C M o X) 0 0 (zc_i M o X Q)) (l2 : Int32) (l3 : Int32) (l4 : Int32) (l5 : Int64) (C : cS) (h : b_X8_cutName_6 R9 Q K84 l2 l3 l4 l5 C) : z_go q_X8_cutName tg 6 [(2, .int l2), (3, .int l3), (4, .int l4), (5, .long l5), (0, .ref 203), (1, .ref 201)] [] (wz C M o X) 0 0 (zc_i M o X Q) := by
  unfold b_X8_cutName_6 at h
  refine z_iload 2 8 dX8_cutName_6 rfl rfl ?_
  refine z_iload_n 1 9 dX8_cutName_8 rfl rfl ?_
  refine z_icmp_ge 84 12 dX8_cutName_9 rfl rfl (fun hcz1 => ?_) (fun hcz1 => ?_)
  · replace h := h.1 hcz1
    refine z_pick [(2, .int l2), (4, .int l4), (5, .long l5), (0, .ref 203), (1, .ref 201)] [0, 2, 3, 4, 5] rfl ?_
    exact hK84 l2 l4 l5 C h
  · replace h := h.2 hcz1
    refine z_aload_n 5 13 dX8_cutName_12 rfl rfl ?_
    refine z_iload 2 15 dX8_cutName_13 rfl rfl ?_
    obtain ⟨hbz2, h⟩ := h
    refine gca_0 ((c_a C 0) l4.toNatClampNeg) 16 dX8_cutName_15 hbz2 rfl rfl ?_
    refine z_ciS [.int ((c_a C 0) l4.toNatClampNeg)] 19 dX8_cutName_16 ok_X8_cutName_40 rfl rfl (Nat.le_of_ble_eq_true rfl) ⟨rfl, rfl⟩ ⟨Nat.le_refl _, Nat.le_refl _⟩ rfl (t_X8_isLetter tg M o X ((c_a C 0) l4.toNatClampNeg) C _ h) (fun rz4 Cz3 h => ?_)
    refine z_if_ne 32 22 dX8_cutName_19 rfl rfl (fun hcz5 => ?_) (fun hcz5 => ?_)
    · replace h := h.1 hcz5
      refine z_pick [(2, .int l2), (3, .int l3), (4, .int l4), (5, .long l5), (0, .ref 203), (1, .ref 201)] [0, 1, 2, 3, 4, 5] rfl ?_
      exact tj_X8_cutName_32 tg M o X Q R9 K84 hR9 hK84 l2 l3 l4 l5 Cz3 h
    · replace h := h.2 hcz5
      refine z_aload_n 5 23 dX8_cutName_22 rfl rfl ?_
      refine z_iload 2 25 dX8_cutName_23 rfl rfl ?_
      refine gca_0 ((c_a Cz3 0) l4.toNatClampNeg) 26 dX8_cutName_25 hbz2 rfl rfl ?_
      refine z_ciS [.int ((c_a Cz3 0) l4.toNatClampNeg)] 29 dX8_cutName_26 ok_X8_cutName_47 rfl rfl (Nat.le_of_ble_eq_true rfl) ⟨rfl, rfl⟩ ⟨Nat.le_refl _, Nat.le_refl _⟩ rfl (t_X8_isDigit tg M o X ((c_a Cz3 0) l4.toNatClampNeg) Cz3 _ h) (fun rz17 Cz16 h => ?_)
      refine z_if_eq 84 32 dX8_cutName_29 rfl rfl (fun hcz18 => ?_) (fun hcz18 => ?_)
      · replace h := h.1 hcz18
        refine z_pick [(2, .int l2), (4, .int l4), (5, .long l5), (0, .ref 203), (1, .ref 201)] [0, 2, 3, 4, 5] rfl ?_
        exact hK84 l2 l4 l5 Cz16 h
      · replace h := h.2 hcz18
        refine z_pick [(2, .int l2), (3, .int l3), (4, .int l4), (5, .long l5), (0, .ref 203), (1, .ref 201)] [0, 1, 2, 3, 4, 5] rfl ?_
        exact tj_X8_cutName_32 tg M o X Q R9 K84 hR9 hK84 l2 l3 l4 l5 Cz16 h
theorem tw_X8_cutName_6 (tg : Bool) (M : mS) (o : Nat → Int64) (X : List va_E) (Q : Int32 → cS → Prop) (K84 : Int32 → Int32 → Int64 → cS → Prop) (hK84 : ∀ (l2 : Int32) (l4 : Int32) (l5 : Int64) (C : cS), K84 l2 l4 l5 C → z_go q_X8_cutName tg 84 [(2, .int l2), (4, .int l4), (5, .long l5), (0, .ref 203), (1, .ref 201)] [] (wz C M o X) 0 0 (zc_i M o X Q)) : ∀ (n : Nat) (l2 : Int32) (l3 : Int32) (l4 : Int32) (l5 : Int64) (C : cS), w_X8_cutName_6 Q K84 n l2 l3 l4 l5 C → z_go q_X8_cutName tg 6 [(2, .int l2), (3, .int l3), (4, .int l4), (5, .long l5), (0, .ref 203), (1, .ref 201)] [] (wz C M o X) 0 0 (zc_i M o X Q) := by
  intro n
  induction n with
  | zero => intro l2 l3 l4 l5 C h; exact h.elim
  | succ n ih => intro l2 l3 l4 l5 C h; exact tb_X8_cutName_6 tg M o X _ Q K84 ih hK84 l2 l3 l4 l5 C h
def p_X8_cutName (a2 : Int32) (a3 : Int32) (C : cS) (Q : Int32 → cS → Prop) : Prop :=
  ∃ nz36 : Nat, w_X8_cutName_6 Q (fun lz19 lz20 lz21 Cz22 => (((lz20 - lz19) ≤ 8 → p_X8_actNamed lz19 lz20 Cz22 (fun rz25 Cz24 => ((rz25 = (-1) → ((¬ (lz20 - lz19) = 1 → p_X8_add 3 lz19 0 lz21 Cz24 (fun Cz28 => Q lz20 Cz28)) ∧ ((lz20 - lz19) = 1 → vp_in lz19 2000 ∧ p_X10_isHand (((c_a Cz24 0) lz19.toNatClampNeg) - 97) Cz24 (fun rz31 Cz30 => ((rz31 = 0 → p_X8_add 3 lz19 0 lz21 Cz30 (fun Cz33 => Q lz20 Cz33)) ∧ (¬ rz31 = 0 → p_X8_add 1 lz19 (((c_a Cz30 0) lz19.toNatClampNeg) - 97) 0 Cz30 (fun Cz34 => Q lz20 Cz34))))))) ∧ (¬ rz25 = (-1) → p_X8_add 2 lz19 rz25 0 Cz24 (fun Cz35 => Q lz20 Cz35))))) ∧ (¬ (lz20 - lz19) ≤ 8 → Q (-1) Cz22))) nz36 a2 a3 a2 0 C
set_option maxRecDepth 100000 in
set_option maxHeartbeats 4000000 in
theorem t_X8_cutName (tg : Bool) (M : mS) (o : Nat → Int64) (X : List va_E) (a2 : Int32) (a3 : Int32) (C : cS) (Q : Int32 → cS → Prop) (h : p_X8_cutName a2 a3 C Q) : z_M q_X8_cutName tg [.ref 203, .ref 201, .int a2, .int a3] (wz C M o X) (zc_i M o X Q) := by
  unfold p_X8_cutName at h
  refine z_enter (by decide) (Nat.le_of_ble_eq_true rfl) ?_
  refine z_iload_n 2 1 dX8_cutName_0 rfl rfl ?_
  refine z_istore [(4, .int a2), (0, .ref 203), (1, .ref 201), (2, .int a2), (3, .int a3)] 3 dX8_cutName_1 (Nat.le_of_ble_eq_true rfl) rfl rfl ?_
  refine z_lconst 0 4 dX8_cutName_3 rfl rfl ?_
  refine z_lstore [(5, .long 0), (4, .int a2), (0, .ref 203), (1, .ref 201), (2, .int a2), (3, .int a3)] 6 dX8_cutName_4 (Nat.le_of_ble_eq_true rfl) rfl rfl ?_
  obtain ⟨nz36, h⟩ := h
  refine z_pick [(2, .int a2), (3, .int a3), (4, .int a2), (5, .long 0), (0, .ref 203), (1, .ref 201)] [4, 5, 1, 0, 2, 3] rfl ?_
  refine tw_X8_cutName_6 tg M o X Q _ (fun lz19 lz20 lz21 Cz22 h => ?_) nz36 a2 a3 a2 0 C h
  · refine z_iload 1 86 dX8_cutName_84 rfl rfl ?_
    refine z_iload_n 0 87 dX8_cutName_86 rfl rfl ?_
    refine z_isub 88 dX8_cutName_87 rfl ?_
    refine z_bipush 8 90 dX8_cutName_88 rfl rfl ?_
    refine z_icmp_le 95 93 dX8_cutName_90 rfl rfl (fun hcz23 => ?_) (fun hcz23 => ?_)
    · replace h := h.1 hcz23
      refine z_aload_n 4 96 dX8_cutName_95 rfl rfl ?_
      refine z_iload_n 0 97 dX8_cutName_96 rfl rfl ?_
      refine z_iload 1 99 dX8_cutName_97 rfl rfl ?_
      refine z_ciS [.ref 201, .int lz19, .int lz20] 102 dX8_cutName_99 ok_X8_cutName_55 rfl rfl (Nat.le_of_ble_eq_true rfl) ⟨rfl, rfl⟩ ⟨Nat.le_refl _, Nat.le_refl _⟩ rfl (t_X8_actNamed tg M o X lz19 lz20 Cz22 _ h) (fun rz25 Cz24 h => ?_)
      refine z_istore [(7, .int rz25), (2, .int lz19), (4, .int lz20), (5, .long lz21), (0, .ref 203), (1, .ref 201)] 104 dX8_cutName_102 (Nat.le_of_ble_eq_true rfl) rfl rfl ?_
      refine z_iload 0 106 dX8_cutName_104 rfl rfl ?_
      refine z_iconst (-1) 107 dX8_cutName_106 rfl rfl ?_
      refine z_icmp_eq 122 110 dX8_cutName_107 rfl rfl (fun hcz26 => ?_) (fun hcz26 => ?_)
      · replace h := h.1 hcz26
        refine z_iload 2 124 dX8_cutName_122 rfl rfl ?_
        refine z_iload_n 1 125 dX8_cutName_124 rfl rfl ?_
        refine z_isub 126 dX8_cutName_125 rfl ?_
        refine z_iconst 1 127 dX8_cutName_126 rfl rfl ?_
        refine z_icmp_ne 158 130 dX8_cutName_127 rfl rfl (fun hcz27 => ?_) (fun hcz27 => ?_)
        · replace h := h.1 hcz27
          refine z_aload_n 4 159 dX8_cutName_158 rfl rfl ?_
          refine z_iconst 3 160 dX8_cutName_159 rfl rfl ?_
          refine z_iload_n 1 161 dX8_cutName_160 rfl rfl ?_
          refine z_iconst 0 162 dX8_cutName_161 rfl rfl ?_
          refine z_lload 3 164 dX8_cutName_162 rfl rfl ?_
          refine z_cvV [.int 3, .int lz19, .int 0, .long lz21] 167 dX8_cutName_164 ok_X8_cutName_36 rfl rfl (Nat.le_of_ble_eq_true rfl) rc_3 ⟨rfl, rfl⟩ ⟨Nat.le_refl _, Nat.le_refl _⟩ rfl (t_X8_add tg M o X 3 lz19 0 lz21 Cz24 _ h) (fun Cz28 h => ?_)
          refine z_iload 2 169 dX8_cutName_167 rfl rfl ?_
          exact z_iret dX8_cutName_169 rfl ⟨Nat.le_refl _, Nat.le_refl _⟩ ⟨lz20, Cz28, rfl, rfl, h⟩
        · replace h := h.2 hcz27
          refine z_aload_n 5 131 dX8_cutName_130 rfl rfl ?_
          refine z_iload_n 1 132 dX8_cutName_131 rfl rfl ?_
          obtain ⟨hbz29, h⟩ := h
          refine gca_0 ((c_a Cz24 0) lz19.toNatClampNeg) 133 dX8_cutName_132 hbz29 rfl rfl ?_
          refine z_bipush 97 135 dX8_cutName_133 rfl rfl ?_
          refine z_isub 136 dX8_cutName_135 rfl ?_
          refine z_ciSN [.int (((c_a Cz24 0) lz19.toNatClampNeg) - 97)] 139 dX8_cutName_136 ok_X8_cutName_58 rfl rfl (Nat.le_of_ble_eq_true rfl) ⟨rfl, rfl⟩ ⟨Nat.le_refl _, Nat.le_refl _⟩ rfl (t_X10_isHand tg M o X (((c_a Cz24 0) lz19.toNatClampNeg) - 97) Cz24 _ h) (fun rz31 Cz30 h => ?_)
          refine z_if_eq 158 142 dX8_cutName_139 rfl rfl (fun hcz32 => ?_) (fun hcz32 => ?_)
          · replace h := h.1 hcz32
            refine z_aload_n 4 159 dX8_cutName_158 rfl rfl ?_
            refine z_iconst 3 160 dX8_cutName_159 rfl rfl ?_
            refine z_iload_n 1 161 dX8_cutName_160 rfl rfl ?_
            refine z_iconst 0 162 dX8_cutName_161 rfl rfl ?_
            refine z_lload 3 164 dX8_cutName_162 rfl rfl ?_
            refine z_cvV [.int 3, .int lz19, .int 0, .long lz21] 167 dX8_cutName_164 ok_X8_cutName_36 rfl rfl (Nat.le_of_ble_eq_true rfl) rc_3 ⟨rfl, rfl⟩ ⟨Nat.le_refl _, Nat.le_refl _⟩ rfl (t_X8_add tg M o X 3 lz19 0 lz21 Cz30 _ h) (fun Cz33 h => ?_)
            refine z_iload 2 169 dX8_cutName_167 rfl rfl ?_
            exact z_iret dX8_cutName_169 rfl ⟨Nat.le_refl _, Nat.le_refl _⟩ ⟨lz20, Cz33, rfl, rfl, h⟩
          · replace h := h.2 hcz32
            refine z_aload_n 4 143 dX8_cutName_142 rfl rfl ?_
            refine z_iconst 1 144 dX8_cutName_143 rfl rfl ?_
            refine z_iload_n 1 145 dX8_cutName_144 rfl rfl ?_
            refine z_aload_n 5 146 dX8_cutName_145 rfl rfl ?_
            refine z_iload_n 1 147 dX8_cutName_146 rfl rfl ?_
            refine gca_0 ((c_a Cz30 0) lz19.toNatClampNeg) 148 dX8_cutName_147 hbz29 rfl rfl ?_
            refine z_bipush 97 150 dX8_cutName_148 rfl rfl ?_
            refine z_isub 151 dX8_cutName_150 rfl ?_
            refine z_lconst 0 152 dX8_cutName_151 rfl rfl ?_
            refine z_cvV [.int 1, .int lz19, .int (((c_a Cz30 0) lz19.toNatClampNeg) - 97), .long 0] 155 dX8_cutName_152 ok_X8_cutName_36 rfl rfl (Nat.le_of_ble_eq_true rfl) rc_3 ⟨rfl, rfl⟩ ⟨Nat.le_refl _, Nat.le_refl _⟩ rfl (t_X8_add tg M o X 1 lz19 (((c_a Cz30 0) lz19.toNatClampNeg) - 97) 0 Cz30 _ h) (fun Cz34 h => ?_)
            refine z_goto 167 dX8_cutName_155 rfl ?_
            refine z_iload 2 169 dX8_cutName_167 rfl rfl ?_
            exact z_iret dX8_cutName_169 rfl ⟨Nat.le_refl _, Nat.le_refl _⟩ ⟨lz20, Cz34, rfl, rfl, h⟩
      · replace h := h.2 hcz26
        refine z_aload_n 4 111 dX8_cutName_110 rfl rfl ?_
        refine z_iconst 2 112 dX8_cutName_111 rfl rfl ?_
        refine z_iload_n 1 113 dX8_cutName_112 rfl rfl ?_
        refine z_iload 0 115 dX8_cutName_113 rfl rfl ?_
        refine z_lconst 0 116 dX8_cutName_115 rfl rfl ?_
        refine z_cvV [.int 2, .int lz19, .int rz25, .long 0] 119 dX8_cutName_116 ok_X8_cutName_36 rfl rfl (Nat.le_of_ble_eq_true rfl) rc_3 ⟨rfl, rfl⟩ ⟨Nat.le_refl _, Nat.le_refl _⟩ rfl (t_X8_add tg M o X 2 lz19 rz25 0 Cz24 _ h) (fun Cz35 h => ?_)
        refine z_goto 167 dX8_cutName_119 rfl ?_
        refine z_iload 2 169 dX8_cutName_167 rfl rfl ?_
        exact z_iret dX8_cutName_169 rfl ⟨Nat.le_refl _, Nat.le_refl _⟩ ⟨lz20, Cz35, rfl, rfl, h⟩
    · replace h := h.2 hcz23
      refine z_iconst (-1) 94 dX8_cutName_93 rfl rfl ?_
      exact z_iret dX8_cutName_94 rfl ⟨Nat.le_refl _, Nat.le_refl _⟩ ⟨(-1), Cz22, rfl, rfl, h⟩
def b_X8_cutNumber_36 (R9 : Int32 → Int32 → Int32 → Int32 → Int32 → Int64 → cS → Prop) (Q : Int32 → cS → Prop) (K91 : Int32 → Int32 → Int32 → Int32 → Int64 → cS → Prop) (l2 : Int32) (l3 : Int32) (l4 : Int32) (l5 : Int32) (l6 : Int32) (l7 : Int64) (C : cS) : Prop :=
  ((l3 ≤ l6 → K91 l2 l4 l5 l6 l7 C) ∧ (¬ l3 ≤ l6 → vp_in l6 2000 ∧ p_X8_isDigit ((c_a C 0) l6.toNatClampNeg) C (fun rz6 Cz5 => ((rz6 = 0 → K91 l2 l4 l5 l6 l7 Cz5) ∧ (¬ rz6 = 0 → ((10 ≤ (l6 - l5) → ∀ vz9 : Int32, vz9 = l6 + 1 → R9 l2 l3 l4 l5 vz9 l7 Cz5) ∧ (¬ 10 ≤ (l6 - l5) → ∀ vz10 : Int64, vz10 = ((l7 * 10) + (((c_a Cz5 0) l6.toNatClampNeg : Int32).toInt64)) - 48 → ∀ vz11 : Int32, vz11 = l6 + 1 → R9 l2 l3 l4 l5 vz11 vz10 Cz5)))))))
def w_X8_cutNumber_36 (Q : Int32 → cS → Prop) (K91 : Int32 → Int32 → Int32 → Int32 → Int64 → cS → Prop) : Nat → Int32 → Int32 → Int32 → Int32 → Int32 → Int64 → cS → Prop
 | 0 => fun _ _ _ _ _ _ _ => False
 | n + 1 => fun l2 l3 l4 l5 l6 l7 C => b_X8_cutNumber_36 (w_X8_cutNumber_36 Q K91 n) Q K91 l2 l3 l4 l5 l6 l7 C
set_option maxRecDepth 100000 in
set_option maxHeartbeats 4000000 in
theorem tb_X8_cutNumber_36 (tg : Bool) (M : mS) (o : Nat → Int64) (X : List va_E) (R9 : Int32 → Int32 → Int32 → Int32 → Int32 → Int64 → cS → Prop) (Q : Int32 → cS → Prop) (K91 : Int32 → Int32 → Int32 → Int32 → Int64 → cS → Prop) (hR9 : ∀ (l2 : Int32) (l3 : Int32) (l4 : Int32) (l5 : Int32) (l6 : Int32) (l7 : Int64) (C : cS), R9 l2 l3 l4 l5 l6 l7 C → z_go q_X8_cutNumber tg 36 [(2, .int l2), (3, .int l3), (4, .int l4), (5, .int l5), (6, .int l6), (7, .long l7), (0, .ref 203), (1, .ref 201)] [] (wz C M o X) 0 0 (zc_i M o X Q)) (hK91 : ∀ (l2 : Int32) (l4 : Int32) (l5 : Int32) (l6 : Int32) (l7 : Int64) (C : cS), K91 l2 l4 l5 l6 l7 C → z_go q_X8_cutNumber tg 91 [(2, .int l2), (4, .int l4), (5, .int l5), (6, .int l6), (7, .long l7), (0, .ref 203)] [] (wz C M o X) 0 0 (zc_i M o X Q)) (l2 : Int32) (l3 : Int32) (l4 : Int32) (l5 : Int32) (l6 : Int32) (l7 : Int64) (C : cS) (h : b_X8_cutNumber_36 R9 Q K91 l2 l3 l4 l5 l6 l7 C) : z_go q_X8_cutNumber tg 36 [(2, .int l2), (3, .int l3), (4, .int l4), (5, .int l5), (6, .int l6), (7, .long l7), (0, .ref 203), (1, .ref 201)] [] (wz C M o X) 0 0 (zc_i M o X Q) := by
  unfold b_X8_cutNumber_36 at h
  refine z_iload 4 38 dX8_cutNumber_36 rfl rfl ?_
  refine z_iload_n 1 39 dX8_cutNumber_38 rfl rfl ?_
  refine z_icmp_ge 91 42 dX8_cutNumber_39 rfl rfl (fun hcz3 => ?_) (fun hcz3 => ?_)
  · replace h := h.1 hcz3
    refine z_pick [(2, .int l2), (4, .int l4), (5, .int l5), (6, .int l6), (7, .long l7), (0, .ref 203)] [0, 2, 3, 4, 5, 6] rfl ?_
    exact hK91 l2 l4 l5 l6 l7 C h
  · replace h := h.2 hcz3
    refine z_aload_n 7 43 dX8_cutNumber_42 rfl rfl ?_
    refine z_iload 4 45 dX8_cutNumber_43 rfl rfl ?_
    obtain ⟨hbz4, h⟩ := h
    refine gca_0 ((c_a C 0) l6.toNatClampNeg) 46 dX8_cutNumber_45 hbz4 rfl rfl ?_
    refine z_ciS [.int ((c_a C 0) l6.toNatClampNeg)] 49 dX8_cutNumber_46 ok_X8_cutNumber_47 rfl rfl (Nat.le_of_ble_eq_true rfl) ⟨rfl, rfl⟩ ⟨Nat.le_refl _, Nat.le_refl _⟩ rfl (t_X8_isDigit tg M o X ((c_a C 0) l6.toNatClampNeg) C _ h) (fun rz6 Cz5 h => ?_)
    refine z_if_eq 91 52 dX8_cutNumber_49 rfl rfl (fun hcz7 => ?_) (fun hcz7 => ?_)
    · replace h := h.1 hcz7
      refine z_pick [(2, .int l2), (4, .int l4), (5, .int l5), (6, .int l6), (7, .long l7), (0, .ref 203)] [0, 2, 3, 4, 5, 6] rfl ?_
      exact hK91 l2 l4 l5 l6 l7 Cz5 h
    · replace h := h.2 hcz7
      refine z_iload 4 54 dX8_cutNumber_52 rfl rfl ?_
      refine z_iload 3 56 dX8_cutNumber_54 rfl rfl ?_
      refine z_isub 57 dX8_cutNumber_56 rfl ?_
      refine z_bipush 10 59 dX8_cutNumber_57 rfl rfl ?_
      refine z_icmp_ge 81 62 dX8_cutNumber_59 rfl rfl (fun hcz8 => ?_) (fun hcz8 => ?_)
      · replace h := h.1 hcz8
        refine z_lload 5 83 dX8_cutNumber_81 rfl rfl ?_
        refine z_lstore [(7, .long l7), (2, .int l2), (3, .int l3), (4, .int l4), (5, .int l5), (6, .int l6), (0, .ref 203), (1, .ref 201)] 85 dX8_cutNumber_83 (Nat.le_of_ble_eq_true rfl) rfl rfl ?_
        obtain ⟨vz9, hvz9⟩ : ∃ v : Int32, v = l6 + 1 := ⟨_, rfl⟩
        replace h := h vz9 hvz9
        refine z_iinc vz9 [(6, .int vz9), (7, .long l7), (2, .int l2), (3, .int l3), (4, .int l4), (5, .int l5), (0, .ref 203), (1, .ref 201)] 5 88 dX8_cutNumber_85 rfl hvz9.symm (Nat.le_of_ble_eq_true rfl) rfl rfl ?_
        refine z_goto 36 dX8_cutNumber_88 rfl ?_
        refine z_pick [(2, .int l2), (3, .int l3), (4, .int l4), (5, .int l5), (6, .int vz9), (7, .long l7), (0, .ref 203), (1, .ref 201)] [2, 3, 4, 5, 0, 1, 6, 7] rfl ?_
        exact hR9 l2 l3 l4 l5 vz9 l7 Cz5 h
      · replace h := h.2 hcz8
        refine z_lload 5 64 dX8_cutNumber_62 rfl rfl ?_
        refine z_ldc2 10 67 dX8_cutNumber_64 oc_X8_61 rfl ?_
        refine z_lmul 68 dX8_cutNumber_67 rfl ?_
        refine z_aload_n 7 69 dX8_cutNumber_68 rfl rfl ?_
        refine z_iload 4 71 dX8_cutNumber_69 rfl rfl ?_
        refine gca_0 ((c_a Cz5 0) l6.toNatClampNeg) 72 dX8_cutNumber_71 hbz4 rfl rfl ?_
        refine z_i2l 73 dX8_cutNumber_72 rfl ?_
        refine z_ladd 74 dX8_cutNumber_73 rfl ?_
        refine z_ldc2 48 77 dX8_cutNumber_74 oc_X8_63 rfl ?_
        refine z_lsub 78 dX8_cutNumber_77 rfl ?_
        refine z_goto 83 dX8_cutNumber_78 rfl ?_
        refine z_topl (fun vz10 hvz10 => ?_)
        replace h := h vz10 hvz10
        refine z_lstore [(7, .long vz10), (2, .int l2), (3, .int l3), (4, .int l4), (5, .int l5), (6, .int l6), (0, .ref 203), (1, .ref 201)] 85 dX8_cutNumber_83 (Nat.le_of_ble_eq_true rfl) rfl rfl ?_
        obtain ⟨vz11, hvz11⟩ : ∃ v : Int32, v = l6 + 1 := ⟨_, rfl⟩
        replace h := h vz11 hvz11
        refine z_iinc vz11 [(6, .int vz11), (7, .long vz10), (2, .int l2), (3, .int l3), (4, .int l4), (5, .int l5), (0, .ref 203), (1, .ref 201)] 5 88 dX8_cutNumber_85 rfl hvz11.symm (Nat.le_of_ble_eq_true rfl) rfl rfl ?_
        refine z_goto 36 dX8_cutNumber_88 rfl ?_
        refine z_pick [(2, .int l2), (3, .int l3), (4, .int l4), (5, .int l5), (6, .int vz11), (7, .long vz10), (0, .ref 203), (1, .ref 201)] [2, 3, 4, 5, 0, 1, 6, 7] rfl ?_
        exact hR9 l2 l3 l4 l5 vz11 vz10 Cz5 h
theorem tw_X8_cutNumber_36 (tg : Bool) (M : mS) (o : Nat → Int64) (X : List va_E) (Q : Int32 → cS → Prop) (K91 : Int32 → Int32 → Int32 → Int32 → Int64 → cS → Prop) (hK91 : ∀ (l2 : Int32) (l4 : Int32) (l5 : Int32) (l6 : Int32) (l7 : Int64) (C : cS), K91 l2 l4 l5 l6 l7 C → z_go q_X8_cutNumber tg 91 [(2, .int l2), (4, .int l4), (5, .int l5), (6, .int l6), (7, .long l7), (0, .ref 203)] [] (wz C M o X) 0 0 (zc_i M o X Q)) : ∀ (n : Nat) (l2 : Int32) (l3 : Int32) (l4 : Int32) (l5 : Int32) (l6 : Int32) (l7 : Int64) (C : cS), w_X8_cutNumber_36 Q K91 n l2 l3 l4 l5 l6 l7 C → z_go q_X8_cutNumber tg 36 [(2, .int l2), (3, .int l3), (4, .int l4), (5, .int l5), (6, .int l6), (7, .long l7), (0, .ref 203), (1, .ref 201)] [] (wz C M o X) 0 0 (zc_i M o X Q) := by
  intro n
  induction n with
  | zero => intro l2 l3 l4 l5 l6 l7 C h; exact h.elim
  | succ n ih => intro l2 l3 l4 l5 l6 l7 C h; exact tb_X8_cutNumber_36 tg M o X _ Q K91 ih hK91 l2 l3 l4 l5 l6 l7 C h
def j_X8_cutNumber_104 (Q : Int32 → cS → Prop) (l2 : Int32) (l5 : Int32) (l6 : Int32) (s0 : Int64) (C : cS) : Prop :=
  ((l6 = l5 → Q (-1) C) ∧ (¬ l6 = l5 → ((10 < (l6 - l5) → Q (-1) C) ∧ (¬ 10 < (l6 - l5) → (((lg_cmp s0 (((s0 : Int64).toInt32 : Int32).toInt64)) = 0 → p_X8_add 0 l2 ((s0 : Int64).toInt32) 0 C (fun Cz22 => Q l6 Cz22)) ∧ (¬ (lg_cmp s0 (((s0 : Int64).toInt32 : Int32).toInt64)) = 0 → Q (-1) C))))))
set_option maxRecDepth 100000 in
set_option maxHeartbeats 4000000 in
theorem tj_X8_cutNumber_104 (tg : Bool) (M : mS) (o : Nat → Int64) (X : List va_E) (Q : Int32 → cS → Prop) (l2 : Int32) (l5 : Int32) (l6 : Int32) (s0 : Int64) (C : cS) (h : j_X8_cutNumber_104 Q l2 l5 l6 s0 C) : z_go q_X8_cutNumber tg 104 [(2, .int l2), (5, .int l5), (6, .int l6), (0, .ref 203)] [.long s0] (wz C M o X) 0 0 (zc_i M o X Q) := by
  unfold j_X8_cutNumber_104 at h
  refine z_lstore [(9, .long s0), (2, .int l2), (5, .int l5), (6, .int l6), (0, .ref 203)] 106 dX8_cutNumber_104 (Nat.le_of_ble_eq_true rfl) rfl rfl ?_
  refine z_iload 3 108 dX8_cutNumber_106 rfl rfl ?_
  refine z_iload 2 110 dX8_cutNumber_108 rfl rfl ?_
  refine z_icmp_eq 133 113 dX8_cutNumber_110 rfl rfl (fun hcz19 => ?_) (fun hcz19 => ?_)
  · replace h := h.1 hcz19
    refine z_iconst (-1) 134 dX8_cutNumber_133 rfl rfl ?_
    exact z_iret dX8_cutNumber_134 rfl ⟨Nat.le_refl _, Nat.le_refl _⟩ ⟨(-1), C, rfl, rfl, h⟩
  · replace h := h.2 hcz19
    refine z_iload 3 115 dX8_cutNumber_113 rfl rfl ?_
    refine z_iload 2 117 dX8_cutNumber_115 rfl rfl ?_
    refine z_isub 118 dX8_cutNumber_117 rfl ?_
    refine z_bipush 10 120 dX8_cutNumber_118 rfl rfl ?_
    refine z_icmp_gt 133 123 dX8_cutNumber_120 rfl rfl (fun hcz20 => ?_) (fun hcz20 => ?_)
    · replace h := h.1 hcz20
      refine z_iconst (-1) 134 dX8_cutNumber_133 rfl rfl ?_
      exact z_iret dX8_cutNumber_134 rfl ⟨Nat.le_refl _, Nat.le_refl _⟩ ⟨(-1), C, rfl, rfl, h⟩
    · replace h := h.2 hcz20
      refine z_lload 0 125 dX8_cutNumber_123 rfl rfl ?_
      refine z_lload 0 127 dX8_cutNumber_125 rfl rfl ?_
      refine z_l2i 128 dX8_cutNumber_127 rfl ?_
      refine z_i2l 129 dX8_cutNumber_128 rfl ?_
      refine z_lcmp 130 dX8_cutNumber_129 rfl ?_
      refine z_if_eq 135 133 dX8_cutNumber_130 rfl rfl (fun hcz21 => ?_) (fun hcz21 => ?_)
      · replace h := h.1 hcz21
        refine z_aload_n 4 136 dX8_cutNumber_135 rfl rfl ?_
        refine z_iconst 0 137 dX8_cutNumber_136 rfl rfl ?_
        refine z_iload_n 1 138 dX8_cutNumber_137 rfl rfl ?_
        refine z_lload 0 140 dX8_cutNumber_138 rfl rfl ?_
        refine z_l2i 141 dX8_cutNumber_140 rfl ?_
        refine z_lconst 0 142 dX8_cutNumber_141 rfl rfl ?_
        refine z_cvV [.int 0, .int l2, .int ((s0 : Int64).toInt32), .long 0] 145 dX8_cutNumber_142 ok_X8_cutNumber_36 rfl rfl (Nat.le_of_ble_eq_true rfl) rc_3 ⟨rfl, rfl⟩ ⟨Nat.le_refl _, Nat.le_refl _⟩ rfl (t_X8_add tg M o X 0 l2 ((s0 : Int64).toInt32) 0 C _ h) (fun Cz22 h => ?_)
        refine z_iload 3 147 dX8_cutNumber_145 rfl rfl ?_
        exact z_iret dX8_cutNumber_147 rfl ⟨Nat.le_refl _, Nat.le_refl _⟩ ⟨l6, Cz22, rfl, rfl, h⟩
      · replace h := h.2 hcz21
        refine z_iconst (-1) 134 dX8_cutNumber_133 rfl rfl ?_
        exact z_iret dX8_cutNumber_134 rfl ⟨Nat.le_refl _, Nat.le_refl _⟩ ⟨(-1), C, rfl, rfl, h⟩
def p_X8_cutNumber (a2 : Int32) (a3 : Int32) (C : cS) (Q : Int32 → cS → Prop) : Prop :=
  vp_in a2 2000 ∧ ((¬ ((c_a C 0) a2.toNatClampNeg) = 45 → ∃ nz23 : Nat, w_X8_cutNumber_36 Q (fun lz12 lz13 lz14 lz15 lz16 Cz17 => ((lz13 = 0 → j_X8_cutNumber_104 Q lz12 lz14 lz15 lz16 Cz17) ∧ (¬ lz13 = 0 → j_X8_cutNumber_104 Q lz12 lz14 lz15 (-lz16) Cz17))) nz23 a2 a3 0 a2 a2 0 C) ∧ (((c_a C 0) a2.toNatClampNeg) = 45 → ∀ vz24 : Int32, vz24 = a2 + 1 → ∃ nz32 : Nat, w_X8_cutNumber_36 Q (fun lz25 lz26 lz27 lz28 lz29 Cz30 => ((lz26 = 0 → j_X8_cutNumber_104 Q lz25 lz27 lz28 lz29 Cz30) ∧ (¬ lz26 = 0 → j_X8_cutNumber_104 Q lz25 lz27 lz28 (-lz29) Cz30))) nz32 a2 a3 1 vz24 vz24 0 C))
set_option maxRecDepth 100000 in
set_option maxHeartbeats 4000000 in
theorem t_X8_cutNumber (tg : Bool) (M : mS) (o : Nat → Int64) (X : List va_E) (a2 : Int32) (a3 : Int32) (C : cS) (Q : Int32 → cS → Prop) (h : p_X8_cutNumber a2 a3 C Q) : z_M q_X8_cutNumber tg [.ref 203, .ref 201, .int a2, .int a3] (wz C M o X) (zc_i M o X Q) := by
  unfold p_X8_cutNumber at h
  refine z_enter (by decide) (Nat.le_of_ble_eq_true rfl) ?_
  refine z_aload_n 1 1 dX8_cutNumber_0 rfl rfl ?_
  refine z_iload_n 2 2 dX8_cutNumber_1 rfl rfl ?_
  obtain ⟨hbz1, h⟩ := h
  refine gca_0 ((c_a C 0) a2.toNatClampNeg) 3 dX8_cutNumber_2 hbz1 rfl rfl ?_
  refine z_bipush 45 5 dX8_cutNumber_3 rfl rfl ?_
  refine z_icmp_ne 12 8 dX8_cutNumber_5 rfl rfl (fun hcz2 => ?_) (fun hcz2 => ?_)
  · replace h := h.1 hcz2
    refine z_iconst 0 13 dX8_cutNumber_12 rfl rfl ?_
    refine z_istore [(4, .int 0), (0, .ref 203), (1, .ref 201), (2, .int a2), (3, .int a3)] 15 dX8_cutNumber_13 (Nat.le_of_ble_eq_true rfl) rfl rfl ?_
    refine z_iload 0 17 dX8_cutNumber_15 rfl rfl ?_
    refine z_if_eq 26 20 dX8_cutNumber_17 rfl rfl (fun _ => ?_) (fun hc => absurd hc (by decide))
    refine z_iload_n 3 27 dX8_cutNumber_26 rfl rfl ?_
    refine z_istore [(5, .int a2), (4, .int 0), (0, .ref 203), (1, .ref 201), (2, .int a2), (3, .int a3)] 29 dX8_cutNumber_27 (Nat.le_of_ble_eq_true rfl) rfl rfl ?_
    refine z_iload 0 31 dX8_cutNumber_29 rfl rfl ?_
    refine z_istore [(6, .int a2), (5, .int a2), (4, .int 0), (0, .ref 203), (1, .ref 201), (2, .int a2), (3, .int a3)] 33 dX8_cutNumber_31 (Nat.le_of_ble_eq_true rfl) rfl rfl ?_
    refine z_lconst 0 34 dX8_cutNumber_33 rfl rfl ?_
    refine z_lstore [(7, .long 0), (6, .int a2), (5, .int a2), (4, .int 0), (0, .ref 203), (1, .ref 201), (2, .int a2), (3, .int a3)] 36 dX8_cutNumber_34 (Nat.le_of_ble_eq_true rfl) rfl rfl ?_
    obtain ⟨nz23, h⟩ := h
    refine z_pick [(2, .int a2), (3, .int a3), (4, .int 0), (5, .int a2), (6, .int a2), (7, .long 0), (0, .ref 203), (1, .ref 201)] [6, 7, 3, 2, 1, 0, 4, 5] rfl ?_
    refine tw_X8_cutNumber_36 tg M o X Q _ (fun lz12 lz13 lz14 lz15 lz16 Cz17 h => ?_) nz23 a2 a3 0 a2 a2 0 C h
    · refine z_iload 1 93 dX8_cutNumber_91 rfl rfl ?_
      refine z_if_eq 102 96 dX8_cutNumber_93 rfl rfl (fun hcz18 => ?_) (fun hcz18 => ?_)
      · replace h := h.1 hcz18
        refine z_lload 4 104 dX8_cutNumber_102 rfl rfl ?_
        refine z_pick [(2, .int lz12), (5, .int lz14), (6, .int lz15), (0, .ref 203)] [0, 2, 3, 5] rfl ?_
        exact tj_X8_cutNumber_104 tg M o X Q lz12 lz14 lz15 lz16 Cz17 h
      · replace h := h.2 hcz18
        refine z_lload 4 98 dX8_cutNumber_96 rfl rfl ?_
        refine z_lneg 99 dX8_cutNumber_98 rfl ?_
        refine z_goto 104 dX8_cutNumber_99 rfl ?_
        refine z_pick [(2, .int lz12), (5, .int lz14), (6, .int lz15), (0, .ref 203)] [0, 2, 3, 5] rfl ?_
        exact tj_X8_cutNumber_104 tg M o X Q lz12 lz14 lz15 (-lz16) Cz17 h
  · replace h := h.2 hcz2
    refine z_iconst 1 9 dX8_cutNumber_8 rfl rfl ?_
    refine z_goto 13 dX8_cutNumber_9 rfl ?_
    refine z_istore [(4, .int 1), (0, .ref 203), (1, .ref 201), (2, .int a2), (3, .int a3)] 15 dX8_cutNumber_13 (Nat.le_of_ble_eq_true rfl) rfl rfl ?_
    refine z_iload 0 17 dX8_cutNumber_15 rfl rfl ?_
    refine z_if_eq 26 20 dX8_cutNumber_17 rfl rfl (fun hc => absurd hc (by decide)) (fun _ => ?_)
    refine z_iload_n 3 21 dX8_cutNumber_20 rfl rfl ?_
    refine z_iconst 1 22 dX8_cutNumber_21 rfl rfl ?_
    refine z_iadd 23 dX8_cutNumber_22 rfl ?_
    refine z_goto 27 dX8_cutNumber_23 rfl ?_
    refine z_topi (fun vz24 hvz24 => ?_)
    replace h := h vz24 hvz24
    refine z_istore [(5, .int vz24), (4, .int 1), (0, .ref 203), (1, .ref 201), (2, .int a2), (3, .int a3)] 29 dX8_cutNumber_27 (Nat.le_of_ble_eq_true rfl) rfl rfl ?_
    refine z_iload 0 31 dX8_cutNumber_29 rfl rfl ?_
    refine z_istore [(6, .int vz24), (5, .int vz24), (4, .int 1), (0, .ref 203), (1, .ref 201), (2, .int a2), (3, .int a3)] 33 dX8_cutNumber_31 (Nat.le_of_ble_eq_true rfl) rfl rfl ?_
    refine z_lconst 0 34 dX8_cutNumber_33 rfl rfl ?_
    refine z_lstore [(7, .long 0), (6, .int vz24), (5, .int vz24), (4, .int 1), (0, .ref 203), (1, .ref 201), (2, .int a2), (3, .int a3)] 36 dX8_cutNumber_34 (Nat.le_of_ble_eq_true rfl) rfl rfl ?_
    obtain ⟨nz32, h⟩ := h
    refine z_pick [(2, .int a2), (3, .int a3), (4, .int 1), (5, .int vz24), (6, .int vz24), (7, .long 0), (0, .ref 203), (1, .ref 201)] [6, 7, 3, 2, 1, 0, 4, 5] rfl ?_
    refine tw_X8_cutNumber_36 tg M o X Q _ (fun lz25 lz26 lz27 lz28 lz29 Cz30 h => ?_) nz32 a2 a3 1 vz24 vz24 0 C h
    · refine z_iload 1 93 dX8_cutNumber_91 rfl rfl ?_
      refine z_if_eq 102 96 dX8_cutNumber_93 rfl rfl (fun hcz31 => ?_) (fun hcz31 => ?_)
      · replace h := h.1 hcz31
        refine z_lload 4 104 dX8_cutNumber_102 rfl rfl ?_
        refine z_pick [(2, .int lz25), (5, .int lz27), (6, .int lz28), (0, .ref 203)] [0, 2, 3, 5] rfl ?_
        exact tj_X8_cutNumber_104 tg M o X Q lz25 lz27 lz28 lz29 Cz30 h
      · replace h := h.2 hcz31
        refine z_lload 4 98 dX8_cutNumber_96 rfl rfl ?_
        refine z_lneg 99 dX8_cutNumber_98 rfl ?_
        refine z_goto 104 dX8_cutNumber_99 rfl ?_
        refine z_pick [(2, .int lz25), (5, .int lz27), (6, .int lz28), (0, .ref 203)] [0, 2, 3, 5] rfl ?_
        exact tj_X8_cutNumber_104 tg M o X Q lz25 lz27 lz28 (-lz29) Cz30 h
def j_X8_cutOne_37 (Q : Int32 → cS → Prop) (l2 : Int32) (l4 : Int32) (C : cS) : Prop :=
  ((¬ l4 = 58 → p_X8_add 5 l2 0 0 C (fun Cz7 => Q (l2 + 1) Cz7)) ∧ (l4 = 58 → p_X8_add 4 l2 0 0 C (fun Cz8 => Q (l2 + 1) Cz8)))
set_option maxRecDepth 100000 in
set_option maxHeartbeats 4000000 in
theorem tj_X8_cutOne_37 (tg : Bool) (M : mS) (o : Nat → Int64) (X : List va_E) (Q : Int32 → cS → Prop) (l2 : Int32) (l4 : Int32) (C : cS) (h : j_X8_cutOne_37 Q l2 l4 C) : z_go q_X8_cutOne tg 37 [(2, .int l2), (4, .int l4), (0, .ref 203)] [] (wz C M o X) 0 0 (zc_i M o X Q) := by
  unfold j_X8_cutOne_37 at h
  refine z_aload_n 2 38 dX8_cutOne_37 rfl rfl ?_
  refine z_iload 1 40 dX8_cutOne_38 rfl rfl ?_
  refine z_bipush 58 42 dX8_cutOne_40 rfl rfl ?_
  refine z_icmp_ne 49 45 dX8_cutOne_42 rfl rfl (fun hcz6 => ?_) (fun hcz6 => ?_)
  · replace h := h.1 hcz6
    refine z_iconst 5 50 dX8_cutOne_49 rfl rfl ?_
    refine z_iload_n 0 51 dX8_cutOne_50 rfl rfl ?_
    refine z_iconst 0 52 dX8_cutOne_51 rfl rfl ?_
    refine z_lconst 0 53 dX8_cutOne_52 rfl rfl ?_
    refine z_cvV [.int 5, .int l2, .int 0, .long 0] 56 dX8_cutOne_53 ok_X8_cutOne_36 rfl rfl (Nat.le_of_ble_eq_true rfl) rc_3 ⟨rfl, rfl⟩ ⟨Nat.le_refl _, Nat.le_refl _⟩ rfl (t_X8_add tg M o X 5 l2 0 0 C _ h) (fun Cz7 h => ?_)
    refine z_iload_n 0 57 dX8_cutOne_56 rfl rfl ?_
    refine z_iconst 1 58 dX8_cutOne_57 rfl rfl ?_
    refine z_iadd 59 dX8_cutOne_58 rfl ?_
    exact z_iret dX8_cutOne_59 rfl ⟨Nat.le_refl _, Nat.le_refl _⟩ ⟨l2 + 1, Cz7, rfl, rfl, h⟩
  · replace h := h.2 hcz6
    refine z_iconst 4 46 dX8_cutOne_45 rfl rfl ?_
    refine z_goto 50 dX8_cutOne_46 rfl ?_
    refine z_iload_n 0 51 dX8_cutOne_50 rfl rfl ?_
    refine z_iconst 0 52 dX8_cutOne_51 rfl rfl ?_
    refine z_lconst 0 53 dX8_cutOne_52 rfl rfl ?_
    refine z_cvV [.int 4, .int l2, .int 0, .long 0] 56 dX8_cutOne_53 ok_X8_cutOne_36 rfl rfl (Nat.le_of_ble_eq_true rfl) rc_3 ⟨rfl, rfl⟩ ⟨Nat.le_refl _, Nat.le_refl _⟩ rfl (t_X8_add tg M o X 4 l2 0 0 C _ h) (fun Cz8 h => ?_)
    refine z_iload_n 0 57 dX8_cutOne_56 rfl rfl ?_
    refine z_iconst 1 58 dX8_cutOne_57 rfl rfl ?_
    refine z_iadd 59 dX8_cutOne_58 rfl ?_
    exact z_iret dX8_cutOne_59 rfl ⟨Nat.le_refl _, Nat.le_refl _⟩ ⟨l2 + 1, Cz8, rfl, rfl, h⟩
def p_X8_cutOne (a2 : Int32) (a3 : Int32) (C : cS) (Q : Int32 → cS → Prop) : Prop :=
  vp_in a2 2000 ∧ ∀ vz2 : Int32, vz2 = (c_a C 0) a2.toNatClampNeg → ((vz2 = 32 → Q (a2 + 1) C) ∧ (¬ vz2 = 32 → ((¬ vz2 = 10 → ((vz2 = 58 → j_X8_cutOne_37 Q a2 vz2 C) ∧ (¬ vz2 = 58 → ((¬ vz2 = 59 → p_X8_isLetter vz2 C (fun rz11 Cz10 => ((rz11 = 0 → ((vz2 = 45 → p_X8_cutNumber a2 a3 Cz10 (fun rz15 Cz14 => Q rz15 Cz14)) ∧ (¬ vz2 = 45 → p_X8_isDigit vz2 Cz10 (fun rz17 Cz16 => ((rz17 = 0 → Q (-1) Cz16) ∧ (¬ rz17 = 0 → p_X8_cutNumber a2 a3 Cz16 (fun rz20 Cz19 => Q rz20 Cz19))))))) ∧ (¬ rz11 = 0 → p_X8_cutName a2 a3 Cz10 (fun rz22 Cz21 => Q rz22 Cz21))))) ∧ (vz2 = 59 → j_X8_cutOne_37 Q a2 vz2 C))))) ∧ (vz2 = 10 → Q (a2 + 1) C))))
set_option maxRecDepth 100000 in
set_option maxHeartbeats 4000000 in
theorem t_X8_cutOne (tg : Bool) (M : mS) (o : Nat → Int64) (X : List va_E) (a2 : Int32) (a3 : Int32) (C : cS) (Q : Int32 → cS → Prop) (h : p_X8_cutOne a2 a3 C Q) : z_M q_X8_cutOne tg [.ref 203, .ref 201, .int a2, .int a3] (wz C M o X) (zc_i M o X Q) := by
  unfold p_X8_cutOne at h
  refine z_enter (by decide) (Nat.le_of_ble_eq_true rfl) ?_
  refine z_aload_n 1 1 dX8_cutOne_0 rfl rfl ?_
  refine z_iload_n 2 2 dX8_cutOne_1 rfl rfl ?_
  obtain ⟨hbz1, h⟩ := h
  refine gca_0 ((c_a C 0) a2.toNatClampNeg) 3 dX8_cutOne_2 hbz1 rfl rfl ?_
  refine z_topi (fun vz2 hvz2 => ?_)
  replace h := h vz2 hvz2
  refine z_istore [(4, .int vz2), (0, .ref 203), (1, .ref 201), (2, .int a2), (3, .int a3)] 5 dX8_cutOne_3 (Nat.le_of_ble_eq_true rfl) rfl rfl ?_
  refine z_iload 0 7 dX8_cutOne_5 rfl rfl ?_
  refine z_bipush 32 9 dX8_cutOne_7 rfl rfl ?_
  refine z_icmp_eq 19 12 dX8_cutOne_9 rfl rfl (fun hcz3 => ?_) (fun hcz3 => ?_)
  · replace h := h.1 hcz3
    refine z_iload_n 3 20 dX8_cutOne_19 rfl rfl ?_
    refine z_iconst 1 21 dX8_cutOne_20 rfl rfl ?_
    refine z_iadd 22 dX8_cutOne_21 rfl ?_
    exact z_iret dX8_cutOne_22 rfl ⟨Nat.le_refl _, Nat.le_refl _⟩ ⟨a2 + 1, C, rfl, rfl, h⟩
  · replace h := h.2 hcz3
    refine z_iload 0 14 dX8_cutOne_12 rfl rfl ?_
    refine z_bipush 10 16 dX8_cutOne_14 rfl rfl ?_
    refine z_icmp_ne 23 19 dX8_cutOne_16 rfl rfl (fun hcz4 => ?_) (fun hcz4 => ?_)
    · replace h := h.1 hcz4
      refine z_iload 0 25 dX8_cutOne_23 rfl rfl ?_
      refine z_bipush 58 27 dX8_cutOne_25 rfl rfl ?_
      refine z_icmp_eq 37 30 dX8_cutOne_27 rfl rfl (fun hcz5 => ?_) (fun hcz5 => ?_)
      · replace h := h.1 hcz5
        refine z_pick [(2, .int a2), (4, .int vz2), (0, .ref 203)] [3, 0, 1] rfl ?_
        exact tj_X8_cutOne_37 tg M o X Q a2 vz2 C h
      · replace h := h.2 hcz5
        refine z_iload 0 32 dX8_cutOne_30 rfl rfl ?_
        refine z_bipush 59 34 dX8_cutOne_32 rfl rfl ?_
        refine z_icmp_ne 60 37 dX8_cutOne_34 rfl rfl (fun hcz9 => ?_) (fun hcz9 => ?_)
        · replace h := h.1 hcz9
          refine z_iload 0 62 dX8_cutOne_60 rfl rfl ?_
          refine z_ciS [.int vz2] 65 dX8_cutOne_62 ok_X8_cutOne_40 rfl rfl (Nat.le_of_ble_eq_true rfl) ⟨rfl, rfl⟩ ⟨Nat.le_refl _, Nat.le_refl _⟩ rfl (t_X8_isLetter tg M o X vz2 C _ h) (fun rz11 Cz10 h => ?_)
          refine z_if_eq 76 68 dX8_cutOne_65 rfl rfl (fun hcz12 => ?_) (fun hcz12 => ?_)
          · replace h := h.1 hcz12
            refine z_iload 0 78 dX8_cutOne_76 rfl rfl ?_
            refine z_bipush 45 80 dX8_cutOne_78 rfl rfl ?_
            refine z_icmp_eq 91 83 dX8_cutOne_80 rfl rfl (fun hcz13 => ?_) (fun hcz13 => ?_)
            · replace h := h.1 hcz13
              refine z_aload_n 1 92 dX8_cutOne_91 rfl rfl ?_
              refine z_aload_n 2 93 dX8_cutOne_92 rfl rfl ?_
              refine z_iload_n 3 94 dX8_cutOne_93 rfl rfl ?_
              refine z_iload_n 4 95 dX8_cutOne_94 rfl rfl ?_
              refine z_ciV [.ref 201, .int a2, .int a3] 98 dX8_cutOne_95 ok_X8_cutOne_50 rfl rfl (Nat.le_of_ble_eq_true rfl) rc_3 ⟨rfl, rfl⟩ ⟨Nat.le_refl _, Nat.le_refl _⟩ rfl (t_X8_cutNumber tg M o X a2 a3 Cz10 _ h) (fun rz15 Cz14 h => ?_)
              refine z_goto 102 dX8_cutOne_98 rfl ?_
              exact z_iret dX8_cutOne_102 rfl ⟨Nat.le_refl _, Nat.le_refl _⟩ ⟨rz15, Cz14, rfl, rfl, h⟩
            · replace h := h.2 hcz13
              refine z_iload 0 85 dX8_cutOne_83 rfl rfl ?_
              refine z_ciS [.int vz2] 88 dX8_cutOne_85 ok_X8_cutOne_47 rfl rfl (Nat.le_of_ble_eq_true rfl) ⟨rfl, rfl⟩ ⟨Nat.le_refl _, Nat.le_refl _⟩ rfl (t_X8_isDigit tg M o X vz2 Cz10 _ h) (fun rz17 Cz16 h => ?_)
              refine z_if_eq 101 91 dX8_cutOne_88 rfl rfl (fun hcz18 => ?_) (fun hcz18 => ?_)
              · replace h := h.1 hcz18
                refine z_iconst (-1) 102 dX8_cutOne_101 rfl rfl ?_
                exact z_iret dX8_cutOne_102 rfl ⟨Nat.le_refl _, Nat.le_refl _⟩ ⟨(-1), Cz16, rfl, rfl, h⟩
              · replace h := h.2 hcz18
                refine z_aload_n 1 92 dX8_cutOne_91 rfl rfl ?_
                refine z_aload_n 2 93 dX8_cutOne_92 rfl rfl ?_
                refine z_iload_n 3 94 dX8_cutOne_93 rfl rfl ?_
                refine z_iload_n 4 95 dX8_cutOne_94 rfl rfl ?_
                refine z_ciV [.ref 201, .int a2, .int a3] 98 dX8_cutOne_95 ok_X8_cutOne_50 rfl rfl (Nat.le_of_ble_eq_true rfl) rc_3 ⟨rfl, rfl⟩ ⟨Nat.le_refl _, Nat.le_refl _⟩ rfl (t_X8_cutNumber tg M o X a2 a3 Cz16 _ h) (fun rz20 Cz19 h => ?_)
                refine z_goto 102 dX8_cutOne_98 rfl ?_
                exact z_iret dX8_cutOne_102 rfl ⟨Nat.le_refl _, Nat.le_refl _⟩ ⟨rz20, Cz19, rfl, rfl, h⟩
          · replace h := h.2 hcz12
            refine z_aload_n 1 69 dX8_cutOne_68 rfl rfl ?_
            refine z_aload_n 2 70 dX8_cutOne_69 rfl rfl ?_
            refine z_iload_n 3 71 dX8_cutOne_70 rfl rfl ?_
            refine z_iload_n 4 72 dX8_cutOne_71 rfl rfl ?_
            refine z_ciV [.ref 201, .int a2, .int a3] 75 dX8_cutOne_72 ok_X8_cutOne_44 rfl rfl (Nat.le_of_ble_eq_true rfl) rc_3 ⟨rfl, rfl⟩ ⟨Nat.le_refl _, Nat.le_refl _⟩ rfl (t_X8_cutName tg M o X a2 a3 Cz10 _ h) (fun rz22 Cz21 h => ?_)
            exact z_iret dX8_cutOne_75 rfl ⟨Nat.le_refl _, Nat.le_refl _⟩ ⟨rz22, Cz21, rfl, rfl, h⟩
        · replace h := h.2 hcz9
          refine z_pick [(2, .int a2), (4, .int vz2), (0, .ref 203)] [3, 0, 1] rfl ?_
          exact tj_X8_cutOne_37 tg M o X Q a2 vz2 C h
    · replace h := h.2 hcz4
      refine z_iload_n 3 20 dX8_cutOne_19 rfl rfl ?_
      refine z_iconst 1 21 dX8_cutOne_20 rfl rfl ?_
      refine z_iadd 22 dX8_cutOne_21 rfl ?_
      exact z_iret dX8_cutOne_22 rfl ⟨Nat.le_refl _, Nat.le_refl _⟩ ⟨a2 + 1, C, rfl, rfl, h⟩
def b_X8_cut_12 (R9 : Int32 → Int32 → cS → Prop) (Q : Int32 → cS → Prop) (K32 : Int32 → cS → Prop) (K40 : cS → Prop) (l2 : Int32) (l3 : Int32) (C : cS) : Prop :=
  ((l2 ≤ l3 → K40 C) ∧ (¬ l2 ≤ l3 → p_X8_cutOne l3 l2 C (fun rz3 Cz2 => ((l3 < rz3 → R9 l2 rz3 Cz2) ∧ (¬ l3 < rz3 → K32 l3 Cz2)))))
def w_X8_cut_12 (Q : Int32 → cS → Prop) (K32 : Int32 → cS → Prop) (K40 : cS → Prop) : Nat → Int32 → Int32 → cS → Prop
 | 0 => fun _ _ _ => False
 | n + 1 => fun l2 l3 C => b_X8_cut_12 (w_X8_cut_12 Q K32 K40 n) Q K32 K40 l2 l3 C
set_option maxRecDepth 100000 in
set_option maxHeartbeats 4000000 in
theorem tb_X8_cut_12 (tg : Bool) (M : mS) (o : Nat → Int64) (X : List va_E) (R9 : Int32 → Int32 → cS → Prop) (Q : Int32 → cS → Prop) (K32 : Int32 → cS → Prop) (K40 : cS → Prop) (hR9 : ∀ (l2 : Int32) (l3 : Int32) (C : cS), R9 l2 l3 C → z_go q_X8_cut tg 12 [(2, .int l2), (3, .int l3), (0, .ref 203), (1, .ref 201)] [] (wz C M o X) 0 0 (zc_i M o X Q)) (hK32 : ∀ (l3 : Int32) (C : cS), K32 l3 C → z_go q_X8_cut tg 32 [(3, .int l3)] [] (wz C M o X) 0 0 (zc_i M o X Q)) (hK40 : ∀ (C : cS), K40 C → z_go q_X8_cut tg 40 [] [] (wz C M o X) 0 0 (zc_i M o X Q)) (l2 : Int32) (l3 : Int32) (C : cS) (h : b_X8_cut_12 R9 Q K32 K40 l2 l3 C) : z_go q_X8_cut tg 12 [(2, .int l2), (3, .int l3), (0, .ref 203), (1, .ref 201)] [] (wz C M o X) 0 0 (zc_i M o X Q) := by
  unfold b_X8_cut_12 at h
  refine z_iload_n 1 13 dX8_cut_12 rfl rfl ?_
  refine z_iload_n 0 14 dX8_cut_13 rfl rfl ?_
  refine z_icmp_ge 40 17 dX8_cut_14 rfl rfl (fun hcz1 => ?_) (fun hcz1 => ?_)
  · replace h := h.1 hcz1
    refine z_pick [] [] rfl ?_
    exact hK40  C h
  · replace h := h.2 hcz1
    refine z_aload_n 2 18 dX8_cut_17 rfl rfl ?_
    refine z_aload_n 3 19 dX8_cut_18 rfl rfl ?_
    refine z_iload_n 1 20 dX8_cut_19 rfl rfl ?_
    refine z_iload_n 0 21 dX8_cut_20 rfl rfl ?_
    refine z_ciV [.ref 201, .int l3, .int l2] 24 dX8_cut_21 ok_X8_cut_32 rfl rfl (Nat.le_of_ble_eq_true rfl) rc_3 ⟨rfl, rfl⟩ ⟨Nat.le_refl _, Nat.le_refl _⟩ rfl (t_X8_cutOne tg M o X l3 l2 C _ h) (fun rz3 Cz2 h => ?_)
    refine z_istore [(4, .int rz3), (2, .int l2), (3, .int l3), (0, .ref 203), (1, .ref 201)] 26 dX8_cut_24 (Nat.le_of_ble_eq_true rfl) rfl rfl ?_
    refine z_iload 0 28 dX8_cut_26 rfl rfl ?_
    refine z_iload_n 2 29 dX8_cut_28 rfl rfl ?_
    refine z_icmp_gt 34 32 dX8_cut_29 rfl rfl (fun hcz4 => ?_) (fun hcz4 => ?_)
    · replace h := h.1 hcz4
      refine z_iload 0 36 dX8_cut_34 rfl rfl ?_
      refine z_istore_n [(3, .int rz3), (4, .int rz3), (2, .int l2), (0, .ref 203), (1, .ref 201)] 37 dX8_cut_36 (Nat.le_of_ble_eq_true rfl) rfl rfl ?_
      refine z_goto 12 dX8_cut_37 rfl ?_
      refine z_pick [(2, .int l2), (3, .int rz3), (0, .ref 203), (1, .ref 201)] [2, 0, 3, 4] rfl ?_
      exact hR9 l2 rz3 Cz2 h
    · replace h := h.2 hcz4
      refine z_pick [(3, .int l3)] [2] rfl ?_
      exact hK32 l3 Cz2 h
theorem tw_X8_cut_12 (tg : Bool) (M : mS) (o : Nat → Int64) (X : List va_E) (Q : Int32 → cS → Prop) (K32 : Int32 → cS → Prop) (K40 : cS → Prop) (hK32 : ∀ (l3 : Int32) (C : cS), K32 l3 C → z_go q_X8_cut tg 32 [(3, .int l3)] [] (wz C M o X) 0 0 (zc_i M o X Q)) (hK40 : ∀ (C : cS), K40 C → z_go q_X8_cut tg 40 [] [] (wz C M o X) 0 0 (zc_i M o X Q)) : ∀ (n : Nat) (l2 : Int32) (l3 : Int32) (C : cS), w_X8_cut_12 Q K32 K40 n l2 l3 C → z_go q_X8_cut tg 12 [(2, .int l2), (3, .int l3), (0, .ref 203), (1, .ref 201)] [] (wz C M o X) 0 0 (zc_i M o X Q) := by
  intro n
  induction n with
  | zero => intro l2 l3 C h; exact h.elim
  | succ n ih => intro l2 l3 C h; exact tb_X8_cut_12 tg M o X _ Q K32 K40 ih hK32 hK40 l2 l3 C h
def p_X8_cut (a2 : Int32) (C : cS) (Q : Int32 → cS → Prop) : Prop :=
  ∃ nz8 : Nat, w_X8_cut_12 Q (fun lz5 Cz6 => Q lz5 Cz6) (fun Cz7 => Q (-1) Cz7) nz8 a2 0 (c_iS (c_iS C 5 0) 6 a2)
set_option maxRecDepth 100000 in
set_option maxHeartbeats 4000000 in
theorem t_X8_cut (tg : Bool) (M : mS) (o : Nat → Int64) (X : List va_E) (a2 : Int32) (C : cS) (Q : Int32 → cS → Prop) (h : p_X8_cut a2 C Q) : z_M q_X8_cut tg [.ref 203, .ref 201, .int a2] (wz C M o X) (zc_i M o X Q) := by
  unfold p_X8_cut at h
  refine z_enter (by decide) (Nat.le_of_ble_eq_true rfl) ?_
  refine z_aload_n 0 1 dX8_cut_0 rfl rfl ?_
  refine z_iconst 0 2 dX8_cut_1 rfl rfl ?_
  refine pci_5 5 dX8_cut_2 op_X8_25 rfl ?_
  refine z_aload_n 0 6 dX8_cut_5 rfl rfl ?_
  refine z_iload_n 2 7 dX8_cut_6 rfl rfl ?_
  refine pci_6 10 dX8_cut_7 op_X8_29 rfl ?_
  refine z_iconst 0 11 dX8_cut_10 rfl rfl ?_
  refine z_istore_n [(3, .int 0), (0, .ref 203), (1, .ref 201), (2, .int a2)] 12 dX8_cut_11 (Nat.le_of_ble_eq_true rfl) rfl rfl ?_
  obtain ⟨nz8, h⟩ := h
  refine z_pick [(2, .int a2), (3, .int 0), (0, .ref 203), (1, .ref 201)] [3, 0, 1, 2] rfl ?_
  refine tw_X8_cut_12 tg M o X Q _ _ (fun lz5 Cz6 h => ?_) (fun Cz7 h => ?_) nz8 a2 0 (c_iS (c_iS C 5 0) 6 a2) h
  · refine z_iload_n 0 33 dX8_cut_32 rfl rfl ?_
    exact z_iret dX8_cut_33 rfl ⟨Nat.le_refl _, Nat.le_refl _⟩ ⟨lz5, Cz6, rfl, rfl, h⟩
  · refine z_iconst (-1) 41 dX8_cut_40 rfl rfl ?_
    exact z_iret dX8_cut_41 rfl ⟨Nat.le_refl _, Nat.le_refl _⟩ ⟨(-1), Cz7, rfl, rfl, h⟩
def p_X8_kindAt (a1 : Int32) (C : cS) (Q : Int32 → cS → Prop) : Prop :=
  ((a1 < 0 → Q 6 C) ∧ (¬ a1 < 0 → (((c_i C 5) ≤ a1 → Q 6 C) ∧ (¬ (c_i C 5) ≤ a1 → vp_in a1 2000 ∧ Q ((c_a C 1) a1.toNatClampNeg) C))))
set_option maxRecDepth 100000 in
set_option maxHeartbeats 4000000 in
theorem t_X8_kindAt (tg : Bool) (M : mS) (o : Nat → Int64) (X : List va_E) (a1 : Int32) (C : cS) (Q : Int32 → cS → Prop) (h : p_X8_kindAt a1 C Q) : z_M q_X8_kindAt tg [.ref 203, .int a1] (wz C M o X) (zc_i M o X Q) := by
  unfold p_X8_kindAt at h
  refine z_enter (by decide) (Nat.le_of_ble_eq_true rfl) ?_
  refine z_iload_n 1 1 dX8_kindAt_0 rfl rfl ?_
  refine z_if_lt 21 4 dX8_kindAt_1 rfl rfl (fun hcz1 => ?_) (fun hcz1 => ?_)
  · replace h := h.1 hcz1
    refine z_bipush 6 23 dX8_kindAt_21 rfl rfl ?_
    exact z_iret dX8_kindAt_23 rfl ⟨Nat.le_refl _, Nat.le_refl _⟩ ⟨6, C, rfl, rfl, h⟩
  · replace h := h.2 hcz1
    refine z_iload_n 1 5 dX8_kindAt_4 rfl rfl ?_
    refine z_aload_n 0 6 dX8_kindAt_5 rfl rfl ?_
    refine gci_5 (c_i C 5) 9 dX8_kindAt_6 of_X8_25 rfl rfl ?_
    refine z_icmp_ge 21 12 dX8_kindAt_9 rfl rfl (fun hcz2 => ?_) (fun hcz2 => ?_)
    · replace h := h.1 hcz2
      refine z_bipush 6 23 dX8_kindAt_21 rfl rfl ?_
      exact z_iret dX8_kindAt_23 rfl ⟨Nat.le_refl _, Nat.le_refl _⟩ ⟨6, C, rfl, rfl, h⟩
    · replace h := h.2 hcz2
      refine z_aload_n 0 13 dX8_kindAt_12 rfl rfl ?_
      refine gr_3_0 16 dX8_kindAt_13 of_X8_9 rfl ?_
      refine z_iload_n 1 17 dX8_kindAt_16 rfl rfl ?_
      obtain ⟨hbz3, h⟩ := h
      refine gca_1 ((c_a C 1) a1.toNatClampNeg) 18 dX8_kindAt_17 hbz3 rfl rfl ?_
      refine z_goto 23 dX8_kindAt_18 rfl ?_
      exact z_iret dX8_kindAt_23 rfl ⟨Nat.le_refl _, Nat.le_refl _⟩ ⟨(c_a C 1) a1.toNatClampNeg, C, rfl, rfl, h⟩
def p_X8_placeAt (a1 : Int32) (C : cS) (Q : Int32 → cS → Prop) : Prop :=
  ((a1 < 0 → Q (c_i C 6) C) ∧ (¬ a1 < 0 → (((c_i C 5) ≤ a1 → Q (c_i C 6) C) ∧ (¬ (c_i C 5) ≤ a1 → vp_in a1 2000 ∧ Q ((c_a C 2) a1.toNatClampNeg) C))))
set_option maxRecDepth 100000 in
set_option maxHeartbeats 4000000 in
theorem t_X8_placeAt (tg : Bool) (M : mS) (o : Nat → Int64) (X : List va_E) (a1 : Int32) (C : cS) (Q : Int32 → cS → Prop) (h : p_X8_placeAt a1 C Q) : z_M q_X8_placeAt tg [.ref 203, .int a1] (wz C M o X) (zc_i M o X Q) := by
  unfold p_X8_placeAt at h
  refine z_enter (by decide) (Nat.le_of_ble_eq_true rfl) ?_
  refine z_iload_n 1 1 dX8_placeAt_0 rfl rfl ?_
  refine z_if_lt 21 4 dX8_placeAt_1 rfl rfl (fun hcz1 => ?_) (fun hcz1 => ?_)
  · replace h := h.1 hcz1
    refine z_aload_n 0 22 dX8_placeAt_21 rfl rfl ?_
    refine gci_6 (c_i C 6) 25 dX8_placeAt_22 of_X8_29 rfl rfl ?_
    exact z_iret dX8_placeAt_25 rfl ⟨Nat.le_refl _, Nat.le_refl _⟩ ⟨c_i C 6, C, rfl, rfl, h⟩
  · replace h := h.2 hcz1
    refine z_iload_n 1 5 dX8_placeAt_4 rfl rfl ?_
    refine z_aload_n 0 6 dX8_placeAt_5 rfl rfl ?_
    refine gci_5 (c_i C 5) 9 dX8_placeAt_6 of_X8_25 rfl rfl ?_
    refine z_icmp_ge 21 12 dX8_placeAt_9 rfl rfl (fun hcz2 => ?_) (fun hcz2 => ?_)
    · replace h := h.1 hcz2
      refine z_aload_n 0 22 dX8_placeAt_21 rfl rfl ?_
      refine gci_6 (c_i C 6) 25 dX8_placeAt_22 of_X8_29 rfl rfl ?_
      exact z_iret dX8_placeAt_25 rfl ⟨Nat.le_refl _, Nat.le_refl _⟩ ⟨c_i C 6, C, rfl, rfl, h⟩
    · replace h := h.2 hcz2
      refine z_aload_n 0 13 dX8_placeAt_12 rfl rfl ?_
      refine gr_3_1 16 dX8_placeAt_13 of_X8_15 rfl ?_
      refine z_iload_n 1 17 dX8_placeAt_16 rfl rfl ?_
      obtain ⟨hbz3, h⟩ := h
      refine gca_2 ((c_a C 2) a1.toNatClampNeg) 18 dX8_placeAt_17 hbz3 rfl rfl ?_
      refine z_goto 25 dX8_placeAt_18 rfl ?_
      exact z_iret dX8_placeAt_25 rfl ⟨Nat.le_refl _, Nat.le_refl _⟩ ⟨(c_a C 2) a1.toNatClampNeg, C, rfl, rfl, h⟩
def p_X8_nameAt (a1 : Int32) (C : cS) (Q : Int64 → cS → Prop) : Prop :=
  ((a1 < 0 → Q 0 C) ∧ (¬ a1 < 0 → (((c_i C 5) ≤ a1 → Q 0 C) ∧ (¬ (c_i C 5) ≤ a1 → vp_in a1 2000 ∧ Q ((c_l C 0) a1.toNatClampNeg) C))))
set_option maxRecDepth 100000 in
set_option maxHeartbeats 4000000 in
theorem t_X8_nameAt (tg : Bool) (M : mS) (o : Nat → Int64) (X : List va_E) (a1 : Int32) (C : cS) (Q : Int64 → cS → Prop) (h : p_X8_nameAt a1 C Q) : z_M q_X8_nameAt tg [.ref 203, .int a1] (wz C M o X) (zc_l M o X Q) := by
  unfold p_X8_nameAt at h
  refine z_enter (by decide) (Nat.le_of_ble_eq_true rfl) ?_
  refine z_iload_n 1 1 dX8_nameAt_0 rfl rfl ?_
  refine z_if_lt 21 4 dX8_nameAt_1 rfl rfl (fun hcz1 => ?_) (fun hcz1 => ?_)
  · replace h := h.1 hcz1
    refine z_lconst 0 22 dX8_nameAt_21 rfl rfl ?_
    exact z_lret dX8_nameAt_22 rfl ⟨Nat.le_refl _, Nat.le_refl _⟩ ⟨0, C, rfl, rfl, h⟩
  · replace h := h.2 hcz1
    refine z_iload_n 1 5 dX8_nameAt_4 rfl rfl ?_
    refine z_aload_n 0 6 dX8_nameAt_5 rfl rfl ?_
    refine gci_5 (c_i C 5) 9 dX8_nameAt_6 of_X8_25 rfl rfl ?_
    refine z_icmp_ge 21 12 dX8_nameAt_9 rfl rfl (fun hcz2 => ?_) (fun hcz2 => ?_)
    · replace h := h.1 hcz2
      refine z_lconst 0 22 dX8_nameAt_21 rfl rfl ?_
      exact z_lret dX8_nameAt_22 rfl ⟨Nat.le_refl _, Nat.le_refl _⟩ ⟨0, C, rfl, rfl, h⟩
    · replace h := h.2 hcz2
      refine z_aload_n 0 13 dX8_nameAt_12 rfl rfl ?_
      refine gr_3_3 16 dX8_nameAt_13 of_X8_21 rfl ?_
      refine z_iload_n 1 17 dX8_nameAt_16 rfl rfl ?_
      obtain ⟨hbz3, h⟩ := h
      refine gcl_0 ((c_l C 0) a1.toNatClampNeg) 18 dX8_nameAt_17 hbz3 rfl rfl ?_
      refine z_goto 22 dX8_nameAt_18 rfl ?_
      exact z_lret dX8_nameAt_22 rfl ⟨Nat.le_refl _, Nat.le_refl _⟩ ⟨(c_l C 0) a1.toNatClampNeg, C, rfl, rfl, h⟩
def b_X4_actLabelled_2 (b0 : Bool) (R9 : Int64 → Int32 → cS → Prop) (Q : Int32 → cS → Prop) (K21 : Int32 → cS → Prop) (K29 : cS → Prop) (l1 : Int64) (l3 : Int32) (C : cS) : Prop :=
  (((c_pn C b0) ≤ l3 → K29 C) ∧ (¬ (c_pn C b0) ≤ l3 → vp_in l3 150 ∧ ((¬ (lg_cmp ((c_pl C b0) l3.toNatClampNeg) l1) = 0 → ∀ vz4 : Int32, vz4 = l3 + 1 → R9 l1 vz4 C) ∧ ((lg_cmp ((c_pl C b0) l3.toNatClampNeg) l1) = 0 → K21 l3 C))))
def w_X4_actLabelled_2 (b0 : Bool) (Q : Int32 → cS → Prop) (K21 : Int32 → cS → Prop) (K29 : cS → Prop) : Nat → Int64 → Int32 → cS → Prop
 | 0 => fun _ _ _ => False
 | n + 1 => fun l1 l3 C => b_X4_actLabelled_2 b0 (w_X4_actLabelled_2 b0 Q K21 K29 n) Q K21 K29 l1 l3 C
set_option maxRecDepth 100000 in
set_option maxHeartbeats 4000000 in
theorem tb_X4_actLabelled_2 (tg : Bool) (M : mS) (o : Nat → Int64) (X : List va_E) (b0 : Bool) (R9 : Int64 → Int32 → cS → Prop) (Q : Int32 → cS → Prop) (K21 : Int32 → cS → Prop) (K29 : cS → Prop) (hR9 : ∀ (l1 : Int64) (l3 : Int32) (C : cS), R9 l1 l3 C → z_go q_X4_actLabelled tg 2 [(1, .long l1), (3, .int l3), (0, .ref (200 + pO b0))] [] (wz C M o X) 0 0 (zc_i M o X Q)) (hK21 : ∀ (l3 : Int32) (C : cS), K21 l3 C → z_go q_X4_actLabelled tg 21 [(3, .int l3)] [] (wz C M o X) 0 0 (zc_i M o X Q)) (hK29 : ∀ (C : cS), K29 C → z_go q_X4_actLabelled tg 29 [] [] (wz C M o X) 0 0 (zc_i M o X Q)) (l1 : Int64) (l3 : Int32) (C : cS) (h : b_X4_actLabelled_2 b0 R9 Q K21 K29 l1 l3 C) : z_go q_X4_actLabelled tg 2 [(1, .long l1), (3, .int l3), (0, .ref (200 + pO b0))] [] (wz C M o X) 0 0 (zc_i M o X Q) := by
  unfold b_X4_actLabelled_2 at h
  refine z_iload_n 1 3 dX4_actLabelled_2 rfl rfl ?_
  refine z_aload_n 2 4 dX4_actLabelled_3 rfl rfl ?_
  refine gpc (c_pn C b0) 7 dX4_actLabelled_4 of_X4_25 rfl rfl ?_
  refine z_icmp_ge 29 10 dX4_actLabelled_7 rfl rfl (fun hcz1 => ?_) (fun hcz1 => ?_)
  · replace h := h.1 hcz1
    refine z_pick [] [] rfl ?_
    exact hK29  C h
  · replace h := h.2 hcz1
    refine z_aload_n 2 11 dX4_actLabelled_10 rfl rfl ?_
    refine gr_p3 14 dX4_actLabelled_11 of_X4_21 rfl ?_
    refine z_iload_n 1 15 dX4_actLabelled_14 rfl rfl ?_
    obtain ⟨hbz2, h⟩ := h
    refine gp3 ((c_pl C b0) l3.toNatClampNeg) 16 dX4_actLabelled_15 hbz2 rfl rfl ?_
    refine z_lload_n 0 17 dX4_actLabelled_16 rfl rfl ?_
    refine z_lcmp 18 dX4_actLabelled_17 rfl ?_
    refine z_if_ne 23 21 dX4_actLabelled_18 rfl rfl (fun hcz3 => ?_) (fun hcz3 => ?_)
    · replace h := h.1 hcz3
      obtain ⟨vz4, hvz4⟩ : ∃ v : Int32, v = l3 + 1 := ⟨_, rfl⟩
      replace h := h vz4 hvz4
      refine z_iinc vz4 [(3, .int vz4), (1, .long l1), (0, .ref (200 + pO b0))] 1 26 dX4_actLabelled_23 rfl hvz4.symm (Nat.le_of_ble_eq_true rfl) rfl rfl ?_
      refine z_goto 2 dX4_actLabelled_26 rfl ?_
      refine z_pick [(1, .long l1), (3, .int vz4), (0, .ref (200 + pO b0))] [1, 0, 2] rfl ?_
      exact hR9 l1 vz4 C h
    · replace h := h.2 hcz3
      refine z_pick [(3, .int l3)] [1] rfl ?_
      exact hK21 l3 C h
theorem tw_X4_actLabelled_2 (tg : Bool) (M : mS) (o : Nat → Int64) (X : List va_E) (b0 : Bool) (Q : Int32 → cS → Prop) (K21 : Int32 → cS → Prop) (K29 : cS → Prop) (hK21 : ∀ (l3 : Int32) (C : cS), K21 l3 C → z_go q_X4_actLabelled tg 21 [(3, .int l3)] [] (wz C M o X) 0 0 (zc_i M o X Q)) (hK29 : ∀ (C : cS), K29 C → z_go q_X4_actLabelled tg 29 [] [] (wz C M o X) 0 0 (zc_i M o X Q)) : ∀ (n : Nat) (l1 : Int64) (l3 : Int32) (C : cS), w_X4_actLabelled_2 b0 Q K21 K29 n l1 l3 C → z_go q_X4_actLabelled tg 2 [(1, .long l1), (3, .int l3), (0, .ref (200 + pO b0))] [] (wz C M o X) 0 0 (zc_i M o X Q) := by
  intro n
  induction n with
  | zero => intro l1 l3 C h; exact h.elim
  | succ n ih => intro l1 l3 C h; exact tb_X4_actLabelled_2 tg M o X b0 _ Q K21 K29 ih hK21 hK29 l1 l3 C h
def p_X4_actLabelled (b0 : Bool) (a1 : Int64) (C : cS) (Q : Int32 → cS → Prop) : Prop :=
  ∃ nz8 : Nat, w_X4_actLabelled_2 b0 Q (fun lz5 Cz6 => Q lz5 Cz6) (fun Cz7 => Q (-1) Cz7) nz8 a1 0 C
set_option maxRecDepth 100000 in
set_option maxHeartbeats 4000000 in
theorem t_X4_actLabelled (tg : Bool) (M : mS) (o : Nat → Int64) (X : List va_E) (b0 : Bool) (a1 : Int64) (C : cS) (Q : Int32 → cS → Prop) (h : p_X4_actLabelled b0 a1 C Q) : z_M q_X4_actLabelled tg [.ref (200 + pO b0), .long a1] (wz C M o X) (zc_i M o X Q) := by
  unfold p_X4_actLabelled at h
  refine z_enter (by decide) (Nat.le_of_ble_eq_true rfl) ?_
  refine z_iconst 0 1 dX4_actLabelled_0 rfl rfl ?_
  refine z_istore_n [(3, .int 0), (0, .ref (200 + pO b0)), (1, .long a1)] 2 dX4_actLabelled_1 (Nat.le_of_ble_eq_true rfl) rfl rfl ?_
  obtain ⟨nz8, h⟩ := h
  refine z_pick [(1, .long a1), (3, .int 0), (0, .ref (200 + pO b0))] [2, 0, 1] rfl ?_
  refine tw_X4_actLabelled_2 tg M o X b0 Q _ _ (fun lz5 Cz6 h => ?_) (fun Cz7 h => ?_) nz8 a1 0 C h
  · refine z_iload_n 0 22 dX4_actLabelled_21 rfl rfl ?_
    exact z_iret dX4_actLabelled_22 rfl ⟨Nat.le_refl _, Nat.le_refl _⟩ ⟨lz5, Cz6, rfl, rfl, h⟩
  · refine z_iconst (-1) 30 dX4_actLabelled_29 rfl rfl ?_
    exact z_iret dX4_actLabelled_30 rfl ⟨Nat.le_refl _, Nat.le_refl _⟩ ⟨(-1), Cz7, rfl, rfl, h⟩
def p_X8_valueAt (a1 : Int32) (C : cS) (Q : Int32 → cS → Prop) : Prop :=
  ((a1 < 0 → Q 0 C) ∧ (¬ a1 < 0 → (((c_i C 5) ≤ a1 → Q 0 C) ∧ (¬ (c_i C 5) ≤ a1 → vp_in a1 2000 ∧ Q ((c_a C 3) a1.toNatClampNeg) C))))
set_option maxRecDepth 100000 in
set_option maxHeartbeats 4000000 in
theorem t_X8_valueAt (tg : Bool) (M : mS) (o : Nat → Int64) (X : List va_E) (a1 : Int32) (C : cS) (Q : Int32 → cS → Prop) (h : p_X8_valueAt a1 C Q) : z_M q_X8_valueAt tg [.ref 203, .int a1] (wz C M o X) (zc_i M o X Q) := by
  unfold p_X8_valueAt at h
  refine z_enter (by decide) (Nat.le_of_ble_eq_true rfl) ?_
  refine z_iload_n 1 1 dX8_valueAt_0 rfl rfl ?_
  refine z_if_lt 21 4 dX8_valueAt_1 rfl rfl (fun hcz1 => ?_) (fun hcz1 => ?_)
  · replace h := h.1 hcz1
    refine z_iconst 0 22 dX8_valueAt_21 rfl rfl ?_
    exact z_iret dX8_valueAt_22 rfl ⟨Nat.le_refl _, Nat.le_refl _⟩ ⟨0, C, rfl, rfl, h⟩
  · replace h := h.2 hcz1
    refine z_iload_n 1 5 dX8_valueAt_4 rfl rfl ?_
    refine z_aload_n 0 6 dX8_valueAt_5 rfl rfl ?_
    refine gci_5 (c_i C 5) 9 dX8_valueAt_6 of_X8_25 rfl rfl ?_
    refine z_icmp_ge 21 12 dX8_valueAt_9 rfl rfl (fun hcz2 => ?_) (fun hcz2 => ?_)
    · replace h := h.1 hcz2
      refine z_iconst 0 22 dX8_valueAt_21 rfl rfl ?_
      exact z_iret dX8_valueAt_22 rfl ⟨Nat.le_refl _, Nat.le_refl _⟩ ⟨0, C, rfl, rfl, h⟩
    · replace h := h.2 hcz2
      refine z_aload_n 0 13 dX8_valueAt_12 rfl rfl ?_
      refine gr_3_2 16 dX8_valueAt_13 of_X8_18 rfl ?_
      refine z_iload_n 1 17 dX8_valueAt_16 rfl rfl ?_
      obtain ⟨hbz3, h⟩ := h
      refine gca_3 ((c_a C 3) a1.toNatClampNeg) 18 dX8_valueAt_17 hbz3 rfl rfl ?_
      refine z_goto 22 dX8_valueAt_18 rfl ?_
      exact z_iret dX8_valueAt_22 rfl ⟨Nat.le_refl _, Nat.le_refl _⟩ ⟨(c_a C 3) a1.toNatClampNeg, C, rfl, rfl, h⟩
end ZG
