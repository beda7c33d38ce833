section ZG
def p_X11_many (a0 : Int32) (M : mS) (Q : Int32 → mS → Prop) : Prop :=
  ((¬ a0 = 0 → ((10 ≤ a0 → ((100 ≤ a0 → Q 3 M) ∧ (¬ 100 ≤ a0 → Q 2 M))) ∧ (¬ 10 ≤ a0 → Q 1 M))) ∧ (a0 = 0 → Q 0 M))
set_option maxRecDepth 100000 in
set_option maxHeartbeats 4000000 in
theorem t_X11_many (tg : Bool) (C : cS) (o : Nat → Int64) (X : List va_E) (a0 : Int32) (M : mS) (Q : Int32 → mS → Prop) (h : p_X11_many a0 M Q) : z_M q_X11_many tg [.int a0] (wz C M o X) (zm_i C o X Q) := by
  unfold p_X11_many at h
  refine z_enter (by decide) (Nat.le_of_ble_eq_true rfl) ?_
  refine z_iload_n 0 1 dX11_many_0 rfl rfl ?_
  refine z_if_ne 8 4 dX11_many_1 rfl rfl (fun hcz1 => ?_) (fun hcz1 => ?_)
  · replace h := h.1 hcz1
    refine z_iload_n 0 9 dX11_many_8 rfl rfl ?_
    refine z_bipush 10 11 dX11_many_9 rfl rfl ?_
    refine z_icmp_ge 18 14 dX11_many_11 rfl rfl (fun hcz2 => ?_) (fun hcz2 => ?_)
    · replace h := h.1 hcz2
      refine z_iload_n 0 19 dX11_many_18 rfl rfl ?_
      refine z_bipush 100 21 dX11_many_19 rfl rfl ?_
      refine z_icmp_ge 28 24 dX11_many_21 rfl rfl (fun hcz3 => ?_) (fun hcz3 => ?_)
      · replace h := h.1 hcz3
        refine z_iconst 3 29 dX11_many_28 rfl rfl ?_
        exact z_iret dX11_many_29 rfl ⟨Nat.le_refl _, Nat.le_refl _⟩ ⟨3, M, rfl, rfl, h⟩
      · replace h := h.2 hcz3
        refine z_iconst 2 25 dX11_many_24 rfl rfl ?_
        refine z_goto 29 dX11_many_25 rfl ?_
        exact z_iret dX11_many_29 rfl ⟨Nat.le_refl _, Nat.le_refl _⟩ ⟨2, M, rfl, rfl, h⟩
    · replace h := h.2 hcz2
      refine z_iconst 1 15 dX11_many_14 rfl rfl ?_
      refine z_goto 29 dX11_many_15 rfl ?_
      exact z_iret dX11_many_29 rfl ⟨Nat.le_refl _, Nat.le_refl _⟩ ⟨1, M, rfl, rfl, h⟩
  · replace h := h.2 hcz1
    refine z_iconst 0 5 dX11_many_4 rfl rfl ?_
    refine z_goto 29 dX11_many_5 rfl ?_
    exact z_iret dX11_many_29 rfl ⟨Nat.le_refl _, Nat.le_refl _⟩ ⟨0, M, rfl, rfl, h⟩
def b_X11_kindOf_11 (R9 : Int32 → Int32 → mS → Prop) (Q : Int32 → mS → Prop) (K26 : Int32 → mS → Prop) (l2 : Int32) (l3 : Int32) (M : mS) : Prop :=
  ((l2 ≤ 0 → K26 l3 M) ∧ (¬ l2 ≤ 0 → ∀ vz5 : Int32, vz5 = l3 / 10 → ∀ vz6 : Int32, vz6 = l2 + (-1) → R9 vz6 vz5 M))
def w_X11_kindOf_11 (Q : Int32 → mS → Prop) (K26 : Int32 → mS → Prop) : Nat → Int32 → Int32 → mS → Prop
 | 0 => fun _ _ _ => False
 | n + 1 => fun l2 l3 M => b_X11_kindOf_11 (w_X11_kindOf_11 Q K26 n) Q K26 l2 l3 M
set_option maxRecDepth 100000 in
set_option maxHeartbeats 4000000 in
theorem tb_X11_kindOf_11 (tg : Bool) (C : cS) (o : Nat → Int64) (X : List va_E) (R9 : Int32 → Int32 → mS → Prop) (Q : Int32 → mS → Prop) (K26 : Int32 → mS → Prop) (hR9 : ∀ (l2 : Int32) (l3 : Int32) (M : mS), R9 l2 l3 M → z_go q_X11_kindOf tg 11 [(2, .int l2), (3, .int l3)] [] (wz C M o X) 0 0 (zm_i C o X Q)) (hK26 : ∀ (l3 : Int32) (M : mS), K26 l3 M → z_go q_X11_kindOf tg 26 [(3, .int l3)] [] (wz C M o X) 0 0 (zm_i C o X Q)) (l2 : Int32) (l3 : Int32) (M : mS) (h : b_X11_kindOf_11 R9 Q K26 l2 l3 M) : z_go q_X11_kindOf tg 11 [(2, .int l2), (3, .int l3)] [] (wz C M o X) 0 0 (zm_i C o X Q) := by
  unfold b_X11_kindOf_11 at h
  refine z_iload_n 0 12 dX11_kindOf_11 rfl rfl ?_
  refine z_if_le 26 15 dX11_kindOf_12 rfl rfl (fun hcz4 => ?_) (fun hcz4 => ?_)
  · replace h := h.1 hcz4
    refine z_pick [(3, .int l3)] [1] rfl ?_
    exact hK26 l3 M h
  · replace h := h.2 hcz4
    refine z_iload_n 1 16 dX11_kindOf_15 rfl rfl ?_
    refine z_bipush 10 18 dX11_kindOf_16 rfl rfl ?_
    refine z_idiv (by decide) 19 dX11_kindOf_18 rfl ?_
    refine z_topi (fun vz5 hvz5 => ?_)
    replace h := h vz5 hvz5
    refine z_istore_n [(3, .int vz5), (2, .int l2)] 20 dX11_kindOf_19 (Nat.le_of_ble_eq_true rfl) rfl rfl ?_
    obtain ⟨vz6, hvz6⟩ : ∃ v : Int32, v = l2 + (-1) := ⟨_, rfl⟩
    replace h := h vz6 hvz6
    refine z_iinc vz6 [(2, .int vz6), (3, .int vz5)] 1 23 dX11_kindOf_20 rfl hvz6.symm (Nat.le_of_ble_eq_true rfl) rfl rfl ?_
    refine z_goto 11 dX11_kindOf_23 rfl ?_
    refine z_pick [(2, .int vz6), (3, .int vz5)] [0, 1] rfl ?_
    exact hR9 vz6 vz5 M h
theorem tw_X11_kindOf_11 (tg : Bool) (C : cS) (o : Nat → Int64) (X : List va_E) (Q : Int32 → mS → Prop) (K26 : Int32 → mS → Prop) (hK26 : ∀ (l3 : Int32) (M : mS), K26 l3 M → z_go q_X11_kindOf tg 26 [(3, .int l3)] [] (wz C M o X) 0 0 (zm_i C o X Q)) : ∀ (n : Nat) (l2 : Int32) (l3 : Int32) (M : mS), w_X11_kindOf_11 Q K26 n l2 l3 M → z_go q_X11_kindOf tg 11 [(2, .int l2), (3, .int l3)] [] (wz C M o X) 0 0 (zm_i C o X Q) := by
  intro n
  induction n with
  | zero => intro l2 l3 M h; exact h.elim
  | succ n ih => intro l2 l3 M h; exact tb_X11_kindOf_11 tg C o X _ Q K26 ih hK26 l2 l3 M h
def p_X11_kindOf (a0 : Int32) (a1 : Int32) (M : mS) (Q : Int32 → mS → Prop) : Prop :=
  p_X11_many a0 M (fun rz2 Mz1 => ∀ vz3 : Int32, vz3 = (rz2 - 1) - a1 → ∃ nz9 : Nat, w_X11_kindOf_11 Q (fun lz7 Mz8 => Q (lz7 - lz7 / 10 * 10) Mz8) nz9 vz3 a0 Mz1)
set_option maxRecDepth 100000 in
set_option maxHeartbeats 4000000 in
theorem t_X11_kindOf (tg : Bool) (C : cS) (o : Nat → Int64) (X : List va_E) (a0 : Int32) (a1 : Int32) (M : mS) (Q : Int32 → mS → Prop) (h : p_X11_kindOf a0 a1 M Q) : z_M q_X11_kindOf tg [.int a0, .int a1] (wz C M o X) (zm_i C o X Q) := by
  unfold p_X11_kindOf at h
  refine z_enter (by decide) (Nat.le_of_ble_eq_true rfl) ?_
  refine z_iload_n 0 1 dX11_kindOf_0 rfl rfl ?_
  refine z_miS [.int a0] 4 dX11_kindOf_1 ok_X11_kindOf_230 rfl rfl (Nat.le_of_ble_eq_true rfl) ⟨rfl, rfl⟩ ⟨Nat.le_refl _, Nat.le_refl _⟩ rfl (t_X11_many tg C o X a0 M _ h) (fun rz2 Mz1 h => ?_)
  refine z_iconst 1 5 dX11_kindOf_4 rfl rfl ?_
  refine z_isub 6 dX11_kindOf_5 rfl ?_
  refine z_iload_n 1 7 dX11_kindOf_6 rfl rfl ?_
  refine z_isub 8 dX11_kindOf_7 rfl ?_
  refine z_topi (fun vz3 hvz3 => ?_)
  replace h := h vz3 hvz3
  refine z_istore_n [(2, .int vz3), (0, .int a0), (1, .int a1)] 9 dX11_kindOf_8 (Nat.le_of_ble_eq_true rfl) rfl rfl ?_
  refine z_iload_n 1 10 dX11_kindOf_9 rfl rfl ?_
  refine z_istore_n [(3, .int a0), (2, .int vz3), (0, .int a0), (1, .int a1)] 11 dX11_kindOf_10 (Nat.le_of_ble_eq_true rfl) rfl rfl ?_
  obtain ⟨nz9, h⟩ := h
  refine z_pick [(2, .int vz3), (3, .int a0)] [1, 0] rfl ?_
  refine tw_X11_kindOf_11 tg C o X Q _ (fun lz7 Mz8 h => ?_) nz9 vz3 a0 Mz1 h
  · refine z_iload_n 0 27 dX11_kindOf_26 rfl rfl ?_
    refine z_bipush 10 29 dX11_kindOf_27 rfl rfl ?_
    refine z_irem (by decide) 30 dX11_kindOf_29 rfl ?_
    exact z_iret dX11_kindOf_30 rfl ⟨Nat.le_refl _, Nat.le_refl _⟩ ⟨lz7 - lz7 / 10 * 10, Mz8, rfl, rfl, h⟩
def j_X11_act_54 (Q : Int32 → mS → Prop) (R9 : Int32 → Int32 → Int32 → Int32 → Int32 → mS → Prop) (K82 : mS → Prop) (K90 : Int32 → Int32 → Int32 → Int32 → mS → Prop) (l1 : Int32) (l2 : Int32) (l3 : Int32) (l4 : Int32) (l5 : Int32) (s0 : Int32) (M : mS) : Prop :=
  vp_in l1 26 ∧ p_X11_kindOf (z_tks.getD l1.toNatClampNeg 0) l5 M (fun rz11 Mz10 => ((¬ rz11 = 1 → ∀ vz13 : Int32, vz13 = l5 + 1 → R9 l1 l2 l3 l4 vz13 Mz10) ∧ (rz11 = 1 → ((s0 < 0 → K82 Mz10) ∧ (¬ s0 < 0 → ((s0 ≤ 7 → ∀ vz16 : Int32, vz16 = l5 + 1 → R9 l1 l2 l3 l4 vz16 Mz10) ∧ (¬ s0 ≤ 7 → K82 Mz10)))))))
set_option maxRecDepth 100000 in
set_option maxHeartbeats 4000000 in
theorem tj_X11_act_54 (tg : Bool) (C : cS) (o : Nat → Int64) (X : List va_E) (Q : Int32 → mS → Prop) (R9 : Int32 → Int32 → Int32 → Int32 → Int32 → mS → Prop) (K82 : mS → Prop) (K90 : Int32 → Int32 → Int32 → Int32 → mS → Prop) (hR9 : ∀ (l1 : Int32) (l2 : Int32) (l3 : Int32) (l4 : Int32) (l5 : Int32) (M : mS), R9 l1 l2 l3 l4 l5 M → z_go q_X11_act tg 20 [(1, .int l1), (2, .int l2), (3, .int l3), (4, .int l4), (5, .int l5), (0, .ref 233)] [] (wz C M o X) 0 0 (zm_i C o X Q)) (hK82 : ∀ (M : mS), K82 M → z_go q_X11_act tg 82 [] [] (wz C M o X) 0 0 (zm_i C o X Q)) (hK90 : ∀ (l1 : Int32) (l2 : Int32) (l3 : Int32) (l4 : Int32) (M : mS), K90 l1 l2 l3 l4 M → z_go q_X11_act tg 90 [(1, .int l1), (2, .int l2), (3, .int l3), (4, .int l4), (0, .ref 233)] [] (wz C M o X) 0 0 (zm_i C o X Q)) (l1 : Int32) (l2 : Int32) (l3 : Int32) (l4 : Int32) (l5 : Int32) (s0 : Int32) (M : mS) (h : j_X11_act_54 Q R9 K82 K90 l1 l2 l3 l4 l5 s0 M) : z_go q_X11_act tg 54 [(1, .int l1), (2, .int l2), (3, .int l3), (4, .int l4), (5, .int l5), (0, .ref 233)] [.int s0] (wz C M o X) 0 0 (zm_i C o X Q) := by
  unfold j_X11_act_54 at h
  refine z_istore [(6, .int s0), (1, .int l1), (2, .int l2), (3, .int l3), (4, .int l4), (5, .int l5), (0, .ref 233)] 56 dX11_act_54 (Nat.le_of_ble_eq_true rfl) rfl rfl ?_
  refine z_gets (.ref 29) 59 dX11_act_56 (List.mem_of_getElem? (i := 2) rfl) ol_X11_232 rfl ?_
  refine z_iload_n 1 60 dX11_act_59 rfl rfl ?_
  obtain ⟨hbz9, h⟩ := h
  refine z_tiald 0 61 dX11_act_60 (List.mem_of_getElem? (i := 2) rfl) (Nat.lt_succ_self 0) rfl hbz9 rfl ?_
  refine z_iload 5 63 dX11_act_61 rfl rfl ?_
  refine z_miS [.int (z_tks.getD l1.toNatClampNeg 0), .int l5] 66 dX11_act_63 ok_X11_act_235 rfl rfl (Nat.le_of_ble_eq_true rfl) ⟨rfl, rfl⟩ ⟨Nat.le_refl _, Nat.le_refl _⟩ rfl (t_X11_kindOf tg C o X (z_tks.getD l1.toNatClampNeg 0) l5 M _ h) (fun rz11 Mz10 h => ?_)
  refine z_iconst 1 67 dX11_act_66 rfl rfl ?_
  refine z_icmp_ne 84 70 dX11_act_67 rfl rfl (fun hcz12 => ?_) (fun hcz12 => ?_)
  · replace h := h.1 hcz12
    obtain ⟨vz13, hvz13⟩ : ∃ v : Int32, v = l5 + 1 := ⟨_, rfl⟩
    replace h := h vz13 hvz13
    refine z_iinc vz13 [(5, .int vz13), (6, .int s0), (1, .int l1), (2, .int l2), (3, .int l3), (4, .int l4), (0, .ref 233)] 5 87 dX11_act_84 rfl hvz13.symm (Nat.le_of_ble_eq_true rfl) rfl rfl ?_
    refine z_goto 20 dX11_act_87 rfl ?_
    refine z_pick [(1, .int l1), (2, .int l2), (3, .int l3), (4, .int l4), (5, .int vz13), (0, .ref 233)] [2, 3, 4, 5, 0, 6] rfl ?_
    exact hR9 l1 l2 l3 l4 vz13 Mz10 h
  · replace h := h.2 hcz12
    refine z_iload 0 72 dX11_act_70 rfl rfl ?_
    refine z_if_lt 82 75 dX11_act_72 rfl rfl (fun hcz14 => ?_) (fun hcz14 => ?_)
    · replace h := h.1 hcz14
      refine z_pick [] [] rfl ?_
      exact hK82  Mz10 h
    · replace h := h.2 hcz14
      refine z_iload 0 77 dX11_act_75 rfl rfl ?_
      refine z_bipush 7 79 dX11_act_77 rfl rfl ?_
      refine z_icmp_le 84 82 dX11_act_79 rfl rfl (fun hcz15 => ?_) (fun hcz15 => ?_)
      · replace h := h.1 hcz15
        obtain ⟨vz16, hvz16⟩ : ∃ v : Int32, v = l5 + 1 := ⟨_, rfl⟩
        replace h := h vz16 hvz16
        refine z_iinc vz16 [(5, .int vz16), (6, .int s0), (1, .int l1), (2, .int l2), (3, .int l3), (4, .int l4), (0, .ref 233)] 5 87 dX11_act_84 rfl hvz16.symm (Nat.le_of_ble_eq_true rfl) rfl rfl ?_
        refine z_goto 20 dX11_act_87 rfl ?_
        refine z_pick [(1, .int l1), (2, .int l2), (3, .int l3), (4, .int l4), (5, .int vz16), (0, .ref 233)] [2, 3, 4, 5, 0, 6] rfl ?_
        exact hR9 l1 l2 l3 l4 vz16 Mz10 h
      · replace h := h.2 hcz15
        refine z_pick [] [] rfl ?_
        exact hK82  Mz10 h
def b_X11_act_20 (R9 : Int32 → Int32 → Int32 → Int32 → Int32 → mS → Prop) (Q : Int32 → mS → Prop) (K82 : mS → Prop) (K90 : Int32 → Int32 → Int32 → Int32 → mS → Prop) (l1 : Int32) (l2 : Int32) (l3 : Int32) (l4 : Int32) (l5 : Int32) (M : mS) : Prop :=
  vp_in l1 26 ∧ p_X11_many (z_tks.getD l1.toNatClampNeg 0) M (fun rz5 Mz4 => ((rz5 ≤ l5 → K90 l1 l2 l3 l4 Mz4) ∧ (¬ rz5 ≤ l5 → ((¬ l5 = 0 → ((¬ l5 = 1 → j_X11_act_54 Q R9 K82 K90 l1 l2 l3 l4 l5 l4 Mz4) ∧ (l5 = 1 → j_X11_act_54 Q R9 K82 K90 l1 l2 l3 l4 l5 l3 Mz4))) ∧ (l5 = 0 → j_X11_act_54 Q R9 K82 K90 l1 l2 l3 l4 l5 l2 Mz4)))))
def w_X11_act_20 (Q : Int32 → mS → Prop) (K82 : mS → Prop) (K90 : Int32 → Int32 → Int32 → Int32 → mS → Prop) : Nat → Int32 → Int32 → Int32 → Int32 → Int32 → mS → Prop
 | 0 => fun _ _ _ _ _ _ => False
 | n + 1 => fun l1 l2 l3 l4 l5 M => b_X11_act_20 (w_X11_act_20 Q K82 K90 n) Q K82 K90 l1 l2 l3 l4 l5 M
set_option maxRecDepth 100000 in
set_option maxHeartbeats 4000000 in
theorem tb_X11_act_20 (tg : Bool) (C : cS) (o : Nat → Int64) (X : List va_E) (R9 : Int32 → Int32 → Int32 → Int32 → Int32 → mS → Prop) (Q : Int32 → mS → Prop) (K82 : mS → Prop) (K90 : Int32 → Int32 → Int32 → Int32 → mS → Prop) (hR9 : ∀ (l1 : Int32) (l2 : Int32) (l3 : Int32) (l4 : Int32) (l5 : Int32) (M : mS), R9 l1 l2 l3 l4 l5 M → z_go q_X11_act tg 20 [(1, .int l1), (2, .int l2), (3, .int l3), (4, .int l4), (5, .int l5), (0, .ref 233)] [] (wz C M o X) 0 0 (zm_i C o X Q)) (hK82 : ∀ (M : mS), K82 M → z_go q_X11_act tg 82 [] [] (wz C M o X) 0 0 (zm_i C o X Q)) (hK90 : ∀ (l1 : Int32) (l2 : Int32) (l3 : Int32) (l4 : Int32) (M : mS), K90 l1 l2 l3 l4 M → z_go q_X11_act tg 90 [(1, .int l1), (2, .int l2), (3, .int l3), (4, .int l4), (0, .ref 233)] [] (wz C M o X) 0 0 (zm_i C o X Q)) (l1 : Int32) (l2 : Int32) (l3 : Int32) (l4 : Int32) (l5 : Int32) (M : mS) (h : b_X11_act_20 R9 Q K82 K90 l1 l2 l3 l4 l5 M) : z_go q_X11_act tg 20 [(1, .int l1), (2, .int l2), (3, .int l3), (4, .int l4), (5, .int l5), (0, .ref 233)] [] (wz C M o X) 0 0 (zm_i C o X Q) := by
  unfold b_X11_act_20 at h
  refine z_iload 4 22 dX11_act_20 rfl rfl ?_
  refine z_gets (.ref 29) 25 dX11_act_22 (List.mem_of_getElem? (i := 2) rfl) ol_X11_232 rfl ?_
  refine z_iload_n 0 26 dX11_act_25 rfl rfl ?_
  obtain ⟨hbz3, h⟩ := h
  refine z_tiald 0 27 dX11_act_26 (List.mem_of_getElem? (i := 2) rfl) (Nat.lt_succ_self 0) rfl hbz3 rfl ?_
  refine z_miS [.int (z_tks.getD l1.toNatClampNeg 0)] 30 dX11_act_27 ok_X11_act_230 rfl rfl (Nat.le_of_ble_eq_true rfl) ⟨rfl, rfl⟩ ⟨Nat.le_refl _, Nat.le_refl _⟩ rfl (t_X11_many tg C o X (z_tks.getD l1.toNatClampNeg 0) M _ h) (fun rz5 Mz4 h => ?_)
  refine z_icmp_ge 90 33 dX11_act_30 rfl rfl (fun hcz6 => ?_) (fun hcz6 => ?_)
  · replace h := h.1 hcz6
    refine z_pick [(1, .int l1), (2, .int l2), (3, .int l3), (4, .int l4), (0, .ref 233)] [0, 1, 2, 3, 5] rfl ?_
    exact hK90 l1 l2 l3 l4 Mz4 h
  · replace h := h.2 hcz6
    refine z_iload 4 35 dX11_act_33 rfl rfl ?_
    refine z_if_ne 42 38 dX11_act_35 rfl rfl (fun hcz7 => ?_) (fun hcz7 => ?_)
    · replace h := h.1 hcz7
      refine z_iload 4 44 dX11_act_42 rfl rfl ?_
      refine z_iconst 1 45 dX11_act_44 rfl rfl ?_
      refine z_icmp_ne 52 48 dX11_act_45 rfl rfl (fun hcz8 => ?_) (fun hcz8 => ?_)
      · replace h := h.1 hcz8
        refine z_iload 3 54 dX11_act_52 rfl rfl ?_
        refine z_pick [(1, .int l1), (2, .int l2), (3, .int l3), (4, .int l4), (5, .int l5), (0, .ref 233)] [0, 1, 2, 3, 4, 5] rfl ?_
        exact tj_X11_act_54 tg C o X Q R9 K82 K90 hR9 hK82 hK90 l1 l2 l3 l4 l5 l4 Mz4 h
      · replace h := h.2 hcz8
        refine z_iload_n 2 49 dX11_act_48 rfl rfl ?_
        refine z_goto 54 dX11_act_49 rfl ?_
        refine z_pick [(1, .int l1), (2, .int l2), (3, .int l3), (4, .int l4), (5, .int l5), (0, .ref 233)] [0, 1, 2, 3, 4, 5] rfl ?_
        exact tj_X11_act_54 tg C o X Q R9 K82 K90 hR9 hK82 hK90 l1 l2 l3 l4 l5 l3 Mz4 h
    · replace h := h.2 hcz7
      refine z_iload_n 1 39 dX11_act_38 rfl rfl ?_
      refine z_goto 54 dX11_act_39 rfl ?_
      refine z_pick [(1, .int l1), (2, .int l2), (3, .int l3), (4, .int l4), (5, .int l5), (0, .ref 233)] [0, 1, 2, 3, 4, 5] rfl ?_
      exact tj_X11_act_54 tg C o X Q R9 K82 K90 hR9 hK82 hK90 l1 l2 l3 l4 l5 l2 Mz4 h
theorem tw_X11_act_20 (tg : Bool) (C : cS) (o : Nat → Int64) (X : List va_E) (Q : Int32 → mS → Prop) (K82 : mS → Prop) (K90 : Int32 → Int32 → Int32 → Int32 → mS → Prop) (hK82 : ∀ (M : mS), K82 M → z_go q_X11_act tg 82 [] [] (wz C M o X) 0 0 (zm_i C o X Q)) (hK90 : ∀ (l1 : Int32) (l2 : Int32) (l3 : Int32) (l4 : Int32) (M : mS), K90 l1 l2 l3 l4 M → z_go q_X11_act tg 90 [(1, .int l1), (2, .int l2), (3, .int l3), (4, .int l4), (0, .ref 233)] [] (wz C M o X) 0 0 (zm_i C o X Q)) : ∀ (n : Nat) (l1 : Int32) (l2 : Int32) (l3 : Int32) (l4 : Int32) (l5 : Int32) (M : mS), w_X11_act_20 Q K82 K90 n l1 l2 l3 l4 l5 M → z_go q_X11_act tg 20 [(1, .int l1), (2, .int l2), (3, .int l3), (4, .int l4), (5, .int l5), (0, .ref 233)] [] (wz C M o X) 0 0 (zm_i C o X Q) := by
  intro n
  induction n with
  | zero => intro l1 l2 l3 l4 l5 M h; exact h.elim
  | succ n ih => intro l1 l2 l3 l4 l5 M h; exact tb_X11_act_20 tg C o X _ Q K82 K90 ih hK82 hK90 l1 l2 l3 l4 l5 M h
def p_X11_act (a1 : Int32) (a2 : Int32) (a3 : Int32) (a4 : Int32) (M : mS) (Q : Int32 → mS → Prop) : Prop :=
  ((a1 < 0 → Q (-1) (m_iS M 2 0)) ∧ (¬ a1 < 0 → ((a1 ≤ 19 → ∃ nz25 : Nat, w_X11_act_20 Q (fun Mz17 => Q (-1) Mz17) (fun lz18 lz19 lz20 lz21 Mz22 => p_X11_does lz18 lz19 lz20 lz21 Mz22 (fun rz24 Mz23 => Q rz24 Mz23)) nz25 a1 a2 a3 a4 0 (m_iS M 2 0)) ∧ (¬ a1 ≤ 19 → Q (-1) (m_iS M 2 0)))))
set_option maxRecDepth 100000 in
set_option maxHeartbeats 4000000 in
theorem t_X11_act (tg : Bool) (C : cS) (o : Nat → Int64) (X : List va_E) (a1 : Int32) (a2 : Int32) (a3 : Int32) (a4 : Int32) (M : mS) (Q : Int32 → mS → Prop) (h : p_X11_act a1 a2 a3 a4 M Q) : z_M q_X11_act tg [.ref 233, .int a1, .int a2, .int a3, .int a4] (wz C M o X) (zm_i C o X Q) := by
  unfold p_X11_act at h
  refine z_enter (by decide) (Nat.le_of_ble_eq_true rfl) ?_
  refine z_aload_n 0 1 dX11_act_0 rfl rfl ?_
  refine z_iconst 0 2 dX11_act_1 rfl rfl ?_
  refine pmi_2 5 dX11_act_2 op_X11_131 rfl ?_
  refine z_iload_n 1 6 dX11_act_5 rfl rfl ?_
  refine z_if_lt 15 9 dX11_act_6 rfl rfl (fun hcz1 => ?_) (fun hcz1 => ?_)
  · replace h := h.1 hcz1
    refine z_iconst (-1) 16 dX11_act_15 rfl rfl ?_
    exact z_iret dX11_act_16 rfl ⟨Nat.le_refl _, Nat.le_refl _⟩ ⟨(-1), (m_iS M 2 0), rfl, rfl, h⟩
  · replace h := h.2 hcz1
    refine z_iload_n 1 10 dX11_act_9 rfl rfl ?_
    refine z_bipush 19 12 dX11_act_10 rfl rfl ?_
    refine z_icmp_le 17 15 dX11_act_12 rfl rfl (fun hcz2 => ?_) (fun hcz2 => ?_)
    · replace h := h.1 hcz2
      refine z_iconst 0 18 dX11_act_17 rfl rfl ?_
      refine z_istore [(5, .int 0), (0, .ref 233), (1, .int a1), (2, .int a2), (3, .int a3), (4, .int a4)] 20 dX11_act_18 (Nat.le_of_ble_eq_true rfl) rfl rfl ?_
      obtain ⟨nz25, h⟩ := h
      refine z_pick [(1, .int a1), (2, .int a2), (3, .int a3), (4, .int a4), (5, .int 0), (0, .ref 233)] [2, 3, 4, 5, 0, 1] rfl ?_
      refine tw_X11_act_20 tg C o X Q _ _ (fun Mz17 h => ?_) (fun lz18 lz19 lz20 lz21 Mz22 h => ?_) nz25 a1 a2 a3 a4 0 (m_iS M 2 0) h
      · refine z_iconst (-1) 83 dX11_act_82 rfl rfl ?_
        exact z_iret dX11_act_83 rfl ⟨Nat.le_refl _, Nat.le_refl _⟩ ⟨(-1), Mz17, rfl, rfl, h⟩
      · refine z_aload_n 4 91 dX11_act_90 rfl rfl ?_
        refine z_iload_n 0 92 dX11_act_91 rfl rfl ?_
        refine z_iload_n 1 93 dX11_act_92 rfl rfl ?_
        refine z_iload_n 2 94 dX11_act_93 rfl rfl ?_
        refine z_iload 3 96 dX11_act_94 rfl rfl ?_
        refine z_miV [.int lz18, .int lz19, .int lz20, .int lz21] 99 dX11_act_96 ok_X11_act_238 rfl rfl (Nat.le_of_ble_eq_true rfl) rc_33 ⟨rfl, rfl⟩ ⟨Nat.le_refl _, Nat.le_refl _⟩ rfl (t_X11_does tg C o X lz18 lz19 lz20 lz21 Mz22 _ h) (fun rz24 Mz23 h => ?_)
        exact z_iret dX11_act_99 rfl ⟨Nat.le_refl _, Nat.le_refl _⟩ ⟨rz24, Mz23, rfl, rfl, h⟩
    · replace h := h.2 hcz2
      refine z_iconst (-1) 16 dX11_act_15 rfl rfl ?_
      exact z_iret dX11_act_16 rfl ⟨Nat.le_refl _, Nat.le_refl _⟩ ⟨(-1), (m_iS M 2 0), rfl, rfl, h⟩
def b_X11_tellWords_7 (R9 : Int32 → Int32 → mS → Prop) (Q : mS → Prop) (K69 : mS → Prop) (l2 : Int32) (l3 : Int32) (M : mS) : Prop :=
  39 < 40 ∧ (((nI (z_tlen 39)) ≤ l3 → K69 M) ∧ (¬ (nI (z_tlen 39)) ≤ l3 → vp_in l3 (z_tlen 39) ∧ ((¬ (z_tchr 39 l3.toNatClampNeg) = 32 → vp_in l2 26 ∧ ∀ vz9 : Int32, vz9 = l3 + 1 → R9 l2 vz9 (m_aU (m_lU M 0 l2 ((((m_l M 0) l2.toNatClampNeg) <<< (((8 : Int32).toInt64) &&& 63)) ||| ((z_tchr 39 l3.toNatClampNeg : Int32).toInt64))) 10 l2 (((m_a M 10) l2.toNatClampNeg) + 1))) ∧ ((z_tchr 39 l3.toNatClampNeg) = 32 → ∀ vz10 : Int32, vz10 = l2 + 1 → ∀ vz11 : Int32, vz11 = l3 + 1 → R9 vz10 vz11 M))))
def w_X11_tellWords_7 (Q : mS → Prop) (K69 : mS → Prop) : Nat → Int32 → Int32 → mS → Prop
 | 0 => fun _ _ _ => False
 | n + 1 => fun l2 l3 M => b_X11_tellWords_7 (w_X11_tellWords_7 Q K69 n) Q K69 l2 l3 M
set_option maxRecDepth 100000 in
set_option maxHeartbeats 4000000 in
theorem tb_X11_tellWords_7 (tg : Bool) (C : cS) (o : Nat → Int64) (X : List va_E) (R9 : Int32 → Int32 → mS → Prop) (Q : mS → Prop) (K69 : mS → Prop) (hR9 : ∀ (l2 : Int32) (l3 : Int32) (M : mS), R9 l2 l3 M → z_go q_X11_tellWords tg 7 [(2, .int l2), (3, .int l3), (0, .ref 233), (1, .ref (30 + 39))] [] (wz C M o X) 0 0 (zm_v C o X Q)) (hK69 : ∀ (M : mS), K69 M → z_go q_X11_tellWords tg 69 [] [] (wz C M o X) 0 0 (zm_v C o X Q)) (l2 : Int32) (l3 : Int32) (M : mS) (h : b_X11_tellWords_7 R9 Q K69 l2 l3 M) : z_go q_X11_tellWords tg 7 [(2, .int l2), (3, .int l3), (0, .ref 233), (1, .ref (30 + 39))] [] (wz C M o X) 0 0 (zm_v C o X Q) := by
  unfold b_X11_tellWords_7 at h
  refine z_iload_n 1 8 dX11_tellWords_7 rfl rfl ?_
  refine z_aload_n 3 9 dX11_tellWords_8 rfl rfl ?_
  obtain ⟨hqz1, h⟩ := h
  refine z_kiV [] 12 dX11_tellWords_9 ok_X11_tellWords_243 rfl rfl (Nat.le_of_ble_eq_true rfl) (z_recvX 39 (List.mem_of_getElem? (i := 1) rfl) hqz1 rfl) ⟨rfl, rfl⟩ ⟨Nat.le_refl _, Nat.le_refl _⟩ rfl (t_len tg 39 _ hqz1) (fun rz2 hrz2 => ?_)
  subst hrz2
  refine z_icmp_ge 69 15 dX11_tellWords_12 rfl rfl (fun hcz3 => ?_) (fun hcz3 => ?_)
  · replace h := h.1 hcz3
    refine z_pick [] [] rfl ?_
    exact hK69  M h
  · replace h := h.2 hcz3
    refine z_aload_n 3 16 dX11_tellWords_15 rfl rfl ?_
    refine z_iload_n 1 17 dX11_tellWords_16 rfl rfl ?_
    obtain ⟨hbz4, h⟩ := h
    refine z_kiV [.int l3] 20 dX11_tellWords_17 ok_X11_tellWords_249 rfl rfl (Nat.le_of_ble_eq_true rfl) (z_recvX 39 (List.mem_of_getElem? (i := 1) rfl) hqz1 rfl) ⟨rfl, rfl⟩ ⟨Nat.le_refl _, Nat.le_refl _⟩ rfl (t_chr tg 39 l3 _ hqz1 hbz4) (fun rz5 hrz5 => ?_)
    subst hrz5
    refine z_bipush 32 22 dX11_tellWords_20 rfl rfl ?_
    refine z_icmp_ne 31 25 dX11_tellWords_22 rfl rfl (fun hcz6 => ?_) (fun hcz6 => ?_)
    · replace h := h.1 hcz6
      refine z_aload_n 2 32 dX11_tellWords_31 rfl rfl ?_
      refine gr_33_30 35 dX11_tellWords_32 of_X11_42 rfl ?_
      refine z_iload_n 0 36 dX11_tellWords_35 rfl rfl ?_
      refine z_aload_n 2 37 dX11_tellWords_36 rfl rfl ?_
      refine gr_33_30 40 dX11_tellWords_37 of_X11_42 rfl ?_
      refine z_iload_n 0 41 dX11_tellWords_40 rfl rfl ?_
      obtain ⟨hbz7, h⟩ := h
      refine gml_0 ((m_l M 0) l2.toNatClampNeg) 42 dX11_tellWords_41 hbz7 rfl rfl ?_
      refine z_bipush 8 44 dX11_tellWords_42 rfl rfl ?_
      refine z_lshl 45 dX11_tellWords_44 rfl ?_
      refine z_aload_n 3 46 dX11_tellWords_45 rfl rfl ?_
      refine z_iload_n 1 47 dX11_tellWords_46 rfl rfl ?_
      refine z_kiV [.int l3] 50 dX11_tellWords_47 ok_X11_tellWords_249 rfl rfl (Nat.le_of_ble_eq_true rfl) (z_recvX 39 (List.mem_of_getElem? (i := 1) rfl) hqz1 rfl) ⟨rfl, rfl⟩ ⟨Nat.le_refl _, Nat.le_refl _⟩ rfl (t_chr tg 39 l3 _ hqz1 hbz4) (fun rz8 hrz8 => ?_)
      subst hrz8
      refine z_i2l 51 dX11_tellWords_50 rfl ?_
      refine z_lor 52 dX11_tellWords_51 rfl ?_
      refine pml_0 53 dX11_tellWords_52 hbz7 rfl ?_
      refine z_aload_n 2 54 dX11_tellWords_53 rfl rfl ?_
      refine gr_33_31 57 dX11_tellWords_54 of_X11_46 rfl ?_
      refine z_iload_n 0 58 dX11_tellWords_57 rfl rfl ?_
      refine z_dup2 rfl rfl 59 dX11_tellWords_58 rfl ?_
      refine gma_10 ((m_a M 10) l2.toNatClampNeg) 60 dX11_tellWords_59 hbz7 rfl rfl ?_
      refine z_iconst 1 61 dX11_tellWords_60 rfl rfl ?_
      refine z_iadd 62 dX11_tellWords_61 rfl ?_
      refine pma_10 63 dX11_tellWords_62 hbz7 rfl ?_
      obtain ⟨vz9, hvz9⟩ : ∃ v : Int32, v = l3 + 1 := ⟨_, rfl⟩
      replace h := h vz9 hvz9
      refine z_iinc vz9 [(3, .int vz9), (2, .int l2), (0, .ref 233), (1, .ref (30 + 39))] 1 66 dX11_tellWords_63 rfl hvz9.symm (Nat.le_of_ble_eq_true rfl) rfl rfl ?_
      refine z_goto 7 dX11_tellWords_66 rfl ?_
      refine z_pick [(2, .int l2), (3, .int vz9), (0, .ref 233), (1, .ref (30 + 39))] [1, 0, 2, 3] rfl ?_
      exact hR9 l2 vz9 (m_aU (m_lU M 0 l2 ((((m_l M 0) l2.toNatClampNeg) <<< (((8 : Int32).toInt64) &&& 63)) ||| ((z_tchr 39 l3.toNatClampNeg : Int32).toInt64))) 10 l2 (((m_a M 10) l2.toNatClampNeg) + 1)) h
    · replace h := h.2 hcz6
      obtain ⟨vz10, hvz10⟩ : ∃ v : Int32, v = l2 + 1 := ⟨_, rfl⟩
      replace h := h vz10 hvz10
      refine z_iinc vz10 [(2, .int vz10), (3, .int l3), (0, .ref 233), (1, .ref (30 + 39))] 0 28 dX11_tellWords_25 rfl hvz10.symm (Nat.le_of_ble_eq_true rfl) rfl rfl ?_
      refine z_goto 63 dX11_tellWords_28 rfl ?_
      obtain ⟨vz11, hvz11⟩ : ∃ v : Int32, v = l3 + 1 := ⟨_, rfl⟩
      replace h := h vz11 hvz11
      refine z_iinc vz11 [(3, .int vz11), (2, .int vz10), (0, .ref 233), (1, .ref (30 + 39))] 1 66 dX11_tellWords_63 rfl hvz11.symm (Nat.le_of_ble_eq_true rfl) rfl rfl ?_
      refine z_goto 7 dX11_tellWords_66 rfl ?_
      refine z_pick [(2, .int vz10), (3, .int vz11), (0, .ref 233), (1, .ref (30 + 39))] [1, 0, 2, 3] rfl ?_
      exact hR9 vz10 vz11 M h
theorem tw_X11_tellWords_7 (tg : Bool) (C : cS) (o : Nat → Int64) (X : List va_E) (Q : mS → Prop) (K69 : mS → Prop) (hK69 : ∀ (M : mS), K69 M → z_go q_X11_tellWords tg 69 [] [] (wz C M o X) 0 0 (zm_v C o X Q)) : ∀ (n : Nat) (l2 : Int32) (l3 : Int32) (M : mS), w_X11_tellWords_7 Q K69 n l2 l3 M → z_go q_X11_tellWords tg 7 [(2, .int l2), (3, .int l3), (0, .ref 233), (1, .ref (30 + 39))] [] (wz C M o X) 0 0 (zm_v C o X Q) := by
  intro n
  induction n with
  | zero => intro l2 l3 M h; exact h.elim
  | succ n ih => intro l2 l3 M h; exact tb_X11_tellWords_7 tg C o X _ Q K69 ih hK69 l2 l3 M h
def p_X11_tellWords (M : mS) (Q : mS → Prop) : Prop :=
  ∃ nz13 : Nat, w_X11_tellWords_7 Q (fun Mz12 => Q Mz12) nz13 0 0 M
set_option maxRecDepth 100000 in
set_option maxHeartbeats 4000000 in
theorem t_X11_tellWords (tg : Bool) (C : cS) (o : Nat → Int64) (X : List va_E) (M : mS) (Q : mS → Prop) (h : p_X11_tellWords M Q) : z_M q_X11_tellWords tg [.ref 233] (wz C M o X) (zm_v C o X Q) := by
  unfold p_X11_tellWords at h
  refine z_enter (by decide) (Nat.le_of_ble_eq_true rfl) ?_
  refine z_ldcS (t := 69) 2 dX11_tellWords_0 (List.mem_of_getElem? (i := 4) rfl) rfl ?_
  refine z_astore_n [(1, .ref (30 + 39)), (0, .ref 233)] 3 dX11_tellWords_2 (Nat.le_of_ble_eq_true rfl) rfl rfl ?_
  refine z_iconst 0 4 dX11_tellWords_3 rfl rfl ?_
  refine z_istore_n [(2, .int 0), (1, .ref (30 + 39)), (0, .ref 233)] 5 dX11_tellWords_4 (Nat.le_of_ble_eq_true rfl) rfl rfl ?_
  refine z_iconst 0 6 dX11_tellWords_5 rfl rfl ?_
  refine z_istore_n [(3, .int 0), (2, .int 0), (1, .ref (30 + 39)), (0, .ref 233)] 7 dX11_tellWords_6 (Nat.le_of_ble_eq_true rfl) rfl rfl ?_
  obtain ⟨nz13, h⟩ := h
  refine z_pick [(2, .int 0), (3, .int 0), (0, .ref 233), (1, .ref (30 + 39))] [1, 0, 3, 2] rfl ?_
  refine tw_X11_tellWords_7 tg C o X Q _ (fun Mz12 h => ?_) nz13 0 0 M h
  · exact z_vret dX11_tellWords_69 rfl ⟨Nat.le_refl _, Nat.le_refl _⟩ ⟨Mz12, rfl, rfl, h⟩
def b_X11_four_2 (R9 : Int32 → Int32 → mS → Prop) (Q : mS → Prop) (K41 : mS → Prop) (l1 : Int32) (l2 : Int32) (M : mS) : Prop :=
  ((l2 < 0 → K41 M) ∧ (¬ l2 < 0 → vp_in (m_i M 19) 2000 ∧ ∀ vz3 : Int32, vz3 = l2 + (-1) → R9 l1 vz3 (m_iS (m_aU M 9 (m_i M 19) ((l1 >>> ((8 * l2) &&& 31)) &&& 255)) 19 ((m_i M 19) + 1))))
def w_X11_four_2 (Q : mS → Prop) (K41 : mS → Prop) : Nat → Int32 → Int32 → mS → Prop
 | 0 => fun _ _ _ => False
 | n + 1 => fun l1 l2 M => b_X11_four_2 (w_X11_four_2 Q K41 n) Q K41 l1 l2 M
set_option maxRecDepth 100000 in
set_option maxHeartbeats 4000000 in
theorem tb_X11_four_2 (tg : Bool) (C : cS) (o : Nat → Int64) (X : List va_E) (R9 : Int32 → Int32 → mS → Prop) (Q : mS → Prop) (K41 : mS → Prop) (hR9 : ∀ (l1 : Int32) (l2 : Int32) (M : mS), R9 l1 l2 M → z_go q_X11_four tg 2 [(1, .int l1), (2, .int l2), (0, .ref 233)] [] (wz C M o X) 0 0 (zm_v C o X Q)) (hK41 : ∀ (M : mS), K41 M → z_go q_X11_four tg 41 [] [] (wz C M o X) 0 0 (zm_v C o X Q)) (l1 : Int32) (l2 : Int32) (M : mS) (h : b_X11_four_2 R9 Q K41 l1 l2 M) : z_go q_X11_four tg 2 [(1, .int l1), (2, .int l2), (0, .ref 233)] [] (wz C M o X) 0 0 (zm_v C o X Q) := by
  unfold b_X11_four_2 at h
  refine z_iload_n 1 3 dX11_four_2 rfl rfl ?_
  refine z_if_lt 41 6 dX11_four_3 rfl rfl (fun hcz1 => ?_) (fun hcz1 => ?_)
  · replace h := h.1 hcz1
    refine z_pick [] [] rfl ?_
    exact hK41  M h
  · replace h := h.2 hcz1
    refine z_aload_n 2 7 dX11_four_6 rfl rfl ?_
    refine gr_33_28 10 dX11_four_7 of_X11_39 rfl ?_
    refine z_aload_n 2 11 dX11_four_10 rfl rfl ?_
    refine gmi_19 (m_i M 19) 14 dX11_four_11 of_X11_253 rfl rfl ?_
    refine z_iload_n 0 15 dX11_four_14 rfl rfl ?_
    refine z_bipush 8 17 dX11_four_15 rfl rfl ?_
    refine z_iload_n 1 18 dX11_four_17 rfl rfl ?_
    refine z_imul 19 dX11_four_18 rfl ?_
    refine z_ishr 20 dX11_four_19 rfl ?_
    refine z_sipush 255 23 dX11_four_20 rfl rfl ?_
    refine z_iand 24 dX11_four_23 rfl ?_
    obtain ⟨hbz2, h⟩ := h
    refine pma_9 25 dX11_four_24 hbz2 rfl ?_
    refine z_aload_n 2 26 dX11_four_25 rfl rfl ?_
    refine z_dup rfl 27 dX11_four_26 rfl ?_
    refine gmi_19 (m_i M 19) 30 dX11_four_27 of_X11_253 rfl rfl ?_
    refine z_iconst 1 31 dX11_four_30 rfl rfl ?_
    refine z_iadd 32 dX11_four_31 rfl ?_
    refine pmi_19 35 dX11_four_32 op_X11_253 rfl ?_
    obtain ⟨vz3, hvz3⟩ : ∃ v : Int32, v = l2 + (-1) := ⟨_, rfl⟩
    replace h := h vz3 hvz3
    refine z_iinc vz3 [(2, .int vz3), (1, .int l1), (0, .ref 233)] 1 38 dX11_four_35 rfl hvz3.symm (Nat.le_of_ble_eq_true rfl) rfl rfl ?_
    refine z_goto 2 dX11_four_38 rfl ?_
    refine z_pick [(1, .int l1), (2, .int vz3), (0, .ref 233)] [1, 0, 2] rfl ?_
    exact hR9 l1 vz3 (m_iS (m_aU M 9 (m_i M 19) ((l1 >>> ((8 * l2) &&& 31)) &&& 255)) 19 ((m_i M 19) + 1)) h
theorem tw_X11_four_2 (tg : Bool) (C : cS) (o : Nat → Int64) (X : List va_E) (Q : mS → Prop) (K41 : mS → Prop) (hK41 : ∀ (M : mS), K41 M → z_go q_X11_four tg 41 [] [] (wz C M o X) 0 0 (zm_v C o X Q)) : ∀ (n : Nat) (l1 : Int32) (l2 : Int32) (M : mS), w_X11_four_2 Q K41 n l1 l2 M → z_go q_X11_four tg 2 [(1, .int l1), (2, .int l2), (0, .ref 233)] [] (wz C M o X) 0 0 (zm_v C o X Q) := by
  intro n
  induction n with
  | zero => intro l1 l2 M h; exact h.elim
  | succ n ih => intro l1 l2 M h; exact tb_X11_four_2 tg C o X _ Q K41 ih hK41 l1 l2 M h
def p_X11_four (a1 : Int32) (M : mS) (Q : mS → Prop) : Prop :=
  ∃ nz5 : Nat, w_X11_four_2 Q (fun Mz4 => Q Mz4) nz5 a1 3 M
set_option maxRecDepth 100000 in
set_option maxHeartbeats 4000000 in
theorem t_X11_four (tg : Bool) (C : cS) (o : Nat → Int64) (X : List va_E) (a1 : Int32) (M : mS) (Q : mS → Prop) (h : p_X11_four a1 M Q) : z_M q_X11_four tg [.ref 233, .int a1] (wz C M o X) (zm_v C o X Q) := by
  unfold p_X11_four at h
  refine z_enter (by decide) (Nat.le_of_ble_eq_true rfl) ?_
  refine z_iconst 3 1 dX11_four_0 rfl rfl ?_
  refine z_istore_n [(2, .int 3), (0, .ref 233), (1, .int a1)] 2 dX11_four_1 (Nat.le_of_ble_eq_true rfl) rfl rfl ?_
  obtain ⟨nz5, h⟩ := h
  refine z_pick [(1, .int a1), (2, .int 3), (0, .ref 233)] [2, 0, 1] rfl ?_
  refine tw_X11_four_2 tg C o X Q _ (fun Mz4 h => ?_) nz5 a1 3 M h
  · exact z_vret dX11_four_41 rfl ⟨Nat.le_refl _, Nat.le_refl _⟩ ⟨Mz4, rfl, rfl, h⟩
def p_X11_feed (a1 : Int32) (a2 : Int32) (a3 : Int32) (a4 : Int32) (a5 : Int32) (M : mS) (Q : Int32 → mS → Prop) : Prop :=
  (((m_i M 19) ≤ 1980 → p_X11_four a1 (m_iS M 2 0) (fun Mz2 => p_X11_four a2 Mz2 (fun Mz3 => p_X11_four a3 Mz3 (fun Mz4 => p_X11_four a4 Mz4 (fun Mz5 => p_X11_four a5 Mz5 (fun Mz6 => Q (m_i Mz6 19) Mz6)))))) ∧ (¬ (m_i M 19) ≤ 1980 → Q (-1) (m_iS M 2 0)))
set_option maxRecDepth 100000 in
set_option maxHeartbeats 4000000 in
theorem t_X11_feed (tg : Bool) (C : cS) (o : Nat → Int64) (X : List va_E) (a1 : Int32) (a2 : Int32) (a3 : Int32) (a4 : Int32) (a5 : Int32) (M : mS) (Q : Int32 → mS → Prop) (h : p_X11_feed a1 a2 a3 a4 a5 M Q) : z_M q_X11_feed tg [.ref 233, .int a1, .int a2, .int a3, .int a4, .int a5] (wz C M o X) (zm_i C o X Q) := by
  unfold p_X11_feed at h
  refine z_enter (by decide) (Nat.le_of_ble_eq_true rfl) ?_
  refine z_aload_n 0 1 dX11_feed_0 rfl rfl ?_
  refine z_iconst 0 2 dX11_feed_1 rfl rfl ?_
  refine pmi_2 5 dX11_feed_2 op_X11_131 rfl ?_
  refine z_aload_n 0 6 dX11_feed_5 rfl rfl ?_
  refine gmi_19 (m_i M 19) 9 dX11_feed_6 of_X11_253 rfl rfl ?_
  refine z_sipush 1980 12 dX11_feed_9 rfl rfl ?_
  refine z_icmp_le 17 15 dX11_feed_12 rfl rfl (fun hcz1 => ?_) (fun hcz1 => ?_)
  · replace h := h.1 hcz1
    refine z_aload_n 0 18 dX11_feed_17 rfl rfl ?_
    refine z_iload_n 1 19 dX11_feed_18 rfl rfl ?_
    refine z_mvV [.int a1] 22 dX11_feed_19 ok_X11_feed_256 rfl rfl (Nat.le_of_ble_eq_true rfl) rc_33 ⟨rfl, rfl⟩ ⟨Nat.le_refl _, Nat.le_refl _⟩ rfl (t_X11_four tg C o X a1 (m_iS M 2 0) _ h) (fun Mz2 h => ?_)
    refine z_aload_n 0 23 dX11_feed_22 rfl rfl ?_
    refine z_iload_n 2 24 dX11_feed_23 rfl rfl ?_
    refine z_mvV [.int a2] 27 dX11_feed_24 ok_X11_feed_256 rfl rfl (Nat.le_of_ble_eq_true rfl) rc_33 ⟨rfl, rfl⟩ ⟨Nat.le_refl _, Nat.le_refl _⟩ rfl (t_X11_four tg C o X a2 Mz2 _ h) (fun Mz3 h => ?_)
    refine z_aload_n 0 28 dX11_feed_27 rfl rfl ?_
    refine z_iload_n 3 29 dX11_feed_28 rfl rfl ?_
    refine z_mvV [.int a3] 32 dX11_feed_29 ok_X11_feed_256 rfl rfl (Nat.le_of_ble_eq_true rfl) rc_33 ⟨rfl, rfl⟩ ⟨Nat.le_refl _, Nat.le_refl _⟩ rfl (t_X11_four tg C o X a3 Mz3 _ h) (fun Mz4 h => ?_)
    refine z_aload_n 0 33 dX11_feed_32 rfl rfl ?_
    refine z_iload 4 35 dX11_feed_33 rfl rfl ?_
    refine z_mvV [.int a4] 38 dX11_feed_35 ok_X11_feed_256 rfl rfl (Nat.le_of_ble_eq_true rfl) rc_33 ⟨rfl, rfl⟩ ⟨Nat.le_refl _, Nat.le_refl _⟩ rfl (t_X11_four tg C o X a4 Mz4 _ h) (fun Mz5 h => ?_)
    refine z_aload_n 0 39 dX11_feed_38 rfl rfl ?_
    refine z_iload 5 41 dX11_feed_39 rfl rfl ?_
    refine z_mvV [.int a5] 44 dX11_feed_41 ok_X11_feed_256 rfl rfl (Nat.le_of_ble_eq_true rfl) rc_33 ⟨rfl, rfl⟩ ⟨Nat.le_refl _, Nat.le_refl _⟩ rfl (t_X11_four tg C o X a5 Mz5 _ h) (fun Mz6 h => ?_)
    refine z_aload_n 0 45 dX11_feed_44 rfl rfl ?_
    refine gmi_19 (m_i Mz6 19) 48 dX11_feed_45 of_X11_253 rfl rfl ?_
    exact z_iret dX11_feed_48 rfl ⟨Nat.le_refl _, Nat.le_refl _⟩ ⟨m_i Mz6 19, Mz6, rfl, rfl, h⟩
  · replace h := h.2 hcz1
    refine z_iconst (-1) 16 dX11_feed_15 rfl rfl ?_
    exact z_iret dX11_feed_16 rfl ⟨Nat.le_refl _, Nat.le_refl _⟩ ⟨(-1), (m_iS M 2 0), rfl, rfl, h⟩
def p_X11_end (a1 : Int32) (M : mS) (Q : Int32 → mS → Prop) : Prop :=
  ((a1 < 0 → Q (-1) (m_iS M 2 0)) ∧ (¬ a1 < 0 → ((a1 ≤ (m_i M 19) → Q a1 (m_iS (m_iS M 2 0) 19 a1)) ∧ (¬ a1 ≤ (m_i M 19) → Q (-1) (m_iS M 2 0)))))
set_option maxRecDepth 100000 in
set_option maxHeartbeats 4000000 in
theorem t_X11_end (tg : Bool) (C : cS) (o : Nat → Int64) (X : List va_E) (a1 : Int32) (M : mS) (Q : Int32 → mS → Prop) (h : p_X11_end a1 M Q) : z_M q_X11_end tg [.ref 233, .int a1] (wz C M o X) (zm_i C o X Q) := by
  unfold p_X11_end at h
  refine z_enter (by decide) (Nat.le_of_ble_eq_true rfl) ?_
  refine z_aload_n 0 1 dX11_end_0 rfl rfl ?_
  refine z_iconst 0 2 dX11_end_1 rfl rfl ?_
  refine pmi_2 5 dX11_end_2 op_X11_131 rfl ?_
  refine z_iload_n 1 6 dX11_end_5 rfl rfl ?_
  refine z_if_lt 17 9 dX11_end_6 rfl rfl (fun hcz1 => ?_) (fun hcz1 => ?_)
  · replace h := h.1 hcz1
    refine z_iconst (-1) 18 dX11_end_17 rfl rfl ?_
    exact z_iret dX11_end_18 rfl ⟨Nat.le_refl _, Nat.le_refl _⟩ ⟨(-1), (m_iS M 2 0), rfl, rfl, h⟩
  · replace h := h.2 hcz1
    refine z_iload_n 1 10 dX11_end_9 rfl rfl ?_
    refine z_aload_n 0 11 dX11_end_10 rfl rfl ?_
    refine gmi_19 (m_i M 19) 14 dX11_end_11 of_X11_253 rfl rfl ?_
    refine z_icmp_le 19 17 dX11_end_14 rfl rfl (fun hcz2 => ?_) (fun hcz2 => ?_)
    · replace h := h.1 hcz2
      refine z_aload_n 0 20 dX11_end_19 rfl rfl ?_
      refine z_iload_n 1 21 dX11_end_20 rfl rfl ?_
      refine pmi_19 24 dX11_end_21 op_X11_253 rfl ?_
      refine z_iload_n 1 25 dX11_end_24 rfl rfl ?_
      exact z_iret dX11_end_25 rfl ⟨Nat.le_refl _, Nat.le_refl _⟩ ⟨a1, (m_iS (m_iS M 2 0) 19 a1), rfl, rfl, h⟩
    · replace h := h.2 hcz2
      refine z_iconst (-1) 18 dX11_end_17 rfl rfl ?_
      exact z_iret dX11_end_18 rfl ⟨Nat.le_refl _, Nat.le_refl _⟩ ⟨(-1), (m_iS M 2 0), rfl, rfl, h⟩
def p_X11_good (M : mS) (Q : Int32 → mS → Prop) : Prop :=
  ((¬ (m_i M 22) = 0 → Q 0 M) ∧ ((m_i M 22) = 0 → Q 1 M))
set_option maxRecDepth 100000 in
set_option maxHeartbeats 4000000 in
theorem t_X11_good (tg : Bool) (C : cS) (o : Nat → Int64) (X : List va_E) (M : mS) (Q : Int32 → mS → Prop) (h : p_X11_good M Q) : z_M q_X11_good tg [.ref 233] (wz C M o X) (zm_i C o X Q) := by
  unfold p_X11_good at h
  refine z_enter (by decide) (Nat.le_of_ble_eq_true rfl) ?_
  refine z_aload_n 0 1 dX11_good_0 rfl rfl ?_
  refine gmi_22 (m_i M 22) 4 dX11_good_1 of_X11_260 rfl rfl ?_
  refine z_if_ne 11 7 dX11_good_4 rfl rfl (fun hcz1 => ?_) (fun hcz1 => ?_)
  · replace h := h.1 hcz1
    refine z_iconst 0 12 dX11_good_11 rfl rfl ?_
    exact z_zret dX11_good_12 rfl rfl ⟨Nat.le_refl _, Nat.le_refl _⟩ ⟨0, M, rfl, rfl, h⟩
  · replace h := h.2 hcz1
    refine z_iconst 1 8 dX11_good_7 rfl rfl ?_
    refine z_goto 12 dX11_good_8 rfl ?_
    exact z_zret dX11_good_12 rfl rfl ⟨Nat.le_refl _, Nat.le_refl _⟩ ⟨1, M, rfl, rfl, h⟩
def p_X11_fails (a1 : Int32) (a2 : Int32) (M : mS) (Q : mS → Prop) : Prop :=
  (((m_i M 22) ≤ 0 → Q (m_iS (m_iS M 22 a1) 23 a2)) ∧ (¬ (m_i M 22) ≤ 0 → Q M))
set_option maxRecDepth 100000 in
set_option maxHeartbeats 4000000 in
theorem t_X11_fails (tg : Bool) (C : cS) (o : Nat → Int64) (X : List va_E) (a1 : Int32) (a2 : Int32) (M : mS) (Q : mS → Prop) (h : p_X11_fails a1 a2 M Q) : z_M q_X11_fails tg [.ref 233, .int a1, .int a2] (wz C M o X) (zm_v C o X Q) := by
  unfold p_X11_fails at h
  refine z_enter (by decide) (Nat.le_of_ble_eq_true rfl) ?_
  refine z_aload_n 0 1 dX11_fails_0 rfl rfl ?_
  refine gmi_22 (m_i M 22) 4 dX11_fails_1 of_X11_260 rfl rfl ?_
  refine z_if_le 8 7 dX11_fails_4 rfl rfl (fun hcz1 => ?_) (fun hcz1 => ?_)
  · replace h := h.1 hcz1
    refine z_aload_n 0 9 dX11_fails_8 rfl rfl ?_
    refine z_iload_n 1 10 dX11_fails_9 rfl rfl ?_
    refine pmi_22 13 dX11_fails_10 op_X11_260 rfl ?_
    refine z_aload_n 0 14 dX11_fails_13 rfl rfl ?_
    refine z_iload_n 2 15 dX11_fails_14 rfl rfl ?_
    refine pmi_23 18 dX11_fails_15 op_X11_263 rfl ?_
    exact z_vret dX11_fails_18 rfl ⟨Nat.le_refl _, Nat.le_refl _⟩ ⟨(m_iS (m_iS M 22 a1) 23 a2), rfl, rfl, h⟩
  · replace h := h.2 hcz1
    exact z_vret dX11_fails_7 rfl ⟨Nat.le_refl _, Nat.le_refl _⟩ ⟨M, rfl, rfl, h⟩
def p_X11_isLetter (a1 : Int32) (M : mS) (Q : Int32 → mS → Prop) : Prop :=
  (((m_i M 19) ≤ a1 → Q 0 M) ∧ (¬ (m_i M 19) ≤ a1 → vp_in a1 2000 ∧ ((((m_a M 9) a1.toNatClampNeg) < 97 → Q 0 M) ∧ (¬ ((m_a M 9) a1.toNatClampNeg) < 97 → ((122 < ((m_a M 9) a1.toNatClampNeg) → Q 0 M) ∧ (¬ 122 < ((m_a M 9) a1.toNatClampNeg) → Q 1 M))))))
set_option maxRecDepth 100000 in
set_option maxHeartbeats 4000000 in
theorem t_X11_isLetter (tg : Bool) (C : cS) (o : Nat → Int64) (X : List va_E) (a1 : Int32) (M : mS) (Q : Int32 → mS → Prop) (h : p_X11_isLetter a1 M Q) : z_M q_X11_isLetter tg [.ref 233, .int a1] (wz C M o X) (zm_i C o X Q) := by
  unfold p_X11_isLetter at h
  refine z_enter (by decide) (Nat.le_of_ble_eq_true rfl) ?_
  refine z_iload_n 1 1 dX11_isLetter_0 rfl rfl ?_
  refine z_aload_n 0 2 dX11_isLetter_1 rfl rfl ?_
  refine gmi_19 (m_i M 19) 5 dX11_isLetter_2 of_X11_253 rfl rfl ?_
  refine z_icmp_ge 34 8 dX11_isLetter_5 rfl rfl (fun hcz1 => ?_) (fun hcz1 => ?_)
  · replace h := h.1 hcz1
    refine z_iconst 0 35 dX11_isLetter_34 rfl rfl ?_
    exact z_zret dX11_isLetter_35 rfl rfl ⟨Nat.le_refl _, Nat.le_refl _⟩ ⟨0, M, rfl, rfl, h⟩
  · replace h := h.2 hcz1
    refine z_aload_n 0 9 dX11_isLetter_8 rfl rfl ?_
    refine gr_33_28 12 dX11_isLetter_9 of_X11_39 rfl ?_
    refine z_iload_n 1 13 dX11_isLetter_12 rfl rfl ?_
    obtain ⟨hbz2, h⟩ := h
    refine gma_9 ((m_a M 9) a1.toNatClampNeg) 14 dX11_isLetter_13 hbz2 rfl rfl ?_
    refine z_bipush 97 16 dX11_isLetter_14 rfl rfl ?_
    refine z_icmp_lt 34 19 dX11_isLetter_16 rfl rfl (fun hcz3 => ?_) (fun hcz3 => ?_)
    · replace h := h.1 hcz3
      refine z_iconst 0 35 dX11_isLetter_34 rfl rfl ?_
      exact z_zret dX11_isLetter_35 rfl rfl ⟨Nat.le_refl _, Nat.le_refl _⟩ ⟨0, M, rfl, rfl, h⟩
    · replace h := h.2 hcz3
      refine z_aload_n 0 20 dX11_isLetter_19 rfl rfl ?_
      refine gr_33_28 23 dX11_isLetter_20 of_X11_39 rfl ?_
      refine z_iload_n 1 24 dX11_isLetter_23 rfl rfl ?_
      refine gma_9 ((m_a M 9) a1.toNatClampNeg) 25 dX11_isLetter_24 hbz2 rfl rfl ?_
      refine z_bipush 122 27 dX11_isLetter_25 rfl rfl ?_
      refine z_icmp_gt 34 30 dX11_isLetter_27 rfl rfl (fun hcz4 => ?_) (fun hcz4 => ?_)
      · replace h := h.1 hcz4
        refine z_iconst 0 35 dX11_isLetter_34 rfl rfl ?_
        exact z_zret dX11_isLetter_35 rfl rfl ⟨Nat.le_refl _, Nat.le_refl _⟩ ⟨0, M, rfl, rfl, h⟩
      · replace h := h.2 hcz4
        refine z_iconst 1 31 dX11_isLetter_30 rfl rfl ?_
        refine z_goto 35 dX11_isLetter_31 rfl ?_
        exact z_zret dX11_isLetter_35 rfl rfl ⟨Nat.le_refl _, Nat.le_refl _⟩ ⟨1, M, rfl, rfl, h⟩
def p_X11_isDigit (a1 : Int32) (M : mS) (Q : Int32 → mS → Prop) : Prop :=
  (((m_i M 19) ≤ a1 → Q 0 M) ∧ (¬ (m_i M 19) ≤ a1 → vp_in a1 2000 ∧ ((((m_a M 9) a1.toNatClampNeg) < 48 → Q 0 M) ∧ (¬ ((m_a M 9) a1.toNatClampNeg) < 48 → ((57 < ((m_a M 9) a1.toNatClampNeg) → Q 0 M) ∧ (¬ 57 < ((m_a M 9) a1.toNatClampNeg) → Q 1 M))))))
set_option maxRecDepth 100000 in
set_option maxHeartbeats 4000000 in
theorem t_X11_isDigit (tg : Bool) (C : cS) (o : Nat → Int64) (X : List va_E) (a1 : Int32) (M : mS) (Q : Int32 → mS → Prop) (h : p_X11_isDigit a1 M Q) : z_M q_X11_isDigit tg [.ref 233, .int a1] (wz C M o X) (zm_i C o X Q) := by
  unfold p_X11_isDigit at h
  refine z_enter (by decide) (Nat.le_of_ble_eq_true rfl) ?_
  refine z_iload_n 1 1 dX11_isDigit_0 rfl rfl ?_
  refine z_aload_n 0 2 dX11_isDigit_1 rfl rfl ?_
  refine gmi_19 (m_i M 19) 5 dX11_isDigit_2 of_X11_253 rfl rfl ?_
  refine z_icmp_ge 34 8 dX11_isDigit_5 rfl rfl (fun hcz1 => ?_) (fun hcz1 => ?_)
  · replace h := h.1 hcz1
    refine z_iconst 0 35 dX11_isDigit_34 rfl rfl ?_
    exact z_zret dX11_isDigit_35 rfl rfl ⟨Nat.le_refl _, Nat.le_refl _⟩ ⟨0, M, rfl, rfl, h⟩
  · replace h := h.2 hcz1
    refine z_aload_n 0 9 dX11_isDigit_8 rfl rfl ?_
    refine gr_33_28 12 dX11_isDigit_9 of_X11_39 rfl ?_
    refine z_iload_n 1 13 dX11_isDigit_12 rfl rfl ?_
    obtain ⟨hbz2, h⟩ := h
    refine gma_9 ((m_a M 9) a1.toNatClampNeg) 14 dX11_isDigit_13 hbz2 rfl rfl ?_
    refine z_bipush 48 16 dX11_isDigit_14 rfl rfl ?_
    refine z_icmp_lt 34 19 dX11_isDigit_16 rfl rfl (fun hcz3 => ?_) (fun hcz3 => ?_)
    · replace h := h.1 hcz3
      refine z_iconst 0 35 dX11_isDigit_34 rfl rfl ?_
      exact z_zret dX11_isDigit_35 rfl rfl ⟨Nat.le_refl _, Nat.le_refl _⟩ ⟨0, M, rfl, rfl, h⟩
    · replace h := h.2 hcz3
      refine z_aload_n 0 20 dX11_isDigit_19 rfl rfl ?_
      refine gr_33_28 23 dX11_isDigit_20 of_X11_39 rfl ?_
      refine z_iload_n 1 24 dX11_isDigit_23 rfl rfl ?_
      refine gma_9 ((m_a M 9) a1.toNatClampNeg) 25 dX11_isDigit_24 hbz2 rfl rfl ?_
      refine z_bipush 57 27 dX11_isDigit_25 rfl rfl ?_
      refine z_icmp_gt 34 30 dX11_isDigit_27 rfl rfl (fun hcz4 => ?_) (fun hcz4 => ?_)
      · replace h := h.1 hcz4
        refine z_iconst 0 35 dX11_isDigit_34 rfl rfl ?_
        exact z_zret dX11_isDigit_35 rfl rfl ⟨Nat.le_refl _, Nat.le_refl _⟩ ⟨0, M, rfl, rfl, h⟩
      · replace h := h.2 hcz4
        refine z_iconst 1 31 dX11_isDigit_30 rfl rfl ?_
        refine z_goto 35 dX11_isDigit_31 rfl ?_
        exact z_zret dX11_isDigit_35 rfl rfl ⟨Nat.le_refl _, Nat.le_refl _⟩ ⟨1, M, rfl, rfl, h⟩
def p_X11_token (a1 : Int32) (a2 : Int32) (a3 : Int32) (M : mS) (Q : mS → Prop) : Prop :=
  vp_in (m_i M 20) 2001 ∧ Q (m_iS (m_lU (m_aU (m_aU (m_aU M 11 (m_i M 20) a1) 12 (m_i M 20) a2) 13 (m_i M 20) a3) 1 (m_i M 20) 0) 20 ((m_i M 20) + 1))
set_option maxRecDepth 100000 in
set_option maxHeartbeats 4000000 in
theorem t_X11_token (tg : Bool) (C : cS) (o : Nat → Int64) (X : List va_E) (a1 : Int32) (a2 : Int32) (a3 : Int32) (M : mS) (Q : mS → Prop) (h : p_X11_token a1 a2 a3 M Q) : z_M q_X11_token tg [.ref 233, .int a1, .int a2, .int a3] (wz C M o X) (zm_v C o X Q) := by
  unfold p_X11_token at h
  refine z_enter (by decide) (Nat.le_of_ble_eq_true rfl) ?_
  refine z_aload_n 0 1 dX11_token_0 rfl rfl ?_
  refine gr_33_32 4 dX11_token_1 of_X11_49 rfl ?_
  refine z_aload_n 0 5 dX11_token_4 rfl rfl ?_
  refine gmi_20 (m_i M 20) 8 dX11_token_5 of_X11_266 rfl rfl ?_
  refine z_iload_n 1 9 dX11_token_8 rfl rfl ?_
  obtain ⟨hbz1, h⟩ := h
  refine pma_11 10 dX11_token_9 hbz1 rfl ?_
  refine z_aload_n 0 11 dX11_token_10 rfl rfl ?_
  refine gr_33_33 14 dX11_token_11 of_X11_52 rfl ?_
  refine z_aload_n 0 15 dX11_token_14 rfl rfl ?_
  refine gmi_20 (m_i M 20) 18 dX11_token_15 of_X11_266 rfl rfl ?_
  refine z_iload_n 2 19 dX11_token_18 rfl rfl ?_
  refine pma_12 20 dX11_token_19 hbz1 rfl ?_
  refine z_aload_n 0 21 dX11_token_20 rfl rfl ?_
  refine gr_33_34 24 dX11_token_21 of_X11_55 rfl ?_
  refine z_aload_n 0 25 dX11_token_24 rfl rfl ?_
  refine gmi_20 (m_i M 20) 28 dX11_token_25 of_X11_266 rfl rfl ?_
  refine z_iload_n 3 29 dX11_token_28 rfl rfl ?_
  refine pma_13 30 dX11_token_29 hbz1 rfl ?_
  refine z_aload_n 0 31 dX11_token_30 rfl rfl ?_
  refine gr_33_35 34 dX11_token_31 of_X11_58 rfl ?_
  refine z_aload_n 0 35 dX11_token_34 rfl rfl ?_
  refine gmi_20 (m_i M 20) 38 dX11_token_35 of_X11_266 rfl rfl ?_
  refine z_lconst 0 39 dX11_token_38 rfl rfl ?_
  refine pml_1 40 dX11_token_39 hbz1 rfl ?_
  refine z_aload_n 0 41 dX11_token_40 rfl rfl ?_
  refine z_dup rfl 42 dX11_token_41 rfl ?_
  refine gmi_20 (m_i M 20) 45 dX11_token_42 of_X11_266 rfl rfl ?_
  refine z_iconst 1 46 dX11_token_45 rfl rfl ?_
  refine z_iadd 47 dX11_token_46 rfl ?_
  refine pmi_20 50 dX11_token_47 op_X11_266 rfl ?_
  exact z_vret dX11_token_50 rfl ⟨Nat.le_refl _, Nat.le_refl _⟩ ⟨(m_iS (m_lU (m_aU (m_aU (m_aU M 11 (m_i M 20) a1) 12 (m_i M 20) a2) 13 (m_i M 20) a3) 1 (m_i M 20) 0) 20 ((m_i M 20) + 1)), rfl, rfl, h⟩
def b_X11_name_2 (R9 : Int32 → Int32 → mS → Prop) (Q : Int32 → mS → Prop) (K24 : Int32 → Int32 → mS → Prop) (l1 : Int32) (l2 : Int32) (M : mS) : Prop :=
  p_X11_isLetter l2 M (fun rz2 Mz1 => ((¬ rz2 = 0 → ∀ vz4 : Int32, vz4 = l2 + 1 → R9 l1 vz4 Mz1) ∧ (rz2 = 0 → p_X11_isDigit l2 Mz1 (fun rz6 Mz5 => ((rz6 = 0 → K24 l1 l2 Mz5) ∧ (¬ rz6 = 0 → ∀ vz8 : Int32, vz8 = l2 + 1 → R9 l1 vz8 Mz5))))))
def w_X11_name_2 (Q : Int32 → mS → Prop) (K24 : Int32 → Int32 → mS → Prop) : Nat → Int32 → Int32 → mS → Prop
 | 0 => fun _ _ _ => False
 | n + 1 => fun l1 l2 M => b_X11_name_2 (w_X11_name_2 Q K24 n) Q K24 l1 l2 M
set_option maxRecDepth 100000 in
set_option maxHeartbeats 4000000 in
theorem tb_X11_name_2 (tg : Bool) (C : cS) (o : Nat → Int64) (X : List va_E) (R9 : Int32 → Int32 → mS → Prop) (Q : Int32 → mS → Prop) (K24 : Int32 → Int32 → mS → Prop) (hR9 : ∀ (l1 : Int32) (l2 : Int32) (M : mS), R9 l1 l2 M → z_go q_X11_name tg 2 [(1, .int l1), (2, .int l2), (0, .ref 233)] [] (wz C M o X) 0 0 (zm_i C o X Q)) (hK24 : ∀ (l1 : Int32) (l2 : Int32) (M : mS), K24 l1 l2 M → z_go q_X11_name tg 24 [(1, .int l1), (2, .int l2), (0, .ref 233)] [] (wz C M o X) 0 0 (zm_i C o X Q)) (l1 : Int32) (l2 : Int32) (M : mS) (h : b_X11_name_2 R9 Q K24 l1 l2 M) : z_go q_X11_name tg 2 [(1, .int l1), (2, .int l2), (0, .ref 233)] [] (wz C M o X) 0 0 (zm_i C o X Q) := by
  unfold b_X11_name_2 at h
  refine z_aload_n 2 3 dX11_name_2 rfl rfl ?_
  refine z_iload_n 1 4 dX11_name_3 rfl rfl ?_
  refine z_miV [.int l2] 7 dX11_name_4 ok_X11_name_269 rfl rfl (Nat.le_of_ble_eq_true rfl) rc_33 ⟨rfl, rfl⟩ ⟨Nat.le_refl _, Nat.le_refl _⟩ rfl (t_X11_isLetter tg C o X l2 M _ h) (fun rz2 Mz1 h => ?_)
  refine z_if_ne 18 10 dX11_name_7 rfl rfl (fun hcz3 => ?_) (fun hcz3 => ?_)
  · replace h := h.1 hcz3
    obtain ⟨vz4, hvz4⟩ : ∃ v : Int32, v = l2 + 1 := ⟨_, rfl⟩
    replace h := h vz4 hvz4
    refine z_iinc vz4 [(2, .int vz4), (1, .int l1), (0, .ref 233)] 1 21 dX11_name_18 rfl hvz4.symm (Nat.le_of_ble_eq_true rfl) rfl rfl ?_
    refine z_goto 2 dX11_name_21 rfl ?_
    refine z_pick [(1, .int l1), (2, .int vz4), (0, .ref 233)] [1, 0, 2] rfl ?_
    exact hR9 l1 vz4 Mz1 h
  · replace h := h.2 hcz3
    refine z_aload_n 2 11 dX11_name_10 rfl rfl ?_
    refine z_iload_n 1 12 dX11_name_11 rfl rfl ?_
    refine z_miV [.int l2] 15 dX11_name_12 ok_X11_name_272 rfl rfl (Nat.le_of_ble_eq_true rfl) rc_33 ⟨rfl, rfl⟩ ⟨Nat.le_refl _, Nat.le_refl _⟩ rfl (t_X11_isDigit tg C o X l2 Mz1 _ h) (fun rz6 Mz5 h => ?_)
    refine z_if_eq 24 18 dX11_name_15 rfl rfl (fun hcz7 => ?_) (fun hcz7 => ?_)
    · replace h := h.1 hcz7
      refine z_pick [(1, .int l1), (2, .int l2), (0, .ref 233)] [0, 1, 2] rfl ?_
      exact hK24 l1 l2 Mz5 h
    · replace h := h.2 hcz7
      obtain ⟨vz8, hvz8⟩ : ∃ v : Int32, v = l2 + 1 := ⟨_, rfl⟩
      replace h := h vz8 hvz8
      refine z_iinc vz8 [(2, .int vz8), (1, .int l1), (0, .ref 233)] 1 21 dX11_name_18 rfl hvz8.symm (Nat.le_of_ble_eq_true rfl) rfl rfl ?_
      refine z_goto 2 dX11_name_21 rfl ?_
      refine z_pick [(1, .int l1), (2, .int vz8), (0, .ref 233)] [1, 0, 2] rfl ?_
      exact hR9 l1 vz8 Mz5 h
theorem tw_X11_name_2 (tg : Bool) (C : cS) (o : Nat → Int64) (X : List va_E) (Q : Int32 → mS → Prop) (K24 : Int32 → Int32 → mS → Prop) (hK24 : ∀ (l1 : Int32) (l2 : Int32) (M : mS), K24 l1 l2 M → z_go q_X11_name tg 24 [(1, .int l1), (2, .int l2), (0, .ref 233)] [] (wz C M o X) 0 0 (zm_i C o X Q)) : ∀ (n : Nat) (l1 : Int32) (l2 : Int32) (M : mS), w_X11_name_2 Q K24 n l1 l2 M → z_go q_X11_name tg 2 [(1, .int l1), (2, .int l2), (0, .ref 233)] [] (wz C M o X) 0 0 (zm_i C o X Q) := by
  intro n
  induction n with
  | zero => intro l1 l2 M h; exact h.elim
  | succ n ih => intro l1 l2 M h; exact tb_X11_name_2 tg C o X _ Q K24 ih hK24 l1 l2 M h
def b_X11_name_45 (R9 : Int32 → Int32 → Int64 → Int32 → mS → Prop) (Q : Int32 → mS → Prop) (K71 : Int32 → Int32 → Int64 → mS → Prop) (l1 : Int32) (l2 : Int32) (l3 : Int64) (l5 : Int32) (M : mS) : Prop :=
  ((l2 ≤ l5 → K71 l1 l2 l3 M) ∧ (¬ l2 ≤ l5 → vp_in l5 2000 ∧ ∀ vz15 : Int64, vz15 = (l3 <<< (((8 : Int32).toInt64) &&& 63)) ||| (((m_a M 9) l5.toNatClampNeg : Int32).toInt64) → ∀ vz16 : Int32, vz16 = l5 + 1 → R9 l1 l2 vz15 vz16 M))
def w_X11_name_45 (Q : Int32 → mS → Prop) (K71 : Int32 → Int32 → Int64 → mS → Prop) : Nat → Int32 → Int32 → Int64 → Int32 → mS → Prop
 | 0 => fun _ _ _ _ _ => False
 | n + 1 => fun l1 l2 l3 l5 M => b_X11_name_45 (w_X11_name_45 Q K71 n) Q K71 l1 l2 l3 l5 M
set_option maxRecDepth 100000 in
set_option maxHeartbeats 4000000 in
theorem tb_X11_name_45 (tg : Bool) (C : cS) (o : Nat → Int64) (X : List va_E) (R9 : Int32 → Int32 → Int64 → Int32 → mS → Prop) (Q : Int32 → mS → Prop) (K71 : Int32 → Int32 → Int64 → mS → Prop) (hR9 : ∀ (l1 : Int32) (l2 : Int32) (l3 : Int64) (l5 : Int32) (M : mS), R9 l1 l2 l3 l5 M → z_go q_X11_name tg 45 [(1, .int l1), (2, .int l2), (3, .long l3), (5, .int l5), (0, .ref 233)] [] (wz C M o X) 0 0 (zm_i C o X Q)) (hK71 : ∀ (l1 : Int32) (l2 : Int32) (l3 : Int64) (M : mS), K71 l1 l2 l3 M → z_go q_X11_name tg 71 [(1, .int l1), (2, .int l2), (3, .long l3), (0, .ref 233)] [] (wz C M o X) 0 0 (zm_i C o X Q)) (l1 : Int32) (l2 : Int32) (l3 : Int64) (l5 : Int32) (M : mS) (h : b_X11_name_45 R9 Q K71 l1 l2 l3 l5 M) : z_go q_X11_name tg 45 [(1, .int l1), (2, .int l2), (3, .long l3), (5, .int l5), (0, .ref 233)] [] (wz C M o X) 0 0 (zm_i C o X Q) := by
  unfold b_X11_name_45 at h
  refine z_iload 3 47 dX11_name_45 rfl rfl ?_
  refine z_iload_n 1 48 dX11_name_47 rfl rfl ?_
  refine z_icmp_ge 71 51 dX11_name_48 rfl rfl (fun hcz13 => ?_) (fun hcz13 => ?_)
  · replace h := h.1 hcz13
    refine z_pick [(1, .int l1), (2, .int l2), (3, .long l3), (0, .ref 233)] [0, 1, 2, 4] rfl ?_
    exact hK71 l1 l2 l3 M h
  · replace h := h.2 hcz13
    refine z_lload_n 2 52 dX11_name_51 rfl rfl ?_
    refine z_bipush 8 54 dX11_name_52 rfl rfl ?_
    refine z_lshl 55 dX11_name_54 rfl ?_
    refine z_aload_n 4 56 dX11_name_55 rfl rfl ?_
    refine gr_33_28 59 dX11_name_56 of_X11_39 rfl ?_
    refine z_iload 3 61 dX11_name_59 rfl rfl ?_
    obtain ⟨hbz14, h⟩ := h
    refine gma_9 ((m_a M 9) l5.toNatClampNeg) 62 dX11_name_61 hbz14 rfl rfl ?_
    refine z_i2l 63 dX11_name_62 rfl ?_
    refine z_lor 64 dX11_name_63 rfl ?_
    refine z_topl (fun vz15 hvz15 => ?_)
    replace h := h vz15 hvz15
    refine z_lstore_n [(3, .long vz15), (1, .int l1), (2, .int l2), (5, .int l5), (0, .ref 233)] 65 dX11_name_64 (Nat.le_of_ble_eq_true rfl) rfl rfl ?_
    obtain ⟨vz16, hvz16⟩ : ∃ v : Int32, v = l5 + 1 := ⟨_, rfl⟩
    replace h := h vz16 hvz16
    refine z_iinc vz16 [(5, .int vz16), (3, .long vz15), (1, .int l1), (2, .int l2), (0, .ref 233)] 3 68 dX11_name_65 rfl hvz16.symm (Nat.le_of_ble_eq_true rfl) rfl rfl ?_
    refine z_goto 45 dX11_name_68 rfl ?_
    refine z_pick [(1, .int l1), (2, .int l2), (3, .long vz15), (5, .int vz16), (0, .ref 233)] [2, 3, 1, 0, 4] rfl ?_
    exact hR9 l1 l2 vz15 vz16 M h
theorem tw_X11_name_45 (tg : Bool) (C : cS) (o : Nat → Int64) (X : List va_E) (Q : Int32 → mS → Prop) (K71 : Int32 → Int32 → Int64 → mS → Prop) (hK71 : ∀ (l1 : Int32) (l2 : Int32) (l3 : Int64) (M : mS), K71 l1 l2 l3 M → z_go q_X11_name tg 71 [(1, .int l1), (2, .int l2), (3, .long l3), (0, .ref 233)] [] (wz C M o X) 0 0 (zm_i C o X Q)) : ∀ (n : Nat) (l1 : Int32) (l2 : Int32) (l3 : Int64) (l5 : Int32) (M : mS), w_X11_name_45 Q K71 n l1 l2 l3 l5 M → z_go q_X11_name tg 45 [(1, .int l1), (2, .int l2), (3, .long l3), (5, .int l5), (0, .ref 233)] [] (wz C M o X) 0 0 (zm_i C o X Q) := by
  intro n
  induction n with
  | zero => intro l1 l2 l3 l5 M h; exact h.elim
  | succ n ih => intro l1 l2 l3 l5 M h; exact tb_X11_name_45 tg C o X _ Q K71 ih hK71 l1 l2 l3 l5 M h
def b_X11_name_74 (R9 : Int32 → Int32 → Int64 → Int32 → mS → Prop) (Q : Int32 → mS → Prop) (K112 : Int32 → Int32 → Int64 → Int32 → mS → Prop) (l1 : Int32) (l2 : Int32) (l3 : Int64) (l5 : Int32) (M : mS) : Prop :=
  ((26 ≤ l5 → K112 l1 l2 l3 l5 M) ∧ (¬ 26 ≤ l5 → vp_in l5 26 ∧ ((¬ (lg_cmp ((m_l M 0) l5.toNatClampNeg) l3) = 0 → ∀ vz24 : Int32, vz24 = l5 + 1 → R9 l1 l2 l3 vz24 M) ∧ ((lg_cmp ((m_l M 0) l5.toNatClampNeg) l3) = 0 → ((((m_a M 10) l5.toNatClampNeg) = (l2 - l1) → K112 l1 l2 l3 l5 M) ∧ (¬ ((m_a M 10) l5.toNatClampNeg) = (l2 - l1) → ∀ vz26 : Int32, vz26 = l5 + 1 → R9 l1 l2 l3 vz26 M))))))
def w_X11_name_74 (Q : Int32 → mS → Prop) (K112 : Int32 → Int32 → Int64 → Int32 → mS → Prop) : Nat → Int32 → Int32 → Int64 → Int32 → mS → Prop
 | 0 => fun _ _ _ _ _ => False
 | n + 1 => fun l1 l2 l3 l5 M => b_X11_name_74 (w_X11_name_74 Q K112 n) Q K112 l1 l2 l3 l5 M
set_option maxRecDepth 100000 in
set_option maxHeartbeats 4000000 in
theorem tb_X11_name_74 (tg : Bool) (C : cS) (o : Nat → Int64) (X : List va_E) (R9 : Int32 → Int32 → Int64 → Int32 → mS → Prop) (Q : Int32 → mS → Prop) (K112 : Int32 → Int32 → Int64 → Int32 → mS → Prop) (hR9 : ∀ (l1 : Int32) (l2 : Int32) (l3 : Int64) (l5 : Int32) (M : mS), R9 l1 l2 l3 l5 M → z_go q_X11_name tg 74 [(1, .int l1), (2, .int l2), (3, .long l3), (5, .int l5), (0, .ref 233)] [] (wz C M o X) 0 0 (zm_i C o X Q)) (hK112 : ∀ (l1 : Int32) (l2 : Int32) (l3 : Int64) (l5 : Int32) (M : mS), K112 l1 l2 l3 l5 M → z_go q_X11_name tg 112 [(1, .int l1), (2, .int l2), (3, .long l3), (5, .int l5), (0, .ref 233)] [] (wz C M o X) 0 0 (zm_i C o X Q)) (l1 : Int32) (l2 : Int32) (l3 : Int64) (l5 : Int32) (M : mS) (h : b_X11_name_74 R9 Q K112 l1 l2 l3 l5 M) : z_go q_X11_name tg 74 [(1, .int l1), (2, .int l2), (3, .long l3), (5, .int l5), (0, .ref 233)] [] (wz C M o X) 0 0 (zm_i C o X Q) := by
  unfold b_X11_name_74 at h
  refine z_iload 3 76 dX11_name_74 rfl rfl ?_
  refine z_bipush 26 78 dX11_name_76 rfl rfl ?_
  refine z_icmp_ge 112 81 dX11_name_78 rfl rfl (fun hcz21 => ?_) (fun hcz21 => ?_)
  · replace h := h.1 hcz21
    refine z_pick [(1, .int l1), (2, .int l2), (3, .long l3), (5, .int l5), (0, .ref 233)] [0, 1, 2, 3, 4] rfl ?_
    exact hK112 l1 l2 l3 l5 M h
  · replace h := h.2 hcz21
    refine z_aload_n 4 82 dX11_name_81 rfl rfl ?_
    refine gr_33_30 85 dX11_name_82 of_X11_42 rfl ?_
    refine z_iload 3 87 dX11_name_85 rfl rfl ?_
    obtain ⟨hbz22, h⟩ := h
    refine gml_0 ((m_l M 0) l5.toNatClampNeg) 88 dX11_name_87 hbz22 rfl rfl ?_
    refine z_lload_n 2 89 dX11_name_88 rfl rfl ?_
    refine z_lcmp 90 dX11_name_89 rfl ?_
    refine z_if_ne 106 93 dX11_name_90 rfl rfl (fun hcz23 => ?_) (fun hcz23 => ?_)
    · replace h := h.1 hcz23
      obtain ⟨vz24, hvz24⟩ : ∃ v : Int32, v = l5 + 1 := ⟨_, rfl⟩
      replace h := h vz24 hvz24
      refine z_iinc vz24 [(5, .int vz24), (1, .int l1), (2, .int l2), (3, .long l3), (0, .ref 233)] 3 109 dX11_name_106 rfl hvz24.symm (Nat.le_of_ble_eq_true rfl) rfl rfl ?_
      refine z_goto 74 dX11_name_109 rfl ?_
      refine z_pick [(1, .int l1), (2, .int l2), (3, .long l3), (5, .int vz24), (0, .ref 233)] [1, 2, 3, 0, 4] rfl ?_
      exact hR9 l1 l2 l3 vz24 M h
    · replace h := h.2 hcz23
      refine z_aload_n 4 94 dX11_name_93 rfl rfl ?_
      refine gr_33_31 97 dX11_name_94 of_X11_46 rfl ?_
      refine z_iload 3 99 dX11_name_97 rfl rfl ?_
      refine gma_10 ((m_a M 10) l5.toNatClampNeg) 100 dX11_name_99 hbz22 rfl rfl ?_
      refine z_iload_n 1 101 dX11_name_100 rfl rfl ?_
      refine z_iload_n 0 102 dX11_name_101 rfl rfl ?_
      refine z_isub 103 dX11_name_102 rfl ?_
      refine z_icmp_eq 112 106 dX11_name_103 rfl rfl (fun hcz25 => ?_) (fun hcz25 => ?_)
      · replace h := h.1 hcz25
        refine z_pick [(1, .int l1), (2, .int l2), (3, .long l3), (5, .int l5), (0, .ref 233)] [0, 1, 2, 3, 4] rfl ?_
        exact hK112 l1 l2 l3 l5 M h
      · replace h := h.2 hcz25
        obtain ⟨vz26, hvz26⟩ : ∃ v : Int32, v = l5 + 1 := ⟨_, rfl⟩
        replace h := h vz26 hvz26
        refine z_iinc vz26 [(5, .int vz26), (1, .int l1), (2, .int l2), (3, .long l3), (0, .ref 233)] 3 109 dX11_name_106 rfl hvz26.symm (Nat.le_of_ble_eq_true rfl) rfl rfl ?_
        refine z_goto 74 dX11_name_109 rfl ?_
        refine z_pick [(1, .int l1), (2, .int l2), (3, .long l3), (5, .int vz26), (0, .ref 233)] [1, 2, 3, 0, 4] rfl ?_
        exact hR9 l1 l2 l3 vz26 M h
theorem tw_X11_name_74 (tg : Bool) (C : cS) (o : Nat → Int64) (X : List va_E) (Q : Int32 → mS → Prop) (K112 : Int32 → Int32 → Int64 → Int32 → mS → Prop) (hK112 : ∀ (l1 : Int32) (l2 : Int32) (l3 : Int64) (l5 : Int32) (M : mS), K112 l1 l2 l3 l5 M → z_go q_X11_name tg 112 [(1, .int l1), (2, .int l2), (3, .long l3), (5, .int l5), (0, .ref 233)] [] (wz C M o X) 0 0 (zm_i C o X Q)) : ∀ (n : Nat) (l1 : Int32) (l2 : Int32) (l3 : Int64) (l5 : Int32) (M : mS), w_X11_name_74 Q K112 n l1 l2 l3 l5 M → z_go q_X11_name tg 74 [(1, .int l1), (2, .int l2), (3, .long l3), (5, .int l5), (0, .ref 233)] [] (wz C M o X) 0 0 (zm_i C o X Q) := by
  intro n
  induction n with
  | zero => intro l1 l2 l3 l5 M h; exact h.elim
  | succ n ih => intro l1 l2 l3 l5 M h; exact tb_X11_name_74 tg C o X _ Q K112 ih hK112 l1 l2 l3 l5 M h
def j_X11_name_144 (Q : Int32 → mS → Prop) (l1 : Int32) (l2 : Int32) (l3 : Int64) (l5 : Int32) (s0 : Int32) (M : mS) : Prop :=
  p_X11_token s0 l1 (l2 - l1) M (fun Mz34 => vp_in ((m_i Mz34 20) - 1) 2001 ∧ ((26 ≤ l5 → Q l2 (m_aU (m_lU Mz34 1 ((m_i Mz34 20) - 1) l3) 14 ((m_i Mz34 20) - 1) (((l3 : Int64).toInt32) - 97))) ∧ (¬ 26 ≤ l5 → Q l2 (m_aU (m_lU Mz34 1 ((m_i Mz34 20) - 1) l3) 14 ((m_i Mz34 20) - 1) l5))))
set_option maxRecDepth 100000 in
set_option maxHeartbeats 4000000 in
theorem tj_X11_name_144 (tg : Bool) (C : cS) (o : Nat → Int64) (X : List va_E) (Q : Int32 → mS → Prop) (l1 : Int32) (l2 : Int32) (l3 : Int64) (l5 : Int32) (s0 : Int32) (M : mS) (h : j_X11_name_144 Q l1 l2 l3 l5 s0 M) : z_go q_X11_name tg 144 [(1, .int l1), (2, .int l2), (3, .long l3), (5, .int l5), (0, .ref 233)] [.int s0, .ref 233] (wz C M o X) 0 0 (zm_i C o X Q) := by
  unfold j_X11_name_144 at h
  refine z_iload_n 0 145 dX11_name_144 rfl rfl ?_
  refine z_iload_n 1 146 dX11_name_145 rfl rfl ?_
  refine z_iload_n 0 147 dX11_name_146 rfl rfl ?_
  refine z_isub 148 dX11_name_147 rfl ?_
  refine z_mvV [.int s0, .int l1, .int (l2 - l1)] 151 dX11_name_148 ok_X11_name_281 rfl rfl (Nat.le_of_ble_eq_true rfl) rc_33 ⟨rfl, rfl⟩ ⟨Nat.le_refl _, Nat.le_refl _⟩ rfl (t_X11_token tg C o X s0 l1 (l2 - l1) M _ h) (fun Mz34 h => ?_)
  refine z_aload_n 4 152 dX11_name_151 rfl rfl ?_
  refine gr_33_35 155 dX11_name_152 of_X11_58 rfl ?_
  refine z_aload_n 4 156 dX11_name_155 rfl rfl ?_
  refine gmi_20 (m_i Mz34 20) 159 dX11_name_156 of_X11_266 rfl rfl ?_
  refine z_iconst 1 160 dX11_name_159 rfl rfl ?_
  refine z_isub 161 dX11_name_160 rfl ?_
  refine z_lload_n 2 162 dX11_name_161 rfl rfl ?_
  obtain ⟨hbz35, h⟩ := h
  refine pml_1 163 dX11_name_162 hbz35 rfl ?_
  refine z_aload_n 4 164 dX11_name_163 rfl rfl ?_
  refine gr_33_36 167 dX11_name_164 of_X11_61 rfl ?_
  refine z_aload_n 4 168 dX11_name_167 rfl rfl ?_
  refine gmi_20 (m_i Mz34 20) 171 dX11_name_168 of_X11_266 rfl rfl ?_
  refine z_iconst 1 172 dX11_name_171 rfl rfl ?_
  refine z_isub 173 dX11_name_172 rfl ?_
  refine z_iload 3 175 dX11_name_173 rfl rfl ?_
  refine z_bipush 26 177 dX11_name_175 rfl rfl ?_
  refine z_icmp_ge 185 180 dX11_name_177 rfl rfl (fun hcz36 => ?_) (fun hcz36 => ?_)
  · replace h := h.1 hcz36
    refine z_lload_n 2 186 dX11_name_185 rfl rfl ?_
    refine z_l2i 187 dX11_name_186 rfl ?_
    refine z_bipush 97 189 dX11_name_187 rfl rfl ?_
    refine z_isub 190 dX11_name_189 rfl ?_
    refine pma_14 191 dX11_name_190 hbz35 rfl ?_
    refine z_iload_n 1 192 dX11_name_191 rfl rfl ?_
    exact z_iret dX11_name_192 rfl ⟨Nat.le_refl _, Nat.le_refl _⟩ ⟨l2, (m_aU (m_lU Mz34 1 ((m_i Mz34 20) - 1) l3) 14 ((m_i Mz34 20) - 1) (((l3 : Int64).toInt32) - 97)), rfl, rfl, h⟩
  · replace h := h.2 hcz36
    refine z_iload 3 182 dX11_name_180 rfl rfl ?_
    refine z_goto 190 dX11_name_182 rfl ?_
    refine pma_14 191 dX11_name_190 hbz35 rfl ?_
    refine z_iload_n 1 192 dX11_name_191 rfl rfl ?_
    exact z_iret dX11_name_192 rfl ⟨Nat.le_refl _, Nat.le_refl _⟩ ⟨l2, (m_aU (m_lU Mz34 1 ((m_i Mz34 20) - 1) l3) 14 ((m_i Mz34 20) - 1) l5), rfl, rfl, h⟩
def j_X11_name_143 (Q : Int32 → mS → Prop) (l1 : Int32) (l2 : Int32) (l3 : Int64) (l5 : Int32) (M : mS) : Prop :=
  j_X11_name_144 Q l1 l2 l3 l5 3 M
set_option maxRecDepth 100000 in
set_option maxHeartbeats 4000000 in
theorem tj_X11_name_143 (tg : Bool) (C : cS) (o : Nat → Int64) (X : List va_E) (Q : Int32 → mS → Prop) (l1 : Int32) (l2 : Int32) (l3 : Int64) (l5 : Int32) (M : mS) (h : j_X11_name_143 Q l1 l2 l3 l5 M) : z_go q_X11_name tg 143 [(1, .int l1), (2, .int l2), (3, .long l3), (5, .int l5), (0, .ref 233)] [.ref 233] (wz C M o X) 0 0 (zm_i C o X Q) := by
  unfold j_X11_name_143 at h
  refine z_iconst 3 144 dX11_name_143 rfl rfl ?_
  refine z_pick [(1, .int l1), (2, .int l2), (3, .long l3), (5, .int l5), (0, .ref 233)] [0, 1, 2, 3, 4] rfl ?_
  exact tj_X11_name_144 tg C o X Q l1 l2 l3 l5 3 M h
def p_X11_name (a1 : Int32) (M : mS) (Q : Int32 → mS → Prop) : Prop :=
  ∃ nz41 : Nat, w_X11_name_2 Q (fun lz9 lz10 Mz11 => (((lz10 - lz9) ≤ 8 → ∃ nz39 : Nat, w_X11_name_45 Q (fun lz17 lz18 lz19 Mz20 => ∃ nz38 : Nat, w_X11_name_74 Q (fun lz27 lz28 lz29 lz30 Mz31 => ((26 ≤ lz30 → ((¬ (lz28 - lz27) = 1 → j_X11_name_143 Q lz27 lz28 lz29 lz30 Mz31) ∧ ((lz28 - lz27) = 1 → ((0 < (lg_cmp lz29 104) → j_X11_name_143 Q lz27 lz28 lz29 lz30 Mz31) ∧ (¬ 0 < (lg_cmp lz29 104) → j_X11_name_144 Q lz27 lz28 lz29 lz30 2 Mz31))))) ∧ (¬ 26 ≤ lz30 → j_X11_name_144 Q lz27 lz28 lz29 lz30 1 Mz31))) nz38 lz17 lz18 lz19 0 Mz20) nz39 lz9 lz10 0 lz9 Mz11) ∧ (¬ (lz10 - lz9) ≤ 8 → p_X11_fails 1 lz9 Mz11 (fun Mz40 => Q lz10 Mz40)))) nz41 a1 a1 M
set_option maxRecDepth 100000 in
set_option maxHeartbeats 4000000 in
theorem t_X11_name (tg : Bool) (C : cS) (o : Nat → Int64) (X : List va_E) (a1 : Int32) (M : mS) (Q : Int32 → mS → Prop) (h : p_X11_name a1 M Q) : z_M q_X11_name tg [.ref 233, .int a1] (wz C M o X) (zm_i C o X Q) := by
  unfold p_X11_name at h
  refine z_enter (by decide) (Nat.le_of_ble_eq_true rfl) ?_
  refine z_iload_n 1 1 dX11_name_0 rfl rfl ?_
  refine z_istore_n [(2, .int a1), (0, .ref 233), (1, .int a1)] 2 dX11_name_1 (Nat.le_of_ble_eq_true rfl) rfl rfl ?_
  obtain ⟨nz41, h⟩ := h
  refine z_pick [(1, .int a1), (2, .int a1), (0, .ref 233)] [2, 0, 1] rfl ?_
  refine tw_X11_name_2 tg C o X Q _ (fun lz9 lz10 Mz11 h => ?_) nz41 a1 a1 M h
  · refine z_iload_n 1 25 dX11_name_24 rfl rfl ?_
    refine z_iload_n 0 26 dX11_name_25 rfl rfl ?_
    refine z_isub 27 dX11_name_26 rfl ?_
    refine z_bipush 8 29 dX11_name_27 rfl rfl ?_
    refine z_icmp_le 40 32 dX11_name_29 rfl rfl (fun hcz12 => ?_) (fun hcz12 => ?_)
    · replace h := h.1 hcz12
      refine z_lconst 0 41 dX11_name_40 rfl rfl ?_
      refine z_lstore_n [(3, .long 0), (1, .int lz9), (2, .int lz10), (0, .ref 233)] 42 dX11_name_41 (Nat.le_of_ble_eq_true rfl) rfl rfl ?_
      refine z_iload_n 1 43 dX11_name_42 rfl rfl ?_
      refine z_istore [(5, .int lz9), (3, .long 0), (1, .int lz9), (2, .int lz10), (0, .ref 233)] 45 dX11_name_43 (Nat.le_of_ble_eq_true rfl) rfl rfl ?_
      obtain ⟨nz39, h⟩ := h
      refine z_pick [(1, .int lz9), (2, .int lz10), (3, .long 0), (5, .int lz9), (0, .ref 233)] [2, 3, 1, 0, 4] rfl ?_
      refine tw_X11_name_45 tg C o X Q _ (fun lz17 lz18 lz19 Mz20 h => ?_) nz39 lz9 lz10 0 lz9 Mz11 h
      · refine z_iconst 0 72 dX11_name_71 rfl rfl ?_
        refine z_istore [(5, .int 0), (1, .int lz17), (2, .int lz18), (3, .long lz19), (0, .ref 233)] 74 dX11_name_72 (Nat.le_of_ble_eq_true rfl) rfl rfl ?_
        obtain ⟨nz38, h⟩ := h
        refine z_pick [(1, .int lz17), (2, .int lz18), (3, .long lz19), (5, .int 0), (0, .ref 233)] [1, 2, 3, 0, 4] rfl ?_
        refine tw_X11_name_74 tg C o X Q _ (fun lz27 lz28 lz29 lz30 Mz31 h => ?_) nz38 lz17 lz18 lz19 0 Mz20 h
        · refine z_aload_n 4 113 dX11_name_112 rfl rfl ?_
          refine z_iload 3 115 dX11_name_113 rfl rfl ?_
          refine z_bipush 26 117 dX11_name_115 rfl rfl ?_
          refine z_icmp_ge 124 120 dX11_name_117 rfl rfl (fun hcz32 => ?_) (fun hcz32 => ?_)
          · replace h := h.1 hcz32
            refine z_iload_n 1 125 dX11_name_124 rfl rfl ?_
            refine z_iload_n 0 126 dX11_name_125 rfl rfl ?_
            refine z_isub 127 dX11_name_126 rfl ?_
            refine z_iconst 1 128 dX11_name_127 rfl rfl ?_
            refine z_icmp_ne 143 131 dX11_name_128 rfl rfl (fun hcz33 => ?_) (fun hcz33 => ?_)
            · replace h := h.1 hcz33
              refine z_pick [(1, .int lz27), (2, .int lz28), (3, .long lz29), (5, .int lz30), (0, .ref 233)] [0, 1, 2, 3, 4] rfl ?_
              exact tj_X11_name_143 tg C o X Q lz27 lz28 lz29 lz30 Mz31 h
            · replace h := h.2 hcz33
              refine z_lload_n 2 132 dX11_name_131 rfl rfl ?_
              refine z_ldc2 104 135 dX11_name_132 oc_X11_279 rfl ?_
              refine z_lcmp 136 dX11_name_135 rfl ?_
              refine z_if_gt 143 139 dX11_name_136 rfl rfl (fun hcz37 => ?_) (fun hcz37 => ?_)
              · replace h := h.1 hcz37
                refine z_pick [(1, .int lz27), (2, .int lz28), (3, .long lz29), (5, .int lz30), (0, .ref 233)] [0, 1, 2, 3, 4] rfl ?_
                exact tj_X11_name_143 tg C o X Q lz27 lz28 lz29 lz30 Mz31 h
              · replace h := h.2 hcz37
                refine z_iconst 2 140 dX11_name_139 rfl rfl ?_
                refine z_goto 144 dX11_name_140 rfl ?_
                refine z_pick [(1, .int lz27), (2, .int lz28), (3, .long lz29), (5, .int lz30), (0, .ref 233)] [0, 1, 2, 3, 4] rfl ?_
                exact tj_X11_name_144 tg C o X Q lz27 lz28 lz29 lz30 2 Mz31 h
          · replace h := h.2 hcz32
            refine z_iconst 1 121 dX11_name_120 rfl rfl ?_
            refine z_goto 144 dX11_name_121 rfl ?_
            refine z_pick [(1, .int lz27), (2, .int lz28), (3, .long lz29), (5, .int lz30), (0, .ref 233)] [0, 1, 2, 3, 4] rfl ?_
            exact tj_X11_name_144 tg C o X Q lz27 lz28 lz29 lz30 1 Mz31 h
    · replace h := h.2 hcz12
      refine z_aload_n 2 33 dX11_name_32 rfl rfl ?_
      refine z_iconst 1 34 dX11_name_33 rfl rfl ?_
      refine z_iload_n 0 35 dX11_name_34 rfl rfl ?_
      refine z_mvV [.int 1, .int lz9] 38 dX11_name_35 ok_X11_name_275 rfl rfl (Nat.le_of_ble_eq_true rfl) rc_33 ⟨rfl, rfl⟩ ⟨Nat.le_refl _, Nat.le_refl _⟩ rfl (t_X11_fails tg C o X 1 lz9 Mz11 _ h) (fun Mz40 h => ?_)
      refine z_iload_n 1 39 dX11_name_38 rfl rfl ?_
      exact z_iret dX11_name_39 rfl ⟨Nat.le_refl _, Nat.le_refl _⟩ ⟨lz10, Mz40, rfl, rfl, h⟩
def b_X11_number_24 (R9 : Int32 → Int32 → Int32 → Int64 → mS → Prop) (Q : Int32 → mS → Prop) (K66 : Int32 → Int32 → Int32 → Int64 → mS → Prop) (l1 : Int32) (l2 : Int32) (l3 : Int32) (l4 : Int64) (M : mS) : Prop :=
  p_X11_isDigit l2 M (fun rz4 Mz3 => ((rz4 = 0 → K66 l1 l2 l3 l4 Mz3) ∧ (¬ rz4 = 0 → ((10 ≤ (l2 - l3) → ∀ vz7 : Int32, vz7 = l2 + 1 → R9 l1 vz7 l3 l4 Mz3) ∧ (¬ 10 ≤ (l2 - l3) → vp_in l2 2000 ∧ ∀ vz9 : Int64, vz9 = ((10 * l4) + (((m_a Mz3 9) l2.toNatClampNeg : Int32).toInt64)) - 48 → ∀ vz10 : Int32, vz10 = l2 + 1 → R9 l1 vz10 l3 vz9 Mz3)))))
def w_X11_number_24 (Q : Int32 → mS → Prop) (K66 : Int32 → Int32 → Int32 → Int64 → mS → Prop) : Nat → Int32 → Int32 → Int32 → Int64 → mS → Prop
 | 0 => fun _ _ _ _ _ => False
 | n + 1 => fun l1 l2 l3 l4 M => b_X11_number_24 (w_X11_number_24 Q K66 n) Q K66 l1 l2 l3 l4 M
set_option maxRecDepth 100000 in
set_option maxHeartbeats 4000000 in
theorem tb_X11_number_24 (tg : Bool) (C : cS) (o : Nat → Int64) (X : List va_E) (R9 : Int32 → Int32 → Int32 → Int64 → mS → Prop) (Q : Int32 → mS → Prop) (K66 : Int32 → Int32 → Int32 → Int64 → mS → Prop) (hR9 : ∀ (l1 : Int32) (l2 : Int32) (l3 : Int32) (l4 : Int64) (M : mS), R9 l1 l2 l3 l4 M → z_go q_X11_number tg 24 [(1, .int l1), (2, .int l2), (3, .int l3), (4, .long l4), (0, .ref 233)] [] (wz C M o X) 0 0 (zm_i C o X Q)) (hK66 : ∀ (l1 : Int32) (l2 : Int32) (l3 : Int32) (l4 : Int64) (M : mS), K66 l1 l2 l3 l4 M → z_go q_X11_number tg 66 [(1, .int l1), (2, .int l2), (3, .int l3), (4, .long l4), (0, .ref 233)] [] (wz C M o X) 0 0 (zm_i C o X Q)) (l1 : Int32) (l2 : Int32) (l3 : Int32) (l4 : Int64) (M : mS) (h : b_X11_number_24 R9 Q K66 l1 l2 l3 l4 M) : z_go q_X11_number tg 24 [(1, .int l1), (2, .int l2), (3, .int l3), (4, .long l4), (0, .ref 233)] [] (wz C M o X) 0 0 (zm_i C o X Q) := by
  unfold b_X11_number_24 at h
  refine z_aload_n 4 25 dX11_number_24 rfl rfl ?_
  refine z_iload_n 1 26 dX11_number_25 rfl rfl ?_
  refine z_miV [.int l2] 29 dX11_number_26 ok_X11_number_272 rfl rfl (Nat.le_of_ble_eq_true rfl) rc_33 ⟨rfl, rfl⟩ ⟨Nat.le_refl _, Nat.le_refl _⟩ rfl (t_X11_isDigit tg C o X l2 M _ h) (fun rz4 Mz3 h => ?_)
  refine z_if_eq 66 32 dX11_number_29 rfl rfl (fun hcz5 => ?_) (fun hcz5 => ?_)
  · replace h := h.1 hcz5
    refine z_pick [(1, .int l1), (2, .int l2), (3, .int l3), (4, .long l4), (0, .ref 233)] [0, 1, 2, 3, 4] rfl ?_
    exact hK66 l1 l2 l3 l4 Mz3 h
  · replace h := h.2 hcz5
    refine z_iload_n 1 33 dX11_number_32 rfl rfl ?_
    refine z_iload_n 2 34 dX11_number_33 rfl rfl ?_
    refine z_isub 35 dX11_number_34 rfl ?_
    refine z_bipush 10 37 dX11_number_35 rfl rfl ?_
    refine z_icmp_ge 60 40 dX11_number_37 rfl rfl (fun hcz6 => ?_) (fun hcz6 => ?_)
    · replace h := h.1 hcz6
      obtain ⟨vz7, hvz7⟩ : ∃ v : Int32, v = l2 + 1 := ⟨_, rfl⟩
      replace h := h vz7 hvz7
      refine z_iinc vz7 [(2, .int vz7), (1, .int l1), (3, .int l3), (4, .long l4), (0, .ref 233)] 1 63 dX11_number_60 rfl hvz7.symm (Nat.le_of_ble_eq_true rfl) rfl rfl ?_
      refine z_goto 24 dX11_number_63 rfl ?_
      refine z_pick [(1, .int l1), (2, .int vz7), (3, .int l3), (4, .long l4), (0, .ref 233)] [1, 0, 2, 3, 4] rfl ?_
      exact hR9 l1 vz7 l3 l4 Mz3 h
    · replace h := h.2 hcz6
      refine z_ldc2 10 43 dX11_number_40 oc_X11_284 rfl ?_
      refine z_lload 3 45 dX11_number_43 rfl rfl ?_
      refine z_lmul 46 dX11_number_45 rfl ?_
      refine z_aload_n 4 47 dX11_number_46 rfl rfl ?_
      refine gr_33_28 50 dX11_number_47 of_X11_39 rfl ?_
      refine z_iload_n 1 51 dX11_number_50 rfl rfl ?_
      obtain ⟨hbz8, h⟩ := h
      refine gma_9 ((m_a Mz3 9) l2.toNatClampNeg) 52 dX11_number_51 hbz8 rfl rfl ?_
      refine z_i2l 53 dX11_number_52 rfl ?_
      refine z_ladd 54 dX11_number_53 rfl ?_
      refine z_ldc2 48 57 dX11_number_54 oc_X11_286 rfl ?_
      refine z_lsub 58 dX11_number_57 rfl ?_
      refine z_topl (fun vz9 hvz9 => ?_)
      replace h := h vz9 hvz9
      refine z_lstore [(4, .long vz9), (1, .int l1), (2, .int l2), (3, .int l3), (0, .ref 233)] 60 dX11_number_58 (Nat.le_of_ble_eq_true rfl) rfl rfl ?_
      obtain ⟨vz10, hvz10⟩ : ∃ v : Int32, v = l2 + 1 := ⟨_, rfl⟩
      replace h := h vz10 hvz10
      refine z_iinc vz10 [(2, .int vz10), (4, .long vz9), (1, .int l1), (3, .int l3), (0, .ref 233)] 2 63 dX11_number_60 rfl hvz10.symm (Nat.le_of_ble_eq_true rfl) rfl rfl ?_
      refine z_goto 24 dX11_number_63 rfl ?_
      refine z_pick [(1, .int l1), (2, .int vz10), (3, .int l3), (4, .long vz9), (0, .ref 233)] [2, 0, 3, 1, 4] rfl ?_
      exact hR9 l1 vz10 l3 vz9 Mz3 h
theorem tw_X11_number_24 (tg : Bool) (C : cS) (o : Nat → Int64) (X : List va_E) (Q : Int32 → mS → Prop) (K66 : Int32 → Int32 → Int32 → Int64 → mS → Prop) (hK66 : ∀ (l1 : Int32) (l2 : Int32) (l3 : Int32) (l4 : Int64) (M : mS), K66 l1 l2 l3 l4 M → z_go q_X11_number tg 66 [(1, .int l1), (2, .int l2), (3, .int l3), (4, .long l4), (0, .ref 233)] [] (wz C M o X) 0 0 (zm_i C o X Q)) : ∀ (n : Nat) (l1 : Int32) (l2 : Int32) (l3 : Int32) (l4 : Int64) (M : mS), w_X11_number_24 Q K66 n l1 l2 l3 l4 M → z_go q_X11_number tg 24 [(1, .int l1), (2, .int l2), (3, .int l3), (4, .long l4), (0, .ref 233)] [] (wz C M o X) 0 0 (zm_i C o X Q) := by
  intro n
  induction n with
  | zero => intro l1 l2 l3 l4 M h; exact h.elim
  | succ n ih => intro l1 l2 l3 l4 M h; exact tb_X11_number_24 tg C o X _ Q K66 ih hK66 l1 l2 l3 l4 M h
def j_X11_number_107 (Q : Int32 → mS → Prop) (l1 : Int32) (l2 : Int32) (l4 : Int64) (M : mS) : Prop :=
  p_X11_fails 1 l1 M (fun Mz18 => p_X11_good Mz18 (fun rz20 Mz19 => ((rz20 = 0 → Q l2 Mz19) ∧ (¬ rz20 = 0 → vp_in ((m_i Mz19 20) - 1) 2001 ∧ Q l2 (m_aU Mz19 14 ((m_i Mz19 20) - 1) ((l4 : Int64).toInt32))))))
set_option maxRecDepth 100000 in
set_option maxHeartbeats 4000000 in
theorem tj_X11_number_107 (tg : Bool) (C : cS) (o : Nat → Int64) (X : List va_E) (Q : Int32 → mS → Prop) (l1 : Int32) (l2 : Int32) (l4 : Int64) (M : mS) (h : j_X11_number_107 Q l1 l2 l4 M) : z_go q_X11_number tg 107 [(1, .int l1), (2, .int l2), (4, .long l4), (0, .ref 233)] [] (wz C M o X) 0 0 (zm_i C o X Q) := by
  unfold j_X11_number_107 at h
  refine z_aload_n 3 108 dX11_number_107 rfl rfl ?_
  refine z_iconst 1 109 dX11_number_108 rfl rfl ?_
  refine z_iload_n 0 110 dX11_number_109 rfl rfl ?_
  refine z_mvV [.int 1, .int l1] 113 dX11_number_110 ok_X11_number_275 rfl rfl (Nat.le_of_ble_eq_true rfl) rc_33 ⟨rfl, rfl⟩ ⟨Nat.le_refl _, Nat.le_refl _⟩ rfl (t_X11_fails tg C o X 1 l1 M _ h) (fun Mz18 h => ?_)
  refine z_goto 125 dX11_number_113 rfl ?_
  refine z_aload_n 3 126 dX11_number_125 rfl rfl ?_
  refine z_miV [] 129 dX11_number_126 ok_X11_number_292 rfl rfl (Nat.le_of_ble_eq_true rfl) rc_33 ⟨rfl, rfl⟩ ⟨Nat.le_refl _, Nat.le_refl _⟩ rfl (t_X11_good tg C o X  Mz18 _ h) (fun rz20 Mz19 h => ?_)
  refine z_if_eq 146 132 dX11_number_129 rfl rfl (fun hcz21 => ?_) (fun hcz21 => ?_)
  · replace h := h.1 hcz21
    refine z_iload_n 1 147 dX11_number_146 rfl rfl ?_
    exact z_iret dX11_number_147 rfl ⟨Nat.le_refl _, Nat.le_refl _⟩ ⟨l2, Mz19, rfl, rfl, h⟩
  · replace h := h.2 hcz21
    refine z_aload_n 3 133 dX11_number_132 rfl rfl ?_
    refine gr_33_36 136 dX11_number_133 of_X11_61 rfl ?_
    refine z_aload_n 3 137 dX11_number_136 rfl rfl ?_
    refine gmi_20 (m_i Mz19 20) 140 dX11_number_137 of_X11_266 rfl rfl ?_
    refine z_iconst 1 141 dX11_number_140 rfl rfl ?_
    refine z_isub 142 dX11_number_141 rfl ?_
    refine z_lload 2 144 dX11_number_142 rfl rfl ?_
    refine z_l2i 145 dX11_number_144 rfl ?_
    obtain ⟨hbz22, h⟩ := h
    refine pma_14 146 dX11_number_145 hbz22 rfl ?_
    refine z_iload_n 1 147 dX11_number_146 rfl rfl ?_
    exact z_iret dX11_number_147 rfl ⟨Nat.le_refl _, Nat.le_refl _⟩ ⟨l2, (m_aU Mz19 14 ((m_i Mz19 20) - 1) ((l4 : Int64).toInt32)), rfl, rfl, h⟩
def j_X11_number_76 (Q : Int32 → mS → Prop) (l1 : Int32) (l2 : Int32) (l3 : Int32) (l4 : Int64) (M : mS) : Prop :=
  ((l2 = l3 → j_X11_number_107 Q l1 l2 l4 M) ∧ (¬ l2 = l3 → ((10 < (l2 - l3) → j_X11_number_107 Q l1 l2 l4 M) ∧ (¬ 10 < (l2 - l3) → (((lg_cmp l4 (-2147483648)) < 0 → j_X11_number_107 Q l1 l2 l4 M) ∧ (¬ (lg_cmp l4 (-2147483648)) < 0 → (((lg_cmp l4 2147483647) ≤ 0 → p_X11_token 4 l1 (l2 - l1) M (fun Mz26 => p_X11_good Mz26 (fun rz28 Mz27 => ((rz28 = 0 → Q l2 Mz27) ∧ (¬ rz28 = 0 → vp_in ((m_i Mz27 20) - 1) 2001 ∧ Q l2 (m_aU Mz27 14 ((m_i Mz27 20) - 1) ((l4 : Int64).toInt32))))))) ∧ (¬ (lg_cmp l4 2147483647) ≤ 0 → j_X11_number_107 Q l1 l2 l4 M))))))))
set_option maxRecDepth 100000 in
set_option maxHeartbeats 4000000 in
theorem tj_X11_number_76 (tg : Bool) (C : cS) (o : Nat → Int64) (X : List va_E) (Q : Int32 → mS → Prop) (l1 : Int32) (l2 : Int32) (l3 : Int32) (l4 : Int64) (M : mS) (h : j_X11_number_76 Q l1 l2 l3 l4 M) : z_go q_X11_number tg 76 [(1, .int l1), (2, .int l2), (3, .int l3), (4, .long l4), (0, .ref 233)] [] (wz C M o X) 0 0 (zm_i C o X Q) := by
  unfold j_X11_number_76 at h
  refine z_iload_n 1 77 dX11_number_76 rfl rfl ?_
  refine z_iload_n 2 78 dX11_number_77 rfl rfl ?_
  refine z_icmp_eq 107 81 dX11_number_78 rfl rfl (fun hcz17 => ?_) (fun hcz17 => ?_)
  · replace h := h.1 hcz17
    refine z_pick [(1, .int l1), (2, .int l2), (4, .long l4), (0, .ref 233)] [0, 1, 3, 4] rfl ?_
    exact tj_X11_number_107 tg C o X Q l1 l2 l4 M h
  · replace h := h.2 hcz17
    refine z_iload_n 1 82 dX11_number_81 rfl rfl ?_
    refine z_iload_n 2 83 dX11_number_82 rfl rfl ?_
    refine z_isub 84 dX11_number_83 rfl ?_
    refine z_bipush 10 86 dX11_number_84 rfl rfl ?_
    refine z_icmp_gt 107 89 dX11_number_86 rfl rfl (fun hcz23 => ?_) (fun hcz23 => ?_)
    · replace h := h.1 hcz23
      refine z_pick [(1, .int l1), (2, .int l2), (4, .long l4), (0, .ref 233)] [0, 1, 3, 4] rfl ?_
      exact tj_X11_number_107 tg C o X Q l1 l2 l4 M h
    · replace h := h.2 hcz23
      refine z_lload 3 91 dX11_number_89 rfl rfl ?_
      refine z_ldc2 (-2147483648) 94 dX11_number_91 oc_X11_288 rfl ?_
      refine z_lcmp 95 dX11_number_94 rfl ?_
      refine z_if_lt 107 98 dX11_number_95 rfl rfl (fun hcz24 => ?_) (fun hcz24 => ?_)
      · replace h := h.1 hcz24
        refine z_pick [(1, .int l1), (2, .int l2), (4, .long l4), (0, .ref 233)] [0, 1, 3, 4] rfl ?_
        exact tj_X11_number_107 tg C o X Q l1 l2 l4 M h
      · replace h := h.2 hcz24
        refine z_lload 3 100 dX11_number_98 rfl rfl ?_
        refine z_ldc2 2147483647 103 dX11_number_100 oc_X11_290 rfl ?_
        refine z_lcmp 104 dX11_number_103 rfl ?_
        refine z_if_le 116 107 dX11_number_104 rfl rfl (fun hcz25 => ?_) (fun hcz25 => ?_)
        · replace h := h.1 hcz25
          refine z_aload_n 4 117 dX11_number_116 rfl rfl ?_
          refine z_iconst 4 118 dX11_number_117 rfl rfl ?_
          refine z_iload_n 0 119 dX11_number_118 rfl rfl ?_
          refine z_iload_n 1 120 dX11_number_119 rfl rfl ?_
          refine z_iload_n 0 121 dX11_number_120 rfl rfl ?_
          refine z_isub 122 dX11_number_121 rfl ?_
          refine z_mvV [.int 4, .int l1, .int (l2 - l1)] 125 dX11_number_122 ok_X11_number_281 rfl rfl (Nat.le_of_ble_eq_true rfl) rc_33 ⟨rfl, rfl⟩ ⟨Nat.le_refl _, Nat.le_refl _⟩ rfl (t_X11_token tg C o X 4 l1 (l2 - l1) M _ h) (fun Mz26 h => ?_)
          refine z_aload_n 4 126 dX11_number_125 rfl rfl ?_
          refine z_miV [] 129 dX11_number_126 ok_X11_number_292 rfl rfl (Nat.le_of_ble_eq_true rfl) rc_33 ⟨rfl, rfl⟩ ⟨Nat.le_refl _, Nat.le_refl _⟩ rfl (t_X11_good tg C o X  Mz26 _ h) (fun rz28 Mz27 h => ?_)
          refine z_if_eq 146 132 dX11_number_129 rfl rfl (fun hcz29 => ?_) (fun hcz29 => ?_)
          · replace h := h.1 hcz29
            refine z_iload_n 1 147 dX11_number_146 rfl rfl ?_
            exact z_iret dX11_number_147 rfl ⟨Nat.le_refl _, Nat.le_refl _⟩ ⟨l2, Mz27, rfl, rfl, h⟩
          · replace h := h.2 hcz29
            refine z_aload_n 4 133 dX11_number_132 rfl rfl ?_
            refine gr_33_36 136 dX11_number_133 of_X11_61 rfl ?_
            refine z_aload_n 4 137 dX11_number_136 rfl rfl ?_
            refine gmi_20 (m_i Mz27 20) 140 dX11_number_137 of_X11_266 rfl rfl ?_
            refine z_iconst 1 141 dX11_number_140 rfl rfl ?_
            refine z_isub 142 dX11_number_141 rfl ?_
            refine z_lload 3 144 dX11_number_142 rfl rfl ?_
            refine z_l2i 145 dX11_number_144 rfl ?_
            obtain ⟨hbz30, h⟩ := h
            refine pma_14 146 dX11_number_145 hbz30 rfl ?_
            refine z_iload_n 1 147 dX11_number_146 rfl rfl ?_
            exact z_iret dX11_number_147 rfl ⟨Nat.le_refl _, Nat.le_refl _⟩ ⟨l2, (m_aU Mz27 14 ((m_i Mz27 20) - 1) ((l4 : Int64).toInt32)), rfl, rfl, h⟩
        · replace h := h.2 hcz25
          refine z_pick [(1, .int l1), (2, .int l2), (4, .long l4), (0, .ref 233)] [0, 1, 3, 4] rfl ?_
          exact tj_X11_number_107 tg C o X Q l1 l2 l4 M h
def p_X11_number (a1 : Int32) (M : mS) (Q : Int32 → mS → Prop) : Prop :=
  vp_in a1 2000 ∧ ((¬ ((m_a M 9) a1.toNatClampNeg) = 45 → ∃ nz32 : Nat, w_X11_number_24 Q (fun lz11 lz12 lz13 lz14 Mz15 => ((lz13 ≤ lz11 → j_X11_number_76 Q lz11 lz12 lz13 lz14 Mz15) ∧ (¬ lz13 ≤ lz11 → ∀ vz31 : Int64, vz31 = -lz14 → j_X11_number_76 Q lz11 lz12 lz13 vz31 Mz15))) nz32 a1 a1 a1 0 M) ∧ (((m_a M 9) a1.toNatClampNeg) = 45 → ∀ vz33 : Int32, vz33 = a1 + 1 → ∃ nz41 : Nat, w_X11_number_24 Q (fun lz34 lz35 lz36 lz37 Mz38 => ((lz36 ≤ lz34 → j_X11_number_76 Q lz34 lz35 lz36 lz37 Mz38) ∧ (¬ lz36 ≤ lz34 → ∀ vz40 : Int64, vz40 = -lz37 → j_X11_number_76 Q lz34 lz35 lz36 vz40 Mz38))) nz41 a1 vz33 vz33 0 M))
set_option maxRecDepth 100000 in
set_option maxHeartbeats 4000000 in
theorem t_X11_number (tg : Bool) (C : cS) (o : Nat → Int64) (X : List va_E) (a1 : Int32) (M : mS) (Q : Int32 → mS → Prop) (h : p_X11_number a1 M Q) : z_M q_X11_number tg [.ref 233, .int a1] (wz C M o X) (zm_i C o X Q) := by
  unfold p_X11_number at h
  refine z_enter (by decide) (Nat.le_of_ble_eq_true rfl) ?_
  refine z_aload_n 0 1 dX11_number_0 rfl rfl ?_
  refine gr_33_28 4 dX11_number_1 of_X11_39 rfl ?_
  refine z_iload_n 1 5 dX11_number_4 rfl rfl ?_
  obtain ⟨hbz1, h⟩ := h
  refine gma_9 ((m_a M 9) a1.toNatClampNeg) 6 dX11_number_5 hbz1 rfl rfl ?_
  refine z_bipush 45 8 dX11_number_6 rfl rfl ?_
  refine z_icmp_ne 17 11 dX11_number_8 rfl rfl (fun hcz2 => ?_) (fun hcz2 => ?_)
  · replace h := h.1 hcz2
    refine z_iload_n 1 18 dX11_number_17 rfl rfl ?_
    refine z_istore_n [(2, .int a1), (0, .ref 233), (1, .int a1)] 19 dX11_number_18 (Nat.le_of_ble_eq_true rfl) rfl rfl ?_
    refine z_iload_n 0 20 dX11_number_19 rfl rfl ?_
    refine z_istore_n [(3, .int a1), (2, .int a1), (0, .ref 233), (1, .int a1)] 21 dX11_number_20 (Nat.le_of_ble_eq_true rfl) rfl rfl ?_
    refine z_lconst 0 22 dX11_number_21 rfl rfl ?_
    refine z_lstore [(4, .long 0), (3, .int a1), (2, .int a1), (0, .ref 233), (1, .int a1)] 24 dX11_number_22 (Nat.le_of_ble_eq_true rfl) rfl rfl ?_
    obtain ⟨nz32, h⟩ := h
    refine z_pick [(1, .int a1), (2, .int a1), (3, .int a1), (4, .long 0), (0, .ref 233)] [4, 2, 1, 0, 3] rfl ?_
    refine tw_X11_number_24 tg C o X Q _ (fun lz11 lz12 lz13 lz14 Mz15 h => ?_) nz32 a1 a1 a1 0 M h
    · refine z_iload_n 2 67 dX11_number_66 rfl rfl ?_
      refine z_iload_n 0 68 dX11_number_67 rfl rfl ?_
      refine z_icmp_le 76 71 dX11_number_68 rfl rfl (fun hcz16 => ?_) (fun hcz16 => ?_)
      · replace h := h.1 hcz16
        refine z_pick [(1, .int lz11), (2, .int lz12), (3, .int lz13), (4, .long lz14), (0, .ref 233)] [0, 1, 2, 3, 4] rfl ?_
        exact tj_X11_number_76 tg C o X Q lz11 lz12 lz13 lz14 Mz15 h
      · replace h := h.2 hcz16
        refine z_lload 3 73 dX11_number_71 rfl rfl ?_
        refine z_lneg 74 dX11_number_73 rfl ?_
        refine z_topl (fun vz31 hvz31 => ?_)
        replace h := h vz31 hvz31
        refine z_lstore [(4, .long vz31), (1, .int lz11), (2, .int lz12), (3, .int lz13), (0, .ref 233)] 76 dX11_number_74 (Nat.le_of_ble_eq_true rfl) rfl rfl ?_
        refine z_pick [(1, .int lz11), (2, .int lz12), (3, .int lz13), (4, .long vz31), (0, .ref 233)] [1, 2, 3, 0, 4] rfl ?_
        exact tj_X11_number_76 tg C o X Q lz11 lz12 lz13 vz31 Mz15 h
  · replace h := h.2 hcz2
    refine z_iload_n 1 12 dX11_number_11 rfl rfl ?_
    refine z_iconst 1 13 dX11_number_12 rfl rfl ?_
    refine z_iadd 14 dX11_number_13 rfl ?_
    refine z_goto 18 dX11_number_14 rfl ?_
    refine z_topi (fun vz33 hvz33 => ?_)
    replace h := h vz33 hvz33
    refine z_istore_n [(2, .int vz33), (0, .ref 233), (1, .int a1)] 19 dX11_number_18 (Nat.le_of_ble_eq_true rfl) rfl rfl ?_
    refine z_iload_n 0 20 dX11_number_19 rfl rfl ?_
    refine z_istore_n [(3, .int vz33), (2, .int vz33), (0, .ref 233), (1, .int a1)] 21 dX11_number_20 (Nat.le_of_ble_eq_true rfl) rfl rfl ?_
    refine z_lconst 0 22 dX11_number_21 rfl rfl ?_
    refine z_lstore [(4, .long 0), (3, .int vz33), (2, .int vz33), (0, .ref 233), (1, .int a1)] 24 dX11_number_22 (Nat.le_of_ble_eq_true rfl) rfl rfl ?_
    obtain ⟨nz41, h⟩ := h
    refine z_pick [(1, .int a1), (2, .int vz33), (3, .int vz33), (4, .long 0), (0, .ref 233)] [4, 2, 1, 0, 3] rfl ?_
    refine tw_X11_number_24 tg C o X Q _ (fun lz34 lz35 lz36 lz37 Mz38 h => ?_) nz41 a1 vz33 vz33 0 M h
    · refine z_iload_n 2 67 dX11_number_66 rfl rfl ?_
      refine z_iload_n 0 68 dX11_number_67 rfl rfl ?_
      refine z_icmp_le 76 71 dX11_number_68 rfl rfl (fun hcz39 => ?_) (fun hcz39 => ?_)
      · replace h := h.1 hcz39
        refine z_pick [(1, .int lz34), (2, .int lz35), (3, .int lz36), (4, .long lz37), (0, .ref 233)] [0, 1, 2, 3, 4] rfl ?_
        exact tj_X11_number_76 tg C o X Q lz34 lz35 lz36 lz37 Mz38 h
      · replace h := h.2 hcz39
        refine z_lload 3 73 dX11_number_71 rfl rfl ?_
        refine z_lneg 74 dX11_number_73 rfl ?_
        refine z_topl (fun vz40 hvz40 => ?_)
        replace h := h vz40 hvz40
        refine z_lstore [(4, .long vz40), (1, .int lz34), (2, .int lz35), (3, .int lz36), (0, .ref 233)] 76 dX11_number_74 (Nat.le_of_ble_eq_true rfl) rfl rfl ?_
        refine z_pick [(1, .int lz34), (2, .int lz35), (3, .int lz36), (4, .long vz40), (0, .ref 233)] [1, 2, 3, 0, 4] rfl ?_
        exact tj_X11_number_76 tg C o X Q lz34 lz35 lz36 vz40 Mz38 h
def b_X11_cut_7 (R9 : Int32 → mS → Prop) (Q : mS → Prop) (K132 : mS → Prop) (l1 : Int32) (M : mS) : Prop :=
  (((m_i M 19) ≤ l1 → K132 M) ∧ (¬ (m_i M 19) ≤ l1 → p_X11_good M (fun rz3 Mz2 => ((rz3 = 0 → K132 Mz2) ∧ (¬ rz3 = 0 → vp_in l1 2000 ∧ ∀ vz6 : Int32, vz6 = (m_a Mz2 9) l1.toNatClampNeg → ((vz6 = 32 → ∀ vz8 : Int32, vz8 = l1 + 1 → R9 vz8 Mz2) ∧ (¬ vz6 = 32 → ((¬ vz6 = 10 → p_X11_isLetter l1 Mz2 (fun rz11 Mz10 => ((rz11 = 0 → p_X11_isDigit l1 Mz10 (fun rz14 Mz13 => ((¬ rz14 = 0 → p_X11_number l1 Mz13 (fun rz17 Mz16 => R9 rz17 Mz16)) ∧ (rz14 = 0 → ((¬ vz6 = 45 → ((vz6 = 58 → ((¬ vz6 = 58 → p_X11_token 6 l1 1 Mz13 (fun Mz21 => ∀ vz22 : Int32, vz22 = l1 + 1 → R9 vz22 Mz21)) ∧ (vz6 = 58 → p_X11_token 5 l1 1 Mz13 (fun Mz23 => ∀ vz24 : Int32, vz24 = l1 + 1 → R9 vz24 Mz23)))) ∧ (¬ vz6 = 58 → ((¬ vz6 = 59 → p_X11_fails 1 l1 Mz13 (fun Mz26 => R9 l1 Mz26)) ∧ (vz6 = 59 → ((¬ vz6 = 58 → p_X11_token 6 l1 1 Mz13 (fun Mz28 => ∀ vz29 : Int32, vz29 = l1 + 1 → R9 vz29 Mz28)) ∧ (vz6 = 58 → p_X11_token 5 l1 1 Mz13 (fun Mz30 => ∀ vz31 : Int32, vz31 = l1 + 1 → R9 vz31 Mz30)))))))) ∧ (vz6 = 45 → p_X11_number l1 Mz13 (fun rz33 Mz32 => R9 rz33 Mz32))))))) ∧ (¬ rz11 = 0 → p_X11_name l1 Mz10 (fun rz35 Mz34 => R9 rz35 Mz34))))) ∧ (vz6 = 10 → ∀ vz36 : Int32, vz36 = l1 + 1 → R9 vz36 Mz2)))))))))
def w_X11_cut_7 (Q : mS → Prop) (K132 : mS → Prop) : Nat → Int32 → mS → Prop
 | 0 => fun _ _ => False
 | n + 1 => fun l1 M => b_X11_cut_7 (w_X11_cut_7 Q K132 n) Q K132 l1 M
set_option maxRecDepth 100000 in
set_option maxHeartbeats 4000000 in
theorem tb_X11_cut_7 (tg : Bool) (C : cS) (o : Nat → Int64) (X : List va_E) (R9 : Int32 → mS → Prop) (Q : mS → Prop) (K132 : mS → Prop) (hR9 : ∀ (l1 : Int32) (M : mS), R9 l1 M → z_go q_X11_cut tg 7 [(1, .int l1), (0, .ref 233)] [] (wz C M o X) 0 0 (zm_v C o X Q)) (hK132 : ∀ (M : mS), K132 M → z_go q_X11_cut tg 132 [(0, .ref 233)] [] (wz C M o X) 0 0 (zm_v C o X Q)) (l1 : Int32) (M : mS) (h : b_X11_cut_7 R9 Q K132 l1 M) : z_go q_X11_cut tg 7 [(1, .int l1), (0, .ref 233)] [] (wz C M o X) 0 0 (zm_v C o X Q) := by
  unfold b_X11_cut_7 at h
  refine z_iload_n 0 8 dX11_cut_7 rfl rfl ?_
  refine z_aload_n 1 9 dX11_cut_8 rfl rfl ?_
  refine gmi_19 (m_i M 19) 12 dX11_cut_9 of_X11_253 rfl rfl ?_
  refine z_icmp_ge 132 15 dX11_cut_12 rfl rfl (fun hcz1 => ?_) (fun hcz1 => ?_)
  · replace h := h.1 hcz1
    refine z_pick [(0, .ref 233)] [1] rfl ?_
    exact hK132  M h
  · replace h := h.2 hcz1
    refine z_aload_n 1 16 dX11_cut_15 rfl rfl ?_
    refine z_miV [] 19 dX11_cut_16 ok_X11_cut_292 rfl rfl (Nat.le_of_ble_eq_true rfl) rc_33 ⟨rfl, rfl⟩ ⟨Nat.le_refl _, Nat.le_refl _⟩ rfl (t_X11_good tg C o X  M _ h) (fun rz3 Mz2 h => ?_)
    refine z_if_eq 132 22 dX11_cut_19 rfl rfl (fun hcz4 => ?_) (fun hcz4 => ?_)
    · replace h := h.1 hcz4
      refine z_pick [(0, .ref 233)] [1] rfl ?_
      exact hK132  Mz2 h
    · replace h := h.2 hcz4
      refine z_aload_n 1 23 dX11_cut_22 rfl rfl ?_
      refine gr_33_28 26 dX11_cut_23 of_X11_39 rfl ?_
      refine z_iload_n 0 27 dX11_cut_26 rfl rfl ?_
      obtain ⟨hbz5, h⟩ := h
      refine gma_9 ((m_a Mz2 9) l1.toNatClampNeg) 28 dX11_cut_27 hbz5 rfl rfl ?_
      refine z_topi (fun vz6 hvz6 => ?_)
      replace h := h vz6 hvz6
      refine z_istore_n [(2, .int vz6), (1, .int l1), (0, .ref 233)] 29 dX11_cut_28 (Nat.le_of_ble_eq_true rfl) rfl rfl ?_
      refine z_iload_n 0 30 dX11_cut_29 rfl rfl ?_
      refine z_bipush 32 32 dX11_cut_30 rfl rfl ?_
      refine z_icmp_eq 41 35 dX11_cut_32 rfl rfl (fun hcz7 => ?_) (fun hcz7 => ?_)
      · replace h := h.1 hcz7
        obtain ⟨vz8, hvz8⟩ : ∃ v : Int32, v = l1 + 1 := ⟨_, rfl⟩
        replace h := h vz8 hvz8
        refine z_iinc vz8 [(1, .int vz8), (2, .int vz6), (0, .ref 233)] 1 44 dX11_cut_41 rfl hvz8.symm (Nat.le_of_ble_eq_true rfl) rfl rfl ?_
        refine z_goto 129 dX11_cut_44 rfl ?_
        refine z_goto 7 dX11_cut_129 rfl ?_
        refine z_pick [(1, .int vz8), (0, .ref 233)] [0, 2] rfl ?_
        exact hR9 vz8 Mz2 h
      · replace h := h.2 hcz7
        refine z_iload_n 0 36 dX11_cut_35 rfl rfl ?_
        refine z_bipush 10 38 dX11_cut_36 rfl rfl ?_
        refine z_icmp_ne 47 41 dX11_cut_38 rfl rfl (fun hcz9 => ?_) (fun hcz9 => ?_)
        · replace h := h.1 hcz9
          refine z_aload_n 2 48 dX11_cut_47 rfl rfl ?_
          refine z_iload_n 1 49 dX11_cut_48 rfl rfl ?_
          refine z_miV [.int l1] 52 dX11_cut_49 ok_X11_cut_269 rfl rfl (Nat.le_of_ble_eq_true rfl) rc_33 ⟨rfl, rfl⟩ ⟨Nat.le_refl _, Nat.le_refl _⟩ rfl (t_X11_isLetter tg C o X l1 Mz2 _ h) (fun rz11 Mz10 h => ?_)
          refine z_if_eq 64 55 dX11_cut_52 rfl rfl (fun hcz12 => ?_) (fun hcz12 => ?_)
          · replace h := h.1 hcz12
            refine z_aload_n 2 65 dX11_cut_64 rfl rfl ?_
            refine z_iload_n 1 66 dX11_cut_65 rfl rfl ?_
            refine z_miV [.int l1] 69 dX11_cut_66 ok_X11_cut_272 rfl rfl (Nat.le_of_ble_eq_true rfl) rc_33 ⟨rfl, rfl⟩ ⟨Nat.le_refl _, Nat.le_refl _⟩ rfl (t_X11_isDigit tg C o X l1 Mz10 _ h) (fun rz14 Mz13 h => ?_)
            refine z_if_ne 78 72 dX11_cut_69 rfl rfl (fun hcz15 => ?_) (fun hcz15 => ?_)
            · replace h := h.1 hcz15
              refine z_aload_n 2 79 dX11_cut_78 rfl rfl ?_
              refine z_iload_n 1 80 dX11_cut_79 rfl rfl ?_
              refine z_miV [.int l1] 83 dX11_cut_80 ok_X11_cut_298 rfl rfl (Nat.le_of_ble_eq_true rfl) rc_33 ⟨rfl, rfl⟩ ⟨Nat.le_refl _, Nat.le_refl _⟩ rfl (t_X11_number tg C o X l1 Mz13 _ h) (fun rz17 Mz16 h => ?_)
              refine z_istore_n [(1, .int rz17), (2, .int vz6), (0, .ref 233)] 84 dX11_cut_83 (Nat.le_of_ble_eq_true rfl) rfl rfl ?_
              refine z_goto 129 dX11_cut_84 rfl ?_
              refine z_goto 7 dX11_cut_129 rfl ?_
              refine z_pick [(1, .int rz17), (0, .ref 233)] [0, 2] rfl ?_
              exact hR9 rz17 Mz16 h
            · replace h := h.2 hcz15
              refine z_iload_n 0 73 dX11_cut_72 rfl rfl ?_
              refine z_bipush 45 75 dX11_cut_73 rfl rfl ?_
              refine z_icmp_ne 87 78 dX11_cut_75 rfl rfl (fun hcz18 => ?_) (fun hcz18 => ?_)
              · replace h := h.1 hcz18
                refine z_iload_n 0 88 dX11_cut_87 rfl rfl ?_
                refine z_bipush 58 90 dX11_cut_88 rfl rfl ?_
                refine z_icmp_eq 99 93 dX11_cut_90 rfl rfl (fun hcz19 => ?_) (fun hcz19 => ?_)
                · replace h := h.1 hcz19
                  refine z_aload_n 2 100 dX11_cut_99 rfl rfl ?_
                  refine z_iload_n 0 101 dX11_cut_100 rfl rfl ?_
                  refine z_bipush 58 103 dX11_cut_101 rfl rfl ?_
                  refine z_icmp_ne 110 106 dX11_cut_103 rfl rfl (fun hcz20 => ?_) (fun hcz20 => ?_)
                  · replace h := h.1 hcz20
                    refine z_bipush 6 112 dX11_cut_110 rfl rfl ?_
                    refine z_iload_n 1 113 dX11_cut_112 rfl rfl ?_
                    refine z_iconst 1 114 dX11_cut_113 rfl rfl ?_
                    refine z_mvV [.int 6, .int l1, .int 1] 117 dX11_cut_114 ok_X11_cut_281 rfl rfl (Nat.le_of_ble_eq_true rfl) rc_33 ⟨rfl, rfl⟩ ⟨Nat.le_refl _, Nat.le_refl _⟩ rfl (t_X11_token tg C o X 6 l1 1 Mz13 _ h) (fun Mz21 h => ?_)
                    obtain ⟨vz22, hvz22⟩ : ∃ v : Int32, v = l1 + 1 := ⟨_, rfl⟩
                    replace h := h vz22 hvz22
                    refine z_iinc vz22 [(1, .int vz22), (2, .int vz6), (0, .ref 233)] 1 120 dX11_cut_117 rfl hvz22.symm (Nat.le_of_ble_eq_true rfl) rfl rfl ?_
                    refine z_goto 129 dX11_cut_120 rfl ?_
                    refine z_goto 7 dX11_cut_129 rfl ?_
                    refine z_pick [(1, .int vz22), (0, .ref 233)] [0, 2] rfl ?_
                    exact hR9 vz22 Mz21 h
                  · replace h := h.2 hcz20
                    refine z_iconst 5 107 dX11_cut_106 rfl rfl ?_
                    refine z_goto 112 dX11_cut_107 rfl ?_
                    refine z_iload_n 1 113 dX11_cut_112 rfl rfl ?_
                    refine z_iconst 1 114 dX11_cut_113 rfl rfl ?_
                    refine z_mvV [.int 5, .int l1, .int 1] 117 dX11_cut_114 ok_X11_cut_281 rfl rfl (Nat.le_of_ble_eq_true rfl) rc_33 ⟨rfl, rfl⟩ ⟨Nat.le_refl _, Nat.le_refl _⟩ rfl (t_X11_token tg C o X 5 l1 1 Mz13 _ h) (fun Mz23 h => ?_)
                    obtain ⟨vz24, hvz24⟩ : ∃ v : Int32, v = l1 + 1 := ⟨_, rfl⟩
                    replace h := h vz24 hvz24
                    refine z_iinc vz24 [(1, .int vz24), (2, .int vz6), (0, .ref 233)] 1 120 dX11_cut_117 rfl hvz24.symm (Nat.le_of_ble_eq_true rfl) rfl rfl ?_
                    refine z_goto 129 dX11_cut_120 rfl ?_
                    refine z_goto 7 dX11_cut_129 rfl ?_
                    refine z_pick [(1, .int vz24), (0, .ref 233)] [0, 2] rfl ?_
                    exact hR9 vz24 Mz23 h
                · replace h := h.2 hcz19
                  refine z_iload_n 0 94 dX11_cut_93 rfl rfl ?_
                  refine z_bipush 59 96 dX11_cut_94 rfl rfl ?_
                  refine z_icmp_ne 123 99 dX11_cut_96 rfl rfl (fun hcz25 => ?_) (fun hcz25 => ?_)
                  · replace h := h.1 hcz25
                    refine z_aload_n 2 124 dX11_cut_123 rfl rfl ?_
                    refine z_iconst 1 125 dX11_cut_124 rfl rfl ?_
                    refine z_iload_n 1 126 dX11_cut_125 rfl rfl ?_
                    refine z_mvV [.int 1, .int l1] 129 dX11_cut_126 ok_X11_cut_275 rfl rfl (Nat.le_of_ble_eq_true rfl) rc_33 ⟨rfl, rfl⟩ ⟨Nat.le_refl _, Nat.le_refl _⟩ rfl (t_X11_fails tg C o X 1 l1 Mz13 _ h) (fun Mz26 h => ?_)
                    refine z_goto 7 dX11_cut_129 rfl ?_
                    refine z_pick [(1, .int l1), (0, .ref 233)] [1, 2] rfl ?_
                    exact hR9 l1 Mz26 h
                  · replace h := h.2 hcz25
                    refine z_aload_n 2 100 dX11_cut_99 rfl rfl ?_
                    refine z_iload_n 0 101 dX11_cut_100 rfl rfl ?_
                    refine z_bipush 58 103 dX11_cut_101 rfl rfl ?_
                    refine z_icmp_ne 110 106 dX11_cut_103 rfl rfl (fun hcz27 => ?_) (fun hcz27 => ?_)
                    · replace h := h.1 hcz27
                      refine z_bipush 6 112 dX11_cut_110 rfl rfl ?_
                      refine z_iload_n 1 113 dX11_cut_112 rfl rfl ?_
                      refine z_iconst 1 114 dX11_cut_113 rfl rfl ?_
                      refine z_mvV [.int 6, .int l1, .int 1] 117 dX11_cut_114 ok_X11_cut_281 rfl rfl (Nat.le_of_ble_eq_true rfl) rc_33 ⟨rfl, rfl⟩ ⟨Nat.le_refl _, Nat.le_refl _⟩ rfl (t_X11_token tg C o X 6 l1 1 Mz13 _ h) (fun Mz28 h => ?_)
                      obtain ⟨vz29, hvz29⟩ : ∃ v : Int32, v = l1 + 1 := ⟨_, rfl⟩
                      replace h := h vz29 hvz29
                      refine z_iinc vz29 [(1, .int vz29), (2, .int vz6), (0, .ref 233)] 1 120 dX11_cut_117 rfl hvz29.symm (Nat.le_of_ble_eq_true rfl) rfl rfl ?_
                      refine z_goto 129 dX11_cut_120 rfl ?_
                      refine z_goto 7 dX11_cut_129 rfl ?_
                      refine z_pick [(1, .int vz29), (0, .ref 233)] [0, 2] rfl ?_
                      exact hR9 vz29 Mz28 h
                    · replace h := h.2 hcz27
                      refine z_iconst 5 107 dX11_cut_106 rfl rfl ?_
                      refine z_goto 112 dX11_cut_107 rfl ?_
                      refine z_iload_n 1 113 dX11_cut_112 rfl rfl ?_
                      refine z_iconst 1 114 dX11_cut_113 rfl rfl ?_
                      refine z_mvV [.int 5, .int l1, .int 1] 117 dX11_cut_114 ok_X11_cut_281 rfl rfl (Nat.le_of_ble_eq_true rfl) rc_33 ⟨rfl, rfl⟩ ⟨Nat.le_refl _, Nat.le_refl _⟩ rfl (t_X11_token tg C o X 5 l1 1 Mz13 _ h) (fun Mz30 h => ?_)
                      obtain ⟨vz31, hvz31⟩ : ∃ v : Int32, v = l1 + 1 := ⟨_, rfl⟩
                      replace h := h vz31 hvz31
                      refine z_iinc vz31 [(1, .int vz31), (2, .int vz6), (0, .ref 233)] 1 120 dX11_cut_117 rfl hvz31.symm (Nat.le_of_ble_eq_true rfl) rfl rfl ?_
                      refine z_goto 129 dX11_cut_120 rfl ?_
                      refine z_goto 7 dX11_cut_129 rfl ?_
                      refine z_pick [(1, .int vz31), (0, .ref 233)] [0, 2] rfl ?_
                      exact hR9 vz31 Mz30 h
              · replace h := h.2 hcz18
                refine z_aload_n 2 79 dX11_cut_78 rfl rfl ?_
                refine z_iload_n 1 80 dX11_cut_79 rfl rfl ?_
                refine z_miV [.int l1] 83 dX11_cut_80 ok_X11_cut_298 rfl rfl (Nat.le_of_ble_eq_true rfl) rc_33 ⟨rfl, rfl⟩ ⟨Nat.le_refl _, Nat.le_refl _⟩ rfl (t_X11_number tg C o X l1 Mz13 _ h) (fun rz33 Mz32 h => ?_)
                refine z_istore_n [(1, .int rz33), (2, .int vz6), (0, .ref 233)] 84 dX11_cut_83 (Nat.le_of_ble_eq_true rfl) rfl rfl ?_
                refine z_goto 129 dX11_cut_84 rfl ?_
                refine z_goto 7 dX11_cut_129 rfl ?_
                refine z_pick [(1, .int rz33), (0, .ref 233)] [0, 2] rfl ?_
                exact hR9 rz33 Mz32 h
          · replace h := h.2 hcz12
            refine z_aload_n 2 56 dX11_cut_55 rfl rfl ?_
            refine z_iload_n 1 57 dX11_cut_56 rfl rfl ?_
            refine z_miV [.int l1] 60 dX11_cut_57 ok_X11_cut_295 rfl rfl (Nat.le_of_ble_eq_true rfl) rc_33 ⟨rfl, rfl⟩ ⟨Nat.le_refl _, Nat.le_refl _⟩ rfl (t_X11_name tg C o X l1 Mz10 _ h) (fun rz35 Mz34 h => ?_)
            refine z_istore_n [(1, .int rz35), (2, .int vz6), (0, .ref 233)] 61 dX11_cut_60 (Nat.le_of_ble_eq_true rfl) rfl rfl ?_
            refine z_goto 129 dX11_cut_61 rfl ?_
            refine z_goto 7 dX11_cut_129 rfl ?_
            refine z_pick [(1, .int rz35), (0, .ref 233)] [0, 2] rfl ?_
            exact hR9 rz35 Mz34 h
        · replace h := h.2 hcz9
          obtain ⟨vz36, hvz36⟩ : ∃ v : Int32, v = l1 + 1 := ⟨_, rfl⟩
          replace h := h vz36 hvz36
          refine z_iinc vz36 [(1, .int vz36), (2, .int vz6), (0, .ref 233)] 1 44 dX11_cut_41 rfl hvz36.symm (Nat.le_of_ble_eq_true rfl) rfl rfl ?_
          refine z_goto 129 dX11_cut_44 rfl ?_
          refine z_goto 7 dX11_cut_129 rfl ?_
          refine z_pick [(1, .int vz36), (0, .ref 233)] [0, 2] rfl ?_
          exact hR9 vz36 Mz2 h
theorem tw_X11_cut_7 (tg : Bool) (C : cS) (o : Nat → Int64) (X : List va_E) (Q : mS → Prop) (K132 : mS → Prop) (hK132 : ∀ (M : mS), K132 M → z_go q_X11_cut tg 132 [(0, .ref 233)] [] (wz C M o X) 0 0 (zm_v C o X Q)) : ∀ (n : Nat) (l1 : Int32) (M : mS), w_X11_cut_7 Q K132 n l1 M → z_go q_X11_cut tg 7 [(1, .int l1), (0, .ref 233)] [] (wz C M o X) 0 0 (zm_v C o X Q) := by
  intro n
  induction n with
  | zero => intro l1 M h; exact h.elim
  | succ n ih => intro l1 M h; exact tb_X11_cut_7 tg C o X _ Q K132 ih hK132 l1 M h
def p_X11_cut (M : mS) (Q : mS → Prop) : Prop :=
  ∃ nz39 : Nat, w_X11_cut_7 Q (fun Mz37 => p_X11_token 0 (m_i Mz37 19) 0 Mz37 (fun Mz38 => Q Mz38)) nz39 0 (m_iS M 20 0)
set_option maxRecDepth 100000 in
set_option maxHeartbeats 4000000 in
theorem t_X11_cut (tg : Bool) (C : cS) (o : Nat → Int64) (X : List va_E) (M : mS) (Q : mS → Prop) (h : p_X11_cut M Q) : z_M q_X11_cut tg [.ref 233] (wz C M o X) (zm_v C o X Q) := by
  unfold p_X11_cut at h
  refine z_enter (by decide) (Nat.le_of_ble_eq_true rfl) ?_
  refine z_aload_n 0 1 dX11_cut_0 rfl rfl ?_
  refine z_iconst 0 2 dX11_cut_1 rfl rfl ?_
  refine pmi_20 5 dX11_cut_2 op_X11_266 rfl ?_
  refine z_iconst 0 6 dX11_cut_5 rfl rfl ?_
  refine z_istore_n [(1, .int 0), (0, .ref 233)] 7 dX11_cut_6 (Nat.le_of_ble_eq_true rfl) rfl rfl ?_
  obtain ⟨nz39, h⟩ := h
  refine z_pick [(1, .int 0), (0, .ref 233)] [0, 1] rfl ?_
  refine tw_X11_cut_7 tg C o X Q _ (fun Mz37 h => ?_) nz39 0 (m_iS M 20 0) h
  · refine z_aload_n 0 133 dX11_cut_132 rfl rfl ?_
    refine z_iconst 0 134 dX11_cut_133 rfl rfl ?_
    refine z_aload_n 0 135 dX11_cut_134 rfl rfl ?_
    refine gmi_19 (m_i Mz37 19) 138 dX11_cut_135 of_X11_253 rfl rfl ?_
    refine z_iconst 0 139 dX11_cut_138 rfl rfl ?_
    refine z_mvV [.int 0, .int (m_i Mz37 19), .int 0] 142 dX11_cut_139 ok_X11_cut_281 rfl rfl (Nat.le_of_ble_eq_true rfl) rc_33 ⟨rfl, rfl⟩ ⟨Nat.le_refl _, Nat.le_refl _⟩ rfl (t_X11_token tg C o X 0 (m_i Mz37 19) 0 Mz37 _ h) (fun Mz38 h => ?_)
    exact z_vret dX11_cut_142 rfl ⟨Nat.le_refl _, Nat.le_refl _⟩ ⟨Mz38, rfl, rfl, h⟩
def b_X11_labelOf_3 (R9 : Int64 → Int32 → Int32 → mS → Prop) (Q : Int32 → mS → Prop) (K35 : Int32 → mS → Prop) (K44 : mS → Prop) (l1 : Int64) (l3 : Int32) (l4 : Int32) (M : mS) : Prop :=
  (((m_i M 25) ≤ l4 → K44 M) ∧ (¬ (m_i M 25) ≤ l4 → vp_in l4 150 ∧ ((¬ (lg_cmp ((m_l M 3) l4.toNatClampNeg) l1) = 0 → ∀ vz4 : Int32, vz4 = l4 + 1 → R9 l1 l3 vz4 M) ∧ ((lg_cmp ((m_l M 3) l4.toNatClampNeg) l1) = 0 → ((¬ ((m_a M 20) l4.toNatClampNeg) = l3 → ∀ vz6 : Int32, vz6 = l4 + 1 → R9 l1 l3 vz6 M) ∧ (((m_a M 20) l4.toNatClampNeg) = l3 → K35 l4 M))))))
def w_X11_labelOf_3 (Q : Int32 → mS → Prop) (K35 : Int32 → mS → Prop) (K44 : mS → Prop) : Nat → Int64 → Int32 → Int32 → mS → Prop
 | 0 => fun _ _ _ _ => False
 | n + 1 => fun l1 l3 l4 M => b_X11_labelOf_3 (w_X11_labelOf_3 Q K35 K44 n) Q K35 K44 l1 l3 l4 M
set_option maxRecDepth 100000 in
set_option maxHeartbeats 4000000 in
theorem tb_X11_labelOf_3 (tg : Bool) (C : cS) (o : Nat → Int64) (X : List va_E) (R9 : Int64 → Int32 → Int32 → mS → Prop) (Q : Int32 → mS → Prop) (K35 : Int32 → mS → Prop) (K44 : mS → Prop) (hR9 : ∀ (l1 : Int64) (l3 : Int32) (l4 : Int32) (M : mS), R9 l1 l3 l4 M → z_go q_X11_labelOf tg 3 [(1, .long l1), (3, .int l3), (4, .int l4), (0, .ref 233)] [] (wz C M o X) 0 0 (zm_i C o X Q)) (hK35 : ∀ (l4 : Int32) (M : mS), K35 l4 M → z_go q_X11_labelOf tg 35 [(4, .int l4)] [] (wz C M o X) 0 0 (zm_i C o X Q)) (hK44 : ∀ (M : mS), K44 M → z_go q_X11_labelOf tg 44 [] [] (wz C M o X) 0 0 (zm_i C o X Q)) (l1 : Int64) (l3 : Int32) (l4 : Int32) (M : mS) (h : b_X11_labelOf_3 R9 Q K35 K44 l1 l3 l4 M) : z_go q_X11_labelOf tg 3 [(1, .long l1), (3, .int l3), (4, .int l4), (0, .ref 233)] [] (wz C M o X) 0 0 (zm_i C o X Q) := by
  unfold b_X11_labelOf_3 at h
  refine z_iload 2 5 dX11_labelOf_3 rfl rfl ?_
  refine z_aload_n 3 6 dX11_labelOf_5 rfl rfl ?_
  refine gmi_25 (m_i M 25) 9 dX11_labelOf_6 of_X11_300 rfl rfl ?_
  refine z_icmp_ge 44 12 dX11_labelOf_9 rfl rfl (fun hcz1 => ?_) (fun hcz1 => ?_)
  · replace h := h.1 hcz1
    refine z_pick [] [] rfl ?_
    exact hK44  M h
  · replace h := h.2 hcz1
    refine z_aload_n 3 13 dX11_labelOf_12 rfl rfl ?_
    refine gr_33_47 16 dX11_labelOf_13 of_X11_82 rfl ?_
    refine z_iload 2 18 dX11_labelOf_16 rfl rfl ?_
    obtain ⟨hbz2, h⟩ := h
    refine gml_3 ((m_l M 3) l4.toNatClampNeg) 19 dX11_labelOf_18 hbz2 rfl rfl ?_
    refine z_lload_n 0 20 dX11_labelOf_19 rfl rfl ?_
    refine z_lcmp 21 dX11_labelOf_20 rfl ?_
    refine z_if_ne 38 24 dX11_labelOf_21 rfl rfl (fun hcz3 => ?_) (fun hcz3 => ?_)
    · replace h := h.1 hcz3
      obtain ⟨vz4, hvz4⟩ : ∃ v : Int32, v = l4 + 1 := ⟨_, rfl⟩
      replace h := h vz4 hvz4
      refine z_iinc vz4 [(4, .int vz4), (1, .long l1), (3, .int l3), (0, .ref 233)] 2 41 dX11_labelOf_38 rfl hvz4.symm (Nat.le_of_ble_eq_true rfl) rfl rfl ?_
      refine z_goto 3 dX11_labelOf_41 rfl ?_
      refine z_pick [(1, .long l1), (3, .int l3), (4, .int vz4), (0, .ref 233)] [1, 2, 0, 3] rfl ?_
      exact hR9 l1 l3 vz4 M h
    · replace h := h.2 hcz3
      refine z_aload_n 3 25 dX11_labelOf_24 rfl rfl ?_
      refine gr_33_48 28 dX11_labelOf_25 of_X11_85 rfl ?_
      refine z_iload 2 30 dX11_labelOf_28 rfl rfl ?_
      refine gma_20 ((m_a M 20) l4.toNatClampNeg) 31 dX11_labelOf_30 hbz2 rfl rfl ?_
      refine z_iload_n 1 32 dX11_labelOf_31 rfl rfl ?_
      refine z_icmp_ne 38 35 dX11_labelOf_32 rfl rfl (fun hcz5 => ?_) (fun hcz5 => ?_)
      · replace h := h.1 hcz5
        obtain ⟨vz6, hvz6⟩ : ∃ v : Int32, v = l4 + 1 := ⟨_, rfl⟩
        replace h := h vz6 hvz6
        refine z_iinc vz6 [(4, .int vz6), (1, .long l1), (3, .int l3), (0, .ref 233)] 2 41 dX11_labelOf_38 rfl hvz6.symm (Nat.le_of_ble_eq_true rfl) rfl rfl ?_
        refine z_goto 3 dX11_labelOf_41 rfl ?_
        refine z_pick [(1, .long l1), (3, .int l3), (4, .int vz6), (0, .ref 233)] [1, 2, 0, 3] rfl ?_
        exact hR9 l1 l3 vz6 M h
      · replace h := h.2 hcz5
        refine z_pick [(4, .int l4)] [2] rfl ?_
        exact hK35 l4 M h
theorem tw_X11_labelOf_3 (tg : Bool) (C : cS) (o : Nat → Int64) (X : List va_E) (Q : Int32 → mS → Prop) (K35 : Int32 → mS → Prop) (K44 : mS → Prop) (hK35 : ∀ (l4 : Int32) (M : mS), K35 l4 M → z_go q_X11_labelOf tg 35 [(4, .int l4)] [] (wz C M o X) 0 0 (zm_i C o X Q)) (hK44 : ∀ (M : mS), K44 M → z_go q_X11_labelOf tg 44 [] [] (wz C M o X) 0 0 (zm_i C o X Q)) : ∀ (n : Nat) (l1 : Int64) (l3 : Int32) (l4 : Int32) (M : mS), w_X11_labelOf_3 Q K35 K44 n l1 l3 l4 M → z_go q_X11_labelOf tg 3 [(1, .long l1), (3, .int l3), (4, .int l4), (0, .ref 233)] [] (wz C M o X) 0 0 (zm_i C o X Q) := by
  intro n
  induction n with
  | zero => intro l1 l3 l4 M h; exact h.elim
  | succ n ih => intro l1 l3 l4 M h; exact tb_X11_labelOf_3 tg C o X _ Q K35 K44 ih hK35 hK44 l1 l3 l4 M h
def p_X11_labelOf (a1 : Int64) (a3 : Int32) (M : mS) (Q : Int32 → mS → Prop) : Prop :=
  ∃ nz10 : Nat, w_X11_labelOf_3 Q (fun lz7 Mz8 => Q lz7 Mz8) (fun Mz9 => Q (-1) Mz9) nz10 a1 a3 0 M
set_option maxRecDepth 100000 in
set_option maxHeartbeats 4000000 in
theorem t_X11_labelOf (tg : Bool) (C : cS) (o : Nat → Int64) (X : List va_E) (a1 : Int64) (a3 : Int32) (M : mS) (Q : Int32 → mS → Prop) (h : p_X11_labelOf a1 a3 M Q) : z_M q_X11_labelOf tg [.ref 233, .long a1, .int a3] (wz C M o X) (zm_i C o X Q) := by
  unfold p_X11_labelOf at h
  refine z_enter (by decide) (Nat.le_of_ble_eq_true rfl) ?_
  refine z_iconst 0 1 dX11_labelOf_0 rfl rfl ?_
  refine z_istore [(4, .int 0), (0, .ref 233), (1, .long a1), (3, .int a3)] 3 dX11_labelOf_1 (Nat.le_of_ble_eq_true rfl) rfl rfl ?_
  obtain ⟨nz10, h⟩ := h
  refine z_pick [(1, .long a1), (3, .int a3), (4, .int 0), (0, .ref 233)] [2, 3, 0, 1] rfl ?_
  refine tw_X11_labelOf_3 tg C o X Q _ _ (fun lz7 Mz8 h => ?_) (fun Mz9 h => ?_) nz10 a1 a3 0 M h
  · refine z_iload 0 37 dX11_labelOf_35 rfl rfl ?_
    exact z_iret dX11_labelOf_37 rfl ⟨Nat.le_refl _, Nat.le_refl _⟩ ⟨lz7, Mz8, rfl, rfl, h⟩
  · refine z_iconst (-1) 45 dX11_labelOf_44 rfl rfl ?_
    exact z_iret dX11_labelOf_45 rfl ⟨Nat.le_refl _, Nat.le_refl _⟩ ⟨(-1), Mz9, rfl, rfl, h⟩
def b_X11_readTakes_2 (R9 : Int32 → Int32 → mS → Prop) (Q : mS → Prop) (K27 : Int32 → mS → Prop) (l1 : Int32) (l2 : Int32) (M : mS) : Prop :=
  ((3 ≤ l2 → K27 l1 M) ∧ (¬ 3 ≤ l2 → vp_in ((3 * (m_i M 24)) + l2) 450 ∧ ∀ vz3 : Int32, vz3 = l2 + 1 → R9 l1 vz3 (m_aU M 19 ((3 * (m_i M 24)) + l2) 0)))
def w_X11_readTakes_2 (Q : mS → Prop) (K27 : Int32 → mS → Prop) : Nat → Int32 → Int32 → mS → Prop
 | 0 => fun _ _ _ => False
 | n + 1 => fun l1 l2 M => b_X11_readTakes_2 (w_X11_readTakes_2 Q K27 n) Q K27 l1 l2 M
set_option maxRecDepth 100000 in
set_option maxHeartbeats 4000000 in
theorem tb_X11_readTakes_2 (tg : Bool) (C : cS) (o : Nat → Int64) (X : List va_E) (R9 : Int32 → Int32 → mS → Prop) (Q : mS → Prop) (K27 : Int32 → mS → Prop) (hR9 : ∀ (l1 : Int32) (l2 : Int32) (M : mS), R9 l1 l2 M → z_go q_X11_readTakes tg 2 [(1, .int l1), (2, .int l2), (0, .ref 233)] [] (wz C M o X) 0 0 (zm_v C o X Q)) (hK27 : ∀ (l1 : Int32) (M : mS), K27 l1 M → z_go q_X11_readTakes tg 27 [(1, .int l1), (0, .ref 233)] [] (wz C M o X) 0 0 (zm_v C o X Q)) (l1 : Int32) (l2 : Int32) (M : mS) (h : b_X11_readTakes_2 R9 Q K27 l1 l2 M) : z_go q_X11_readTakes tg 2 [(1, .int l1), (2, .int l2), (0, .ref 233)] [] (wz C M o X) 0 0 (zm_v C o X Q) := by
  unfold b_X11_readTakes_2 at h
  refine z_iload_n 1 3 dX11_readTakes_2 rfl rfl ?_
  refine z_iconst 3 4 dX11_readTakes_3 rfl rfl ?_
  refine z_icmp_ge 27 7 dX11_readTakes_4 rfl rfl (fun hcz1 => ?_) (fun hcz1 => ?_)
  · replace h := h.1 hcz1
    refine z_pick [(1, .int l1), (0, .ref 233)] [0, 2] rfl ?_
    exact hK27 l1 M h
  · replace h := h.2 hcz1
    refine z_aload_n 2 8 dX11_readTakes_7 rfl rfl ?_
    refine gr_33_46 11 dX11_readTakes_8 of_X11_79 rfl ?_
    refine z_iconst 3 12 dX11_readTakes_11 rfl rfl ?_
    refine z_aload_n 2 13 dX11_readTakes_12 rfl rfl ?_
    refine gmi_24 (m_i M 24) 16 dX11_readTakes_13 of_X11_310 rfl rfl ?_
    refine z_imul 17 dX11_readTakes_16 rfl ?_
    refine z_iload_n 1 18 dX11_readTakes_17 rfl rfl ?_
    refine z_iadd 19 dX11_readTakes_18 rfl ?_
    refine z_iconst 0 20 dX11_readTakes_19 rfl rfl ?_
    obtain ⟨hbz2, h⟩ := h
    refine pma_19 21 dX11_readTakes_20 hbz2 rfl ?_
    obtain ⟨vz3, hvz3⟩ : ∃ v : Int32, v = l2 + 1 := ⟨_, rfl⟩
    replace h := h vz3 hvz3
    refine z_iinc vz3 [(2, .int vz3), (1, .int l1), (0, .ref 233)] 1 24 dX11_readTakes_21 rfl hvz3.symm (Nat.le_of_ble_eq_true rfl) rfl rfl ?_
    refine z_goto 2 dX11_readTakes_24 rfl ?_
    refine z_pick [(1, .int l1), (2, .int vz3), (0, .ref 233)] [1, 0, 2] rfl ?_
    exact hR9 l1 vz3 (m_aU M 19 ((3 * (m_i M 24)) + l2) 0) h
theorem tw_X11_readTakes_2 (tg : Bool) (C : cS) (o : Nat → Int64) (X : List va_E) (Q : mS → Prop) (K27 : Int32 → mS → Prop) (hK27 : ∀ (l1 : Int32) (M : mS), K27 l1 M → z_go q_X11_readTakes tg 27 [(1, .int l1), (0, .ref 233)] [] (wz C M o X) 0 0 (zm_v C o X Q)) : ∀ (n : Nat) (l1 : Int32) (l2 : Int32) (M : mS), w_X11_readTakes_2 Q K27 n l1 l2 M → z_go q_X11_readTakes tg 2 [(1, .int l1), (2, .int l2), (0, .ref 233)] [] (wz C M o X) 0 0 (zm_v C o X Q) := by
  intro n
  induction n with
  | zero => intro l1 l2 M h; exact h.elim
  | succ n ih => intro l1 l2 M h; exact tb_X11_readTakes_2 tg C o X _ Q K27 ih hK27 l1 l2 M h
def j_X11_readTakes_62 (Q : mS → Prop) (R9 : Int32 → Int32 → mS → Prop) (K78 : mS → Prop) (K188 : mS → Prop) (l1 : Int32) (l2 : Int32) (l3 : Int32) (s0 : Int32) (M : mS) : Prop :=
  vp_in (m_i M 21) 2001 ∧ ((((m_a M 11) (m_i M 21).toNatClampNeg) = s0 → ∀ vz15 : Int32, vz15 = (3 * (m_i M 24)) + l2 → vp_in vz15 450 ∧ ((¬ l3 = 3 → ∀ vz18 : Int32, vz18 = l2 + 1 → R9 l1 vz18 (m_iS (m_aU (m_aU M 17 vz15 ((m_a M 14) (m_i M 21).toNatClampNeg)) 18 vz15 ((m_a M 12) (m_i M 21).toNatClampNeg)) 21 ((m_i M 21) + 1))) ∧ (l3 = 3 → ∀ vz19 : Int32, vz19 = l2 + 1 → R9 l1 vz19 (m_iS (m_aU (m_lU (m_aU (m_aU M 17 vz15 ((m_a M 14) (m_i M 21).toNatClampNeg)) 18 vz15 ((m_a M 12) (m_i M 21).toNatClampNeg)) 2 vz15 ((m_l M 1) (m_i M 21).toNatClampNeg)) 19 vz15 ((m_a M 13) (m_i M 21).toNatClampNeg)) 21 ((m_i M 21) + 1))))) ∧ (¬ ((m_a M 11) (m_i M 21).toNatClampNeg) = s0 → K78 M))
set_option maxRecDepth 100000 in
set_option maxHeartbeats 4000000 in
theorem tj_X11_readTakes_62 (tg : Bool) (C : cS) (o : Nat → Int64) (X : List va_E) (Q : mS → Prop) (R9 : Int32 → Int32 → mS → Prop) (K78 : mS → Prop) (K188 : mS → Prop) (hR9 : ∀ (l1 : Int32) (l2 : Int32) (M : mS), R9 l1 l2 M → z_go q_X11_readTakes tg 29 [(1, .int l1), (2, .int l2), (0, .ref 233)] [] (wz C M o X) 0 0 (zm_v C o X Q)) (hK78 : ∀ (M : mS), K78 M → z_go q_X11_readTakes tg 78 [(0, .ref 233)] [] (wz C M o X) 0 0 (zm_v C o X Q)) (hK188 : ∀ (M : mS), K188 M → z_go q_X11_readTakes tg 188 [] [] (wz C M o X) 0 0 (zm_v C o X Q)) (l1 : Int32) (l2 : Int32) (l3 : Int32) (s0 : Int32) (M : mS) (h : j_X11_readTakes_62 Q R9 K78 K188 l1 l2 l3 s0 M) : z_go q_X11_readTakes tg 62 [(1, .int l1), (2, .int l2), (3, .int l3), (0, .ref 233)] [.int s0] (wz C M o X) 0 0 (zm_v C o X Q) := by
  unfold j_X11_readTakes_62 at h
  refine z_istore [(4, .int s0), (1, .int l1), (2, .int l2), (3, .int l3), (0, .ref 233)] 64 dX11_readTakes_62 (Nat.le_of_ble_eq_true rfl) rfl rfl ?_
  refine z_aload_n 4 65 dX11_readTakes_64 rfl rfl ?_
  refine gr_33_32 68 dX11_readTakes_65 of_X11_49 rfl ?_
  refine z_aload_n 4 69 dX11_readTakes_68 rfl rfl ?_
  refine gmi_21 (m_i M 21) 72 dX11_readTakes_69 of_X11_303 rfl rfl ?_
  obtain ⟨hbz13, h⟩ := h
  refine gma_11 ((m_a M 11) (m_i M 21).toNatClampNeg) 73 dX11_readTakes_72 hbz13 rfl rfl ?_
  refine z_iload 0 75 dX11_readTakes_73 rfl rfl ?_
  refine z_icmp_eq 93 78 dX11_readTakes_75 rfl rfl (fun hcz14 => ?_) (fun hcz14 => ?_)
  · replace h := h.1 hcz14
    refine z_iconst 3 94 dX11_readTakes_93 rfl rfl ?_
    refine z_aload_n 4 95 dX11_readTakes_94 rfl rfl ?_
    refine gmi_24 (m_i M 24) 98 dX11_readTakes_95 of_X11_310 rfl rfl ?_
    refine z_imul 99 dX11_readTakes_98 rfl ?_
    refine z_iload_n 2 100 dX11_readTakes_99 rfl rfl ?_
    refine z_iadd 101 dX11_readTakes_100 rfl ?_
    refine z_topi (fun vz15 hvz15 => ?_)
    replace h := h vz15 hvz15
    refine z_istore [(5, .int vz15), (4, .int s0), (1, .int l1), (2, .int l2), (3, .int l3), (0, .ref 233)] 103 dX11_readTakes_101 (Nat.le_of_ble_eq_true rfl) rfl rfl ?_
    refine z_aload_n 5 104 dX11_readTakes_103 rfl rfl ?_
    refine gr_33_43 107 dX11_readTakes_104 of_X11_70 rfl ?_
    refine z_iload 0 109 dX11_readTakes_107 rfl rfl ?_
    refine z_aload_n 5 110 dX11_readTakes_109 rfl rfl ?_
    refine gr_33_36 113 dX11_readTakes_110 of_X11_61 rfl ?_
    refine z_aload_n 5 114 dX11_readTakes_113 rfl rfl ?_
    refine gmi_21 (m_i M 21) 117 dX11_readTakes_114 of_X11_303 rfl rfl ?_
    refine gma_14 ((m_a M 14) (m_i M 21).toNatClampNeg) 118 dX11_readTakes_117 hbz13 rfl rfl ?_
    obtain ⟨hbz16, h⟩ := h
    refine pma_17 119 dX11_readTakes_118 hbz16 rfl ?_
    refine z_aload_n 5 120 dX11_readTakes_119 rfl rfl ?_
    refine gr_33_44 123 dX11_readTakes_120 of_X11_73 rfl ?_
    refine z_iload 0 125 dX11_readTakes_123 rfl rfl ?_
    refine z_aload_n 5 126 dX11_readTakes_125 rfl rfl ?_
    refine gr_33_33 129 dX11_readTakes_126 of_X11_52 rfl ?_
    refine z_aload_n 5 130 dX11_readTakes_129 rfl rfl ?_
    refine gmi_21 (m_i M 21) 133 dX11_readTakes_130 of_X11_303 rfl rfl ?_
    refine gma_12 ((m_a M 12) (m_i M 21).toNatClampNeg) 134 dX11_readTakes_133 hbz13 rfl rfl ?_
    refine pma_18 135 dX11_readTakes_134 hbz16 rfl ?_
    refine z_iload_n 4 136 dX11_readTakes_135 rfl rfl ?_
    refine z_iconst 3 137 dX11_readTakes_136 rfl rfl ?_
    refine z_icmp_ne 172 140 dX11_readTakes_137 rfl rfl (fun hcz17 => ?_) (fun hcz17 => ?_)
    · replace h := h.1 hcz17
      refine z_aload_n 5 173 dX11_readTakes_172 rfl rfl ?_
      refine z_dup rfl 174 dX11_readTakes_173 rfl ?_
      refine gmi_21 (m_i M 21) 177 dX11_readTakes_174 of_X11_303 rfl rfl ?_
      refine z_iconst 1 178 dX11_readTakes_177 rfl rfl ?_
      refine z_iadd 179 dX11_readTakes_178 rfl ?_
      refine pmi_21 182 dX11_readTakes_179 op_X11_303 rfl ?_
      obtain ⟨vz18, hvz18⟩ : ∃ v : Int32, v = l2 + 1 := ⟨_, rfl⟩
      replace h := h vz18 hvz18
      refine z_iinc vz18 [(2, .int vz18), (5, .int vz15), (4, .int s0), (1, .int l1), (3, .int l3), (0, .ref 233)] 3 185 dX11_readTakes_182 rfl hvz18.symm (Nat.le_of_ble_eq_true rfl) rfl rfl ?_
      refine z_goto 29 dX11_readTakes_185 rfl ?_
      refine z_pick [(1, .int l1), (2, .int vz18), (0, .ref 233)] [3, 0, 5] rfl ?_
      exact hR9 l1 vz18 (m_iS (m_aU (m_aU M 17 vz15 ((m_a M 14) (m_i M 21).toNatClampNeg)) 18 vz15 ((m_a M 12) (m_i M 21).toNatClampNeg)) 21 ((m_i M 21) + 1)) h
    · replace h := h.2 hcz17
      refine z_aload_n 5 141 dX11_readTakes_140 rfl rfl ?_
      refine gr_33_45 144 dX11_readTakes_141 of_X11_76 rfl ?_
      refine z_iload 0 146 dX11_readTakes_144 rfl rfl ?_
      refine z_aload_n 5 147 dX11_readTakes_146 rfl rfl ?_
      refine gr_33_35 150 dX11_readTakes_147 of_X11_58 rfl ?_
      refine z_aload_n 5 151 dX11_readTakes_150 rfl rfl ?_
      refine gmi_21 (m_i M 21) 154 dX11_readTakes_151 of_X11_303 rfl rfl ?_
      refine gml_1 ((m_l M 1) (m_i M 21).toNatClampNeg) 155 dX11_readTakes_154 hbz13 rfl rfl ?_
      refine pml_2 156 dX11_readTakes_155 hbz16 rfl ?_
      refine z_aload_n 5 157 dX11_readTakes_156 rfl rfl ?_
      refine gr_33_46 160 dX11_readTakes_157 of_X11_79 rfl ?_
      refine z_iload 0 162 dX11_readTakes_160 rfl rfl ?_
      refine z_aload_n 5 163 dX11_readTakes_162 rfl rfl ?_
      refine gr_33_34 166 dX11_readTakes_163 of_X11_55 rfl ?_
      refine z_aload_n 5 167 dX11_readTakes_166 rfl rfl ?_
      refine gmi_21 (m_i M 21) 170 dX11_readTakes_167 of_X11_303 rfl rfl ?_
      refine gma_13 ((m_a M 13) (m_i M 21).toNatClampNeg) 171 dX11_readTakes_170 hbz13 rfl rfl ?_
      refine pma_19 172 dX11_readTakes_171 hbz16 rfl ?_
      refine z_aload_n 5 173 dX11_readTakes_172 rfl rfl ?_
      refine z_dup rfl 174 dX11_readTakes_173 rfl ?_
      refine gmi_21 (m_i M 21) 177 dX11_readTakes_174 of_X11_303 rfl rfl ?_
      refine z_iconst 1 178 dX11_readTakes_177 rfl rfl ?_
      refine z_iadd 179 dX11_readTakes_178 rfl ?_
      refine pmi_21 182 dX11_readTakes_179 op_X11_303 rfl ?_
      obtain ⟨vz19, hvz19⟩ : ∃ v : Int32, v = l2 + 1 := ⟨_, rfl⟩
      replace h := h vz19 hvz19
      refine z_iinc vz19 [(2, .int vz19), (5, .int vz15), (4, .int s0), (1, .int l1), (3, .int l3), (0, .ref 233)] 3 185 dX11_readTakes_182 rfl hvz19.symm (Nat.le_of_ble_eq_true rfl) rfl rfl ?_
      refine z_goto 29 dX11_readTakes_185 rfl ?_
      refine z_pick [(1, .int l1), (2, .int vz19), (0, .ref 233)] [3, 0, 5] rfl ?_
      exact hR9 l1 vz19 (m_iS (m_aU (m_lU (m_aU (m_aU M 17 vz15 ((m_a M 14) (m_i M 21).toNatClampNeg)) 18 vz15 ((m_a M 12) (m_i M 21).toNatClampNeg)) 2 vz15 ((m_l M 1) (m_i M 21).toNatClampNeg)) 19 vz15 ((m_a M 13) (m_i M 21).toNatClampNeg)) 21 ((m_i M 21) + 1)) h
  · replace h := h.2 hcz14
    refine z_pick [(0, .ref 233)] [4] rfl ?_
    exact hK78  M h
def b_X11_readTakes_29 (R9 : Int32 → Int32 → mS → Prop) (Q : mS → Prop) (K78 : mS → Prop) (K188 : mS → Prop) (l1 : Int32) (l2 : Int32) (M : mS) : Prop :=
  p_X11_many l1 M (fun rz7 Mz6 => ((rz7 ≤ l2 → K188 Mz6) ∧ (¬ rz7 ≤ l2 → p_X11_kindOf l1 l2 Mz6 (fun rz10 Mz9 => ((¬ rz10 = 1 → ((¬ rz10 = 2 → j_X11_readTakes_62 Q R9 K78 K188 l1 l2 rz10 3 Mz9) ∧ (rz10 = 2 → j_X11_readTakes_62 Q R9 K78 K188 l1 l2 rz10 4 Mz9))) ∧ (rz10 = 1 → j_X11_readTakes_62 Q R9 K78 K188 l1 l2 rz10 2 Mz9))))))
def w_X11_readTakes_29 (Q : mS → Prop) (K78 : mS → Prop) (K188 : mS → Prop) : Nat → Int32 → Int32 → mS → Prop
 | 0 => fun _ _ _ => False
 | n + 1 => fun l1 l2 M => b_X11_readTakes_29 (w_X11_readTakes_29 Q K78 K188 n) Q K78 K188 l1 l2 M
set_option maxRecDepth 100000 in
set_option maxHeartbeats 4000000 in
theorem tb_X11_readTakes_29 (tg : Bool) (C : cS) (o : Nat → Int64) (X : List va_E) (R9 : Int32 → Int32 → mS → Prop) (Q : mS → Prop) (K78 : mS → Prop) (K188 : mS → Prop) (hR9 : ∀ (l1 : Int32) (l2 : Int32) (M : mS), R9 l1 l2 M → z_go q_X11_readTakes tg 29 [(1, .int l1), (2, .int l2), (0, .ref 233)] [] (wz C M o X) 0 0 (zm_v C o X Q)) (hK78 : ∀ (M : mS), K78 M → z_go q_X11_readTakes tg 78 [(0, .ref 233)] [] (wz C M o X) 0 0 (zm_v C o X Q)) (hK188 : ∀ (M : mS), K188 M → z_go q_X11_readTakes tg 188 [] [] (wz C M o X) 0 0 (zm_v C o X Q)) (l1 : Int32) (l2 : Int32) (M : mS) (h : b_X11_readTakes_29 R9 Q K78 K188 l1 l2 M) : z_go q_X11_readTakes tg 29 [(1, .int l1), (2, .int l2), (0, .ref 233)] [] (wz C M o X) 0 0 (zm_v C o X Q) := by
  unfold b_X11_readTakes_29 at h
  refine z_iload_n 1 30 dX11_readTakes_29 rfl rfl ?_
  refine z_iload_n 0 31 dX11_readTakes_30 rfl rfl ?_
  refine z_miS [.int l1] 34 dX11_readTakes_31 ok_X11_readTakes_230 rfl rfl (Nat.le_of_ble_eq_true rfl) ⟨rfl, rfl⟩ ⟨Nat.le_refl _, Nat.le_refl _⟩ rfl (t_X11_many tg C o X l1 M _ h) (fun rz7 Mz6 h => ?_)
  refine z_icmp_ge 188 37 dX11_readTakes_34 rfl rfl (fun hcz8 => ?_) (fun hcz8 => ?_)
  · replace h := h.1 hcz8
    refine z_pick [] [] rfl ?_
    exact hK188  Mz6 h
  · replace h := h.2 hcz8
    refine z_iload_n 0 38 dX11_readTakes_37 rfl rfl ?_
    refine z_iload_n 1 39 dX11_readTakes_38 rfl rfl ?_
    refine z_miS [.int l1, .int l2] 42 dX11_readTakes_39 ok_X11_readTakes_235 rfl rfl (Nat.le_of_ble_eq_true rfl) ⟨rfl, rfl⟩ ⟨Nat.le_refl _, Nat.le_refl _⟩ rfl (t_X11_kindOf tg C o X l1 l2 Mz6 _ h) (fun rz10 Mz9 h => ?_)
    refine z_istore_n [(3, .int rz10), (1, .int l1), (2, .int l2), (0, .ref 233)] 43 dX11_readTakes_42 (Nat.le_of_ble_eq_true rfl) rfl rfl ?_
    refine z_iload_n 0 44 dX11_readTakes_43 rfl rfl ?_
    refine z_iconst 1 45 dX11_readTakes_44 rfl rfl ?_
    refine z_icmp_ne 52 48 dX11_readTakes_45 rfl rfl (fun hcz11 => ?_) (fun hcz11 => ?_)
    · replace h := h.1 hcz11
      refine z_iload_n 0 53 dX11_readTakes_52 rfl rfl ?_
      refine z_iconst 2 54 dX11_readTakes_53 rfl rfl ?_
      refine z_icmp_ne 61 57 dX11_readTakes_54 rfl rfl (fun hcz12 => ?_) (fun hcz12 => ?_)
      · replace h := h.1 hcz12
        refine z_iconst 3 62 dX11_readTakes_61 rfl rfl ?_
        refine z_pick [(1, .int l1), (2, .int l2), (3, .int rz10), (0, .ref 233)] [1, 2, 0, 3] rfl ?_
        exact tj_X11_readTakes_62 tg C o X Q R9 K78 K188 hR9 hK78 hK188 l1 l2 rz10 3 Mz9 h
      · replace h := h.2 hcz12
        refine z_iconst 4 58 dX11_readTakes_57 rfl rfl ?_
        refine z_goto 62 dX11_readTakes_58 rfl ?_
        refine z_pick [(1, .int l1), (2, .int l2), (3, .int rz10), (0, .ref 233)] [1, 2, 0, 3] rfl ?_
        exact tj_X11_readTakes_62 tg C o X Q R9 K78 K188 hR9 hK78 hK188 l1 l2 rz10 4 Mz9 h
    · replace h := h.2 hcz11
      refine z_iconst 2 49 dX11_readTakes_48 rfl rfl ?_
      refine z_goto 62 dX11_readTakes_49 rfl ?_
      refine z_pick [(1, .int l1), (2, .int l2), (3, .int rz10), (0, .ref 233)] [1, 2, 0, 3] rfl ?_
      exact tj_X11_readTakes_62 tg C o X Q R9 K78 K188 hR9 hK78 hK188 l1 l2 rz10 2 Mz9 h
theorem tw_X11_readTakes_29 (tg : Bool) (C : cS) (o : Nat → Int64) (X : List va_E) (Q : mS → Prop) (K78 : mS → Prop) (K188 : mS → Prop) (hK78 : ∀ (M : mS), K78 M → z_go q_X11_readTakes tg 78 [(0, .ref 233)] [] (wz C M o X) 0 0 (zm_v C o X Q)) (hK188 : ∀ (M : mS), K188 M → z_go q_X11_readTakes tg 188 [] [] (wz C M o X) 0 0 (zm_v C o X Q)) : ∀ (n : Nat) (l1 : Int32) (l2 : Int32) (M : mS), w_X11_readTakes_29 Q K78 K188 n l1 l2 M → z_go q_X11_readTakes tg 29 [(1, .int l1), (2, .int l2), (0, .ref 233)] [] (wz C M o X) 0 0 (zm_v C o X Q) := by
  intro n
  induction n with
  | zero => intro l1 l2 M h; exact h.elim
  | succ n ih => intro l1 l2 M h; exact tb_X11_readTakes_29 tg C o X _ Q K78 K188 ih hK78 hK188 l1 l2 M h
def p_X11_readTakes (a1 : Int32) (M : mS) (Q : mS → Prop) : Prop :=
  ∃ nz25 : Nat, w_X11_readTakes_2 Q (fun lz4 Mz5 => ∃ nz24 : Nat, w_X11_readTakes_29 Q (fun Mz20 => vp_in (m_i Mz20 21) 2001 ∧ p_X11_fails 2 ((m_a Mz20 12) (m_i Mz20 21).toNatClampNeg) Mz20 (fun Mz22 => Q Mz22)) (fun Mz23 => Q Mz23) nz24 lz4 0 Mz5) nz25 a1 0 M
set_option maxRecDepth 100000 in
set_option maxHeartbeats 4000000 in
theorem t_X11_readTakes (tg : Bool) (C : cS) (o : Nat → Int64) (X : List va_E) (a1 : Int32) (M : mS) (Q : mS → Prop) (h : p_X11_readTakes a1 M Q) : z_M q_X11_readTakes tg [.ref 233, .int a1] (wz C M o X) (zm_v C o X Q) := by
  unfold p_X11_readTakes at h
  refine z_enter (by decide) (Nat.le_of_ble_eq_true rfl) ?_
  refine z_iconst 0 1 dX11_readTakes_0 rfl rfl ?_
  refine z_istore_n [(2, .int 0), (0, .ref 233), (1, .int a1)] 2 dX11_readTakes_1 (Nat.le_of_ble_eq_true rfl) rfl rfl ?_
  obtain ⟨nz25, h⟩ := h
  refine z_pick [(1, .int a1), (2, .int 0), (0, .ref 233)] [2, 0, 1] rfl ?_
  refine tw_X11_readTakes_2 tg C o X Q _ (fun lz4 Mz5 h => ?_) nz25 a1 0 M h
  · refine z_iconst 0 28 dX11_readTakes_27 rfl rfl ?_
    refine z_istore_n [(2, .int 0), (1, .int lz4), (0, .ref 233)] 29 dX11_readTakes_28 (Nat.le_of_ble_eq_true rfl) rfl rfl ?_
    obtain ⟨nz24, h⟩ := h
    refine z_pick [(1, .int lz4), (2, .int 0), (0, .ref 233)] [1, 0, 2] rfl ?_
    refine tw_X11_readTakes_29 tg C o X Q _ _ (fun Mz20 h => ?_) (fun Mz23 h => ?_) nz24 lz4 0 Mz5 h
    · refine z_aload_n 0 79 dX11_readTakes_78 rfl rfl ?_
      refine z_iconst 2 80 dX11_readTakes_79 rfl rfl ?_
      refine z_aload_n 0 81 dX11_readTakes_80 rfl rfl ?_
      refine gr_33_33 84 dX11_readTakes_81 of_X11_52 rfl ?_
      refine z_aload_n 0 85 dX11_readTakes_84 rfl rfl ?_
      refine gmi_21 (m_i Mz20 21) 88 dX11_readTakes_85 of_X11_303 rfl rfl ?_
      obtain ⟨hbz21, h⟩ := h
      refine gma_12 ((m_a Mz20 12) (m_i Mz20 21).toNatClampNeg) 89 dX11_readTakes_88 hbz21 rfl rfl ?_
      refine z_mvV [.int 2, .int ((m_a Mz20 12) (m_i Mz20 21).toNatClampNeg)] 92 dX11_readTakes_89 ok_X11_readTakes_275 rfl rfl (Nat.le_of_ble_eq_true rfl) rc_33 ⟨rfl, rfl⟩ ⟨Nat.le_refl _, Nat.le_refl _⟩ rfl (t_X11_fails tg C o X 2 ((m_a Mz20 12) (m_i Mz20 21).toNatClampNeg) Mz20 _ h) (fun Mz22 h => ?_)
      exact z_vret dX11_readTakes_92 rfl ⟨Nat.le_refl _, Nat.le_refl _⟩ ⟨Mz22, rfl, rfl, h⟩
    · exact z_vret dX11_readTakes_188 rfl ⟨Nat.le_refl _, Nat.le_refl _⟩ ⟨Mz23, rfl, rfl, h⟩
def j_X11_readAct_246 (Q : mS → Prop) (M : mS) : Prop :=
  vp_in (m_i M 21) 2001 ∧ ((((m_a M 11) (m_i M 21).toNatClampNeg) = 1 → vp_in (m_i M 24) 150 ∧ vp_in ((upd (m_a M 15) (m_i M 24).toNatClampNeg ((m_a M 14) (m_i M 21).toNatClampNeg)) (m_i M 24).toNatClampNeg) 26 ∧ p_X11_readTakes (z_tks.getD ((upd (m_a M 15) (m_i M 24).toNatClampNeg ((m_a M 14) (m_i M 21).toNatClampNeg)) (m_i M 24).toNatClampNeg).toNatClampNeg 0) (m_iS (m_aU (m_aU M 15 (m_i M 24) ((m_a M 14) (m_i M 21).toNatClampNeg)) 16 (m_i M 24) ((m_a M 12) (m_i M 21).toNatClampNeg)) 21 ((m_i M 21) + 1)) (fun Mz12 => p_X11_good Mz12 (fun rz14 Mz13 => ((¬ rz14 = 0 → vp_in (m_i Mz13 21) 2001 ∧ ((((m_a Mz13 11) (m_i Mz13 21).toNatClampNeg) = 6 → Q (m_iS (m_iS Mz13 21 ((m_i Mz13 21) + 1)) 24 ((m_i Mz13 24) + 1))) ∧ (¬ ((m_a Mz13 11) (m_i Mz13 21).toNatClampNeg) = 6 → p_X11_fails 2 ((m_a Mz13 12) (m_i Mz13 21).toNatClampNeg) Mz13 (fun Mz18 => Q Mz18)))) ∧ (rz14 = 0 → Q Mz13))))) ∧ (¬ ((m_a M 11) (m_i M 21).toNatClampNeg) = 1 → p_X11_fails 2 ((m_a M 12) (m_i M 21).toNatClampNeg) M (fun Mz19 => Q Mz19)))
set_option maxRecDepth 100000 in
set_option maxHeartbeats 4000000 in
theorem tj_X11_readAct_246 (tg : Bool) (C : cS) (o : Nat → Int64) (X : List va_E) (Q : mS → Prop) (M : mS) (h : j_X11_readAct_246 Q M) : z_go q_X11_readAct tg 246 [(0, .ref 233)] [] (wz C M o X) 0 0 (zm_v C o X Q) := by
  unfold j_X11_readAct_246 at h
  refine z_aload_n 0 247 dX11_readAct_246 rfl rfl ?_
  refine gr_33_32 250 dX11_readAct_247 of_X11_49 rfl ?_
  refine z_aload_n 0 251 dX11_readAct_250 rfl rfl ?_
  refine gmi_21 (m_i M 21) 254 dX11_readAct_251 of_X11_303 rfl rfl ?_
  obtain ⟨hbz8, h⟩ := h
  refine gma_11 ((m_a M 11) (m_i M 21).toNatClampNeg) 255 dX11_readAct_254 hbz8 rfl rfl ?_
  refine z_iconst 1 256 dX11_readAct_255 rfl rfl ?_
  refine z_icmp_eq 274 259 dX11_readAct_256 rfl rfl (fun hcz9 => ?_) (fun hcz9 => ?_)
  · replace h := h.1 hcz9
    refine z_aload_n 0 275 dX11_readAct_274 rfl rfl ?_
    refine gr_33_41 278 dX11_readAct_275 of_X11_64 rfl ?_
    refine z_aload_n 0 279 dX11_readAct_278 rfl rfl ?_
    refine gmi_24 (m_i M 24) 282 dX11_readAct_279 of_X11_310 rfl rfl ?_
    refine z_aload_n 0 283 dX11_readAct_282 rfl rfl ?_
    refine gr_33_36 286 dX11_readAct_283 of_X11_61 rfl ?_
    refine z_aload_n 0 287 dX11_readAct_286 rfl rfl ?_
    refine gmi_21 (m_i M 21) 290 dX11_readAct_287 of_X11_303 rfl rfl ?_
    refine gma_14 ((m_a M 14) (m_i M 21).toNatClampNeg) 291 dX11_readAct_290 hbz8 rfl rfl ?_
    obtain ⟨hbz10, h⟩ := h
    refine pma_15 292 dX11_readAct_291 hbz10 rfl ?_
    refine z_aload_n 0 293 dX11_readAct_292 rfl rfl ?_
    refine gr_33_42 296 dX11_readAct_293 of_X11_67 rfl ?_
    refine z_aload_n 0 297 dX11_readAct_296 rfl rfl ?_
    refine gmi_24 (m_i M 24) 300 dX11_readAct_297 of_X11_310 rfl rfl ?_
    refine z_aload_n 0 301 dX11_readAct_300 rfl rfl ?_
    refine gr_33_33 304 dX11_readAct_301 of_X11_52 rfl ?_
    refine z_aload_n 0 305 dX11_readAct_304 rfl rfl ?_
    refine gmi_21 (m_i M 21) 308 dX11_readAct_305 of_X11_303 rfl rfl ?_
    refine gma_12 ((m_a M 12) (m_i M 21).toNatClampNeg) 309 dX11_readAct_308 hbz8 rfl rfl ?_
    refine pma_16 310 dX11_readAct_309 hbz10 rfl ?_
    refine z_aload_n 0 311 dX11_readAct_310 rfl rfl ?_
    refine z_dup rfl 312 dX11_readAct_311 rfl ?_
    refine gmi_21 (m_i M 21) 315 dX11_readAct_312 of_X11_303 rfl rfl ?_
    refine z_iconst 1 316 dX11_readAct_315 rfl rfl ?_
    refine z_iadd 317 dX11_readAct_316 rfl ?_
    refine pmi_21 320 dX11_readAct_317 op_X11_303 rfl ?_
    refine z_aload_n 0 321 dX11_readAct_320 rfl rfl ?_
    refine z_gets (.ref 29) 324 dX11_readAct_321 (List.mem_of_getElem? (i := 2) rfl) ol_X11_232 rfl ?_
    refine z_aload_n 0 325 dX11_readAct_324 rfl rfl ?_
    refine gr_33_41 328 dX11_readAct_325 of_X11_64 rfl ?_
    refine z_aload_n 0 329 dX11_readAct_328 rfl rfl ?_
    refine gmi_24 (m_i M 24) 332 dX11_readAct_329 of_X11_310 rfl rfl ?_
    refine gma_15 ((upd (m_a M 15) (m_i M 24).toNatClampNeg ((m_a M 14) (m_i M 21).toNatClampNeg)) (m_i M 24).toNatClampNeg) 333 dX11_readAct_332 hbz10 rfl rfl ?_
    obtain ⟨hbz11, h⟩ := h
    refine z_tiald 0 334 dX11_readAct_333 (List.mem_of_getElem? (i := 2) rfl) (Nat.lt_succ_self 0) rfl hbz11 rfl ?_
    refine z_mvV [.int (z_tks.getD ((upd (m_a M 15) (m_i M 24).toNatClampNeg ((m_a M 14) (m_i M 21).toNatClampNeg)) (m_i M 24).toNatClampNeg).toNatClampNeg 0)] 337 dX11_readAct_334 ok_X11_readAct_313 rfl rfl (Nat.le_of_ble_eq_true rfl) rc_33 ⟨rfl, rfl⟩ ⟨Nat.le_refl _, Nat.le_refl _⟩ rfl (t_X11_readTakes tg C o X (z_tks.getD ((upd (m_a M 15) (m_i M 24).toNatClampNeg ((m_a M 14) (m_i M 21).toNatClampNeg)) (m_i M 24).toNatClampNeg).toNatClampNeg 0) (m_iS (m_aU (m_aU M 15 (m_i M 24) ((m_a M 14) (m_i M 21).toNatClampNeg)) 16 (m_i M 24) ((m_a M 12) (m_i M 21).toNatClampNeg)) 21 ((m_i M 21) + 1)) _ h) (fun Mz12 h => ?_)
    refine z_aload_n 0 338 dX11_readAct_337 rfl rfl ?_
    refine z_miV [] 341 dX11_readAct_338 ok_X11_readAct_292 rfl rfl (Nat.le_of_ble_eq_true rfl) rc_33 ⟨rfl, rfl⟩ ⟨Nat.le_refl _, Nat.le_refl _⟩ rfl (t_X11_good tg C o X  Mz12 _ h) (fun rz14 Mz13 h => ?_)
    refine z_if_ne 345 344 dX11_readAct_341 rfl rfl (fun hcz15 => ?_) (fun hcz15 => ?_)
    · replace h := h.1 hcz15
      refine z_aload_n 0 346 dX11_readAct_345 rfl rfl ?_
      refine gr_33_32 349 dX11_readAct_346 of_X11_49 rfl ?_
      refine z_aload_n 0 350 dX11_readAct_349 rfl rfl ?_
      refine gmi_21 (m_i Mz13 21) 353 dX11_readAct_350 of_X11_303 rfl rfl ?_
      obtain ⟨hbz16, h⟩ := h
      refine gma_11 ((m_a Mz13 11) (m_i Mz13 21).toNatClampNeg) 354 dX11_readAct_353 hbz16 rfl rfl ?_
      refine z_bipush 6 356 dX11_readAct_354 rfl rfl ?_
      refine z_icmp_eq 374 359 dX11_readAct_356 rfl rfl (fun hcz17 => ?_) (fun hcz17 => ?_)
      · replace h := h.1 hcz17
        refine z_aload_n 0 375 dX11_readAct_374 rfl rfl ?_
        refine z_dup rfl 376 dX11_readAct_375 rfl ?_
        refine gmi_21 (m_i Mz13 21) 379 dX11_readAct_376 of_X11_303 rfl rfl ?_
        refine z_iconst 1 380 dX11_readAct_379 rfl rfl ?_
        refine z_iadd 381 dX11_readAct_380 rfl ?_
        refine pmi_21 384 dX11_readAct_381 op_X11_303 rfl ?_
        refine z_aload_n 0 385 dX11_readAct_384 rfl rfl ?_
        refine z_dup rfl 386 dX11_readAct_385 rfl ?_
        refine gmi_24 (m_i Mz13 24) 389 dX11_readAct_386 of_X11_310 rfl rfl ?_
        refine z_iconst 1 390 dX11_readAct_389 rfl rfl ?_
        refine z_iadd 391 dX11_readAct_390 rfl ?_
        refine pmi_24 394 dX11_readAct_391 op_X11_310 rfl ?_
        exact z_vret dX11_readAct_394 rfl ⟨Nat.le_refl _, Nat.le_refl _⟩ ⟨(m_iS (m_iS Mz13 21 ((m_i Mz13 21) + 1)) 24 ((m_i Mz13 24) + 1)), rfl, rfl, h⟩
      · replace h := h.2 hcz17
        refine z_aload_n 0 360 dX11_readAct_359 rfl rfl ?_
        refine z_iconst 2 361 dX11_readAct_360 rfl rfl ?_
        refine z_aload_n 0 362 dX11_readAct_361 rfl rfl ?_
        refine gr_33_33 365 dX11_readAct_362 of_X11_52 rfl ?_
        refine z_aload_n 0 366 dX11_readAct_365 rfl rfl ?_
        refine gmi_21 (m_i Mz13 21) 369 dX11_readAct_366 of_X11_303 rfl rfl ?_
        refine gma_12 ((m_a Mz13 12) (m_i Mz13 21).toNatClampNeg) 370 dX11_readAct_369 hbz16 rfl rfl ?_
        refine z_mvV [.int 2, .int ((m_a Mz13 12) (m_i Mz13 21).toNatClampNeg)] 373 dX11_readAct_370 ok_X11_readAct_275 rfl rfl (Nat.le_of_ble_eq_true rfl) rc_33 ⟨rfl, rfl⟩ ⟨Nat.le_refl _, Nat.le_refl _⟩ rfl (t_X11_fails tg C o X 2 ((m_a Mz13 12) (m_i Mz13 21).toNatClampNeg) Mz13 _ h) (fun Mz18 h => ?_)
        exact z_vret dX11_readAct_373 rfl ⟨Nat.le_refl _, Nat.le_refl _⟩ ⟨Mz18, rfl, rfl, h⟩
    · replace h := h.2 hcz15
      exact z_vret dX11_readAct_344 rfl ⟨Nat.le_refl _, Nat.le_refl _⟩ ⟨Mz13, rfl, rfl, h⟩
  · replace h := h.2 hcz9
    refine z_aload_n 0 260 dX11_readAct_259 rfl rfl ?_
    refine z_iconst 2 261 dX11_readAct_260 rfl rfl ?_
    refine z_aload_n 0 262 dX11_readAct_261 rfl rfl ?_
    refine gr_33_33 265 dX11_readAct_262 of_X11_52 rfl ?_
    refine z_aload_n 0 266 dX11_readAct_265 rfl rfl ?_
    refine gmi_21 (m_i M 21) 269 dX11_readAct_266 of_X11_303 rfl rfl ?_
    refine gma_12 ((m_a M 12) (m_i M 21).toNatClampNeg) 270 dX11_readAct_269 hbz8 rfl rfl ?_
    refine z_mvV [.int 2, .int ((m_a M 12) (m_i M 21).toNatClampNeg)] 273 dX11_readAct_270 ok_X11_readAct_275 rfl rfl (Nat.le_of_ble_eq_true rfl) rc_33 ⟨rfl, rfl⟩ ⟨Nat.le_refl _, Nat.le_refl _⟩ rfl (t_X11_fails tg C o X 2 ((m_a M 12) (m_i M 21).toNatClampNeg) M _ h) (fun Mz19 h => ?_)
    exact z_vret dX11_readAct_273 rfl ⟨Nat.le_refl _, Nat.le_refl _⟩ ⟨Mz19, rfl, rfl, h⟩
def j_X11_readAct_111 (Q : mS → Prop) (l1 : Int32) (M : mS) : Prop :=
  ((¬ (m_i M 24) = 150 → ((l1 = 0 → j_X11_readAct_246 Q M) ∧ (¬ l1 = 0 → ∀ vz20 : Int32, vz20 = m_i M 21 → vp_in ((m_i M 21) + 1) 2001 ∧ ((((m_a M 11) ((m_i M 21) + 1).toNatClampNeg) = 5 → vp_in vz20 2001 ∧ vp_in (m_i M 25) 150 ∧ j_X11_readAct_246 Q (m_iS (m_aU (m_aU (m_lU (m_iS (m_iS M 21 ((m_i M 21) + 1)) 21 (((m_i M 21) + 1) + 1)) 3 (m_i M 25) ((m_l M 1) vz20.toNatClampNeg)) 20 (m_i M 25) ((m_a M 13) vz20.toNatClampNeg)) 21 (m_i M 25) (m_i M 24)) 25 ((m_i M 25) + 1))) ∧ (¬ ((m_a M 11) ((m_i M 21) + 1).toNatClampNeg) = 5 → p_X11_fails 2 ((m_a M 12) ((m_i M 21) + 1).toNatClampNeg) (m_iS M 21 ((m_i M 21) + 1)) (fun Mz25 => Q Mz25)))))) ∧ ((m_i M 24) = 150 → vp_in (m_i M 21) 2001 ∧ p_X11_fails 5 ((m_a M 12) (m_i M 21).toNatClampNeg) M (fun Mz27 => Q Mz27)))
set_option maxRecDepth 100000 in
set_option maxHeartbeats 4000000 in
theorem tj_X11_readAct_111 (tg : Bool) (C : cS) (o : Nat → Int64) (X : List va_E) (Q : mS → Prop) (l1 : Int32) (M : mS) (h : j_X11_readAct_111 Q l1 M) : z_go q_X11_readAct tg 111 [(1, .int l1), (0, .ref 233)] [] (wz C M o X) 0 0 (zm_v C o X Q) := by
  unfold j_X11_readAct_111 at h
  refine z_aload_n 1 112 dX11_readAct_111 rfl rfl ?_
  refine gmi_24 (m_i M 24) 115 dX11_readAct_112 of_X11_310 rfl rfl ?_
  refine z_sipush 150 118 dX11_readAct_115 rfl rfl ?_
  refine z_icmp_ne 136 121 dX11_readAct_118 rfl rfl (fun hcz6 => ?_) (fun hcz6 => ?_)
  · replace h := h.1 hcz6
    refine z_iload_n 0 137 dX11_readAct_136 rfl rfl ?_
    refine z_if_eq 246 140 dX11_readAct_137 rfl rfl (fun hcz7 => ?_) (fun hcz7 => ?_)
    · replace h := h.1 hcz7
      refine z_pick [(0, .ref 233)] [1] rfl ?_
      exact tj_X11_readAct_246 tg C o X Q M h
    · replace h := h.2 hcz7
      refine z_aload_n 1 141 dX11_readAct_140 rfl rfl ?_
      refine gmi_21 (m_i M 21) 144 dX11_readAct_141 of_X11_303 rfl rfl ?_
      refine z_topi (fun vz20 hvz20 => ?_)
      replace h := h vz20 hvz20
      refine z_istore_n [(2, .int vz20), (1, .int l1), (0, .ref 233)] 145 dX11_readAct_144 (Nat.le_of_ble_eq_true rfl) rfl rfl ?_
      refine z_aload_n 2 146 dX11_readAct_145 rfl rfl ?_
      refine z_dup rfl 147 dX11_readAct_146 rfl ?_
      refine gmi_21 (m_i M 21) 150 dX11_readAct_147 of_X11_303 rfl rfl ?_
      refine z_iconst 1 151 dX11_readAct_150 rfl rfl ?_
      refine z_iadd 152 dX11_readAct_151 rfl ?_
      refine pmi_21 155 dX11_readAct_152 op_X11_303 rfl ?_
      refine z_aload_n 2 156 dX11_readAct_155 rfl rfl ?_
      refine gr_33_32 159 dX11_readAct_156 of_X11_49 rfl ?_
      refine z_aload_n 2 160 dX11_readAct_159 rfl rfl ?_
      refine gmi_21 ((m_i M 21) + 1) 163 dX11_readAct_160 of_X11_303 rfl rfl ?_
      obtain ⟨hbz21, h⟩ := h
      refine gma_11 ((m_a M 11) ((m_i M 21) + 1).toNatClampNeg) 164 dX11_readAct_163 hbz21 rfl rfl ?_
      refine z_iconst 5 165 dX11_readAct_164 rfl rfl ?_
      refine z_icmp_eq 183 168 dX11_readAct_165 rfl rfl (fun hcz22 => ?_) (fun hcz22 => ?_)
      · replace h := h.1 hcz22
        refine z_aload_n 2 184 dX11_readAct_183 rfl rfl ?_
        refine z_dup rfl 185 dX11_readAct_184 rfl ?_
        refine gmi_21 ((m_i M 21) + 1) 188 dX11_readAct_185 of_X11_303 rfl rfl ?_
        refine z_iconst 1 189 dX11_readAct_188 rfl rfl ?_
        refine z_iadd 190 dX11_readAct_189 rfl ?_
        refine pmi_21 193 dX11_readAct_190 op_X11_303 rfl ?_
        refine z_aload_n 2 194 dX11_readAct_193 rfl rfl ?_
        refine gr_33_47 197 dX11_readAct_194 of_X11_82 rfl ?_
        refine z_aload_n 2 198 dX11_readAct_197 rfl rfl ?_
        refine gmi_25 (m_i M 25) 201 dX11_readAct_198 of_X11_300 rfl rfl ?_
        refine z_aload_n 2 202 dX11_readAct_201 rfl rfl ?_
        refine gr_33_35 205 dX11_readAct_202 of_X11_58 rfl ?_
        refine z_iload_n 0 206 dX11_readAct_205 rfl rfl ?_
        obtain ⟨hbz23, h⟩ := h
        refine gml_1 ((m_l M 1) vz20.toNatClampNeg) 207 dX11_readAct_206 hbz23 rfl rfl ?_
        obtain ⟨hbz24, h⟩ := h
        refine pml_3 208 dX11_readAct_207 hbz24 rfl ?_
        refine z_aload_n 2 209 dX11_readAct_208 rfl rfl ?_
        refine gr_33_48 212 dX11_readAct_209 of_X11_85 rfl ?_
        refine z_aload_n 2 213 dX11_readAct_212 rfl rfl ?_
        refine gmi_25 (m_i M 25) 216 dX11_readAct_213 of_X11_300 rfl rfl ?_
        refine z_aload_n 2 217 dX11_readAct_216 rfl rfl ?_
        refine gr_33_34 220 dX11_readAct_217 of_X11_55 rfl ?_
        refine z_iload_n 0 221 dX11_readAct_220 rfl rfl ?_
        refine gma_13 ((m_a M 13) vz20.toNatClampNeg) 222 dX11_readAct_221 hbz23 rfl rfl ?_
        refine pma_20 223 dX11_readAct_222 hbz24 rfl ?_
        refine z_aload_n 2 224 dX11_readAct_223 rfl rfl ?_
        refine gr_33_49 227 dX11_readAct_224 of_X11_88 rfl ?_
        refine z_aload_n 2 228 dX11_readAct_227 rfl rfl ?_
        refine gmi_25 (m_i M 25) 231 dX11_readAct_228 of_X11_300 rfl rfl ?_
        refine z_aload_n 2 232 dX11_readAct_231 rfl rfl ?_
        refine gmi_24 (m_i M 24) 235 dX11_readAct_232 of_X11_310 rfl rfl ?_
        refine pma_21 236 dX11_readAct_235 hbz24 rfl ?_
        refine z_aload_n 2 237 dX11_readAct_236 rfl rfl ?_
        refine z_dup rfl 238 dX11_readAct_237 rfl ?_
        refine gmi_25 (m_i M 25) 241 dX11_readAct_238 of_X11_300 rfl rfl ?_
        refine z_iconst 1 242 dX11_readAct_241 rfl rfl ?_
        refine z_iadd 243 dX11_readAct_242 rfl ?_
        refine pmi_25 246 dX11_readAct_243 op_X11_300 rfl ?_
        refine z_pick [(0, .ref 233)] [2] rfl ?_
        exact tj_X11_readAct_246 tg C o X Q (m_iS (m_aU (m_aU (m_lU (m_iS (m_iS M 21 ((m_i M 21) + 1)) 21 (((m_i M 21) + 1) + 1)) 3 (m_i M 25) ((m_l M 1) vz20.toNatClampNeg)) 20 (m_i M 25) ((m_a M 13) vz20.toNatClampNeg)) 21 (m_i M 25) (m_i M 24)) 25 ((m_i M 25) + 1)) h
      · replace h := h.2 hcz22
        refine z_aload_n 2 169 dX11_readAct_168 rfl rfl ?_
        refine z_iconst 2 170 dX11_readAct_169 rfl rfl ?_
        refine z_aload_n 2 171 dX11_readAct_170 rfl rfl ?_
        refine gr_33_33 174 dX11_readAct_171 of_X11_52 rfl ?_
        refine z_aload_n 2 175 dX11_readAct_174 rfl rfl ?_
        refine gmi_21 ((m_i M 21) + 1) 178 dX11_readAct_175 of_X11_303 rfl rfl ?_
        refine gma_12 ((m_a M 12) ((m_i M 21) + 1).toNatClampNeg) 179 dX11_readAct_178 hbz21 rfl rfl ?_
        refine z_mvV [.int 2, .int ((m_a M 12) ((m_i M 21) + 1).toNatClampNeg)] 182 dX11_readAct_179 ok_X11_readAct_275 rfl rfl (Nat.le_of_ble_eq_true rfl) rc_33 ⟨rfl, rfl⟩ ⟨Nat.le_refl _, Nat.le_refl _⟩ rfl (t_X11_fails tg C o X 2 ((m_a M 12) ((m_i M 21) + 1).toNatClampNeg) (m_iS M 21 ((m_i M 21) + 1)) _ h) (fun Mz25 h => ?_)
        exact z_vret dX11_readAct_182 rfl ⟨Nat.le_refl _, Nat.le_refl _⟩ ⟨Mz25, rfl, rfl, h⟩
  · replace h := h.2 hcz6
    refine z_aload_n 1 122 dX11_readAct_121 rfl rfl ?_
    refine z_iconst 5 123 dX11_readAct_122 rfl rfl ?_
    refine z_aload_n 1 124 dX11_readAct_123 rfl rfl ?_
    refine gr_33_33 127 dX11_readAct_124 of_X11_52 rfl ?_
    refine z_aload_n 1 128 dX11_readAct_127 rfl rfl ?_
    refine gmi_21 (m_i M 21) 131 dX11_readAct_128 of_X11_303 rfl rfl ?_
    obtain ⟨hbz26, h⟩ := h
    refine gma_12 ((m_a M 12) (m_i M 21).toNatClampNeg) 132 dX11_readAct_131 hbz26 rfl rfl ?_
    refine z_mvV [.int 5, .int ((m_a M 12) (m_i M 21).toNatClampNeg)] 135 dX11_readAct_132 ok_X11_readAct_275 rfl rfl (Nat.le_of_ble_eq_true rfl) rc_33 ⟨rfl, rfl⟩ ⟨Nat.le_refl _, Nat.le_refl _⟩ rfl (t_X11_fails tg C o X 5 ((m_a M 12) (m_i M 21).toNatClampNeg) M _ h) (fun Mz27 h => ?_)
    exact z_vret dX11_readAct_135 rfl ⟨Nat.le_refl _, Nat.le_refl _⟩ ⟨Mz27, rfl, rfl, h⟩
def j_X11_readAct_51 (Q : mS → Prop) (l1 : Int32) (M : mS) : Prop :=
  ((l1 = 0 → j_X11_readAct_111 Q l1 M) ∧ (¬ l1 = 0 → vp_in ((m_i M 21) + 1) 2001 ∧ ((¬ ((m_a M 11) ((m_i M 21) + 1).toNatClampNeg) = 5 → j_X11_readAct_111 Q l1 M) ∧ (((m_a M 11) ((m_i M 21) + 1).toNatClampNeg) = 5 → vp_in (m_i M 21) 2001 ∧ p_X11_labelOf ((m_l M 1) (m_i M 21).toNatClampNeg) ((m_a M 13) (m_i M 21).toNatClampNeg) M (fun rz32 Mz31 => ((rz32 = (-1) → j_X11_readAct_111 Q l1 Mz31) ∧ (¬ rz32 = (-1) → vp_in (m_i Mz31 21) 2001 ∧ p_X11_fails 3 ((m_a Mz31 12) (m_i Mz31 21).toNatClampNeg) Mz31 (fun Mz35 => Q Mz35))))))))
set_option maxRecDepth 100000 in
set_option maxHeartbeats 4000000 in
theorem tj_X11_readAct_51 (tg : Bool) (C : cS) (o : Nat → Int64) (X : List va_E) (Q : mS → Prop) (l1 : Int32) (M : mS) (h : j_X11_readAct_51 Q l1 M) : z_go q_X11_readAct tg 51 [(1, .int l1), (0, .ref 233)] [] (wz C M o X) 0 0 (zm_v C o X Q) := by
  unfold j_X11_readAct_51 at h
  refine z_iload_n 0 52 dX11_readAct_51 rfl rfl ?_
  refine z_if_eq 111 55 dX11_readAct_52 rfl rfl (fun hcz5 => ?_) (fun hcz5 => ?_)
  · replace h := h.1 hcz5
    refine z_pick [(1, .int l1), (0, .ref 233)] [0, 1] rfl ?_
    exact tj_X11_readAct_111 tg C o X Q l1 M h
  · replace h := h.2 hcz5
    refine z_aload_n 1 56 dX11_readAct_55 rfl rfl ?_
    refine gr_33_32 59 dX11_readAct_56 of_X11_49 rfl ?_
    refine z_aload_n 1 60 dX11_readAct_59 rfl rfl ?_
    refine gmi_21 (m_i M 21) 63 dX11_readAct_60 of_X11_303 rfl rfl ?_
    refine z_iconst 1 64 dX11_readAct_63 rfl rfl ?_
    refine z_iadd 65 dX11_readAct_64 rfl ?_
    obtain ⟨hbz28, h⟩ := h
    refine gma_11 ((m_a M 11) ((m_i M 21) + 1).toNatClampNeg) 66 dX11_readAct_65 hbz28 rfl rfl ?_
    refine z_iconst 5 67 dX11_readAct_66 rfl rfl ?_
    refine z_icmp_ne 111 70 dX11_readAct_67 rfl rfl (fun hcz29 => ?_) (fun hcz29 => ?_)
    · replace h := h.1 hcz29
      refine z_pick [(1, .int l1), (0, .ref 233)] [0, 1] rfl ?_
      exact tj_X11_readAct_111 tg C o X Q l1 M h
    · replace h := h.2 hcz29
      refine z_aload_n 1 71 dX11_readAct_70 rfl rfl ?_
      refine z_aload_n 1 72 dX11_readAct_71 rfl rfl ?_
      refine gr_33_35 75 dX11_readAct_72 of_X11_58 rfl ?_
      refine z_aload_n 1 76 dX11_readAct_75 rfl rfl ?_
      refine gmi_21 (m_i M 21) 79 dX11_readAct_76 of_X11_303 rfl rfl ?_
      obtain ⟨hbz30, h⟩ := h
      refine gml_1 ((m_l M 1) (m_i M 21).toNatClampNeg) 80 dX11_readAct_79 hbz30 rfl rfl ?_
      refine z_aload_n 1 81 dX11_readAct_80 rfl rfl ?_
      refine gr_33_34 84 dX11_readAct_81 of_X11_55 rfl ?_
      refine z_aload_n 1 85 dX11_readAct_84 rfl rfl ?_
      refine gmi_21 (m_i M 21) 88 dX11_readAct_85 of_X11_303 rfl rfl ?_
      refine gma_13 ((m_a M 13) (m_i M 21).toNatClampNeg) 89 dX11_readAct_88 hbz30 rfl rfl ?_
      refine z_miV [.long ((m_l M 1) (m_i M 21).toNatClampNeg), .int ((m_a M 13) (m_i M 21).toNatClampNeg)] 92 dX11_readAct_89 ok_X11_readAct_306 rfl rfl (Nat.le_of_ble_eq_true rfl) rc_33 ⟨rfl, rfl⟩ ⟨Nat.le_refl _, Nat.le_refl _⟩ rfl (t_X11_labelOf tg C o X ((m_l M 1) (m_i M 21).toNatClampNeg) ((m_a M 13) (m_i M 21).toNatClampNeg) M _ h) (fun rz32 Mz31 h => ?_)
      refine z_iconst (-1) 93 dX11_readAct_92 rfl rfl ?_
      refine z_icmp_eq 111 96 dX11_readAct_93 rfl rfl (fun hcz33 => ?_) (fun hcz33 => ?_)
      · replace h := h.1 hcz33
        refine z_pick [(1, .int l1), (0, .ref 233)] [0, 1] rfl ?_
        exact tj_X11_readAct_111 tg C o X Q l1 Mz31 h
      · replace h := h.2 hcz33
        refine z_aload_n 1 97 dX11_readAct_96 rfl rfl ?_
        refine z_iconst 3 98 dX11_readAct_97 rfl rfl ?_
        refine z_aload_n 1 99 dX11_readAct_98 rfl rfl ?_
        refine gr_33_33 102 dX11_readAct_99 of_X11_52 rfl ?_
        refine z_aload_n 1 103 dX11_readAct_102 rfl rfl ?_
        refine gmi_21 (m_i Mz31 21) 106 dX11_readAct_103 of_X11_303 rfl rfl ?_
        obtain ⟨hbz34, h⟩ := h
        refine gma_12 ((m_a Mz31 12) (m_i Mz31 21).toNatClampNeg) 107 dX11_readAct_106 hbz34 rfl rfl ?_
        refine z_mvV [.int 3, .int ((m_a Mz31 12) (m_i Mz31 21).toNatClampNeg)] 110 dX11_readAct_107 ok_X11_readAct_275 rfl rfl (Nat.le_of_ble_eq_true rfl) rc_33 ⟨rfl, rfl⟩ ⟨Nat.le_refl _, Nat.le_refl _⟩ rfl (t_X11_fails tg C o X 3 ((m_a Mz31 12) (m_i Mz31 21).toNatClampNeg) Mz31 _ h) (fun Mz35 h => ?_)
        exact z_vret dX11_readAct_110 rfl ⟨Nat.le_refl _, Nat.le_refl _⟩ ⟨Mz35, rfl, rfl, h⟩
def j_X11_readAct_18 (Q : mS → Prop) (s0 : Int32) (M : mS) : Prop :=
  vp_in (m_i M 21) 2001 ∧ ((((m_a M 11) (m_i M 21).toNatClampNeg) = 1 → j_X11_readAct_51 Q s0 M) ∧ (¬ ((m_a M 11) (m_i M 21).toNatClampNeg) = 1 → ((¬ s0 = 0 → j_X11_readAct_51 Q s0 M) ∧ (s0 = 0 → p_X11_fails 2 ((m_a M 12) (m_i M 21).toNatClampNeg) M (fun Mz37 => Q Mz37)))))
set_option maxRecDepth 100000 in
set_option maxHeartbeats 4000000 in
theorem tj_X11_readAct_18 (tg : Bool) (C : cS) (o : Nat → Int64) (X : List va_E) (Q : mS → Prop) (s0 : Int32) (M : mS) (h : j_X11_readAct_18 Q s0 M) : z_go q_X11_readAct tg 18 [(0, .ref 233)] [.int s0] (wz C M o X) 0 0 (zm_v C o X Q) := by
  unfold j_X11_readAct_18 at h
  refine z_istore_n [(1, .int s0), (0, .ref 233)] 19 dX11_readAct_18 (Nat.le_of_ble_eq_true rfl) rfl rfl ?_
  refine z_aload_n 1 20 dX11_readAct_19 rfl rfl ?_
  refine gr_33_32 23 dX11_readAct_20 of_X11_49 rfl ?_
  refine z_aload_n 1 24 dX11_readAct_23 rfl rfl ?_
  refine gmi_21 (m_i M 21) 27 dX11_readAct_24 of_X11_303 rfl rfl ?_
  obtain ⟨hbz3, h⟩ := h
  refine gma_11 ((m_a M 11) (m_i M 21).toNatClampNeg) 28 dX11_readAct_27 hbz3 rfl rfl ?_
  refine z_iconst 1 29 dX11_readAct_28 rfl rfl ?_
  refine z_icmp_eq 51 32 dX11_readAct_29 rfl rfl (fun hcz4 => ?_) (fun hcz4 => ?_)
  · replace h := h.1 hcz4
    refine z_pick [(1, .int s0), (0, .ref 233)] [0, 1] rfl ?_
    exact tj_X11_readAct_51 tg C o X Q s0 M h
  · replace h := h.2 hcz4
    refine z_iload_n 0 33 dX11_readAct_32 rfl rfl ?_
    refine z_if_ne 51 36 dX11_readAct_33 rfl rfl (fun hcz36 => ?_) (fun hcz36 => ?_)
    · replace h := h.1 hcz36
      refine z_pick [(1, .int s0), (0, .ref 233)] [0, 1] rfl ?_
      exact tj_X11_readAct_51 tg C o X Q s0 M h
    · replace h := h.2 hcz36
      refine z_aload_n 1 37 dX11_readAct_36 rfl rfl ?_
      refine z_iconst 2 38 dX11_readAct_37 rfl rfl ?_
      refine z_aload_n 1 39 dX11_readAct_38 rfl rfl ?_
      refine gr_33_33 42 dX11_readAct_39 of_X11_52 rfl ?_
      refine z_aload_n 1 43 dX11_readAct_42 rfl rfl ?_
      refine gmi_21 (m_i M 21) 46 dX11_readAct_43 of_X11_303 rfl rfl ?_
      refine gma_12 ((m_a M 12) (m_i M 21).toNatClampNeg) 47 dX11_readAct_46 hbz3 rfl rfl ?_
      refine z_mvV [.int 2, .int ((m_a M 12) (m_i M 21).toNatClampNeg)] 50 dX11_readAct_47 ok_X11_readAct_275 rfl rfl (Nat.le_of_ble_eq_true rfl) rc_33 ⟨rfl, rfl⟩ ⟨Nat.le_refl _, Nat.le_refl _⟩ rfl (t_X11_fails tg C o X 2 ((m_a M 12) (m_i M 21).toNatClampNeg) M _ h) (fun Mz37 h => ?_)
      exact z_vret dX11_readAct_50 rfl ⟨Nat.le_refl _, Nat.le_refl _⟩ ⟨Mz37, rfl, rfl, h⟩
def p_X11_readAct (M : mS) (Q : mS → Prop) : Prop :=
  vp_in (m_i M 21) 2001 ∧ ((¬ ((m_a M 11) (m_i M 21).toNatClampNeg) = 3 → j_X11_readAct_18 Q 0 M) ∧ (((m_a M 11) (m_i M 21).toNatClampNeg) = 3 → j_X11_readAct_18 Q 1 M))
set_option maxRecDepth 100000 in
set_option maxHeartbeats 4000000 in
theorem t_X11_readAct (tg : Bool) (C : cS) (o : Nat → Int64) (X : List va_E) (M : mS) (Q : mS → Prop) (h : p_X11_readAct M Q) : z_M q_X11_readAct tg [.ref 233] (wz C M o X) (zm_v C o X Q) := by
  unfold p_X11_readAct at h
  refine z_enter (by decide) (Nat.le_of_ble_eq_true rfl) ?_
  refine z_aload_n 0 1 dX11_readAct_0 rfl rfl ?_
  refine gr_33_32 4 dX11_readAct_1 of_X11_49 rfl ?_
  refine z_aload_n 0 5 dX11_readAct_4 rfl rfl ?_
  refine gmi_21 (m_i M 21) 8 dX11_readAct_5 of_X11_303 rfl rfl ?_
  obtain ⟨hbz1, h⟩ := h
  refine gma_11 ((m_a M 11) (m_i M 21).toNatClampNeg) 9 dX11_readAct_8 hbz1 rfl rfl ?_
  refine z_iconst 3 10 dX11_readAct_9 rfl rfl ?_
  refine z_icmp_ne 17 13 dX11_readAct_10 rfl rfl (fun hcz2 => ?_) (fun hcz2 => ?_)
  · replace h := h.1 hcz2
    refine z_iconst 0 18 dX11_readAct_17 rfl rfl ?_
    refine z_pick [(0, .ref 233)] [0] rfl ?_
    exact tj_X11_readAct_18 tg C o X Q 0 M h
  · replace h := h.2 hcz2
    refine z_iconst 1 14 dX11_readAct_13 rfl rfl ?_
    refine z_goto 18 dX11_readAct_14 rfl ?_
    refine z_pick [(0, .ref 233)] [0] rfl ?_
    exact tj_X11_readAct_18 tg C o X Q 1 M h
def b_X11_program_29 (R9 : mS → Prop) (Q : Int32 → mS → Prop) (K55 : mS → Prop) (M : mS) : Prop :=
  p_X11_good M (fun rz3 Mz2 => ((rz3 = 0 → K55 Mz2) ∧ (¬ rz3 = 0 → vp_in (m_i Mz2 21) 2001 ∧ ((((m_a Mz2 11) (m_i Mz2 21).toNatClampNeg) = 0 → K55 Mz2) ∧ (¬ ((m_a Mz2 11) (m_i Mz2 21).toNatClampNeg) = 0 → p_X11_readAct Mz2 (fun Mz7 => R9 Mz7))))))
def w_X11_program_29 (Q : Int32 → mS → Prop) (K55 : mS → Prop) : Nat → mS → Prop
 | 0 => fun _ => False
 | n + 1 => fun M => b_X11_program_29 (w_X11_program_29 Q K55 n) Q K55 M
set_option maxRecDepth 100000 in
set_option maxHeartbeats 4000000 in
theorem tb_X11_program_29 (tg : Bool) (C : cS) (o : Nat → Int64) (X : List va_E) (R9 : mS → Prop) (Q : Int32 → mS → Prop) (K55 : mS → Prop) (hR9 : ∀ (M : mS), R9 M → z_go q_X11_program tg 29 [(0, .ref 233)] [] (wz C M o X) 0 0 (zm_i C o X Q)) (hK55 : ∀ (M : mS), K55 M → z_go q_X11_program tg 55 [(0, .ref 233)] [] (wz C M o X) 0 0 (zm_i C o X Q)) (M : mS) (h : b_X11_program_29 R9 Q K55 M) : z_go q_X11_program tg 29 [(0, .ref 233)] [] (wz C M o X) 0 0 (zm_i C o X Q) := by
  unfold b_X11_program_29 at h
  refine z_aload_n 0 30 dX11_program_29 rfl rfl ?_
  refine z_miV [] 33 dX11_program_30 ok_X11_program_292 rfl rfl (Nat.le_of_ble_eq_true rfl) rc_33 ⟨rfl, rfl⟩ ⟨Nat.le_refl _, Nat.le_refl _⟩ rfl (t_X11_good tg C o X  M _ h) (fun rz3 Mz2 h => ?_)
  refine z_if_eq 55 36 dX11_program_33 rfl rfl (fun hcz4 => ?_) (fun hcz4 => ?_)
  · replace h := h.1 hcz4
    refine z_pick [(0, .ref 233)] [0] rfl ?_
    exact hK55  Mz2 h
  · replace h := h.2 hcz4
    refine z_aload_n 0 37 dX11_program_36 rfl rfl ?_
    refine gr_33_32 40 dX11_program_37 of_X11_49 rfl ?_
    refine z_aload_n 0 41 dX11_program_40 rfl rfl ?_
    refine gmi_21 (m_i Mz2 21) 44 dX11_program_41 of_X11_303 rfl rfl ?_
    obtain ⟨hbz5, h⟩ := h
    refine gma_11 ((m_a Mz2 11) (m_i Mz2 21).toNatClampNeg) 45 dX11_program_44 hbz5 rfl rfl ?_
    refine z_if_eq 55 48 dX11_program_45 rfl rfl (fun hcz6 => ?_) (fun hcz6 => ?_)
    · replace h := h.1 hcz6
      refine z_pick [(0, .ref 233)] [0] rfl ?_
      exact hK55  Mz2 h
    · replace h := h.2 hcz6
      refine z_aload_n 0 49 dX11_program_48 rfl rfl ?_
      refine z_mvV [] 52 dX11_program_49 ok_X11_program_319 rfl rfl (Nat.le_of_ble_eq_true rfl) rc_33 ⟨rfl, rfl⟩ ⟨Nat.le_refl _, Nat.le_refl _⟩ rfl (t_X11_readAct tg C o X  Mz2 _ h) (fun Mz7 h => ?_)
      refine z_goto 29 dX11_program_52 rfl ?_
      refine z_pick [(0, .ref 233)] [0] rfl ?_
      exact hR9  Mz7 h
theorem tw_X11_program_29 (tg : Bool) (C : cS) (o : Nat → Int64) (X : List va_E) (Q : Int32 → mS → Prop) (K55 : mS → Prop) (hK55 : ∀ (M : mS), K55 M → z_go q_X11_program tg 55 [(0, .ref 233)] [] (wz C M o X) 0 0 (zm_i C o X Q)) : ∀ (n : Nat) (M : mS), w_X11_program_29 Q K55 n M → z_go q_X11_program tg 29 [(0, .ref 233)] [] (wz C M o X) 0 0 (zm_i C o X Q) := by
  intro n
  induction n with
  | zero => intro M h; exact h.elim
  | succ n ih => intro M h; exact tb_X11_program_29 tg C o X _ Q K55 ih hK55 M h
def b_X11_program_57 (R9 : Int32 → mS → Prop) (Q : Int32 → mS → Prop) (K140 : mS → Prop) (l1 : Int32) (M : mS) : Prop :=
  (((3 * (m_i M 24)) ≤ l1 → K140 M) ∧ (¬ (3 * (m_i M 24)) ≤ l1 → p_X11_good M (fun rz11 Mz10 => ((rz11 = 0 → K140 Mz10) ∧ (¬ rz11 = 0 → vp_in l1 450 ∧ ((¬ ((m_a Mz10 19) l1.toNatClampNeg) = 0 → p_X11_labelOf ((m_l Mz10 2) l1.toNatClampNeg) ((m_a Mz10 19) l1.toNatClampNeg) Mz10 (fun rz16 Mz15 => ((¬ rz16 = (-1) → vp_in rz16 150 ∧ ∀ vz19 : Int32, vz19 = l1 + 1 → R9 vz19 (m_aU Mz15 17 l1 ((m_a Mz15 21) rz16.toNatClampNeg))) ∧ (rz16 = (-1) → p_X11_fails 4 ((m_a Mz15 18) l1.toNatClampNeg) Mz15 (fun Mz20 => ∀ vz21 : Int32, vz21 = l1 + 1 → R9 vz21 Mz20))))) ∧ (((m_a Mz10 19) l1.toNatClampNeg) = 0 → ∀ vz22 : Int32, vz22 = l1 + 1 → R9 vz22 Mz10)))))))
def w_X11_program_57 (Q : Int32 → mS → Prop) (K140 : mS → Prop) : Nat → Int32 → mS → Prop
 | 0 => fun _ _ => False
 | n + 1 => fun l1 M => b_X11_program_57 (w_X11_program_57 Q K140 n) Q K140 l1 M
set_option maxRecDepth 100000 in
set_option maxHeartbeats 4000000 in
theorem tb_X11_program_57 (tg : Bool) (C : cS) (o : Nat → Int64) (X : List va_E) (R9 : Int32 → mS → Prop) (Q : Int32 → mS → Prop) (K140 : mS → Prop) (hR9 : ∀ (l1 : Int32) (M : mS), R9 l1 M → z_go q_X11_program tg 57 [(1, .int l1), (0, .ref 233)] [] (wz C M o X) 0 0 (zm_i C o X Q)) (hK140 : ∀ (M : mS), K140 M → z_go q_X11_program tg 140 [(0, .ref 233)] [] (wz C M o X) 0 0 (zm_i C o X Q)) (l1 : Int32) (M : mS) (h : b_X11_program_57 R9 Q K140 l1 M) : z_go q_X11_program tg 57 [(1, .int l1), (0, .ref 233)] [] (wz C M o X) 0 0 (zm_i C o X Q) := by
  unfold b_X11_program_57 at h
  refine z_iload_n 0 58 dX11_program_57 rfl rfl ?_
  refine z_iconst 3 59 dX11_program_58 rfl rfl ?_
  refine z_aload_n 1 60 dX11_program_59 rfl rfl ?_
  refine gmi_24 (m_i M 24) 63 dX11_program_60 of_X11_310 rfl rfl ?_
  refine z_imul 64 dX11_program_63 rfl ?_
  refine z_icmp_ge 140 67 dX11_program_64 rfl rfl (fun hcz9 => ?_) (fun hcz9 => ?_)
  · replace h := h.1 hcz9
    refine z_pick [(0, .ref 233)] [1] rfl ?_
    exact hK140  M h
  · replace h := h.2 hcz9
    refine z_aload_n 1 68 dX11_program_67 rfl rfl ?_
    refine z_miV [] 71 dX11_program_68 ok_X11_program_292 rfl rfl (Nat.le_of_ble_eq_true rfl) rc_33 ⟨rfl, rfl⟩ ⟨Nat.le_refl _, Nat.le_refl _⟩ rfl (t_X11_good tg C o X  M _ h) (fun rz11 Mz10 h => ?_)
    refine z_if_eq 140 74 dX11_program_71 rfl rfl (fun hcz12 => ?_) (fun hcz12 => ?_)
    · replace h := h.1 hcz12
      refine z_pick [(0, .ref 233)] [1] rfl ?_
      exact hK140  Mz10 h
    · replace h := h.2 hcz12
      refine z_aload_n 1 75 dX11_program_74 rfl rfl ?_
      refine gr_33_46 78 dX11_program_75 of_X11_79 rfl ?_
      refine z_iload_n 0 79 dX11_program_78 rfl rfl ?_
      obtain ⟨hbz13, h⟩ := h
      refine gma_19 ((m_a Mz10 19) l1.toNatClampNeg) 80 dX11_program_79 hbz13 rfl rfl ?_
      refine z_if_ne 86 83 dX11_program_80 rfl rfl (fun hcz14 => ?_) (fun hcz14 => ?_)
      · replace h := h.1 hcz14
        refine z_aload_n 1 87 dX11_program_86 rfl rfl ?_
        refine z_aload_n 1 88 dX11_program_87 rfl rfl ?_
        refine gr_33_45 91 dX11_program_88 of_X11_76 rfl ?_
        refine z_iload_n 0 92 dX11_program_91 rfl rfl ?_
        refine gml_2 ((m_l Mz10 2) l1.toNatClampNeg) 93 dX11_program_92 hbz13 rfl rfl ?_
        refine z_aload_n 1 94 dX11_program_93 rfl rfl ?_
        refine gr_33_46 97 dX11_program_94 of_X11_79 rfl ?_
        refine z_iload_n 0 98 dX11_program_97 rfl rfl ?_
        refine gma_19 ((m_a Mz10 19) l1.toNatClampNeg) 99 dX11_program_98 hbz13 rfl rfl ?_
        refine z_miV [.long ((m_l Mz10 2) l1.toNatClampNeg), .int ((m_a Mz10 19) l1.toNatClampNeg)] 102 dX11_program_99 ok_X11_program_306 rfl rfl (Nat.le_of_ble_eq_true rfl) rc_33 ⟨rfl, rfl⟩ ⟨Nat.le_refl _, Nat.le_refl _⟩ rfl (t_X11_labelOf tg C o X ((m_l Mz10 2) l1.toNatClampNeg) ((m_a Mz10 19) l1.toNatClampNeg) Mz10 _ h) (fun rz16 Mz15 h => ?_)
        refine z_istore_n [(2, .int rz16), (1, .int l1), (0, .ref 233)] 103 dX11_program_102 (Nat.le_of_ble_eq_true rfl) rfl rfl ?_
        refine z_iload_n 0 104 dX11_program_103 rfl rfl ?_
        refine z_iconst (-1) 105 dX11_program_104 rfl rfl ?_
        refine z_icmp_ne 122 108 dX11_program_105 rfl rfl (fun hcz17 => ?_) (fun hcz17 => ?_)
        · replace h := h.1 hcz17
          refine z_aload_n 2 123 dX11_program_122 rfl rfl ?_
          refine gr_33_43 126 dX11_program_123 of_X11_70 rfl ?_
          refine z_iload_n 1 127 dX11_program_126 rfl rfl ?_
          refine z_aload_n 2 128 dX11_program_127 rfl rfl ?_
          refine gr_33_49 131 dX11_program_128 of_X11_88 rfl ?_
          refine z_iload_n 0 132 dX11_program_131 rfl rfl ?_
          obtain ⟨hbz18, h⟩ := h
          refine gma_21 ((m_a Mz15 21) rz16.toNatClampNeg) 133 dX11_program_132 hbz18 rfl rfl ?_
          refine pma_17 134 dX11_program_133 hbz13 rfl ?_
          obtain ⟨vz19, hvz19⟩ : ∃ v : Int32, v = l1 + 1 := ⟨_, rfl⟩
          replace h := h vz19 hvz19
          refine z_iinc vz19 [(1, .int vz19), (2, .int rz16), (0, .ref 233)] 1 137 dX11_program_134 rfl hvz19.symm (Nat.le_of_ble_eq_true rfl) rfl rfl ?_
          refine z_goto 57 dX11_program_137 rfl ?_
          refine z_pick [(1, .int vz19), (0, .ref 233)] [0, 2] rfl ?_
          exact hR9 vz19 (m_aU Mz15 17 l1 ((m_a Mz15 21) rz16.toNatClampNeg)) h
        · replace h := h.2 hcz17
          refine z_aload_n 2 109 dX11_program_108 rfl rfl ?_
          refine z_iconst 4 110 dX11_program_109 rfl rfl ?_
          refine z_aload_n 2 111 dX11_program_110 rfl rfl ?_
          refine gr_33_44 114 dX11_program_111 of_X11_73 rfl ?_
          refine z_iload_n 1 115 dX11_program_114 rfl rfl ?_
          refine gma_18 ((m_a Mz15 18) l1.toNatClampNeg) 116 dX11_program_115 hbz13 rfl rfl ?_
          refine z_mvV [.int 4, .int ((m_a Mz15 18) l1.toNatClampNeg)] 119 dX11_program_116 ok_X11_program_275 rfl rfl (Nat.le_of_ble_eq_true rfl) rc_33 ⟨rfl, rfl⟩ ⟨Nat.le_refl _, Nat.le_refl _⟩ rfl (t_X11_fails tg C o X 4 ((m_a Mz15 18) l1.toNatClampNeg) Mz15 _ h) (fun Mz20 h => ?_)
          refine z_goto 134 dX11_program_119 rfl ?_
          obtain ⟨vz21, hvz21⟩ : ∃ v : Int32, v = l1 + 1 := ⟨_, rfl⟩
          replace h := h vz21 hvz21
          refine z_iinc vz21 [(1, .int vz21), (2, .int rz16), (0, .ref 233)] 1 137 dX11_program_134 rfl hvz21.symm (Nat.le_of_ble_eq_true rfl) rfl rfl ?_
          refine z_goto 57 dX11_program_137 rfl ?_
          refine z_pick [(1, .int vz21), (0, .ref 233)] [0, 2] rfl ?_
          exact hR9 vz21 Mz20 h
      · replace h := h.2 hcz14
        refine z_goto 134 dX11_program_83 rfl ?_
        obtain ⟨vz22, hvz22⟩ : ∃ v : Int32, v = l1 + 1 := ⟨_, rfl⟩
        replace h := h vz22 hvz22
        refine z_iinc vz22 [(1, .int vz22), (0, .ref 233)] 0 137 dX11_program_134 rfl hvz22.symm (Nat.le_of_ble_eq_true rfl) rfl rfl ?_
        refine z_goto 57 dX11_program_137 rfl ?_
        refine z_pick [(1, .int vz22), (0, .ref 233)] [0, 1] rfl ?_
        exact hR9 vz22 Mz10 h
theorem tw_X11_program_57 (tg : Bool) (C : cS) (o : Nat → Int64) (X : List va_E) (Q : Int32 → mS → Prop) (K140 : mS → Prop) (hK140 : ∀ (M : mS), K140 M → z_go q_X11_program tg 140 [(0, .ref 233)] [] (wz C M o X) 0 0 (zm_i C o X Q)) : ∀ (n : Nat) (l1 : Int32) (M : mS), w_X11_program_57 Q K140 n l1 M → z_go q_X11_program tg 57 [(1, .int l1), (0, .ref 233)] [] (wz C M o X) 0 0 (zm_i C o X Q) := by
  intro n
  induction n with
  | zero => intro l1 M h; exact h.elim
  | succ n ih => intro l1 M h; exact tb_X11_program_57 tg C o X _ Q K140 ih hK140 l1 M h
def b_X11_program_213 (R9 : Int32 → Int32 → mS → Prop) (Q : Int32 → mS → Prop) (K240 : Int32 → mS → Prop) (l1 : Int32) (l2 : Int32) (M : mS) : Prop :=
  ((((3 * l1) + 3) ≤ l2 → K240 l1 M) ∧ (¬ ((3 * l1) + 3) ≤ l2 → vp_in l2 450 ∧ ∀ vz32 : Int32, vz32 = l2 + 1 → R9 l1 vz32 (m_aU M 24 l2 ((m_a M 17) l2.toNatClampNeg))))
def w_X11_program_213 (Q : Int32 → mS → Prop) (K240 : Int32 → mS → Prop) : Nat → Int32 → Int32 → mS → Prop
 | 0 => fun _ _ _ => False
 | n + 1 => fun l1 l2 M => b_X11_program_213 (w_X11_program_213 Q K240 n) Q K240 l1 l2 M
set_option maxRecDepth 100000 in
set_option maxHeartbeats 4000000 in
theorem tb_X11_program_213 (tg : Bool) (C : cS) (o : Nat → Int64) (X : List va_E) (R9 : Int32 → Int32 → mS → Prop) (Q : Int32 → mS → Prop) (K240 : Int32 → mS → Prop) (hR9 : ∀ (l1 : Int32) (l2 : Int32) (M : mS), R9 l1 l2 M → z_go q_X11_program tg 213 [(1, .int l1), (2, .int l2), (0, .ref 233)] [] (wz C M o X) 0 0 (zm_i C o X Q)) (hK240 : ∀ (l1 : Int32) (M : mS), K240 l1 M → z_go q_X11_program tg 240 [(1, .int l1), (0, .ref 233)] [] (wz C M o X) 0 0 (zm_i C o X Q)) (l1 : Int32) (l2 : Int32) (M : mS) (h : b_X11_program_213 R9 Q K240 l1 l2 M) : z_go q_X11_program tg 213 [(1, .int l1), (2, .int l2), (0, .ref 233)] [] (wz C M o X) 0 0 (zm_i C o X Q) := by
  unfold b_X11_program_213 at h
  refine z_iload_n 1 214 dX11_program_213 rfl rfl ?_
  refine z_iconst 3 215 dX11_program_214 rfl rfl ?_
  refine z_iload_n 0 216 dX11_program_215 rfl rfl ?_
  refine z_imul 217 dX11_program_216 rfl ?_
  refine z_iconst 3 218 dX11_program_217 rfl rfl ?_
  refine z_iadd 219 dX11_program_218 rfl ?_
  refine z_icmp_ge 240 222 dX11_program_219 rfl rfl (fun hcz30 => ?_) (fun hcz30 => ?_)
  · replace h := h.1 hcz30
    refine z_pick [(1, .int l1), (0, .ref 233)] [0, 2] rfl ?_
    exact hK240 l1 M h
  · replace h := h.2 hcz30
    refine z_aload_n 2 223 dX11_program_222 rfl rfl ?_
    refine gr_33_54 226 dX11_program_223 of_X11_97 rfl ?_
    refine z_iload_n 1 227 dX11_program_226 rfl rfl ?_
    refine z_aload_n 2 228 dX11_program_227 rfl rfl ?_
    refine gr_33_43 231 dX11_program_228 of_X11_70 rfl ?_
    refine z_iload_n 1 232 dX11_program_231 rfl rfl ?_
    obtain ⟨hbz31, h⟩ := h
    refine gma_17 ((m_a M 17) l2.toNatClampNeg) 233 dX11_program_232 hbz31 rfl rfl ?_
    refine pma_24 234 dX11_program_233 hbz31 rfl ?_
    obtain ⟨vz32, hvz32⟩ : ∃ v : Int32, v = l2 + 1 := ⟨_, rfl⟩
    replace h := h vz32 hvz32
    refine z_iinc vz32 [(2, .int vz32), (1, .int l1), (0, .ref 233)] 1 237 dX11_program_234 rfl hvz32.symm (Nat.le_of_ble_eq_true rfl) rfl rfl ?_
    refine z_goto 213 dX11_program_237 rfl ?_
    refine z_pick [(1, .int l1), (2, .int vz32), (0, .ref 233)] [1, 0, 2] rfl ?_
    exact hR9 l1 vz32 (m_aU M 24 l2 ((m_a M 17) l2.toNatClampNeg)) h
theorem tw_X11_program_213 (tg : Bool) (C : cS) (o : Nat → Int64) (X : List va_E) (Q : Int32 → mS → Prop) (K240 : Int32 → mS → Prop) (hK240 : ∀ (l1 : Int32) (M : mS), K240 l1 M → z_go q_X11_program tg 240 [(1, .int l1), (0, .ref 233)] [] (wz C M o X) 0 0 (zm_i C o X Q)) : ∀ (n : Nat) (l1 : Int32) (l2 : Int32) (M : mS), w_X11_program_213 Q K240 n l1 l2 M → z_go q_X11_program tg 213 [(1, .int l1), (2, .int l2), (0, .ref 233)] [] (wz C M o X) 0 0 (zm_i C o X Q) := by
  intro n
  induction n with
  | zero => intro l1 l2 M h; exact h.elim
  | succ n ih => intro l1 l2 M h; exact tb_X11_program_213 tg C o X _ Q K240 ih hK240 l1 l2 M h
def b_X11_program_177 (R9 : Int32 → mS → Prop) (Q : Int32 → mS → Prop) (K246 : mS → Prop) (l1 : Int32) (M : mS) : Prop :=
  (((m_i M 24) ≤ l1 → K246 M) ∧ (¬ (m_i M 24) ≤ l1 → vp_in l1 150 ∧ ∀ vz29 : Int32, vz29 = 3 * l1 → ∃ nz36 : Nat, w_X11_program_213 Q (fun lz33 Mz34 => ∀ vz35 : Int32, vz35 = lz33 + 1 → R9 vz35 Mz34) nz36 l1 vz29 (m_aU (m_aU M 22 l1 ((m_a M 15) l1.toNatClampNeg)) 23 l1 ((m_a M 16) l1.toNatClampNeg))))
def w_X11_program_177 (Q : Int32 → mS → Prop) (K246 : mS → Prop) : Nat → Int32 → mS → Prop
 | 0 => fun _ _ => False
 | n + 1 => fun l1 M => b_X11_program_177 (w_X11_program_177 Q K246 n) Q K246 l1 M
set_option maxRecDepth 100000 in
set_option maxHeartbeats 4000000 in
theorem tb_X11_program_177 (tg : Bool) (C : cS) (o : Nat → Int64) (X : List va_E) (R9 : Int32 → mS → Prop) (Q : Int32 → mS → Prop) (K246 : mS → Prop) (hR9 : ∀ (l1 : Int32) (M : mS), R9 l1 M → z_go q_X11_program tg 177 [(1, .int l1), (0, .ref 233)] [] (wz C M o X) 0 0 (zm_i C o X Q)) (hK246 : ∀ (M : mS), K246 M → z_go q_X11_program tg 246 [(0, .ref 233)] [] (wz C M o X) 0 0 (zm_i C o X Q)) (l1 : Int32) (M : mS) (h : b_X11_program_177 R9 Q K246 l1 M) : z_go q_X11_program tg 177 [(1, .int l1), (0, .ref 233)] [] (wz C M o X) 0 0 (zm_i C o X Q) := by
  unfold b_X11_program_177 at h
  refine z_iload_n 0 178 dX11_program_177 rfl rfl ?_
  refine z_aload_n 1 179 dX11_program_178 rfl rfl ?_
  refine gmi_24 (m_i M 24) 182 dX11_program_179 of_X11_310 rfl rfl ?_
  refine z_icmp_ge 246 185 dX11_program_182 rfl rfl (fun hcz27 => ?_) (fun hcz27 => ?_)
  · replace h := h.1 hcz27
    refine z_pick [(0, .ref 233)] [1] rfl ?_
    exact hK246  M h
  · replace h := h.2 hcz27
    refine z_aload_n 1 186 dX11_program_185 rfl rfl ?_
    refine gr_33_52 189 dX11_program_186 of_X11_91 rfl ?_
    refine z_iload_n 0 190 dX11_program_189 rfl rfl ?_
    refine z_aload_n 1 191 dX11_program_190 rfl rfl ?_
    refine gr_33_41 194 dX11_program_191 of_X11_64 rfl ?_
    refine z_iload_n 0 195 dX11_program_194 rfl rfl ?_
    obtain ⟨hbz28, h⟩ := h
    refine gma_15 ((m_a M 15) l1.toNatClampNeg) 196 dX11_program_195 hbz28 rfl rfl ?_
    refine pma_22 197 dX11_program_196 hbz28 rfl ?_
    refine z_aload_n 1 198 dX11_program_197 rfl rfl ?_
    refine gr_33_53 201 dX11_program_198 of_X11_94 rfl ?_
    refine z_iload_n 0 202 dX11_program_201 rfl rfl ?_
    refine z_aload_n 1 203 dX11_program_202 rfl rfl ?_
    refine gr_33_42 206 dX11_program_203 of_X11_67 rfl ?_
    refine z_iload_n 0 207 dX11_program_206 rfl rfl ?_
    refine gma_16 ((m_a M 16) l1.toNatClampNeg) 208 dX11_program_207 hbz28 rfl rfl ?_
    refine pma_23 209 dX11_program_208 hbz28 rfl ?_
    refine z_iconst 3 210 dX11_program_209 rfl rfl ?_
    refine z_iload_n 0 211 dX11_program_210 rfl rfl ?_
    refine z_imul 212 dX11_program_211 rfl ?_
    refine z_topi (fun vz29 hvz29 => ?_)
    replace h := h vz29 hvz29
    refine z_istore_n [(2, .int vz29), (1, .int l1), (0, .ref 233)] 213 dX11_program_212 (Nat.le_of_ble_eq_true rfl) rfl rfl ?_
    obtain ⟨nz36, h⟩ := h
    refine z_pick [(1, .int l1), (2, .int vz29), (0, .ref 233)] [1, 0, 2] rfl ?_
    refine tw_X11_program_213 tg C o X Q _ (fun lz33 Mz34 h => ?_) nz36 l1 vz29 (m_aU (m_aU M 22 l1 ((m_a M 15) l1.toNatClampNeg)) 23 l1 ((m_a M 16) l1.toNatClampNeg)) h
    · obtain ⟨vz35, hvz35⟩ : ∃ v : Int32, v = lz33 + 1 := ⟨_, rfl⟩
      replace h := h vz35 hvz35
      refine z_iinc vz35 [(1, .int vz35), (0, .ref 233)] 0 243 dX11_program_240 rfl hvz35.symm (Nat.le_of_ble_eq_true rfl) rfl rfl ?_
      refine z_goto 177 dX11_program_243 rfl ?_
      refine z_pick [(1, .int vz35), (0, .ref 233)] [0, 1] rfl ?_
      exact hR9 vz35 Mz34 h
theorem tw_X11_program_177 (tg : Bool) (C : cS) (o : Nat → Int64) (X : List va_E) (Q : Int32 → mS → Prop) (K246 : mS → Prop) (hK246 : ∀ (M : mS), K246 M → z_go q_X11_program tg 246 [(0, .ref 233)] [] (wz C M o X) 0 0 (zm_i C o X Q)) : ∀ (n : Nat) (l1 : Int32) (M : mS), w_X11_program_177 Q K246 n l1 M → z_go q_X11_program tg 177 [(1, .int l1), (0, .ref 233)] [] (wz C M o X) 0 0 (zm_i C o X Q) := by
  intro n
  induction n with
  | zero => intro l1 M h; exact h.elim
  | succ n ih => intro l1 M h; exact tb_X11_program_177 tg C o X _ Q K246 ih hK246 l1 M h
def p_X11_program (M : mS) (Q : Int32 → mS → Prop) : Prop :=
  p_X11_cut (m_iS (m_iS M 2 0) 22 0) (fun Mz1 => ∃ nz40 : Nat, w_X11_program_29 Q (fun Mz8 => ∃ nz39 : Nat, w_X11_program_57 Q (fun Mz23 => p_X11_good (m_iS (m_iS Mz23 19 0) 27 (m_i Mz23 22)) (fun rz25 Mz24 => ((¬ rz25 = 0 → ∃ nz38 : Nat, w_X11_program_177 Q (fun Mz37 => Q (m_i Mz37 26) (m_iS Mz37 28 0)) nz38 0 (m_iS Mz24 26 (m_i Mz24 24))) ∧ (rz25 = 0 → Q ((-1) - (m_i Mz24 23)) Mz24)))) nz39 0 Mz8) nz40 (m_iS (m_iS (m_iS Mz1 21 0) 24 0) 25 0))
set_option maxRecDepth 100000 in
set_option maxHeartbeats 4000000 in
theorem t_X11_program (tg : Bool) (C : cS) (o : Nat → Int64) (X : List va_E) (M : mS) (Q : Int32 → mS → Prop) (h : p_X11_program M Q) : z_M q_X11_program tg [.ref 233] (wz C M o X) (zm_i C o X Q) := by
  unfold p_X11_program at h
  refine z_enter (by decide) (Nat.le_of_ble_eq_true rfl) ?_
  refine z_aload_n 0 1 dX11_program_0 rfl rfl ?_
  refine z_iconst 0 2 dX11_program_1 rfl rfl ?_
  refine pmi_2 5 dX11_program_2 op_X11_131 rfl ?_
  refine z_aload_n 0 6 dX11_program_5 rfl rfl ?_
  refine z_iconst 0 7 dX11_program_6 rfl rfl ?_
  refine pmi_22 10 dX11_program_7 op_X11_260 rfl ?_
  refine z_aload_n 0 11 dX11_program_10 rfl rfl ?_
  refine z_mvV [] 14 dX11_program_11 ok_X11_program_316 rfl rfl (Nat.le_of_ble_eq_true rfl) rc_33 ⟨rfl, rfl⟩ ⟨Nat.le_refl _, Nat.le_refl _⟩ rfl (t_X11_cut tg C o X  (m_iS (m_iS M 2 0) 22 0) _ h) (fun Mz1 h => ?_)
  refine z_aload_n 0 15 dX11_program_14 rfl rfl ?_
  refine z_iconst 0 16 dX11_program_15 rfl rfl ?_
  refine pmi_21 19 dX11_program_16 op_X11_303 rfl ?_
  refine z_aload_n 0 20 dX11_program_19 rfl rfl ?_
  refine z_iconst 0 21 dX11_program_20 rfl rfl ?_
  refine pmi_24 24 dX11_program_21 op_X11_310 rfl ?_
  refine z_aload_n 0 25 dX11_program_24 rfl rfl ?_
  refine z_iconst 0 26 dX11_program_25 rfl rfl ?_
  refine pmi_25 29 dX11_program_26 op_X11_300 rfl ?_
  obtain ⟨nz40, h⟩ := h
  refine z_pick [(0, .ref 233)] [0] rfl ?_
  refine tw_X11_program_29 tg C o X Q _ (fun Mz8 h => ?_) nz40 (m_iS (m_iS (m_iS Mz1 21 0) 24 0) 25 0) h
  · refine z_iconst 0 56 dX11_program_55 rfl rfl ?_
    refine z_istore_n [(1, .int 0), (0, .ref 233)] 57 dX11_program_56 (Nat.le_of_ble_eq_true rfl) rfl rfl ?_
    obtain ⟨nz39, h⟩ := h
    refine z_pick [(1, .int 0), (0, .ref 233)] [0, 1] rfl ?_
    refine tw_X11_program_57 tg C o X Q _ (fun Mz23 h => ?_) nz39 0 Mz8 h
    · refine z_aload_n 0 141 dX11_program_140 rfl rfl ?_
      refine z_iconst 0 142 dX11_program_141 rfl rfl ?_
      refine pmi_19 145 dX11_program_142 op_X11_253 rfl ?_
      refine z_aload_n 0 146 dX11_program_145 rfl rfl ?_
      refine z_aload_n 0 147 dX11_program_146 rfl rfl ?_
      refine gmi_22 (m_i Mz23 22) 150 dX11_program_147 of_X11_260 rfl rfl ?_
      refine pmi_27 153 dX11_program_150 op_X11_322 rfl ?_
      refine z_aload_n 0 154 dX11_program_153 rfl rfl ?_
      refine z_miV [] 157 dX11_program_154 ok_X11_program_292 rfl rfl (Nat.le_of_ble_eq_true rfl) rc_33 ⟨rfl, rfl⟩ ⟨Nat.le_refl _, Nat.le_refl _⟩ rfl (t_X11_good tg C o X  (m_iS (m_iS Mz23 19 0) 27 (m_i Mz23 22)) _ h) (fun rz25 Mz24 h => ?_)
      refine z_if_ne 167 160 dX11_program_157 rfl rfl (fun hcz26 => ?_) (fun hcz26 => ?_)
      · replace h := h.1 hcz26
        refine z_aload_n 0 168 dX11_program_167 rfl rfl ?_
        refine z_aload_n 0 169 dX11_program_168 rfl rfl ?_
        refine gmi_24 (m_i Mz24 24) 172 dX11_program_169 of_X11_310 rfl rfl ?_
        refine pmi_26 175 dX11_program_172 op_X11_100 rfl ?_
        refine z_iconst 0 176 dX11_program_175 rfl rfl ?_
        refine z_istore_n [(1, .int 0), (0, .ref 233)] 177 dX11_program_176 (Nat.le_of_ble_eq_true rfl) rfl rfl ?_
        obtain ⟨nz38, h⟩ := h
        refine z_pick [(1, .int 0), (0, .ref 233)] [0, 1] rfl ?_
        refine tw_X11_program_177 tg C o X Q _ (fun Mz37 h => ?_) nz38 0 (m_iS Mz24 26 (m_i Mz24 24)) h
        · refine z_aload_n 0 247 dX11_program_246 rfl rfl ?_
          refine z_iconst 0 248 dX11_program_247 rfl rfl ?_
          refine pmi_28 251 dX11_program_248 op_X11_325 rfl ?_
          refine z_aload_n 0 252 dX11_program_251 rfl rfl ?_
          refine gmi_26 (m_i Mz37 26) 255 dX11_program_252 of_X11_100 rfl rfl ?_
          exact z_iret dX11_program_255 rfl ⟨Nat.le_refl _, Nat.le_refl _⟩ ⟨m_i Mz37 26, (m_iS Mz37 28 0), rfl, rfl, h⟩
      · replace h := h.2 hcz26
        refine z_iconst (-1) 161 dX11_program_160 rfl rfl ?_
        refine z_aload_n 0 162 dX11_program_161 rfl rfl ?_
        refine gmi_23 (m_i Mz24 23) 165 dX11_program_162 of_X11_263 rfl rfl ?_
        refine z_isub 166 dX11_program_165 rfl ?_
        exact z_iret dX11_program_166 rfl ⟨Nat.le_refl _, Nat.le_refl _⟩ ⟨(-1) - (m_i Mz24 23), Mz24, rfl, rfl, h⟩
end ZG
