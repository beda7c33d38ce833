/-! THE LAW BEGINS: its two makers, its row -/
section ZL29
set_option maxRecDepth 100000
variable {b N : Nat} {xs : Nat → Int32}
abbrev o0 : Nat → Int64 := fun _ => 0
abbrev fs10 : List Value := [.null, .int 0, .null, .null, .null, .int 0, .int 0, .null, .null, .null, .null, .null]
abbrev fs11 : List Value := [.int 0, .int 0, .int 0, .null, .null, .null, .null, .null, .null, .null, .null, .int 0, .null, .int 0, .int 0, .int 0, .int 0, .int 0, .int 0, .int 0, .int 0, .int 0, .int 0, .int 0, .int 0, .int 0, .int 0, .int 0, .null, .int 0, .null, .null, .null, .null, .null, .null, .null, .int 0, .int 0, .int 0, .int 0, .null, .null, .null, .null, .null, .null, .null, .null, .null, .int 0, .int 0, .null, .null, .null, .int 0, .int 0, .int 0, .int 0, .int 0, .int 0, .int 0, .int 0, .null, .null, .null, .null, .int 0, .null, .int 0]
theorem lw_begin (hN : N ≤ 3074) : z_gk q_L_law true 0 [(0, .ref 199)] [] [] 0 0 (zQ b N xs) := by
  obtain ⟨sz, kk, M1, s2, s3, k3, h1, R⟩ := c_init (cellv N xs 0) (cellv N xs 1)
  refine kz_newE fs10 200 [.inr (8, fs10)] 1 12 3 rfl dL_law_0 on_L_8 ⟨by decide, by decide⟩ rfl rfl rfl rfl rfl ?_
  refine kz_dup rfl 4 dL_law_3 rfl ?_
  refine kz_aload_n 0 5 dL_law_4 rfl rfl ?_
  refine kz_iconst 0 6 dL_law_5 rfl rfl ?_
  refine k_callSS [.ref 199, .int (nI 0)] 9 zQ_s dL_law_6 oL_25 rfl rfl (Nat.le_of_ble_eq_true rfl) ⟨by decide, by decide⟩ rfl (t_L_cell (k := 0) hN (by decide)) (fun r w1 hr => ?_)
  obtain ⟨rfl, rfl⟩ := hr
  refine kz_aload_n 0 10 dL_law_9 rfl rfl ?_
  refine kz_iconst 1 11 dL_law_10 rfl rfl ?_
  refine k_callSS [.ref 199, .int (nI 1)] 14 zQ_s dL_law_11 oL_25 rfl rfl (Nat.le_of_ble_eq_true rfl) ⟨by decide, by decide⟩ rfl (t_L_cell (k := 1) hN (by decide)) (fun r w1 hr => ?_)
  obtain ⟨rfl, rfl⟩ := hr
  refine kz_con (b := 200) (st := [.ref 200]) [.int (cellv N xs 0), .int (cellv N xs 1)] _ 33 22519 17 dL_law_14 oL_31 rfl rfl (Nat.le_of_ble_eq_true rfl) ⟨by decide, by decide⟩ rfl rfl rfl (t_X10_init (cellv N xs 0) (cellv N xs 1) sz kk s3 k3 s2) ?_
  rw [wzC_init]
  refine kz_astore_n [(1, .ref 200), (0, .ref 199)] 18 dL_law_17 (by decide) rfl rfl ?_
  generalize cInit sz kk = C at R ⊢
  refine kz_newE fs11 233 (wzC C ++ [.inr (9, fs11)]) 34 22589 21 rfl dL_law_18 on_L_34 ⟨by decide, by decide⟩ rfl rfl rfl rfl rfl ?_
  refine kz_dup rfl 22 dL_law_21 rfl ?_
  refine kz_aload_n 1 23 dL_law_22 rfl rfl ?_
  refine kz_iconst 0 24 dL_law_23 rfl rfl ?_
  refine k_callSS [.ref 199, .int (nI 0)] 27 zQ_s dL_law_24 oL_25 rfl rfl (Nat.le_of_ble_eq_true rfl) ⟨by decide, by decide⟩ rfl (t_L_cell (k := 0) hN (by decide)) (fun r w1 hr => ?_)
  obtain ⟨rfl, rfl⟩ := hr
  refine kz_aload_n 1 28 dL_law_27 rfl rfl ?_
  refine kz_iconst 1 29 dL_law_28 rfl rfl ?_
  refine k_callSS [.ref 199, .int (nI 1)] 32 zQ_s dL_law_29 oL_25 rfl rfl (Nat.le_of_ble_eq_true rfl) ⟨by decide, by decide⟩ rfl (t_L_cell (k := 1) hN (by decide)) (fun r w1 hr => ?_)
  obtain ⟨rfl, rfl⟩ := hr
  refine kz_callI (b := 233) (st := [.ref 233]) [.int (cellv N xs 0), .int (cellv N xs 1)] 35 dL_law_32 oL_36 rfl (Nat.le_of_ble_eq_true rfl) ⟨by decide, by decide⟩ rfl (t_X11_init C o0 (cellv N xs 0) (cellv N xs 1) (fun M2 => M2 = M1) (h1 _ rfl)) (fun r w1 hr => ?_)
  obtain ⟨M2, rfl, rfl, rfl⟩ := hr
  refine kz_astore_n [(2, .ref 233), (1, .ref 200), (0, .ref 199)] 36 dL_law_35 (by decide) rfl rfl ?_
  refine kz_iconst 1 37 dL_law_36 rfl rfl ?_
  refine kz_newaE 2 1 (1, .inr (.inl (fun _ => 0))) 268 (wz C M2 o0 (zo (fun _ => 0))) 69 152093 39 rfl dL_law_37 (by decide) rfl oa_long (fun _ => rfl) (by decide) rfl (by decide) ⟨by decide, by decide⟩ rfl ?_ rfl (by decide) rfl ?_
  · unfold wz
    rw [List.append_assoc, List.append_assoc, List.nil_append]
  refine kz_astore_n [(3, .ref 268), (2, .ref 233), (1, .ref 200), (0, .ref 199)] 40 dL_law_39 (by decide) rfl rfl ?_
  refine kz_iconst 2 41 dL_law_40 rfl rfl ?_
  refine kz_istore [(4, .int 2), (3, .ref 268), (2, .ref 233), (1, .ref 200), (0, .ref 199)] 43 dL_law_41 (by decide) rfl rfl ?_
  refine kz_pick (lL 2) [4, 3, 2, 1, 0] rfl ?_
  exact k_tg (lw_loop hN (N + 6) 2 (by omega) (by omega) R (by omega) (by omega) (by omega))
end ZL29
