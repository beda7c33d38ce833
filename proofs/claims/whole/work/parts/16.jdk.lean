section ZJ
theorem z_inlt {i : Int32} {n : Nat} (h : vp_in i n) : i.toNatClampNeg < n := Nat.not_le.mp fun q => h (Or.inr q)
theorem z_innn {i : Int32} {n : Nat} (h : vp_in i n) : ¬ i < 0 := fun q => h (Or.inl q)
theorem z_inlt' {i : Int32} {n : Nat} (h : vp_in i n) (hn : n < 2 ^ 31) : i < nI n := by
  obtain ⟨j, hj, rfl⟩ := vp_in_of h hn
  exact nI_lt hj hn
theorem z_tch : ∀ t, t < 40 → ∀ j, j < z_tlen t → ((z_tchr t j &&& 255).toUInt32 % 65536).toInt32 = z_tchr t j := by decide +kernel
theorem z_tln : ∀ t, t < 40 → z_tlen t < 2 ^ 31 := by decide +kernel
set_option maxRecDepth 100000 in
theorem t_coder (tg : Bool) (t : Nat) (w : List va_E) (ht : t < 40) : z_M q_J0_coder_7d493 tg [.ref (30 + t)] w (zk_i w (fun r => r = 0)) := by
  refine z_enter (by decide) (Nat.le_of_ble_eq_true rfl) ?_
  refine z_gets (.int 1) 3 dJ0_coder_7d493_0 (List.mem_of_getElem? (i := 3) rfl) ol_J0_38 rfl ?_
  refine z_if_eq 13 6 dJ0_coder_7d493_3 rfl rfl (fun h => absurd h (by decide)) (fun _ => ?_)
  refine z_aload_n 0 7 dJ0_coder_7d493_6 rfl rfl ?_
  refine z_getX t 10 dJ0_coder_7d493_7 (List.mem_of_getElem? (i := 4) rfl) ht rfl ol_J0_15 rfl ?_
  refine z_goto 14 dJ0_coder_7d493_10 rfl ?_
  exact z_zret dJ0_coder_7d493_14 rfl rfl ⟨Nat.le_refl _, Nat.le_refl _⟩ ⟨0, rfl, rfl, rfl⟩
set_option maxRecDepth 100000 in
theorem t_latin (tg : Bool) (t : Nat) (w : List va_E) (ht : t < 40) : z_M q_J0_isLatin1_aae02 tg [.ref (30 + t)] w (zk_i w (fun r => r = 1)) := by
  refine z_enter (by decide) (Nat.le_of_ble_eq_true rfl) ?_
  refine z_gets (.int 1) 3 dJ0_isLatin1_aae02_0 (List.mem_of_getElem? (i := 3) rfl) ol_J0_38 rfl ?_
  refine z_if_eq 17 6 dJ0_isLatin1_aae02_3 rfl rfl (fun h => absurd h (by decide)) (fun _ => ?_)
  refine z_aload_n 0 7 dJ0_isLatin1_aae02_6 rfl rfl ?_
  refine z_getX t 10 dJ0_isLatin1_aae02_7 (List.mem_of_getElem? (i := 4) rfl) ht rfl ol_J0_15 rfl ?_
  refine z_if_ne 17 13 dJ0_isLatin1_aae02_10 rfl rfl (fun h => absurd rfl h) (fun _ => ?_)
  refine z_iconst 1 14 dJ0_isLatin1_aae02_13 rfl rfl ?_
  refine z_goto 18 dJ0_isLatin1_aae02_14 rfl ?_
  exact z_zret dJ0_isLatin1_aae02_18 rfl rfl ⟨Nat.le_refl _, Nat.le_refl _⟩ ⟨1, rfl, rfl, rfl⟩
set_option maxRecDepth 100000 in
theorem t_len (tg : Bool) (t : Nat) (w : List va_E) (ht : t < 40) : z_M q_J0_length_8abf5 tg [.ref (30 + t)] w (zk_i w (fun r => r = nI (z_tlen t))) := by
  refine z_enter (by decide) (Nat.le_of_ble_eq_true rfl) ?_
  refine z_aload_n 0 1 dJ0_length_8abf5_0 rfl rfl ?_
  refine z_getX t 4 dJ0_length_8abf5_1 (List.mem_of_getElem? (i := 3) rfl) ht rfl ol_J0_9 rfl ?_
  refine z_talen t 5 dJ0_length_8abf5_4 (List.mem_of_getElem? (i := 3) rfl) ht rfl rfl ?_
  refine z_aload_n 0 6 dJ0_length_8abf5_5 rfl rfl ?_
  refine z_kiV [] 9 dJ0_length_8abf5_6 ok_J0_length_8abf5_335 rfl rfl (Nat.le_of_ble_eq_true rfl) (z_recvX t (List.mem_of_getElem? (i := 1) rfl) ht rfl) ⟨rfl, rfl⟩ ⟨Nat.le_refl _, Nat.le_refl _⟩ rfl (t_coder tg t w ht) (fun r hr => ?_)
  subst hr
  refine z_ishr 10 dJ0_length_8abf5_9 rfl ?_
  exact z_iret dJ0_length_8abf5_10 rfl ⟨Nat.le_refl _, Nat.le_refl _⟩ ⟨_, rfl, rfl, sb_shr0 _⟩
set_option maxRecDepth 100000 in
theorem t_chk3 (tg : Bool) (i n : Int32) (v : Value) (w : List va_E) (hv : v = .null ∨ v = .ref 120) (h1 : ¬ i < 0) (h2 : i < n) : z_M q_J3_checkIndex_8e157 tg [.int i, .int n, v] w (zk_i w (fun r => r = i)) := by
  refine z_enter (by decide) (by rcases hv with rfl | rfl <;> exact (Nat.le_of_ble_eq_true rfl)) ?_
  refine z_iload_n 0 1 dJ3_checkIndex_8e157_0 rfl rfl ?_
  refine z_if_lt 9 4 dJ3_checkIndex_8e157_1 rfl rfl (fun h => absurd h h1) (fun _ => ?_)
  refine z_iload_n 0 5 dJ3_checkIndex_8e157_4 rfl rfl ?_
  refine z_iload_n 1 6 dJ3_checkIndex_8e157_5 rfl rfl ?_
  refine z_icmp_lt 16 9 dJ3_checkIndex_8e157_6 rfl rfl (fun _ => ?_) (fun h => absurd h2 h)
  refine z_iload_n 0 17 dJ3_checkIndex_8e157_16 rfl rfl ?_
  exact z_iret dJ3_checkIndex_8e157_17 rfl ⟨Nat.le_refl _, Nat.le_refl _⟩ ⟨i, rfl, rfl, rfl⟩
set_option maxRecDepth 100000 in
theorem t_chkS (tg : Bool) (i n : Int32) (w : List va_E) (h1 : ¬ i < 0) (h2 : i < n) : z_M q_J0_checkIndex_df160 tg [.int i, .int n] w (zk_v w) := by
  refine z_enter (by decide) (Nat.le_of_ble_eq_true rfl) ?_
  refine z_iload_n 0 1 dJ0_checkIndex_df160_0 rfl rfl ?_
  refine z_iload_n 1 2 dJ0_checkIndex_df160_1 rfl rfl ?_
  refine z_getsQ 5 dJ0_checkIndex_df160_2 ol_J0_1053 rfl (fun v hv => ?_)
  refine z_kiS [.int i, .int n, v] 8 dJ0_checkIndex_df160_5 ok_J0_checkIndex_df160_1059 rfl rfl (Nat.le_of_ble_eq_true rfl) ⟨rfl, rfl⟩ ⟨Nat.le_refl _, Nat.le_refl _⟩ rfl (t_chk3 tg i n v w hv h1 h2) (fun r _ => ?_)
  refine z_pop rfl 9 dJ0_checkIndex_df160_8 rfl ?_
  exact z_vret dJ0_checkIndex_df160_9 rfl ⟨Nat.le_refl _, Nat.le_refl _⟩ ⟨rfl, rfl⟩
set_option maxRecDepth 100000 in
theorem t_chr1 (tg : Bool) (t : Nat) (i : Int32) (w : List va_E) (ht : t < 40) (hi : vp_in i (z_tlen t)) : z_M q_J1_charAt_3b067 tg [.ref (80 + t), .int i] w (zk_i w (fun r => r = z_tchr t i.toNatClampNeg)) := by
  refine z_enter (by decide) (Nat.le_of_ble_eq_true rfl) ?_
  refine z_iload_n 1 1 dJ1_charAt_3b067_0 rfl rfl ?_
  refine z_aload_n 0 2 dJ1_charAt_3b067_1 rfl rfl ?_
  refine z_talen t 3 dJ1_charAt_3b067_2 (List.mem_of_getElem? (i := 3) rfl) ht rfl rfl ?_
  refine z_kvS [.int i, .int (Int32.ofNat (z_tlen t))] 6 dJ1_charAt_3b067_3 ok_J1_charAt_3b067_9 rfl rfl (Nat.le_of_ble_eq_true rfl) ⟨rfl, rfl⟩ ⟨Nat.le_refl _, Nat.le_refl _⟩ rfl (t_chkS tg i _ w (z_innn hi) (z_inlt' hi (z_tln t ht))) ?_
  refine z_aload_n 0 7 dJ1_charAt_3b067_6 rfl rfl ?_
  refine z_iload_n 1 8 dJ1_charAt_3b067_7 rfl rfl ?_
  refine z_tbald t 9 dJ1_charAt_3b067_8 (List.mem_of_getElem? (i := 3) rfl) ht rfl hi rfl ?_
  refine z_sipush 255 12 dJ1_charAt_3b067_9 rfl rfl ?_
  refine z_iand 13 dJ1_charAt_3b067_12 rfl ?_
  refine z_i2c 14 dJ1_charAt_3b067_13 rfl ?_
  exact z_zret dJ1_charAt_3b067_14 rfl (pk_nc _) ⟨Nat.le_refl _, Nat.le_refl _⟩ ⟨_, rfl, rfl, z_tch t ht _ (z_inlt hi)⟩
set_option maxRecDepth 100000 in
theorem t_chr (tg : Bool) (t : Nat) (i : Int32) (w : List va_E) (ht : t < 40) (hi : vp_in i (z_tlen t)) : z_M q_J0_charAt_5068e tg [.ref (30 + t), .int i] w (zk_i w (fun r => r = z_tchr t i.toNatClampNeg)) := by
  refine z_enter (by decide) (Nat.le_of_ble_eq_true rfl) ?_
  refine z_aload_n 0 1 dJ0_charAt_5068e_0 rfl rfl ?_
  refine z_kiV [] 4 dJ0_charAt_5068e_1 ok_J0_charAt_5068e_492 rfl rfl (Nat.le_of_ble_eq_true rfl) (z_recvX t (List.mem_of_getElem? (i := 1) rfl) ht rfl) ⟨rfl, rfl⟩ ⟨Nat.le_refl _, Nat.le_refl _⟩ rfl (t_latin tg t w ht) (fun r hr => ?_)
  subst hr
  refine z_if_eq 16 7 dJ0_charAt_5068e_4 rfl rfl (fun h => absurd h (by decide)) (fun _ => ?_)
  refine z_aload_n 0 8 dJ0_charAt_5068e_7 rfl rfl ?_
  refine z_getX t 11 dJ0_charAt_5068e_8 (List.mem_of_getElem? (i := 3) rfl) ht rfl ol_J0_9 rfl ?_
  refine z_iload_n 1 12 dJ0_charAt_5068e_11 rfl rfl ?_
  refine z_kiS [.ref (80 + t), .int i] 15 dJ0_charAt_5068e_12 ok_J0_charAt_5068e_495 rfl rfl (Nat.le_of_ble_eq_true rfl) ⟨rfl, rfl⟩ ⟨Nat.le_refl _, Nat.le_refl _⟩ rfl (t_chr1 tg t i w ht hi) (fun r hr => ?_)
  subst hr
  exact z_zret dJ0_charAt_5068e_15 rfl (by rw [← z_tch t ht _ (z_inlt hi)]; exact pk_nc _) ⟨Nat.le_refl _, Nat.le_refl _⟩ ⟨_, rfl, rfl, rfl⟩
end ZJ
