section ZG
def p_X11_fault (M : mS) (Q : Int32 → mS → Prop) : Prop :=
  Q (m_i M 27) (m_iS M 2 0)
set_option maxRecDepth 100000 in
set_option maxHeartbeats 4000000 in
theorem t_X11_fault (tg : Bool) (C : cS) (o : Nat → Int64) (X : List va_E) (M : mS) (Q : Int32 → mS → Prop) (h : p_X11_fault M Q) : z_M q_X11_fault tg [.ref 233] (wz C M o X) (zm_i C o X Q) := by
  unfold p_X11_fault at h
  refine z_enter (by decide) (Nat.le_of_ble_eq_true rfl) ?_
  refine z_aload_n 0 1 dX11_fault_0 rfl rfl ?_
  refine z_iconst 0 2 dX11_fault_1 rfl rfl ?_
  refine pmi_2 5 dX11_fault_2 op_X11_131 rfl ?_
  refine z_aload_n 0 6 dX11_fault_5 rfl rfl ?_
  refine gmi_27 (m_i M 27) 9 dX11_fault_6 of_X11_322 rfl rfl ?_
  exact z_iret dX11_fault_9 rfl ⟨Nat.le_refl _, Nat.le_refl _⟩ ⟨m_i M 27, (m_iS M 2 0), rfl, rfl, h⟩
def p_X11_goes (a1 : Int32) (M : mS) (Q : mS → Prop) : Prop :=
  ((¬ a1 = (m_i M 26) → Q (m_iS (m_iS M 30 a1) 28 1)) ∧ (a1 = (m_i M 26) → Q (m_iS (m_iS M 30 a1) 28 2)))
set_option maxRecDepth 100000 in
set_option maxHeartbeats 4000000 in
theorem t_X11_goes (tg : Bool) (C : cS) (o : Nat → Int64) (X : List va_E) (a1 : Int32) (M : mS) (Q : mS → Prop) (h : p_X11_goes a1 M Q) : z_M q_X11_goes tg [.ref 233, .int a1] (wz C M o X) (zm_v C o X Q) := by
  unfold p_X11_goes at h
  refine z_enter (by decide) (Nat.le_of_ble_eq_true rfl) ?_
  refine z_aload_n 0 1 dX11_goes_0 rfl rfl ?_
  refine z_iload_n 1 2 dX11_goes_1 rfl rfl ?_
  refine pmi_30 5 dX11_goes_2 op_X11_328 rfl ?_
  refine z_aload_n 0 6 dX11_goes_5 rfl rfl ?_
  refine z_aload_n 0 7 dX11_goes_6 rfl rfl ?_
  refine gmi_30 a1 10 dX11_goes_7 of_X11_328 rfl rfl ?_
  refine z_aload_n 0 11 dX11_goes_10 rfl rfl ?_
  refine gmi_26 (m_i M 26) 14 dX11_goes_11 of_X11_100 rfl rfl ?_
  refine z_icmp_ne 21 17 dX11_goes_14 rfl rfl (fun hcz1 => ?_) (fun hcz1 => ?_)
  · replace h := h.1 hcz1
    refine z_iconst 1 22 dX11_goes_21 rfl rfl ?_
    refine pmi_28 25 dX11_goes_22 op_X11_325 rfl ?_
    exact z_vret dX11_goes_25 rfl ⟨Nat.le_refl _, Nat.le_refl _⟩ ⟨(m_iS (m_iS M 30 a1) 28 1), rfl, rfl, h⟩
  · replace h := h.2 hcz1
    refine z_iconst 2 18 dX11_goes_17 rfl rfl ?_
    refine z_goto 22 dX11_goes_18 rfl ?_
    refine pmi_28 25 dX11_goes_22 op_X11_325 rfl ?_
    exact z_vret dX11_goes_25 rfl ⟨Nat.le_refl _, Nat.le_refl _⟩ ⟨(m_iS (m_iS M 30 a1) 28 2), rfl, rfl, h⟩
def j_X11_begin_14 (Q : mS → Prop) (s0 : Int32) (M : mS) : Prop :=
  ((s0 ≤ 0 → p_X11_goes 0 (m_iS (m_iS (m_iS (m_iS (m_iS M 2 s0) 31 0) 32 0) 33 0) 29 0) (fun Mz3 => Q Mz3)) ∧ (¬ s0 ≤ 0 → Q (m_iS M 2 s0)))
set_option maxRecDepth 100000 in
set_option maxHeartbeats 4000000 in
theorem tj_X11_begin_14 (tg : Bool) (C : cS) (o : Nat → Int64) (X : List va_E) (Q : mS → Prop) (s0 : Int32) (M : mS) (h : j_X11_begin_14 Q s0 M) : z_go q_X11_begin tg 14 [(0, .ref 233)] [.int s0, .ref 233] (wz C M o X) 0 0 (zm_v C o X Q) := by
  unfold j_X11_begin_14 at h
  refine pmi_2 17 dX11_begin_14 op_X11_131 rfl ?_
  refine z_aload_n 0 18 dX11_begin_17 rfl rfl ?_
  refine gmi_2 s0 21 dX11_begin_18 of_X11_131 rfl rfl ?_
  refine z_if_le 25 24 dX11_begin_21 rfl rfl (fun hcz2 => ?_) (fun hcz2 => ?_)
  · replace h := h.1 hcz2
    refine z_aload_n 0 26 dX11_begin_25 rfl rfl ?_
    refine z_iconst 0 27 dX11_begin_26 rfl rfl ?_
    refine pmi_31 30 dX11_begin_27 op_X11_331 rfl ?_
    refine z_aload_n 0 31 dX11_begin_30 rfl rfl ?_
    refine z_iconst 0 32 dX11_begin_31 rfl rfl ?_
    refine pmi_32 35 dX11_begin_32 op_X11_334 rfl ?_
    refine z_aload_n 0 36 dX11_begin_35 rfl rfl ?_
    refine z_iconst 0 37 dX11_begin_36 rfl rfl ?_
    refine pmi_33 40 dX11_begin_37 op_X11_337 rfl ?_
    refine z_aload_n 0 41 dX11_begin_40 rfl rfl ?_
    refine z_iconst 0 42 dX11_begin_41 rfl rfl ?_
    refine pmi_29 45 dX11_begin_42 op_X11_340 rfl ?_
    refine z_aload_n 0 46 dX11_begin_45 rfl rfl ?_
    refine z_iconst 0 47 dX11_begin_46 rfl rfl ?_
    refine z_mvV [.int 0] 50 dX11_begin_47 ok_X11_begin_343 rfl rfl (Nat.le_of_ble_eq_true rfl) rc_33 ⟨rfl, rfl⟩ ⟨Nat.le_refl _, Nat.le_refl _⟩ rfl (t_X11_goes tg C o X 0 (m_iS (m_iS (m_iS (m_iS (m_iS M 2 s0) 31 0) 32 0) 33 0) 29 0) _ h) (fun Mz3 h => ?_)
    exact z_vret dX11_begin_50 rfl ⟨Nat.le_refl _, Nat.le_refl _⟩ ⟨Mz3, rfl, rfl, h⟩
  · replace h := h.2 hcz2
    exact z_vret dX11_begin_24 rfl ⟨Nat.le_refl _, Nat.le_refl _⟩ ⟨(m_iS M 2 s0), rfl, rfl, h⟩
def p_X11_begin (M : mS) (Q : mS → Prop) : Prop :=
  ((¬ (m_i M 26) = (-1) → j_X11_begin_14 Q 0 M) ∧ ((m_i M 26) = (-1) → j_X11_begin_14 Q 1 M))
set_option maxRecDepth 100000 in
set_option maxHeartbeats 4000000 in
theorem t_X11_begin (tg : Bool) (C : cS) (o : Nat → Int64) (X : List va_E) (M : mS) (Q : mS → Prop) (h : p_X11_begin M Q) : z_M q_X11_begin tg [.ref 233] (wz C M o X) (zm_v C o X Q) := by
  unfold p_X11_begin at h
  refine z_enter (by decide) (Nat.le_of_ble_eq_true rfl) ?_
  refine z_aload_n 0 1 dX11_begin_0 rfl rfl ?_
  refine z_aload_n 0 2 dX11_begin_1 rfl rfl ?_
  refine gmi_26 (m_i M 26) 5 dX11_begin_2 of_X11_100 rfl rfl ?_
  refine z_iconst (-1) 6 dX11_begin_5 rfl rfl ?_
  refine z_icmp_ne 13 9 dX11_begin_6 rfl rfl (fun hcz1 => ?_) (fun hcz1 => ?_)
  · replace h := h.1 hcz1
    refine z_iconst 0 14 dX11_begin_13 rfl rfl ?_
    refine z_pick [(0, .ref 233)] [0] rfl ?_
    exact tj_X11_begin_14 tg C o X Q 0 M h
  · replace h := h.2 hcz1
    refine z_iconst 1 10 dX11_begin_9 rfl rfl ?_
    refine z_goto 14 dX11_begin_10 rfl ?_
    refine z_pick [(0, .ref 233)] [0] rfl ?_
    exact tj_X11_begin_14 tg C o X Q 1 M h
def p_X11_step (M : mS) (Q : Int32 → mS → Prop) : Prop :=
  vp_in (m_i M 30) 150 ∧ ∀ vz2 : Int32, vz2 = (m_a M 22) (m_i M 30).toNatClampNeg → vp_in (3 * (m_i M 30)) 450 ∧ ∀ vz4 : Int32, vz4 = (m_a M 24) (3 * (m_i M 30)).toNatClampNeg → vp_in ((3 * (m_i M 30)) + 1) 450 ∧ ∀ vz6 : Int32, vz6 = (m_a M 24) ((3 * (m_i M 30)) + 1).toNatClampNeg → vp_in ((3 * (m_i M 30)) + 2) 450 ∧ ∀ vz8 : Int32, vz8 = (m_a M 24) ((3 * (m_i M 30)) + 2).toNatClampNeg → ((20 ≤ vz2 → ((vz2 = 20 → p_X11_isNumber vz4 M (fun rz12 Mz11 => ((¬ rz12 = 0 → ((300 ≤ (m_i Mz11 33) → p_X11_goes ((m_i Mz11 30) + 1) (m_iS Mz11 33 ((m_i Mz11 33) + 1)) (fun Mz15 => Q 0 Mz15)) ∧ (¬ 300 ≤ (m_i Mz11 33) → vp_in vz4 58 ∧ vp_in (m_i Mz11 33) 300 ∧ p_X11_goes ((m_i Mz11 30) + 1) (m_iS (m_aU Mz11 26 (m_i Mz11 33) ((m_a Mz11 7) vz4.toNatClampNeg)) 33 ((m_i Mz11 33) + 1)) (fun Mz18 => Q 0 Mz18)))) ∧ (rz12 = 0 → Q 1 Mz11)))) ∧ (¬ vz2 = 20 → ((vz2 = 21 → p_X11_goes vz4 M (fun Mz20 => Q 0 Mz20)) ∧ (¬ vz2 = 21 → ((vz2 = 22 → p_X11_isNumber vz4 M (fun rz23 Mz22 => ((rz23 = 0 → p_X11_goes ((m_i Mz22 30) + 1) Mz22 (fun Mz25 => Q 0 Mz25)) ∧ (¬ rz23 = 0 → vp_in vz4 58 ∧ ((¬ ((m_a Mz22 7) vz4.toNatClampNeg) = 0 → p_X11_goes ((m_i Mz22 30) + 1) Mz22 (fun Mz28 => Q 0 Mz28)) ∧ (((m_a Mz22 7) vz4.toNatClampNeg) = 0 → p_X11_goes vz6 Mz22 (fun Mz29 => Q 0 Mz29))))))) ∧ (¬ vz2 = 22 → ((vz2 = 23 → ((¬ (m_i M 32) = 30 → vp_in (m_i M 32) 30 ∧ p_X11_goes vz4 (m_iS (m_aU M 25 (m_i M 32) ((m_i M 30) + 1)) 32 ((m_i M 32) + 1)) (fun Mz33 => Q 0 Mz33)) ∧ ((m_i M 32) = 30 → Q 7 M))) ∧ (¬ vz2 = 23 → ((vz2 = 24 → ((¬ (m_i M 32) = 0 → vp_in ((m_i M 32) - 1) 30 ∧ p_X11_goes ((m_a M 25) ((m_i M 32) - 1).toNatClampNeg) (m_iS M 32 ((m_i M 32) - 1)) (fun Mz37 => Q 0 Mz37)) ∧ ((m_i M 32) = 0 → Q 0 (m_iS M 28 2)))) ∧ (¬ vz2 = 24 → Q 0 (m_iS M 28 2)))))))))))) ∧ (¬ 20 ≤ vz2 → p_X11_does vz2 vz4 vz6 vz8 M (fun rz39 Mz38 => ((¬ rz39 = 0 → Q rz39 Mz38) ∧ (rz39 = 0 → p_X11_goes ((m_i Mz38 30) + 1) Mz38 (fun Mz41 => Q rz39 Mz41))))))
set_option maxRecDepth 100000 in
set_option maxHeartbeats 4000000 in
theorem t_X11_step (tg : Bool) (C : cS) (o : Nat → Int64) (X : List va_E) (M : mS) (Q : Int32 → mS → Prop) (h : p_X11_step M Q) : z_M q_X11_step tg [.ref 233] (wz C M o X) (zm_i C o X Q) := by
  unfold p_X11_step at h
  refine z_enter (by decide) (Nat.le_of_ble_eq_true rfl) ?_
  refine z_aload_n 0 1 dX11_step_0 rfl rfl ?_
  refine gr_33_52 4 dX11_step_1 of_X11_91 rfl ?_
  refine z_aload_n 0 5 dX11_step_4 rfl rfl ?_
  refine gmi_30 (m_i M 30) 8 dX11_step_5 of_X11_328 rfl rfl ?_
  obtain ⟨hbz1, h⟩ := h
  refine gma_22 ((m_a M 22) (m_i M 30).toNatClampNeg) 9 dX11_step_8 hbz1 rfl rfl ?_
  refine z_topi (fun vz2 hvz2 => ?_)
  replace h := h vz2 hvz2
  refine z_istore_n [(1, .int vz2), (0, .ref 233)] 10 dX11_step_9 (Nat.le_of_ble_eq_true rfl) rfl rfl ?_
  refine z_aload_n 1 11 dX11_step_10 rfl rfl ?_
  refine gr_33_54 14 dX11_step_11 of_X11_97 rfl ?_
  refine z_iconst 3 15 dX11_step_14 rfl rfl ?_
  refine z_aload_n 1 16 dX11_step_15 rfl rfl ?_
  refine gmi_30 (m_i M 30) 19 dX11_step_16 of_X11_328 rfl rfl ?_
  refine z_imul 20 dX11_step_19 rfl ?_
  obtain ⟨hbz3, h⟩ := h
  refine gma_24 ((m_a M 24) (3 * (m_i M 30)).toNatClampNeg) 21 dX11_step_20 hbz3 rfl rfl ?_
  refine z_topi (fun vz4 hvz4 => ?_)
  replace h := h vz4 hvz4
  refine z_istore_n [(2, .int vz4), (1, .int vz2), (0, .ref 233)] 22 dX11_step_21 (Nat.le_of_ble_eq_true rfl) rfl rfl ?_
  refine z_aload_n 2 23 dX11_step_22 rfl rfl ?_
  refine gr_33_54 26 dX11_step_23 of_X11_97 rfl ?_
  refine z_iconst 3 27 dX11_step_26 rfl rfl ?_
  refine z_aload_n 2 28 dX11_step_27 rfl rfl ?_
  refine gmi_30 (m_i M 30) 31 dX11_step_28 of_X11_328 rfl rfl ?_
  refine z_imul 32 dX11_step_31 rfl ?_
  refine z_iconst 1 33 dX11_step_32 rfl rfl ?_
  refine z_iadd 34 dX11_step_33 rfl ?_
  obtain ⟨hbz5, h⟩ := h
  refine gma_24 ((m_a M 24) ((3 * (m_i M 30)) + 1).toNatClampNeg) 35 dX11_step_34 hbz5 rfl rfl ?_
  refine z_topi (fun vz6 hvz6 => ?_)
  replace h := h vz6 hvz6
  refine z_istore_n [(3, .int vz6), (2, .int vz4), (1, .int vz2), (0, .ref 233)] 36 dX11_step_35 (Nat.le_of_ble_eq_true rfl) rfl rfl ?_
  refine z_aload_n 3 37 dX11_step_36 rfl rfl ?_
  refine gr_33_54 40 dX11_step_37 of_X11_97 rfl ?_
  refine z_iconst 3 41 dX11_step_40 rfl rfl ?_
  refine z_aload_n 3 42 dX11_step_41 rfl rfl ?_
  refine gmi_30 (m_i M 30) 45 dX11_step_42 of_X11_328 rfl rfl ?_
  refine z_imul 46 dX11_step_45 rfl ?_
  refine z_iconst 2 47 dX11_step_46 rfl rfl ?_
  refine z_iadd 48 dX11_step_47 rfl ?_
  obtain ⟨hbz7, h⟩ := h
  refine gma_24 ((m_a M 24) ((3 * (m_i M 30)) + 2).toNatClampNeg) 49 dX11_step_48 hbz7 rfl rfl ?_
  refine z_topi (fun vz8 hvz8 => ?_)
  replace h := h vz8 hvz8
  refine z_istore [(4, .int vz8), (3, .int vz6), (2, .int vz4), (1, .int vz2), (0, .ref 233)] 51 dX11_step_49 (Nat.le_of_ble_eq_true rfl) rfl rfl ?_
  refine z_iload_n 3 52 dX11_step_51 rfl rfl ?_
  refine z_bipush 20 54 dX11_step_52 rfl rfl ?_
  refine z_icmp_ge 86 57 dX11_step_54 rfl rfl (fun hcz9 => ?_) (fun hcz9 => ?_)
  · replace h := h.1 hcz9
    refine z_iload_n 3 87 dX11_step_86 rfl rfl ?_
    by_cases hcz10 : vz2 = 20
    · replace h := h.1 hcz10
      refine z_tabIn 120 dX11_step_87 (by rw [hcz10]; decide) (by rw [hcz10]; decide) (by rw [hcz10]; rfl) rfl ?_
      refine z_aload_n 4 121 dX11_step_120 rfl rfl ?_
      refine z_iload_n 2 122 dX11_step_121 rfl rfl ?_
      refine z_miV [.int vz4] 125 dX11_step_122 ok_X11_step_209 rfl rfl (Nat.le_of_ble_eq_true rfl) rc_33 ⟨rfl, rfl⟩ ⟨Nat.le_refl _, Nat.le_refl _⟩ rfl (t_X11_isNumber tg C o X vz4 M _ h) (fun rz12 Mz11 h => ?_)
      refine z_if_ne 130 128 dX11_step_125 rfl rfl (fun hcz13 => ?_) (fun hcz13 => ?_)
      · replace h := h.1 hcz13
        refine z_aload_n 4 131 dX11_step_130 rfl rfl ?_
        refine gmi_33 (m_i Mz11 33) 134 dX11_step_131 of_X11_337 rfl rfl ?_
        refine z_sipush 300 137 dX11_step_134 rfl rfl ?_
        refine z_icmp_ge 155 140 dX11_step_137 rfl rfl (fun hcz14 => ?_) (fun hcz14 => ?_)
        · replace h := h.1 hcz14
          refine z_aload_n 4 156 dX11_step_155 rfl rfl ?_
          refine z_dup rfl 157 dX11_step_156 rfl ?_
          refine gmi_33 (m_i Mz11 33) 160 dX11_step_157 of_X11_337 rfl rfl ?_
          refine z_iconst 1 161 dX11_step_160 rfl rfl ?_
          refine z_iadd 162 dX11_step_161 rfl ?_
          refine pmi_33 165 dX11_step_162 op_X11_337 rfl ?_
          refine z_aload_n 4 166 dX11_step_165 rfl rfl ?_
          refine z_aload_n 4 167 dX11_step_166 rfl rfl ?_
          refine gmi_30 (m_i Mz11 30) 170 dX11_step_167 of_X11_328 rfl rfl ?_
          refine z_iconst 1 171 dX11_step_170 rfl rfl ?_
          refine z_iadd 172 dX11_step_171 rfl ?_
          refine z_mvV [.int ((m_i Mz11 30) + 1)] 175 dX11_step_172 ok_X11_step_343 rfl rfl (Nat.le_of_ble_eq_true rfl) rc_33 ⟨rfl, rfl⟩ ⟨Nat.le_refl _, Nat.le_refl _⟩ rfl (t_X11_goes tg C o X ((m_i Mz11 30) + 1) (m_iS Mz11 33 ((m_i Mz11 33) + 1)) _ h) (fun Mz15 h => ?_)
          refine z_iconst 0 176 dX11_step_175 rfl rfl ?_
          exact z_iret dX11_step_176 rfl ⟨Nat.le_refl _, Nat.le_refl _⟩ ⟨0, Mz15, rfl, rfl, h⟩
        · replace h := h.2 hcz14
          refine z_aload_n 4 141 dX11_step_140 rfl rfl ?_
          refine gr_33_64 144 dX11_step_141 of_X11_107 rfl ?_
          refine z_aload_n 4 145 dX11_step_144 rfl rfl ?_
          refine gmi_33 (m_i Mz11 33) 148 dX11_step_145 of_X11_337 rfl rfl ?_
          refine z_aload_n 4 149 dX11_step_148 rfl rfl ?_
          refine gr_33_10 152 dX11_step_149 of_X11_33 rfl ?_
          refine z_iload_n 2 153 dX11_step_152 rfl rfl ?_
          obtain ⟨hbz16, h⟩ := h
          refine gma_7 ((m_a Mz11 7) vz4.toNatClampNeg) 154 dX11_step_153 hbz16 rfl rfl ?_
          obtain ⟨hbz17, h⟩ := h
          refine pma_26 155 dX11_step_154 hbz17 rfl ?_
          refine z_aload_n 4 156 dX11_step_155 rfl rfl ?_
          refine z_dup rfl 157 dX11_step_156 rfl ?_
          refine gmi_33 (m_i Mz11 33) 160 dX11_step_157 of_X11_337 rfl rfl ?_
          refine z_iconst 1 161 dX11_step_160 rfl rfl ?_
          refine z_iadd 162 dX11_step_161 rfl ?_
          refine pmi_33 165 dX11_step_162 op_X11_337 rfl ?_
          refine z_aload_n 4 166 dX11_step_165 rfl rfl ?_
          refine z_aload_n 4 167 dX11_step_166 rfl rfl ?_
          refine gmi_30 (m_i Mz11 30) 170 dX11_step_167 of_X11_328 rfl rfl ?_
          refine z_iconst 1 171 dX11_step_170 rfl rfl ?_
          refine z_iadd 172 dX11_step_171 rfl ?_
          refine z_mvV [.int ((m_i Mz11 30) + 1)] 175 dX11_step_172 ok_X11_step_343 rfl rfl (Nat.le_of_ble_eq_true rfl) rc_33 ⟨rfl, rfl⟩ ⟨Nat.le_refl _, Nat.le_refl _⟩ rfl (t_X11_goes tg C o X ((m_i Mz11 30) + 1) (m_iS (m_aU Mz11 26 (m_i Mz11 33) ((m_a Mz11 7) vz4.toNatClampNeg)) 33 ((m_i Mz11 33) + 1)) _ h) (fun Mz18 h => ?_)
          refine z_iconst 0 176 dX11_step_175 rfl rfl ?_
          exact z_iret dX11_step_176 rfl ⟨Nat.le_refl _, Nat.le_refl _⟩ ⟨0, Mz18, rfl, rfl, h⟩
      · replace h := h.2 hcz13
        refine z_iconst 1 129 dX11_step_128 rfl rfl ?_
        exact z_iret dX11_step_129 rfl ⟨Nat.le_refl _, Nat.le_refl _⟩ ⟨1, Mz11, rfl, rfl, h⟩
    · replace h := h.2 hcz10
      by_cases hcz19 : vz2 = 21
      · replace h := h.1 hcz19
        refine z_tabIn 177 dX11_step_87 (by rw [hcz19]; decide) (by rw [hcz19]; decide) (by rw [hcz19]; rfl) rfl ?_
        refine z_aload_n 4 178 dX11_step_177 rfl rfl ?_
        refine z_iload_n 2 179 dX11_step_178 rfl rfl ?_
        refine z_mvV [.int vz4] 182 dX11_step_179 ok_X11_step_343 rfl rfl (Nat.le_of_ble_eq_true rfl) rc_33 ⟨rfl, rfl⟩ ⟨Nat.le_refl _, Nat.le_refl _⟩ rfl (t_X11_goes tg C o X vz4 M _ h) (fun Mz20 h => ?_)
        refine z_iconst 0 183 dX11_step_182 rfl rfl ?_
        exact z_iret dX11_step_183 rfl ⟨Nat.le_refl _, Nat.le_refl _⟩ ⟨0, Mz20, rfl, rfl, h⟩
      · replace h := h.2 hcz19
        by_cases hcz21 : vz2 = 22
        · replace h := h.1 hcz21
          refine z_tabIn 184 dX11_step_87 (by rw [hcz21]; decide) (by rw [hcz21]; decide) (by rw [hcz21]; rfl) rfl ?_
          refine z_aload_n 4 185 dX11_step_184 rfl rfl ?_
          refine z_aload_n 4 186 dX11_step_185 rfl rfl ?_
          refine z_iload_n 2 187 dX11_step_186 rfl rfl ?_
          refine z_miV [.int vz4] 190 dX11_step_187 ok_X11_step_209 rfl rfl (Nat.le_of_ble_eq_true rfl) rc_33 ⟨rfl, rfl⟩ ⟨Nat.le_refl _, Nat.le_refl _⟩ rfl (t_X11_isNumber tg C o X vz4 M _ h) (fun rz23 Mz22 h => ?_)
          refine z_if_eq 206 193 dX11_step_190 rfl rfl (fun hcz24 => ?_) (fun hcz24 => ?_)
          · replace h := h.1 hcz24
            refine z_aload_n 4 207 dX11_step_206 rfl rfl ?_
            refine gmi_30 (m_i Mz22 30) 210 dX11_step_207 of_X11_328 rfl rfl ?_
            refine z_iconst 1 211 dX11_step_210 rfl rfl ?_
            refine z_iadd 212 dX11_step_211 rfl ?_
            refine z_mvV [.int ((m_i Mz22 30) + 1)] 215 dX11_step_212 ok_X11_step_343 rfl rfl (Nat.le_of_ble_eq_true rfl) rc_33 ⟨rfl, rfl⟩ ⟨Nat.le_refl _, Nat.le_refl _⟩ rfl (t_X11_goes tg C o X ((m_i Mz22 30) + 1) Mz22 _ h) (fun Mz25 h => ?_)
            refine z_iconst 0 216 dX11_step_215 rfl rfl ?_
            exact z_iret dX11_step_216 rfl ⟨Nat.le_refl _, Nat.le_refl _⟩ ⟨0, Mz25, rfl, rfl, h⟩
          · replace h := h.2 hcz24
            refine z_aload_n 4 194 dX11_step_193 rfl rfl ?_
            refine gr_33_10 197 dX11_step_194 of_X11_33 rfl ?_
            refine z_iload_n 2 198 dX11_step_197 rfl rfl ?_
            obtain ⟨hbz26, h⟩ := h
            refine gma_7 ((m_a Mz22 7) vz4.toNatClampNeg) 199 dX11_step_198 hbz26 rfl rfl ?_
            refine z_if_ne 206 202 dX11_step_199 rfl rfl (fun hcz27 => ?_) (fun hcz27 => ?_)
            · replace h := h.1 hcz27
              refine z_aload_n 4 207 dX11_step_206 rfl rfl ?_
              refine gmi_30 (m_i Mz22 30) 210 dX11_step_207 of_X11_328 rfl rfl ?_
              refine z_iconst 1 211 dX11_step_210 rfl rfl ?_
              refine z_iadd 212 dX11_step_211 rfl ?_
              refine z_mvV [.int ((m_i Mz22 30) + 1)] 215 dX11_step_212 ok_X11_step_343 rfl rfl (Nat.le_of_ble_eq_true rfl) rc_33 ⟨rfl, rfl⟩ ⟨Nat.le_refl _, Nat.le_refl _⟩ rfl (t_X11_goes tg C o X ((m_i Mz22 30) + 1) Mz22 _ h) (fun Mz28 h => ?_)
              refine z_iconst 0 216 dX11_step_215 rfl rfl ?_
              exact z_iret dX11_step_216 rfl ⟨Nat.le_refl _, Nat.le_refl _⟩ ⟨0, Mz28, rfl, rfl, h⟩
            · replace h := h.2 hcz27
              refine z_iload_n 1 203 dX11_step_202 rfl rfl ?_
              refine z_goto 212 dX11_step_203 rfl ?_
              refine z_mvV [.int vz6] 215 dX11_step_212 ok_X11_step_343 rfl rfl (Nat.le_of_ble_eq_true rfl) rc_33 ⟨rfl, rfl⟩ ⟨Nat.le_refl _, Nat.le_refl _⟩ rfl (t_X11_goes tg C o X vz6 Mz22 _ h) (fun Mz29 h => ?_)
              refine z_iconst 0 216 dX11_step_215 rfl rfl ?_
              exact z_iret dX11_step_216 rfl ⟨Nat.le_refl _, Nat.le_refl _⟩ ⟨0, Mz29, rfl, rfl, h⟩
        · replace h := h.2 hcz21
          by_cases hcz30 : vz2 = 23
          · replace h := h.1 hcz30
            refine z_tabIn 217 dX11_step_87 (by rw [hcz30]; decide) (by rw [hcz30]; decide) (by rw [hcz30]; rfl) rfl ?_
            refine z_aload_n 4 218 dX11_step_217 rfl rfl ?_
            refine gmi_32 (m_i M 32) 221 dX11_step_218 of_X11_334 rfl rfl ?_
            refine z_bipush 30 223 dX11_step_221 rfl rfl ?_
            refine z_icmp_ne 229 226 dX11_step_223 rfl rfl (fun hcz31 => ?_) (fun hcz31 => ?_)
            · replace h := h.1 hcz31
              refine z_aload_n 4 230 dX11_step_229 rfl rfl ?_
              refine gr_33_63 233 dX11_step_230 of_X11_104 rfl ?_
              refine z_aload_n 4 234 dX11_step_233 rfl rfl ?_
              refine gmi_32 (m_i M 32) 237 dX11_step_234 of_X11_334 rfl rfl ?_
              refine z_aload_n 4 238 dX11_step_237 rfl rfl ?_
              refine gmi_30 (m_i M 30) 241 dX11_step_238 of_X11_328 rfl rfl ?_
              refine z_iconst 1 242 dX11_step_241 rfl rfl ?_
              refine z_iadd 243 dX11_step_242 rfl ?_
              obtain ⟨hbz32, h⟩ := h
              refine pma_25 244 dX11_step_243 hbz32 rfl ?_
              refine z_aload_n 4 245 dX11_step_244 rfl rfl ?_
              refine z_dup rfl 246 dX11_step_245 rfl ?_
              refine gmi_32 (m_i M 32) 249 dX11_step_246 of_X11_334 rfl rfl ?_
              refine z_iconst 1 250 dX11_step_249 rfl rfl ?_
              refine z_iadd 251 dX11_step_250 rfl ?_
              refine pmi_32 254 dX11_step_251 op_X11_334 rfl ?_
              refine z_aload_n 4 255 dX11_step_254 rfl rfl ?_
              refine z_iload_n 2 256 dX11_step_255 rfl rfl ?_
              refine z_mvV [.int vz4] 259 dX11_step_256 ok_X11_step_343 rfl rfl (Nat.le_of_ble_eq_true rfl) rc_33 ⟨rfl, rfl⟩ ⟨Nat.le_refl _, Nat.le_refl _⟩ rfl (t_X11_goes tg C o X vz4 (m_iS (m_aU M 25 (m_i M 32) ((m_i M 30) + 1)) 32 ((m_i M 32) + 1)) _ h) (fun Mz33 h => ?_)
              refine z_iconst 0 260 dX11_step_259 rfl rfl ?_
              exact z_iret dX11_step_260 rfl ⟨Nat.le_refl _, Nat.le_refl _⟩ ⟨0, Mz33, rfl, rfl, h⟩
            · replace h := h.2 hcz31
              refine z_bipush 7 228 dX11_step_226 rfl rfl ?_
              exact z_iret dX11_step_228 rfl ⟨Nat.le_refl _, Nat.le_refl _⟩ ⟨7, M, rfl, rfl, h⟩
          · replace h := h.2 hcz30
            by_cases hcz34 : vz2 = 24
            · replace h := h.1 hcz34
              refine z_tabIn 261 dX11_step_87 (by rw [hcz34]; decide) (by rw [hcz34]; decide) (by rw [hcz34]; rfl) rfl ?_
              refine z_aload_n 4 262 dX11_step_261 rfl rfl ?_
              refine gmi_32 (m_i M 32) 265 dX11_step_262 of_X11_334 rfl rfl ?_
              refine z_if_ne 275 268 dX11_step_265 rfl rfl (fun hcz35 => ?_) (fun hcz35 => ?_)
              · replace h := h.1 hcz35
                refine z_aload_n 4 276 dX11_step_275 rfl rfl ?_
                refine z_dup rfl 277 dX11_step_276 rfl ?_
                refine gmi_32 (m_i M 32) 280 dX11_step_277 of_X11_334 rfl rfl ?_
                refine z_iconst 1 281 dX11_step_280 rfl rfl ?_
                refine z_isub 282 dX11_step_281 rfl ?_
                refine pmi_32 285 dX11_step_282 op_X11_334 rfl ?_
                refine z_aload_n 4 286 dX11_step_285 rfl rfl ?_
                refine z_aload_n 4 287 dX11_step_286 rfl rfl ?_
                refine gr_33_63 290 dX11_step_287 of_X11_104 rfl ?_
                refine z_aload_n 4 291 dX11_step_290 rfl rfl ?_
                refine gmi_32 ((m_i M 32) - 1) 294 dX11_step_291 of_X11_334 rfl rfl ?_
                obtain ⟨hbz36, h⟩ := h
                refine gma_25 ((m_a M 25) ((m_i M 32) - 1).toNatClampNeg) 295 dX11_step_294 hbz36 rfl rfl ?_
                refine z_mvV [.int ((m_a M 25) ((m_i M 32) - 1).toNatClampNeg)] 298 dX11_step_295 ok_X11_step_343 rfl rfl (Nat.le_of_ble_eq_true rfl) rc_33 ⟨rfl, rfl⟩ ⟨Nat.le_refl _, Nat.le_refl _⟩ rfl (t_X11_goes tg C o X ((m_a M 25) ((m_i M 32) - 1).toNatClampNeg) (m_iS M 32 ((m_i M 32) - 1)) _ h) (fun Mz37 h => ?_)
                refine z_iconst 0 299 dX11_step_298 rfl rfl ?_
                exact z_iret dX11_step_299 rfl ⟨Nat.le_refl _, Nat.le_refl _⟩ ⟨0, Mz37, rfl, rfl, h⟩
              · replace h := h.2 hcz35
                refine z_aload_n 4 269 dX11_step_268 rfl rfl ?_
                refine z_iconst 2 270 dX11_step_269 rfl rfl ?_
                refine pmi_28 273 dX11_step_270 op_X11_325 rfl ?_
                refine z_iconst 0 274 dX11_step_273 rfl rfl ?_
                exact z_iret dX11_step_274 rfl ⟨Nat.le_refl _, Nat.le_refl _⟩ ⟨0, (m_iS M 28 2), rfl, rfl, h⟩
            · replace h := h.2 hcz34
              refine z_tab [20, 21, 22, 23, 24] 300 dX11_step_87 (List.forall_mem_cons.mpr ⟨hcz10, (List.forall_mem_cons.mpr ⟨hcz19, (List.forall_mem_cons.mpr ⟨hcz21, (List.forall_mem_cons.mpr ⟨hcz30, (List.forall_mem_cons.mpr ⟨hcz34, (fun _ q9 => absurd q9 List.not_mem_nil)⟩)⟩)⟩)⟩)⟩) (by decide +kernel) (by decide) rfl ?_
              refine z_aload_n 4 301 dX11_step_300 rfl rfl ?_
              refine z_iconst 2 302 dX11_step_301 rfl rfl ?_
              refine pmi_28 305 dX11_step_302 op_X11_325 rfl ?_
              refine z_iconst 0 306 dX11_step_305 rfl rfl ?_
              exact z_iret dX11_step_306 rfl ⟨Nat.le_refl _, Nat.le_refl _⟩ ⟨0, (m_iS M 28 2), rfl, rfl, h⟩
  · replace h := h.2 hcz9
    refine z_aload_n 4 58 dX11_step_57 rfl rfl ?_
    refine z_iload_n 3 59 dX11_step_58 rfl rfl ?_
    refine z_iload_n 2 60 dX11_step_59 rfl rfl ?_
    refine z_iload_n 1 61 dX11_step_60 rfl rfl ?_
    refine z_iload 0 63 dX11_step_61 rfl rfl ?_
    refine z_miV [.int vz2, .int vz4, .int vz6, .int vz8] 66 dX11_step_63 ok_X11_step_238 rfl rfl (Nat.le_of_ble_eq_true rfl) rc_33 ⟨rfl, rfl⟩ ⟨Nat.le_refl _, Nat.le_refl _⟩ rfl (t_X11_does tg C o X vz2 vz4 vz6 vz8 M _ h) (fun rz39 Mz38 h => ?_)
    refine z_istore [(5, .int rz39), (4, .int vz8), (3, .int vz6), (2, .int vz4), (1, .int vz2), (0, .ref 233)] 68 dX11_step_66 (Nat.le_of_ble_eq_true rfl) rfl rfl ?_
    refine z_iload 0 70 dX11_step_68 rfl rfl ?_
    refine z_if_ne 83 73 dX11_step_70 rfl rfl (fun hcz40 => ?_) (fun hcz40 => ?_)
    · replace h := h.1 hcz40
      refine z_iload 0 85 dX11_step_83 rfl rfl ?_
      exact z_iret dX11_step_85 rfl ⟨Nat.le_refl _, Nat.le_refl _⟩ ⟨rz39, Mz38, rfl, rfl, h⟩
    · replace h := h.2 hcz40
      refine z_aload_n 5 74 dX11_step_73 rfl rfl ?_
      refine z_aload_n 5 75 dX11_step_74 rfl rfl ?_
      refine gmi_30 (m_i Mz38 30) 78 dX11_step_75 of_X11_328 rfl rfl ?_
      refine z_iconst 1 79 dX11_step_78 rfl rfl ?_
      refine z_iadd 80 dX11_step_79 rfl ?_
      refine z_mvV [.int ((m_i Mz38 30) + 1)] 83 dX11_step_80 ok_X11_step_343 rfl rfl (Nat.le_of_ble_eq_true rfl) rc_33 ⟨rfl, rfl⟩ ⟨Nat.le_refl _, Nat.le_refl _⟩ rfl (t_X11_goes tg C o X ((m_i Mz38 30) + 1) Mz38 _ h) (fun Mz41 h => ?_)
      refine z_iload 0 85 dX11_step_83 rfl rfl ?_
      exact z_iret dX11_step_85 rfl ⟨Nat.le_refl _, Nat.le_refl _⟩ ⟨rz39, Mz41, rfl, rfl, h⟩
def b_X11_run_44 (R9 : Int32 → Int32 → Int32 → mS → Prop) (Q : Int32 → mS → Prop) (K104 : Int32 → mS → Prop) (l1 : Int32) (l2 : Int32) (l3 : Int32) (M : mS) : Prop :=
  ((l3 = 0 → K104 l2 M) ∧ (¬ l3 = 0 → ((l1 ≤ l2 → K104 l2 M) ∧ (¬ l1 ≤ l2 → (((m_i M 28) = 2 → K104 l2 M) ∧ (¬ (m_i M 28) = 2 → p_X11_step M (fun rz8 Mz7 => ((rz8 ≤ 0 → ∀ vz10 : Int32, vz10 = l2 + 1 → R9 l1 vz10 l3 (m_iS Mz7 31 ((m_i Mz7 31) + 1))) ∧ (¬ rz8 ≤ 0 → R9 l1 l2 0 (m_iS (m_iS Mz7 28 3) 29 rz8))))))))))
def w_X11_run_44 (Q : Int32 → mS → Prop) (K104 : Int32 → mS → Prop) : Nat → Int32 → Int32 → Int32 → mS → Prop
 | 0 => fun _ _ _ _ => False
 | n + 1 => fun l1 l2 l3 M => b_X11_run_44 (w_X11_run_44 Q K104 n) Q K104 l1 l2 l3 M
set_option maxRecDepth 100000 in
set_option maxHeartbeats 4000000 in
theorem tb_X11_run_44 (tg : Bool) (C : cS) (o : Nat → Int64) (X : List va_E) (R9 : Int32 → Int32 → Int32 → mS → Prop) (Q : Int32 → mS → Prop) (K104 : Int32 → mS → Prop) (hR9 : ∀ (l1 : Int32) (l2 : Int32) (l3 : Int32) (M : mS), R9 l1 l2 l3 M → z_go q_X11_run tg 44 [(1, .int l1), (2, .int l2), (3, .int l3), (0, .ref 233)] [] (wz C M o X) 0 0 (zm_i C o X Q)) (hK104 : ∀ (l2 : Int32) (M : mS), K104 l2 M → z_go q_X11_run tg 104 [(2, .int l2)] [] (wz C M o X) 0 0 (zm_i C o X Q)) (l1 : Int32) (l2 : Int32) (l3 : Int32) (M : mS) (h : b_X11_run_44 R9 Q K104 l1 l2 l3 M) : z_go q_X11_run tg 44 [(1, .int l1), (2, .int l2), (3, .int l3), (0, .ref 233)] [] (wz C M o X) 0 0 (zm_i C o X Q) := by
  unfold b_X11_run_44 at h
  refine z_iload_n 2 45 dX11_run_44 rfl rfl ?_
  refine z_if_eq 104 48 dX11_run_45 rfl rfl (fun hcz4 => ?_) (fun hcz4 => ?_)
  · replace h := h.1 hcz4
    refine z_pick [(2, .int l2)] [1] rfl ?_
    exact hK104 l2 M h
  · replace h := h.2 hcz4
    refine z_iload_n 1 49 dX11_run_48 rfl rfl ?_
    refine z_iload_n 0 50 dX11_run_49 rfl rfl ?_
    refine z_icmp_ge 104 53 dX11_run_50 rfl rfl (fun hcz5 => ?_) (fun hcz5 => ?_)
    · replace h := h.1 hcz5
      refine z_pick [(2, .int l2)] [1] rfl ?_
      exact hK104 l2 M h
    · replace h := h.2 hcz5
      refine z_aload_n 3 54 dX11_run_53 rfl rfl ?_
      refine gmi_28 (m_i M 28) 57 dX11_run_54 of_X11_325 rfl rfl ?_
      refine z_iconst 2 58 dX11_run_57 rfl rfl ?_
      refine z_icmp_eq 104 61 dX11_run_58 rfl rfl (fun hcz6 => ?_) (fun hcz6 => ?_)
      · replace h := h.1 hcz6
        refine z_pick [(2, .int l2)] [1] rfl ?_
        exact hK104 l2 M h
      · replace h := h.2 hcz6
        refine z_aload_n 3 62 dX11_run_61 rfl rfl ?_
        refine z_miV [] 65 dX11_run_62 ok_X11_run_346 rfl rfl (Nat.le_of_ble_eq_true rfl) rc_33 ⟨rfl, rfl⟩ ⟨Nat.le_refl _, Nat.le_refl _⟩ rfl (t_X11_step tg C o X  M _ h) (fun rz8 Mz7 h => ?_)
        refine z_istore [(4, .int rz8), (1, .int l1), (2, .int l2), (3, .int l3), (0, .ref 233)] 67 dX11_run_65 (Nat.le_of_ble_eq_true rfl) rfl rfl ?_
        refine z_iload 0 69 dX11_run_67 rfl rfl ?_
        refine z_if_le 88 72 dX11_run_69 rfl rfl (fun hcz9 => ?_) (fun hcz9 => ?_)
        · replace h := h.1 hcz9
          obtain ⟨vz10, hvz10⟩ : ∃ v : Int32, v = l2 + 1 := ⟨_, rfl⟩
          replace h := h vz10 hvz10
          refine z_iinc vz10 [(2, .int vz10), (4, .int rz8), (1, .int l1), (3, .int l3), (0, .ref 233)] 2 91 dX11_run_88 rfl hvz10.symm (Nat.le_of_ble_eq_true rfl) rfl rfl ?_
          refine z_aload_n 4 92 dX11_run_91 rfl rfl ?_
          refine z_dup rfl 93 dX11_run_92 rfl ?_
          refine gmi_31 (m_i Mz7 31) 96 dX11_run_93 of_X11_331 rfl rfl ?_
          refine z_iconst 1 97 dX11_run_96 rfl rfl ?_
          refine z_iadd 98 dX11_run_97 rfl ?_
          refine pmi_31 101 dX11_run_98 op_X11_331 rfl ?_
          refine z_goto 44 dX11_run_101 rfl ?_
          refine z_pick [(1, .int l1), (2, .int vz10), (3, .int l3), (0, .ref 233)] [2, 0, 3, 4] rfl ?_
          exact hR9 l1 vz10 l3 (m_iS Mz7 31 ((m_i Mz7 31) + 1)) h
        · replace h := h.2 hcz9
          refine z_aload_n 4 73 dX11_run_72 rfl rfl ?_
          refine z_iconst 3 74 dX11_run_73 rfl rfl ?_
          refine pmi_28 77 dX11_run_74 op_X11_325 rfl ?_
          refine z_aload_n 4 78 dX11_run_77 rfl rfl ?_
          refine z_iload 0 80 dX11_run_78 rfl rfl ?_
          refine pmi_29 83 dX11_run_80 op_X11_340 rfl ?_
          refine z_iconst 0 84 dX11_run_83 rfl rfl ?_
          refine z_istore_n [(3, .int 0), (4, .int rz8), (1, .int l1), (2, .int l2), (0, .ref 233)] 85 dX11_run_84 (Nat.le_of_ble_eq_true rfl) rfl rfl ?_
          refine z_goto 101 dX11_run_85 rfl ?_
          refine z_goto 44 dX11_run_101 rfl ?_
          refine z_pick [(1, .int l1), (2, .int l2), (3, .int 0), (0, .ref 233)] [2, 3, 0, 4] rfl ?_
          exact hR9 l1 l2 0 (m_iS (m_iS Mz7 28 3) 29 rz8) h
theorem tw_X11_run_44 (tg : Bool) (C : cS) (o : Nat → Int64) (X : List va_E) (Q : Int32 → mS → Prop) (K104 : Int32 → mS → Prop) (hK104 : ∀ (l2 : Int32) (M : mS), K104 l2 M → z_go q_X11_run tg 104 [(2, .int l2)] [] (wz C M o X) 0 0 (zm_i C o X Q)) : ∀ (n : Nat) (l1 : Int32) (l2 : Int32) (l3 : Int32) (M : mS), w_X11_run_44 Q K104 n l1 l2 l3 M → z_go q_X11_run tg 44 [(1, .int l1), (2, .int l2), (3, .int l3), (0, .ref 233)] [] (wz C M o X) 0 0 (zm_i C o X Q) := by
  intro n
  induction n with
  | zero => intro l1 l2 l3 M h; exact h.elim
  | succ n ih => intro l1 l2 l3 M h; exact tb_X11_run_44 tg C o X _ Q K104 ih hK104 l1 l2 l3 M h
def p_X11_run (a1 : Int32) (M : mS) (Q : Int32 → mS → Prop) : Prop :=
  ((a1 < 0 → Q 0 (m_iS M 2 1)) ∧ (¬ a1 < 0 → ((a1 ≤ 2000 → ((¬ (m_i M 28) = 0 → ∃ nz13 : Nat, w_X11_run_44 Q (fun lz11 Mz12 => Q lz11 Mz12) nz13 a1 0 1 (m_iS M 2 0)) ∧ ((m_i M 28) = 0 → Q 0 (m_iS M 2 2)))) ∧ (¬ a1 ≤ 2000 → Q 0 (m_iS M 2 1)))))
set_option maxRecDepth 100000 in
set_option maxHeartbeats 4000000 in
theorem t_X11_run (tg : Bool) (C : cS) (o : Nat → Int64) (X : List va_E) (a1 : Int32) (M : mS) (Q : Int32 → mS → Prop) (h : p_X11_run a1 M Q) : z_M q_X11_run tg [.ref 233, .int a1] (wz C M o X) (zm_i C o X Q) := by
  unfold p_X11_run at h
  refine z_enter (by decide) (Nat.le_of_ble_eq_true rfl) ?_
  refine z_aload_n 0 1 dX11_run_0 rfl rfl ?_
  refine z_iload_n 1 2 dX11_run_1 rfl rfl ?_
  refine z_if_lt 12 5 dX11_run_2 rfl rfl (fun hcz1 => ?_) (fun hcz1 => ?_)
  · replace h := h.1 hcz1
    refine z_iconst 1 13 dX11_run_12 rfl rfl ?_
    refine z_goto 28 dX11_run_13 rfl ?_
    refine pmi_2 31 dX11_run_28 op_X11_131 rfl ?_
    refine z_aload_n 0 32 dX11_run_31 rfl rfl ?_
    refine gmi_2 1 35 dX11_run_32 of_X11_131 rfl rfl ?_
    refine z_if_le 40 38 dX11_run_35 rfl rfl (fun hc => absurd hc (by decide)) (fun _ => ?_)
    refine z_iconst 0 39 dX11_run_38 rfl rfl ?_
    exact z_iret dX11_run_39 rfl ⟨Nat.le_refl _, Nat.le_refl _⟩ ⟨0, (m_iS M 2 1), rfl, rfl, h⟩
  · replace h := h.2 hcz1
    refine z_iload_n 1 6 dX11_run_5 rfl rfl ?_
    refine z_sipush 2000 9 dX11_run_6 rfl rfl ?_
    refine z_icmp_le 16 12 dX11_run_9 rfl rfl (fun hcz2 => ?_) (fun hcz2 => ?_)
    · replace h := h.1 hcz2
      refine z_aload_n 0 17 dX11_run_16 rfl rfl ?_
      refine gmi_28 (m_i M 28) 20 dX11_run_17 of_X11_325 rfl rfl ?_
      refine z_if_ne 27 23 dX11_run_20 rfl rfl (fun hcz3 => ?_) (fun hcz3 => ?_)
      · replace h := h.1 hcz3
        refine z_iconst 0 28 dX11_run_27 rfl rfl ?_
        refine pmi_2 31 dX11_run_28 op_X11_131 rfl ?_
        refine z_aload_n 0 32 dX11_run_31 rfl rfl ?_
        refine gmi_2 0 35 dX11_run_32 of_X11_131 rfl rfl ?_
        refine z_if_le 40 38 dX11_run_35 rfl rfl (fun _ => ?_) (fun hc => absurd hc (by decide))
        refine z_iconst 0 41 dX11_run_40 rfl rfl ?_
        refine z_istore_n [(2, .int 0), (0, .ref 233), (1, .int a1)] 42 dX11_run_41 (Nat.le_of_ble_eq_true rfl) rfl rfl ?_
        refine z_iconst 1 43 dX11_run_42 rfl rfl ?_
        refine z_istore_n [(3, .int 1), (2, .int 0), (0, .ref 233), (1, .int a1)] 44 dX11_run_43 (Nat.le_of_ble_eq_true rfl) rfl rfl ?_
        obtain ⟨nz13, h⟩ := h
        refine z_pick [(1, .int a1), (2, .int 0), (3, .int 1), (0, .ref 233)] [3, 1, 0, 2] rfl ?_
        refine tw_X11_run_44 tg C o X Q _ (fun lz11 Mz12 h => ?_) nz13 a1 0 1 (m_iS M 2 0) h
        · refine z_iload_n 0 105 dX11_run_104 rfl rfl ?_
          exact z_iret dX11_run_105 rfl ⟨Nat.le_refl _, Nat.le_refl _⟩ ⟨lz11, Mz12, rfl, rfl, h⟩
      · replace h := h.2 hcz3
        refine z_iconst 2 24 dX11_run_23 rfl rfl ?_
        refine z_goto 28 dX11_run_24 rfl ?_
        refine pmi_2 31 dX11_run_28 op_X11_131 rfl ?_
        refine z_aload_n 0 32 dX11_run_31 rfl rfl ?_
        refine gmi_2 2 35 dX11_run_32 of_X11_131 rfl rfl ?_
        refine z_if_le 40 38 dX11_run_35 rfl rfl (fun hc => absurd hc (by decide)) (fun _ => ?_)
        refine z_iconst 0 39 dX11_run_38 rfl rfl ?_
        exact z_iret dX11_run_39 rfl ⟨Nat.le_refl _, Nat.le_refl _⟩ ⟨0, (m_iS M 2 2), rfl, rfl, h⟩
    · replace h := h.2 hcz2
      refine z_iconst 1 13 dX11_run_12 rfl rfl ?_
      refine z_goto 28 dX11_run_13 rfl ?_
      refine pmi_2 31 dX11_run_28 op_X11_131 rfl ?_
      refine z_aload_n 0 32 dX11_run_31 rfl rfl ?_
      refine gmi_2 1 35 dX11_run_32 of_X11_131 rfl rfl ?_
      refine z_if_le 40 38 dX11_run_35 rfl rfl (fun hc => absurd hc (by decide)) (fun _ => ?_)
      refine z_iconst 0 39 dX11_run_38 rfl rfl ?_
      exact z_iret dX11_run_39 rfl ⟨Nat.le_refl _, Nat.le_refl _⟩ ⟨0, (m_iS M 2 1), rfl, rfl, h⟩
def j_X11_about_26 (Q : Int32 → mS → Prop) (l1 : Int32) (s0 : Int32) (M : mS) : Prop :=
  ((l1 = 0 → Q (m_i M 28) M) ∧ (¬ l1 = 0 → ((l1 = 1 → ((¬ (m_i M 28) = 3 → Q 0 M) ∧ ((m_i M 28) = 3 → Q (m_i M 29) M))) ∧ (¬ l1 = 1 → ((l1 = 2 → ((s0 = 0 → Q (-1) M) ∧ (¬ s0 = 0 → Q (m_i M 30) M))) ∧ (¬ l1 = 2 → ((l1 = 3 → ((s0 = 0 → Q (-1) M) ∧ (¬ s0 = 0 → vp_in (m_i M 30) 150 ∧ Q ((m_a M 23) (m_i M 30).toNatClampNeg) M))) ∧ (¬ l1 = 3 → ((l1 = 4 → ((¬ (m_i M 28) = 0 → Q (m_i M 31) M) ∧ ((m_i M 28) = 0 → Q 0 M))) ∧ (¬ l1 = 4 → ((l1 = 5 → ((¬ (m_i M 28) = 0 → Q (m_i M 32) M) ∧ ((m_i M 28) = 0 → Q 0 M))) ∧ (¬ l1 = 5 → ((l1 = 6 → ((¬ (m_i M 28) = 0 → Q (m_i M 33) M) ∧ ((m_i M 28) = 0 → Q 0 M))) ∧ (¬ l1 = 6 → Q (-1) M))))))))))))))
set_option maxRecDepth 100000 in
set_option maxHeartbeats 4000000 in
theorem tj_X11_about_26 (tg : Bool) (C : cS) (o : Nat → Int64) (X : List va_E) (Q : Int32 → mS → Prop) (l1 : Int32) (s0 : Int32) (M : mS) (h : j_X11_about_26 Q l1 s0 M) : z_go q_X11_about tg 26 [(1, .int l1), (0, .ref 233)] [.int s0] (wz C M o X) 0 0 (zm_i C o X Q) := by
  unfold j_X11_about_26 at h
  refine z_istore_n [(2, .int s0), (1, .int l1), (0, .ref 233)] 27 dX11_about_26 (Nat.le_of_ble_eq_true rfl) rfl rfl ?_
  refine z_iload_n 1 28 dX11_about_27 rfl rfl ?_
  by_cases hcz2 : l1 = 0
  · replace h := h.1 hcz2
    refine z_tabIn 72 dX11_about_28 (by rw [hcz2]; decide) (by rw [hcz2]; decide) (by rw [hcz2]; rfl) rfl ?_
    refine z_aload_n 2 73 dX11_about_72 rfl rfl ?_
    refine gmi_28 (m_i M 28) 76 dX11_about_73 of_X11_325 rfl rfl ?_
    exact z_iret dX11_about_76 rfl ⟨Nat.le_refl _, Nat.le_refl _⟩ ⟨m_i M 28, M, rfl, rfl, h⟩
  · replace h := h.2 hcz2
    by_cases hcz3 : l1 = 1
    · replace h := h.1 hcz3
      refine z_tabIn 77 dX11_about_28 (by rw [hcz3]; decide) (by rw [hcz3]; decide) (by rw [hcz3]; rfl) rfl ?_
      refine z_aload_n 2 78 dX11_about_77 rfl rfl ?_
      refine gmi_28 (m_i M 28) 81 dX11_about_78 of_X11_325 rfl rfl ?_
      refine z_iconst 3 82 dX11_about_81 rfl rfl ?_
      refine z_icmp_ne 92 85 dX11_about_82 rfl rfl (fun hcz4 => ?_) (fun hcz4 => ?_)
      · replace h := h.1 hcz4
        refine z_iconst 0 93 dX11_about_92 rfl rfl ?_
        exact z_iret dX11_about_93 rfl ⟨Nat.le_refl _, Nat.le_refl _⟩ ⟨0, M, rfl, rfl, h⟩
      · replace h := h.2 hcz4
        refine z_aload_n 2 86 dX11_about_85 rfl rfl ?_
        refine gmi_29 (m_i M 29) 89 dX11_about_86 of_X11_340 rfl rfl ?_
        refine z_goto 93 dX11_about_89 rfl ?_
        exact z_iret dX11_about_93 rfl ⟨Nat.le_refl _, Nat.le_refl _⟩ ⟨m_i M 29, M, rfl, rfl, h⟩
    · replace h := h.2 hcz3
      by_cases hcz5 : l1 = 2
      · replace h := h.1 hcz5
        refine z_tabIn 94 dX11_about_28 (by rw [hcz5]; decide) (by rw [hcz5]; decide) (by rw [hcz5]; rfl) rfl ?_
        refine z_iload_n 0 95 dX11_about_94 rfl rfl ?_
        refine z_if_eq 105 98 dX11_about_95 rfl rfl (fun hcz6 => ?_) (fun hcz6 => ?_)
        · replace h := h.1 hcz6
          refine z_iconst (-1) 106 dX11_about_105 rfl rfl ?_
          exact z_iret dX11_about_106 rfl ⟨Nat.le_refl _, Nat.le_refl _⟩ ⟨(-1), M, rfl, rfl, h⟩
        · replace h := h.2 hcz6
          refine z_aload_n 2 99 dX11_about_98 rfl rfl ?_
          refine gmi_30 (m_i M 30) 102 dX11_about_99 of_X11_328 rfl rfl ?_
          refine z_goto 106 dX11_about_102 rfl ?_
          exact z_iret dX11_about_106 rfl ⟨Nat.le_refl _, Nat.le_refl _⟩ ⟨m_i M 30, M, rfl, rfl, h⟩
      · replace h := h.2 hcz5
        by_cases hcz7 : l1 = 3
        · replace h := h.1 hcz7
          refine z_tabIn 107 dX11_about_28 (by rw [hcz7]; decide) (by rw [hcz7]; decide) (by rw [hcz7]; rfl) rfl ?_
          refine z_iload_n 0 108 dX11_about_107 rfl rfl ?_
          refine z_if_eq 123 111 dX11_about_108 rfl rfl (fun hcz8 => ?_) (fun hcz8 => ?_)
          · replace h := h.1 hcz8
            refine z_iconst (-1) 124 dX11_about_123 rfl rfl ?_
            exact z_iret dX11_about_124 rfl ⟨Nat.le_refl _, Nat.le_refl _⟩ ⟨(-1), M, rfl, rfl, h⟩
          · replace h := h.2 hcz8
            refine z_aload_n 2 112 dX11_about_111 rfl rfl ?_
            refine gr_33_53 115 dX11_about_112 of_X11_94 rfl ?_
            refine z_aload_n 2 116 dX11_about_115 rfl rfl ?_
            refine gmi_30 (m_i M 30) 119 dX11_about_116 of_X11_328 rfl rfl ?_
            obtain ⟨hbz9, h⟩ := h
            refine gma_23 ((m_a M 23) (m_i M 30).toNatClampNeg) 120 dX11_about_119 hbz9 rfl rfl ?_
            refine z_goto 124 dX11_about_120 rfl ?_
            exact z_iret dX11_about_124 rfl ⟨Nat.le_refl _, Nat.le_refl _⟩ ⟨(m_a M 23) (m_i M 30).toNatClampNeg, M, rfl, rfl, h⟩
        · replace h := h.2 hcz7
          by_cases hcz10 : l1 = 4
          · replace h := h.1 hcz10
            refine z_tabIn 125 dX11_about_28 (by rw [hcz10]; decide) (by rw [hcz10]; decide) (by rw [hcz10]; rfl) rfl ?_
            refine z_aload_n 2 126 dX11_about_125 rfl rfl ?_
            refine gmi_28 (m_i M 28) 129 dX11_about_126 of_X11_325 rfl rfl ?_
            refine z_if_ne 136 132 dX11_about_129 rfl rfl (fun hcz11 => ?_) (fun hcz11 => ?_)
            · replace h := h.1 hcz11
              refine z_aload_n 2 137 dX11_about_136 rfl rfl ?_
              refine gmi_31 (m_i M 31) 140 dX11_about_137 of_X11_331 rfl rfl ?_
              exact z_iret dX11_about_140 rfl ⟨Nat.le_refl _, Nat.le_refl _⟩ ⟨m_i M 31, M, rfl, rfl, h⟩
            · replace h := h.2 hcz11
              refine z_iconst 0 133 dX11_about_132 rfl rfl ?_
              refine z_goto 140 dX11_about_133 rfl ?_
              exact z_iret dX11_about_140 rfl ⟨Nat.le_refl _, Nat.le_refl _⟩ ⟨0, M, rfl, rfl, h⟩
          · replace h := h.2 hcz10
            by_cases hcz12 : l1 = 5
            · replace h := h.1 hcz12
              refine z_tabIn 141 dX11_about_28 (by rw [hcz12]; decide) (by rw [hcz12]; decide) (by rw [hcz12]; rfl) rfl ?_
              refine z_aload_n 2 142 dX11_about_141 rfl rfl ?_
              refine gmi_28 (m_i M 28) 145 dX11_about_142 of_X11_325 rfl rfl ?_
              refine z_if_ne 152 148 dX11_about_145 rfl rfl (fun hcz13 => ?_) (fun hcz13 => ?_)
              · replace h := h.1 hcz13
                refine z_aload_n 2 153 dX11_about_152 rfl rfl ?_
                refine gmi_32 (m_i M 32) 156 dX11_about_153 of_X11_334 rfl rfl ?_
                exact z_iret dX11_about_156 rfl ⟨Nat.le_refl _, Nat.le_refl _⟩ ⟨m_i M 32, M, rfl, rfl, h⟩
              · replace h := h.2 hcz13
                refine z_iconst 0 149 dX11_about_148 rfl rfl ?_
                refine z_goto 156 dX11_about_149 rfl ?_
                exact z_iret dX11_about_156 rfl ⟨Nat.le_refl _, Nat.le_refl _⟩ ⟨0, M, rfl, rfl, h⟩
            · replace h := h.2 hcz12
              by_cases hcz14 : l1 = 6
              · replace h := h.1 hcz14
                refine z_tabIn 157 dX11_about_28 (by rw [hcz14]; decide) (by rw [hcz14]; decide) (by rw [hcz14]; rfl) rfl ?_
                refine z_aload_n 2 158 dX11_about_157 rfl rfl ?_
                refine gmi_28 (m_i M 28) 161 dX11_about_158 of_X11_325 rfl rfl ?_
                refine z_if_ne 168 164 dX11_about_161 rfl rfl (fun hcz15 => ?_) (fun hcz15 => ?_)
                · replace h := h.1 hcz15
                  refine z_aload_n 2 169 dX11_about_168 rfl rfl ?_
                  refine gmi_33 (m_i M 33) 172 dX11_about_169 of_X11_337 rfl rfl ?_
                  exact z_iret dX11_about_172 rfl ⟨Nat.le_refl _, Nat.le_refl _⟩ ⟨m_i M 33, M, rfl, rfl, h⟩
                · replace h := h.2 hcz15
                  refine z_iconst 0 165 dX11_about_164 rfl rfl ?_
                  refine z_goto 172 dX11_about_165 rfl ?_
                  exact z_iret dX11_about_172 rfl ⟨Nat.le_refl _, Nat.le_refl _⟩ ⟨0, M, rfl, rfl, h⟩
              · replace h := h.2 hcz14
                refine z_tab [0, 1, 2, 3, 4, 5, 6] 173 dX11_about_28 (List.forall_mem_cons.mpr ⟨hcz2, (List.forall_mem_cons.mpr ⟨hcz3, (List.forall_mem_cons.mpr ⟨hcz5, (List.forall_mem_cons.mpr ⟨hcz7, (List.forall_mem_cons.mpr ⟨hcz10, (List.forall_mem_cons.mpr ⟨hcz12, (List.forall_mem_cons.mpr ⟨hcz14, (fun _ q9 => absurd q9 List.not_mem_nil)⟩)⟩)⟩)⟩)⟩)⟩)⟩) (by decide +kernel) (by decide) rfl ?_
                refine z_iconst (-1) 174 dX11_about_173 rfl rfl ?_
                exact z_iret dX11_about_174 rfl ⟨Nat.le_refl _, Nat.le_refl _⟩ ⟨(-1), M, rfl, rfl, h⟩
def j_X11_about_21 (Q : Int32 → mS → Prop) (l1 : Int32) (M : mS) : Prop :=
  j_X11_about_26 Q l1 1 M
set_option maxRecDepth 100000 in
set_option maxHeartbeats 4000000 in
theorem tj_X11_about_21 (tg : Bool) (C : cS) (o : Nat → Int64) (X : List va_E) (Q : Int32 → mS → Prop) (l1 : Int32) (M : mS) (h : j_X11_about_21 Q l1 M) : z_go q_X11_about tg 21 [(1, .int l1), (0, .ref 233)] [] (wz C M o X) 0 0 (zm_i C o X Q) := by
  unfold j_X11_about_21 at h
  refine z_iconst 1 22 dX11_about_21 rfl rfl ?_
  refine z_goto 26 dX11_about_22 rfl ?_
  refine z_pick [(1, .int l1), (0, .ref 233)] [0, 1] rfl ?_
  exact tj_X11_about_26 tg C o X Q l1 1 M h
def p_X11_about (a1 : Int32) (M : mS) (Q : Int32 → mS → Prop) : Prop :=
  (((m_i M 28) = 1 → j_X11_about_21 Q a1 (m_iS M 2 0)) ∧ (¬ (m_i M 28) = 1 → ((¬ (m_i M 28) = 3 → j_X11_about_26 Q a1 0 (m_iS M 2 0)) ∧ ((m_i M 28) = 3 → j_X11_about_21 Q a1 (m_iS M 2 0)))))
set_option maxRecDepth 100000 in
set_option maxHeartbeats 4000000 in
theorem t_X11_about (tg : Bool) (C : cS) (o : Nat → Int64) (X : List va_E) (a1 : Int32) (M : mS) (Q : Int32 → mS → Prop) (h : p_X11_about a1 M Q) : z_M q_X11_about tg [.ref 233, .int a1] (wz C M o X) (zm_i C o X Q) := by
  unfold p_X11_about at h
  refine z_enter (by decide) (Nat.le_of_ble_eq_true rfl) ?_
  refine z_aload_n 0 1 dX11_about_0 rfl rfl ?_
  refine z_iconst 0 2 dX11_about_1 rfl rfl ?_
  refine pmi_2 5 dX11_about_2 op_X11_131 rfl ?_
  refine z_aload_n 0 6 dX11_about_5 rfl rfl ?_
  refine gmi_28 (m_i M 28) 9 dX11_about_6 of_X11_325 rfl rfl ?_
  refine z_iconst 1 10 dX11_about_9 rfl rfl ?_
  refine z_icmp_eq 21 13 dX11_about_10 rfl rfl (fun hcz1 => ?_) (fun hcz1 => ?_)
  · replace h := h.1 hcz1
    refine z_pick [(1, .int a1), (0, .ref 233)] [1, 0] rfl ?_
    exact tj_X11_about_21 tg C o X Q a1 (m_iS M 2 0) h
  · replace h := h.2 hcz1
    refine z_aload_n 0 14 dX11_about_13 rfl rfl ?_
    refine gmi_28 (m_i M 28) 17 dX11_about_14 of_X11_325 rfl rfl ?_
    refine z_iconst 3 18 dX11_about_17 rfl rfl ?_
    refine z_icmp_ne 25 21 dX11_about_18 rfl rfl (fun hcz16 => ?_) (fun hcz16 => ?_)
    · replace h := h.1 hcz16
      refine z_iconst 0 26 dX11_about_25 rfl rfl ?_
      refine z_pick [(1, .int a1), (0, .ref 233)] [1, 0] rfl ?_
      exact tj_X11_about_26 tg C o X Q a1 0 (m_iS M 2 0) h
    · replace h := h.2 hcz16
      refine z_pick [(1, .int a1), (0, .ref 233)] [1, 0] rfl ?_
      exact tj_X11_about_21 tg C o X Q a1 (m_iS M 2 0) h
def j_X11_said_31 (Q : Int32 → mS → Prop) (l1 : Int32) (s0 : Int32) (M : mS) : Prop :=
  ((s0 = 0 → ((s0 = 0 → Q 0 (m_iS M 2 1)) ∧ (¬ s0 = 0 → vp_in l1 300 ∧ Q ((m_a M 26) l1.toNatClampNeg) (m_iS M 2 1)))) ∧ (¬ s0 = 0 → ((s0 = 0 → Q 0 (m_iS M 2 0)) ∧ (¬ s0 = 0 → vp_in l1 300 ∧ Q ((m_a M 26) l1.toNatClampNeg) (m_iS M 2 0)))))
set_option maxRecDepth 100000 in
set_option maxHeartbeats 4000000 in
theorem tj_X11_said_31 (tg : Bool) (C : cS) (o : Nat → Int64) (X : List va_E) (Q : Int32 → mS → Prop) (l1 : Int32) (s0 : Int32) (M : mS) (h : j_X11_said_31 Q l1 s0 M) : z_go q_X11_said tg 31 [(1, .int l1), (0, .ref 233)] [.int s0] (wz C M o X) 0 0 (zm_i C o X Q) := by
  unfold j_X11_said_31 at h
  refine z_istore_n [(2, .int s0), (1, .int l1), (0, .ref 233)] 32 dX11_said_31 (Nat.le_of_ble_eq_true rfl) rfl rfl ?_
  refine z_aload_n 2 33 dX11_said_32 rfl rfl ?_
  refine z_iload_n 0 34 dX11_said_33 rfl rfl ?_
  refine z_if_eq 41 37 dX11_said_34 rfl rfl (fun hcz2 => ?_) (fun hcz2 => ?_)
  · replace h := h.1 hcz2
    refine z_iconst 1 42 dX11_said_41 rfl rfl ?_
    refine pmi_2 45 dX11_said_42 op_X11_131 rfl ?_
    refine z_iload_n 0 46 dX11_said_45 rfl rfl ?_
    refine z_if_eq 58 49 dX11_said_46 rfl rfl (fun hcz3 => ?_) (fun hcz3 => ?_)
    · replace h := h.1 hcz3
      refine z_iconst 0 59 dX11_said_58 rfl rfl ?_
      exact z_iret dX11_said_59 rfl ⟨Nat.le_refl _, Nat.le_refl _⟩ ⟨0, (m_iS M 2 1), rfl, rfl, h⟩
    · replace h := h.2 hcz3
      refine z_aload_n 2 50 dX11_said_49 rfl rfl ?_
      refine gr_33_64 53 dX11_said_50 of_X11_107 rfl ?_
      refine z_iload_n 1 54 dX11_said_53 rfl rfl ?_
      obtain ⟨hbz4, h⟩ := h
      refine gma_26 ((m_a M 26) l1.toNatClampNeg) 55 dX11_said_54 hbz4 rfl rfl ?_
      refine z_goto 59 dX11_said_55 rfl ?_
      exact z_iret dX11_said_59 rfl ⟨Nat.le_refl _, Nat.le_refl _⟩ ⟨(m_a M 26) l1.toNatClampNeg, (m_iS M 2 1), rfl, rfl, h⟩
  · replace h := h.2 hcz2
    refine z_iconst 0 38 dX11_said_37 rfl rfl ?_
    refine z_goto 42 dX11_said_38 rfl ?_
    refine pmi_2 45 dX11_said_42 op_X11_131 rfl ?_
    refine z_iload_n 0 46 dX11_said_45 rfl rfl ?_
    refine z_if_eq 58 49 dX11_said_46 rfl rfl (fun hcz5 => ?_) (fun hcz5 => ?_)
    · replace h := h.1 hcz5
      refine z_iconst 0 59 dX11_said_58 rfl rfl ?_
      exact z_iret dX11_said_59 rfl ⟨Nat.le_refl _, Nat.le_refl _⟩ ⟨0, (m_iS M 2 0), rfl, rfl, h⟩
    · replace h := h.2 hcz5
      refine z_aload_n 2 50 dX11_said_49 rfl rfl ?_
      refine gr_33_64 53 dX11_said_50 of_X11_107 rfl ?_
      refine z_iload_n 1 54 dX11_said_53 rfl rfl ?_
      obtain ⟨hbz6, h⟩ := h
      refine gma_26 ((m_a M 26) l1.toNatClampNeg) 55 dX11_said_54 hbz6 rfl rfl ?_
      refine z_goto 59 dX11_said_55 rfl ?_
      exact z_iret dX11_said_59 rfl ⟨Nat.le_refl _, Nat.le_refl _⟩ ⟨(m_a M 26) l1.toNatClampNeg, (m_iS M 2 0), rfl, rfl, h⟩
def j_X11_said_30 (Q : Int32 → mS → Prop) (l1 : Int32) (M : mS) : Prop :=
  j_X11_said_31 Q l1 0 M
set_option maxRecDepth 100000 in
set_option maxHeartbeats 4000000 in
theorem tj_X11_said_30 (tg : Bool) (C : cS) (o : Nat → Int64) (X : List va_E) (Q : Int32 → mS → Prop) (l1 : Int32) (M : mS) (h : j_X11_said_30 Q l1 M) : z_go q_X11_said tg 30 [(1, .int l1), (0, .ref 233)] [] (wz C M o X) 0 0 (zm_i C o X Q) := by
  unfold j_X11_said_30 at h
  refine z_iconst 0 31 dX11_said_30 rfl rfl ?_
  refine z_pick [(1, .int l1), (0, .ref 233)] [0, 1] rfl ?_
  exact tj_X11_said_31 tg C o X Q l1 0 M h
def p_X11_said (a1 : Int32) (M : mS) (Q : Int32 → mS → Prop) : Prop :=
  (((m_i M 28) = 0 → j_X11_said_30 Q a1 M) ∧ (¬ (m_i M 28) = 0 → ((a1 < 0 → j_X11_said_30 Q a1 M) ∧ (¬ a1 < 0 → (((m_i M 33) ≤ a1 → j_X11_said_30 Q a1 M) ∧ (¬ (m_i M 33) ≤ a1 → ((300 ≤ a1 → j_X11_said_30 Q a1 M) ∧ (¬ 300 ≤ a1 → j_X11_said_31 Q a1 1 M))))))))
set_option maxRecDepth 100000 in
set_option maxHeartbeats 4000000 in
theorem t_X11_said (tg : Bool) (C : cS) (o : Nat → Int64) (X : List va_E) (a1 : Int32) (M : mS) (Q : Int32 → mS → Prop) (h : p_X11_said a1 M Q) : z_M q_X11_said tg [.ref 233, .int a1] (wz C M o X) (zm_i C o X Q) := by
  unfold p_X11_said at h
  refine z_enter (by decide) (Nat.le_of_ble_eq_true rfl) ?_
  refine z_aload_n 0 1 dX11_said_0 rfl rfl ?_
  refine gmi_28 (m_i M 28) 4 dX11_said_1 of_X11_325 rfl rfl ?_
  refine z_if_eq 30 7 dX11_said_4 rfl rfl (fun hcz1 => ?_) (fun hcz1 => ?_)
  · replace h := h.1 hcz1
    refine z_pick [(1, .int a1), (0, .ref 233)] [1, 0] rfl ?_
    exact tj_X11_said_30 tg C o X Q a1 M h
  · replace h := h.2 hcz1
    refine z_iload_n 1 8 dX11_said_7 rfl rfl ?_
    refine z_if_lt 30 11 dX11_said_8 rfl rfl (fun hcz7 => ?_) (fun hcz7 => ?_)
    · replace h := h.1 hcz7
      refine z_pick [(1, .int a1), (0, .ref 233)] [1, 0] rfl ?_
      exact tj_X11_said_30 tg C o X Q a1 M h
    · replace h := h.2 hcz7
      refine z_iload_n 1 12 dX11_said_11 rfl rfl ?_
      refine z_aload_n 0 13 dX11_said_12 rfl rfl ?_
      refine gmi_33 (m_i M 33) 16 dX11_said_13 of_X11_337 rfl rfl ?_
      refine z_icmp_ge 30 19 dX11_said_16 rfl rfl (fun hcz8 => ?_) (fun hcz8 => ?_)
      · replace h := h.1 hcz8
        refine z_pick [(1, .int a1), (0, .ref 233)] [1, 0] rfl ?_
        exact tj_X11_said_30 tg C o X Q a1 M h
      · replace h := h.2 hcz8
        refine z_iload_n 1 20 dX11_said_19 rfl rfl ?_
        refine z_sipush 300 23 dX11_said_20 rfl rfl ?_
        refine z_icmp_ge 30 26 dX11_said_23 rfl rfl (fun hcz9 => ?_) (fun hcz9 => ?_)
        · replace h := h.1 hcz9
          refine z_pick [(1, .int a1), (0, .ref 233)] [1, 0] rfl ?_
          exact tj_X11_said_30 tg C o X Q a1 M h
        · replace h := h.2 hcz9
          refine z_iconst 1 27 dX11_said_26 rfl rfl ?_
          refine z_goto 31 dX11_said_27 rfl ?_
          refine z_pick [(1, .int a1), (0, .ref 233)] [1, 0] rfl ?_
          exact tj_X11_said_31 tg C o X Q a1 1 M h
def p_X11_told (a1 : Int32) (a2 : Int32) (a3 : Int32) (M : mS) (Q : Int32 → mS → Prop) : Prop :=
  ((a3 = 0 → p_X11_sortOf a1 a2 M (fun rz3 Mz2 => Q rz3 Mz2)) ∧ (¬ a3 = 0 → ((a3 = 1 → ((¬ a1 = 0 → ((¬ a1 = 1 → vp_in a2 1300 ∧ Q ((m_a M 1) a2.toNatClampNeg) M) ∧ (a1 = 1 → Q 0 M))) ∧ (a1 = 0 → Q a2 M))) ∧ (¬ a3 = 1 → ((a3 = 2 → ((¬ a1 = 2 → Q (-1) M) ∧ (a1 = 2 → vp_in a2 1300 ∧ Q ((m_a M 3) a2.toNatClampNeg) M))) ∧ (¬ a3 = 2 → Q (-1) M))))))
set_option maxRecDepth 100000 in
set_option maxHeartbeats 4000000 in
theorem t_X11_told (tg : Bool) (C : cS) (o : Nat → Int64) (X : List va_E) (a1 : Int32) (a2 : Int32) (a3 : Int32) (M : mS) (Q : Int32 → mS → Prop) (h : p_X11_told a1 a2 a3 M Q) : z_M q_X11_told tg [.ref 233, .int a1, .int a2, .int a3] (wz C M o X) (zm_i C o X Q) := by
  unfold p_X11_told at h
  refine z_enter (by decide) (Nat.le_of_ble_eq_true rfl) ?_
  refine z_iload_n 3 1 dX11_told_0 rfl rfl ?_
  by_cases hcz1 : a3 = 0
  · replace h := h.1 hcz1
    refine z_tabIn 28 dX11_told_1 (by rw [hcz1]; decide) (by rw [hcz1]; decide) (by rw [hcz1]; rfl) rfl ?_
    refine z_aload_n 0 29 dX11_told_28 rfl rfl ?_
    refine z_iload_n 1 30 dX11_told_29 rfl rfl ?_
    refine z_iload_n 2 31 dX11_told_30 rfl rfl ?_
    refine z_miV [.int a1, .int a2] 34 dX11_told_31 ok_X11_told_222 rfl rfl (Nat.le_of_ble_eq_true rfl) rc_33 ⟨rfl, rfl⟩ ⟨Nat.le_refl _, Nat.le_refl _⟩ rfl (t_X11_sortOf tg C o X a1 a2 M _ h) (fun rz3 Mz2 h => ?_)
    exact z_iret dX11_told_34 rfl ⟨Nat.le_refl _, Nat.le_refl _⟩ ⟨rz3, Mz2, rfl, rfl, h⟩
  · replace h := h.2 hcz1
    by_cases hcz4 : a3 = 1
    · replace h := h.1 hcz4
      refine z_tabIn 35 dX11_told_1 (by rw [hcz4]; decide) (by rw [hcz4]; decide) (by rw [hcz4]; rfl) rfl ?_
      refine z_iload_n 1 36 dX11_told_35 rfl rfl ?_
      refine z_if_ne 43 39 dX11_told_36 rfl rfl (fun hcz5 => ?_) (fun hcz5 => ?_)
      · replace h := h.1 hcz5
        refine z_iload_n 1 44 dX11_told_43 rfl rfl ?_
        refine z_iconst 1 45 dX11_told_44 rfl rfl ?_
        refine z_icmp_ne 52 48 dX11_told_45 rfl rfl (fun hcz6 => ?_) (fun hcz6 => ?_)
        · replace h := h.1 hcz6
          refine z_aload_n 0 53 dX11_told_52 rfl rfl ?_
          refine gr_33_4 56 dX11_told_53 of_X11_13 rfl ?_
          refine z_iload_n 2 57 dX11_told_56 rfl rfl ?_
          obtain ⟨hbz7, h⟩ := h
          refine gma_1 ((m_a M 1) a2.toNatClampNeg) 58 dX11_told_57 hbz7 rfl rfl ?_
          exact z_iret dX11_told_58 rfl ⟨Nat.le_refl _, Nat.le_refl _⟩ ⟨(m_a M 1) a2.toNatClampNeg, M, rfl, rfl, h⟩
        · replace h := h.2 hcz6
          refine z_iconst 0 49 dX11_told_48 rfl rfl ?_
          refine z_goto 58 dX11_told_49 rfl ?_
          exact z_iret dX11_told_58 rfl ⟨Nat.le_refl _, Nat.le_refl _⟩ ⟨0, M, rfl, rfl, h⟩
      · replace h := h.2 hcz5
        refine z_iload_n 2 40 dX11_told_39 rfl rfl ?_
        refine z_goto 58 dX11_told_40 rfl ?_
        exact z_iret dX11_told_58 rfl ⟨Nat.le_refl _, Nat.le_refl _⟩ ⟨a2, M, rfl, rfl, h⟩
    · replace h := h.2 hcz4
      by_cases hcz8 : a3 = 2
      · replace h := h.1 hcz8
        refine z_tabIn 59 dX11_told_1 (by rw [hcz8]; decide) (by rw [hcz8]; decide) (by rw [hcz8]; rfl) rfl ?_
        refine z_iload_n 1 60 dX11_told_59 rfl rfl ?_
        refine z_iconst 2 61 dX11_told_60 rfl rfl ?_
        refine z_icmp_ne 73 64 dX11_told_61 rfl rfl (fun hcz9 => ?_) (fun hcz9 => ?_)
        · replace h := h.1 hcz9
          refine z_iconst (-1) 74 dX11_told_73 rfl rfl ?_
          exact z_iret dX11_told_74 rfl ⟨Nat.le_refl _, Nat.le_refl _⟩ ⟨(-1), M, rfl, rfl, h⟩
        · replace h := h.2 hcz9
          refine z_aload_n 0 65 dX11_told_64 rfl rfl ?_
          refine gr_33_6 68 dX11_told_65 of_X11_20 rfl ?_
          refine z_iload_n 2 69 dX11_told_68 rfl rfl ?_
          obtain ⟨hbz10, h⟩ := h
          refine gma_3 ((m_a M 3) a2.toNatClampNeg) 70 dX11_told_69 hbz10 rfl rfl ?_
          refine z_goto 74 dX11_told_70 rfl ?_
          exact z_iret dX11_told_74 rfl ⟨Nat.le_refl _, Nat.le_refl _⟩ ⟨(m_a M 3) a2.toNatClampNeg, M, rfl, rfl, h⟩
      · replace h := h.2 hcz8
        refine z_tab [0, 1, 2] 75 dX11_told_1 (List.forall_mem_cons.mpr ⟨hcz1, (List.forall_mem_cons.mpr ⟨hcz4, (List.forall_mem_cons.mpr ⟨hcz8, (fun _ q9 => absurd q9 List.not_mem_nil)⟩)⟩)⟩) (by decide +kernel) (by decide) rfl ?_
        refine z_iconst (-1) 76 dX11_told_75 rfl rfl ?_
        exact z_iret dX11_told_76 rfl ⟨Nat.le_refl _, Nat.le_refl _⟩ ⟨(-1), M, rfl, rfl, h⟩
def p_X11_hand (a1 : Int32) (a2 : Int32) (M : mS) (Q : Int32 → mS → Prop) : Prop :=
  ((a1 < 0 → Q (-1) (m_iS M 2 0)) ∧ (¬ a1 < 0 → ((a1 ≤ 7 → vp_in a1 58 ∧ p_X11_told ((m_a M 6) a1.toNatClampNeg) ((m_a M 7) a1.toNatClampNeg) a2 (m_iS M 2 0) (fun rz5 Mz4 => Q rz5 Mz4)) ∧ (¬ a1 ≤ 7 → Q (-1) (m_iS M 2 0)))))
set_option maxRecDepth 100000 in
set_option maxHeartbeats 4000000 in
theorem t_X11_hand (tg : Bool) (C : cS) (o : Nat → Int64) (X : List va_E) (a1 : Int32) (a2 : Int32) (M : mS) (Q : Int32 → mS → Prop) (h : p_X11_hand a1 a2 M Q) : z_M q_X11_hand tg [.ref 233, .int a1, .int a2] (wz C M o X) (zm_i C o X Q) := by
  unfold p_X11_hand at h
  refine z_enter (by decide) (Nat.le_of_ble_eq_true rfl) ?_
  refine z_aload_n 0 1 dX11_hand_0 rfl rfl ?_
  refine z_iconst 0 2 dX11_hand_1 rfl rfl ?_
  refine pmi_2 5 dX11_hand_2 op_X11_131 rfl ?_
  refine z_iload_n 1 6 dX11_hand_5 rfl rfl ?_
  refine z_if_lt 15 9 dX11_hand_6 rfl rfl (fun hcz1 => ?_) (fun hcz1 => ?_)
  · replace h := h.1 hcz1
    refine z_iconst (-1) 16 dX11_hand_15 rfl rfl ?_
    refine z_goto 36 dX11_hand_16 rfl ?_
    exact z_iret dX11_hand_36 rfl ⟨Nat.le_refl _, Nat.le_refl _⟩ ⟨(-1), (m_iS M 2 0), rfl, rfl, h⟩
  · replace h := h.2 hcz1
    refine z_iload_n 1 10 dX11_hand_9 rfl rfl ?_
    refine z_bipush 7 12 dX11_hand_10 rfl rfl ?_
    refine z_icmp_le 19 15 dX11_hand_12 rfl rfl (fun hcz2 => ?_) (fun hcz2 => ?_)
    · replace h := h.1 hcz2
      refine z_aload_n 0 20 dX11_hand_19 rfl rfl ?_
      refine z_aload_n 0 21 dX11_hand_20 rfl rfl ?_
      refine gr_33_9 24 dX11_hand_21 of_X11_30 rfl ?_
      refine z_iload_n 1 25 dX11_hand_24 rfl rfl ?_
      obtain ⟨hbz3, h⟩ := h
      refine gma_6 ((m_a M 6) a1.toNatClampNeg) 26 dX11_hand_25 hbz3 rfl rfl ?_
      refine z_aload_n 0 27 dX11_hand_26 rfl rfl ?_
      refine gr_33_10 30 dX11_hand_27 of_X11_33 rfl ?_
      refine z_iload_n 1 31 dX11_hand_30 rfl rfl ?_
      refine gma_7 ((m_a M 7) a1.toNatClampNeg) 32 dX11_hand_31 hbz3 rfl rfl ?_
      refine z_iload_n 2 33 dX11_hand_32 rfl rfl ?_
      refine z_miV [.int ((m_a M 6) a1.toNatClampNeg), .int ((m_a M 7) a1.toNatClampNeg), .int a2] 36 dX11_hand_33 ok_X11_hand_349 rfl rfl (Nat.le_of_ble_eq_true rfl) rc_33 ⟨rfl, rfl⟩ ⟨Nat.le_refl _, Nat.le_refl _⟩ rfl (t_X11_told tg C o X ((m_a M 6) a1.toNatClampNeg) ((m_a M 7) a1.toNatClampNeg) a2 (m_iS M 2 0) _ h) (fun rz5 Mz4 h => ?_)
      exact z_iret dX11_hand_36 rfl ⟨Nat.le_refl _, Nat.le_refl _⟩ ⟨rz5, Mz4, rfl, rfl, h⟩
    · replace h := h.2 hcz2
      refine z_iconst (-1) 16 dX11_hand_15 rfl rfl ?_
      refine z_goto 36 dX11_hand_16 rfl ?_
      exact z_iret dX11_hand_36 rfl ⟨Nat.le_refl _, Nat.le_refl _⟩ ⟨(-1), (m_iS M 2 0), rfl, rfl, h⟩
def p_X11_stack (a1 : Int32) (a2 : Int32) (M : mS) (Q : Int32 → mS → Prop) : Prop :=
  ((a1 < 0 → Q (-1) (m_iS M 2 0)) ∧ (¬ a1 < 0 → ((a1 < (m_i M 3) → vp_in (8 + a1) 58 ∧ p_X11_told ((m_a M 6) (8 + a1).toNatClampNeg) ((m_a M 7) (8 + a1).toNatClampNeg) a2 (m_iS M 2 0) (fun rz5 Mz4 => Q rz5 Mz4)) ∧ (¬ a1 < (m_i M 3) → Q (-1) (m_iS M 2 0)))))
set_option maxRecDepth 100000 in
set_option maxHeartbeats 4000000 in
theorem t_X11_stack (tg : Bool) (C : cS) (o : Nat → Int64) (X : List va_E) (a1 : Int32) (a2 : Int32) (M : mS) (Q : Int32 → mS → Prop) (h : p_X11_stack a1 a2 M Q) : z_M q_X11_stack tg [.ref 233, .int a1, .int a2] (wz C M o X) (zm_i C o X Q) := by
  unfold p_X11_stack at h
  refine z_enter (by decide) (Nat.le_of_ble_eq_true rfl) ?_
  refine z_aload_n 0 1 dX11_stack_0 rfl rfl ?_
  refine z_iconst 0 2 dX11_stack_1 rfl rfl ?_
  refine pmi_2 5 dX11_stack_2 op_X11_131 rfl ?_
  refine z_iload_n 1 6 dX11_stack_5 rfl rfl ?_
  refine z_if_lt 17 9 dX11_stack_6 rfl rfl (fun hcz1 => ?_) (fun hcz1 => ?_)
  · replace h := h.1 hcz1
    refine z_iconst (-1) 18 dX11_stack_17 rfl rfl ?_
    refine z_goto 44 dX11_stack_18 rfl ?_
    exact z_iret dX11_stack_44 rfl ⟨Nat.le_refl _, Nat.le_refl _⟩ ⟨(-1), (m_iS M 2 0), rfl, rfl, h⟩
  · replace h := h.2 hcz1
    refine z_iload_n 1 10 dX11_stack_9 rfl rfl ?_
    refine z_aload_n 0 11 dX11_stack_10 rfl rfl ?_
    refine gmi_3 (m_i M 3) 14 dX11_stack_11 of_X11_173 rfl rfl ?_
    refine z_icmp_lt 21 17 dX11_stack_14 rfl rfl (fun hcz2 => ?_) (fun hcz2 => ?_)
    · replace h := h.1 hcz2
      refine z_aload_n 0 22 dX11_stack_21 rfl rfl ?_
      refine z_aload_n 0 23 dX11_stack_22 rfl rfl ?_
      refine gr_33_9 26 dX11_stack_23 of_X11_30 rfl ?_
      refine z_bipush 8 28 dX11_stack_26 rfl rfl ?_
      refine z_iload_n 1 29 dX11_stack_28 rfl rfl ?_
      refine z_iadd 30 dX11_stack_29 rfl ?_
      obtain ⟨hbz3, h⟩ := h
      refine gma_6 ((m_a M 6) (8 + a1).toNatClampNeg) 31 dX11_stack_30 hbz3 rfl rfl ?_
      refine z_aload_n 0 32 dX11_stack_31 rfl rfl ?_
      refine gr_33_10 35 dX11_stack_32 of_X11_33 rfl ?_
      refine z_bipush 8 37 dX11_stack_35 rfl rfl ?_
      refine z_iload_n 1 38 dX11_stack_37 rfl rfl ?_
      refine z_iadd 39 dX11_stack_38 rfl ?_
      refine gma_7 ((m_a M 7) (8 + a1).toNatClampNeg) 40 dX11_stack_39 hbz3 rfl rfl ?_
      refine z_iload_n 2 41 dX11_stack_40 rfl rfl ?_
      refine z_miV [.int ((m_a M 6) (8 + a1).toNatClampNeg), .int ((m_a M 7) (8 + a1).toNatClampNeg), .int a2] 44 dX11_stack_41 ok_X11_stack_349 rfl rfl (Nat.le_of_ble_eq_true rfl) rc_33 ⟨rfl, rfl⟩ ⟨Nat.le_refl _, Nat.le_refl _⟩ rfl (t_X11_told tg C o X ((m_a M 6) (8 + a1).toNatClampNeg) ((m_a M 7) (8 + a1).toNatClampNeg) a2 (m_iS M 2 0) _ h) (fun rz5 Mz4 h => ?_)
      exact z_iret dX11_stack_44 rfl ⟨Nat.le_refl _, Nat.le_refl _⟩ ⟨rz5, Mz4, rfl, rfl, h⟩
    · replace h := h.2 hcz2
      refine z_iconst (-1) 18 dX11_stack_17 rfl rfl ?_
      refine z_goto 44 dX11_stack_18 rfl ?_
      exact z_iret dX11_stack_44 rfl ⟨Nat.le_refl _, Nat.le_refl _⟩ ⟨(-1), (m_iS M 2 0), rfl, rfl, h⟩
def p_X11_slot (a1 : Int32) (a2 : Int32) (a3 : Int32) (M : mS) (Q : Int32 → mS → Prop) : Prop :=
  ((a1 < 0 → Q (-1) (m_iS M 2 0)) ∧ (¬ a1 < 0 → ((7 < a1 → Q (-1) (m_iS M 2 0)) ∧ (¬ 7 < a1 → p_X11_isThing a1 (m_iS M 2 0) (fun rz4 Mz3 => ((rz4 = 0 → Q (-1) Mz3) ∧ (¬ rz4 = 0 → ((a2 < 0 → Q (-1) Mz3) ∧ (¬ a2 < 0 → vp_in a1 58 ∧ vp_in ((m_a Mz3 7) a1.toNatClampNeg) 1300 ∧ ((a2 < ((m_a Mz3 1) ((m_a Mz3 7) a1.toNatClampNeg).toNatClampNeg) → ∀ vz10 : Int32, vz10 = (40 * ((m_a Mz3 7) a1.toNatClampNeg)) + a2 → ((¬ a3 = 2 → vp_in vz10 52000 ∧ p_X11_told ((m_a Mz3 4) vz10.toNatClampNeg) ((m_a Mz3 5) vz10.toNatClampNeg) a3 Mz3 (fun rz14 Mz13 => Q rz14 Mz13)) ∧ (a3 = 2 → vp_in vz10 52000 ∧ ((¬ ((m_a Mz3 4) vz10.toNatClampNeg) = 2 → Q (-1) Mz3) ∧ (((m_a Mz3 4) vz10.toNatClampNeg) = 2 → vp_in ((m_a Mz3 5) vz10.toNatClampNeg) 1300 ∧ Q ((m_a Mz3 2) ((m_a Mz3 5) vz10.toNatClampNeg).toNatClampNeg) Mz3))))) ∧ (¬ a2 < ((m_a Mz3 1) ((m_a Mz3 7) a1.toNatClampNeg).toNatClampNeg) → Q (-1) Mz3)))))))))))
set_option maxRecDepth 100000 in
set_option maxHeartbeats 4000000 in
theorem t_X11_slot (tg : Bool) (C : cS) (o : Nat → Int64) (X : List va_E) (a1 : Int32) (a2 : Int32) (a3 : Int32) (M : mS) (Q : Int32 → mS → Prop) (h : p_X11_slot a1 a2 a3 M Q) : z_M q_X11_slot tg [.ref 233, .int a1, .int a2, .int a3] (wz C M o X) (zm_i C o X Q) := by
  unfold p_X11_slot at h
  refine z_enter (by decide) (Nat.le_of_ble_eq_true rfl) ?_
  refine z_aload_n 0 1 dX11_slot_0 rfl rfl ?_
  refine z_iconst 0 2 dX11_slot_1 rfl rfl ?_
  refine pmi_2 5 dX11_slot_2 op_X11_131 rfl ?_
  refine z_iload_n 1 6 dX11_slot_5 rfl rfl ?_
  refine z_if_lt 42 9 dX11_slot_6 rfl rfl (fun hcz1 => ?_) (fun hcz1 => ?_)
  · replace h := h.1 hcz1
    refine z_iconst (-1) 43 dX11_slot_42 rfl rfl ?_
    exact z_iret dX11_slot_43 rfl ⟨Nat.le_refl _, Nat.le_refl _⟩ ⟨(-1), (m_iS M 2 0), rfl, rfl, h⟩
  · replace h := h.2 hcz1
    refine z_iload_n 1 10 dX11_slot_9 rfl rfl ?_
    refine z_bipush 7 12 dX11_slot_10 rfl rfl ?_
    refine z_icmp_gt 42 15 dX11_slot_12 rfl rfl (fun hcz2 => ?_) (fun hcz2 => ?_)
    · replace h := h.1 hcz2
      refine z_iconst (-1) 43 dX11_slot_42 rfl rfl ?_
      exact z_iret dX11_slot_43 rfl ⟨Nat.le_refl _, Nat.le_refl _⟩ ⟨(-1), (m_iS M 2 0), rfl, rfl, h⟩
    · replace h := h.2 hcz2
      refine z_aload_n 0 16 dX11_slot_15 rfl rfl ?_
      refine z_iload_n 1 17 dX11_slot_16 rfl rfl ?_
      refine z_miV [.int a1] 20 dX11_slot_17 ok_X11_slot_202 rfl rfl (Nat.le_of_ble_eq_true rfl) rc_33 ⟨rfl, rfl⟩ ⟨Nat.le_refl _, Nat.le_refl _⟩ rfl (t_X11_isThing tg C o X a1 (m_iS M 2 0) _ h) (fun rz4 Mz3 h => ?_)
      refine z_if_eq 42 23 dX11_slot_20 rfl rfl (fun hcz5 => ?_) (fun hcz5 => ?_)
      · replace h := h.1 hcz5
        refine z_iconst (-1) 43 dX11_slot_42 rfl rfl ?_
        exact z_iret dX11_slot_43 rfl ⟨Nat.le_refl _, Nat.le_refl _⟩ ⟨(-1), Mz3, rfl, rfl, h⟩
      · replace h := h.2 hcz5
        refine z_iload_n 2 24 dX11_slot_23 rfl rfl ?_
        refine z_if_lt 42 27 dX11_slot_24 rfl rfl (fun hcz6 => ?_) (fun hcz6 => ?_)
        · replace h := h.1 hcz6
          refine z_iconst (-1) 43 dX11_slot_42 rfl rfl ?_
          exact z_iret dX11_slot_43 rfl ⟨Nat.le_refl _, Nat.le_refl _⟩ ⟨(-1), Mz3, rfl, rfl, h⟩
        · replace h := h.2 hcz6
          refine z_iload_n 2 28 dX11_slot_27 rfl rfl ?_
          refine z_aload_n 0 29 dX11_slot_28 rfl rfl ?_
          refine gr_33_4 32 dX11_slot_29 of_X11_13 rfl ?_
          refine z_aload_n 0 33 dX11_slot_32 rfl rfl ?_
          refine gr_33_10 36 dX11_slot_33 of_X11_33 rfl ?_
          refine z_iload_n 1 37 dX11_slot_36 rfl rfl ?_
          obtain ⟨hbz7, h⟩ := h
          refine gma_7 ((m_a Mz3 7) a1.toNatClampNeg) 38 dX11_slot_37 hbz7 rfl rfl ?_
          obtain ⟨hbz8, h⟩ := h
          refine gma_1 ((m_a Mz3 1) ((m_a Mz3 7) a1.toNatClampNeg).toNatClampNeg) 39 dX11_slot_38 hbz8 rfl rfl ?_
          refine z_icmp_lt 44 42 dX11_slot_39 rfl rfl (fun hcz9 => ?_) (fun hcz9 => ?_)
          · replace h := h.1 hcz9
            refine z_bipush 40 46 dX11_slot_44 rfl rfl ?_
            refine z_aload_n 0 47 dX11_slot_46 rfl rfl ?_
            refine gr_33_10 50 dX11_slot_47 of_X11_33 rfl ?_
            refine z_iload_n 1 51 dX11_slot_50 rfl rfl ?_
            refine gma_7 ((m_a Mz3 7) a1.toNatClampNeg) 52 dX11_slot_51 hbz7 rfl rfl ?_
            refine z_imul 53 dX11_slot_52 rfl ?_
            refine z_iload_n 2 54 dX11_slot_53 rfl rfl ?_
            refine z_iadd 55 dX11_slot_54 rfl ?_
            refine z_topi (fun vz10 hvz10 => ?_)
            replace h := h vz10 hvz10
            refine z_istore [(4, .int vz10), (0, .ref 233), (1, .int a1), (2, .int a2), (3, .int a3)] 57 dX11_slot_55 (Nat.le_of_ble_eq_true rfl) rfl rfl ?_
            refine z_iload_n 4 58 dX11_slot_57 rfl rfl ?_
            refine z_iconst 2 59 dX11_slot_58 rfl rfl ?_
            refine z_icmp_ne 90 62 dX11_slot_59 rfl rfl (fun hcz11 => ?_) (fun hcz11 => ?_)
            · replace h := h.1 hcz11
              refine z_aload_n 1 91 dX11_slot_90 rfl rfl ?_
              refine z_aload_n 1 92 dX11_slot_91 rfl rfl ?_
              refine gr_33_7 95 dX11_slot_92 of_X11_24 rfl ?_
              refine z_iload 0 97 dX11_slot_95 rfl rfl ?_
              obtain ⟨hbz12, h⟩ := h
              refine gma_4 ((m_a Mz3 4) vz10.toNatClampNeg) 98 dX11_slot_97 hbz12 rfl rfl ?_
              refine z_aload_n 1 99 dX11_slot_98 rfl rfl ?_
              refine gr_33_8 102 dX11_slot_99 of_X11_27 rfl ?_
              refine z_iload 0 104 dX11_slot_102 rfl rfl ?_
              refine gma_5 ((m_a Mz3 5) vz10.toNatClampNeg) 105 dX11_slot_104 hbz12 rfl rfl ?_
              refine z_iload_n 4 106 dX11_slot_105 rfl rfl ?_
              refine z_miV [.int ((m_a Mz3 4) vz10.toNatClampNeg), .int ((m_a Mz3 5) vz10.toNatClampNeg), .int a3] 109 dX11_slot_106 ok_X11_slot_349 rfl rfl (Nat.le_of_ble_eq_true rfl) rc_33 ⟨rfl, rfl⟩ ⟨Nat.le_refl _, Nat.le_refl _⟩ rfl (t_X11_told tg C o X ((m_a Mz3 4) vz10.toNatClampNeg) ((m_a Mz3 5) vz10.toNatClampNeg) a3 Mz3 _ h) (fun rz14 Mz13 h => ?_)
              exact z_iret dX11_slot_109 rfl ⟨Nat.le_refl _, Nat.le_refl _⟩ ⟨rz14, Mz13, rfl, rfl, h⟩
            · replace h := h.2 hcz11
              refine z_aload_n 1 63 dX11_slot_62 rfl rfl ?_
              refine gr_33_7 66 dX11_slot_63 of_X11_24 rfl ?_
              refine z_iload 0 68 dX11_slot_66 rfl rfl ?_
              obtain ⟨hbz15, h⟩ := h
              refine gma_4 ((m_a Mz3 4) vz10.toNatClampNeg) 69 dX11_slot_68 hbz15 rfl rfl ?_
              refine z_iconst 2 70 dX11_slot_69 rfl rfl ?_
              refine z_icmp_ne 88 73 dX11_slot_70 rfl rfl (fun hcz16 => ?_) (fun hcz16 => ?_)
              · replace h := h.1 hcz16
                refine z_iconst (-1) 89 dX11_slot_88 rfl rfl ?_
                exact z_iret dX11_slot_89 rfl ⟨Nat.le_refl _, Nat.le_refl _⟩ ⟨(-1), Mz3, rfl, rfl, h⟩
              · replace h := h.2 hcz16
                refine z_aload_n 1 74 dX11_slot_73 rfl rfl ?_
                refine gr_33_5 77 dX11_slot_74 of_X11_17 rfl ?_
                refine z_aload_n 1 78 dX11_slot_77 rfl rfl ?_
                refine gr_33_8 81 dX11_slot_78 of_X11_27 rfl ?_
                refine z_iload 0 83 dX11_slot_81 rfl rfl ?_
                refine gma_5 ((m_a Mz3 5) vz10.toNatClampNeg) 84 dX11_slot_83 hbz15 rfl rfl ?_
                obtain ⟨hbz17, h⟩ := h
                refine gma_2 ((m_a Mz3 2) ((m_a Mz3 5) vz10.toNatClampNeg).toNatClampNeg) 85 dX11_slot_84 hbz17 rfl rfl ?_
                refine z_goto 89 dX11_slot_85 rfl ?_
                exact z_iret dX11_slot_89 rfl ⟨Nat.le_refl _, Nat.le_refl _⟩ ⟨(m_a Mz3 2) ((m_a Mz3 5) vz10.toNatClampNeg).toNatClampNeg, Mz3, rfl, rfl, h⟩
          · replace h := h.2 hcz9
            refine z_iconst (-1) 43 dX11_slot_42 rfl rfl ?_
            exact z_iret dX11_slot_43 rfl ⟨Nat.le_refl _, Nat.le_refl _⟩ ⟨(-1), Mz3, rfl, rfl, h⟩
def p_X11_meet (a1 : Int32) (a2 : Int32) (M : mS) (Q : mS → Prop) : Prop :=
  ((¬ a1 = 2 → Q M) ∧ (a1 = 2 → vp_in a2 1300 ∧ ((((m_a M 28) a2.toNatClampNeg) ≤ 0 → vp_in (m_i M 34) 1300 ∧ Q (m_aU (m_iS (m_aU M 27 (m_i M 34) a2) 34 ((m_i M 34) + 1)) 28 a2 ((m_i M 34) + 1))) ∧ (¬ ((m_a M 28) a2.toNatClampNeg) ≤ 0 → Q M))))
set_option maxRecDepth 100000 in
set_option maxHeartbeats 4000000 in
theorem t_X11_meet (tg : Bool) (C : cS) (o : Nat → Int64) (X : List va_E) (a1 : Int32) (a2 : Int32) (M : mS) (Q : mS → Prop) (h : p_X11_meet a1 a2 M Q) : z_M q_X11_meet tg [.ref 233, .int a1, .int a2] (wz C M o X) (zm_v C o X Q) := by
  unfold p_X11_meet at h
  refine z_enter (by decide) (Nat.le_of_ble_eq_true rfl) ?_
  refine z_iload_n 1 1 dX11_meet_0 rfl rfl ?_
  refine z_iconst 2 2 dX11_meet_1 rfl rfl ?_
  refine z_icmp_ne 14 5 dX11_meet_2 rfl rfl (fun hcz1 => ?_) (fun hcz1 => ?_)
  · replace h := h.1 hcz1
    exact z_vret dX11_meet_14 rfl ⟨Nat.le_refl _, Nat.le_refl _⟩ ⟨M, rfl, rfl, h⟩
  · replace h := h.2 hcz1
    refine z_aload_n 0 6 dX11_meet_5 rfl rfl ?_
    refine gr_33_66 9 dX11_meet_6 of_X11_113 rfl ?_
    refine z_iload_n 2 10 dX11_meet_9 rfl rfl ?_
    obtain ⟨hbz2, h⟩ := h
    refine gma_28 ((m_a M 28) a2.toNatClampNeg) 11 dX11_meet_10 hbz2 rfl rfl ?_
    refine z_if_le 15 14 dX11_meet_11 rfl rfl (fun hcz3 => ?_) (fun hcz3 => ?_)
    · replace h := h.1 hcz3
      refine z_aload_n 0 16 dX11_meet_15 rfl rfl ?_
      refine gr_33_65 19 dX11_meet_16 of_X11_110 rfl ?_
      refine z_aload_n 0 20 dX11_meet_19 rfl rfl ?_
      refine gmi_34 (m_i M 34) 23 dX11_meet_20 of_X11_352 rfl rfl ?_
      refine z_iload_n 2 24 dX11_meet_23 rfl rfl ?_
      obtain ⟨hbz4, h⟩ := h
      refine pma_27 25 dX11_meet_24 hbz4 rfl ?_
      refine z_aload_n 0 26 dX11_meet_25 rfl rfl ?_
      refine z_dup rfl 27 dX11_meet_26 rfl ?_
      refine gmi_34 (m_i M 34) 30 dX11_meet_27 of_X11_352 rfl rfl ?_
      refine z_iconst 1 31 dX11_meet_30 rfl rfl ?_
      refine z_iadd 32 dX11_meet_31 rfl ?_
      refine pmi_34 35 dX11_meet_32 op_X11_352 rfl ?_
      refine z_aload_n 0 36 dX11_meet_35 rfl rfl ?_
      refine gr_33_66 39 dX11_meet_36 of_X11_113 rfl ?_
      refine z_iload_n 2 40 dX11_meet_39 rfl rfl ?_
      refine z_aload_n 0 41 dX11_meet_40 rfl rfl ?_
      refine gmi_34 ((m_i M 34) + 1) 44 dX11_meet_41 of_X11_352 rfl rfl ?_
      refine pma_28 45 dX11_meet_44 hbz2 rfl ?_
      exact z_vret dX11_meet_45 rfl ⟨Nat.le_refl _, Nat.le_refl _⟩ ⟨(m_aU (m_iS (m_aU M 27 (m_i M 34) a2) 34 ((m_i M 34) + 1)) 28 a2 ((m_i M 34) + 1)), rfl, rfl, h⟩
    · replace h := h.2 hcz3
      exact z_vret dX11_meet_14 rfl ⟨Nat.le_refl _, Nat.le_refl _⟩ ⟨M, rfl, rfl, h⟩
def b_X11_forget_7 (R9 : Int32 → mS → Prop) (Q : mS → Prop) (K27 : mS → Prop) (l1 : Int32) (M : mS) : Prop :=
  ((1300 ≤ l1 → K27 M) ∧ (¬ 1300 ≤ l1 → vp_in l1 1300 ∧ ∀ vz3 : Int32, vz3 = l1 + 1 → R9 vz3 (m_aU M 28 l1 0)))
def w_X11_forget_7 (Q : mS → Prop) (K27 : mS → Prop) : Nat → Int32 → mS → Prop
 | 0 => fun _ _ => False
 | n + 1 => fun l1 M => b_X11_forget_7 (w_X11_forget_7 Q K27 n) Q K27 l1 M
set_option maxRecDepth 100000 in
set_option maxHeartbeats 4000000 in
theorem tb_X11_forget_7 (tg : Bool) (C : cS) (o : Nat → Int64) (X : List va_E) (R9 : Int32 → mS → Prop) (Q : mS → Prop) (K27 : mS → Prop) (hR9 : ∀ (l1 : Int32) (M : mS), R9 l1 M → z_go q_X11_forget tg 7 [(1, .int l1), (0, .ref 233)] [] (wz C M o X) 0 0 (zm_v C o X Q)) (hK27 : ∀ (M : mS), K27 M → z_go q_X11_forget tg 27 [] [] (wz C M o X) 0 0 (zm_v C o X Q)) (l1 : Int32) (M : mS) (h : b_X11_forget_7 R9 Q K27 l1 M) : z_go q_X11_forget tg 7 [(1, .int l1), (0, .ref 233)] [] (wz C M o X) 0 0 (zm_v C o X Q) := by
  unfold b_X11_forget_7 at h
  refine z_iload_n 0 8 dX11_forget_7 rfl rfl ?_
  refine z_sipush 1300 11 dX11_forget_8 rfl rfl ?_
  refine z_icmp_ge 27 14 dX11_forget_11 rfl rfl (fun hcz1 => ?_) (fun hcz1 => ?_)
  · replace h := h.1 hcz1
    refine z_pick [] [] rfl ?_
    exact hK27  M h
  · replace h := h.2 hcz1
    refine z_aload_n 1 15 dX11_forget_14 rfl rfl ?_
    refine gr_33_66 18 dX11_forget_15 of_X11_113 rfl ?_
    refine z_iload_n 0 19 dX11_forget_18 rfl rfl ?_
    refine z_iconst 0 20 dX11_forget_19 rfl rfl ?_
    obtain ⟨hbz2, h⟩ := h
    refine pma_28 21 dX11_forget_20 hbz2 rfl ?_
    obtain ⟨vz3, hvz3⟩ : ∃ v : Int32, v = l1 + 1 := ⟨_, rfl⟩
    replace h := h vz3 hvz3
    refine z_iinc vz3 [(1, .int vz3), (0, .ref 233)] 0 24 dX11_forget_21 rfl hvz3.symm (Nat.le_of_ble_eq_true rfl) rfl rfl ?_
    refine z_goto 7 dX11_forget_24 rfl ?_
    refine z_pick [(1, .int vz3), (0, .ref 233)] [0, 1] rfl ?_
    exact hR9 vz3 (m_aU M 28 l1 0) h
theorem tw_X11_forget_7 (tg : Bool) (C : cS) (o : Nat → Int64) (X : List va_E) (Q : mS → Prop) (K27 : mS → Prop) (hK27 : ∀ (M : mS), K27 M → z_go q_X11_forget tg 27 [] [] (wz C M o X) 0 0 (zm_v C o X Q)) : ∀ (n : Nat) (l1 : Int32) (M : mS), w_X11_forget_7 Q K27 n l1 M → z_go q_X11_forget tg 7 [(1, .int l1), (0, .ref 233)] [] (wz C M o X) 0 0 (zm_v C o X Q) := by
  intro n
  induction n with
  | zero => intro l1 M h; exact h.elim
  | succ n ih => intro l1 M h; exact tb_X11_forget_7 tg C o X _ Q K27 ih hK27 l1 M h
def p_X11_forget (M : mS) (Q : mS → Prop) : Prop :=
  ∃ nz5 : Nat, w_X11_forget_7 Q (fun Mz4 => Q Mz4) nz5 0 (m_iS M 34 0)
set_option maxRecDepth 100000 in
set_option maxHeartbeats 4000000 in
theorem t_X11_forget (tg : Bool) (C : cS) (o : Nat → Int64) (X : List va_E) (M : mS) (Q : mS → Prop) (h : p_X11_forget M Q) : z_M q_X11_forget tg [.ref 233] (wz C M o X) (zm_v C o X Q) := by
  unfold p_X11_forget at h
  refine z_enter (by decide) (Nat.le_of_ble_eq_true rfl) ?_
  refine z_aload_n 0 1 dX11_forget_0 rfl rfl ?_
  refine z_iconst 0 2 dX11_forget_1 rfl rfl ?_
  refine pmi_34 5 dX11_forget_2 op_X11_352 rfl ?_
  refine z_iconst 0 6 dX11_forget_5 rfl rfl ?_
  refine z_istore_n [(1, .int 0), (0, .ref 233)] 7 dX11_forget_6 (Nat.le_of_ble_eq_true rfl) rfl rfl ?_
  obtain ⟨nz5, h⟩ := h
  refine z_pick [(1, .int 0), (0, .ref 233)] [0, 1] rfl ?_
  refine tw_X11_forget_7 tg C o X Q _ (fun Mz4 h => ?_) nz5 0 (m_iS M 34 0) h
  · exact z_vret dX11_forget_27 rfl ⟨Nat.le_refl _, Nat.le_refl _⟩ ⟨Mz4, rfl, rfl, h⟩
def b_X11_reach_22 (R9 : Int32 → Int32 → mS → Prop) (Q : Int32 → mS → Prop) (K55 : Int32 → mS → Prop) (l1 : Int32) (l2 : Int32) (M : mS) : Prop :=
  (((8 + (m_i M 3)) ≤ l2 → K55 l1 M) ∧ (¬ (8 + (m_i M 3)) ≤ l2 → vp_in l2 58 ∧ p_X11_meet ((m_a M 6) l2.toNatClampNeg) ((m_a M 7) l2.toNatClampNeg) M (fun Mz5 => ∀ vz6 : Int32, vz6 = l2 + 1 → R9 l1 vz6 Mz5)))
def w_X11_reach_22 (Q : Int32 → mS → Prop) (K55 : Int32 → mS → Prop) : Nat → Int32 → Int32 → mS → Prop
 | 0 => fun _ _ _ => False
 | n + 1 => fun l1 l2 M => b_X11_reach_22 (w_X11_reach_22 Q K55 n) Q K55 l1 l2 M
set_option maxRecDepth 100000 in
set_option maxHeartbeats 4000000 in
theorem tb_X11_reach_22 (tg : Bool) (C : cS) (o : Nat → Int64) (X : List va_E) (R9 : Int32 → Int32 → mS → Prop) (Q : Int32 → mS → Prop) (K55 : Int32 → mS → Prop) (hR9 : ∀ (l1 : Int32) (l2 : Int32) (M : mS), R9 l1 l2 M → z_go q_X11_reach tg 22 [(1, .int l1), (2, .int l2), (0, .ref 233)] [] (wz C M o X) 0 0 (zm_i C o X Q)) (hK55 : ∀ (l1 : Int32) (M : mS), K55 l1 M → z_go q_X11_reach tg 55 [(1, .int l1), (0, .ref 233)] [] (wz C M o X) 0 0 (zm_i C o X Q)) (l1 : Int32) (l2 : Int32) (M : mS) (h : b_X11_reach_22 R9 Q K55 l1 l2 M) : z_go q_X11_reach tg 22 [(1, .int l1), (2, .int l2), (0, .ref 233)] [] (wz C M o X) 0 0 (zm_i C o X Q) := by
  unfold b_X11_reach_22 at h
  refine z_iload_n 1 23 dX11_reach_22 rfl rfl ?_
  refine z_bipush 8 25 dX11_reach_23 rfl rfl ?_
  refine z_aload_n 2 26 dX11_reach_25 rfl rfl ?_
  refine gmi_3 (m_i M 3) 29 dX11_reach_26 of_X11_173 rfl rfl ?_
  refine z_iadd 30 dX11_reach_29 rfl ?_
  refine z_icmp_ge 55 33 dX11_reach_30 rfl rfl (fun hcz3 => ?_) (fun hcz3 => ?_)
  · replace h := h.1 hcz3
    refine z_pick [(1, .int l1), (0, .ref 233)] [0, 2] rfl ?_
    exact hK55 l1 M h
  · replace h := h.2 hcz3
    refine z_aload_n 2 34 dX11_reach_33 rfl rfl ?_
    refine z_aload_n 2 35 dX11_reach_34 rfl rfl ?_
    refine gr_33_9 38 dX11_reach_35 of_X11_30 rfl ?_
    refine z_iload_n 1 39 dX11_reach_38 rfl rfl ?_
    obtain ⟨hbz4, h⟩ := h
    refine gma_6 ((m_a M 6) l2.toNatClampNeg) 40 dX11_reach_39 hbz4 rfl rfl ?_
    refine z_aload_n 2 41 dX11_reach_40 rfl rfl ?_
    refine gr_33_10 44 dX11_reach_41 of_X11_33 rfl ?_
    refine z_iload_n 1 45 dX11_reach_44 rfl rfl ?_
    refine gma_7 ((m_a M 7) l2.toNatClampNeg) 46 dX11_reach_45 hbz4 rfl rfl ?_
    refine z_mvV [.int ((m_a M 6) l2.toNatClampNeg), .int ((m_a M 7) l2.toNatClampNeg)] 49 dX11_reach_46 ok_X11_reach_358 rfl rfl (Nat.le_of_ble_eq_true rfl) rc_33 ⟨rfl, rfl⟩ ⟨Nat.le_refl _, Nat.le_refl _⟩ rfl (t_X11_meet tg C o X ((m_a M 6) l2.toNatClampNeg) ((m_a M 7) l2.toNatClampNeg) M _ h) (fun Mz5 h => ?_)
    obtain ⟨vz6, hvz6⟩ : ∃ v : Int32, v = l2 + 1 := ⟨_, rfl⟩
    replace h := h vz6 hvz6
    refine z_iinc vz6 [(2, .int vz6), (1, .int l1), (0, .ref 233)] 1 52 dX11_reach_49 rfl hvz6.symm (Nat.le_of_ble_eq_true rfl) rfl rfl ?_
    refine z_goto 22 dX11_reach_52 rfl ?_
    refine z_pick [(1, .int l1), (2, .int vz6), (0, .ref 233)] [1, 0, 2] rfl ?_
    exact hR9 l1 vz6 Mz5 h
theorem tw_X11_reach_22 (tg : Bool) (C : cS) (o : Nat → Int64) (X : List va_E) (Q : Int32 → mS → Prop) (K55 : Int32 → mS → Prop) (hK55 : ∀ (l1 : Int32) (M : mS), K55 l1 M → z_go q_X11_reach tg 55 [(1, .int l1), (0, .ref 233)] [] (wz C M o X) 0 0 (zm_i C o X Q)) : ∀ (n : Nat) (l1 : Int32) (l2 : Int32) (M : mS), w_X11_reach_22 Q K55 n l1 l2 M → z_go q_X11_reach tg 22 [(1, .int l1), (2, .int l2), (0, .ref 233)] [] (wz C M o X) 0 0 (zm_i C o X Q) := by
  intro n
  induction n with
  | zero => intro l1 l2 M h; exact h.elim
  | succ n ih => intro l1 l2 M h; exact tb_X11_reach_22 tg C o X _ Q K55 ih hK55 l1 l2 M h
def b_X11_reach_78 (R9 : Int32 → Int32 → Int32 → Int32 → Int32 → mS → Prop) (Q : Int32 → mS → Prop) (K126 : Int32 → Int32 → Int32 → Int32 → mS → Prop) (l1 : Int32) (l2 : Int32) (l3 : Int32) (l4 : Int32) (l5 : Int32) (M : mS) : Prop :=
  vp_in l4 1300 ∧ ((((m_a M 1) l4.toNatClampNeg) ≤ l5 → K126 l1 l2 l3 l4 M) ∧ (¬ ((m_a M 1) l4.toNatClampNeg) ≤ l5 → vp_in ((40 * l4) + l5) 52000 ∧ p_X11_meet ((m_a M 4) ((40 * l4) + l5).toNatClampNeg) ((m_a M 5) ((40 * l4) + l5).toNatClampNeg) M (fun Mz15 => ∀ vz16 : Int32, vz16 = l5 + 1 → R9 l1 l2 l3 l4 vz16 Mz15)))
def w_X11_reach_78 (Q : Int32 → mS → Prop) (K126 : Int32 → Int32 → Int32 → Int32 → mS → Prop) : Nat → Int32 → Int32 → Int32 → Int32 → Int32 → mS → Prop
 | 0 => fun _ _ _ _ _ _ => False
 | n + 1 => fun l1 l2 l3 l4 l5 M => b_X11_reach_78 (w_X11_reach_78 Q K126 n) Q K126 l1 l2 l3 l4 l5 M
set_option maxRecDepth 100000 in
set_option maxHeartbeats 4000000 in
theorem tb_X11_reach_78 (tg : Bool) (C : cS) (o : Nat → Int64) (X : List va_E) (R9 : Int32 → Int32 → Int32 → Int32 → Int32 → mS → Prop) (Q : Int32 → mS → Prop) (K126 : Int32 → Int32 → Int32 → Int32 → mS → Prop) (hR9 : ∀ (l1 : Int32) (l2 : Int32) (l3 : Int32) (l4 : Int32) (l5 : Int32) (M : mS), R9 l1 l2 l3 l4 l5 M → z_go q_X11_reach tg 78 [(1, .int l1), (2, .int l2), (3, .int l3), (4, .int l4), (5, .int l5), (0, .ref 233)] [] (wz C M o X) 0 0 (zm_i C o X Q)) (hK126 : ∀ (l1 : Int32) (l2 : Int32) (l3 : Int32) (l4 : Int32) (M : mS), K126 l1 l2 l3 l4 M → z_go q_X11_reach tg 126 [(1, .int l1), (2, .int l2), (3, .int l3), (4, .int l4), (0, .ref 233)] [] (wz C M o X) 0 0 (zm_i C o X Q)) (l1 : Int32) (l2 : Int32) (l3 : Int32) (l4 : Int32) (l5 : Int32) (M : mS) (h : b_X11_reach_78 R9 Q K126 l1 l2 l3 l4 l5 M) : z_go q_X11_reach tg 78 [(1, .int l1), (2, .int l2), (3, .int l3), (4, .int l4), (5, .int l5), (0, .ref 233)] [] (wz C M o X) 0 0 (zm_i C o X Q) := by
  unfold b_X11_reach_78 at h
  refine z_iload 4 80 dX11_reach_78 rfl rfl ?_
  refine z_aload_n 5 81 dX11_reach_80 rfl rfl ?_
  refine gr_33_4 84 dX11_reach_81 of_X11_13 rfl ?_
  refine z_iload 3 86 dX11_reach_84 rfl rfl ?_
  obtain ⟨hbz12, h⟩ := h
  refine gma_1 ((m_a M 1) l4.toNatClampNeg) 87 dX11_reach_86 hbz12 rfl rfl ?_
  refine z_icmp_ge 126 90 dX11_reach_87 rfl rfl (fun hcz13 => ?_) (fun hcz13 => ?_)
  · replace h := h.1 hcz13
    refine z_pick [(1, .int l1), (2, .int l2), (3, .int l3), (4, .int l4), (0, .ref 233)] [0, 1, 2, 3, 5] rfl ?_
    exact hK126 l1 l2 l3 l4 M h
  · replace h := h.2 hcz13
    refine z_aload_n 5 91 dX11_reach_90 rfl rfl ?_
    refine z_aload_n 5 92 dX11_reach_91 rfl rfl ?_
    refine gr_33_7 95 dX11_reach_92 of_X11_24 rfl ?_
    refine z_bipush 40 97 dX11_reach_95 rfl rfl ?_
    refine z_iload 3 99 dX11_reach_97 rfl rfl ?_
    refine z_imul 100 dX11_reach_99 rfl ?_
    refine z_iload 4 102 dX11_reach_100 rfl rfl ?_
    refine z_iadd 103 dX11_reach_102 rfl ?_
    obtain ⟨hbz14, h⟩ := h
    refine gma_4 ((m_a M 4) ((40 * l4) + l5).toNatClampNeg) 104 dX11_reach_103 hbz14 rfl rfl ?_
    refine z_aload_n 5 105 dX11_reach_104 rfl rfl ?_
    refine gr_33_8 108 dX11_reach_105 of_X11_27 rfl ?_
    refine z_bipush 40 110 dX11_reach_108 rfl rfl ?_
    refine z_iload 3 112 dX11_reach_110 rfl rfl ?_
    refine z_imul 113 dX11_reach_112 rfl ?_
    refine z_iload 4 115 dX11_reach_113 rfl rfl ?_
    refine z_iadd 116 dX11_reach_115 rfl ?_
    refine gma_5 ((m_a M 5) ((40 * l4) + l5).toNatClampNeg) 117 dX11_reach_116 hbz14 rfl rfl ?_
    refine z_mvV [.int ((m_a M 4) ((40 * l4) + l5).toNatClampNeg), .int ((m_a M 5) ((40 * l4) + l5).toNatClampNeg)] 120 dX11_reach_117 ok_X11_reach_358 rfl rfl (Nat.le_of_ble_eq_true rfl) rc_33 ⟨rfl, rfl⟩ ⟨Nat.le_refl _, Nat.le_refl _⟩ rfl (t_X11_meet tg C o X ((m_a M 4) ((40 * l4) + l5).toNatClampNeg) ((m_a M 5) ((40 * l4) + l5).toNatClampNeg) M _ h) (fun Mz15 h => ?_)
    obtain ⟨vz16, hvz16⟩ : ∃ v : Int32, v = l5 + 1 := ⟨_, rfl⟩
    replace h := h vz16 hvz16
    refine z_iinc vz16 [(5, .int vz16), (1, .int l1), (2, .int l2), (3, .int l3), (4, .int l4), (0, .ref 233)] 4 123 dX11_reach_120 rfl hvz16.symm (Nat.le_of_ble_eq_true rfl) rfl rfl ?_
    refine z_goto 78 dX11_reach_123 rfl ?_
    refine z_pick [(1, .int l1), (2, .int l2), (3, .int l3), (4, .int l4), (5, .int vz16), (0, .ref 233)] [1, 2, 3, 4, 0, 5] rfl ?_
    exact hR9 l1 l2 l3 l4 vz16 Mz15 h
theorem tw_X11_reach_78 (tg : Bool) (C : cS) (o : Nat → Int64) (X : List va_E) (Q : Int32 → mS → Prop) (K126 : Int32 → Int32 → Int32 → Int32 → mS → Prop) (hK126 : ∀ (l1 : Int32) (l2 : Int32) (l3 : Int32) (l4 : Int32) (M : mS), K126 l1 l2 l3 l4 M → z_go q_X11_reach tg 126 [(1, .int l1), (2, .int l2), (3, .int l3), (4, .int l4), (0, .ref 233)] [] (wz C M o X) 0 0 (zm_i C o X Q)) : ∀ (n : Nat) (l1 : Int32) (l2 : Int32) (l3 : Int32) (l4 : Int32) (l5 : Int32) (M : mS), w_X11_reach_78 Q K126 n l1 l2 l3 l4 l5 M → z_go q_X11_reach tg 78 [(1, .int l1), (2, .int l2), (3, .int l3), (4, .int l4), (5, .int l5), (0, .ref 233)] [] (wz C M o X) 0 0 (zm_i C o X Q) := by
  intro n
  induction n with
  | zero => intro l1 l2 l3 l4 l5 M h; exact h.elim
  | succ n ih => intro l1 l2 l3 l4 l5 M h; exact tb_X11_reach_78 tg C o X _ Q K126 ih hK126 l1 l2 l3 l4 l5 M h
def b_X11_reach_59 (R9 : Int32 → Int32 → Int32 → mS → Prop) (Q : Int32 → mS → Prop) (K141 : Int32 → Int32 → mS → Prop) (l1 : Int32) (l2 : Int32) (l3 : Int32) (M : mS) : Prop :=
  (((m_i M 34) ≤ l3 → K141 l1 l2 M) ∧ (¬ (m_i M 34) ≤ l3 → vp_in l3 1300 ∧ ∀ vz11 : Int32, vz11 = (m_a M 27) l3.toNatClampNeg → ∃ nz26 : Nat, w_X11_reach_78 Q (fun lz17 lz18 lz19 lz20 Mz21 => p_X11_takes lz20 Mz21 (fun rz23 Mz22 => ∀ vz24 : Int32, vz24 = lz18 + rz23 → ∀ vz25 : Int32, vz25 = lz19 + 1 → R9 lz17 vz24 vz25 Mz22)) nz26 l1 l2 l3 vz11 0 M))
def w_X11_reach_59 (Q : Int32 → mS → Prop) (K141 : Int32 → Int32 → mS → Prop) : Nat → Int32 → Int32 → Int32 → mS → Prop
 | 0 => fun _ _ _ _ => False
 | n + 1 => fun l1 l2 l3 M => b_X11_reach_59 (w_X11_reach_59 Q K141 n) Q K141 l1 l2 l3 M
set_option maxRecDepth 100000 in
set_option maxHeartbeats 4000000 in
theorem tb_X11_reach_59 (tg : Bool) (C : cS) (o : Nat → Int64) (X : List va_E) (R9 : Int32 → Int32 → Int32 → mS → Prop) (Q : Int32 → mS → Prop) (K141 : Int32 → Int32 → mS → Prop) (hR9 : ∀ (l1 : Int32) (l2 : Int32) (l3 : Int32) (M : mS), R9 l1 l2 l3 M → z_go q_X11_reach tg 59 [(1, .int l1), (2, .int l2), (3, .int l3), (0, .ref 233)] [] (wz C M o X) 0 0 (zm_i C o X Q)) (hK141 : ∀ (l1 : Int32) (l2 : Int32) (M : mS), K141 l1 l2 M → z_go q_X11_reach tg 141 [(1, .int l1), (2, .int l2), (0, .ref 233)] [] (wz C M o X) 0 0 (zm_i C o X Q)) (l1 : Int32) (l2 : Int32) (l3 : Int32) (M : mS) (h : b_X11_reach_59 R9 Q K141 l1 l2 l3 M) : z_go q_X11_reach tg 59 [(1, .int l1), (2, .int l2), (3, .int l3), (0, .ref 233)] [] (wz C M o X) 0 0 (zm_i C o X Q) := by
  unfold b_X11_reach_59 at h
  refine z_iload_n 2 60 dX11_reach_59 rfl rfl ?_
  refine z_aload_n 3 61 dX11_reach_60 rfl rfl ?_
  refine gmi_34 (m_i M 34) 64 dX11_reach_61 of_X11_352 rfl rfl ?_
  refine z_icmp_ge 141 67 dX11_reach_64 rfl rfl (fun hcz9 => ?_) (fun hcz9 => ?_)
  · replace h := h.1 hcz9
    refine z_pick [(1, .int l1), (2, .int l2), (0, .ref 233)] [0, 1, 3] rfl ?_
    exact hK141 l1 l2 M h
  · replace h := h.2 hcz9
    refine z_aload_n 3 68 dX11_reach_67 rfl rfl ?_
    refine gr_33_65 71 dX11_reach_68 of_X11_110 rfl ?_
    refine z_iload_n 2 72 dX11_reach_71 rfl rfl ?_
    obtain ⟨hbz10, h⟩ := h
    refine gma_27 ((m_a M 27) l3.toNatClampNeg) 73 dX11_reach_72 hbz10 rfl rfl ?_
    refine z_topi (fun vz11 hvz11 => ?_)
    replace h := h vz11 hvz11
    refine z_istore [(4, .int vz11), (1, .int l1), (2, .int l2), (3, .int l3), (0, .ref 233)] 75 dX11_reach_73 (Nat.le_of_ble_eq_true rfl) rfl rfl ?_
    refine z_iconst 0 76 dX11_reach_75 rfl rfl ?_
    refine z_istore [(5, .int 0), (4, .int vz11), (1, .int l1), (2, .int l2), (3, .int l3), (0, .ref 233)] 78 dX11_reach_76 (Nat.le_of_ble_eq_true rfl) rfl rfl ?_
    obtain ⟨nz26, h⟩ := h
    refine z_pick [(1, .int l1), (2, .int l2), (3, .int l3), (4, .int vz11), (5, .int 0), (0, .ref 233)] [2, 3, 4, 1, 0, 5] rfl ?_
    refine tw_X11_reach_78 tg C o X Q _ (fun lz17 lz18 lz19 lz20 Mz21 h => ?_) nz26 l1 l2 l3 vz11 0 M h
    · refine z_iload_n 1 127 dX11_reach_126 rfl rfl ?_
      refine z_aload_n 4 128 dX11_reach_127 rfl rfl ?_
      refine z_iload 3 130 dX11_reach_128 rfl rfl ?_
      refine z_miV [.int lz20] 133 dX11_reach_130 ok_X11_reach_140 rfl rfl (Nat.le_of_ble_eq_true rfl) rc_33 ⟨rfl, rfl⟩ ⟨Nat.le_refl _, Nat.le_refl _⟩ rfl (t_X11_takes tg C o X lz20 Mz21 _ h) (fun rz23 Mz22 h => ?_)
      refine z_iadd 134 dX11_reach_133 rfl ?_
      refine z_topi (fun vz24 hvz24 => ?_)
      replace h := h vz24 hvz24
      refine z_istore_n [(2, .int vz24), (1, .int lz17), (3, .int lz19), (4, .int lz20), (0, .ref 233)] 135 dX11_reach_134 (Nat.le_of_ble_eq_true rfl) rfl rfl ?_
      obtain ⟨vz25, hvz25⟩ : ∃ v : Int32, v = lz19 + 1 := ⟨_, rfl⟩
      replace h := h vz25 hvz25
      refine z_iinc vz25 [(3, .int vz25), (2, .int vz24), (1, .int lz17), (4, .int lz20), (0, .ref 233)] 2 138 dX11_reach_135 rfl hvz25.symm (Nat.le_of_ble_eq_true rfl) rfl rfl ?_
      refine z_goto 59 dX11_reach_138 rfl ?_
      refine z_pick [(1, .int lz17), (2, .int vz24), (3, .int vz25), (0, .ref 233)] [2, 1, 0, 4] rfl ?_
      exact hR9 lz17 vz24 vz25 Mz22 h
theorem tw_X11_reach_59 (tg : Bool) (C : cS) (o : Nat → Int64) (X : List va_E) (Q : Int32 → mS → Prop) (K141 : Int32 → Int32 → mS → Prop) (hK141 : ∀ (l1 : Int32) (l2 : Int32) (M : mS), K141 l1 l2 M → z_go q_X11_reach tg 141 [(1, .int l1), (2, .int l2), (0, .ref 233)] [] (wz C M o X) 0 0 (zm_i C o X Q)) : ∀ (n : Nat) (l1 : Int32) (l2 : Int32) (l3 : Int32) (M : mS), w_X11_reach_59 Q K141 n l1 l2 l3 M → z_go q_X11_reach tg 59 [(1, .int l1), (2, .int l2), (3, .int l3), (0, .ref 233)] [] (wz C M o X) 0 0 (zm_i C o X Q) := by
  intro n
  induction n with
  | zero => intro l1 l2 l3 M h; exact h.elim
  | succ n ih => intro l1 l2 l3 M h; exact tb_X11_reach_59 tg C o X _ Q K141 ih hK141 l1 l2 l3 M h
def p_X11_reach (a1 : Int32) (M : mS) (Q : Int32 → mS → Prop) : Prop :=
  ((a1 = 0 → p_X11_forget (m_iS M 2 0) (fun Mz2 => ∃ nz32 : Nat, w_X11_reach_22 Q (fun lz7 Mz8 => ∃ nz31 : Nat, w_X11_reach_59 Q (fun lz27 lz28 Mz29 => ((¬ lz27 = 0 → Q lz28 Mz29) ∧ (lz27 = 0 → Q (m_i Mz29 34) Mz29))) nz31 lz7 0 0 Mz8) nz32 a1 0 Mz2)) ∧ (¬ a1 = 0 → ((a1 = 1 → p_X11_forget (m_iS M 2 0) (fun Mz34 => ∃ nz42 : Nat, w_X11_reach_22 Q (fun lz35 Mz36 => ∃ nz41 : Nat, w_X11_reach_59 Q (fun lz37 lz38 Mz39 => ((¬ lz37 = 0 → Q lz38 Mz39) ∧ (lz37 = 0 → Q (m_i Mz39 34) Mz39))) nz41 lz35 0 0 Mz36) nz42 a1 0 Mz34)) ∧ (¬ a1 = 1 → Q (-1) (m_iS M 2 0)))))
set_option maxRecDepth 100000 in
set_option maxHeartbeats 4000000 in
theorem t_X11_reach (tg : Bool) (C : cS) (o : Nat → Int64) (X : List va_E) (a1 : Int32) (M : mS) (Q : Int32 → mS → Prop) (h : p_X11_reach a1 M Q) : z_M q_X11_reach tg [.ref 233, .int a1] (wz C M o X) (zm_i C o X Q) := by
  unfold p_X11_reach at h
  refine z_enter (by decide) (Nat.le_of_ble_eq_true rfl) ?_
  refine z_aload_n 0 1 dX11_reach_0 rfl rfl ?_
  refine z_iconst 0 2 dX11_reach_1 rfl rfl ?_
  refine pmi_2 5 dX11_reach_2 op_X11_131 rfl ?_
  refine z_iload_n 1 6 dX11_reach_5 rfl rfl ?_
  refine z_if_eq 16 9 dX11_reach_6 rfl rfl (fun hcz1 => ?_) (fun hcz1 => ?_)
  · replace h := h.1 hcz1
    refine z_aload_n 0 17 dX11_reach_16 rfl rfl ?_
    refine z_mvV [] 20 dX11_reach_17 ok_X11_reach_355 rfl rfl (Nat.le_of_ble_eq_true rfl) rc_33 ⟨rfl, rfl⟩ ⟨Nat.le_refl _, Nat.le_refl _⟩ rfl (t_X11_forget tg C o X  (m_iS M 2 0) _ h) (fun Mz2 h => ?_)
    refine z_iconst 0 21 dX11_reach_20 rfl rfl ?_
    refine z_istore_n [(2, .int 0), (0, .ref 233), (1, .int a1)] 22 dX11_reach_21 (Nat.le_of_ble_eq_true rfl) rfl rfl ?_
    obtain ⟨nz32, h⟩ := h
    refine z_pick [(1, .int a1), (2, .int 0), (0, .ref 233)] [2, 0, 1] rfl ?_
    refine tw_X11_reach_22 tg C o X Q _ (fun lz7 Mz8 h => ?_) nz32 a1 0 Mz2 h
    · refine z_iconst 0 56 dX11_reach_55 rfl rfl ?_
      refine z_istore_n [(2, .int 0), (1, .int lz7), (0, .ref 233)] 57 dX11_reach_56 (Nat.le_of_ble_eq_true rfl) rfl rfl ?_
      refine z_iconst 0 58 dX11_reach_57 rfl rfl ?_
      refine z_istore_n [(3, .int 0), (2, .int 0), (1, .int lz7), (0, .ref 233)] 59 dX11_reach_58 (Nat.le_of_ble_eq_true rfl) rfl rfl ?_
      obtain ⟨nz31, h⟩ := h
      refine z_pick [(1, .int lz7), (2, .int 0), (3, .int 0), (0, .ref 233)] [2, 1, 0, 3] rfl ?_
      refine tw_X11_reach_59 tg C o X Q _ (fun lz27 lz28 Mz29 h => ?_) nz31 lz7 0 0 Mz8 h
      · refine z_iload_n 0 142 dX11_reach_141 rfl rfl ?_
        refine z_if_ne 152 145 dX11_reach_142 rfl rfl (fun hcz30 => ?_) (fun hcz30 => ?_)
        · replace h := h.1 hcz30
          refine z_iload_n 1 153 dX11_reach_152 rfl rfl ?_
          exact z_iret dX11_reach_153 rfl ⟨Nat.le_refl _, Nat.le_refl _⟩ ⟨lz28, Mz29, rfl, rfl, h⟩
        · replace h := h.2 hcz30
          refine z_aload_n 2 146 dX11_reach_145 rfl rfl ?_
          refine gmi_34 (m_i Mz29 34) 149 dX11_reach_146 of_X11_352 rfl rfl ?_
          refine z_goto 153 dX11_reach_149 rfl ?_
          exact z_iret dX11_reach_153 rfl ⟨Nat.le_refl _, Nat.le_refl _⟩ ⟨m_i Mz29 34, Mz29, rfl, rfl, h⟩
  · replace h := h.2 hcz1
    refine z_iload_n 1 10 dX11_reach_9 rfl rfl ?_
    refine z_iconst 1 11 dX11_reach_10 rfl rfl ?_
    refine z_icmp_eq 16 14 dX11_reach_11 rfl rfl (fun hcz33 => ?_) (fun hcz33 => ?_)
    · replace h := h.1 hcz33
      refine z_aload_n 0 17 dX11_reach_16 rfl rfl ?_
      refine z_mvV [] 20 dX11_reach_17 ok_X11_reach_355 rfl rfl (Nat.le_of_ble_eq_true rfl) rc_33 ⟨rfl, rfl⟩ ⟨Nat.le_refl _, Nat.le_refl _⟩ rfl (t_X11_forget tg C o X  (m_iS M 2 0) _ h) (fun Mz34 h => ?_)
      refine z_iconst 0 21 dX11_reach_20 rfl rfl ?_
      refine z_istore_n [(2, .int 0), (0, .ref 233), (1, .int a1)] 22 dX11_reach_21 (Nat.le_of_ble_eq_true rfl) rfl rfl ?_
      obtain ⟨nz42, h⟩ := h
      refine z_pick [(1, .int a1), (2, .int 0), (0, .ref 233)] [2, 0, 1] rfl ?_
      refine tw_X11_reach_22 tg C o X Q _ (fun lz35 Mz36 h => ?_) nz42 a1 0 Mz34 h
      · refine z_iconst 0 56 dX11_reach_55 rfl rfl ?_
        refine z_istore_n [(2, .int 0), (1, .int lz35), (0, .ref 233)] 57 dX11_reach_56 (Nat.le_of_ble_eq_true rfl) rfl rfl ?_
        refine z_iconst 0 58 dX11_reach_57 rfl rfl ?_
        refine z_istore_n [(3, .int 0), (2, .int 0), (1, .int lz35), (0, .ref 233)] 59 dX11_reach_58 (Nat.le_of_ble_eq_true rfl) rfl rfl ?_
        obtain ⟨nz41, h⟩ := h
        refine z_pick [(1, .int lz35), (2, .int 0), (3, .int 0), (0, .ref 233)] [2, 1, 0, 3] rfl ?_
        refine tw_X11_reach_59 tg C o X Q _ (fun lz37 lz38 Mz39 h => ?_) nz41 lz35 0 0 Mz36 h
        · refine z_iload_n 0 142 dX11_reach_141 rfl rfl ?_
          refine z_if_ne 152 145 dX11_reach_142 rfl rfl (fun hcz40 => ?_) (fun hcz40 => ?_)
          · replace h := h.1 hcz40
            refine z_iload_n 1 153 dX11_reach_152 rfl rfl ?_
            exact z_iret dX11_reach_153 rfl ⟨Nat.le_refl _, Nat.le_refl _⟩ ⟨lz38, Mz39, rfl, rfl, h⟩
          · replace h := h.2 hcz40
            refine z_aload_n 2 146 dX11_reach_145 rfl rfl ?_
            refine gmi_34 (m_i Mz39 34) 149 dX11_reach_146 of_X11_352 rfl rfl ?_
            refine z_goto 153 dX11_reach_149 rfl ?_
            exact z_iret dX11_reach_153 rfl ⟨Nat.le_refl _, Nat.le_refl _⟩ ⟨m_i Mz39 34, Mz39, rfl, rfl, h⟩
    · replace h := h.2 hcz33
      refine z_iconst (-1) 15 dX11_reach_14 rfl rfl ?_
      exact z_iret dX11_reach_15 rfl ⟨Nat.le_refl _, Nat.le_refl _⟩ ⟨(-1), (m_iS M 2 0), rfl, rfl, h⟩
def p_X11_put (a1 : Int32) (M : mS) (Q : mS → Prop) : Prop :=
  ((¬ (m_i M 35) = 600 → vp_in (m_i M 35) 600 ∧ Q (m_iS (m_aU M 29 (m_i M 35) a1) 35 ((m_i M 35) + 1))) ∧ ((m_i M 35) = 600 → Q M))
set_option maxRecDepth 100000 in
set_option maxHeartbeats 4000000 in
theorem t_X11_put (tg : Bool) (C : cS) (o : Nat → Int64) (X : List va_E) (a1 : Int32) (M : mS) (Q : mS → Prop) (h : p_X11_put a1 M Q) : z_M q_X11_put tg [.ref 233, .int a1] (wz C M o X) (zm_v C o X Q) := by
  unfold p_X11_put at h
  refine z_enter (by decide) (Nat.le_of_ble_eq_true rfl) ?_
  refine z_aload_n 0 1 dX11_put_0 rfl rfl ?_
  refine gmi_35 (m_i M 35) 4 dX11_put_1 of_X11_361 rfl rfl ?_
  refine z_sipush 600 7 dX11_put_4 rfl rfl ?_
  refine z_icmp_ne 11 10 dX11_put_7 rfl rfl (fun hcz1 => ?_) (fun hcz1 => ?_)
  · replace h := h.1 hcz1
    refine z_aload_n 0 12 dX11_put_11 rfl rfl ?_
    refine gr_33_68 15 dX11_put_12 of_X11_116 rfl ?_
    refine z_aload_n 0 16 dX11_put_15 rfl rfl ?_
    refine gmi_35 (m_i M 35) 19 dX11_put_16 of_X11_361 rfl rfl ?_
    refine z_iload_n 1 20 dX11_put_19 rfl rfl ?_
    obtain ⟨hbz2, h⟩ := h
    refine pma_29 21 dX11_put_20 hbz2 rfl ?_
    refine z_aload_n 0 22 dX11_put_21 rfl rfl ?_
    refine z_dup rfl 23 dX11_put_22 rfl ?_
    refine gmi_35 (m_i M 35) 26 dX11_put_23 of_X11_361 rfl rfl ?_
    refine z_iconst 1 27 dX11_put_26 rfl rfl ?_
    refine z_iadd 28 dX11_put_27 rfl ?_
    refine pmi_35 31 dX11_put_28 op_X11_361 rfl ?_
    exact z_vret dX11_put_31 rfl ⟨Nat.le_refl _, Nat.le_refl _⟩ ⟨(m_iS (m_aU M 29 (m_i M 35) a1) 35 ((m_i M 35) + 1)), rfl, rfl, h⟩
  · replace h := h.2 hcz1
    exact z_vret dX11_put_10 rfl ⟨Nat.le_refl _, Nat.le_refl _⟩ ⟨M, rfl, rfl, h⟩
def b_X11_putNumber_21 (R9 : Int64 → Int64 → mS → Prop) (Q : mS → Prop) (K43 : Int64 → Int64 → mS → Prop) (l2 : Int64) (l4 : Int64) (M : mS) : Prop :=
  ¬ l4 = 0 ∧ (((lg_cmp (l2 / l4) 9) ≤ 0 → K43 l2 l4 M) ∧ (¬ (lg_cmp (l2 / l4) 9) ≤ 0 → ∀ vz5 : Int64, vz5 = l4 * 10 → R9 l2 vz5 M))
def w_X11_putNumber_21 (Q : mS → Prop) (K43 : Int64 → Int64 → mS → Prop) : Nat → Int64 → Int64 → mS → Prop
 | 0 => fun _ _ _ => False
 | n + 1 => fun l2 l4 M => b_X11_putNumber_21 (w_X11_putNumber_21 Q K43 n) Q K43 l2 l4 M
set_option maxRecDepth 100000 in
set_option maxHeartbeats 4000000 in
theorem tb_X11_putNumber_21 (tg : Bool) (C : cS) (o : Nat → Int64) (X : List va_E) (R9 : Int64 → Int64 → mS → Prop) (Q : mS → Prop) (K43 : Int64 → Int64 → mS → Prop) (hR9 : ∀ (l2 : Int64) (l4 : Int64) (M : mS), R9 l2 l4 M → z_go q_X11_putNumber tg 21 [(2, .long l2), (4, .long l4), (0, .ref 233)] [] (wz C M o X) 0 0 (zm_v C o X Q)) (hK43 : ∀ (l2 : Int64) (l4 : Int64) (M : mS), K43 l2 l4 M → z_go q_X11_putNumber tg 43 [(2, .long l2), (4, .long l4), (0, .ref 233)] [] (wz C M o X) 0 0 (zm_v C o X Q)) (l2 : Int64) (l4 : Int64) (M : mS) (h : b_X11_putNumber_21 R9 Q K43 l2 l4 M) : z_go q_X11_putNumber tg 21 [(2, .long l2), (4, .long l4), (0, .ref 233)] [] (wz C M o X) 0 0 (zm_v C o X Q) := by
  unfold b_X11_putNumber_21 at h
  refine z_lload_n 0 22 dX11_putNumber_21 rfl rfl ?_
  refine z_lload 1 24 dX11_putNumber_22 rfl rfl ?_
  obtain ⟨hqz3, h⟩ := h
  refine z_ldiv hqz3 25 dX11_putNumber_24 rfl ?_
  refine z_ldc2 9 28 dX11_putNumber_25 oc_X11_367 rfl ?_
  refine z_lcmp 29 dX11_putNumber_28 rfl ?_
  refine z_if_le 43 32 dX11_putNumber_29 rfl rfl (fun hcz4 => ?_) (fun hcz4 => ?_)
  · replace h := h.1 hcz4
    refine z_pick [(2, .long l2), (4, .long l4), (0, .ref 233)] [0, 1, 2] rfl ?_
    exact hK43 l2 l4 M h
  · replace h := h.2 hcz4
    refine z_lload 1 34 dX11_putNumber_32 rfl rfl ?_
    refine z_ldc2 10 37 dX11_putNumber_34 oc_X11_284 rfl ?_
    refine z_lmul 38 dX11_putNumber_37 rfl ?_
    refine z_topl (fun vz5 hvz5 => ?_)
    replace h := h vz5 hvz5
    refine z_lstore [(4, .long vz5), (2, .long l2), (0, .ref 233)] 40 dX11_putNumber_38 (Nat.le_of_ble_eq_true rfl) rfl rfl ?_
    refine z_goto 21 dX11_putNumber_40 rfl ?_
    refine z_pick [(2, .long l2), (4, .long vz5), (0, .ref 233)] [1, 0, 2] rfl ?_
    exact hR9 l2 vz5 M h
theorem tw_X11_putNumber_21 (tg : Bool) (C : cS) (o : Nat → Int64) (X : List va_E) (Q : mS → Prop) (K43 : Int64 → Int64 → mS → Prop) (hK43 : ∀ (l2 : Int64) (l4 : Int64) (M : mS), K43 l2 l4 M → z_go q_X11_putNumber tg 43 [(2, .long l2), (4, .long l4), (0, .ref 233)] [] (wz C M o X) 0 0 (zm_v C o X Q)) : ∀ (n : Nat) (l2 : Int64) (l4 : Int64) (M : mS), w_X11_putNumber_21 Q K43 n l2 l4 M → z_go q_X11_putNumber tg 21 [(2, .long l2), (4, .long l4), (0, .ref 233)] [] (wz C M o X) 0 0 (zm_v C o X Q) := by
  intro n
  induction n with
  | zero => intro l2 l4 M h; exact h.elim
  | succ n ih => intro l2 l4 M h; exact tb_X11_putNumber_21 tg C o X _ Q K43 ih hK43 l2 l4 M h
def b_X11_putNumber_43 (R9 : Int64 → Int64 → mS → Prop) (Q : mS → Prop) (K78 : mS → Prop) (l2 : Int64) (l4 : Int64) (M : mS) : Prop :=
  (((lg_cmp l4 0) ≤ 0 → K78 M) ∧ (¬ (lg_cmp l4 0) ≤ 0 → ¬ l4 = 0 ∧ p_X11_put ((48 + ((l2 / l4) - (l2 / l4) / 10 * 10) : Int64).toInt32) M (fun Mz11 => ∀ vz12 : Int64, vz12 = l4 / 10 → R9 l2 vz12 Mz11)))
def w_X11_putNumber_43 (Q : mS → Prop) (K78 : mS → Prop) : Nat → Int64 → Int64 → mS → Prop
 | 0 => fun _ _ _ => False
 | n + 1 => fun l2 l4 M => b_X11_putNumber_43 (w_X11_putNumber_43 Q K78 n) Q K78 l2 l4 M
set_option maxRecDepth 100000 in
set_option maxHeartbeats 4000000 in
theorem tb_X11_putNumber_43 (tg : Bool) (C : cS) (o : Nat → Int64) (X : List va_E) (R9 : Int64 → Int64 → mS → Prop) (Q : mS → Prop) (K78 : mS → Prop) (hR9 : ∀ (l2 : Int64) (l4 : Int64) (M : mS), R9 l2 l4 M → z_go q_X11_putNumber tg 43 [(2, .long l2), (4, .long l4), (0, .ref 233)] [] (wz C M o X) 0 0 (zm_v C o X Q)) (hK78 : ∀ (M : mS), K78 M → z_go q_X11_putNumber tg 78 [] [] (wz C M o X) 0 0 (zm_v C o X Q)) (l2 : Int64) (l4 : Int64) (M : mS) (h : b_X11_putNumber_43 R9 Q K78 l2 l4 M) : z_go q_X11_putNumber tg 43 [(2, .long l2), (4, .long l4), (0, .ref 233)] [] (wz C M o X) 0 0 (zm_v C o X Q) := by
  unfold b_X11_putNumber_43 at h
  refine z_lload 1 45 dX11_putNumber_43 rfl rfl ?_
  refine z_lconst 0 46 dX11_putNumber_45 rfl rfl ?_
  refine z_lcmp 47 dX11_putNumber_46 rfl ?_
  refine z_if_le 78 50 dX11_putNumber_47 rfl rfl (fun hcz9 => ?_) (fun hcz9 => ?_)
  · replace h := h.1 hcz9
    refine z_pick [] [] rfl ?_
    exact hK78  M h
  · replace h := h.2 hcz9
    refine z_aload_n 2 51 dX11_putNumber_50 rfl rfl ?_
    refine z_ldc2 48 54 dX11_putNumber_51 oc_X11_286 rfl ?_
    refine z_lload_n 0 55 dX11_putNumber_54 rfl rfl ?_
    refine z_lload 1 57 dX11_putNumber_55 rfl rfl ?_
    obtain ⟨hqz10, h⟩ := h
    refine z_ldiv hqz10 58 dX11_putNumber_57 rfl ?_
    refine z_ldc2 10 61 dX11_putNumber_58 oc_X11_284 rfl ?_
    refine z_lrem (by decide) 62 dX11_putNumber_61 rfl ?_
    refine z_ladd 63 dX11_putNumber_62 rfl ?_
    refine z_l2i 64 dX11_putNumber_63 rfl ?_
    refine z_mvV [.int ((48 + ((l2 / l4) - (l2 / l4) / 10 * 10) : Int64).toInt32)] 67 dX11_putNumber_64 ok_X11_putNumber_364 rfl rfl (Nat.le_of_ble_eq_true rfl) rc_33 ⟨rfl, rfl⟩ ⟨Nat.le_refl _, Nat.le_refl _⟩ rfl (t_X11_put tg C o X ((48 + ((l2 / l4) - (l2 / l4) / 10 * 10) : Int64).toInt32) M _ h) (fun Mz11 h => ?_)
    refine z_lload 1 69 dX11_putNumber_67 rfl rfl ?_
    refine z_ldc2 10 72 dX11_putNumber_69 oc_X11_284 rfl ?_
    refine z_ldiv (by decide) 73 dX11_putNumber_72 rfl ?_
    refine z_topl (fun vz12 hvz12 => ?_)
    replace h := h vz12 hvz12
    refine z_lstore [(4, .long vz12), (2, .long l2), (0, .ref 233)] 75 dX11_putNumber_73 (Nat.le_of_ble_eq_true rfl) rfl rfl ?_
    refine z_goto 43 dX11_putNumber_75 rfl ?_
    refine z_pick [(2, .long l2), (4, .long vz12), (0, .ref 233)] [1, 0, 2] rfl ?_
    exact hR9 l2 vz12 Mz11 h
theorem tw_X11_putNumber_43 (tg : Bool) (C : cS) (o : Nat → Int64) (X : List va_E) (Q : mS → Prop) (K78 : mS → Prop) (hK78 : ∀ (M : mS), K78 M → z_go q_X11_putNumber tg 78 [] [] (wz C M o X) 0 0 (zm_v C o X Q)) : ∀ (n : Nat) (l2 : Int64) (l4 : Int64) (M : mS), w_X11_putNumber_43 Q K78 n l2 l4 M → z_go q_X11_putNumber tg 43 [(2, .long l2), (4, .long l4), (0, .ref 233)] [] (wz C M o X) 0 0 (zm_v C o X Q) := by
  intro n
  induction n with
  | zero => intro l2 l4 M h; exact h.elim
  | succ n ih => intro l2 l4 M h; exact tb_X11_putNumber_43 tg C o X _ Q K78 ih hK78 l2 l4 M h
def p_X11_putNumber (a1 : Int32) (M : mS) (Q : mS → Prop) : Prop :=
  ∀ vz1 : Int64, vz1 = (a1 : Int32).toInt64 → ((0 ≤ (lg_cmp vz1 0) → ∃ nz15 : Nat, w_X11_putNumber_21 Q (fun lz6 lz7 Mz8 => ∃ nz14 : Nat, w_X11_putNumber_43 Q (fun Mz13 => Q Mz13) nz14 lz6 lz7 Mz8) nz15 vz1 1 M) ∧ (¬ 0 ≤ (lg_cmp vz1 0) → p_X11_put 45 M (fun Mz16 => ∀ vz17 : Int64, vz17 = -vz1 → ∃ nz23 : Nat, w_X11_putNumber_21 Q (fun lz18 lz19 Mz20 => ∃ nz22 : Nat, w_X11_putNumber_43 Q (fun Mz21 => Q Mz21) nz22 lz18 lz19 Mz20) nz23 vz17 1 Mz16)))
set_option maxRecDepth 100000 in
set_option maxHeartbeats 4000000 in
theorem t_X11_putNumber (tg : Bool) (C : cS) (o : Nat → Int64) (X : List va_E) (a1 : Int32) (M : mS) (Q : mS → Prop) (h : p_X11_putNumber a1 M Q) : z_M q_X11_putNumber tg [.ref 233, .int a1] (wz C M o X) (zm_v C o X Q) := by
  unfold p_X11_putNumber at h
  refine z_enter (by decide) (Nat.le_of_ble_eq_true rfl) ?_
  refine z_iload_n 1 1 dX11_putNumber_0 rfl rfl ?_
  refine z_i2l 2 dX11_putNumber_1 rfl ?_
  refine z_topl (fun vz1 hvz1 => ?_)
  replace h := h vz1 hvz1
  refine z_lstore_n [(2, .long vz1), (0, .ref 233), (1, .int a1)] 3 dX11_putNumber_2 (Nat.le_of_ble_eq_true rfl) rfl rfl ?_
  refine z_lload_n 0 4 dX11_putNumber_3 rfl rfl ?_
  refine z_lconst 0 5 dX11_putNumber_4 rfl rfl ?_
  refine z_lcmp 6 dX11_putNumber_5 rfl ?_
  refine z_if_ge 18 9 dX11_putNumber_6 rfl rfl (fun hcz2 => ?_) (fun hcz2 => ?_)
  · replace h := h.1 hcz2
    refine z_lconst 1 19 dX11_putNumber_18 rfl rfl ?_
    refine z_lstore [(4, .long 1), (2, .long vz1), (0, .ref 233), (1, .int a1)] 21 dX11_putNumber_19 (Nat.le_of_ble_eq_true rfl) rfl rfl ?_
    obtain ⟨nz15, h⟩ := h
    refine z_pick [(2, .long vz1), (4, .long 1), (0, .ref 233)] [1, 0, 2] rfl ?_
    refine tw_X11_putNumber_21 tg C o X Q _ (fun lz6 lz7 Mz8 h => ?_) nz15 vz1 1 M h
    · obtain ⟨nz14, h⟩ := h
      refine z_pick [(2, .long lz6), (4, .long lz7), (0, .ref 233)] [0, 1, 2] rfl ?_
      refine tw_X11_putNumber_43 tg C o X Q _ (fun Mz13 h => ?_) nz14 lz6 lz7 Mz8 h
      · exact z_vret dX11_putNumber_78 rfl ⟨Nat.le_refl _, Nat.le_refl _⟩ ⟨Mz13, rfl, rfl, h⟩
  · replace h := h.2 hcz2
    refine z_aload_n 1 10 dX11_putNumber_9 rfl rfl ?_
    refine z_bipush 45 12 dX11_putNumber_10 rfl rfl ?_
    refine z_mvV [.int 45] 15 dX11_putNumber_12 ok_X11_putNumber_364 rfl rfl (Nat.le_of_ble_eq_true rfl) rc_33 ⟨rfl, rfl⟩ ⟨Nat.le_refl _, Nat.le_refl _⟩ rfl (t_X11_put tg C o X 45 M _ h) (fun Mz16 h => ?_)
    refine z_lload_n 0 16 dX11_putNumber_15 rfl rfl ?_
    refine z_lneg 17 dX11_putNumber_16 rfl ?_
    refine z_topl (fun vz17 hvz17 => ?_)
    replace h := h vz17 hvz17
    refine z_lstore_n [(2, .long vz17), (0, .ref 233), (1, .int a1)] 18 dX11_putNumber_17 (Nat.le_of_ble_eq_true rfl) rfl rfl ?_
    refine z_lconst 1 19 dX11_putNumber_18 rfl rfl ?_
    refine z_lstore [(4, .long 1), (2, .long vz17), (0, .ref 233), (1, .int a1)] 21 dX11_putNumber_19 (Nat.le_of_ble_eq_true rfl) rfl rfl ?_
    obtain ⟨nz23, h⟩ := h
    refine z_pick [(2, .long vz17), (4, .long 1), (0, .ref 233)] [1, 0, 2] rfl ?_
    refine tw_X11_putNumber_21 tg C o X Q _ (fun lz18 lz19 Mz20 h => ?_) nz23 vz17 1 Mz16 h
    · obtain ⟨nz22, h⟩ := h
      refine z_pick [(2, .long lz18), (4, .long lz19), (0, .ref 233)] [0, 1, 2] rfl ?_
      refine tw_X11_putNumber_43 tg C o X Q _ (fun Mz21 h => ?_) nz22 lz18 lz19 Mz20 h
      · exact z_vret dX11_putNumber_78 rfl ⟨Nat.le_refl _, Nat.le_refl _⟩ ⟨Mz21, rfl, rfl, h⟩
def p_X11_putWord (a1 : Int32) (a2 : Int32) (M : mS) (Q : mS → Prop) : Prop :=
  p_X11_meet a1 a2 M (fun Mz1 => ((¬ a1 = 0 → ((¬ a1 = 1 → p_X11_put 35 Mz1 (fun Mz4 => vp_in a2 1300 ∧ p_X11_putNumber ((m_a Mz4 28) a2.toNatClampNeg) Mz4 (fun Mz6 => Q Mz6))) ∧ (a1 = 1 → p_X11_put 46 Mz1 (fun Mz7 => Q Mz7)))) ∧ (a1 = 0 → p_X11_putNumber a2 Mz1 (fun Mz8 => Q Mz8))))
set_option maxRecDepth 100000 in
set_option maxHeartbeats 4000000 in
theorem t_X11_putWord (tg : Bool) (C : cS) (o : Nat → Int64) (X : List va_E) (a1 : Int32) (a2 : Int32) (M : mS) (Q : mS → Prop) (h : p_X11_putWord a1 a2 M Q) : z_M q_X11_putWord tg [.ref 233, .int a1, .int a2] (wz C M o X) (zm_v C o X Q) := by
  unfold p_X11_putWord at h
  refine z_enter (by decide) (Nat.le_of_ble_eq_true rfl) ?_
  refine z_aload_n 0 1 dX11_putWord_0 rfl rfl ?_
  refine z_iload_n 1 2 dX11_putWord_1 rfl rfl ?_
  refine z_iload_n 2 3 dX11_putWord_2 rfl rfl ?_
  refine z_mvV [.int a1, .int a2] 6 dX11_putWord_3 ok_X11_putWord_358 rfl rfl (Nat.le_of_ble_eq_true rfl) rc_33 ⟨rfl, rfl⟩ ⟨Nat.le_refl _, Nat.le_refl _⟩ rfl (t_X11_meet tg C o X a1 a2 M _ h) (fun Mz1 h => ?_)
  refine z_iload_n 1 7 dX11_putWord_6 rfl rfl ?_
  refine z_if_ne 18 10 dX11_putWord_7 rfl rfl (fun hcz2 => ?_) (fun hcz2 => ?_)
  · replace h := h.1 hcz2
    refine z_iload_n 1 19 dX11_putWord_18 rfl rfl ?_
    refine z_iconst 1 20 dX11_putWord_19 rfl rfl ?_
    refine z_icmp_ne 32 23 dX11_putWord_20 rfl rfl (fun hcz3 => ?_) (fun hcz3 => ?_)
    · replace h := h.1 hcz3
      refine z_aload_n 0 33 dX11_putWord_32 rfl rfl ?_
      refine z_bipush 35 35 dX11_putWord_33 rfl rfl ?_
      refine z_mvV [.int 35] 38 dX11_putWord_35 ok_X11_putWord_364 rfl rfl (Nat.le_of_ble_eq_true rfl) rc_33 ⟨rfl, rfl⟩ ⟨Nat.le_refl _, Nat.le_refl _⟩ rfl (t_X11_put tg C o X 35 Mz1 _ h) (fun Mz4 h => ?_)
      refine z_aload_n 0 39 dX11_putWord_38 rfl rfl ?_
      refine z_aload_n 0 40 dX11_putWord_39 rfl rfl ?_
      refine gr_33_66 43 dX11_putWord_40 of_X11_113 rfl ?_
      refine z_iload_n 2 44 dX11_putWord_43 rfl rfl ?_
      obtain ⟨hbz5, h⟩ := h
      refine gma_28 ((m_a Mz4 28) a2.toNatClampNeg) 45 dX11_putWord_44 hbz5 rfl rfl ?_
      refine z_mvV [.int ((m_a Mz4 28) a2.toNatClampNeg)] 48 dX11_putWord_45 ok_X11_putWord_369 rfl rfl (Nat.le_of_ble_eq_true rfl) rc_33 ⟨rfl, rfl⟩ ⟨Nat.le_refl _, Nat.le_refl _⟩ rfl (t_X11_putNumber tg C o X ((m_a Mz4 28) a2.toNatClampNeg) Mz4 _ h) (fun Mz6 h => ?_)
      exact z_vret dX11_putWord_48 rfl ⟨Nat.le_refl _, Nat.le_refl _⟩ ⟨Mz6, rfl, rfl, h⟩
    · replace h := h.2 hcz3
      refine z_aload_n 0 24 dX11_putWord_23 rfl rfl ?_
      refine z_bipush 46 26 dX11_putWord_24 rfl rfl ?_
      refine z_mvV [.int 46] 29 dX11_putWord_26 ok_X11_putWord_364 rfl rfl (Nat.le_of_ble_eq_true rfl) rc_33 ⟨rfl, rfl⟩ ⟨Nat.le_refl _, Nat.le_refl _⟩ rfl (t_X11_put tg C o X 46 Mz1 _ h) (fun Mz7 h => ?_)
      refine z_goto 48 dX11_putWord_29 rfl ?_
      exact z_vret dX11_putWord_48 rfl ⟨Nat.le_refl _, Nat.le_refl _⟩ ⟨Mz7, rfl, rfl, h⟩
  · replace h := h.2 hcz2
    refine z_aload_n 0 11 dX11_putWord_10 rfl rfl ?_
    refine z_iload_n 2 12 dX11_putWord_11 rfl rfl ?_
    refine z_mvV [.int a2] 15 dX11_putWord_12 ok_X11_putWord_369 rfl rfl (Nat.le_of_ble_eq_true rfl) rc_33 ⟨rfl, rfl⟩ ⟨Nat.le_refl _, Nat.le_refl _⟩ rfl (t_X11_putNumber tg C o X a2 Mz1 _ h) (fun Mz8 h => ?_)
    refine z_goto 48 dX11_putWord_15 rfl ?_
    exact z_vret dX11_putWord_48 rfl ⟨Nat.le_refl _, Nat.le_refl _⟩ ⟨Mz8, rfl, rfl, h⟩
def j_X11_show_110 (Q : Int32 → mS → Prop) (R9 : Int32 → Int32 → Int32 → mS → Prop) (K144 : Int32 → Int32 → mS → Prop) (l2 : Int32) (l3 : Int32) (l4 : Int32) (M : mS) : Prop :=
  vp_in ((40 * l3) + l4) 52000 ∧ p_X11_putWord ((m_a M 4) ((40 * l3) + l4).toNatClampNeg) ((m_a M 5) ((40 * l3) + l4).toNatClampNeg) M (fun Mz17 => ∀ vz18 : Int32, vz18 = l4 + 1 → R9 l2 l3 vz18 Mz17)
set_option maxRecDepth 100000 in
set_option maxHeartbeats 4000000 in
theorem tj_X11_show_110 (tg : Bool) (C : cS) (o : Nat → Int64) (X : List va_E) (Q : Int32 → mS → Prop) (R9 : Int32 → Int32 → Int32 → mS → Prop) (K144 : Int32 → Int32 → mS → Prop) (hR9 : ∀ (l2 : Int32) (l3 : Int32) (l4 : Int32) (M : mS), R9 l2 l3 l4 M → z_go q_X11_show tg 88 [(2, .int l2), (3, .int l3), (4, .int l4), (0, .ref 233)] [] (wz C M o X) 0 0 (zm_i C o X Q)) (hK144 : ∀ (l2 : Int32) (l3 : Int32) (M : mS), K144 l2 l3 M → z_go q_X11_show tg 144 [(2, .int l2), (3, .int l3), (0, .ref 233)] [] (wz C M o X) 0 0 (zm_i C o X Q)) (l2 : Int32) (l3 : Int32) (l4 : Int32) (M : mS) (h : j_X11_show_110 Q R9 K144 l2 l3 l4 M) : z_go q_X11_show tg 110 [(2, .int l2), (3, .int l3), (4, .int l4), (0, .ref 233)] [] (wz C M o X) 0 0 (zm_i C o X Q) := by
  unfold j_X11_show_110 at h
  refine z_aload_n 3 111 dX11_show_110 rfl rfl ?_
  refine z_aload_n 3 112 dX11_show_111 rfl rfl ?_
  refine gr_33_7 115 dX11_show_112 of_X11_24 rfl ?_
  refine z_bipush 40 117 dX11_show_115 rfl rfl ?_
  refine z_iload_n 1 118 dX11_show_117 rfl rfl ?_
  refine z_imul 119 dX11_show_118 rfl ?_
  refine z_iload 2 121 dX11_show_119 rfl rfl ?_
  refine z_iadd 122 dX11_show_121 rfl ?_
  obtain ⟨hbz16, h⟩ := h
  refine gma_4 ((m_a M 4) ((40 * l3) + l4).toNatClampNeg) 123 dX11_show_122 hbz16 rfl rfl ?_
  refine z_aload_n 3 124 dX11_show_123 rfl rfl ?_
  refine gr_33_8 127 dX11_show_124 of_X11_27 rfl ?_
  refine z_bipush 40 129 dX11_show_127 rfl rfl ?_
  refine z_iload_n 1 130 dX11_show_129 rfl rfl ?_
  refine z_imul 131 dX11_show_130 rfl ?_
  refine z_iload 2 133 dX11_show_131 rfl rfl ?_
  refine z_iadd 134 dX11_show_133 rfl ?_
  refine gma_5 ((m_a M 5) ((40 * l3) + l4).toNatClampNeg) 135 dX11_show_134 hbz16 rfl rfl ?_
  refine z_mvV [.int ((m_a M 4) ((40 * l3) + l4).toNatClampNeg), .int ((m_a M 5) ((40 * l3) + l4).toNatClampNeg)] 138 dX11_show_135 ok_X11_show_372 rfl rfl (Nat.le_of_ble_eq_true rfl) rc_33 ⟨rfl, rfl⟩ ⟨Nat.le_refl _, Nat.le_refl _⟩ rfl (t_X11_putWord tg C o X ((m_a M 4) ((40 * l3) + l4).toNatClampNeg) ((m_a M 5) ((40 * l3) + l4).toNatClampNeg) M _ h) (fun Mz17 h => ?_)
  obtain ⟨vz18, hvz18⟩ : ∃ v : Int32, v = l4 + 1 := ⟨_, rfl⟩
  replace h := h vz18 hvz18
  refine z_iinc vz18 [(4, .int vz18), (2, .int l2), (3, .int l3), (0, .ref 233)] 2 141 dX11_show_138 rfl hvz18.symm (Nat.le_of_ble_eq_true rfl) rfl rfl ?_
  refine z_goto 88 dX11_show_141 rfl ?_
  refine z_pick [(2, .int l2), (3, .int l3), (4, .int vz18), (0, .ref 233)] [1, 2, 0, 3] rfl ?_
  exact hR9 l2 l3 vz18 Mz17 h
def b_X11_show_88 (R9 : Int32 → Int32 → Int32 → mS → Prop) (Q : Int32 → mS → Prop) (K144 : Int32 → Int32 → mS → Prop) (l2 : Int32) (l3 : Int32) (l4 : Int32) (M : mS) : Prop :=
  vp_in l3 1300 ∧ ((((m_a M 1) l3.toNatClampNeg) ≤ l4 → K144 l2 l3 M) ∧ (¬ ((m_a M 1) l3.toNatClampNeg) ≤ l4 → ((l4 ≤ 0 → j_X11_show_110 Q R9 K144 l2 l3 l4 M) ∧ (¬ l4 ≤ 0 → p_X11_put 32 M (fun Mz19 => j_X11_show_110 Q R9 K144 l2 l3 l4 Mz19)))))
def w_X11_show_88 (Q : Int32 → mS → Prop) (K144 : Int32 → Int32 → mS → Prop) : Nat → Int32 → Int32 → Int32 → mS → Prop
 | 0 => fun _ _ _ _ => False
 | n + 1 => fun l2 l3 l4 M => b_X11_show_88 (w_X11_show_88 Q K144 n) Q K144 l2 l3 l4 M
set_option maxRecDepth 100000 in
set_option maxHeartbeats 4000000 in
theorem tb_X11_show_88 (tg : Bool) (C : cS) (o : Nat → Int64) (X : List va_E) (R9 : Int32 → Int32 → Int32 → mS → Prop) (Q : Int32 → mS → Prop) (K144 : Int32 → Int32 → mS → Prop) (hR9 : ∀ (l2 : Int32) (l3 : Int32) (l4 : Int32) (M : mS), R9 l2 l3 l4 M → z_go q_X11_show tg 88 [(2, .int l2), (3, .int l3), (4, .int l4), (0, .ref 233)] [] (wz C M o X) 0 0 (zm_i C o X Q)) (hK144 : ∀ (l2 : Int32) (l3 : Int32) (M : mS), K144 l2 l3 M → z_go q_X11_show tg 144 [(2, .int l2), (3, .int l3), (0, .ref 233)] [] (wz C M o X) 0 0 (zm_i C o X Q)) (l2 : Int32) (l3 : Int32) (l4 : Int32) (M : mS) (h : b_X11_show_88 R9 Q K144 l2 l3 l4 M) : z_go q_X11_show tg 88 [(2, .int l2), (3, .int l3), (4, .int l4), (0, .ref 233)] [] (wz C M o X) 0 0 (zm_i C o X Q) := by
  unfold b_X11_show_88 at h
  refine z_iload 2 90 dX11_show_88 rfl rfl ?_
  refine z_aload_n 3 91 dX11_show_90 rfl rfl ?_
  refine gr_33_4 94 dX11_show_91 of_X11_13 rfl ?_
  refine z_iload_n 1 95 dX11_show_94 rfl rfl ?_
  obtain ⟨hbz13, h⟩ := h
  refine gma_1 ((m_a M 1) l3.toNatClampNeg) 96 dX11_show_95 hbz13 rfl rfl ?_
  refine z_icmp_ge 144 99 dX11_show_96 rfl rfl (fun hcz14 => ?_) (fun hcz14 => ?_)
  · replace h := h.1 hcz14
    refine z_pick [(2, .int l2), (3, .int l3), (0, .ref 233)] [0, 1, 3] rfl ?_
    exact hK144 l2 l3 M h
  · replace h := h.2 hcz14
    refine z_iload 2 101 dX11_show_99 rfl rfl ?_
    refine z_if_le 110 104 dX11_show_101 rfl rfl (fun hcz15 => ?_) (fun hcz15 => ?_)
    · replace h := h.1 hcz15
      refine z_pick [(2, .int l2), (3, .int l3), (4, .int l4), (0, .ref 233)] [0, 1, 2, 3] rfl ?_
      exact tj_X11_show_110 tg C o X Q R9 K144 hR9 hK144 l2 l3 l4 M h
    · replace h := h.2 hcz15
      refine z_aload_n 3 105 dX11_show_104 rfl rfl ?_
      refine z_bipush 32 107 dX11_show_105 rfl rfl ?_
      refine z_mvV [.int 32] 110 dX11_show_107 ok_X11_show_364 rfl rfl (Nat.le_of_ble_eq_true rfl) rc_33 ⟨rfl, rfl⟩ ⟨Nat.le_refl _, Nat.le_refl _⟩ rfl (t_X11_put tg C o X 32 M _ h) (fun Mz19 h => ?_)
      refine z_pick [(2, .int l2), (3, .int l3), (4, .int l4), (0, .ref 233)] [0, 1, 2, 3] rfl ?_
      exact tj_X11_show_110 tg C o X Q R9 K144 hR9 hK144 l2 l3 l4 Mz19 h
theorem tw_X11_show_88 (tg : Bool) (C : cS) (o : Nat → Int64) (X : List va_E) (Q : Int32 → mS → Prop) (K144 : Int32 → Int32 → mS → Prop) (hK144 : ∀ (l2 : Int32) (l3 : Int32) (M : mS), K144 l2 l3 M → z_go q_X11_show tg 144 [(2, .int l2), (3, .int l3), (0, .ref 233)] [] (wz C M o X) 0 0 (zm_i C o X Q)) : ∀ (n : Nat) (l2 : Int32) (l3 : Int32) (l4 : Int32) (M : mS), w_X11_show_88 Q K144 n l2 l3 l4 M → z_go q_X11_show tg 88 [(2, .int l2), (3, .int l3), (4, .int l4), (0, .ref 233)] [] (wz C M o X) 0 0 (zm_i C o X Q) := by
  intro n
  induction n with
  | zero => intro l2 l3 l4 M h; exact h.elim
  | succ n ih => intro l2 l3 l4 M h; exact tb_X11_show_88 tg C o X _ Q K144 ih hK144 l2 l3 l4 M h
def b_X11_show_44 (R9 : Int32 → mS → Prop) (Q : Int32 → mS → Prop) (K170 : mS → Prop) (l2 : Int32) (M : mS) : Prop :=
  (((m_i M 34) ≤ l2 → K170 M) ∧ (¬ (m_i M 34) ≤ l2 → vp_in l2 1300 ∧ ∀ vz8 : Int32, vz8 = (m_a M 27) l2.toNatClampNeg → p_X11_put 32 M (fun Mz9 => vp_in vz8 1300 ∧ ((((m_a Mz9 0) vz8.toNatClampNeg) = 0 → p_X11_put 123 Mz9 (fun Mz12 => ∃ nz29 : Nat, w_X11_show_88 Q (fun lz20 lz21 Mz22 => vp_in lz21 1300 ∧ ((((m_a Mz22 0) lz21.toNatClampNeg) = 0 → p_X11_put 125 Mz22 (fun Mz25 => ∀ vz26 : Int32, vz26 = lz20 + 1 → R9 vz26 Mz25)) ∧ (¬ ((m_a Mz22 0) lz21.toNatClampNeg) = 0 → p_X11_put 93 Mz22 (fun Mz27 => ∀ vz28 : Int32, vz28 = lz20 + 1 → R9 vz28 Mz27)))) nz29 l2 vz8 0 Mz12)) ∧ (¬ ((m_a Mz9 0) vz8.toNatClampNeg) = 0 → p_X11_put 91 Mz9 (fun Mz30 => ∃ nz40 : Nat, w_X11_show_88 Q (fun lz31 lz32 Mz33 => vp_in lz32 1300 ∧ ((((m_a Mz33 0) lz32.toNatClampNeg) = 0 → p_X11_put 125 Mz33 (fun Mz36 => ∀ vz37 : Int32, vz37 = lz31 + 1 → R9 vz37 Mz36)) ∧ (¬ ((m_a Mz33 0) lz32.toNatClampNeg) = 0 → p_X11_put 93 Mz33 (fun Mz38 => ∀ vz39 : Int32, vz39 = lz31 + 1 → R9 vz39 Mz38)))) nz40 l2 vz8 0 Mz30))))))
def w_X11_show_44 (Q : Int32 → mS → Prop) (K170 : mS → Prop) : Nat → Int32 → mS → Prop
 | 0 => fun _ _ => False
 | n + 1 => fun l2 M => b_X11_show_44 (w_X11_show_44 Q K170 n) Q K170 l2 M
set_option maxRecDepth 100000 in
set_option maxHeartbeats 4000000 in
theorem tb_X11_show_44 (tg : Bool) (C : cS) (o : Nat → Int64) (X : List va_E) (R9 : Int32 → mS → Prop) (Q : Int32 → mS → Prop) (K170 : mS → Prop) (hR9 : ∀ (l2 : Int32) (M : mS), R9 l2 M → z_go q_X11_show tg 44 [(2, .int l2), (0, .ref 233)] [] (wz C M o X) 0 0 (zm_i C o X Q)) (hK170 : ∀ (M : mS), K170 M → z_go q_X11_show tg 170 [(0, .ref 233)] [] (wz C M o X) 0 0 (zm_i C o X Q)) (l2 : Int32) (M : mS) (h : b_X11_show_44 R9 Q K170 l2 M) : z_go q_X11_show tg 44 [(2, .int l2), (0, .ref 233)] [] (wz C M o X) 0 0 (zm_i C o X Q) := by
  unfold b_X11_show_44 at h
  refine z_iload_n 0 45 dX11_show_44 rfl rfl ?_
  refine z_aload_n 1 46 dX11_show_45 rfl rfl ?_
  refine gmi_34 (m_i M 34) 49 dX11_show_46 of_X11_352 rfl rfl ?_
  refine z_icmp_ge 170 52 dX11_show_49 rfl rfl (fun hcz6 => ?_) (fun hcz6 => ?_)
  · replace h := h.1 hcz6
    refine z_pick [(0, .ref 233)] [1] rfl ?_
    exact hK170  M h
  · replace h := h.2 hcz6
    refine z_aload_n 1 53 dX11_show_52 rfl rfl ?_
    refine gr_33_65 56 dX11_show_53 of_X11_110 rfl ?_
    refine z_iload_n 0 57 dX11_show_56 rfl rfl ?_
    obtain ⟨hbz7, h⟩ := h
    refine gma_27 ((m_a M 27) l2.toNatClampNeg) 58 dX11_show_57 hbz7 rfl rfl ?_
    refine z_topi (fun vz8 hvz8 => ?_)
    replace h := h vz8 hvz8
    refine z_istore_n [(3, .int vz8), (2, .int l2), (0, .ref 233)] 59 dX11_show_58 (Nat.le_of_ble_eq_true rfl) rfl rfl ?_
    refine z_aload_n 2 60 dX11_show_59 rfl rfl ?_
    refine z_bipush 32 62 dX11_show_60 rfl rfl ?_
    refine z_mvV [.int 32] 65 dX11_show_62 ok_X11_show_364 rfl rfl (Nat.le_of_ble_eq_true rfl) rc_33 ⟨rfl, rfl⟩ ⟨Nat.le_refl _, Nat.le_refl _⟩ rfl (t_X11_put tg C o X 32 M _ h) (fun Mz9 h => ?_)
    refine z_aload_n 2 66 dX11_show_65 rfl rfl ?_
    refine z_aload_n 2 67 dX11_show_66 rfl rfl ?_
    refine gr_33_3 70 dX11_show_67 of_X11_9 rfl ?_
    refine z_iload_n 0 71 dX11_show_70 rfl rfl ?_
    obtain ⟨hbz10, h⟩ := h
    refine gma_0 ((m_a Mz9 0) vz8.toNatClampNeg) 72 dX11_show_71 hbz10 rfl rfl ?_
    refine z_if_eq 80 75 dX11_show_72 rfl rfl (fun hcz11 => ?_) (fun hcz11 => ?_)
    · replace h := h.1 hcz11
      refine z_bipush 123 82 dX11_show_80 rfl rfl ?_
      refine z_mvV [.int 123] 85 dX11_show_82 ok_X11_show_364 rfl rfl (Nat.le_of_ble_eq_true rfl) rc_33 ⟨rfl, rfl⟩ ⟨Nat.le_refl _, Nat.le_refl _⟩ rfl (t_X11_put tg C o X 123 Mz9 _ h) (fun Mz12 h => ?_)
      refine z_iconst 0 86 dX11_show_85 rfl rfl ?_
      refine z_istore [(4, .int 0), (3, .int vz8), (2, .int l2), (0, .ref 233)] 88 dX11_show_86 (Nat.le_of_ble_eq_true rfl) rfl rfl ?_
      obtain ⟨nz29, h⟩ := h
      refine z_pick [(2, .int l2), (3, .int vz8), (4, .int 0), (0, .ref 233)] [2, 1, 0, 3] rfl ?_
      refine tw_X11_show_88 tg C o X Q _ (fun lz20 lz21 Mz22 h => ?_) nz29 l2 vz8 0 Mz12 h
      · refine z_aload_n 2 145 dX11_show_144 rfl rfl ?_
        refine z_aload_n 2 146 dX11_show_145 rfl rfl ?_
        refine gr_33_3 149 dX11_show_146 of_X11_9 rfl ?_
        refine z_iload_n 1 150 dX11_show_149 rfl rfl ?_
        obtain ⟨hbz23, h⟩ := h
        refine gma_0 ((m_a Mz22 0) lz21.toNatClampNeg) 151 dX11_show_150 hbz23 rfl rfl ?_
        refine z_if_eq 159 154 dX11_show_151 rfl rfl (fun hcz24 => ?_) (fun hcz24 => ?_)
        · replace h := h.1 hcz24
          refine z_bipush 125 161 dX11_show_159 rfl rfl ?_
          refine z_mvV [.int 125] 164 dX11_show_161 ok_X11_show_364 rfl rfl (Nat.le_of_ble_eq_true rfl) rc_33 ⟨rfl, rfl⟩ ⟨Nat.le_refl _, Nat.le_refl _⟩ rfl (t_X11_put tg C o X 125 Mz22 _ h) (fun Mz25 h => ?_)
          obtain ⟨vz26, hvz26⟩ : ∃ v : Int32, v = lz20 + 1 := ⟨_, rfl⟩
          replace h := h vz26 hvz26
          refine z_iinc vz26 [(2, .int vz26), (3, .int lz21), (0, .ref 233)] 0 167 dX11_show_164 rfl hvz26.symm (Nat.le_of_ble_eq_true rfl) rfl rfl ?_
          refine z_goto 44 dX11_show_167 rfl ?_
          refine z_pick [(2, .int vz26), (0, .ref 233)] [0, 2] rfl ?_
          exact hR9 vz26 Mz25 h
        · replace h := h.2 hcz24
          refine z_bipush 93 156 dX11_show_154 rfl rfl ?_
          refine z_goto 161 dX11_show_156 rfl ?_
          refine z_mvV [.int 93] 164 dX11_show_161 ok_X11_show_364 rfl rfl (Nat.le_of_ble_eq_true rfl) rc_33 ⟨rfl, rfl⟩ ⟨Nat.le_refl _, Nat.le_refl _⟩ rfl (t_X11_put tg C o X 93 Mz22 _ h) (fun Mz27 h => ?_)
          obtain ⟨vz28, hvz28⟩ : ∃ v : Int32, v = lz20 + 1 := ⟨_, rfl⟩
          replace h := h vz28 hvz28
          refine z_iinc vz28 [(2, .int vz28), (3, .int lz21), (0, .ref 233)] 0 167 dX11_show_164 rfl hvz28.symm (Nat.le_of_ble_eq_true rfl) rfl rfl ?_
          refine z_goto 44 dX11_show_167 rfl ?_
          refine z_pick [(2, .int vz28), (0, .ref 233)] [0, 2] rfl ?_
          exact hR9 vz28 Mz27 h
    · replace h := h.2 hcz11
      refine z_bipush 91 77 dX11_show_75 rfl rfl ?_
      refine z_goto 82 dX11_show_77 rfl ?_
      refine z_mvV [.int 91] 85 dX11_show_82 ok_X11_show_364 rfl rfl (Nat.le_of_ble_eq_true rfl) rc_33 ⟨rfl, rfl⟩ ⟨Nat.le_refl _, Nat.le_refl _⟩ rfl (t_X11_put tg C o X 91 Mz9 _ h) (fun Mz30 h => ?_)
      refine z_iconst 0 86 dX11_show_85 rfl rfl ?_
      refine z_istore [(4, .int 0), (3, .int vz8), (2, .int l2), (0, .ref 233)] 88 dX11_show_86 (Nat.le_of_ble_eq_true rfl) rfl rfl ?_
      obtain ⟨nz40, h⟩ := h
      refine z_pick [(2, .int l2), (3, .int vz8), (4, .int 0), (0, .ref 233)] [2, 1, 0, 3] rfl ?_
      refine tw_X11_show_88 tg C o X Q _ (fun lz31 lz32 Mz33 h => ?_) nz40 l2 vz8 0 Mz30 h
      · refine z_aload_n 2 145 dX11_show_144 rfl rfl ?_
        refine z_aload_n 2 146 dX11_show_145 rfl rfl ?_
        refine gr_33_3 149 dX11_show_146 of_X11_9 rfl ?_
        refine z_iload_n 1 150 dX11_show_149 rfl rfl ?_
        obtain ⟨hbz34, h⟩ := h
        refine gma_0 ((m_a Mz33 0) lz32.toNatClampNeg) 151 dX11_show_150 hbz34 rfl rfl ?_
        refine z_if_eq 159 154 dX11_show_151 rfl rfl (fun hcz35 => ?_) (fun hcz35 => ?_)
        · replace h := h.1 hcz35
          refine z_bipush 125 161 dX11_show_159 rfl rfl ?_
          refine z_mvV [.int 125] 164 dX11_show_161 ok_X11_show_364 rfl rfl (Nat.le_of_ble_eq_true rfl) rc_33 ⟨rfl, rfl⟩ ⟨Nat.le_refl _, Nat.le_refl _⟩ rfl (t_X11_put tg C o X 125 Mz33 _ h) (fun Mz36 h => ?_)
          obtain ⟨vz37, hvz37⟩ : ∃ v : Int32, v = lz31 + 1 := ⟨_, rfl⟩
          replace h := h vz37 hvz37
          refine z_iinc vz37 [(2, .int vz37), (3, .int lz32), (0, .ref 233)] 0 167 dX11_show_164 rfl hvz37.symm (Nat.le_of_ble_eq_true rfl) rfl rfl ?_
          refine z_goto 44 dX11_show_167 rfl ?_
          refine z_pick [(2, .int vz37), (0, .ref 233)] [0, 2] rfl ?_
          exact hR9 vz37 Mz36 h
        · replace h := h.2 hcz35
          refine z_bipush 93 156 dX11_show_154 rfl rfl ?_
          refine z_goto 161 dX11_show_156 rfl ?_
          refine z_mvV [.int 93] 164 dX11_show_161 ok_X11_show_364 rfl rfl (Nat.le_of_ble_eq_true rfl) rc_33 ⟨rfl, rfl⟩ ⟨Nat.le_refl _, Nat.le_refl _⟩ rfl (t_X11_put tg C o X 93 Mz33 _ h) (fun Mz38 h => ?_)
          obtain ⟨vz39, hvz39⟩ : ∃ v : Int32, v = lz31 + 1 := ⟨_, rfl⟩
          replace h := h vz39 hvz39
          refine z_iinc vz39 [(2, .int vz39), (3, .int lz32), (0, .ref 233)] 0 167 dX11_show_164 rfl hvz39.symm (Nat.le_of_ble_eq_true rfl) rfl rfl ?_
          refine z_goto 44 dX11_show_167 rfl ?_
          refine z_pick [(2, .int vz39), (0, .ref 233)] [0, 2] rfl ?_
          exact hR9 vz39 Mz38 h
theorem tw_X11_show_44 (tg : Bool) (C : cS) (o : Nat → Int64) (X : List va_E) (Q : Int32 → mS → Prop) (K170 : mS → Prop) (hK170 : ∀ (M : mS), K170 M → z_go q_X11_show tg 170 [(0, .ref 233)] [] (wz C M o X) 0 0 (zm_i C o X Q)) : ∀ (n : Nat) (l2 : Int32) (M : mS), w_X11_show_44 Q K170 n l2 M → z_go q_X11_show tg 44 [(2, .int l2), (0, .ref 233)] [] (wz C M o X) 0 0 (zm_i C o X Q) := by
  intro n
  induction n with
  | zero => intro l2 M h; exact h.elim
  | succ n ih => intro l2 M h; exact tb_X11_show_44 tg C o X _ Q K170 ih hK170 l2 M h
def p_X11_show (a1 : Int32) (M : mS) (Q : Int32 → mS → Prop) : Prop :=
  ((a1 < 0 → Q (-1) (m_iS M 2 0)) ∧ (¬ a1 < 0 → ((a1 ≤ 7 → p_X11_forget (m_iS (m_iS M 2 0) 35 0) (fun Mz3 => vp_in a1 58 ∧ p_X11_putWord ((m_a Mz3 6) a1.toNatClampNeg) ((m_a Mz3 7) a1.toNatClampNeg) Mz3 (fun Mz5 => ∃ nz42 : Nat, w_X11_show_44 Q (fun Mz41 => Q (m_i Mz41 35) Mz41) nz42 0 Mz5))) ∧ (¬ a1 ≤ 7 → Q (-1) (m_iS M 2 0)))))
set_option maxRecDepth 100000 in
set_option maxHeartbeats 4000000 in
theorem t_X11_show (tg : Bool) (C : cS) (o : Nat → Int64) (X : List va_E) (a1 : Int32) (M : mS) (Q : Int32 → mS → Prop) (h : p_X11_show a1 M Q) : z_M q_X11_show tg [.ref 233, .int a1] (wz C M o X) (zm_i C o X Q) := by
  unfold p_X11_show at h
  refine z_enter (by decide) (Nat.le_of_ble_eq_true rfl) ?_
  refine z_aload_n 0 1 dX11_show_0 rfl rfl ?_
  refine z_iconst 0 2 dX11_show_1 rfl rfl ?_
  refine pmi_2 5 dX11_show_2 op_X11_131 rfl ?_
  refine z_iload_n 1 6 dX11_show_5 rfl rfl ?_
  refine z_if_lt 15 9 dX11_show_6 rfl rfl (fun hcz1 => ?_) (fun hcz1 => ?_)
  · replace h := h.1 hcz1
    refine z_iconst (-1) 16 dX11_show_15 rfl rfl ?_
    exact z_iret dX11_show_16 rfl ⟨Nat.le_refl _, Nat.le_refl _⟩ ⟨(-1), (m_iS M 2 0), rfl, rfl, h⟩
  · replace h := h.2 hcz1
    refine z_iload_n 1 10 dX11_show_9 rfl rfl ?_
    refine z_bipush 7 12 dX11_show_10 rfl rfl ?_
    refine z_icmp_le 17 15 dX11_show_12 rfl rfl (fun hcz2 => ?_) (fun hcz2 => ?_)
    · replace h := h.1 hcz2
      refine z_aload_n 0 18 dX11_show_17 rfl rfl ?_
      refine z_iconst 0 19 dX11_show_18 rfl rfl ?_
      refine pmi_35 22 dX11_show_19 op_X11_361 rfl ?_
      refine z_aload_n 0 23 dX11_show_22 rfl rfl ?_
      refine z_mvV [] 26 dX11_show_23 ok_X11_show_355 rfl rfl (Nat.le_of_ble_eq_true rfl) rc_33 ⟨rfl, rfl⟩ ⟨Nat.le_refl _, Nat.le_refl _⟩ rfl (t_X11_forget tg C o X  (m_iS (m_iS M 2 0) 35 0) _ h) (fun Mz3 h => ?_)
      refine z_aload_n 0 27 dX11_show_26 rfl rfl ?_
      refine z_aload_n 0 28 dX11_show_27 rfl rfl ?_
      refine gr_33_9 31 dX11_show_28 of_X11_30 rfl ?_
      refine z_iload_n 1 32 dX11_show_31 rfl rfl ?_
      obtain ⟨hbz4, h⟩ := h
      refine gma_6 ((m_a Mz3 6) a1.toNatClampNeg) 33 dX11_show_32 hbz4 rfl rfl ?_
      refine z_aload_n 0 34 dX11_show_33 rfl rfl ?_
      refine gr_33_10 37 dX11_show_34 of_X11_33 rfl ?_
      refine z_iload_n 1 38 dX11_show_37 rfl rfl ?_
      refine gma_7 ((m_a Mz3 7) a1.toNatClampNeg) 39 dX11_show_38 hbz4 rfl rfl ?_
      refine z_mvV [.int ((m_a Mz3 6) a1.toNatClampNeg), .int ((m_a Mz3 7) a1.toNatClampNeg)] 42 dX11_show_39 ok_X11_show_372 rfl rfl (Nat.le_of_ble_eq_true rfl) rc_33 ⟨rfl, rfl⟩ ⟨Nat.le_refl _, Nat.le_refl _⟩ rfl (t_X11_putWord tg C o X ((m_a Mz3 6) a1.toNatClampNeg) ((m_a Mz3 7) a1.toNatClampNeg) Mz3 _ h) (fun Mz5 h => ?_)
      refine z_iconst 0 43 dX11_show_42 rfl rfl ?_
      refine z_istore_n [(2, .int 0), (0, .ref 233), (1, .int a1)] 44 dX11_show_43 (Nat.le_of_ble_eq_true rfl) rfl rfl ?_
      obtain ⟨nz42, h⟩ := h
      refine z_pick [(2, .int 0), (0, .ref 233)] [0, 1] rfl ?_
      refine tw_X11_show_44 tg C o X Q _ (fun Mz41 h => ?_) nz42 0 Mz5 h
      · refine z_aload_n 0 171 dX11_show_170 rfl rfl ?_
        refine gmi_35 (m_i Mz41 35) 174 dX11_show_171 of_X11_361 rfl rfl ?_
        exact z_iret dX11_show_174 rfl ⟨Nat.le_refl _, Nat.le_refl _⟩ ⟨m_i Mz41 35, Mz41, rfl, rfl, h⟩
    · replace h := h.2 hcz2
      refine z_iconst (-1) 16 dX11_show_15 rfl rfl ?_
      exact z_iret dX11_show_16 rfl ⟨Nat.le_refl _, Nat.le_refl _⟩ ⟨(-1), (m_iS M 2 0), rfl, rfl, h⟩
def p_X11_letter (a1 : Int32) (M : mS) (Q : Int32 → mS → Prop) : Prop :=
  ((a1 < 0 → Q (-1) (m_iS M 2 0)) ∧ (¬ a1 < 0 → ((a1 < (m_i M 35) → vp_in a1 600 ∧ Q ((m_a M 29) a1.toNatClampNeg) (m_iS M 2 0)) ∧ (¬ a1 < (m_i M 35) → Q (-1) (m_iS M 2 0)))))
set_option maxRecDepth 100000 in
set_option maxHeartbeats 4000000 in
theorem t_X11_letter (tg : Bool) (C : cS) (o : Nat → Int64) (X : List va_E) (a1 : Int32) (M : mS) (Q : Int32 → mS → Prop) (h : p_X11_letter a1 M Q) : z_M q_X11_letter tg [.ref 233, .int a1] (wz C M o X) (zm_i C o X Q) := by
  unfold p_X11_letter at h
  refine z_enter (by decide) (Nat.le_of_ble_eq_true rfl) ?_
  refine z_aload_n 0 1 dX11_letter_0 rfl rfl ?_
  refine z_iconst 0 2 dX11_letter_1 rfl rfl ?_
  refine pmi_2 5 dX11_letter_2 op_X11_131 rfl ?_
  refine z_iload_n 1 6 dX11_letter_5 rfl rfl ?_
  refine z_if_lt 17 9 dX11_letter_6 rfl rfl (fun hcz1 => ?_) (fun hcz1 => ?_)
  · replace h := h.1 hcz1
    refine z_iconst (-1) 18 dX11_letter_17 rfl rfl ?_
    refine z_goto 27 dX11_letter_18 rfl ?_
    exact z_iret dX11_letter_27 rfl ⟨Nat.le_refl _, Nat.le_refl _⟩ ⟨(-1), (m_iS M 2 0), rfl, rfl, h⟩
  · replace h := h.2 hcz1
    refine z_iload_n 1 10 dX11_letter_9 rfl rfl ?_
    refine z_aload_n 0 11 dX11_letter_10 rfl rfl ?_
    refine gmi_35 (m_i M 35) 14 dX11_letter_11 of_X11_361 rfl rfl ?_
    refine z_icmp_lt 21 17 dX11_letter_14 rfl rfl (fun hcz2 => ?_) (fun hcz2 => ?_)
    · replace h := h.1 hcz2
      refine z_aload_n 0 22 dX11_letter_21 rfl rfl ?_
      refine gr_33_68 25 dX11_letter_22 of_X11_116 rfl ?_
      refine z_iload_n 1 26 dX11_letter_25 rfl rfl ?_
      obtain ⟨hbz3, h⟩ := h
      refine gma_29 ((m_a M 29) a1.toNatClampNeg) 27 dX11_letter_26 hbz3 rfl rfl ?_
      exact z_iret dX11_letter_27 rfl ⟨Nat.le_refl _, Nat.le_refl _⟩ ⟨(m_a M 29) a1.toNatClampNeg, (m_iS M 2 0), rfl, rfl, h⟩
    · replace h := h.2 hcz2
      refine z_iconst (-1) 18 dX11_letter_17 rfl rfl ?_
      refine z_goto 27 dX11_letter_18 rfl ?_
      exact z_iret dX11_letter_27 rfl ⟨Nat.le_refl _, Nat.le_refl _⟩ ⟨(-1), (m_iS M 2 0), rfl, rfl, h⟩
end ZG
