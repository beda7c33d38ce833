/-! THE LAW: its cases, its loop -/
section ZL28
set_option maxRecDepth 100000
abbrev lL (i : Nat) : List (Nat × Value) := [(0, .ref 199), (1, .ref 200), (2, .ref 233), (3, .ref 268), (4, .int (nI i))]
variable {C : cS} {M : mS} {o : Nat → Int64} {b N i uc us lim : Nat} {xs : Nat → Int32} {f : Nat → Int64}
/-- where each case goes on -/
def nxt (b N i lim uc us : Nat) (xs : Nat → Int32) (o : Nat → Int64) : Prop := ∀ C1 M1 f1 uc1 us1, Rel (lim + 2000) C1 M1 → uc1 ≤ uc + 1 → us1 ≤ us + 6 → z_gk q_L_law false 755 (lL i) [] (wz C1 M1 o (zo f1)) uc1 us1 (zQ b N xs)
abbrev sa (xs : Nat → Int32) (i k : Nat) : Int32 := xs (nI i + nI k).toNatClampNeg
theorem lw_c0 (hi : i + 6 ≤ N) (hN : N ≤ 3074) (R : Rel lim C M) (hlm : lim + 2000 < 2147483647) (hu : uc + 1 ≤ 601024 ∧ us + 6 ≤ 7292999) (nx : nxt b N i lim uc us xs o) : z_gk q_L_law false 148 (lL i) [] (wz C M o (zo f)) uc us (zQ b N xs) := by
  have v1 : vp_in (nI i + 1) N := by rw [ni_al]; exact (ni_in (by omega)).mpr (by show i + 1 < N; omega)
  have v2 : vp_in (nI i + 2) N := by rw [ni_al]; exact (ni_in (by omega)).mpr (by show i + 2 < N; omega)
  have v3 : vp_in (nI i + 3) N := by rw [ni_al]; exact (ni_in (by omega)).mpr (by show i + 3 < N; omega)
  have v4 : vp_in (nI i + 4) N := by rw [ni_al]; exact (ni_in (by omega)).mpr (by show i + 4 < N; omega)
  have v5 : vp_in (nI i + 5) N := by rw [ni_al]; exact (ni_in (by omega)).mpr (by show i + 5 < N; omega)
  have hc : uc ≤ (z_rm q_L_law).cells ∧ us ≤ (z_rm q_L_law).slots := ⟨by show uc ≤ 601024; omega, by show us ≤ 7292999; omega⟩
  obtain ⟨e, C1, M1, h1, h2, R1⟩ := c_feed R (sa xs i 1) (sa xs i 2) (sa xs i 3) (sa xs i 4) (sa xs i 5)
  refine kz_aload_n 1 149 dL_law_148 rfl rfl ?_
  refine kz_aload_n 0 150 dL_law_149 rfl rfl ?_
  refine kz_iload 4 152 dL_law_150 rfl rfl ?_
  refine kz_iconst 1 153 dL_law_152 rfl rfl ?_
  refine kz_iadd 154 dL_law_153 rfl ?_
  refine k_sld 155 zQ_s dL_law_154 v1 rfl ?_
  refine kz_aload_n 0 156 dL_law_155 rfl rfl ?_
  refine kz_iload 4 158 dL_law_156 rfl rfl ?_
  refine kz_iconst 2 159 dL_law_158 rfl rfl ?_
  refine kz_iadd 160 dL_law_159 rfl ?_
  refine k_sld 161 zQ_s dL_law_160 v2 rfl ?_
  refine kz_aload_n 0 162 dL_law_161 rfl rfl ?_
  refine kz_iload 4 164 dL_law_162 rfl rfl ?_
  refine kz_iconst 3 165 dL_law_164 rfl rfl ?_
  refine kz_iadd 166 dL_law_165 rfl ?_
  refine k_sld 167 zQ_s dL_law_166 v3 rfl ?_
  refine kz_aload_n 0 168 dL_law_167 rfl rfl ?_
  refine kz_iload 4 170 dL_law_168 rfl rfl ?_
  refine kz_iconst 4 171 dL_law_170 rfl rfl ?_
  refine kz_iadd 172 dL_law_171 rfl ?_
  refine k_sld 173 zQ_s dL_law_172 v4 rfl ?_
  refine kz_aload_n 0 174 dL_law_173 rfl rfl ?_
  refine kz_iload 4 176 dL_law_174 rfl rfl ?_
  refine kz_iconst 5 177 dL_law_176 rfl rfl ?_
  refine kz_iadd 178 dL_law_177 rfl ?_
  refine k_sld 179 zQ_s dL_law_178 v5 rfl ?_
  refine kz_ciV [.int (sa xs i 1), .int (sa xs i 2), .int (sa xs i 3), .int (sa xs i 4), .int (sa xs i 5)] 182 dL_law_179 oL_37 rfl rfl (Nat.zero_le _) rc_0 ⟨rfl, rfl⟩ hc rfl (t_X10_feed false M o (zo f) (sa xs i 1) (sa xs i 2) (sa xs i 3) (sa xs i 4) (sa xs i 5) C (fun r C2 => r = e ∧ C2 = C1) (h1 _ ⟨rfl, rfl⟩)) (fun r C2 hr => ?_)
  obtain ⟨rfl, rfl⟩ := hr
  refine kz_aload_n 2 183 dL_law_182 rfl rfl ?_
  refine kz_aload_n 0 184 dL_law_183 rfl rfl ?_
  refine kz_iload 4 186 dL_law_184 rfl rfl ?_
  refine kz_iconst 1 187 dL_law_186 rfl rfl ?_
  refine kz_iadd 188 dL_law_187 rfl ?_
  refine k_sld 189 zQ_s dL_law_188 v1 rfl ?_
  refine kz_aload_n 0 190 dL_law_189 rfl rfl ?_
  refine kz_iload 4 192 dL_law_190 rfl rfl ?_
  refine kz_iconst 2 193 dL_law_192 rfl rfl ?_
  refine kz_iadd 194 dL_law_193 rfl ?_
  refine k_sld 195 zQ_s dL_law_194 v2 rfl ?_
  refine kz_aload_n 0 196 dL_law_195 rfl rfl ?_
  refine kz_iload 4 198 dL_law_196 rfl rfl ?_
  refine kz_iconst 3 199 dL_law_198 rfl rfl ?_
  refine kz_iadd 200 dL_law_199 rfl ?_
  refine k_sld 201 zQ_s dL_law_200 v3 rfl ?_
  refine kz_aload_n 0 202 dL_law_201 rfl rfl ?_
  refine kz_iload 4 204 dL_law_202 rfl rfl ?_
  refine kz_iconst 4 205 dL_law_204 rfl rfl ?_
  refine kz_iadd 206 dL_law_205 rfl ?_
  refine k_sld 207 zQ_s dL_law_206 v4 rfl ?_
  refine kz_aload_n 0 208 dL_law_207 rfl rfl ?_
  refine kz_iload 4 210 dL_law_208 rfl rfl ?_
  refine kz_iconst 5 211 dL_law_210 rfl rfl ?_
  refine kz_iadd 212 dL_law_211 rfl ?_
  refine k_sld 213 zQ_s dL_law_212 v5 rfl ?_
  refine kz_miV [.int (sa xs i 1), .int (sa xs i 2), .int (sa xs i 3), .int (sa xs i 4), .int (sa xs i 5)] 216 dL_law_213 oL_41 rfl rfl (Nat.le_of_ble_eq_true rfl) rc_33 ⟨rfl, rfl⟩ hc rfl (t_X11_feed false C2 o (zo f) (sa xs i 1) (sa xs i 2) (sa xs i 3) (sa xs i 4) (sa xs i 5) M (fun r3 M2 => r3 = r ∧ M2 = M1) (h2 _ ⟨rfl, rfl⟩)) (fun r3 M2 hr => ?_)
  obtain ⟨rfl, rfl⟩ := hr
  refine kz_icmp_eq 755 219 dL_law_216 rfl rfl (fun _ => ?_) (fun q => absurd rfl q)
  exact nx _ _ f uc us (R1.mono (Nat.le_add_right _ _)) (by omega) (by omega)
theorem lw_c1 (hi : i + 6 ≤ N) (hN : N ≤ 3074) (R : Rel lim C M) (hlm : lim + 2000 < 2147483647) (hu : uc + 1 ≤ 601024 ∧ us + 6 ≤ 7292999) (nx : nxt b N i lim uc us xs o) : z_gk q_L_law false 221 (lL i) [] (wz C M o (zo f)) uc us (zQ b N xs) := by
  have v1 : vp_in (nI i + 1) N := by rw [ni_al]; exact (ni_in (by omega)).mpr (by show i + 1 < N; omega)
  have v2 : vp_in (nI i + 2) N := by rw [ni_al]; exact (ni_in (by omega)).mpr (by show i + 2 < N; omega)
  have v3 : vp_in (nI i + 3) N := by rw [ni_al]; exact (ni_in (by omega)).mpr (by show i + 3 < N; omega)
  have v4 : vp_in (nI i + 4) N := by rw [ni_al]; exact (ni_in (by omega)).mpr (by show i + 4 < N; omega)
  have v5 : vp_in (nI i + 5) N := by rw [ni_al]; exact (ni_in (by omega)).mpr (by show i + 5 < N; omega)
  have hc : uc ≤ (z_rm q_L_law).cells ∧ us ≤ (z_rm q_L_law).slots := ⟨by show uc ≤ 601024; omega, by show us ≤ 7292999; omega⟩
  obtain ⟨e, C1, M1, h1, h2, R1⟩ := c_end R (sa xs i 1)
  refine kz_aload_n 1 222 dL_law_221 rfl rfl ?_
  refine kz_aload_n 0 223 dL_law_222 rfl rfl ?_
  refine kz_iload 4 225 dL_law_223 rfl rfl ?_
  refine kz_iconst 1 226 dL_law_225 rfl rfl ?_
  refine kz_iadd 227 dL_law_226 rfl ?_
  refine k_sld 228 zQ_s dL_law_227 v1 rfl ?_
  refine kz_ciV [.int (sa xs i 1)] 231 dL_law_228 oL_42 rfl rfl (Nat.zero_le _) rc_0 ⟨rfl, rfl⟩ hc rfl (t_X10_end false M o (zo f) (sa xs i 1) C (fun r C2 => r = e ∧ C2 = C1) (h1 _ ⟨rfl, rfl⟩)) (fun r C2 hr => ?_)
  obtain ⟨rfl, rfl⟩ := hr
  refine kz_aload_n 2 232 dL_law_231 rfl rfl ?_
  refine kz_aload_n 0 233 dL_law_232 rfl rfl ?_
  refine kz_iload 4 235 dL_law_233 rfl rfl ?_
  refine kz_iconst 1 236 dL_law_235 rfl rfl ?_
  refine kz_iadd 237 dL_law_236 rfl ?_
  refine k_sld 238 zQ_s dL_law_237 v1 rfl ?_
  refine kz_miV [.int (sa xs i 1)] 241 dL_law_238 oL_45 rfl rfl (Nat.le_of_ble_eq_true rfl) rc_33 ⟨rfl, rfl⟩ hc rfl (t_X11_end false C2 o (zo f) (sa xs i 1) M (fun r3 M2 => r3 = r ∧ M2 = M1) (h2 _ ⟨rfl, rfl⟩)) (fun r3 M2 hr => ?_)
  obtain ⟨rfl, rfl⟩ := hr
  refine kz_icmp_eq 755 244 dL_law_241 rfl rfl (fun _ => ?_) (fun q => absurd rfl q)
  exact nx _ _ f uc us (R1.mono (Nat.le_add_right _ _)) (by omega) (by omega)
theorem lw_c2 (hi : i + 6 ≤ N) (hN : N ≤ 3074) (R : Rel lim C M) (hlm : lim + 2000 < 2147483647) (hu : uc + 1 ≤ 601024 ∧ us + 6 ≤ 7292999) (nx : nxt b N i lim uc us xs o) : z_gk q_L_law false 246 (lL i) [] (wz C M o (zo f)) uc us (zQ b N xs) := by
  have v1 : vp_in (nI i + 1) N := by rw [ni_al]; exact (ni_in (by omega)).mpr (by show i + 1 < N; omega)
  have v2 : vp_in (nI i + 2) N := by rw [ni_al]; exact (ni_in (by omega)).mpr (by show i + 2 < N; omega)
  have v3 : vp_in (nI i + 3) N := by rw [ni_al]; exact (ni_in (by omega)).mpr (by show i + 3 < N; omega)
  have v4 : vp_in (nI i + 4) N := by rw [ni_al]; exact (ni_in (by omega)).mpr (by show i + 4 < N; omega)
  have v5 : vp_in (nI i + 5) N := by rw [ni_al]; exact (ni_in (by omega)).mpr (by show i + 5 < N; omega)
  have hc : uc ≤ (z_rm q_L_law).cells ∧ us ≤ (z_rm q_L_law).slots := ⟨by show uc ≤ 601024; omega, by show us ≤ 7292999; omega⟩
  obtain ⟨e, C1, M1, h1, h2, R1⟩ := c_program R
  refine kz_aload_n 1 247 dL_law_246 rfl rfl ?_
  refine kz_ciV [] 250 dL_law_247 oL_46 rfl rfl (Nat.zero_le _) rc_0 ⟨rfl, rfl⟩ hc rfl (t_X10_program false M o (zo f)  C (fun r C2 => r = e ∧ C2 = C1) (h1 _ ⟨rfl, rfl⟩)) (fun r C2 hr => ?_)
  obtain ⟨rfl, rfl⟩ := hr
  refine kz_aload_n 2 251 dL_law_250 rfl rfl ?_
  refine kz_miV [] 254 dL_law_251 oL_50 rfl rfl (Nat.le_of_ble_eq_true rfl) rc_33 ⟨rfl, rfl⟩ hc rfl (t_X11_program false C2 o (zo f)  M (fun r3 M2 => r3 = r ∧ M2 = M1) (h2 _ ⟨rfl, rfl⟩)) (fun r3 M2 hr => ?_)
  obtain ⟨rfl, rfl⟩ := hr
  refine kz_icmp_eq 755 257 dL_law_254 rfl rfl (fun _ => ?_) (fun q => absurd rfl q)
  exact nx _ _ f uc us (R1.mono (Nat.le_add_right _ _)) (by omega) (by omega)
theorem lw_c3 (hi : i + 6 ≤ N) (hN : N ≤ 3074) (R : Rel lim C M) (hlm : lim + 2000 < 2147483647) (hu : uc + 1 ≤ 601024 ∧ us + 6 ≤ 7292999) (nx : nxt b N i lim uc us xs o) : z_gk q_L_law false 259 (lL i) [] (wz C M o (zo f)) uc us (zQ b N xs) := by
  have v1 : vp_in (nI i + 1) N := by rw [ni_al]; exact (ni_in (by omega)).mpr (by show i + 1 < N; omega)
  have v2 : vp_in (nI i + 2) N := by rw [ni_al]; exact (ni_in (by omega)).mpr (by show i + 2 < N; omega)
  have v3 : vp_in (nI i + 3) N := by rw [ni_al]; exact (ni_in (by omega)).mpr (by show i + 3 < N; omega)
  have v4 : vp_in (nI i + 4) N := by rw [ni_al]; exact (ni_in (by omega)).mpr (by show i + 4 < N; omega)
  have v5 : vp_in (nI i + 5) N := by rw [ni_al]; exact (ni_in (by omega)).mpr (by show i + 5 < N; omega)
  have hc : uc ≤ (z_rm q_L_law).cells ∧ us ≤ (z_rm q_L_law).slots := ⟨by show uc ≤ 601024; omega, by show us ≤ 7292999; omega⟩
  obtain ⟨e, C1, M1, h1, h2, R1⟩ := c_fault R
  refine kz_aload_n 1 260 dL_law_259 rfl rfl ?_
  refine kz_ciV [] 263 dL_law_260 oL_51 rfl rfl (Nat.zero_le _) rc_0 ⟨rfl, rfl⟩ hc rfl (t_X10_fault false M o (zo f)  C (fun r C2 => r = e ∧ C2 = C1) (h1 _ ⟨rfl, rfl⟩)) (fun r C2 hr => ?_)
  obtain ⟨rfl, rfl⟩ := hr
  refine kz_aload_n 2 264 dL_law_263 rfl rfl ?_
  refine kz_miV [] 267 dL_law_264 oL_54 rfl rfl (Nat.le_of_ble_eq_true rfl) rc_33 ⟨rfl, rfl⟩ hc rfl (t_X11_fault false C2 o (zo f)  M (fun r3 M2 => r3 = r ∧ M2 = M1) (h2 _ ⟨rfl, rfl⟩)) (fun r3 M2 hr => ?_)
  obtain ⟨rfl, rfl⟩ := hr
  refine kz_icmp_eq 755 270 dL_law_267 rfl rfl (fun _ => ?_) (fun q => absurd rfl q)
  exact nx _ _ f uc us (R1.mono (Nat.le_add_right _ _)) (by omega) (by omega)
theorem lw_c6 (hi : i + 6 ≤ N) (hN : N ≤ 3074) (R : Rel lim C M) (hlm : lim + 2000 < 2147483647) (hu : uc + 1 ≤ 601024 ∧ us + 6 ≤ 7292999) (nx : nxt b N i lim uc us xs o) : z_gk q_L_law false 352 (lL i) [] (wz C M o (zo f)) uc us (zQ b N xs) := by
  have v1 : vp_in (nI i + 1) N := by rw [ni_al]; exact (ni_in (by omega)).mpr (by show i + 1 < N; omega)
  have v2 : vp_in (nI i + 2) N := by rw [ni_al]; exact (ni_in (by omega)).mpr (by show i + 2 < N; omega)
  have v3 : vp_in (nI i + 3) N := by rw [ni_al]; exact (ni_in (by omega)).mpr (by show i + 3 < N; omega)
  have v4 : vp_in (nI i + 4) N := by rw [ni_al]; exact (ni_in (by omega)).mpr (by show i + 4 < N; omega)
  have v5 : vp_in (nI i + 5) N := by rw [ni_al]; exact (ni_in (by omega)).mpr (by show i + 5 < N; omega)
  have hc : uc ≤ (z_rm q_L_law).cells ∧ us ≤ (z_rm q_L_law).slots := ⟨by show uc ≤ 601024; omega, by show us ≤ 7292999; omega⟩
  obtain ⟨e, C1, M1, h1, h2, R1⟩ := c_about R (sa xs i 1)
  refine kz_aload_n 1 353 dL_law_352 rfl rfl ?_
  refine kz_aload_n 0 354 dL_law_353 rfl rfl ?_
  refine kz_iload 4 356 dL_law_354 rfl rfl ?_
  refine kz_iconst 1 357 dL_law_356 rfl rfl ?_
  refine kz_iadd 358 dL_law_357 rfl ?_
  refine k_sld 359 zQ_s dL_law_358 v1 rfl ?_
  refine kz_ciV [.int (sa xs i 1)] 362 dL_law_359 oL_66 rfl rfl (Nat.zero_le _) rc_0 ⟨rfl, rfl⟩ hc rfl (t_X10_about false M o (zo f) (sa xs i 1) C (fun r C2 => r = e ∧ C2 = C1) (h1 _ ⟨rfl, rfl⟩)) (fun r C2 hr => ?_)
  obtain ⟨rfl, rfl⟩ := hr
  refine kz_aload_n 2 363 dL_law_362 rfl rfl ?_
  refine kz_aload_n 0 364 dL_law_363 rfl rfl ?_
  refine kz_iload 4 366 dL_law_364 rfl rfl ?_
  refine kz_iconst 1 367 dL_law_366 rfl rfl ?_
  refine kz_iadd 368 dL_law_367 rfl ?_
  refine k_sld 369 zQ_s dL_law_368 v1 rfl ?_
  refine kz_miV [.int (sa xs i 1)] 372 dL_law_369 oL_69 rfl rfl (Nat.le_of_ble_eq_true rfl) rc_33 ⟨rfl, rfl⟩ hc rfl (t_X11_about false C2 o (zo f) (sa xs i 1) M (fun r3 M2 => r3 = r ∧ M2 = M1) (h2 _ ⟨rfl, rfl⟩)) (fun r3 M2 hr => ?_)
  obtain ⟨rfl, rfl⟩ := hr
  refine kz_icmp_eq 755 375 dL_law_372 rfl rfl (fun _ => ?_) (fun q => absurd rfl q)
  exact nx _ _ f uc us (R1.mono (Nat.le_add_right _ _)) (by omega) (by omega)
theorem lw_c8 (hi : i + 6 ≤ N) (hN : N ≤ 3074) (R : Rel lim C M) (hlm : lim + 2000 < 2147483647) (hu : uc + 1 ≤ 601024 ∧ us + 6 ≤ 7292999) (nx : nxt b N i lim uc us xs o) : z_gk q_L_law false 433 (lL i) [] (wz C M o (zo f)) uc us (zQ b N xs) := by
  have v1 : vp_in (nI i + 1) N := by rw [ni_al]; exact (ni_in (by omega)).mpr (by show i + 1 < N; omega)
  have v2 : vp_in (nI i + 2) N := by rw [ni_al]; exact (ni_in (by omega)).mpr (by show i + 2 < N; omega)
  have v3 : vp_in (nI i + 3) N := by rw [ni_al]; exact (ni_in (by omega)).mpr (by show i + 3 < N; omega)
  have v4 : vp_in (nI i + 4) N := by rw [ni_al]; exact (ni_in (by omega)).mpr (by show i + 4 < N; omega)
  have v5 : vp_in (nI i + 5) N := by rw [ni_al]; exact (ni_in (by omega)).mpr (by show i + 5 < N; omega)
  have hc : uc ≤ (z_rm q_L_law).cells ∧ us ≤ (z_rm q_L_law).slots := ⟨by show uc ≤ 601024; omega, by show us ≤ 7292999; omega⟩
  obtain ⟨e, C1, M1, h1, h2, R1⟩ := c_act R (sa xs i 1) (sa xs i 2) (sa xs i 3) (sa xs i 4)
  refine kz_aload_n 1 434 dL_law_433 rfl rfl ?_
  refine kz_aload_n 0 435 dL_law_434 rfl rfl ?_
  refine kz_iload 4 437 dL_law_435 rfl rfl ?_
  refine kz_iconst 1 438 dL_law_437 rfl rfl ?_
  refine kz_iadd 439 dL_law_438 rfl ?_
  refine k_sld 440 zQ_s dL_law_439 v1 rfl ?_
  refine kz_aload_n 0 441 dL_law_440 rfl rfl ?_
  refine kz_iload 4 443 dL_law_441 rfl rfl ?_
  refine kz_iconst 2 444 dL_law_443 rfl rfl ?_
  refine kz_iadd 445 dL_law_444 rfl ?_
  refine k_sld 446 zQ_s dL_law_445 v2 rfl ?_
  refine kz_aload_n 0 447 dL_law_446 rfl rfl ?_
  refine kz_iload 4 449 dL_law_447 rfl rfl ?_
  refine kz_iconst 3 450 dL_law_449 rfl rfl ?_
  refine kz_iadd 451 dL_law_450 rfl ?_
  refine k_sld 452 zQ_s dL_law_451 v3 rfl ?_
  refine kz_aload_n 0 453 dL_law_452 rfl rfl ?_
  refine kz_iload 4 455 dL_law_453 rfl rfl ?_
  refine kz_iconst 4 456 dL_law_455 rfl rfl ?_
  refine kz_iadd 457 dL_law_456 rfl ?_
  refine k_sld 458 zQ_s dL_law_457 v4 rfl ?_
  refine kz_ciV [.int (sa xs i 1), .int (sa xs i 2), .int (sa xs i 3), .int (sa xs i 4)] 461 dL_law_458 oL_73 rfl rfl (Nat.zero_le _) rc_0 ⟨rfl, rfl⟩ hc rfl (t_X10_act false M o (zo f) (sa xs i 1) (sa xs i 2) (sa xs i 3) (sa xs i 4) C (fun r C2 => r = e ∧ C2 = C1) (h1 _ ⟨rfl, rfl⟩)) (fun r C2 hr => ?_)
  obtain ⟨rfl, rfl⟩ := hr
  refine kz_aload_n 2 462 dL_law_461 rfl rfl ?_
  refine kz_aload_n 0 463 dL_law_462 rfl rfl ?_
  refine kz_iload 4 465 dL_law_463 rfl rfl ?_
  refine kz_iconst 1 466 dL_law_465 rfl rfl ?_
  refine kz_iadd 467 dL_law_466 rfl ?_
  refine k_sld 468 zQ_s dL_law_467 v1 rfl ?_
  refine kz_aload_n 0 469 dL_law_468 rfl rfl ?_
  refine kz_iload 4 471 dL_law_469 rfl rfl ?_
  refine kz_iconst 2 472 dL_law_471 rfl rfl ?_
  refine kz_iadd 473 dL_law_472 rfl ?_
  refine k_sld 474 zQ_s dL_law_473 v2 rfl ?_
  refine kz_aload_n 0 475 dL_law_474 rfl rfl ?_
  refine kz_iload 4 477 dL_law_475 rfl rfl ?_
  refine kz_iconst 3 478 dL_law_477 rfl rfl ?_
  refine kz_iadd 479 dL_law_478 rfl ?_
  refine k_sld 480 zQ_s dL_law_479 v3 rfl ?_
  refine kz_aload_n 0 481 dL_law_480 rfl rfl ?_
  refine kz_iload 4 483 dL_law_481 rfl rfl ?_
  refine kz_iconst 4 484 dL_law_483 rfl rfl ?_
  refine kz_iadd 485 dL_law_484 rfl ?_
  refine k_sld 486 zQ_s dL_law_485 v4 rfl ?_
  refine kz_miV [.int (sa xs i 1), .int (sa xs i 2), .int (sa xs i 3), .int (sa xs i 4)] 489 dL_law_486 oL_77 rfl rfl (Nat.le_of_ble_eq_true rfl) rc_33 ⟨rfl, rfl⟩ hc rfl (t_X11_act false C2 o (zo f) (sa xs i 1) (sa xs i 2) (sa xs i 3) (sa xs i 4) M (fun r3 M2 => r3 = r ∧ M2 = M1) (h2 _ ⟨rfl, rfl⟩)) (fun r3 M2 hr => ?_)
  obtain ⟨rfl, rfl⟩ := hr
  refine kz_icmp_eq 755 492 dL_law_489 rfl rfl (fun _ => ?_) (fun q => absurd rfl q)
  exact nx _ _ f uc us (R1.mono (Nat.le_add_right _ _)) (by omega) (by omega)
theorem lw_c9 (hi : i + 6 ≤ N) (hN : N ≤ 3074) (R : Rel lim C M) (hlm : lim + 2000 < 2147483647) (hu : uc + 1 ≤ 601024 ∧ us + 6 ≤ 7292999) (nx : nxt b N i lim uc us xs o) : z_gk q_L_law false 494 (lL i) [] (wz C M o (zo f)) uc us (zQ b N xs) := by
  have v1 : vp_in (nI i + 1) N := by rw [ni_al]; exact (ni_in (by omega)).mpr (by show i + 1 < N; omega)
  have v2 : vp_in (nI i + 2) N := by rw [ni_al]; exact (ni_in (by omega)).mpr (by show i + 2 < N; omega)
  have v3 : vp_in (nI i + 3) N := by rw [ni_al]; exact (ni_in (by omega)).mpr (by show i + 3 < N; omega)
  have v4 : vp_in (nI i + 4) N := by rw [ni_al]; exact (ni_in (by omega)).mpr (by show i + 4 < N; omega)
  have v5 : vp_in (nI i + 5) N := by rw [ni_al]; exact (ni_in (by omega)).mpr (by show i + 5 < N; omega)
  have hc : uc ≤ (z_rm q_L_law).cells ∧ us ≤ (z_rm q_L_law).slots := ⟨by show uc ≤ 601024; omega, by show us ≤ 7292999; omega⟩
  obtain ⟨e, C1, M1, h1, h2, R1⟩ := c_pass R (sa xs i 1)
  refine kz_aload_n 1 495 dL_law_494 rfl rfl ?_
  refine kz_aload_n 0 496 dL_law_495 rfl rfl ?_
  refine kz_iload 4 498 dL_law_496 rfl rfl ?_
  refine kz_iconst 1 499 dL_law_498 rfl rfl ?_
  refine kz_iadd 500 dL_law_499 rfl ?_
  refine k_sld 501 zQ_s dL_law_500 v1 rfl ?_
  refine kz_ciV [.int (sa xs i 1)] 504 dL_law_501 oL_78 rfl rfl (Nat.zero_le _) rc_0 ⟨rfl, rfl⟩ hc rfl (t_X10_pass false M o (zo f) (sa xs i 1) C (fun r C2 => r = e ∧ C2 = C1) (h1 _ ⟨rfl, rfl⟩)) (fun r C2 hr => ?_)
  obtain ⟨rfl, rfl⟩ := hr
  refine kz_aload_n 2 505 dL_law_504 rfl rfl ?_
  refine kz_aload_n 0 506 dL_law_505 rfl rfl ?_
  refine kz_iload 4 508 dL_law_506 rfl rfl ?_
  refine kz_iconst 1 509 dL_law_508 rfl rfl ?_
  refine kz_iadd 510 dL_law_509 rfl ?_
  refine k_sld 511 zQ_s dL_law_510 v1 rfl ?_
  refine kz_miV [.int (sa xs i 1)] 514 dL_law_511 oL_81 rfl rfl (Nat.le_of_ble_eq_true rfl) rc_33 ⟨rfl, rfl⟩ hc rfl (t_X11_pass false C2 o (zo f) (sa xs i 1) M (fun r3 M2 => r3 = r ∧ M2 = M1) (h2 _ ⟨rfl, rfl⟩)) (fun r3 M2 hr => ?_)
  obtain ⟨rfl, rfl⟩ := hr
  refine kz_icmp_eq 755 517 dL_law_514 rfl rfl (fun _ => ?_) (fun q => absurd rfl q)
  exact nx _ _ f uc us (R1.mono (Nat.le_add_right _ _)) (by omega) (by omega)
theorem lw_c10 (hi : i + 6 ≤ N) (hN : N ≤ 3074) (R : Rel lim C M) (hlm : lim + 2000 < 2147483647) (hu : uc + 1 ≤ 601024 ∧ us + 6 ≤ 7292999) (nx : nxt b N i lim uc us xs o) : z_gk q_L_law false 519 (lL i) [] (wz C M o (zo f)) uc us (zQ b N xs) := by
  have v1 : vp_in (nI i + 1) N := by rw [ni_al]; exact (ni_in (by omega)).mpr (by show i + 1 < N; omega)
  have v2 : vp_in (nI i + 2) N := by rw [ni_al]; exact (ni_in (by omega)).mpr (by show i + 2 < N; omega)
  have v3 : vp_in (nI i + 3) N := by rw [ni_al]; exact (ni_in (by omega)).mpr (by show i + 3 < N; omega)
  have v4 : vp_in (nI i + 4) N := by rw [ni_al]; exact (ni_in (by omega)).mpr (by show i + 4 < N; omega)
  have v5 : vp_in (nI i + 5) N := by rw [ni_al]; exact (ni_in (by omega)).mpr (by show i + 5 < N; omega)
  have hc : uc ≤ (z_rm q_L_law).cells ∧ us ≤ (z_rm q_L_law).slots := ⟨by show uc ≤ 601024; omega, by show us ≤ 7292999; omega⟩
  obtain ⟨e, C1, M1, h1, h2, R1⟩ := c_turn R
  refine kz_aload_n 1 520 dL_law_519 rfl rfl ?_
  refine kz_ciV [] 523 dL_law_520 oL_82 rfl rfl (Nat.zero_le _) rc_0 ⟨rfl, rfl⟩ hc rfl (t_X10_turn false M o (zo f)  C (fun r C2 => r = e ∧ C2 = C1) (h1 _ ⟨rfl, rfl⟩)) (fun r C2 hr => ?_)
  obtain ⟨rfl, rfl⟩ := hr
  refine kz_aload_n 2 524 dL_law_523 rfl rfl ?_
  refine kz_miV [] 527 dL_law_524 oL_86 rfl rfl (Nat.le_of_ble_eq_true rfl) rc_33 ⟨rfl, rfl⟩ hc rfl (t_X11_turn false C2 o (zo f)  M (fun r3 M2 => r3 = r ∧ M2 = M1) (h2 _ ⟨rfl, rfl⟩)) (fun r3 M2 hr => ?_)
  obtain ⟨rfl, rfl⟩ := hr
  refine kz_icmp_eq 755 530 dL_law_527 rfl rfl (fun _ => ?_) (fun q => absurd rfl q)
  exact nx _ _ f uc us (R1.mono (Nat.le_add_right _ _)) (by omega) (by omega)
theorem lw_c11 (hi : i + 6 ≤ N) (hN : N ≤ 3074) (R : Rel lim C M) (hlm : lim + 2000 < 2147483647) (hu : uc + 1 ≤ 601024 ∧ us + 6 ≤ 7292999) (nx : nxt b N i lim uc us xs o) : z_gk q_L_law false 532 (lL i) [] (wz C M o (zo f)) uc us (zQ b N xs) := by
  have v1 : vp_in (nI i + 1) N := by rw [ni_al]; exact (ni_in (by omega)).mpr (by show i + 1 < N; omega)
  have v2 : vp_in (nI i + 2) N := by rw [ni_al]; exact (ni_in (by omega)).mpr (by show i + 2 < N; omega)
  have v3 : vp_in (nI i + 3) N := by rw [ni_al]; exact (ni_in (by omega)).mpr (by show i + 3 < N; omega)
  have v4 : vp_in (nI i + 4) N := by rw [ni_al]; exact (ni_in (by omega)).mpr (by show i + 4 < N; omega)
  have v5 : vp_in (nI i + 5) N := by rw [ni_al]; exact (ni_in (by omega)).mpr (by show i + 5 < N; omega)
  have hc : uc ≤ (z_rm q_L_law).cells ∧ us ≤ (z_rm q_L_law).slots := ⟨by show uc ≤ 601024; omega, by show us ≤ 7292999; omega⟩
  obtain ⟨e, C1, M1, h1, h2, R1⟩ := c_memory R (sa xs i 1)
  refine kz_aload_n 1 533 dL_law_532 rfl rfl ?_
  refine kz_aload_n 0 534 dL_law_533 rfl rfl ?_
  refine kz_iload 4 536 dL_law_534 rfl rfl ?_
  refine kz_iconst 1 537 dL_law_536 rfl rfl ?_
  refine kz_iadd 538 dL_law_537 rfl ?_
  refine k_sld 539 zQ_s dL_law_538 v1 rfl ?_
  refine kz_ciV [.int (sa xs i 1)] 542 dL_law_539 oL_87 rfl rfl (Nat.zero_le _) rc_0 ⟨rfl, rfl⟩ hc rfl (t_X10_memory false M o (zo f) (sa xs i 1) C (fun r C2 => r = e ∧ C2 = C1) (h1 _ ⟨rfl, rfl⟩)) (fun r C2 hr => ?_)
  obtain ⟨rfl, rfl⟩ := hr
  refine kz_aload_n 2 543 dL_law_542 rfl rfl ?_
  refine kz_aload_n 0 544 dL_law_543 rfl rfl ?_
  refine kz_iload 4 546 dL_law_544 rfl rfl ?_
  refine kz_iconst 1 547 dL_law_546 rfl rfl ?_
  refine kz_iadd 548 dL_law_547 rfl ?_
  refine k_sld 549 zQ_s dL_law_548 v1 rfl ?_
  refine kz_miV [.int (sa xs i 1)] 552 dL_law_549 oL_90 rfl rfl (Nat.le_of_ble_eq_true rfl) rc_33 ⟨rfl, rfl⟩ hc rfl (t_X11_memory false C2 o (zo f) (sa xs i 1) M (fun r3 M2 => r3 = r ∧ M2 = M1) (h2 _ ⟨rfl, rfl⟩)) (fun r3 M2 hr => ?_)
  obtain ⟨rfl, rfl⟩ := hr
  refine kz_icmp_eq 755 555 dL_law_552 rfl rfl (fun _ => ?_) (fun q => absurd rfl q)
  exact nx _ _ f uc us (R1.mono (Nat.le_add_right _ _)) (by omega) (by omega)
theorem lw_c12 (hi : i + 6 ≤ N) (hN : N ≤ 3074) (R : Rel lim C M) (hlm : lim + 2000 < 2147483647) (hu : uc + 1 ≤ 601024 ∧ us + 6 ≤ 7292999) (nx : nxt b N i lim uc us xs o) : z_gk q_L_law false 557 (lL i) [] (wz C M o (zo f)) uc us (zQ b N xs) := by
  have v1 : vp_in (nI i + 1) N := by rw [ni_al]; exact (ni_in (by omega)).mpr (by show i + 1 < N; omega)
  have v2 : vp_in (nI i + 2) N := by rw [ni_al]; exact (ni_in (by omega)).mpr (by show i + 2 < N; omega)
  have v3 : vp_in (nI i + 3) N := by rw [ni_al]; exact (ni_in (by omega)).mpr (by show i + 3 < N; omega)
  have v4 : vp_in (nI i + 4) N := by rw [ni_al]; exact (ni_in (by omega)).mpr (by show i + 4 < N; omega)
  have v5 : vp_in (nI i + 5) N := by rw [ni_al]; exact (ni_in (by omega)).mpr (by show i + 5 < N; omega)
  have hc : uc ≤ (z_rm q_L_law).cells ∧ us ≤ (z_rm q_L_law).slots := ⟨by show uc ≤ 601024; omega, by show us ≤ 7292999; omega⟩
  obtain ⟨e, C1, M1, h1, h2, R1⟩ := c_hand R (sa xs i 1) (sa xs i 2)
  refine kz_aload_n 1 558 dL_law_557 rfl rfl ?_
  refine kz_aload_n 0 559 dL_law_558 rfl rfl ?_
  refine kz_iload 4 561 dL_law_559 rfl rfl ?_
  refine kz_iconst 1 562 dL_law_561 rfl rfl ?_
  refine kz_iadd 563 dL_law_562 rfl ?_
  refine k_sld 564 zQ_s dL_law_563 v1 rfl ?_
  refine kz_aload_n 0 565 dL_law_564 rfl rfl ?_
  refine kz_iload 4 567 dL_law_565 rfl rfl ?_
  refine kz_iconst 2 568 dL_law_567 rfl rfl ?_
  refine kz_iadd 569 dL_law_568 rfl ?_
  refine k_sld 570 zQ_s dL_law_569 v2 rfl ?_
  refine kz_ciV [.int (sa xs i 1), .int (sa xs i 2)] 573 dL_law_570 oL_91 rfl rfl (Nat.zero_le _) rc_0 ⟨rfl, rfl⟩ hc rfl (t_X10_hand false M o (zo f) (sa xs i 1) (sa xs i 2) C (fun r C2 => r = e ∧ C2 = C1) (h1 _ ⟨rfl, rfl⟩)) (fun r C2 hr => ?_)
  obtain ⟨rfl, rfl⟩ := hr
  refine kz_aload_n 2 574 dL_law_573 rfl rfl ?_
  refine kz_aload_n 0 575 dL_law_574 rfl rfl ?_
  refine kz_iload 4 577 dL_law_575 rfl rfl ?_
  refine kz_iconst 1 578 dL_law_577 rfl rfl ?_
  refine kz_iadd 579 dL_law_578 rfl ?_
  refine k_sld 580 zQ_s dL_law_579 v1 rfl ?_
  refine kz_aload_n 0 581 dL_law_580 rfl rfl ?_
  refine kz_iload 4 583 dL_law_581 rfl rfl ?_
  refine kz_iconst 2 584 dL_law_583 rfl rfl ?_
  refine kz_iadd 585 dL_law_584 rfl ?_
  refine k_sld 586 zQ_s dL_law_585 v2 rfl ?_
  refine kz_miV [.int (sa xs i 1), .int (sa xs i 2)] 589 dL_law_586 oL_95 rfl rfl (Nat.le_of_ble_eq_true rfl) rc_33 ⟨rfl, rfl⟩ hc rfl (t_X11_hand false C2 o (zo f) (sa xs i 1) (sa xs i 2) M (fun r3 M2 => r3 = r ∧ M2 = M1) (h2 _ ⟨rfl, rfl⟩)) (fun r3 M2 hr => ?_)
  obtain ⟨rfl, rfl⟩ := hr
  refine kz_icmp_eq 755 592 dL_law_589 rfl rfl (fun _ => ?_) (fun q => absurd rfl q)
  exact nx _ _ f uc us (R1.mono (Nat.le_add_right _ _)) (by omega) (by omega)
theorem lw_c13 (hi : i + 6 ≤ N) (hN : N ≤ 3074) (R : Rel lim C M) (hlm : lim + 2000 < 2147483647) (hu : uc + 1 ≤ 601024 ∧ us + 6 ≤ 7292999) (nx : nxt b N i lim uc us xs o) : z_gk q_L_law false 594 (lL i) [] (wz C M o (zo f)) uc us (zQ b N xs) := by
  have v1 : vp_in (nI i + 1) N := by rw [ni_al]; exact (ni_in (by omega)).mpr (by show i + 1 < N; omega)
  have v2 : vp_in (nI i + 2) N := by rw [ni_al]; exact (ni_in (by omega)).mpr (by show i + 2 < N; omega)
  have v3 : vp_in (nI i + 3) N := by rw [ni_al]; exact (ni_in (by omega)).mpr (by show i + 3 < N; omega)
  have v4 : vp_in (nI i + 4) N := by rw [ni_al]; exact (ni_in (by omega)).mpr (by show i + 4 < N; omega)
  have v5 : vp_in (nI i + 5) N := by rw [ni_al]; exact (ni_in (by omega)).mpr (by show i + 5 < N; omega)
  have hc : uc ≤ (z_rm q_L_law).cells ∧ us ≤ (z_rm q_L_law).slots := ⟨by show uc ≤ 601024; omega, by show us ≤ 7292999; omega⟩
  obtain ⟨e, C1, M1, h1, h2, R1⟩ := c_stack R (sa xs i 1) (sa xs i 2)
  refine kz_aload_n 1 595 dL_law_594 rfl rfl ?_
  refine kz_aload_n 0 596 dL_law_595 rfl rfl ?_
  refine kz_iload 4 598 dL_law_596 rfl rfl ?_
  refine kz_iconst 1 599 dL_law_598 rfl rfl ?_
  refine kz_iadd 600 dL_law_599 rfl ?_
  refine k_sld 601 zQ_s dL_law_600 v1 rfl ?_
  refine kz_aload_n 0 602 dL_law_601 rfl rfl ?_
  refine kz_iload 4 604 dL_law_602 rfl rfl ?_
  refine kz_iconst 2 605 dL_law_604 rfl rfl ?_
  refine kz_iadd 606 dL_law_605 rfl ?_
  refine k_sld 607 zQ_s dL_law_606 v2 rfl ?_
  refine kz_ciV [.int (sa xs i 1), .int (sa xs i 2)] 610 dL_law_607 oL_96 rfl rfl (Nat.zero_le _) rc_0 ⟨rfl, rfl⟩ hc rfl (t_X10_stack false M o (zo f) (sa xs i 1) (sa xs i 2) C (fun r C2 => r = e ∧ C2 = C1) (h1 _ ⟨rfl, rfl⟩)) (fun r C2 hr => ?_)
  obtain ⟨rfl, rfl⟩ := hr
  refine kz_aload_n 2 611 dL_law_610 rfl rfl ?_
  refine kz_aload_n 0 612 dL_law_611 rfl rfl ?_
  refine kz_iload 4 614 dL_law_612 rfl rfl ?_
  refine kz_iconst 1 615 dL_law_614 rfl rfl ?_
  refine kz_iadd 616 dL_law_615 rfl ?_
  refine k_sld 617 zQ_s dL_law_616 v1 rfl ?_
  refine kz_aload_n 0 618 dL_law_617 rfl rfl ?_
  refine kz_iload 4 620 dL_law_618 rfl rfl ?_
  refine kz_iconst 2 621 dL_law_620 rfl rfl ?_
  refine kz_iadd 622 dL_law_621 rfl ?_
  refine k_sld 623 zQ_s dL_law_622 v2 rfl ?_
  refine kz_miV [.int (sa xs i 1), .int (sa xs i 2)] 626 dL_law_623 oL_99 rfl rfl (Nat.le_of_ble_eq_true rfl) rc_33 ⟨rfl, rfl⟩ hc rfl (t_X11_stack false C2 o (zo f) (sa xs i 1) (sa xs i 2) M (fun r3 M2 => r3 = r ∧ M2 = M1) (h2 _ ⟨rfl, rfl⟩)) (fun r3 M2 hr => ?_)
  obtain ⟨rfl, rfl⟩ := hr
  refine kz_icmp_eq 755 629 dL_law_626 rfl rfl (fun _ => ?_) (fun q => absurd rfl q)
  exact nx _ _ f uc us (R1.mono (Nat.le_add_right _ _)) (by omega) (by omega)
theorem lw_c14 (hi : i + 6 ≤ N) (hN : N ≤ 3074) (R : Rel lim C M) (hlm : lim + 2000 < 2147483647) (hu : uc + 1 ≤ 601024 ∧ us + 6 ≤ 7292999) (nx : nxt b N i lim uc us xs o) : z_gk q_L_law false 631 (lL i) [] (wz C M o (zo f)) uc us (zQ b N xs) := by
  have v1 : vp_in (nI i + 1) N := by rw [ni_al]; exact (ni_in (by omega)).mpr (by show i + 1 < N; omega)
  have v2 : vp_in (nI i + 2) N := by rw [ni_al]; exact (ni_in (by omega)).mpr (by show i + 2 < N; omega)
  have v3 : vp_in (nI i + 3) N := by rw [ni_al]; exact (ni_in (by omega)).mpr (by show i + 3 < N; omega)
  have v4 : vp_in (nI i + 4) N := by rw [ni_al]; exact (ni_in (by omega)).mpr (by show i + 4 < N; omega)
  have v5 : vp_in (nI i + 5) N := by rw [ni_al]; exact (ni_in (by omega)).mpr (by show i + 5 < N; omega)
  have hc : uc ≤ (z_rm q_L_law).cells ∧ us ≤ (z_rm q_L_law).slots := ⟨by show uc ≤ 601024; omega, by show us ≤ 7292999; omega⟩
  obtain ⟨e, C1, M1, h1, h2, R1⟩ := c_slot R (sa xs i 1) (sa xs i 2) (sa xs i 3)
  refine kz_aload_n 1 632 dL_law_631 rfl rfl ?_
  refine kz_aload_n 0 633 dL_law_632 rfl rfl ?_
  refine kz_iload 4 635 dL_law_633 rfl rfl ?_
  refine kz_iconst 1 636 dL_law_635 rfl rfl ?_
  refine kz_iadd 637 dL_law_636 rfl ?_
  refine k_sld 638 zQ_s dL_law_637 v1 rfl ?_
  refine kz_aload_n 0 639 dL_law_638 rfl rfl ?_
  refine kz_iload 4 641 dL_law_639 rfl rfl ?_
  refine kz_iconst 2 642 dL_law_641 rfl rfl ?_
  refine kz_iadd 643 dL_law_642 rfl ?_
  refine k_sld 644 zQ_s dL_law_643 v2 rfl ?_
  refine kz_aload_n 0 645 dL_law_644 rfl rfl ?_
  refine kz_iload 4 647 dL_law_645 rfl rfl ?_
  refine kz_iconst 3 648 dL_law_647 rfl rfl ?_
  refine kz_iadd 649 dL_law_648 rfl ?_
  refine k_sld 650 zQ_s dL_law_649 v3 rfl ?_
  refine kz_ciV [.int (sa xs i 1), .int (sa xs i 2), .int (sa xs i 3)] 653 dL_law_650 oL_100 rfl rfl (Nat.zero_le _) rc_0 ⟨rfl, rfl⟩ hc rfl (t_X10_slot false M o (zo f) (sa xs i 1) (sa xs i 2) (sa xs i 3) C (fun r C2 => r = e ∧ C2 = C1) (h1 _ ⟨rfl, rfl⟩)) (fun r C2 hr => ?_)
  obtain ⟨rfl, rfl⟩ := hr
  refine kz_aload_n 2 654 dL_law_653 rfl rfl ?_
  refine kz_aload_n 0 655 dL_law_654 rfl rfl ?_
  refine kz_iload 4 657 dL_law_655 rfl rfl ?_
  refine kz_iconst 1 658 dL_law_657 rfl rfl ?_
  refine kz_iadd 659 dL_law_658 rfl ?_
  refine k_sld 660 zQ_s dL_law_659 v1 rfl ?_
  refine kz_aload_n 0 661 dL_law_660 rfl rfl ?_
  refine kz_iload 4 663 dL_law_661 rfl rfl ?_
  refine kz_iconst 2 664 dL_law_663 rfl rfl ?_
  refine kz_iadd 665 dL_law_664 rfl ?_
  refine k_sld 666 zQ_s dL_law_665 v2 rfl ?_
  refine kz_aload_n 0 667 dL_law_666 rfl rfl ?_
  refine kz_iload 4 669 dL_law_667 rfl rfl ?_
  refine kz_iconst 3 670 dL_law_669 rfl rfl ?_
  refine kz_iadd 671 dL_law_670 rfl ?_
  refine k_sld 672 zQ_s dL_law_671 v3 rfl ?_
  refine kz_miV [.int (sa xs i 1), .int (sa xs i 2), .int (sa xs i 3)] 675 dL_law_672 oL_104 rfl rfl (Nat.le_of_ble_eq_true rfl) rc_33 ⟨rfl, rfl⟩ hc rfl (t_X11_slot false C2 o (zo f) (sa xs i 1) (sa xs i 2) (sa xs i 3) M (fun r3 M2 => r3 = r ∧ M2 = M1) (h2 _ ⟨rfl, rfl⟩)) (fun r3 M2 hr => ?_)
  obtain ⟨rfl, rfl⟩ := hr
  refine kz_icmp_eq 755 678 dL_law_675 rfl rfl (fun _ => ?_) (fun q => absurd rfl q)
  exact nx _ _ f uc us (R1.mono (Nat.le_add_right _ _)) (by omega) (by omega)
theorem lw_c15 (hi : i + 6 ≤ N) (hN : N ≤ 3074) (R : Rel lim C M) (hlm : lim + 2000 < 2147483647) (hu : uc + 1 ≤ 601024 ∧ us + 6 ≤ 7292999) (nx : nxt b N i lim uc us xs o) : z_gk q_L_law false 680 (lL i) [] (wz C M o (zo f)) uc us (zQ b N xs) := by
  have v1 : vp_in (nI i + 1) N := by rw [ni_al]; exact (ni_in (by omega)).mpr (by show i + 1 < N; omega)
  have v2 : vp_in (nI i + 2) N := by rw [ni_al]; exact (ni_in (by omega)).mpr (by show i + 2 < N; omega)
  have v3 : vp_in (nI i + 3) N := by rw [ni_al]; exact (ni_in (by omega)).mpr (by show i + 3 < N; omega)
  have v4 : vp_in (nI i + 4) N := by rw [ni_al]; exact (ni_in (by omega)).mpr (by show i + 4 < N; omega)
  have v5 : vp_in (nI i + 5) N := by rw [ni_al]; exact (ni_in (by omega)).mpr (by show i + 5 < N; omega)
  have hc : uc ≤ (z_rm q_L_law).cells ∧ us ≤ (z_rm q_L_law).slots := ⟨by show uc ≤ 601024; omega, by show us ≤ 7292999; omega⟩
  obtain ⟨e, C1, M1, h1, h2, R1⟩ := c_reach R (sa xs i 1)
  refine kz_aload_n 1 681 dL_law_680 rfl rfl ?_
  refine kz_aload_n 0 682 dL_law_681 rfl rfl ?_
  refine kz_iload 4 684 dL_law_682 rfl rfl ?_
  refine kz_iconst 1 685 dL_law_684 rfl rfl ?_
  refine kz_iadd 686 dL_law_685 rfl ?_
  refine k_sld 687 zQ_s dL_law_686 v1 rfl ?_
  refine kz_ciV [.int (sa xs i 1)] 690 dL_law_687 oL_105 rfl rfl (Nat.zero_le _) rc_0 ⟨rfl, rfl⟩ hc rfl (t_X10_reach false M o (zo f) (sa xs i 1) C (fun r C2 => r = e ∧ C2 = C1) (h1 _ ⟨rfl, rfl⟩)) (fun r C2 hr => ?_)
  obtain ⟨rfl, rfl⟩ := hr
  refine kz_aload_n 2 691 dL_law_690 rfl rfl ?_
  refine kz_aload_n 0 692 dL_law_691 rfl rfl ?_
  refine kz_iload 4 694 dL_law_692 rfl rfl ?_
  refine kz_iconst 1 695 dL_law_694 rfl rfl ?_
  refine kz_iadd 696 dL_law_695 rfl ?_
  refine k_sld 697 zQ_s dL_law_696 v1 rfl ?_
  refine kz_miV [.int (sa xs i 1)] 700 dL_law_697 oL_108 rfl rfl (Nat.le_of_ble_eq_true rfl) rc_33 ⟨rfl, rfl⟩ hc rfl (t_X11_reach false C2 o (zo f) (sa xs i 1) M (fun r3 M2 => r3 = r ∧ M2 = M1) (h2 _ ⟨rfl, rfl⟩)) (fun r3 M2 hr => ?_)
  obtain ⟨rfl, rfl⟩ := hr
  refine kz_icmp_eq 755 703 dL_law_700 rfl rfl (fun _ => ?_) (fun q => absurd rfl q)
  exact nx _ _ f uc us (R1.mono (Nat.le_add_right _ _)) (by omega) (by omega)
theorem lw_c16 (hi : i + 6 ≤ N) (hN : N ≤ 3074) (R : Rel lim C M) (hlm : lim + 2000 < 2147483647) (hu : uc + 1 ≤ 601024 ∧ us + 6 ≤ 7292999) (nx : nxt b N i lim uc us xs o) : z_gk q_L_law false 705 (lL i) [] (wz C M o (zo f)) uc us (zQ b N xs) := by
  have v1 : vp_in (nI i + 1) N := by rw [ni_al]; exact (ni_in (by omega)).mpr (by show i + 1 < N; omega)
  have v2 : vp_in (nI i + 2) N := by rw [ni_al]; exact (ni_in (by omega)).mpr (by show i + 2 < N; omega)
  have v3 : vp_in (nI i + 3) N := by rw [ni_al]; exact (ni_in (by omega)).mpr (by show i + 3 < N; omega)
  have v4 : vp_in (nI i + 4) N := by rw [ni_al]; exact (ni_in (by omega)).mpr (by show i + 4 < N; omega)
  have v5 : vp_in (nI i + 5) N := by rw [ni_al]; exact (ni_in (by omega)).mpr (by show i + 5 < N; omega)
  have hc : uc ≤ (z_rm q_L_law).cells ∧ us ≤ (z_rm q_L_law).slots := ⟨by show uc ≤ 601024; omega, by show us ≤ 7292999; omega⟩
  obtain ⟨e, C1, M1, h1, h2, R1⟩ := c_show R (sa xs i 1)
  refine kz_aload_n 1 706 dL_law_705 rfl rfl ?_
  refine kz_aload_n 0 707 dL_law_706 rfl rfl ?_
  refine kz_iload 4 709 dL_law_707 rfl rfl ?_
  refine kz_iconst 1 710 dL_law_709 rfl rfl ?_
  refine kz_iadd 711 dL_law_710 rfl ?_
  refine k_sld 712 zQ_s dL_law_711 v1 rfl ?_
  refine kz_ciV [.int (sa xs i 1)] 715 dL_law_712 oL_109 rfl rfl (Nat.zero_le _) rc_0 ⟨rfl, rfl⟩ hc rfl (t_X10_show false M o (zo f) (sa xs i 1) C (fun r C2 => r = e ∧ C2 = C1) (h1 _ ⟨rfl, rfl⟩)) (fun r C2 hr => ?_)
  obtain ⟨rfl, rfl⟩ := hr
  refine kz_aload_n 2 716 dL_law_715 rfl rfl ?_
  refine kz_aload_n 0 717 dL_law_716 rfl rfl ?_
  refine kz_iload 4 719 dL_law_717 rfl rfl ?_
  refine kz_iconst 1 720 dL_law_719 rfl rfl ?_
  refine kz_iadd 721 dL_law_720 rfl ?_
  refine k_sld 722 zQ_s dL_law_721 v1 rfl ?_
  refine kz_miV [.int (sa xs i 1)] 725 dL_law_722 oL_112 rfl rfl (Nat.le_of_ble_eq_true rfl) rc_33 ⟨rfl, rfl⟩ hc rfl (t_X11_show false C2 o (zo f) (sa xs i 1) M (fun r3 M2 => r3 = r ∧ M2 = M1) (h2 _ ⟨rfl, rfl⟩)) (fun r3 M2 hr => ?_)
  obtain ⟨rfl, rfl⟩ := hr
  refine kz_icmp_eq 755 728 dL_law_725 rfl rfl (fun _ => ?_) (fun q => absurd rfl q)
  exact nx _ _ f uc us (R1.mono (Nat.le_add_right _ _)) (by omega) (by omega)
theorem lw_c17 (hi : i + 6 ≤ N) (hN : N ≤ 3074) (R : Rel lim C M) (hlm : lim + 2000 < 2147483647) (hu : uc + 1 ≤ 601024 ∧ us + 6 ≤ 7292999) (nx : nxt b N i lim uc us xs o) : z_gk q_L_law false 730 (lL i) [] (wz C M o (zo f)) uc us (zQ b N xs) := by
  have v1 : vp_in (nI i + 1) N := by rw [ni_al]; exact (ni_in (by omega)).mpr (by show i + 1 < N; omega)
  have v2 : vp_in (nI i + 2) N := by rw [ni_al]; exact (ni_in (by omega)).mpr (by show i + 2 < N; omega)
  have v3 : vp_in (nI i + 3) N := by rw [ni_al]; exact (ni_in (by omega)).mpr (by show i + 3 < N; omega)
  have v4 : vp_in (nI i + 4) N := by rw [ni_al]; exact (ni_in (by omega)).mpr (by show i + 4 < N; omega)
  have v5 : vp_in (nI i + 5) N := by rw [ni_al]; exact (ni_in (by omega)).mpr (by show i + 5 < N; omega)
  have hc : uc ≤ (z_rm q_L_law).cells ∧ us ≤ (z_rm q_L_law).slots := ⟨by show uc ≤ 601024; omega, by show us ≤ 7292999; omega⟩
  obtain ⟨e, C1, M1, h1, h2, R1⟩ := c_letter R (sa xs i 1)
  refine kz_aload_n 1 731 dL_law_730 rfl rfl ?_
  refine kz_aload_n 0 732 dL_law_731 rfl rfl ?_
  refine kz_iload 4 734 dL_law_732 rfl rfl ?_
  refine kz_iconst 1 735 dL_law_734 rfl rfl ?_
  refine kz_iadd 736 dL_law_735 rfl ?_
  refine k_sld 737 zQ_s dL_law_736 v1 rfl ?_
  refine kz_ciV [.int (sa xs i 1)] 740 dL_law_737 oL_113 rfl rfl (Nat.zero_le _) rc_0 ⟨rfl, rfl⟩ hc rfl (t_X10_letter false M o (zo f) (sa xs i 1) C (fun r C2 => r = e ∧ C2 = C1) (h1 _ ⟨rfl, rfl⟩)) (fun r C2 hr => ?_)
  obtain ⟨rfl, rfl⟩ := hr
  refine kz_aload_n 2 741 dL_law_740 rfl rfl ?_
  refine kz_aload_n 0 742 dL_law_741 rfl rfl ?_
  refine kz_iload 4 744 dL_law_742 rfl rfl ?_
  refine kz_iconst 1 745 dL_law_744 rfl rfl ?_
  refine kz_iadd 746 dL_law_745 rfl ?_
  refine k_sld 747 zQ_s dL_law_746 v1 rfl ?_
  refine kz_miV [.int (sa xs i 1)] 750 dL_law_747 oL_116 rfl rfl (Nat.le_of_ble_eq_true rfl) rc_33 ⟨rfl, rfl⟩ hc rfl (t_X11_letter false C2 o (zo f) (sa xs i 1) M (fun r3 M2 => r3 = r ∧ M2 = M1) (h2 _ ⟨rfl, rfl⟩)) (fun r3 M2 hr => ?_)
  obtain ⟨rfl, rfl⟩ := hr
  refine kz_icmp_eq 755 753 dL_law_750 rfl rfl (fun _ => ?_) (fun q => absurd rfl q)
  exact nx _ _ f uc us (R1.mono (Nat.le_add_right _ _)) (by omega) (by omega)
theorem lw_c4 (hi : i + 6 ≤ N) (hN : N ≤ 3074) (R : Rel lim C M) (hlm : lim + 2000 < 2147483647) (hu : uc + 1 ≤ 601024 ∧ us + 6 ≤ 7292999) (nx : nxt b N i lim uc us xs o) : z_gk q_L_law false 272 (lL i) [] (wz C M o (zo f)) uc us (zQ b N xs) := by
  have v1 : vp_in (nI i + 1) N := by rw [ni_al]; exact (ni_in (by omega)).mpr (by show i + 1 < N; omega)
  have v2 : vp_in (nI i + 2) N := by rw [ni_al]; exact (ni_in (by omega)).mpr (by show i + 2 < N; omega)
  have v3 : vp_in (nI i + 3) N := by rw [ni_al]; exact (ni_in (by omega)).mpr (by show i + 3 < N; omega)
  have v4 : vp_in (nI i + 4) N := by rw [ni_al]; exact (ni_in (by omega)).mpr (by show i + 4 < N; omega)
  have v5 : vp_in (nI i + 5) N := by rw [ni_al]; exact (ni_in (by omega)).mpr (by show i + 5 < N; omega)
  have hc : uc ≤ (z_rm q_L_law).cells ∧ us ≤ (z_rm q_L_law).slots := ⟨by show uc ≤ 601024; omega, by show us ≤ 7292999; omega⟩
  obtain ⟨C1, M1, h2, R1, hx⟩ := c_begin R
  have hp : p_X10_begin C (fun C2 => C2 = C1 ∧ m_i M1 2 = 0) (fun E C2 => E = "java/lang/IllegalStateException" ∧ (C2 = C1 ∧ m_i M1 2 = 1)) := by
    rcases hx with ⟨hm, hx⟩ | ⟨hm, hx⟩
    · exact hx _ _ ⟨rfl, hm⟩
    · exact hx _ _ ⟨rfl, rfl, hm⟩
  refine kz_aload_n 1 273 dL_law_272 rfl rfl ?_
  refine k_callH [.ref 200] 276 dL_law_273 oL_55 ⟨by decide, by decide, by decide +kernel⟩ ⟨by decide, by decide⟩ rfl rfl (Nat.zero_le _) hu rfl (t_L_begin hp) (fun r w1 hr => ?_)
  have go : ∀ k : Int32, m_i M1 2 = k → z_gk q_L_law false 276 (lL i) [.int k] (wz C1 M o (zo f)) (uc + 1) (us + 6) (zQ b N xs) := by
    intro k hk
    have hc2 : uc + 1 ≤ (z_rm q_L_law).cells ∧ us + 6 ≤ (z_rm q_L_law).slots := hu
    refine kz_istore [(5, .int k), (0, .ref 199), (1, .ref 200), (2, .ref 233), (3, .ref 268), (4, .int (nI i))] 278 dL_law_276 (by decide) rfl rfl ?_
    refine kz_aload_n 3 279 dL_law_278 rfl rfl ?_
    refine kz_mvV [] 282 dL_law_279 oL_58 rfl rfl (Nat.zero_le _) rc_33 ⟨rfl, rfl⟩ hc2 rfl (t_X11_begin false C1 o (zo f) M (fun M2 => M2 = M1) (h2 _ rfl)) (fun M2 hr => ?_)
    subst hr
    refine kz_aload_n 3 283 dL_law_282 rfl rfl ?_
    refine kz_miV [] 286 dL_law_283 oL_59 rfl rfl (Nat.zero_le _) rc_33 ⟨rfl, rfl⟩ hc2 rfl (t_X11_thrown false C1 o (zo f) M2 (fun r3 M3 => r3 = k ∧ M3 = M2) ⟨hk, rfl⟩) (fun r3 M3 hr => ?_)
    obtain ⟨rfl, rfl⟩ := hr
    refine kz_iload 0 288 dL_law_286 rfl rfl ?_
    refine kz_icmp_eq 293 291 dL_law_288 rfl rfl (fun _ => ?_) (fun q => absurd rfl q)
    refine kz_goto 755 dL_law_293 rfl ?_
    refine kz_pick (lL i) [1, 2, 3, 4, 5] rfl ?_
    exact nx _ _ f (uc + 1) (us + 6) (R1.mono (Nat.le_add_right _ _)) (Nat.le_refl _) (Nat.le_refl _)
  rcases hr with ⟨C2, rfl, rfl, rfl, hm⟩ | ⟨C2, rfl, rfl, rfl, hm⟩
  · exact go 0 hm
  · exact go 1 hm
theorem lw_c5 (hi : i + 6 ≤ N) (hN : N ≤ 3074) (R : Rel lim C M) (hlm : lim + 2000 < 2147483647) (hu : uc + 1 ≤ 601024 ∧ us + 6 ≤ 7292999) (nx : nxt b N i lim uc us xs o) : z_gk q_L_law false 296 (lL i) [] (wz C M o (zo f)) uc us (zQ b N xs) := by
  have v1 : vp_in (nI i + 1) N := by rw [ni_al]; exact (ni_in (by omega)).mpr (by show i + 1 < N; omega)
  have v2 : vp_in (nI i + 2) N := by rw [ni_al]; exact (ni_in (by omega)).mpr (by show i + 2 < N; omega)
  have v3 : vp_in (nI i + 3) N := by rw [ni_al]; exact (ni_in (by omega)).mpr (by show i + 3 < N; omega)
  have v4 : vp_in (nI i + 4) N := by rw [ni_al]; exact (ni_in (by omega)).mpr (by show i + 4 < N; omega)
  have v5 : vp_in (nI i + 5) N := by rw [ni_al]; exact (ni_in (by omega)).mpr (by show i + 5 < N; omega)
  have hc : uc ≤ (z_rm q_L_law).cells ∧ us ≤ (z_rm q_L_law).slots := ⟨by show uc ≤ 601024; omega, by show us ≤ 7292999; omega⟩
  obtain ⟨e, C1, M1, h2, R1, hx⟩ := c_run R (by omega) (sa xs i 1)
  have hp : p_X10_run (sa xs i 1) C (fun v C2 => v = e ∧ C2 = C1 ∧ m_i M1 2 = 0) (fun E C2 => (E = "java/lang/IllegalArgumentException" ∧ (C2 = C1 ∧ m_i M1 2 = 1)) ∨ (E = "java/lang/IllegalStateException" ∧ (C2 = C1 ∧ m_i M1 2 = 2))) := by
    rcases hx with ⟨hm, hx⟩ | ⟨hm, hx⟩ | ⟨hm, hx⟩
    · exact hx _ _ ⟨rfl, rfl, hm⟩
    · exact hx _ _ (Or.inl ⟨rfl, rfl, hm⟩)
    · exact hx _ _ (Or.inr ⟨rfl, rfl, hm⟩)
  refine kz_aload_n 1 297 dL_law_296 rfl rfl ?_
  refine kz_aload_n 0 298 dL_law_297 rfl rfl ?_
  refine kz_iload 4 300 dL_law_298 rfl rfl ?_
  refine kz_iconst 1 301 dL_law_300 rfl rfl ?_
  refine kz_iadd 302 dL_law_301 rfl ?_
  refine k_sld 303 zQ_s dL_law_302 v1 rfl ?_
  refine kz_aload_n 3 304 dL_law_303 rfl rfl ?_
  refine k_callH (na := 3) [.ref 200, .int (sa xs i 1), .ref 268] 307 dL_law_304 oL_62 ⟨by decide, by decide, by decide +kernel⟩ ⟨by decide, by decide⟩ rfl rfl (Nat.zero_le _) hu rfl (t_L_run hp) (fun r w1 hr => ?_)
  have go : ∀ (k : Int32) (g : Nat → Int64), m_i M1 2 = k → (k = 0 → g 0 = (e : Int32).toInt64) → z_gk q_L_law false 307 (lL i) [.int k] (wz C1 M o (zo g)) (uc + 1) (us + 6) (zQ b N xs) := by
    intro k g hk hg
    have hc2 : uc + 1 ≤ (z_rm q_L_law).cells ∧ us + 6 ≤ (z_rm q_L_law).slots := hu
    refine kz_istore [(5, .int k), (0, .ref 199), (1, .ref 200), (2, .ref 233), (3, .ref 268), (4, .int (nI i))] 309 dL_law_307 (by decide) rfl rfl ?_
    refine kz_aload_n 3 310 dL_law_309 rfl rfl ?_
    refine kz_aload_n 1 311 dL_law_310 rfl rfl ?_
    refine kz_iload 5 313 dL_law_311 rfl rfl ?_
    refine kz_iconst 1 314 dL_law_313 rfl rfl ?_
    refine kz_iadd 315 dL_law_314 rfl ?_
    refine k_sld 316 zQ_s dL_law_315 v1 rfl ?_
    refine kz_miV [.int (sa xs i 1)] 319 dL_law_316 oL_65 rfl rfl (Nat.zero_le _) rc_33 ⟨rfl, rfl⟩ hc2 rfl (t_X11_run false C1 o (zo g) (sa xs i 1) M (fun r3 M2 => r3 = e ∧ M2 = M1) (h2 _ ⟨rfl, rfl⟩)) (fun r3 M2 hr => ?_)
    obtain ⟨rfl, rfl⟩ := hr
    refine kz_istore [(6, .int r3), (5, .int k), (0, .ref 199), (1, .ref 200), (2, .ref 233), (3, .ref 268), (4, .int (nI i))] 321 dL_law_319 (by decide) rfl rfl ?_
    refine kz_aload_n 4 322 dL_law_321 rfl rfl ?_
    refine kz_miV [] 325 dL_law_322 oL_59 rfl rfl (Nat.zero_le _) rc_33 ⟨rfl, rfl⟩ hc2 rfl (t_X11_thrown false C1 o (zo g) M2 (fun r4 M3 => r4 = k ∧ M3 = M2) ⟨hk, rfl⟩) (fun r4 M3 hr => ?_)
    obtain ⟨rfl, rfl⟩ := hr
    refine kz_iload 1 327 dL_law_325 rfl rfl ?_
    refine kz_icmp_eq 332 330 dL_law_327 rfl rfl (fun _ => ?_) (fun q => absurd rfl q)
    have fin : z_gk q_L_law false 349 [(6, .int r3), (5, .int r4), (0, .ref 199), (1, .ref 200), (2, .ref 233), (3, .ref 268), (4, .int (nI i))] [] (wz C1 M3 o (zo g)) (uc + 1) (us + 6) (zQ b N xs) := by
      refine kz_goto 755 dL_law_349 rfl ?_
      refine kz_pick (lL i) [2, 3, 4, 5, 6] rfl ?_
      exact nx _ _ g (uc + 1) (us + 6) R1 (Nat.le_refl _) (Nat.le_refl _)
    refine kz_iload 1 334 dL_law_332 rfl rfl ?_
    refine kz_if_ne 349 337 dL_law_334 rfl rfl (fun _ => fin) (fun h0 => ?_)
    refine kz_aload_n 5 338 dL_law_337 rfl rfl ?_
    refine kz_iconst 0 339 dL_law_338 rfl rfl ?_
    refine kz_lald 68 340 dL_law_339 rfl rfl ((ni_in (a := 0) (by decide)).mpr (by decide)) rfl ?_
    refine kz_iload 0 342 dL_law_340 rfl rfl ?_
    refine kz_i2l 343 dL_law_342 rfl ?_
    refine kz_lcmp 344 dL_law_343 rfl ?_
    refine kz_if_eq 349 347 dL_law_344 rfl rfl (fun _ => fin) (fun h1 => absurd ?_ h1)
    rw [lg_cmp_eq]
    exact hg h0
  rcases hr with ⟨v, C2, rfl, rfl, rfl, rfl, hm⟩ | ⟨C2, rfl, rfl, rfl, hm⟩ | ⟨C2, rfl, rfl, rfl, hm⟩
  · exact go 0 _ hm (fun _ => rfl)
  · exact go 1 _ hm (fun q => absurd q (by decide))
  · exact go 2 _ hm (fun q => absurd q (by decide))
theorem lw_c7 (hi : i + 6 ≤ N) (hN : N ≤ 3074) (R : Rel lim C M) (hlm : lim + 2000 < 2147483647) (hu : uc + 1 ≤ 601024 ∧ us + 6 ≤ 7292999) (nx : nxt b N i lim uc us xs o) : z_gk q_L_law false 377 (lL i) [] (wz C M o (zo f)) uc us (zQ b N xs) := by
  have v1 : vp_in (nI i + 1) N := by rw [ni_al]; exact (ni_in (by omega)).mpr (by show i + 1 < N; omega)
  have v2 : vp_in (nI i + 2) N := by rw [ni_al]; exact (ni_in (by omega)).mpr (by show i + 2 < N; omega)
  have v3 : vp_in (nI i + 3) N := by rw [ni_al]; exact (ni_in (by omega)).mpr (by show i + 3 < N; omega)
  have v4 : vp_in (nI i + 4) N := by rw [ni_al]; exact (ni_in (by omega)).mpr (by show i + 4 < N; omega)
  have v5 : vp_in (nI i + 5) N := by rw [ni_al]; exact (ni_in (by omega)).mpr (by show i + 5 < N; omega)
  have hc : uc ≤ (z_rm q_L_law).cells ∧ us ≤ (z_rm q_L_law).slots := ⟨by show uc ≤ 601024; omega, by show us ≤ 7292999; omega⟩
  obtain ⟨e, C1, M1, h2, R1, hx⟩ := c_said R (by omega) (sa xs i 1)
  have hp : p_X10_said (sa xs i 1) C (fun v C2 => v = e ∧ C2 = C1 ∧ m_i M1 2 = 0) (fun E C2 => E = "java/util/NoSuchElementException" ∧ (C2 = C1 ∧ m_i M1 2 = 1)) := by
    rcases hx with ⟨hm, hx⟩ | ⟨hm, hx⟩
    · exact hx _ _ ⟨rfl, rfl, hm⟩
    · exact hx _ _ ⟨rfl, rfl, hm⟩
  refine kz_aload_n 1 378 dL_law_377 rfl rfl ?_
  refine kz_aload_n 0 379 dL_law_378 rfl rfl ?_
  refine kz_iload 4 381 dL_law_379 rfl rfl ?_
  refine kz_iconst 1 382 dL_law_381 rfl rfl ?_
  refine kz_iadd 383 dL_law_382 rfl ?_
  refine k_sld 384 zQ_s dL_law_383 v1 rfl ?_
  refine kz_aload_n 3 385 dL_law_384 rfl rfl ?_
  refine k_callH (na := 3) [.ref 200, .int (sa xs i 1), .ref 268] 388 dL_law_385 oL_70 ⟨by decide, by decide, by decide +kernel⟩ ⟨by decide, by decide⟩ rfl rfl (Nat.zero_le _) hu rfl (t_L_said hp) (fun r w1 hr => ?_)
  have go : ∀ (k : Int32) (g : Nat → Int64), m_i M1 2 = k → (k = 0 → g 0 = (e : Int32).toInt64) → z_gk q_L_law false 388 (lL i) [.int k] (wz C1 M o (zo g)) (uc + 1) (us + 6) (zQ b N xs) := by
    intro k g hk hg
    have hc2 : uc + 1 ≤ (z_rm q_L_law).cells ∧ us + 6 ≤ (z_rm q_L_law).slots := hu
    refine kz_istore [(5, .int k), (0, .ref 199), (1, .ref 200), (2, .ref 233), (3, .ref 268), (4, .int (nI i))] 390 dL_law_388 (by decide) rfl rfl ?_
    refine kz_aload_n 3 391 dL_law_390 rfl rfl ?_
    refine kz_aload_n 1 392 dL_law_391 rfl rfl ?_
    refine kz_iload 5 394 dL_law_392 rfl rfl ?_
    refine kz_iconst 1 395 dL_law_394 rfl rfl ?_
    refine kz_iadd 396 dL_law_395 rfl ?_
    refine k_sld 397 zQ_s dL_law_396 v1 rfl ?_
    refine kz_miV [.int (sa xs i 1)] 400 dL_law_397 oL_72 rfl rfl (Nat.zero_le _) rc_33 ⟨rfl, rfl⟩ hc2 rfl (t_X11_said false C1 o (zo g) (sa xs i 1) M (fun r3 M2 => r3 = e ∧ M2 = M1) (h2 _ ⟨rfl, rfl⟩)) (fun r3 M2 hr => ?_)
    obtain ⟨rfl, rfl⟩ := hr
    refine kz_istore [(6, .int r3), (5, .int k), (0, .ref 199), (1, .ref 200), (2, .ref 233), (3, .ref 268), (4, .int (nI i))] 402 dL_law_400 (by decide) rfl rfl ?_
    refine kz_aload_n 4 403 dL_law_402 rfl rfl ?_
    refine kz_miV [] 406 dL_law_403 oL_59 rfl rfl (Nat.zero_le _) rc_33 ⟨rfl, rfl⟩ hc2 rfl (t_X11_thrown false C1 o (zo g) M2 (fun r4 M3 => r4 = k ∧ M3 = M2) ⟨hk, rfl⟩) (fun r4 M3 hr => ?_)
    obtain ⟨rfl, rfl⟩ := hr
    refine kz_iload 1 408 dL_law_406 rfl rfl ?_
    refine kz_icmp_eq 413 411 dL_law_408 rfl rfl (fun _ => ?_) (fun q => absurd rfl q)
    have fin : z_gk q_L_law false 430 [(6, .int r3), (5, .int r4), (0, .ref 199), (1, .ref 200), (2, .ref 233), (3, .ref 268), (4, .int (nI i))] [] (wz C1 M3 o (zo g)) (uc + 1) (us + 6) (zQ b N xs) := by
      refine kz_goto 755 dL_law_430 rfl ?_
      refine kz_pick (lL i) [2, 3, 4, 5, 6] rfl ?_
      exact nx _ _ g (uc + 1) (us + 6) (R1.mono (Nat.le_add_right _ _)) (Nat.le_refl _) (Nat.le_refl _)
    refine kz_iload 1 415 dL_law_413 rfl rfl ?_
    refine kz_if_ne 430 418 dL_law_415 rfl rfl (fun _ => fin) (fun h0 => ?_)
    refine kz_aload_n 5 419 dL_law_418 rfl rfl ?_
    refine kz_iconst 0 420 dL_law_419 rfl rfl ?_
    refine kz_lald 68 421 dL_law_420 rfl rfl ((ni_in (a := 0) (by decide)).mpr (by decide)) rfl ?_
    refine kz_iload 0 423 dL_law_421 rfl rfl ?_
    refine kz_i2l 424 dL_law_423 rfl ?_
    refine kz_lcmp 425 dL_law_424 rfl ?_
    refine kz_if_eq 430 428 dL_law_425 rfl rfl (fun _ => fin) (fun h1 => absurd ?_ h1)
    rw [lg_cmp_eq]
    exact hg h0
  rcases hr with ⟨v, C2, rfl, rfl, rfl, rfl, hm⟩ | ⟨C2, rfl, rfl, rfl, hm⟩
  · exact go 0 _ hm (fun _ => rfl)
  · exact go 1 _ hm (fun q => absurd q (by decide))
theorem lw_step (hi : i + 6 ≤ N) (hN : N ≤ 3074) (R : Rel lim C M) (hlm : lim + 2000 < 2147483647) (hu : uc + 1 ≤ 601024 ∧ us + 6 ≤ 7292999) (nx : nxt b N i lim uc us xs o) : z_gk q_L_law false 53 (lL i) [] (wz C M o (zo f)) uc us (zQ b N xs) := by
  refine kz_aload_n 0 54 dL_law_53 rfl rfl ?_
  refine kz_iload 4 56 dL_law_54 rfl rfl ?_
  refine k_sld 57 zQ_s dL_law_56 ((ni_in (by omega)).mpr (by omega)) rfl ?_
  refine kz_bipush 31 59 dL_law_57 rfl rfl ?_
  refine kz_iand 60 dL_law_59 rfl ?_
  obtain ⟨j, hj, he⟩ := pk_andE (xs (nI i).toNatClampNeg) (m := 31) 5 rfl
  rw [he]
  by_cases h18 : j < 18
  · have hc : j = 0 ∨ j = 1 ∨ j = 2 ∨ j = 3 ∨ j = 4 ∨ j = 5 ∨ j = 6 ∨ j = 7 ∨ j = 8 ∨ j = 9 ∨ j = 10 ∨ j = 11 ∨ j = 12 ∨ j = 13 ∨ j = 14 ∨ j = 15 ∨ j = 16 ∨ j = 17 := by omega
    rcases hc with rfl | rfl | rfl | rfl | rfl | rfl | rfl | rfl | rfl | rfl | rfl | rfl | rfl | rfl | rfl | rfl | rfl | rfl
    · exact kz_tabIn 148 dL_law_60 (by decide) (by decide) rfl rfl (lw_c0 hi hN R hlm hu nx)
    · exact kz_tabIn 221 dL_law_60 (by decide) (by decide) rfl rfl (lw_c1 hi hN R hlm hu nx)
    · exact kz_tabIn 246 dL_law_60 (by decide) (by decide) rfl rfl (lw_c2 hi hN R hlm hu nx)
    · exact kz_tabIn 259 dL_law_60 (by decide) (by decide) rfl rfl (lw_c3 hi hN R hlm hu nx)
    · exact kz_tabIn 272 dL_law_60 (by decide) (by decide) rfl rfl (lw_c4 hi hN R hlm hu nx)
    · exact kz_tabIn 296 dL_law_60 (by decide) (by decide) rfl rfl (lw_c5 hi hN R hlm hu nx)
    · exact kz_tabIn 352 dL_law_60 (by decide) (by decide) rfl rfl (lw_c6 hi hN R hlm hu nx)
    · exact kz_tabIn 377 dL_law_60 (by decide) (by decide) rfl rfl (lw_c7 hi hN R hlm hu nx)
    · exact kz_tabIn 433 dL_law_60 (by decide) (by decide) rfl rfl (lw_c8 hi hN R hlm hu nx)
    · exact kz_tabIn 494 dL_law_60 (by decide) (by decide) rfl rfl (lw_c9 hi hN R hlm hu nx)
    · exact kz_tabIn 519 dL_law_60 (by decide) (by decide) rfl rfl (lw_c10 hi hN R hlm hu nx)
    · exact kz_tabIn 532 dL_law_60 (by decide) (by decide) rfl rfl (lw_c11 hi hN R hlm hu nx)
    · exact kz_tabIn 557 dL_law_60 (by decide) (by decide) rfl rfl (lw_c12 hi hN R hlm hu nx)
    · exact kz_tabIn 594 dL_law_60 (by decide) (by decide) rfl rfl (lw_c13 hi hN R hlm hu nx)
    · exact kz_tabIn 631 dL_law_60 (by decide) (by decide) rfl rfl (lw_c14 hi hN R hlm hu nx)
    · exact kz_tabIn 680 dL_law_60 (by decide) (by decide) rfl rfl (lw_c15 hi hN R hlm hu nx)
    · exact kz_tabIn 705 dL_law_60 (by decide) (by decide) rfl rfl (lw_c16 hi hN R hlm hu nx)
    · exact kz_tabIn 730 dL_law_60 (by decide) (by decide) rfl rfl (lw_c17 hi hN R hlm hu nx)
  · refine kz_tabOut 755 dL_law_60 (Or.inr ?_) rfl (nx _ _ f uc us (R.mono (Nat.le_add_right _ _)) (by omega) (by omega))
    rw [nI_toInt (by omega)]
    omega
theorem lw_loop (hN : N ≤ 3074) : ∀ (d i : Nat) {C : cS} {M : mS} {f : Nat → Int64} {uc us lim : Nat}, N + 6 ≤ i + d → i ≤ N + 6 → Rel lim C M → lim ≤ 2000 * i → uc ≤ 69 + i → us ≤ 152093 + 6 * i → z_gk q_L_law false 43 (lL i) [] (wz C M o (zo f)) uc us (zQ b N xs) := by
  intro d
  induction d with
  | zero =>
    intro i C M f uc us lim hd hi R hl hu hs
    refine kz_iload 4 45 dL_law_43 rfl rfl ?_
    refine kz_aload_n 0 46 dL_law_45 rfl rfl ?_
    refine k_slen 47 zQ_s dL_law_46 rfl ?_
    refine kz_bipush 6 49 dL_law_47 rfl rfl ?_
    refine kz_isub 50 dL_law_49 rfl ?_
    refine kz_icmp_gt 761 53 dL_law_50 rfl rfl (fun _ => ?_) (fun q => absurd ?_ q)
    · refine kz_iconst 1 762 dL_law_761 rfl rfl ?_
      exact l_ret dL_law_762 ⟨by omega, by omega⟩
    · by_cases h6 : 6 ≤ N
      · rw [ni_sl (n := 6) h6, ni_lt (by show N - 6 < _; omega) (by omega)]
        show N - 6 < i
        omega
      · exact neg_lt (pk_sneg (a := N) (b := 6) (by decide) (by omega)) i (by omega)
  | succ d ih =>
    intro i C M f uc us lim hd hi R hl hu hs
    refine kz_iload 4 45 dL_law_43 rfl rfl ?_
    refine kz_aload_n 0 46 dL_law_45 rfl rfl ?_
    refine k_slen 47 zQ_s dL_law_46 rfl ?_
    refine kz_bipush 6 49 dL_law_47 rfl rfl ?_
    refine kz_isub 50 dL_law_49 rfl ?_
    refine kz_icmp_gt 761 53 dL_law_50 rfl rfl (fun _ => ?_) (fun q => ?_)
    · refine kz_iconst 1 762 dL_law_761 rfl rfl ?_
      exact l_ret dL_law_762 ⟨by omega, by omega⟩
    · have h6 : 6 ≤ N := by
        by_cases h6 : 6 ≤ N
        · exact h6
        · exact absurd (neg_lt (pk_sneg (a := N) (b := 6) (by decide) (by omega)) i (by omega)) q
      rw [ni_sl (n := 6) h6, ni_lt (by show N - 6 < _; omega) (by omega)] at q
      have q : ¬ N - 6 < i := q
      refine lw_step (by omega) hN R (by omega) ⟨by omega, by omega⟩ (fun C1 M1 f1 uc1 us1 R1 hu1 hs1 => ?_)
      refine kz_iinc (nI (i + 6)) [(4, .int (nI (i + 6))), (0, .ref 199), (1, .ref 200), (2, .ref 233), (3, .ref 268)] 4 758 dL_law_755 rfl ?_ (by decide) rfl rfl ?_
      · exact ni_al i 6
      · refine kz_goto 43 dL_law_758 rfl ?_
        refine kz_pick (lL (i + 6)) [1, 2, 3, 4, 0] rfl ?_
        exact ih (i + 6) (by omega) (by omega) R1 (by omega) (by omega) (by omega)
end ZL28
