/-! THE MEMORY: class and reference side by side -/
section ZR
/-- what a memory's act leaves -/
def wrC (C C1 : cS) : Prop := c_sz C1 = c_sz C ∧ c_cur C1 = c_cur C ∧ c_spa C1 = c_spa C ∧ c_rp C1 = c_rp C ∧ (∀ k, (k < 11 ∨ 15 < k) → c_i C1 k = c_i C k) ∧ (∀ k, (k < 10 ∨ 14 < k) → c_a C1 k = c_a C k) ∧ (∀ k, c_l C1 k = c_l C k) ∧ (∀ d, c_pn C1 d = c_pn C d) ∧ (∀ k d, c_pa C1 k d = c_pa C k d) ∧ (∀ d, c_pl C1 d = c_pl C d)
def wrM (M M1 : mS) : Prop := (∀ k, (k < 3 ∨ 18 < k) → m_i M1 k = m_i M k) ∧ (∀ k, 8 < k → m_a M1 k = m_a M k) ∧ (∀ k, m_l M1 k = m_l M k)
theorem wrC.rf (C : cS) : wrC C C := ⟨rfl, rfl, rfl, rfl, fun _ _ => rfl, fun _ _ => rfl, fun _ => rfl, fun _ => rfl, fun _ _ => rfl, fun _ => rfl⟩
theorem wrM.rf (M : mS) : wrM M M := ⟨fun _ _ => rfl, fun _ _ => rfl, fun _ => rfl⟩
theorem wrC.tr {C D E : cS} (h : wrC C D) (g : wrC D E) : wrC C E := by
  obtain ⟨h1, h2, h3, h4, h5, h6, h7, h8, h9, h10⟩ := h
  obtain ⟨g1, g2, g3, g4, g5, g6, g7, g8, g9, g10⟩ := g
  exact ⟨g1.trans h1, g2.trans h2, g3.trans h3, g4.trans h4, fun k q => (g5 k q).trans (h5 k q), fun k q => (g6 k q).trans (h6 k q), fun k => (g7 k).trans (h7 k), fun k => (g8 k).trans (h8 k), fun k d => (g9 k d).trans (h9 k d), fun k => (g10 k).trans (h10 k)⟩
theorem wrM.tr {C D E : mS} (h : wrM C D) (g : wrM D E) : wrM C E := by
  obtain ⟨h1, h2, h3⟩ := h
  obtain ⟨g1, g2, g3⟩ := g
  exact ⟨fun k q => (g1 k q).trans (h1 k q), fun k q => (g2 k q).trans (h2 k q), fun k => (g3 k).trans (h3 k)⟩
theorem wrC.i {C D : cS} {k : Nat} {v : Int32} (h : wrC C D) (hk : 11 ≤ k ∧ k ≤ 15) : wrC C (c_iS D k v) :=
  h.tr ⟨rfl, rfl, rfl, rfl, fun j q => by rw [cs_i_iS, if_neg (by omega)], fun _ _ => rfl, fun _ => rfl, fun _ => rfl, fun _ _ => rfl, fun _ => rfl⟩
theorem wrC.a {C D : cS} {k : Nat} {f : Nat → Int32} (h : wrC C D) (hk : 10 ≤ k ∧ k ≤ 14) : wrC C (c_aS D k f) :=
  h.tr ⟨rfl, rfl, rfl, rfl, fun _ _ => rfl, fun j q => by rw [cs_a_aS, if_neg (by omega)], fun _ => rfl, fun _ => rfl, fun _ _ => rfl, fun _ => rfl⟩
theorem wrC.u {C D : cS} {k : Nat} {x y : Int32} (h : wrC C D) (hk : 10 ≤ k ∧ k ≤ 14) : wrC C (c_aU D k x y) := wrC.a h hk
theorem wrM.i {C D : mS} {k : Nat} {v : Int32} (h : wrM C D) (hk : 3 ≤ k ∧ k ≤ 18) : wrM C (m_iS D k v) :=
  h.tr ⟨fun j q => by rw [ms_i_iS, if_neg (by omega)], fun _ _ => rfl, fun _ => rfl⟩
theorem wrM.a {C D : mS} {k : Nat} {f : Nat → Int32} (h : wrM C D) (hk : k ≤ 8) : wrM C (m_aS D k f) :=
  h.tr ⟨fun _ _ => rfl, fun j q => by rw [ms_a_aS, if_neg (by omega)], fun _ => rfl⟩
theorem wrM.u {C D : mS} {k : Nat} {x y : Int32} (h : wrM C D) (hk : k ≤ 8) : wrM C (m_aU D k x y) := wrM.a h hk
/-- .. the count of turns, too -/
def frC (C C1 : cS) : Prop := wrC C C1 ∧ c_a C1 14 4 = c_a C 14 4
def frM (M M1 : mS) : Prop := wrM M M1 ∧ m_i M1 10 = m_i M 10
theorem frC.rf (C : cS) : frC C C := ⟨wrC.rf C, rfl⟩
theorem frM.rf (M : mS) : frM M M := ⟨wrM.rf M, rfl⟩
theorem frC.tr {C D E : cS} (h : frC C D) (g : frC D E) : frC C E := ⟨h.1.tr g.1, g.2.trans h.2⟩
theorem frM.tr {C D E : mS} (h : frM C D) (g : frM D E) : frM C E := ⟨h.1.tr g.1, g.2.trans h.2⟩
theorem frC.i {C D : cS} {k : Nat} {v : Int32} (h : frC C D) (hk : 11 ≤ k ∧ k ≤ 15) : frC C (c_iS D k v) := ⟨h.1.i hk, h.2⟩
theorem frC.a {C D : cS} {k : Nat} {f : Nat → Int32} (h : frC C D) (hk : 10 ≤ k ∧ k ≤ 13) : frC C (c_aS D k f) := ⟨h.1.a ⟨hk.1, by omega⟩, by rw [cs_a_aS, if_neg (by omega)]; exact h.2⟩
theorem frC.u {C D : cS} {k : Nat} {x y : Int32} (h : frC C D) (hk : 10 ≤ k ∧ k ≤ 13) : frC C (c_aU D k x y) := frC.a h hk
theorem frC.c {C D : cS} {x y : Int32} (h : frC C D) (hx : 4 ≠ x.toNatClampNeg) : frC C (c_aU D 14 x y) := ⟨h.1.u (by decide), by rw [cs_a_aU, if_pos rfl, up_at, if_neg hx]; exact h.2⟩
theorem frM.i {C D : mS} {k : Nat} {v : Int32} (h : frM C D) (hk : 3 ≤ k ∧ k ≤ 18 ∧ k ≠ 10) : frM C (m_iS D k v) := ⟨h.1.i ⟨hk.1, hk.2.1⟩, by rw [ms_i_iS, if_neg (fun q => hk.2.2 q.symm)]; exact h.2⟩
theorem frM.a {C D : mS} {k : Nat} {f : Nat → Int32} (h : frM C D) (hk : k ≤ 8) : frM C (m_aS D k f) := ⟨h.1.a hk, h.2⟩
theorem frM.u {C D : mS} {k : Nat} {x y : Int32} (h : frM C D) (hk : k ≤ 8) : frM C (m_aU D k x y) := frM.a h hk
def gSc (C : cS) (M : mS) (sz pr fl pa ro h mm ps : Nat) : Prop :=
  (c_sz C = sz ∧ c_i C 9 = nI sz ∧ c_i C 11 = nI h ∧ c_i C 12 = nI pr ∧ c_i C 13 = nI fl ∧ c_i C 14 = nI pa ∧ c_i C 15 = nI ro) ∧ (m_i M 0 = nI sz ∧ m_i M 3 = nI h ∧ m_i M 4 = nI mm ∧ m_i M 5 = nI ps ∧ m_i M 6 = nI fl ∧ m_i M 7 = nI pa ∧ m_i M 8 = nI ro ∧ m_i M 9 = nI pr) ∧ h ≤ 50
def hv (pr s : Nat) : Int32 := if s = 1 then nI pr else if s = 2 then nI (1 - pr) else -1
def gT (m1 m2 m3 : Nat → Int32) (pr B O : Nat) (st ad sl : Nat → Nat) : Prop :=
  ∀ t, t < 1300 → m1 t = nI (sl t) ∧ m2 t = hv pr (st t) ∧ (st t = 1 → m3 t = nI (ad t - B)) ∧ (st t = 2 → m3 t = nI (ad t - O))
def gMv (mvd : Nat → Int32) (B fl pa mm ps : Nat) (st ad sl mv P : Nat → Nat) : Prop :=
  2 * mm ≤ fl ∧ ps ≤ mm ∧ P ps ≤ pa ∧ P 0 = 0 ∧ P mm = fl ∧ ∀ j, j < mm → mv j < 1300 ∧ mvd j = nI (mv j) ∧ st (mv j) = 1 ∧ ad (mv j) = B + P j ∧ P (j + 1) = P j + (sl (mv j) + 2)
def gC (C : cS) (M : mS) : Prop := c_a C 14 5 = m_i M 11 ∧ c_a C 14 7 = m_i M 13 ∧ c_a C 14 8 = m_i M 14 ∧ c_a C 14 9 = m_i M 15 ∧ c_a C 14 10 = m_i M 16 ∧ c_a C 14 11 = m_i M 17 ∧ c_a C 14 12 = m_i M 18
def RelM (C : cS) (M : mS) (sz pr B O fl pa ro h mm ps nx : Nat) (st ad sl mv P : Nat → Nat) : Prop :=
  Geo sz pr B O fl pa ro st ad sl ∧ gSc C M sz pr fl pa ro h mm ps ∧ gT (m_a M 1) (m_a M 2) (m_a M 3) pr B O st ad sl ∧ gH (c_a C 10) (c_a C 11) (m_a M 0) (m_a M 4) (m_a M 5) B O sz pa ro st ad sl ∧
  gR (c_a C 10) (c_a C 11) (c_a C 12) (c_a C 13) (m_a M 6) (m_a M 7) O sz st ad (8 + h) nx ∧ gMv (m_a M 8) B fl pa mm ps st ad sl mv P ∧ gC C M
theorem Geo.base {sz pr B O fl pa ro : Nat} {st ad sl : Nat → Nat} (G : Geo sz pr B O fl pa ro st ad sl) : pr * sz = B := by
  obtain ⟨-, g2 | g2, -⟩ := G
  · rw [g2.1, g2.2.1]; omega
  · rw [g2.1, g2.2.1]; omega
theorem hv_1 (pr : Nat) : hv pr 1 = nI pr := rfl
theorem hv_2 (pr : Nat) : hv pr 2 = nI (1 - pr) := rfl
theorem hv_0 (pr : Nat) : hv pr 0 = -1 := rfl
theorem hv_eq {pr s : Nat} (hp : pr ≤ 1) (hs : s ≤ 2) : hv pr s = nI pr ↔ s = 1 := by
  have h : s = 0 ∨ s = 1 ∨ s = 2 := by omega
  rcases h with rfl | rfl | rfl
  · rw [hv_0, ni_1m (by omega)]; simp
  · simp [hv_1]
  · rw [hv_2, ni_eq (by omega) (by omega)]; omega
section JM
variable {C : cS} {M : mS} {sz pr B O fl pa ro h mm ps nx v : Nat} {st ad sl mv P : Nat → Nat}
theorem gT.move {m1 m2 m3 m2' m3' : Nat → Int32} (G : Geo sz pr B O fl pa ro st ad sl) (hv : v < 1300) (e2 : m2' = upd m2 v (nI pr)) (e3 : m3' = upd m3 v (nI fl)) (T : gT m1 m2 m3 pr B O st ad sl) : gT m1 m2' m3' pr B O (nup st v 1) (nup ad v (B + fl)) sl := by
  subst e2 e3
  intro t ht
  rw [up_at, up_at]
  by_cases e : t = v
  · subst e
    rw [if_pos rfl, if_pos rfl, nup_s, nup_s, hv_1]
    exact ⟨(T t ht).1, rfl, fun _ => by rw [Nat.add_sub_cancel_left], fun q => by cases q⟩
  · rw [if_neg e, if_neg e, nup_o e, nup_o e]
    exact T t ht
theorem gMv.move {mvd mvd' : Nat → Int32} (hv : v < 1300) (h2 : st v = 2) (e : mvd' = upd mvd mm (nI v)) (V : gMv mvd B fl pa mm ps st ad sl mv P) : gMv mvd' B (fl + (sl v + 2)) pa (mm + 1) ps (nup st v 1) (nup ad v (B + fl)) sl (nup mv mm v) (nup P (mm + 1) (fl + (sl v + 2))) := by
  subst e
  obtain ⟨v1, v2, v3, v4, v5, v6⟩ := V
  refine ⟨by omega, by omega, ?_, ?_, nup_s _ _ _, fun j hj => ?_⟩
  · rw [nup_o (by omega)]; exact v3
  · rw [nup_o (by omega)]; exact v4
  · by_cases e : j = mm
    · subst e
      rw [nup_s, nup_s, nup_s, nup_s, nup_o (by omega), up_at, if_pos rfl]
      exact ⟨hv, rfl, rfl, by omega, by omega⟩
    · obtain ⟨w1, w2, w3, w4, w5⟩ := v6 j (by omega)
      have e3 : mv j ≠ v := fun q => by rw [q] at w3; omega
      rw [nup_o e, nup_o e3, nup_o e3, nup_o (by omega), nup_o (by omega), up_at, if_neg e]
      exact ⟨w1, w2, w3, w4, w5⟩
/-- MOVE's loop: word by word -/
theorem cpy_0 (f : Nat → Int32) (a b : Nat) : va_cpy f f a b 0 = f := by
  funext j
  rw [cpy_at, if_neg (by omega)]
theorem cpy_1 {f : Nat → Int32} {a b i : Nat} (h : a + i < b ∨ b + i ≤ a + i) : upd (va_cpy f f a b i) (b + i) (va_cpy f f a b i (a + i)) = va_cpy f f a b (i + 1) := by
  funext j
  rw [up_at, cpy_at, cpy_at, cpy_at]
  by_cases e : j = b + i
  · subst e
    rw [if_pos rfl, if_neg (by omega), if_pos (by omega)]
    congr 1
    omega
  · rw [if_neg e]
    by_cases e2 : b ≤ j ∧ j < b + i
    · rw [if_pos e2, if_pos (by omega)]
    · rw [if_neg e2, if_neg (by omega)]
def c_cp (C : cS) (a b n : Nat) : cS := c_aS (c_aS C 10 (va_cpy (c_a C 10) (c_a C 10) a b n)) 11 (va_cpy (c_a C 11) (c_a C 11) a b n)
theorem c_cp_0 (C : cS) (a b : Nat) : c_cp C a b 0 = C := by
  unfold c_cp
  rw [cpy_0, cpy_0]
  obtain ⟨c1, c2, c3, c4, c5⟩ := C
  refine congrArg (fun z => (c1, c2, c3, z, c5)) ?_
  funext q
  show (if q = 11 then c4 11 else if q = 10 then c4 10 else c4 q) = c4 q
  by_cases e : q = 11
  · rw [if_pos e, e]
  · rw [if_neg e]
    by_cases e2 : q = 10
    · rw [if_pos e2, e2]
    · rw [if_neg e2]
theorem c_cp_1 {C : cS} {a b i : Nat} (h : a + i < b ∨ b + i ≤ a + i) (ha : a + i < 2147483648) (hb : b + i < 2147483648) :
    c_aU (c_aU (c_cp C a b i) 10 (nI (b + i)) (c_a (c_cp C a b i) 10 (nI (a + i)).toNatClampNeg)) 11 (nI (b + i)) (c_a (c_cp C a b i) 11 (nI (a + i)).toNatClampNeg) = c_cp C a b (i + 1) := by
  have e1 : c_a (c_cp C a b i) 10 = va_cpy (c_a C 10) (c_a C 10) a b i := rfl
  have e2 : c_a (c_cp C a b i) 11 = va_cpy (c_a C 11) (c_a C 11) a b i := rfl
  rw [ni_cl ha]
  unfold c_aU
  rw [ni_cl hb]
  have e3 : c_a (c_aS (c_cp C a b i) 10 (upd (c_a (c_cp C a b i) 10) (b + i) (c_a (c_cp C a b i) 10 (a + i)))) 11 = va_cpy (c_a C 11) (c_a C 11) a b i := rfl
  rw [e3, e1, e2, cpy_1 h, cpy_1 h]
  obtain ⟨c1, c2, c3, c4, c5⟩ := C
  refine congrArg (fun z => (c1, c2, c3, z, c5)) ?_
  funext q
  by_cases k : q = 11
  · subst k; rfl
  · by_cases k2 : q = 10
    · subst k2; rfl
    · show (if q = 11 then _ else if q = 10 then _ else if q = 11 then _ else if q = 10 then _ else c4 q) = (if q = 11 then _ else if q = 10 then _ else c4 q)
      rw [if_neg k, if_neg k2, if_neg k, if_neg k2, if_neg k, if_neg k2]
theorem j_cp {Q : Int32 → cS → Prop} {K : Int32 → Int32 → Int32 → cS → Prop} {C : cS} {a b m N : Nat} (hN : c_sz C = N) (hN2 : 2 * N < 2147483648) (ha : a + m ≤ 2 * N) (hb : b + m ≤ 2 * N) (hd : a + m ≤ b ∨ b + m ≤ a)
    (hK : K (nI a) (nI m) (nI b) (c_cp C a b m)) : ∀ n i, i + n = m → w_X3_move_53 Q K (n + 1) (nI a) (nI m) (nI b) (nI i) (c_cp C a b i) := by
  intro n
  induction n with
  | zero =>
    intro i hi
    have e : i = m := by omega
    subst e
    exact ⟨fun _ => hK, fun q => absurd ((ni_le (by omega) (by omega)).mpr (Nat.le_refl _)) q⟩
  | succ n ih =>
    intro i hi
    have hs : c_sz (c_cp C a b i) = N := hN
    refine ⟨fun q => absurd ((ni_le (by omega) (by omega)).mp q) (by omega), fun _ => ?_⟩
    rw [hs, nI_add, nI_add]
    refine ⟨(ni_in (by omega)).mpr (by omega), (ni_in (by omega)).mpr (by omega), fun w hw => ?_⟩
    have hw : w = nI (i + 1) := by rw [hw]; exact nI_add _ _
    subst hw
    rw [c_cp_1 (by omega) (by omega) (by omega)]
    exact ih (i + 1) (by omega)
/-- MOVE, where there is room -/
theorem j_move (R : RelM C M sz pr B O fl pa ro h mm ps nx st ad sl mv P) (hv : v < 1300) (h2 : st v = 2) (hf : fl + (sl v + 2) ≤ ro) :
    ∃ C1 M1, (∀ Q, Q (nI (B + fl)) C1 → p_X3_move (nI (ad v)) C Q) ∧ (∀ Q, Q 1 M1 → p_X11_move (nI v) M Q) ∧
      RelM C1 M1 sz pr B O (fl + (sl v + 2)) pa ro h (mm + 1) ps nx (nup st v 1) (nup ad v (B + fl)) sl (nup mv mm v) (nup P (mm + 1) (fl + (sl v + 2))) ∧
      frC C C1 ∧ frM M M1 ∧ (c_a C1 14 6 = c_a C 14 6 ∧ m_i M1 12 = m_i M 12) ∧ (c_a C1 12 = c_a C 12 ∧ c_a C1 13 = c_a C 13) ∧ (m_a M1 0 = m_a M 0 ∧ m_a M1 4 = m_a M 4 ∧ m_a M1 5 = m_a M 5 ∧ m_a M1 6 = m_a M 6 ∧ m_a M1 7 = m_a M 7) := by
  obtain ⟨G, ⟨⟨s0, s9, s11, s12, s13, s14, s15⟩, ⟨z0, z3, z4, z5, z6, z7, z8, z9⟩, hh⟩, T, H, Rt, V, K⟩ := R
  have hbase := G.base
  obtain ⟨g1, g2, g3, g4, g5, g6, g7, g8, g9⟩ := id G
  have hv2 := g6 v hv h2
  have hsl := (g4 v hv).1
  have hmm := V.1
  have q1 := (H v hv (by omega)).2.1
  have b1 : ad v < 2147483648 := by omega
  have b2 : sl v + 2 < 2147483648 := by omega
  have b3 : B + fl < 2147483648 := by omega
  refine ⟨c_aU (c_iS (c_aU (c_aU (c_aS (c_aS C 10 (va_cpy (c_a C 10) (c_a C 10) (ad v) (B + fl) (sl v + 2))) 11 (va_cpy (c_a C 11) (c_a C 11) (ad v) (B + fl) (sl v + 2))) 10 (nI (ad v)) 6) 11 (nI (ad v)) (nI (B + fl))) 13 (nI (fl + (sl v + 2)))) 14 5 (((c_a C 14) (5 : Int32).toNatClampNeg) + 1),
    m_iS (m_iS (m_aU (m_iS (m_aU (m_aU M 2 (nI v) (nI pr)) 3 (nI v) (nI fl)) 6 (nI (fl + (sl v + 2)))) 8 (nI mm) (nI v)) 4 (nI (mm + 1))) 11 (m_i M 11 + 1), ?_, ?_, ?_, ?_, ?_, ⟨rfl, rfl⟩, ⟨rfl, rfl⟩, ⟨rfl, rfl, rfl, rfl, rfl⟩⟩
  · intro Q hQ
    refine ⟨(ni_in b1).mpr (by omega), fun w hw => ?_⟩
    have hw : w = nI (sl v + 2) := by rw [hw, ni_cl b1, q1]; exact nI_add _ _
    subst hw
    rw [s13, s15, nI_add]
    refine ⟨fun _ a ha => ?_, fun q => absurd ((ni_le (by omega) (by omega)).mpr hf) q⟩
    have ha : a = nI (B + fl) := by rw [ha, s12, s9, pk_mul, nI_add, hbase]
    subst ha
    refine ⟨sl v + 2 + 1, ?_⟩
    have k := j_cp (Q := Q) (K := fun lz9 lz10 lz11 Cz12 => vp_in lz9 (2 * c_sz Cz12) ∧ Q lz11 (c_aU (c_iS (c_aU (c_aU Cz12 10 lz9 6) 11 lz9 lz11) 13 ((c_i Cz12 13) + lz10)) 14 5 (((c_a Cz12 14) (5 : Int32).toNatClampNeg) + 1))) (C := C) (a := ad v) (b := B + fl) (m := sl v + 2) s0 (by omega) (by omega) (by omega) (by omega) ⟨by rw [show c_sz (c_cp C (ad v) (B + fl) (sl v + 2)) = sz from s0]; exact (ni_in b1).mpr (by omega), by
      rw [show c_i (c_cp C (ad v) (B + fl) (sl v + 2)) 13 = nI fl from s13, nI_add]
      exact hQ⟩ (sl v + 2) 0 (by omega)
    rw [c_cp_0] at k
    exact k
  · intro Q hQ
    obtain ⟨t1, t2, t3⟩ := T v hv
    have hin : vp_in (nI v) 1300 := (ni_in (by omega)).mpr hv
    have ht : m_a M 1 (nI v).toNatClampNeg + 2 = nI (sl v + 2) := by rw [ni_cl (by omega), t1]; exact nI_add _ _
    refine ⟨hin, ?_⟩
    rw [ht]
    dsimp only
    rw [z6, z8, nI_add]
    refine ⟨fun _ => ⟨hin, hin, ?_⟩, fun q => absurd ((ni_le (by omega) (by omega)).mpr hf) q⟩
    refine ⟨by show vp_in (m_i M 4) 1300; rw [z4]; exact (ni_in (by omega)).mpr (by omega), ?_⟩
    have e1 : nI fl + (m_a (m_aU (m_aU M 2 (nI v) (m_i M 9)) 3 (nI v) (nI fl)) 1 (nI v).toNatClampNeg + 2) = nI (fl + (sl v + 2)) := by
      show nI fl + (m_a M 1 (nI v).toNatClampNeg + 2) = _
      rw [ht, nI_add]
    rw [z9] at e1 ⊢
    rw [e1]
    have e2 : m_i (m_aU (m_aU M 2 (nI v) (nI pr)) 3 (nI v) (nI fl)) 4 = nI mm := z4
    rw [e2, ni_al]
    exact hQ
  · have tg' : c_a (c_aU (c_iS (c_aU (c_aU (c_aS (c_aS C 10 (va_cpy (c_a C 10) (c_a C 10) (ad v) (B + fl) (sl v + 2))) 11 (va_cpy (c_a C 11) (c_a C 11) (ad v) (B + fl) (sl v + 2))) 10 (nI (ad v)) 6) 11 (nI (ad v)) (nI (B + fl))) 13 (nI (fl + (sl v + 2)))) 14 5 (((c_a C 14) (5 : Int32).toNatClampNeg) + 1)) 10 = upd (va_cpy (c_a C 10) (c_a C 10) (ad v) (B + fl) (sl v + 2)) (ad v) 6 := by
      show upd _ (nI (ad v)).toNatClampNeg 6 = _
      rw [ni_cl b1]
      rfl
    have va' : c_a (c_aU (c_iS (c_aU (c_aU (c_aS (c_aS C 10 (va_cpy (c_a C 10) (c_a C 10) (ad v) (B + fl) (sl v + 2))) 11 (va_cpy (c_a C 11) (c_a C 11) (ad v) (B + fl) (sl v + 2))) 10 (nI (ad v)) 6) 11 (nI (ad v)) (nI (B + fl))) 13 (nI (fl + (sl v + 2)))) 14 5 (((c_a C 14) (5 : Int32).toNatClampNeg) + 1)) 11 = upd (va_cpy (c_a C 11) (c_a C 11) (ad v) (B + fl) (sl v + 2)) (ad v) (nI (B + fl)) := by
      show upd _ (nI (ad v)).toNatClampNeg _ = _
      rw [ni_cl b1]
      rfl
    have hvc : (nI v).toNatClampNeg = v := ni_cl (by omega)
    have hmc : (nI mm).toNatClampNeg = mm := ni_cl (by omega)
    refine ⟨G.move hv h2 hf, ⟨⟨s0, s9, s11, s12, rfl, s14, s15⟩, ⟨z0, z3, rfl, z5, rfl, z7, z8, z9⟩, hh⟩, ?_, ?_, ?_, ?_, ?_⟩
    · refine gT.move G hv ?_ ?_ T
      · show upd (m_a M 2) (nI v).toNatClampNeg (nI pr) = _
        rw [hvc]
      · show upd (m_a M 3) (nI v).toNatClampNeg (nI fl) = _
        rw [hvc]
    · exact gH.move G hv h2 hf tg' va' H
    · exact gR.move G hv h2 hf tg' va' H Rt
    · refine gMv.move hv h2 ?_ V
      show upd (m_a M 8) (nI mm).toNatClampNeg (nI v) = _
      rw [hmc]
    · obtain ⟨k2, k3⟩ := K
      exact ⟨congrArg (· + 1) k2, k3⟩
  · exact ((((((frC.rf C).a (by decide)).a (by decide)).u (by decide)).u (by decide)).i (by decide)).c (by decide)
  · exact ((((((frM.rf M).u (by decide)).u (by decide)).i (by decide)).u (by decide)).i (by decide)).i (by decide)
/-- MOVE, where there is none: SPENT -/
theorem j_spent (R : RelM C M sz pr B O fl pa ro h mm ps nx st ad sl mv P) (hv : v < 1300) (h2 : st v = 2) (hf : ¬ fl + (sl v + 2) ≤ ro) :
    ∃ C1 M1, (∀ Q, Q (-1) C1 → p_X3_move (nI (ad v)) C Q) ∧ (∀ Q, Q 0 M1 → p_X11_move (nI v) M Q) ∧ RelM C1 M1 sz pr B O fl pa ro h mm ps nx st ad sl mv P ∧
      frC C C1 ∧ frM M M1 ∧ (c_a C1 14 6 = c_a C 14 6 ∧ m_i M1 12 = m_i M 12) ∧ (∀ k, m_a M1 k = m_a M k) ∧ (∀ k, k < 14 → c_a C1 k = c_a C k) := by
  obtain ⟨G, ⟨⟨s0, s9, s11, s12, s13, s14, s15⟩, ⟨z0, z3, z4, z5, z6, z7, z8, z9⟩, hh⟩, T, H, Rt, V, K⟩ := R
  obtain ⟨g1, g2, g3, g4, g5, g6, g7, g8, g9⟩ := id G
  have hv2 := g6 v hv h2
  have hsl := (g4 v hv).1
  have q1 := (H v hv (by omega)).2.1
  have b1 : ad v < 2147483648 := by omega
  refine ⟨c_aU C 14 8 (((c_a C 14) (8 : Int32).toNatClampNeg) + 1), m_iS M 14 (m_i M 14 + 1), ?_, ?_, ?_, (frC.rf C).c (by decide), (frM.rf M).i (by decide), ⟨rfl, rfl⟩, fun _ => rfl, fun k q => by rw [cs_a_aU, if_neg (by omega)]⟩
  · intro Q hQ
    refine ⟨(ni_in b1).mpr (by omega), fun w hw => ?_⟩
    have hw : w = nI (sl v + 2) := by rw [hw, ni_cl b1, q1]; exact nI_add _ _
    subst hw
    rw [s13, s15, nI_add]
    exact ⟨fun q => absurd ((ni_le (by omega) (by omega)).mp q) hf, fun _ => hQ⟩
  · intro Q hQ
    obtain ⟨t1, t2, t3⟩ := T v hv
    have hin : vp_in (nI v) 1300 := (ni_in (by omega)).mpr hv
    have ht : m_a M 1 (nI v).toNatClampNeg + 2 = nI (sl v + 2) := by rw [ni_cl (by omega), t1]; exact nI_add _ _
    refine ⟨hin, ?_⟩
    rw [ht]
    dsimp only
    rw [z6, z8, nI_add]
    exact ⟨fun q => absurd ((ni_le (by omega) (by omega)).mp q) hf, fun _ => hQ⟩
  · obtain ⟨k2, k3, k4, k5⟩ := K
    exact ⟨G, ⟨⟨s0, s9, s11, s12, s13, s14, s15⟩, ⟨z0, z3, z4, z5, z6, z7, z8, z9⟩, hh⟩, T, H, Rt, V, k2, k3, congrArg (· + 1) k4, k5⟩
end JM
end ZR
