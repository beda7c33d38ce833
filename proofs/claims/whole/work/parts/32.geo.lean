/-! THE MEMORY, the pure part: a slot is written, a word passed, a turn, a making -/
section ZG2
variable {sz pr B O fl pa ro t i n nx : Nat} {st ad sl : Nat → Nat} {tg va tg' va' row row' so vl so' vl' rt rv ms mr rt' rv' ms' mr' : Nat → Int32} {x y s b : Int32}
theorem gR.congr (hq : ∀ f, O ≤ f → f < O + sz → tg' f = tg f ∧ va' f = va f) (h : gR tg va rt rv ms mr O sz st ad n nx) : gR tg' va' rt rv ms mr O sz st ad n nx :=
  fun r hr => ⟨(h r hr).1.congr hq, (h r hr).2⟩
theorem gR.put {r : Nat} (hE : gE st ad x y s b) (h1 : rt' = upd rt r x) (h2 : rv' = upd rv r y) (h3 : ms' = upd ms r s) (h4 : mr' = upd mr r b) (h : gR tg va rt rv ms mr O sz st ad n nx) : gR tg va rt' rv' ms' mr' O sz st ad n nx := by
  subst h1 h2 h3 h4
  intro q hq
  rw [up_at, up_at, up_at, up_at]
  by_cases e : q = r
  · rw [if_pos e, if_pos e, if_pos e, if_pos e]; exact ⟨hE.w, fun _ => hE⟩
  · rw [if_neg e, if_neg e, if_neg e, if_neg e]; exact h q hq
/-- root r has been brought -/
theorem gR.bring {r : Nat} (hE : gE st ad x y s b) (h1 : rt' = upd rt r x) (h2 : rv' = upd rv r y) (h3 : ms' = upd ms r s) (h4 : mr' = upd mr r b) (h : gR tg va rt rv ms mr O sz st ad n r) : gR tg va rt' rv' ms' mr' O sz st ad n (r + 1) := by
  subst h1 h2 h3 h4
  intro q hq
  rw [up_at, up_at, up_at, up_at]
  by_cases e : q = r
  · rw [if_pos e, if_pos e, if_pos e, if_pos e]; exact ⟨hE.w, fun _ => hE⟩
  · rw [if_neg e, if_neg e, if_neg e, if_neg e]; exact ⟨(h q hq).1, fun k => (h q hq).2 (by omega)⟩
theorem put_old (G : Geo sz pr B O fl pa ro st ad sl) (ht : t < 1300) (h1 : st t = 1) (hi : i < sl t) (ht' : tg' = upd tg (ad t + 2 + i) x) (hv' : va' = upd va (ad t + 2 + i) y) : ∀ f, O ≤ f → f < O + sz → tg' f = tg f ∧ va' f = va f := by
  obtain ⟨g1, g2, g3, g4, g5, g6, g7, g8, g9⟩ := G
  intro f h2 h3
  have := g5 t ht h1
  subst ht' hv'
  rw [up_at, up_at, if_neg (by omega), if_neg (by omega)]
  exact ⟨rfl, rfl⟩
theorem gH.put (G : Geo sz pr B O fl pa ro st ad sl) (ht : t < 1300) (h1 : st t = 1) (hi : i < sl t) (hE : gE st ad x y s b) (ht' : tg' = upd tg (ad t + 2 + i) x) (hv' : va' = upd va (ad t + 2 + i) y) (hs' : so' = upd so (40 * t + i) s) (hl' : vl' = upd vl (40 * t + i) b)
    (h : gH tg va row so vl B O sz pa ro st ad sl) : gH tg' va' row so' vl' B O sz pa ro st ad sl := by
  have hold := put_old G ht h1 hi ht' hv'
  obtain ⟨g1, g2, g3, g4, g5, g6, g7, g8, g9⟩ := G
  have a5 := g5 t ht h1
  have a4 := g4 t ht
  intro u hu h0
  have b4 := g4 u hu
  have far : ∀ j, j < sl u + 2 → (u = t → j ≠ 2 + i) → ad u + j ≠ ad t + 2 + i := by
    intro j hj hne
    by_cases e : u = t
    · have := hne e; subst e; omega
    · have hc : st u = 1 ∨ st u = 2 := by omega
      rcases hc with hc | hc
      · have := g7 u t hu ht e (hc.trans h1.symm) h0; omega
      · have := g6 u hu hc; omega
  have ctg : ∀ j, j < sl u + 2 → (u = t → j ≠ 2 + i) → tg' (ad u + j) = tg (ad u + j) := fun j hj hne => by rw [ht', up_at, if_neg (far j hj hne)]
  have cva : ∀ j, j < sl u + 2 → (u = t → j ≠ 2 + i) → va' (ad u + j) = va (ad u + j) := fun j hj hne => by rw [hv', up_at, if_neg (far j hj hne)]
  obtain ⟨q1, q2, q3, q4⟩ := h u hu h0
  refine ⟨?_, ?_, ?_, fun j hj => ?_⟩
  · have := ctg 0 (by omega) (by omega); rw [Nat.add_zero] at this; rw [this]; exact q1
  · have := cva 0 (by omega) (by omega); rw [Nat.add_zero] at this; rw [this]; exact q2
  · rw [ctg 1 (by omega) (by omega)]; exact q3
  · by_cases e : u = t ∧ j = i
    · obtain ⟨e1, e2⟩ := e
      subst e1 e2
      rw [ht', hv', hs', hl', up_at, up_at, up_at, up_at, if_pos rfl, if_pos rfl, if_pos rfl, if_pos rfl]
      exact ⟨hE.w, fun _ _ => hE⟩
    · have e1 := ctg (2 + j) (by omega) (fun q w => e ⟨q, by omega⟩)
      have e2 := cva (2 + j) (by omega) (fun q w => e ⟨q, by omega⟩)
      rw [← Nat.add_assoc] at e1 e2
      have e3 : 40 * u + j ≠ 40 * t + i := fun q => e (by omega)
      rw [e1, e2, hs', hl', up_at, up_at, if_neg e3, if_neg e3]
      exact ⟨(q4 j hj).1.congr hold, (q4 j hj).2⟩
theorem Geo.pass (G : Geo sz pr B O fl pa ro st ad sl) (h : pa < fl) : Geo sz pr B O fl (pa + 1) ro st ad sl := by
  obtain ⟨g1, g2, g3, g4, g5, g6, g7, g8, g9⟩ := G
  exact ⟨g1, g2, by omega, g4, g5, g6, g7, g8, g9⟩
theorem gH.pass (h : gH tg va row so vl B O sz pa ro st ad sl) (hx : ∀ t i, t < 1300 → st t = 1 → i < sl t → ad t + 2 + i = B + pa → gE st ad (tg (ad t + 2 + i)) (va (ad t + 2 + i)) (so (40 * t + i)) (vl (40 * t + i))) : gH tg va row so vl B O sz (pa + 1) ro st ad sl := by
  intro t ht h0
  obtain ⟨q1, q2, q3, q4⟩ := h t ht h0
  refine ⟨q1, q2, q3, fun i hi => ⟨(q4 i hi).1, fun h1 hk => ?_⟩⟩
  by_cases e : ad t + 2 + i = B + pa
  · exact hx t i ht h1 hi e
  · exact (q4 i hi).2 h1 (by omega)
theorem tst_1 (t : Nat) : tst st t ≠ 1 := by unfold tst; split <;> decide
theorem tst_2 {t : Nat} (h : tst st t = 2) : st t = 1 := by unfold tst at h; split at h; assumption; cases h
theorem tst_n {t : Nat} (h : tst st t ≠ 0) : st t = 1 := by unfold tst at h; split at h; assumption; exact absurd rfl h
theorem tst_of {t : Nat} (h : st t = 1) : tst st t = 2 := by unfold tst; rw [if_pos h]
theorem Geo.turn (G : Geo sz pr B O fl pa ro st ad sl) : Geo sz (1 - pr) O B 0 0 sz (tst st) ad sl := by
  obtain ⟨g1, g2, g3, g4, g5, g6, g7, g8, g9⟩ := G
  have hw := zW_turn (st := st) (sl := sl)
  refine ⟨g1, by omega, by omega, fun t ht => ⟨(g4 t ht).1, ?_⟩, fun t ht h => absurd h (tst_1 t), fun t ht h => ?_, fun t u ht hu hne h h0 => ?_, by omega, by omega⟩
  · unfold tst; split <;> omega
  · have := g5 t ht (tst_2 h); omega
  · have h1 := tst_n h0
    have h2 := tst_n (fun q => h0 (h.trans q))
    exact g7 t u ht hu hne (h1.trans h2.symm) (by omega)
theorem gE.turn (h : gE st ad x y s b) : gW tg va O sz (tst st) ad x y s b := by
  obtain ⟨h1, h2 | h2 | ⟨h2, u, h3, h4, h5, h6⟩⟩ := h
  · exact ⟨h1, Or.inl h2⟩
  · exact ⟨h1, Or.inr (Or.inl h2)⟩
  · exact ⟨h1, Or.inr (Or.inr ⟨h2, u, h3, h4, Or.inl ⟨Or.inr (tst_of h5), h6⟩⟩)⟩
theorem gH.turn (G : Geo sz pr B O fl fl ro st ad sl) (h : gH tg va row so vl B O sz fl ro st ad sl) : gH tg va row so vl O B sz 0 sz (tst st) ad sl := by
  obtain ⟨g1, g2, g3, g4, g5, g6, g7, g8, g9⟩ := G
  intro t ht h0
  have h1 := tst_n h0
  obtain ⟨q1, q2, q3, q4⟩ := h t ht (by omega)
  refine ⟨q1, q2, q3, fun i hi => ⟨((q4 i hi).2 h1 ?_).turn, fun q => absurd q (tst_1 t)⟩⟩
  have := g5 t ht h1
  omega
theorem gR.turn (h : gR tg va rt rv ms mr O sz st ad n n) : gR tg va rt rv ms mr B sz (tst st) ad n 0 :=
  fun r hr => ⟨((h r hr).2 hr).turn, fun q => by omega⟩
/-! a thing t is made, with n slots -/
theorem Geo.lay (G : Geo sz pr B O fl pa ro st ad sl) (ht : t < 1300) (h0 : st t = 0) (hn : n ≤ 40) (hr : n + 2 ≤ ro - fl) : Geo sz pr B O fl pa (ro - (n + 2)) (nup st t 1) (nup ad t (B + (ro - (n + 2)))) (nup sl t n) := by
  obtain ⟨g1, g2, g3, g4, g5, g6, g7, g8, g9⟩ := G
  have hw := zW_make (sl := sl) (n := n) ht h0
  refine ⟨g1, g2, by omega, fun u hu => ?_, fun u hu h => ?_, fun u hu h => ?_, fun u w hu hw hne h hz => ?_, by omega, by omega⟩
  · by_cases e : u = t
    · rw [e, nup_s, nup_s]; omega
    · rw [nup_o e, nup_o e]; exact g4 u hu
  · by_cases e : u = t
    · rw [e, nup_s, nup_s]; omega
    · rw [nup_o e] at h
      rw [nup_o e, nup_o e]
      have := g5 u hu h
      omega
  · by_cases e : u = t
    · rw [e, nup_s] at h; omega
    · rw [nup_o e] at h
      rw [nup_o e, nup_o e]
      exact g6 u hu h
  · by_cases e : u = t
    · have e2 : w ≠ t := fun q => hne (e.trans q.symm)
      rw [e, nup_s, nup_o e2] at h
      rw [e, nup_s, nup_s, nup_o e2, nup_o e2]
      have := g5 w hw h.symm
      omega
    · by_cases e2 : w = t
      · rw [e2, nup_s, nup_o e] at h
        rw [e2, nup_s, nup_s, nup_o e, nup_o e]
        have := g5 u hu h
        omega
      · rw [nup_o e, nup_o e2] at h
        rw [nup_o e] at hz
        rw [nup_o e, nup_o e2, nup_o e, nup_o e2]
        exact g7 u w hu hw hne h hz
theorem gE.lay {a : Nat} (h0 : st t = 0) (h : gE st ad x y s b) : gE (nup st t 1) (nup ad t a) x y s b := by
  obtain ⟨h1, h2 | h2 | ⟨h2, u, h3, h4, h5, h6⟩⟩ := h
  · exact ⟨h1, Or.inl h2⟩
  · exact ⟨h1, Or.inr (Or.inl h2)⟩
  · have e : u ≠ t := fun q => by rw [q] at h5; omega
    exact ⟨h1, Or.inr (Or.inr ⟨h2, u, h3, h4, by rw [nup_o e]; exact h5, by rw [nup_o e]; exact h6⟩)⟩
theorem gW.lay {a : Nat} (h0 : st t = 0) (h : gW tg va O sz st ad x y s b) : gW tg va O sz (nup st t 1) (nup ad t a) x y s b := by
  obtain ⟨h1, h2 | h2 | ⟨h2, u, h3, h4, h5⟩⟩ := h
  · exact ⟨h1, Or.inl h2⟩
  · exact ⟨h1, Or.inr (Or.inl h2)⟩
  · have e : u ≠ t := fun q => by rw [q] at h5; omega
    refine ⟨h1, Or.inr (Or.inr ⟨h2, u, h3, h4, ?_⟩)⟩
    rw [nup_o e, nup_o e]
    exact h5
theorem gR.lay {a : Nat} (h0 : st t = 0) (h : gR tg va rt rv ms mr O sz st ad n nx) : gR tg va rt rv ms mr O sz (nup st t 1) (nup ad t a) n nx :=
  fun r hr => ⟨(h r hr).1.lay h0, fun q => ((h r hr).2 q).lay h0⟩
theorem gH.lay {a : Nat} (G : Geo sz pr B O fl pa ro st ad sl) (ht : t < 1300) (h0 : st t = 0) (hn : n ≤ 40) (hr : n + 2 ≤ ro - fl) (ha : a = B + (ro - (n + 2)))
    (c1 : ∀ j, j < a ∨ a + n + 2 ≤ j → tg' j = tg j ∧ va' j = va j) (c2 : tg' a = if row' t = 0 then 4 else 3) (c3 : va' a = nI n) (c4 : tg' (a + 1) = 5) (hs : s = 0 ∨ s = 1)
    (c5 : ∀ i, i < n → tg' (a + 2 + i) = s ∧ va' (a + 2 + i) = 0 ∧ so' (40 * t + i) = s ∧ vl' (40 * t + i) = 0) (c6 : ∀ u, u ≠ t → row' u = row u) (c7 : ∀ u i, u ≠ t → i < 40 → so' (40 * u + i) = so (40 * u + i) ∧ vl' (40 * u + i) = vl (40 * u + i))
    (h : gH tg va row so vl B O sz pa ro st ad sl) : gH tg' va' row' so' vl' B O sz pa (ro - (n + 2)) (nup st t 1) (nup ad t a) (nup sl t n) := by
  obtain ⟨g1, g2, g3, g4, g5, g6, g7, g8, g9⟩ := G
  intro u hu hz
  by_cases e : u = t
  · subst e
    rw [nup_s, nup_s, nup_s]
    refine ⟨c2, c3, c4, fun i hi => ?_⟩
    obtain ⟨d1, d2, d3, d4⟩ := c5 i hi
    rw [d1, d2, d3, d4]
    have hE : gE (nup st u 1) (nup ad u a) s 0 s 0 := by
      rcases hs with hs | hs
      · exact ⟨rfl, Or.inl ⟨hs, rfl⟩⟩
      · exact ⟨rfl, Or.inr (Or.inl ⟨hs, rfl, rfl⟩)⟩
    exact ⟨hE.w, fun _ _ => hE⟩
  · rw [nup_o e] at hz
    rw [nup_o e, nup_o e, nup_o e]
    have b4 := g4 u hu
    have hc : st u = 1 ∨ st u = 2 := by omega
    have far : ∀ j, j < sl u + 2 → ad u + j < a ∨ a + n + 2 ≤ ad u + j := by
      intro j hj
      rcases hc with hc | hc
      · have := g5 u hu hc; omega
      · have := g6 u hu hc; omega
    obtain ⟨q1, q2, q3, q4⟩ := h u hu hz
    have hold : ∀ f, O ≤ f → f < O + sz → tg' f = tg f ∧ va' f = va f := fun f w1 w2 => c1 f (by omega)
    refine ⟨?_, ?_, ?_, fun i hi => ?_⟩
    · have := (c1 (ad u) (far 0 (by omega))).1; rw [this, c6 u e]; exact q1
    · have := (c1 (ad u) (far 0 (by omega))).2; rw [this]; exact q2
    · rw [(c1 (ad u + 1) (far 1 (by omega))).1]; exact q3
    · have e1 := c1 (ad u + 2 + i) (by have := far (2 + i) (by omega); omega)
      have e2 := c7 u i e (by omega)
      rw [e1.1, e1.2, e2.1, e2.2]
      refine ⟨((q4 i hi).1.congr hold).lay h0, fun w1 w2 => ((q4 i hi).2 ?_ ?_).lay h0⟩
      · exact w1
      · have := g5 u hu w1
        omega
end ZG2
