/-! THE MEMORY, the pure part: things by number t < 1300: st t = 0 gone, 1 in the present half, 2 in the old one; ad t the address, sl t the slots -/
section ZG
def sumT (f : Nat → Nat) : Nat → Nat
  | 0 => 0
  | n + 1 => sumT f n + f n
theorem sumT_up {f g : Nat → Nat} {v : Nat} (h : ∀ t, t ≠ v → g t = f t) : ∀ n, (v < n → sumT g n + f v = sumT f n + g v) ∧ (n ≤ v → sumT g n = sumT f n) := by
  intro n
  induction n with
  | zero => exact ⟨fun q => by omega, fun _ => rfl⟩
  | succ n ih =>
    refine ⟨fun q => ?_, fun q => ?_⟩
    · by_cases e : n = v
      · have h1 := ih.2 (by omega)
        subst e
        show sumT g n + g n + f n = sumT f n + f n + g n
        omega
      · have h1 := ih.1 (by omega)
        have h2 := h n e
        show sumT g n + g n + f v = sumT f n + f n + g v
        omega
    · have h1 := ih.2 (by omega)
      have h2 := h n (by omega)
      show sumT g n + g n = sumT f n + f n
      omega
theorem sumT_ge {f : Nat → Nat} {v : Nat} : ∀ {n}, v < n → f v ≤ sumT f n := by
  intro n
  induction n with
  | zero => intro q; omega
  | succ n ih =>
    intro q
    show f v ≤ sumT f n + f n
    by_cases e : n = v
    · subst e; omega
    · have := ih (by omega); omega
theorem sumT_congr {f g : Nat → Nat} : ∀ {n}, (∀ t, t < n → f t = g t) → sumT f n = sumT g n := by
  intro n
  induction n with
  | zero => intro _; rfl
  | succ n ih =>
    intro h
    show sumT f n + f n = sumT g n + g n
    rw [ih (fun t q => h t (by omega)), h n (by omega)]
theorem sumT_two {f g : Nat → Nat} : ∀ {n}, (∀ t, t < n → 2 ≤ f t + g t) → 2 * n ≤ sumT f n + sumT g n := by
  intro n
  induction n with
  | zero => intro _; omega
  | succ n ih =>
    intro h
    show 2 * (n + 1) ≤ sumT f n + f n + (sumT g n + g n)
    have h1 := ih (fun t q => h t (by omega))
    have h2 := h n (by omega)
    omega
theorem sumT_zero {f : Nat → Nat} : ∀ {n}, (∀ t, t < n → f t = 0) → sumT f n = 0 := by
  intro n
  induction n with
  | zero => intro _; rfl
  | succ n ih =>
    intro h
    show sumT f n + f n = 0
    rw [ih (fun t q => h t (by omega)), h n (by omega)]
def nup (f : Nat → Nat) (v x : Nat) : Nat → Nat := fun t => if t = v then x else f t
theorem nup_at (f : Nat → Nat) (v x t : Nat) : nup f v x t = if t = v then x else f t := rfl
theorem nup_s (f : Nat → Nat) (v x : Nat) : nup f v x v = x := if_pos rfl
theorem nup_o {f : Nat → Nat} {v x t : Nat} (h : t ≠ v) : nup f v x t = f t := if_neg h
def wt (st sl : Nat → Nat) (x t : Nat) : Nat := if st t = x then sl t + 2 else 0
def zW (st sl : Nat → Nat) (x : Nat) : Nat := sumT (wt st sl x) 1300
theorem zW_move {st sl : Nat → Nat} {v : Nat} (hv : v < 1300) (h2 : st v = 2) : zW (nup st v 1) sl 1 = zW st sl 1 + (sl v + 2) ∧ zW (nup st v 1) sl 2 + (sl v + 2) = zW st sl 2 := by
  have a := (sumT_up (f := wt st sl 1) (g := wt (nup st v 1) sl 1) (v := v) (fun t ht => by unfold wt; rw [nup_o ht]) 1300).1 hv
  have b := (sumT_up (f := wt st sl 2) (g := wt (nup st v 1) sl 2) (v := v) (fun t ht => by unfold wt; rw [nup_o ht]) 1300).1 hv
  have e1 : wt st sl 1 v = 0 := by unfold wt; rw [h2]; rfl
  have e2 : wt (nup st v 1) sl 1 v = sl v + 2 := by unfold wt; rw [nup_s]; rfl
  have e3 : wt st sl 2 v = sl v + 2 := by unfold wt; rw [h2]; rfl
  have e4 : wt (nup st v 1) sl 2 v = 0 := by unfold wt; rw [nup_s]; rfl
  unfold zW
  omega
theorem zW_make {st sl : Nat → Nat} {v n : Nat} (hv : v < 1300) (h2 : st v = 0) : zW (nup st v 1) (nup sl v n) 1 = zW st sl 1 + (n + 2) ∧ zW (nup st v 1) (nup sl v n) 2 = zW st sl 2 := by
  have a := (sumT_up (f := wt st sl 1) (g := wt (nup st v 1) (nup sl v n) 1) (v := v) (fun t ht => by unfold wt; rw [nup_o ht, nup_o ht]) 1300).1 hv
  have b := (sumT_up (f := wt st sl 2) (g := wt (nup st v 1) (nup sl v n) 2) (v := v) (fun t ht => by unfold wt; rw [nup_o ht, nup_o ht]) 1300).1 hv
  have e1 : wt st sl 1 v = 0 := by unfold wt; rw [h2]; rfl
  have e2 : wt (nup st v 1) (nup sl v n) 1 v = n + 2 := by unfold wt; rw [nup_s, nup_s]; rfl
  have e3 : wt st sl 2 v = 0 := by unfold wt; rw [h2]; rfl
  have e4 : wt (nup st v 1) (nup sl v n) 2 v = 0 := by unfold wt; rw [nup_s]; rfl
  unfold zW
  omega
theorem zW_in {st sl : Nat → Nat} {v x : Nat} (hv : v < 1300) (h2 : st v = x) : sl v + 2 ≤ zW st sl x := by
  have := sumT_ge (f := wt st sl x) hv
  unfold zW
  unfold wt at this ⊢
  rw [if_pos h2] at this
  exact this
def tst (st : Nat → Nat) : Nat → Nat := fun t => if st t = 1 then 2 else 0
theorem zW_turn {st sl : Nat → Nat} : zW (tst st) sl 1 = 0 ∧ zW (tst st) sl 2 = zW st sl 1 := by
  refine ⟨sumT_zero fun t _ => ?_, sumT_congr fun t _ => ?_⟩
  · unfold wt tst; split <;> rename_i h <;> simp_all
  · unfold wt tst; by_cases h : st t = 1 <;> simp [h]
/-- there is a number that no thing has -/
theorem gone_ex {st sl : Nat → Nat} (h1 : zW st sl 1 ≤ 1200) (h2 : zW st sl 2 ≤ 1200) (hs : ∀ t, t < 1300 → st t ≤ 2) : ∃ t, t < 1300 ∧ st t = 0 ∧ ∀ u, u < t → st u ≠ 0 := by
  have key : ∃ t, t < 1300 ∧ st t = 0 := by
    by_cases q : ∃ t, t < 1300 ∧ st t = 0
    · exact q
    · exfalso
      have h3 := sumT_two (f := wt st sl 1) (g := wt st sl 2) (n := 1300) (fun t ht => by
        have a : st t ≠ 0 := fun e => q ⟨t, ht, e⟩
        have b := hs t ht
        have c : st t = 1 ∨ st t = 2 := by omega
        unfold wt
        rcases c with c | c <;> rw [c] <;> simp <;> omega)
      unfold zW at h1 h2
      omega
  obtain ⟨t, ht, h0⟩ := key
  have : ∀ n, (∃ t, t < n ∧ t < 1300 ∧ st t = 0) → ∃ t, t < 1300 ∧ st t = 0 ∧ ∀ u, u < t → st u ≠ 0 := by
    intro n
    induction n with
    | zero => rintro ⟨t, h, -⟩; omega
    | succ n ih =>
      rintro ⟨t, h, h3, h4⟩
      by_cases q : ∃ u, u < t ∧ st u = 0
      · obtain ⟨u, hu, hz⟩ := q
        exact ih ⟨u, by omega, by omega, hz⟩
      · exact ⟨t, h3, h4, fun u hu e => q ⟨u, hu, e⟩⟩
  exact this 1301 ⟨t, by omega, ht, h0⟩
/-- where all lies -/
def Geo (sz pr B O fl pa ro : Nat) (st ad sl : Nat → Nat) : Prop :=
  (16 ≤ sz ∧ sz ≤ 1200) ∧ (pr = 0 ∧ B = 0 ∧ O = sz ∨ pr = 1 ∧ B = sz ∧ O = 0) ∧ (pa ≤ fl ∧ fl ≤ ro ∧ ro ≤ sz) ∧
  (∀ t, t < 1300 → sl t ≤ 40 ∧ st t ≤ 2) ∧
  (∀ t, t < 1300 → st t = 1 → B ≤ ad t ∧ (ad t + sl t + 2 ≤ B + fl ∨ B + ro ≤ ad t ∧ ad t + sl t + 2 ≤ B + sz)) ∧
  (∀ t, t < 1300 → st t = 2 → O ≤ ad t ∧ ad t + sl t + 2 ≤ O + sz) ∧
  (∀ t u, t < 1300 → u < 1300 → t ≠ u → st t = st u → st t ≠ 0 → ad t + sl t + 2 ≤ ad u ∨ ad u + sl u + 2 ≤ ad t) ∧
  zW st sl 1 = fl + (sz - ro) ∧ zW st sl 2 ≤ sz
/-- a word: its tag and value (class), its sort and value (reference) -/
def gW (tg va : Nat → Int32) (O sz : Nat) (st ad : Nat → Nat) (x y s b : Int32) : Prop :=
  x = s ∧ (s = 0 ∧ y = b ∨ s = 1 ∧ y = 0 ∧ b = 0 ∨ s = 2 ∧ ∃ v, v < 1300 ∧ b = nI v ∧ ((st v = 1 ∨ st v = 2) ∧ y = nI (ad v) ∨ st v = 1 ∧ ∃ f, y = nI f ∧ O ≤ f ∧ f < O + sz ∧ tg f = 6 ∧ va f = nI (ad v)))
/-- .. that has no thing of the old half, and its address itself -/
def gE (st ad : Nat → Nat) (x y s b : Int32) : Prop :=
  x = s ∧ (s = 0 ∧ y = b ∨ s = 1 ∧ y = 0 ∧ b = 0 ∨ s = 2 ∧ ∃ v, v < 1300 ∧ b = nI v ∧ st v = 1 ∧ y = nI (ad v))
theorem gE.w {tg va : Nat → Int32} {O sz : Nat} {st ad : Nat → Nat} {x y s b : Int32} (h : gE st ad x y s b) : gW tg va O sz st ad x y s b := by
  obtain ⟨h1, h2 | h2 | ⟨h2, v, h3, h4, h5, h6⟩⟩ := h
  · exact ⟨h1, Or.inl h2⟩
  · exact ⟨h1, Or.inr (Or.inl h2)⟩
  · exact ⟨h1, Or.inr (Or.inr ⟨h2, v, h3, h4, Or.inl ⟨Or.inl h5, h6⟩⟩)⟩
theorem gW.congr {tg va tg' va' : Nat → Int32} {O sz : Nat} {st ad : Nat → Nat} {x y s b : Int32} (hq : ∀ f, O ≤ f → f < O + sz → tg' f = tg f ∧ va' f = va f) (h : gW tg va O sz st ad x y s b) : gW tg' va' O sz st ad x y s b := by
  obtain ⟨h1, h2 | h2 | ⟨h2, v, h3, h4, h5 | ⟨h5, f, h6, h7, h8, h9, h10⟩⟩⟩ := h
  · exact ⟨h1, Or.inl h2⟩
  · exact ⟨h1, Or.inr (Or.inl h2)⟩
  · exact ⟨h1, Or.inr (Or.inr ⟨h2, v, h3, h4, Or.inl h5⟩)⟩
  · exact ⟨h1, Or.inr (Or.inr ⟨h2, v, h3, h4, Or.inr ⟨h5, f, h6, h7, h8, (hq f h7 h8).1.trans h9, (hq f h7 h8).2.trans h10⟩⟩)⟩
/-- the things in the class's two rows -/
def gH (tg va row so vl : Nat → Int32) (B O sz pa ro : Nat) (st ad sl : Nat → Nat) : Prop :=
  ∀ t, t < 1300 → st t ≠ 0 → tg (ad t) = (if row t = 0 then 4 else 3) ∧ va (ad t) = nI (sl t) ∧ tg (ad t + 1) = 5 ∧
    ∀ i, i < sl t → gW tg va O sz st ad (tg (ad t + 2 + i)) (va (ad t + 2 + i)) (so (40 * t + i)) (vl (40 * t + i)) ∧
      (st t = 1 → (ad t + 2 + i < B + pa ∨ B + ro ≤ ad t) → gE st ad (tg (ad t + 2 + i)) (va (ad t + 2 + i)) (so (40 * t + i)) (vl (40 * t + i)))
def gR (tg va rt rv ms mr : Nat → Int32) (O sz : Nat) (st ad : Nat → Nat) (n nx : Nat) : Prop :=
  ∀ r, r < n → gW tg va O sz st ad (rt r) (rv r) (ms r) (mr r) ∧ (r < nx → gE st ad (rt r) (rv r) (ms r) (mr r))
/-! a thing moves -/
section MOVE
variable {sz pr B O fl pa ro v n nx : Nat} {st ad sl : Nat → Nat} {tg va tg' va' row so vl rt rv ms mr : Nat → Int32}
theorem Geo.move (G : Geo sz pr B O fl pa ro st ad sl) (hv : v < 1300) (h2 : st v = 2) (hf : fl + (sl v + 2) ≤ ro) : Geo sz pr B O (fl + (sl v + 2)) pa ro (nup st v 1) (nup ad v (B + fl)) sl := by
  obtain ⟨g1, g2, g3, g4, g5, g6, g7, g8, g9⟩ := G
  have hw := zW_move (sl := sl) hv h2
  refine ⟨g1, g2, by omega, fun t ht => ?_, fun t ht h => ?_, fun t ht h => ?_, fun t u ht hu hne h h0 => ?_, by omega, by omega⟩
  · refine ⟨(g4 t ht).1, ?_⟩
    by_cases e : t = v
    · rw [e, nup_s]; omega
    · rw [nup_o e]; exact (g4 t ht).2
  · by_cases e : t = v
    · rw [e, nup_s]; omega
    · rw [nup_o e] at h ⊢
      have := g5 t ht h
      omega
  · by_cases e : t = v
    · rw [e, nup_s] at h; omega
    · rw [nup_o e] at h ⊢
      exact g6 t ht h
  · by_cases e : t = v
    · have e2 : u ≠ v := fun q => hne (e.trans q.symm)
      rw [e, nup_s, nup_o e2] at h
      rw [e, nup_s, nup_o e2]
      have := g5 u hu h.symm
      omega
    · by_cases e2 : u = v
      · rw [e2, nup_s, nup_o e] at h
        rw [e2, nup_s, nup_o e]
        have := g5 t ht h
        omega
      · rw [nup_o e, nup_o e2] at h
        rw [nup_o e] at h0
        rw [nup_o e, nup_o e2]
        exact g7 t u ht hu hne h h0
theorem move_cells (G : Geo sz pr B O fl pa ro st ad sl) (hv : v < 1300) (h2 : st v = 2) (hf : fl + (sl v + 2) ≤ ro) (ht' : tg' = upd (va_cpy tg tg (ad v) (B + fl) (sl v + 2)) (ad v) 6) :
    (∀ t, t < 1300 → t ≠ v → st t ≠ 0 → ∀ j, j < sl t + 2 → tg' (ad t + j) = tg (ad t + j)) ∧ (∀ j, j < sl v + 2 → tg' (B + fl + j) = tg (ad v + j)) ∧ (∀ f, O ≤ f → f < O + sz → f ≠ ad v → tg' f = tg f) ∧ tg' (ad v) = 6 := by
  obtain ⟨g1, g2, g3, g4, g5, g6, g7, g8, g9⟩ := G
  have hv2 := g6 v hv h2
  subst ht'
  refine ⟨fun t ht e h0 j hj => ?_, fun j hj => ?_, fun f h1 h3 h4 => ?_, ?_⟩
  · have h4 := (g4 t ht).2
    have h7 := g7 t v ht hv e
    have h5 := g5 t ht
    have h6 := g6 t ht
    have hc : st t = 1 ∨ st t = 2 := by omega
    have k1 : ad t + j ≠ ad v := by
      rcases hc with hc | hc
      · have := h5 hc; omega
      · have := h7 (by omega) h0; omega
    have k2 : ¬ (B + fl ≤ ad t + j ∧ ad t + j < B + fl + (sl v + 2)) := by
      rcases hc with hc | hc
      · have := h5 hc; omega
      · have := h6 hc; omega
    rw [up_at, if_neg k1, cpy_at, if_neg k2]
  · have k1 : B + fl + j ≠ ad v := by omega
    rw [up_at, if_neg k1, cpy_at, if_pos (by omega)]
    congr 1
    omega
  · rw [up_at, if_neg h4, cpy_at, if_neg (by omega)]
  · rw [up_at, if_pos rfl]
theorem gE.move {x y s b : Int32} (h2 : st v = 2) (h : gE st ad x y s b) : gE (nup st v 1) (nup ad v (B + fl)) x y s b := by
  obtain ⟨h1, h2 | h2 | ⟨h2, u, h3, h4, h5, h6⟩⟩ := h
  · exact ⟨h1, Or.inl h2⟩
  · exact ⟨h1, Or.inr (Or.inl h2)⟩
  · have e : u ≠ v := fun q => by rw [q] at h5; omega
    exact ⟨h1, Or.inr (Or.inr ⟨h2, u, h3, h4, by rw [nup_o e]; exact h5, by rw [nup_o e]; exact h6⟩)⟩
theorem gW.move {x y s b : Int32} (G : Geo sz pr B O fl pa ro st ad sl) (hv : v < 1300) (h2 : st v = 2) (hf : fl + (sl v + 2) ≤ ro) (h6 : tg (ad v) ≠ 6) (ht' : tg' = upd (va_cpy tg tg (ad v) (B + fl) (sl v + 2)) (ad v) 6) (hv' : va' = upd (va_cpy va va (ad v) (B + fl) (sl v + 2)) (ad v) (nI (B + fl)))
    (h : gW tg va O sz st ad x y s b) : gW tg' va' O sz (nup st v 1) (nup ad v (B + fl)) x y s b := by
  have c1 := move_cells G hv h2 hf ht'
  obtain ⟨g1, g2, g3, g4, g5, g6, g7, g8, g9⟩ := G
  have hv2 := g6 v hv h2
  obtain ⟨a1, a2 | a2 | ⟨a2, u, a3, a4, a5⟩⟩ := h
  · exact ⟨a1, Or.inl a2⟩
  · exact ⟨a1, Or.inr (Or.inl a2)⟩
  · refine ⟨a1, Or.inr (Or.inr ⟨a2, u, a3, a4, ?_⟩)⟩
    by_cases e : u = v
    · subst e
      rcases a5 with ⟨-, a5⟩ | ⟨a5, -⟩
      · refine Or.inr ⟨by rw [nup_s], ad u, a5, by omega, by omega, c1.2.2.2, ?_⟩
        rw [hv', up_at, if_pos rfl, nup_s]
      · omega
    · rcases a5 with ⟨a5, a6⟩ | ⟨a5, f, a6, a7, a8, a9, a10⟩
      · exact Or.inl ⟨by rw [nup_o e]; exact a5, by rw [nup_o e]; exact a6⟩
      · have k : f ≠ ad v := fun q => h6 (by rw [← q]; exact a9)
        refine Or.inr ⟨by rw [nup_o e]; exact a5, f, a6, a7, a8, (c1.2.2.1 f a7 a8 k).trans a9, ?_⟩
        rw [hv', up_at, if_neg k, cpy_at, if_neg (by omega), nup_o e]
        exact a10
theorem gH.move (G : Geo sz pr B O fl pa ro st ad sl) (hv : v < 1300) (h2 : st v = 2) (hf : fl + (sl v + 2) ≤ ro) (ht' : tg' = upd (va_cpy tg tg (ad v) (B + fl) (sl v + 2)) (ad v) 6) (hv' : va' = upd (va_cpy va va (ad v) (B + fl) (sl v + 2)) (ad v) (nI (B + fl)))
    (h : gH tg va row so vl B O sz pa ro st ad sl) : gH tg' va' row so vl B O sz pa ro (nup st v 1) (nup ad v (B + fl)) sl := by
  have h6 : tg (ad v) ≠ 6 := by
    rw [(h v hv (by omega)).1]; split <;> decide
  have c1 := move_cells G hv h2 hf ht'
  have c2 : (∀ t, t < 1300 → t ≠ v → st t ≠ 0 → ∀ j, j < sl t + 2 → va' (ad t + j) = va (ad t + j)) ∧ (∀ j, j < sl v + 2 → va' (B + fl + j) = va (ad v + j)) := by
    obtain ⟨g1, g2, g3, g4, g5, g6, g7, g8, g9⟩ := G
    have hv2 := g6 v hv h2
    subst hv'
    refine ⟨fun t ht e h0 j hj => ?_, fun j hj => ?_⟩
    · have h4 := (g4 t ht).2
      have h7 := g7 t v ht hv e
      have h5 := g5 t ht
      have h6 := g6 t ht
      have hc : st t = 1 ∨ st t = 2 := by omega
      have k1 : ad t + j ≠ ad v := by
        rcases hc with hc | hc
        · have := h5 hc; omega
        · have := h7 (by omega) h0; omega
      have k2 : ¬ (B + fl ≤ ad t + j ∧ ad t + j < B + fl + (sl v + 2)) := by
        rcases hc with hc | hc
        · have := h5 hc; omega
        · have := h6 hc; omega
      rw [up_at, if_neg k1, cpy_at, if_neg k2]
    · have k1 : B + fl + j ≠ ad v := by omega
      rw [up_at, if_neg k1, cpy_at, if_pos (by omega)]
      congr 1
      omega
  intro t ht h0
  by_cases e : t = v
  · subst e
    obtain ⟨q1, q2, q3, q4⟩ := h t ht (by omega)
    rw [nup_s, nup_s]
    refine ⟨?_, ?_, ?_, fun i hi => ⟨?_, fun _ hk => ?_⟩⟩
    · have := c1.2.1 0 (by omega); rw [Nat.add_zero, Nat.add_zero] at this; rw [this]; exact q1
    · have := c2.2 0 (by omega); rw [Nat.add_zero, Nat.add_zero] at this; rw [this]; exact q2
    · rw [c1.2.1 1 (by omega)]; exact q3
    · have e1 := c1.2.1 (2 + i) (by omega)
      have e2 := c2.2 (2 + i) (by omega)
      rw [← Nat.add_assoc, ← Nat.add_assoc] at e1 e2
      rw [e1, e2]
      exact gW.move G hv h2 hf h6 ht' hv' (q4 i hi).1
    · obtain ⟨g1, g2, g3, g4, g5, g6, g7, g8, g9⟩ := G
      omega
  · rw [nup_o e] at h0
    obtain ⟨q1, q2, q3, q4⟩ := h t ht h0
    rw [nup_o e, nup_o e]
    refine ⟨?_, ?_, ?_, fun i hi => ?_⟩
    · have := c1.1 t ht e h0 0 (by omega); rw [Nat.add_zero] at this; rw [this]; exact q1
    · have := c2.1 t ht e h0 0 (by omega); rw [Nat.add_zero] at this; rw [this]; exact q2
    · rw [c1.1 t ht e h0 1 (by omega)]; exact q3
    · have e1 := c1.1 t ht e h0 (2 + i) (by omega)
      have e2 := c2.1 t ht e h0 (2 + i) (by omega)
      rw [← Nat.add_assoc] at e1 e2
      rw [e1, e2]
      exact ⟨gW.move G hv h2 hf h6 ht' hv' (q4 i hi).1, fun a b => gE.move h2 ((q4 i hi).2 a b)⟩
theorem gR.move (G : Geo sz pr B O fl pa ro st ad sl) (hv : v < 1300) (h2 : st v = 2) (hf : fl + (sl v + 2) ≤ ro) (ht' : tg' = upd (va_cpy tg tg (ad v) (B + fl) (sl v + 2)) (ad v) 6) (hv' : va' = upd (va_cpy va va (ad v) (B + fl) (sl v + 2)) (ad v) (nI (B + fl)))
    (hH : gH tg va row so vl B O sz pa ro st ad sl) (h : gR tg va rt rv ms mr O sz st ad n nx) : gR tg' va' rt rv ms mr O sz (nup st v 1) (nup ad v (B + fl)) n nx := by
  have h6 : tg (ad v) ≠ 6 := by
    rw [(hH v hv (by omega)).1]; split <;> decide
  exact fun r hr => ⟨gW.move G hv h2 hf h6 ht' hv' (h r hr).1, fun q => gE.move h2 ((h r hr).2 q)⟩
end MOVE
end ZG
