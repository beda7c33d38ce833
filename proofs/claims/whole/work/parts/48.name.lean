/-! NAMES: two ways to pack one; letters and digits -/
section ZN8
def isLt (u : Nat) : Prop := 97 ≤ u ∧ u ≤ 122
def isDg (u : Nat) : Prop := 48 ≤ u ∧ u ≤ 57
def isCh (u : Nat) : Prop := isLt u ∨ isDg u
def cd (u : Nat) : Nat := if u ≤ 57 then u - 47 else u - 86
def pkv (B : Nat) (f : Nat → Nat) : Nat → Nat
  | 0 => 0
  | m + 1 => pkv B f m * B + f m
theorem cd_rg {a : Nat} (h : isCh a) : 1 ≤ cd a ∧ cd a ≤ 36 := by
  unfold cd
  rcases h with h | h
  · have h1 := h.1; have h2 := h.2; rw [if_neg (by omega)]; omega
  · have h1 := h.1; have h2 := h.2; rw [if_pos (by omega)]; omega
theorem cd_inj {a b : Nat} (ha : isCh a) (hb : isCh b) (e : cd a = cd b) : a = b := by
  unfold cd at e
  rcases ha with h | h <;> rcases hb with g | g <;> (have h1 := h.1; have h2 := h.2; have g1 := g.1; have g2 := g.2)
  · rw [if_neg (by omega), if_neg (by omega)] at e; omega
  · rw [if_neg (by omega), if_pos (by omega)] at e; omega
  · rw [if_pos (by omega), if_neg (by omega)] at e; omega
  · rw [if_pos (by omega), if_pos (by omega)] at e; omega
theorem ch_lt {a : Nat} (h : isCh a) : 48 ≤ a ∧ a < 123 := by
  rcases h with h | h <;> (have h1 := h.1; have h2 := h.2; omega)
theorem pk2_inj {f g : Nat → Nat} : ∀ m, (∀ i, i < m → f i < 256 ∧ g i < 256) → pkv 256 f m = pkv 256 g m → ∀ i, i < m → f i = g i := by
  intro m
  induction m with
  | zero => intro _ _ i hi; omega
  | succ m ih =>
    intro h e i hi
    have e : pkv 256 f m * 256 + f m = pkv 256 g m * 256 + g m := e
    have hm := h m (by omega)
    by_cases q : i = m
    · subst q; omega
    · exact ih (fun i hi => h i (by omega)) (by omega) i (by omega)
theorem pk3_inj {f g : Nat → Nat} : ∀ m k, (∀ i, i < m → 1 ≤ f i ∧ f i ≤ 36) → (∀ i, i < k → 1 ≤ g i ∧ g i ≤ 36) → pkv 37 f m = pkv 37 g k → m = k ∧ ∀ i, i < m → f i = g i := by
  intro m
  induction m with
  | zero =>
    intro k _ hg e
    cases k with
    | zero => exact ⟨rfl, fun i hi => by omega⟩
    | succ k =>
      have e : 0 = pkv 37 g k * 37 + g k := e
      have := hg k (by omega)
      omega
  | succ m ih =>
    intro k hf hg e
    have hm := hf m (by omega)
    cases k with
    | zero =>
      have e : pkv 37 f m * 37 + f m = 0 := e
      omega
    | succ k =>
      have e : pkv 37 f m * 37 + f m = pkv 37 g k * 37 + g k := e
      have hk := hg k (by omega)
      obtain ⟨h1, h2⟩ := ih k (fun i hi => hf i (by omega)) (fun i hi => hg i (by omega)) (by omega)
      subst h1
      refine ⟨rfl, fun i hi => ?_⟩
      by_cases q : i = m
      · subst q; omega
      · exact h2 i (by omega)
theorem pk3_lt {f : Nat → Nat} : ∀ m, (∀ i, i < m → f i ≤ 36) → pkv 37 f m < 37 ^ m := by
  intro m
  induction m with
  | zero => intro _; exact Nat.lt_succ_self 0
  | succ m ih =>
    intro h
    have a := ih (fun i hi => h i (by omega))
    have b := h m (by omega)
    show pkv 37 f m * 37 + f m < 37 ^ (m + 1)
    rw [Nat.pow_succ]
    omega
theorem pk2_lt {f : Nat → Nat} : ∀ m, (∀ i, i < m → f i < 128) → 2 * pkv 256 f m < 256 ^ m := by
  intro m
  induction m with
  | zero => intro _; exact Nat.lt_succ_self 0
  | succ m ih =>
    intro h
    have a := ih (fun i hi => h i (by omega))
    have b := h m (by omega)
    show 2 * (pkv 256 f m * 256 + f m) < 256 ^ (m + 1)
    rw [Nat.pow_succ]
    omega
theorem pk3_b {f : Nat → Nat} {m : Nat} (hm : m ≤ 8) (h : ∀ i, i < m → f i ≤ 36) : pkv 37 f m < 2 ^ 63 :=
  Nat.lt_of_lt_of_le (pk3_lt m h) (Nat.le_trans (Nat.pow_le_pow_right (by decide) hm) (by decide))
theorem pk2_b {f : Nat → Nat} {m : Nat} (hm : m ≤ 8) (h : ∀ i, i < m → f i < 128) : pkv 256 f m < 2 ^ 63 := by
  have a := pk2_lt m h
  have b : 256 ^ m ≤ 256 ^ 8 := Nat.pow_le_pow_right (by decide) hm
  have c : (256 : Nat) ^ 8 = 2 ^ 64 := by decide
  omega
theorem pk2_b7 {f : Nat → Nat} {m : Nat} (hm : m < 8) (h : ∀ i, i < m → f i < 128) : pkv 256 f m < 2 ^ 55 := by
  have a := pk2_lt m h
  have b : 256 ^ m ≤ 256 ^ 7 := Nat.pow_le_pow_right (by decide) (by omega)
  have c : (256 : Nat) ^ 7 = 2 ^ 56 := by decide
  omega
/-- a name: as the class packs it, as the reference does, its length -/
def nmR (x y : Int64) (z : Int32) : Prop := ∃ f L, 1 ≤ L ∧ L ≤ 8 ∧ (∀ i, i < L → isCh (f i)) ∧ x = lN (pkv 37 (fun i => cd (f i)) L) ∧ y = lN (pkv 256 f L) ∧ z = nI L
theorem nm_eq {x y x' y' : Int64} {z z' : Int32} (h : nmR x y z) (g : nmR x' y' z') : x = x' ↔ (y = y' ∧ z = z') := by
  obtain ⟨f, L, h1, h2, h3, rfl, rfl, rfl⟩ := h
  obtain ⟨g, K, g1, g2, g3, rfl, rfl, rfl⟩ := g
  rw [pk_lEQ (pk3_b h2 fun i hi => (cd_rg (h3 i hi)).2) (pk3_b g2 fun i hi => (cd_rg (g3 i hi)).2), pk_lEQ (pk2_b h2 fun i hi => by have := ch_lt (h3 i hi); omega) (pk2_b g2 fun i hi => by have := ch_lt (g3 i hi); omega), ni_eq (by omega) (by omega)]
  constructor
  · intro e
    obtain ⟨e1, e2⟩ := pk3_inj L K (fun i hi => cd_rg (h3 i hi)) (fun i hi => cd_rg (g3 i hi)) e
    subst e1
    refine ⟨?_, rfl⟩
    have e3 : ∀ m, m ≤ L → pkv 256 f m = pkv 256 g m := by
      intro m
      induction m with
      | zero => intro _; rfl
      | succ m ih =>
        intro hm
        show pkv 256 f m * 256 + f m = pkv 256 g m * 256 + g m
        rw [ih (by omega), cd_inj (h3 m (by omega)) (g3 m (by omega)) (e2 m (by omega))]
    exact e3 L (Nat.le_refl _)
  · rintro ⟨e1, e2⟩
    subst e2
    have e3 := pk2_inj L (fun i hi => ⟨by have := ch_lt (h3 i hi); omega, by have := ch_lt (g3 i hi); omega⟩) e1
    have e4 : ∀ m, m ≤ L → pkv 37 (fun i => cd (f i)) m = pkv 37 (fun i => cd (g i)) m := by
      intro m
      induction m with
      | zero => intro _; rfl
      | succ m ih =>
        intro hm
        show pkv 37 (fun i => cd (f i)) m * 37 + cd (f m) = pkv 37 (fun i => cd (g i)) m * 37 + cd (g m)
        rw [ih (by omega), e3 m (by omega)]
    exact e4 L (Nat.le_refl _)
theorem nm_ne {x y : Int64} {z : Int32} (h : nmR x y z) : x ≠ 0 := by
  obtain ⟨f, L, h1, h2, h3, rfl, rfl, rfl⟩ := h
  intro e
  have e0 : pkv 37 (fun i => cd (f i)) L = 0 := (pk_lEQ (b := 0) (pk3_b h2 fun i hi => (cd_rg (h3 i hi)).2) (by decide)).mp e
  cases L with
  | zero => omega
  | succ L =>
    have e0 : pkv 37 (fun i => cd (f i)) L * 37 + cd (f L) = 0 := e0
    have := (cd_rg (h3 L (by omega))).1
    omega
theorem sh8 {P c : Nat} (hP : P < 2 ^ 55) (hc : c < 256) : (lN P <<< (((8 : Int32).toInt64) &&& 63)) ||| (nI c).toInt64 = lN (P * 256 + c) := by
  rw [nI_l (by omega)]
  apply Int64.toBitVec_inj.mp
  apply BitVec.eq_of_toNat_eq
  rw [Int64.toBitVec_or, BitVec.toNat_or]
  have a : (lN P <<< (((8 : Int32).toInt64) &&& 63)).toBitVec.toNat = P * 256 := by
    show ((lN P).toBitVec <<< (((((8 : Int32).toInt64) &&& 63 : Int64).toBitVec.smod 64)).toNat).toNat = _
    have hs : ((((8 : Int32).toInt64) &&& 63 : Int64).toBitVec.smod 64).toNat = 8 := by decide +kernel
    have hb : (lN P).toBitVec.toNat = P := by
      show P % 2 ^ 64 = P
      exact Nat.mod_eq_of_lt (by omega)
    rw [hs, BitVec.toNat_shiftLeft, Nat.shiftLeft_eq, hb]
    omega
  have b : (lN c).toBitVec.toNat = c := by
    show c % 2 ^ 64 = c
    exact Nat.mod_eq_of_lt (by omega)
  have d : (lN (P * 256 + c)).toBitVec.toNat = P * 256 + c := by
    show (P * 256 + c) % 2 ^ 64 = _
    exact Nat.mod_eq_of_lt (by omega)
  rw [a, b, d]
  have e := Nat.two_pow_add_eq_or_of_lt (i := 8) (b := c) (by omega) P
  have e2 : 2 ^ 8 * P = P * 256 := by omega
  rw [e2] at e
  exact e.symm
theorem cdD {P c : Nat} (h : isDg c) : ((lN P * 37) + ((nI c - 48 : Int32).toInt64)) + 1 = lN (P * 37 + cd c) := by
  have h1 := h.1; have h2 := h.2
  rw [ni_sl (n := 48) h1, nI_l (by show c - 48 < _; omega)]
  have e : lN P * 37 = lN (P * 37) := lN_mul P 37
  rw [e, lN_add, lN_1]
  congr 1
  unfold cd
  rw [if_pos h2]
  show P * 37 + (c - 48) + 1 = _
  omega
theorem cdL {P c : Nat} (h : isLt c) : ((lN P * 37) + (((nI c - 97 : Int32) + 10).toInt64)) + 1 = lN (P * 37 + cd c) := by
  have h1 := h.1; have h2 := h.2
  rw [ni_sl (n := 97) h1, ni_al, nI_l (by show c - 97 + 10 < _; omega)]
  have e : lN P * 37 = lN (P * 37) := lN_mul P 37
  rw [e, lN_add, lN_1]
  congr 1
  unfold cd
  rw [if_neg (by omega)]
  show P * 37 + (c - 97 + 10) + 1 = _
  omega
def rb (x : Int32) (u : Nat) : Prop := (u < 128 ∧ x = nI u) ∨ (128 ≤ u ∧ x < 0)
theorem neg_lt {x : Int32} (h : x < 0) (n : Nat) (hn : n < 2147483648) : x < nI n := by
  rw [Int32.lt_iff_toInt_lt] at h ⊢
  rw [nI_toInt (by omega)]
  have h : x.toInt < 0 := h
  omega
theorem rb_lt {x : Int32} {u n : Nat} (h : rb x u) (hn : OfNat.ofNat n < 128) : x < (OfNat.ofNat n : Int32) ↔ (u < OfNat.ofNat n ∨ 128 ≤ u) := by
  rcases h with ⟨h1, rfl⟩ | ⟨h1, h2⟩
  · rw [ni_ltl (by omega) (by omega)]; omega
  · exact ⟨fun _ => Or.inr h1, fun _ => neg_lt h2 n (by have : n < 128 := hn; omega)⟩
theorem rb_gt {x : Int32} {u n : Nat} (h : rb x u) (hn : OfNat.ofNat n < 128) : (OfNat.ofNat n : Int32) < x ↔ (OfNat.ofNat n < u ∧ u < 128) := by
  rcases h with ⟨h1, rfl⟩ | ⟨h1, h2⟩
  · rw [ni_llt (by omega) (by omega)]; omega
  · constructor
    · intro q
      have r := neg_lt h2 n (by have : n < 128 := hn; omega)
      exact absurd (Int32.lt_trans q r) (Int32.lt_irrefl)
    · intro q; omega
theorem rb_eq {x : Int32} {u n : Nat} (h : rb x u) (hn : OfNat.ofNat n < 128) : x = (OfNat.ofNat n : Int32) ↔ u = OfNat.ofNat n := by
  rcases h with ⟨h1, rfl⟩ | ⟨h1, h2⟩
  · rw [ni_eql (by omega) (by omega)]
  · constructor
    · intro q
      have r := neg_lt h2 n (by have : n < 128 := hn; omega)
      rw [q] at r
      exact absurd r (Int32.lt_irrefl)
    · intro q; omega
variable {C : cS} {M : mS} {n p q m L k : Nat} {u : Nat → Nat} {x : Int32}
theorem e_lt {Q : Int32 → cS → Prop} {c : Nat} (h : rb x c) (a : isLt c → Q 1 C) (b : ¬ isLt c → Q 0 C) : p_X8_isLetter x C Q := by
  refine ⟨fun r => b ?_, fun r => ⟨fun s => b ?_, fun s => a ?_⟩⟩
  · rw [rb_lt h (by decide)] at r; unfold isLt; omega
  · rw [rb_gt h (by decide)] at s; unfold isLt; omega
  · rw [rb_lt h (by decide)] at r; rw [rb_gt h (by decide)] at s; unfold isLt; omega
theorem e_dg {Q : Int32 → cS → Prop} {c : Nat} (h : rb x c) (a : isDg c → Q 1 C) (b : ¬ isDg c → Q 0 C) : p_X8_isDigit x C Q := by
  refine ⟨fun r => b ?_, fun r => ⟨fun s => b ?_, fun s => a ?_⟩⟩
  · rw [rb_lt h (by decide)] at r; unfold isDg; omega
  · rw [rb_gt h (by decide)] at s; unfold isDg; omega
  · rw [rb_lt h (by decide)] at r; rw [rb_gt h (by decide)] at s; unfold isDg; omega
theorem m_lt {Q : Int32 → mS → Prop} (T : tpM (m_a M 9) n u) (h19 : m_i M 19 = nI n) (hn : n ≤ 2000) (hp : p ≤ 2000) (a : p < n → isLt (u p) → Q 1 M) (b : ¬ (p < n ∧ isLt (u p)) → Q 0 M) : p_X11_isLetter (nI p) M Q := by
  refine ⟨fun r => b ?_, fun r => ?_⟩
  · rw [h19, ni_le (by omega) (by omega)] at r; omega
  · rw [h19, ni_le (by omega) (by omega)] at r
    obtain ⟨t1, t2⟩ := T p (by omega)
    rw [ni_cl (by omega), t2]
    refine ⟨(ni_in (by omega)).mpr (by omega), fun r => b ?_, fun r => ⟨fun s => b ?_, fun s => a (by omega) ?_⟩⟩
    · rw [ni_ltl (by omega) (by decide)] at r; unfold isLt; omega
    · rw [ni_llt (by omega) (by decide)] at s; unfold isLt; omega
    · rw [ni_ltl (by omega) (by decide)] at r; rw [ni_llt (by omega) (by decide)] at s; unfold isLt; omega
theorem m_dg {Q : Int32 → mS → Prop} (T : tpM (m_a M 9) n u) (h19 : m_i M 19 = nI n) (hn : n ≤ 2000) (hp : p ≤ 2000) (a : p < n → isDg (u p) → Q 1 M) (b : ¬ (p < n ∧ isDg (u p)) → Q 0 M) : p_X11_isDigit (nI p) M Q := by
  refine ⟨fun r => b ?_, fun r => ?_⟩
  · rw [h19, ni_le (by omega) (by omega)] at r; omega
  · rw [h19, ni_le (by omega) (by omega)] at r
    obtain ⟨t1, t2⟩ := T p (by omega)
    rw [ni_cl (by omega), t2]
    refine ⟨(ni_in (by omega)).mpr (by omega), fun r => b ?_, fun r => ⟨fun s => b ?_, fun s => a (by omega) ?_⟩⟩
    · rw [ni_ltl (by omega) (by decide)] at r; unfold isDg; omega
    · rw [ni_llt (by omega) (by decide)] at s; unfold isDg; omega
    · rw [ni_ltl (by omega) (by decide)] at r; rw [ni_llt (by omega) (by decide)] at s; unfold isDg; omega
/-- a run of characters ends somewhere -/
theorem run_end (R : Nat → Prop) (n : Nat) : ∀ d p, p + d = n → ∃ q, p ≤ q ∧ q ≤ n ∧ (∀ j, p ≤ j → j < q → R j) ∧ (q = n ∨ (q < n ∧ ¬ R q)) := by
  intro d
  induction d with
  | zero => intro p h; exact ⟨p, Nat.le_refl _, by omega, fun j a b => by omega, Or.inl (by omega)⟩
  | succ d ih =>
    intro p h
    by_cases r : R p
    · obtain ⟨q, a, b, c, e⟩ := ih (p + 1) (by omega)
      refine ⟨q, by omega, b, fun j h1 h2 => ?_, e⟩
      by_cases e : j = p
      · subst e; exact r
      · exact c j (by omega) h2
    · exact ⟨p, Nat.le_refl _, by omega, fun j a b => by omega, Or.inr ⟨by omega, r⟩⟩
theorem e_nmC {Q : Int32 → cS → Prop} {K : Int32 → Int32 → Int64 → cS → Prop} (T : tpC (c_a C 0) n u) (hn : n ≤ 2000) (hqn : q ≤ n) (hw : ∀ j, p ≤ j → j < q → isCh (u j)) (hq : q = n ∨ (q < n ∧ ¬ isCh (u q))) (hK : K (nI p) (nI q) (lN (pkv 37 (fun i => cd (u (p + i))) (q - p))) C) :
    ∀ d m, p + m + d = q → ∃ N, w_X8_cutName_6 Q K N (nI p) (nI n) (nI (p + m)) (lN (pkv 37 (fun i => cd (u (p + i))) m)) C := by
  intro d
  induction d with
  | zero =>
    intro m hm
    have e : q - p = m := by omega
    have e2 : p + m = q := by omega
    rw [e] at hK
    rw [e2]
    rcases hq with h | ⟨h1, h2⟩
    · exact ⟨1, ⟨fun _ => hK, fun r => absurd (by rw [h, ni_le (by omega) (by omega)]; omega) r⟩⟩
    · refine ⟨1, ⟨fun r => absurd r (by rw [ni_le (by omega) (by omega)]; omega), fun _ => ⟨(ni_in (by omega)).mpr (by omega), ?_⟩⟩⟩
      rw [ni_cl (by omega)]
      refine e_lt (T q h1) (fun l => absurd (Or.inl l) h2) (fun _ => ⟨fun r => absurd rfl r, fun _ => e_dg (T q h1) (fun l => absurd (Or.inr l) h2) (fun _ => ⟨fun _ => hK, fun r => absurd rfl r⟩)⟩)
  | succ d ih =>
    intro m hm
    obtain ⟨N, hN⟩ := ih (m + 1) (by omega)
    have hc := hw (p + m) (by omega) (by omega)
    have hl := ch_lt hc
    have t := T (p + m) (by omega)
    have hx : c_a C 0 (p + m) = nI (u (p + m)) := by
      rcases t with t | t
      · exact t.2
      · omega
    have J : j_X8_cutName_32 Q (w_X8_cutName_6 Q K N) K (nI p) (nI n) (nI (p + m)) (lN (pkv 37 (fun i => cd (u (p + i))) m)) C := by
      refine ⟨(ni_in (by omega)).mpr (by omega), ?_⟩
      rw [ni_cl (by omega)]
      refine e_dg t (fun g => ⟨fun r => absurd r (by decide), fun _ a ha b hb c hc => ?_⟩) (fun g => ⟨fun _ a ha b hb c hc => ?_, fun r => absurd rfl r⟩)
      · subst ha
        rw [hx, cdD g] at hb
        rw [nI_1] at hc
        subst hb
        subst hc
        exact hN
      · subst ha
        have g2 : isLt (u (p + m)) := by
          rcases hw (p + m) (by omega) (by omega) with l | l
          · exact l
          · exact absurd l g
        rw [hx, cdL g2] at hb
        rw [nI_1] at hc
        subst hb
        subst hc
        exact hN
    refine ⟨N + 1, ⟨fun r => absurd r (by rw [ni_le (by omega) (by omega)]; omega), fun _ => ⟨(ni_in (by omega)).mpr (by omega), ?_⟩⟩⟩
    rw [ni_cl (by omega)]
    refine e_lt t (fun _ => ⟨fun _ => J, fun r => absurd r (by decide)⟩) (fun g => ⟨fun r => absurd rfl r, fun _ => e_dg t (fun _ => ⟨fun r => absurd r (by decide), fun _ => J⟩) (fun g2 => ?_)⟩)
    rcases hc with l | l
    · exact absurd l g
    · exact absurd l g2
theorem e_nmM {Q : Int32 → mS → Prop} {K : Int32 → Int32 → mS → Prop} (T : tpM (m_a M 9) n u) (h19 : m_i M 19 = nI n) (hn : n ≤ 2000) (hqn : q ≤ n) (hw : ∀ j, p ≤ j → j < q → isCh (u j)) (hq : q = n ∨ (q < n ∧ ¬ isCh (u q))) (hK : K (nI p) (nI q) M) :
    ∀ d m, p + m + d = q → ∃ N, w_X11_name_2 Q K N (nI p) (nI (p + m)) M := by
  intro d
  induction d with
  | zero =>
    intro m hm
    have e2 : p + m = q := by omega
    rw [e2]
    have h3 : ∀ R : Prop, q < n → isCh (u q) → R := by
      intro R a b
      rcases hq with h | ⟨h1, h2⟩
      · omega
      · exact absurd b h2
    refine ⟨1, ?_⟩
    show b_X11_name_2 (w_X11_name_2 Q K 0) Q K (nI p) (nI q) M
    unfold b_X11_name_2
    exact (m_lt T h19 hn (by omega) (fun a l => h3 _ a (Or.inl l)) (fun _ => ⟨fun r => absurd rfl r, fun _ => m_dg T h19 hn (by omega) (fun a l => h3 _ a (Or.inr l)) (fun _ => ⟨fun _ => hK, fun r => absurd rfl r⟩)⟩))
  | succ d ih =>
    intro m hm
    obtain ⟨N, hN⟩ := ih (m + 1) (by omega)
    have hc := hw (p + m) (by omega) (by omega)
    refine ⟨N + 1, ?_⟩
    show b_X11_name_2 (w_X11_name_2 Q K N) Q K (nI p) (nI (p + m)) M
    unfold b_X11_name_2
    refine m_lt T h19 hn (by omega) (fun _ _ => ⟨fun _ a ha => ?_, fun r => absurd r (by decide)⟩) (fun g => ⟨fun r => absurd rfl r, fun _ => m_dg T h19 hn (by omega) (fun _ _ => ⟨fun r => absurd r (by decide), fun _ a ha => ?_⟩) (fun g2 => ?_)⟩)
    · rw [nI_1] at ha; subst ha; exact hN
    · rw [nI_1] at ha; subst ha; exact hN
    · rcases hc with l | l
      · exact absurd ⟨by omega, l⟩ g
      · exact absurd ⟨by omega, l⟩ g2
theorem e_pkM {Q : Int32 → mS → Prop} {K : Int32 → Int32 → Int64 → mS → Prop} (T : tpM (m_a M 9) n u) (hn : n ≤ 2000) (hqn : q ≤ n) (hL : q - p ≤ 8) (hw : ∀ j, p ≤ j → j < q → isCh (u j)) (hK : K (nI p) (nI q) (lN (pkv 256 (fun i => u (p + i)) (q - p))) M) :
    ∀ d m, p + m + d = q → ∃ N, w_X11_name_45 Q K N (nI p) (nI q) (lN (pkv 256 (fun i => u (p + i)) m)) (nI (p + m)) M := by
  intro d
  induction d with
  | zero =>
    intro m hm
    have e : q - p = m := by omega
    have e2 : p + m = q := by omega
    rw [e] at hK
    rw [e2]
    exact ⟨1, ⟨fun _ => hK, fun r => absurd (by rw [ni_le (by omega) (by omega)]; omega) r⟩⟩
  | succ d ih =>
    intro m hm
    obtain ⟨N, hN⟩ := ih (m + 1) (by omega)
    obtain ⟨t1, t2⟩ := T (p + m) (by omega)
    refine ⟨N + 1, ⟨fun r => absurd r (by rw [ni_le (by omega) (by omega)]; omega), fun _ => ⟨(ni_in (by omega)).mpr (by omega), fun a ha b hb => ?_⟩⟩⟩
    rw [ni_cl (by omega), t2, sh8 (pk2_b7 (by omega) fun i hi => by have := ch_lt (hw (p + i) (by omega) (by omega)); omega) t1] at ha
    rw [nI_1] at hb
    subst ha
    subst hb
    exact hN
end ZN8
