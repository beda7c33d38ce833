/-! THE ABSTRACT MACHINE. A reference is a number: below 200 a cell that stood before the law (a constant), from 200 on the cells that were made since, in their order. -/
section ZF
/-- tables, array classes (0 byte, 1 int, 2 long, 3 boolean), the heap's size as the law began, where the constants are -/
abbrev z_G : Type := va_G × (Nat → ClassId) × Nat × (Nat → Nat)
def z_a (G : z_G) (k : Nat) : Nat := if k < 200 then G.2.2.2 k else G.2.2.1 + (k - 200)
def z_v (G : z_G) : Value → Value
  | .ref k => .ref (z_a G k)
  | v => v
def z_e (G : z_G) : va_E → va_E
  | .inl a => .inl (G.2.1 a.1, a.2)
  | .inr o => .inr (o.1, o.2.map (z_v G))
def z_ws (G : z_G) : Nat → List va_E → va_W
  | _, [] => []
  | k, x :: l => (G.2.2.1 + k, z_e G x) :: z_ws G (k + 1) l
def z_L (G : z_G) (L : List (Nat × Value)) : List (Nat × Value) := L.map (fun q => (q.1, z_v G q.2))
def z_A (G : z_G) : Nat → Prop := fun q => G.2.2.1 ≤ q
theorem z_v_cat (G : z_G) (v : Value) : (z_v G v).category = v.category := by cases v <;> rfl
theorem z_v_inj_int (G : z_G) {v : Value} {x : Int32} (h : z_v G v = .int x) : v = .int x := by cases v <;> first | exact h | cases h
theorem z_ws_get (G : z_G) (w : List va_E) : ∀ (k j : Nat), (z_ws G k w)[j]? = (w[j]?).map (fun x => (G.2.2.1 + (k + j), z_e G x)) := by
  induction w with
  | nil => intro k j; simp [z_ws]
  | cons x l ih =>
    intro k j
    cases j with
    | zero => simp [z_ws]
    | succ j => simp only [z_ws, List.getElem?_cons_succ]; rw [ih]; congr 1; funext y; congr 1; omega
theorem z_ws_at (G : z_G) {w : List va_E} {j : Nat} {x : va_E} (h : w[j]? = some x) : (z_ws G 0 w)[j]? = some (G.2.2.1 + j, z_e G x) := by
  rw [z_ws_get, h]; simp
theorem z_ws_set (G : z_G) (w : List va_E) (x : va_E) : ∀ (k j : Nat), (z_ws G k w).set j (G.2.2.1 + (k + j), z_e G x) = z_ws G k (w.set j x) := by
  induction w with
  | nil => intro k j; simp [z_ws]
  | cons y l ih =>
    intro k j
    cases j with
    | zero => simp [z_ws]
    | succ j => simp only [z_ws, List.set_cons_succ]; rw [← ih (k + 1) j]; congr 3; omega
theorem z_ws_set0 (G : z_G) (w : List va_E) (x : va_E) (j : Nat) : (z_ws G 0 w).set j (G.2.2.1 + j, z_e G x) = z_ws G 0 (w.set j x) := by
  have h := z_ws_set G w x 0 j
  rw [Nat.zero_add] at h
  exact h
theorem z_ws_app (G : z_G) (w : List va_E) (x : va_E) : ∀ (k : Nat), z_ws G k (w ++ [x]) = z_ws G k w ++ [(G.2.2.1 + (k + w.length), z_e G x)] := by
  induction w with
  | nil => intro k; simp [z_ws]
  | cons y l ih =>
    intro k
    simp only [z_ws, List.cons_append, List.length_cons]
    rw [ih]
    congr 4
    omega
theorem z_D (G : z_G) (w : List va_E) : va_D (z_A G) (z_ws G 0 w) := by
  refine ⟨fun i j p q hi hj h => ?_, fun k q hk => ?_⟩
  · rw [z_ws_get] at hi hj
    cases hwi : w[i]? with
    | none => rw [hwi] at hi; cases hi
    | some x =>
      cases hwj : w[j]? with
      | none => rw [hwj] at hj; cases hj
      | some y =>
        rw [hwi] at hi; rw [hwj] at hj
        simp only [Option.map_some, Option.some.injEq] at hi hj
        subst hi; subst hj
        simp only at h
        omega
  · rw [z_ws_get] at hk
    cases hw : w[k]? with
    | none => rw [hw] at hk; cases hk
    | some x =>
      rw [hw] at hk
      simp only [Option.map_some, Option.some.injEq] at hk
      subst hk
      show G.2.2.1 ≤ G.2.2.1 + (0 + k)
      omega
theorem z_Lat (G : z_G) {L : List (Nat × Value)} {k i : Nat} {v : Value} (h : L[k]? = some (i, v)) : (z_L G L)[k]? = some (i, z_v G v) := by
  unfold z_L
  rw [List.getElem?_map, h]; rfl
theorem z_Largs (G : z_G) (vs : List Value) : ∀ i, lv_args i (vs.map (z_v G)) = z_L G (lv_args i vs) := by
  induction vs with
  | nil => intro i; rfl
  | cons v l ih =>
    intro i
    simp only [List.map_cons, lv_args, z_L, z_v_cat]
    rw [ih]
    rfl
theorem z_Lsl (G : z_G) (vs : List Value) : (lg_sl (vs.map (z_v G))).length = (lg_sl vs).length := by
  unfold lg_sl
  induction vs with
  | nil => rfl
  | cons v l ih =>
    simp only [List.map_cons, List.flatMap_cons, List.length_append, z_v_cat]
    rw [ih]
    split <;> rfl
theorem z_Lfilter1 (G : z_G) (L : List (Nat × Value)) (i : Nat) : (z_L G L).filter (fun q => !(q.1 == i) && !(q.1 + 1 == i && q.2.category == 2)) = z_L G (L.filter (fun q => !(q.1 == i) && !(q.1 + 1 == i && q.2.category == 2))) := by
  unfold z_L
  rw [List.filter_map]
  congr 1
  apply List.filter_congr
  intro q _
  simp [z_v_cat]
theorem z_Lfilter2 (G : z_G) (L : List (Nat × Value)) (i : Nat) : (z_L G L).filter (fun q => !(q.1 == i) && (!(q.1 == i + 1) && !(q.1 + 1 == i && q.2.category == 2))) = z_L G (L.filter (fun q => !(q.1 == i) && (!(q.1 == i + 1) && !(q.1 + 1 == i && q.2.category == 2)))) := by
  unfold z_L
  rw [List.filter_map]
  congr 1
  apply List.filter_congr
  intro q _
  simp [z_v_cat]
theorem z_sum (G : z_G) (st : List Value) : ((st.map (z_v G)).map fun v => v.category).sum = (st.map fun v => v.category).sum := by
  rw [List.map_map]
  congr 1
  apply List.map_congr_left
  intro v _
  exact z_v_cat G v
end ZF
