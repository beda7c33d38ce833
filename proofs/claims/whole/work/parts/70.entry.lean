/-! THE LAW'S ENTRY: what is given of the start, told by numbers -/
section ZE30
set_option maxRecDepth 100000
def e_F : List Cond := flatC (Jvm.Cond.and given_1 narrow_1)
def e_sub : List Cond → List Cond → Bool
  | [], _ => true
  | _ :: _, [] => false
  | a :: as, b :: bs => if a = b then e_sub as bs else e_sub (a :: as) bs
theorem e_sub_mem : ∀ (bs as : List Cond), e_sub as bs = true → ∀ w ∈ as, w ∈ bs := by
  intro bs
  induction bs with
  | nil =>
    intro as h w hw
    cases as with
    | nil => cases hw
    | cons a as => cases h
  | cons b bs ih =>
    intro as h w hw
    cases as with
    | nil => cases hw
    | cons a as =>
      by_cases he : a = b
      · unfold e_sub at h
        rw [if_pos he] at h
        rcases List.mem_cons.mp hw with h1 | h1
        · subst h1; subst he; exact List.mem_cons_self
        · exact List.mem_cons_of_mem _ (ih as h w h1)
      · unfold e_sub at h
        rw [if_neg he] at h
        exact List.mem_cons_of_mem _ (ih _ h w hw)
theorem e_fam (f : Nat → Cond) (n : Nat) (h : e_sub ((List.range n).map f) e_F = true) : ∀ j, j < n → f j ∈ e_F := fun j hj => e_sub_mem _ _ h _ (List.mem_map.mpr ⟨j, List.mem_range.mpr hj, rfl⟩)
def e_ord : List Nat := [35, 36, 37, 38, 39, 0, 26, 1, 27, 2, 28, 3, 4, 5, 6, 7, 29, 8, 30, 9, 31, 10, 11, 12, 13, 14, 15, 16, 17, 18, 19, 20, 21, 32, 22, 33, 23, 24, 34, 25]
theorem e_ord_all : ∀ i, i < 40 → i ∈ e_ord := by decide +kernel
theorem e_famO (f : Nat → Cond) (h : e_sub (e_ord.map f) e_F = true) : ∀ j, j < 40 → f j ∈ e_F := fun j hj => e_sub_mem _ _ h _ (List.mem_map.mpr ⟨j, e_ord_all j hj, rfl⟩)
theorem e_famE (f : Nat → Nat → Cond) (h : e_sub (e_ord.flatMap fun i => (List.range (z_tlen i)).map (f i)) e_F = true) : ∀ i, i < 40 → ∀ j, j < z_tlen i → f i j ∈ e_F := fun i hi j hj => e_sub_mem _ _ h _ (List.mem_flatMap.mpr ⟨i, e_ord_all i hi, List.mem_map.mpr ⟨j, List.mem_range.mpr hj, rfl⟩⟩)
def e_ta (j : Nat) : Term := .static z_Act (z_acts.getD j "") "LTwinHalves$Act;"
def e_ts (i : Nat) : Term := .string (z_tin.getD i ("", 0)).1 (z_tin.getD i ("", 0)).2
def e_tv (i : Nat) : Term := .field (e_ts i) z_Str "value" "[B"
abbrev e_A : Term := .static "TwinHalves" "ACTS" "[LTwinHalves$Act;"
abbrev e_M : Term := .static "TwinHalves$1" "$SwitchMap$TwinHalves$Act" "[I"
abbrev e_K : Term := .static "TwinHalvesModel" "TAKES" "[I"
theorem e_1 : ∀ j, j < 26 → Cond.eq (.elem e_A (.int (Int32.ofNat j))) (e_ta j) ∈ e_F := e_fam (fun j => Cond.eq (.elem e_A (.int (Int32.ofNat j))) (e_ta j)) 26 (by decide +kernel)
theorem e_2 : ∀ j, j < 26 → Cond.eq (.elem e_M (.int (Int32.ofNat j))) (.int (z_swm.getD j 0)) ∈ e_F := e_fam (fun j => Cond.eq (.elem e_M (.int (Int32.ofNat j))) (.int (z_swm.getD j 0))) 26 (by decide +kernel)
theorem e_3 : ∀ j, j < 26 → Cond.eq (.elem e_K (.int (Int32.ofNat j))) (.int (z_tks.getD j 0)) ∈ e_F := e_fam (fun j => Cond.eq (.elem e_K (.int (Int32.ofNat j))) (.int (z_tks.getD j 0))) 26 (by decide +kernel)
theorem e_4 : ∀ j, j < 26 → Cond.exactly (e_ta j) z_Act ∈ e_F := e_fam (fun j => Cond.exactly (e_ta j) z_Act) 26 (by decide +kernel)
theorem e_5 : ∀ j, j < 26 → Cond.eq (.field (e_ta j) "java/lang/Enum" "ordinal" "I") (.int (nI j)) ∈ e_F := e_fam (fun j => Cond.eq (.field (e_ta j) "java/lang/Enum" "ordinal" "I") (.int (nI j))) 26 (by decide +kernel)
theorem e_6 : ∀ j, j < 26 → Cond.eq (.field (e_ta j) z_Act "word" "Ljava/lang/String;") (e_ts j) ∈ e_F := e_fam (fun j => Cond.eq (.field (e_ta j) z_Act "word" "Ljava/lang/String;") (e_ts j)) 26 (by decide +kernel)
theorem e_7 : ∀ j, j < 26 → Cond.eq (.field (e_ta j) z_Act "takes" "Ljava/lang/String;") (e_ts (z_tkx.getD j 0)) ∈ e_F := e_fam (fun j => Cond.eq (.field (e_ta j) z_Act "takes" "Ljava/lang/String;") (e_ts (z_tkx.getD j 0))) 26 (by decide +kernel)
theorem e_8 : ∀ i, i < 40 → Cond.exactly (e_ts i) z_Str ∈ e_F := e_famO (fun i => Cond.exactly (e_ts i) z_Str) (by decide +kernel)
theorem e_9 : ∀ i, i < 40 → Cond.eq (.field (e_ts i) z_Str "coder" "B") (.int 0) ∈ e_F := e_famO (fun i => Cond.eq (.field (e_ts i) z_Str "coder" "B") (.int 0)) (by decide +kernel)
theorem e_10 : ∀ i, i < 40 → Cond.arrayOf (e_tv i) .byte ∈ e_F := e_famO (fun i => Cond.arrayOf (e_tv i) .byte) (by decide +kernel)
theorem e_11 : ∀ i, i < 40 → Cond.eq (.length (e_tv i)) (.int (Int32.ofNat (z_tlen i))) ∈ e_F := e_famO (fun i => Cond.eq (.length (e_tv i)) (.int (Int32.ofNat (z_tlen i)))) (by decide +kernel)
theorem e_12 : ∀ i, i < 40 → ∀ j, j < z_tlen i → Cond.eq (.elem (e_tv i) (.int (Int32.ofNat j))) (.int (z_tchr i j)) ∈ e_F := e_famE (fun i j => Cond.eq (.elem (e_tv i) (.int (Int32.ofNat j))) (.int (z_tchr i j))) (by decide +kernel)
theorem e_tlen : ∀ i, i < 40 → z_tlen i < 2 ^ 31 := by decide +kernel
theorem e_tkx : ∀ i, i < 26 → z_tkx.getD i 0 < 40 := by decide +kernel
theorem e_eqR {args : Array Value} {s : State} {t u : Term} {a : Nat} (h : (Cond.eq t u).before args s = true) (hu : u.eval args s none [] s = some (.ref a)) : t.eval args s none [] s = some (.ref a) := by
  cases hv : t.eval args s none [] s with
  | none => simp [Cond.before, Cond.holds, Cond.value, hv] at h
  | some w =>
    simp only [Cond.before, Cond.holds, Cond.value, hv, hu] at h
    cases w <;> simp_all
theorem e_Tc {ty : FieldType} {t N : Nat} {f g : Nat → Value} {A : Nat → Prop} {U : State} {H : Heap} (h : va_T ty t N f A U H) (he : ∀ j, j < N → f j = g j) : va_T ty t N g A U H := by
  obtain ⟨cell, h1, h2, h3, h4, h5, h6, h7⟩ := h
  exact ⟨cell, h1, h2, h3, h4, h5, fun j hj => by rw [h6 j hj, he j hj], h7⟩
theorem e_O {args : Array Value} {s : State} {t : Term} {E : String} {A : Nat → Prop} (h : (Cond.exactly t E).before args s = true) (hA : ∀ a : Nat, a < s.heap.size → ¬ A a) : ∃ a : Nat, t.eval args s none [] s = some (.ref a) ∧ va_O E a A s s.heap := by
  obtain ⟨a, c, cell, k, q1, q2, q3, q4, q5, q6, -⟩ := Cond.exactly_spec h
  exact ⟨a, q1, cell, q3, q5, by rw [q6]; exact q2, hA a (Array.getElem?_eq_some_iff.mp q3).1⟩
/-- where the constants are -/
def e_ad (a1 a2 a3 a4 b : Nat) (ta : Nat → Nat) (tt : Nat → Nat × Nat) (k : Nat) : Nat := if k = 1 then a1 else if k < 28 then ta (k - 2) else if k = 28 then a2 else if k = 29 then a3 else if k < 80 then (tt (k - 30)).1 else if k < 120 then (tt (k - 80)).2 else if k = 120 then a4 else b
section AD
variable {D : va_G} {cA : Nat → ClassId} {z a1 a2 a3 a4 b : Nat} {ta : Nat → Nat} {tt : Nat → Nat × Nat}
theorem e_adt {i : Nat} (hi : i < 26) : z_a (D, cA, z, e_ad a1 a2 a3 a4 b ta tt) (2 + i) = ta i := by
  show (if 2 + i < 200 then e_ad a1 a2 a3 a4 b ta tt (2 + i) else _) = _
  rw [if_pos (by omega)]
  unfold e_ad
  rw [if_neg (by omega), if_pos (by omega), Nat.add_sub_cancel_left]
theorem e_ads {i : Nat} (hi : i < 40) : z_a (D, cA, z, e_ad a1 a2 a3 a4 b ta tt) (30 + i) = (tt i).1 := by
  show (if 30 + i < 200 then e_ad a1 a2 a3 a4 b ta tt (30 + i) else _) = _
  rw [if_pos (by omega)]
  unfold e_ad
  rw [if_neg (by omega), if_neg (by omega), if_neg (by omega), if_neg (by omega), if_pos (by omega), Nat.add_sub_cancel_left]
theorem e_adv {i : Nat} (hi : i < 40) : z_a (D, cA, z, e_ad a1 a2 a3 a4 b ta tt) (80 + i) = (tt i).2 := by
  show (if 80 + i < 200 then e_ad a1 a2 a3 a4 b ta tt (80 + i) else _) = _
  rw [if_pos (by omega)]
  unfold e_ad
  rw [if_neg (by omega), if_neg (by omega), if_neg (by omega), if_neg (by omega), if_neg (by omega), if_pos (by omega), Nat.add_sub_cancel_left]
end AD
theorem e_ty {s : State} {args : Array Value} (hts : ∀ w ∈ lw_tbl, w.before args s = true) : ∀ k : Nat, ∃ cA : ClassId, k < 4 → ArrOfT s cA (z_kty k) ∧ s.vm.findClass ("[" ++ (z_kty k).toString) = some cA := by
  intro k
  by_cases hk : k < 4
  · have hw : Cond.arrayClass (z_kty k) ∈ z_T := by
      match k, hk with
      | 0, _ => exact oa_byte
      | 1, _ => exact oa_int
      | 2, _ => exact oa_long
      | 3, _ => exact oa_boolean
    obtain ⟨c, kc, comp, f1, f2, f3⟩ := Cond.arrayClass_spec (hts _ (List.mem_filter.mp hw).1)
    exact ⟨c, fun _ => ⟨fun N z => ⟨(fun k h => by cases h), kc, f2, comp, f3⟩, f1⟩⟩
  · exact ⟨0, fun h => absurd h hk⟩
theorem e_cl {s : State} {args : Array Value} (hts : ∀ w ∈ lw_tbl, w.before args s = true) : ∀ c : Nat, ∃ q : ClassId × (Nat → Nat), ∀ r, z_cl[c]? = some r → u_Kn s r.1 r.2.1 r.2.2 q.1 q.2 := by
  have hz : ∀ w ∈ z_T, w.before args s = true := fun w hw => hts w (List.mem_filter.mp hw).1
  have key : ∀ (C : String) (T : u_T) (N : Nat), (∀ w ∈ u_ws C T N, w ∈ z_T) → Cond.instantiable C N ∈ lw_tbl → ∃ q : ClassId × (Nat → Nat), ∀ r, some (C, T, N) = some r → u_Kn s r.1 r.2.1 r.2.2 q.1 q.2 := by
    intro C T N h1 h2
    obtain ⟨cC, iS, h⟩ := u_known hz h1 (hts _ h2)
    exact ⟨(cC, iS), fun r hr => by cases hr; exact h⟩
  intro c
  match c with
  | 0 => exact key RX2 TX2 1 in_X2 (by decide +kernel)
  | 1 => exact key RX3 TX3 12 in_X3 (by decide +kernel)
  | 2 => exact key RX4 TX4 5 in_X4 (by decide +kernel)
  | 3 => exact key RX5 TX5 3 in_X5 (by decide +kernel)
  | 4 => exact key RX6 TX6 10 in_X6 (by decide +kernel)
  | 5 => exact key RX7 TX7 2 in_X7 (by decide +kernel)
  | 6 => exact key RX8 TX8 6 in_X8 (by decide +kernel)
  | 7 => exact key RX9 TX9 4 in_X9 (by decide +kernel)
  | 8 => exact key RX10 TX10 12 in_X10 (by decide +kernel)
  | 9 => exact key RX11 TX11 70 in_X11 (by decide +kernel)
  | n + 10 => exact ⟨(0, fun _ => 0), fun r hr => by cases hr⟩
theorem e_sub_tbl {w : Cond} {args : Array Value} {s : State} (hts : ∀ w ∈ lw_tbl, w.before args s = true) (h : w ∈ lw_tbl) : w.before args s = true := hts w h
theorem lw_entry {p : Program} {s : State} {m : MethodId} {meth : Method} {c : Code} {b L : Nat} {xs : Nat → Int32} (C0 : lw_At p s m meth c b L xs) : ∃ G : z_G, G.2.2.1 = s.heap.size ∧ z_a G 199 = b ∧ z_X G s s.heap ∧ z_P G true [] s s.heap ∧ z_Y s := by
  obtain ⟨-, -, -, -, -, hts, -, -, -, hgv⟩ := C0
  have hs : ∀ w ∈ e_F, w.before #[Value.ref b] s = true := flat_of_before _ hgv
  have hA : ∀ a : Nat, a < s.heap.size → ¬ (fun q => s.heap.size ≤ q) a := fun a h h1 => Nat.lt_irrefl _ (Nat.lt_of_lt_of_le h h1)
  have h0 : ∀ i : Nat, ∃ q : Nat × Nat, i < 40 → (e_ts i).eval #[Value.ref b] s none [] s = some (.ref q.1) ∧ va_O z_Str q.1 (fun q => s.heap.size ≤ q) s s.heap ∧ va_OF z_Str "coder" "B" (.int 0) q.1 (fun q => s.heap.size ≤ q) s s.heap ∧ va_OF z_Str "value" "[B" (.ref q.2) q.1 (fun q => s.heap.size ≤ q) s s.heap ∧ va_T .byte q.2 (z_tlen i) (fun j => .int (z_tchr i j)) (fun q => s.heap.size ≤ q) s s.heap := by
    intro i
    by_cases hi : i < 40
    · obtain ⟨a, q1, q2⟩ := e_O (hs _ (e_8 i hi)) hA
      obtain ⟨t, ht, hT⟩ := va_Tof (f := fun j => .int (z_tchr i j)) (e_tlen i hi) (hs _ (e_10 i hi)) (va_eqt (hs _ (e_11 i hi))) (fun j hj => va_eqt (hs _ (e_12 i hi j hj))) hA
      exact ⟨(a, t), fun _ => ⟨q1, q2, vk_OFof q1 (va_eqt (hs _ (e_9 i hi))) hA, vk_OFof q1 ht hA, hT⟩⟩
    · exact ⟨(0, 0), fun h => absurd h hi⟩
  obtain ⟨tt, htt⟩ := Classical.axiomOfChoice h0
  have h1 : ∀ i : Nat, ∃ a : Nat, i < 26 → (e_ta i).eval #[Value.ref b] s none [] s = some (.ref a) ∧ va_O z_Act a (fun q => s.heap.size ≤ q) s s.heap := by
    intro i
    by_cases hi : i < 26
    · obtain ⟨a, q1, q2⟩ := e_O (hs _ (e_4 i hi)) hA
      exact ⟨a, fun _ => ⟨q1, q2⟩⟩
    · exact ⟨0, fun h => absurd h hi⟩
  obtain ⟨ta, hta⟩ := Classical.axiomOfChoice h1
  obtain ⟨a1, k1, T1⟩ := va_Tof (tm := e_A) (ty := .object z_Act) (N := 26) (f := fun j => .ref (ta j)) (by decide) (hs _ (by decide +kernel)) (va_eqt (hs _ (by decide +kernel))) (fun j hj => e_eqR (hs _ (e_1 j hj)) (hta j hj).1) hA
  obtain ⟨a2, k2, T2⟩ := va_Tof (tm := e_M) (ty := .int) (N := 26) (f := fun j => .int (z_swm.getD j 0)) (by decide) (hs _ (by decide +kernel)) (va_eqt (hs _ (by decide +kernel))) (fun j hj => va_eqt (hs _ (e_2 j hj))) hA
  obtain ⟨a3, k3, T3⟩ := va_Tof (tm := e_K) (ty := .int) (N := 26) (f := fun j => .int (z_tks.getD j 0)) (by decide) (hs _ (by decide +kernel)) (va_eqt (hs _ (by decide +kernel))) (fun j hj => va_eqt (hs _ (e_3 j hj))) hA
  have hq : va_Zq "jdk/internal/util/Preconditions" "SIOOBE_FORMATTER" "Ljava/util/function/BiFunction;" (fun q => s.heap.size ≤ q) s s.heap := va_Zqof (hts _ (by decide +kernel)) (hts _ (by decide +kernel)) (hs _ (by decide +kernel)) hA
  obtain ⟨cc, hcc⟩ := Classical.axiomOfChoice (e_cl hts)
  obtain ⟨cA, hcA⟩ := Classical.axiomOfChoice (e_ty hts)
  have hq4 : ∃ (a4 : Nat) (v : Value), (v = .null ∨ v = .ref 120) ∧ ∀ G : z_G, z_a G 120 = a4 → va_Z "jdk/internal/util/Preconditions" "SIOOBE_FORMATTER" "Ljava/util/function/BiFunction;" (z_v G v) (fun q => s.heap.size ≤ q) s s.heap := by
    rcases hq with h | ⟨t, h⟩
    · exact ⟨0, .null, Or.inl rfl, fun G hG => h⟩
    · exact ⟨t, .ref 120, Or.inr rfl, fun G hG => by show va_Z _ _ _ (.ref (z_a G 120)) _ _ _; rw [hG]; exact h⟩
  obtain ⟨a4, v4, hv4, hZ4⟩ := hq4
  refine ⟨((fun c => (cc c).1, fun c => (cc c).2), cA, s.heap.size, e_ad a1 a2 a3 a4 b ta tt), rfl, rfl, ⟨?_, ?_, ?_, ?_, ?_, ?_, ?_, ?_, ?_, ?_, ?_⟩, ⟨⟨Nat.le_refl _, fun _ => rfl⟩, ?_, ?_, ?_⟩, ?_⟩
  · exact List.forall_mem_cons.mpr ⟨va_Zof (hts _ (by decide +kernel)) (hts _ (by decide +kernel)) k1 hA, List.forall_mem_cons.mpr ⟨va_Zof (hts _ (by decide +kernel)) (hts _ (by decide +kernel)) k2 hA, List.forall_mem_cons.mpr ⟨va_Zof (hts _ (by decide +kernel)) (hts _ (by decide +kernel)) k3 hA, List.forall_mem_cons.mpr ⟨va_Zof (hts _ (by decide +kernel)) (hts _ (by decide +kernel)) (va_eqi (hs _ (by decide +kernel))) hA, fun _ h => absurd h List.not_mem_nil⟩⟩⟩⟩
  · refine List.forall_mem_cons.mpr ⟨fun i _ => ?_, List.forall_mem_cons.mpr ⟨fun i _ => T2, List.forall_mem_cons.mpr ⟨fun i _ => T3, List.forall_mem_cons.mpr ⟨fun i hi => ?_, fun _ h => absurd h List.not_mem_nil⟩⟩⟩⟩
    · refine e_Tc T1 (fun j hj => ?_)
      show Value.ref (ta j) = .ref (z_a _ (2 + j))
      rw [e_adt hj]
    · show va_T .byte (z_a _ (80 + i)) (z_tlen i) _ _ s s.heap
      rw [e_adv hi]
      exact (htt i hi).2.2.2.2
  · refine List.forall_mem_cons.mpr ⟨fun i hi => ?_, List.forall_mem_cons.mpr ⟨fun i hi => ?_, fun _ h => absurd h List.not_mem_nil⟩⟩
    · show va_O z_Act (z_a _ (2 + i)) _ s s.heap
      rw [e_adt hi]
      exact (hta i hi).2
    · show va_O z_Str (z_a _ (30 + i)) _ s s.heap
      rw [e_ads hi]
      exact (htt i hi).2.1
  · refine List.forall_mem_cons.mpr ⟨fun i hi => ?_, List.forall_mem_cons.mpr ⟨fun i hi => ?_, List.forall_mem_cons.mpr ⟨fun i hi => ?_, List.forall_mem_cons.mpr ⟨fun i hi => ?_, List.forall_mem_cons.mpr ⟨fun i hi => ?_, fun _ h => absurd h List.not_mem_nil⟩⟩⟩⟩⟩
    · show va_OF "java/lang/Enum" "ordinal" "I" (.int (nI i)) (z_a _ (2 + i)) _ s s.heap
      rw [e_adt hi]
      exact vk_OFof (hta i hi).1 (va_eqt (hs _ (e_5 i hi))) hA
    · show va_OF z_Act "word" "Ljava/lang/String;" (.ref (z_a _ (30 + i))) (z_a _ (2 + i)) _ s s.heap
      have hi2 : i < 40 := Nat.lt_trans hi (by decide)
      rw [e_adt hi, e_ads hi2]
      exact vk_OFof (hta i hi).1 (e_eqR (hs _ (e_6 i hi)) (htt i hi2).1) hA
    · show va_OF z_Act "takes" "Ljava/lang/String;" (.ref (z_a _ (30 + z_tkx.getD i 0))) (z_a _ (2 + i)) _ s s.heap
      have hi2 := e_tkx i hi
      rw [e_adt hi, e_ads hi2]
      exact vk_OFof (hta i hi).1 (e_eqR (hs _ (e_7 i hi)) (htt _ hi2).1) hA
    · show va_OF z_Str "value" "[B" (.ref (z_a _ (80 + i))) (z_a _ (30 + i)) _ s s.heap
      rw [e_ads hi, e_adv hi]
      exact (htt i hi).2.2.2.1
    · show va_OF z_Str "coder" "B" (.int 0) (z_a _ (30 + i)) _ s s.heap
      rw [e_ads hi]
      exact (htt i hi).2.2.1
  · exact List.forall_mem_cons.mpr ⟨vk_R.of (hts _ (by decide +kernel)) (htt 35 (by decide)).1, List.forall_mem_cons.mpr ⟨vk_R.of (hts _ (by decide +kernel)) (htt 36 (by decide)).1, List.forall_mem_cons.mpr ⟨vk_R.of (hts _ (by decide +kernel)) (htt 37 (by decide)).1, List.forall_mem_cons.mpr ⟨vk_R.of (hts _ (by decide +kernel)) (htt 38 (by decide)).1, List.forall_mem_cons.mpr ⟨vk_R.of (hts _ (by decide +kernel)) (htt 39 (by decide)).1, fun _ h => absurd h List.not_mem_nil⟩⟩⟩⟩⟩
  · exact List.forall_mem_cons.mpr ⟨vx_Zqof (hts _ (by decide +kernel)) (hts _ (by decide +kernel)) (hs _ (by decide +kernel)) hA, List.forall_mem_cons.mpr ⟨vx_Zqof (hts _ (by decide +kernel)) (hts _ (by decide +kernel)) (hs _ (by decide +kernel)) hA, fun _ h => absurd h List.not_mem_nil⟩⟩
  · intro q hq
    have hw : ∀ q ∈ z_xm, Cond.methodLinkNest q.1 q.2.1 q.2.2.1 q.2.2.2 ∈ lw_tbl := by decide +kernel
    exact va_Nw.of rfl (hts _ (hw q hq))
  · intro q hq
    have hw : ∀ q ∈ z_xl, Cond.fieldLinkNest q.1 q.2.1 q.2.2.1 q.2.2.2.1 q.2.2.2.2.1 q.2.2.2.2.2 ∈ lw_tbl := by decide +kernel
    exact va_Nw.of rfl (hts _ (hw q hq))
  · exact ⟨v4, hv4, hZ4 _ rfl⟩
  · intro q hq
    have hw : ∀ q ∈ z_xc, Cond.castable q q ∈ lw_tbl := by decide +kernel
    exact va_Nw.of rfl (hts _ (hw q hq))
  · exact va_Nc.of (hs _ (by decide +kernel))
  · intro k q hk
    cases hk
  · intro k r hk
    exact hcc k r hk
  · intro k q hk
    match k, hk with
    | 0, hk => cases hk; exact hcA 0 (by decide)
    | 1, hk => cases hk; exact hcA 1 (by decide)
    | 2, hk => cases hk; exact hcA 2 (by decide)
    | 3, hk => cases hk; exact hcA 3 (by decide)
    | n + 4, hk => cases hk
  · intro x hx
    have hw : ∀ x ∈ z_yd, Cond.declares x ∈ lw_tbl := by decide +kernel
    exact va_Nw.of rfl (hts _ (hw x hx))
end ZE30
