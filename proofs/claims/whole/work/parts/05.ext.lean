/-! what stood before the law: the constants, by numbers: 1 ACTS, 2.. the acts, 28 the switch map, 29 TAKES, 30.. texts, 80.. their bytes -/
section ZX
def z_txt : List (List Int32) := [[115, 101, 116], [99, 111, 112, 121], [110, 111, 110, 101], [114, 111, 119], [112, 108, 97, 105, 110], [114, 111, 119, 115], [112, 108, 97, 105, 110, 115], [103, 101, 116], [103, 101, 116, 115], [112, 117, 116], [112, 117, 116, 115], [115, 105, 122, 101], [107, 105, 110, 100], [97, 100, 100], [115, 117, 98], [109, 117, 108], [108, 101, 115, 115], [115, 97, 109, 101], [112, 117, 115, 104], [112, 111, 112], [115, 97, 121], [106, 117, 109, 112], [122, 101, 114, 111], [99, 97, 108, 108], [98, 97, 99, 107], [115, 116, 111, 112], [72, 78], [72, 72], [72], [72, 72, 78], [72, 72, 72], [72, 78, 72], [76], [72, 76], [], [116, 104, 101, 114, 101, 32, 105, 115, 32, 110, 111, 32, 112, 114, 111, 103, 114, 97, 109], [110, 32, 105, 115, 32, 110, 111, 116, 32, 48, 32, 46, 46, 32, 50, 48, 48, 48], [116, 104, 101, 114, 101, 32, 105, 115, 32, 110, 111, 32, 114, 117, 110], [116, 104, 101, 114, 101, 32, 105, 115, 32, 110, 111, 32, 115, 117, 99, 104, 32, 110, 117, 109, 98, 101, 114], [115, 101, 116, 32, 99, 111, 112, 121, 32, 110, 111, 110, 101, 32, 114, 111, 119, 32, 112, 108, 97, 105, 110, 32, 114, 111, 119, 115, 32, 112, 108, 97, 105, 110, 115, 32, 103, 101, 116, 32, 103, 101, 116, 115, 32, 112, 117, 116, 32, 112, 117, 116, 115, 32, 115, 105, 122, 101, 32, 107, 105, 110, 100, 32, 97, 100, 100, 32, 115, 117, 98, 32, 109, 117, 108, 32, 108, 101, 115, 115, 32, 115, 97, 109, 101, 32, 112, 117, 115, 104, 32, 112, 111, 112, 32, 115, 97, 121, 32, 106, 117, 109, 112, 32, 122, 101, 114, 111, 32, 99, 97, 108, 108, 32, 98, 97, 99, 107, 32, 115, 116, 111, 112, 32]]
def z_tin : List (String × Nat) := [("TwinHalves$Act", 109), ("TwinHalves$Act", 117), ("TwinHalves$Act", 122), ("TwinHalves$Act", 127), ("TwinHalves$Act", 130), ("TwinHalves$Act", 133), ("TwinHalves$Act", 136), ("TwinHalves$Act", 139), ("TwinHalves$Act", 144), ("TwinHalves$Act", 149), ("TwinHalves$Act", 154), ("TwinHalves$Act", 157), ("TwinHalves$Act", 160), ("TwinHalves$Act", 163), ("TwinHalves$Act", 166), ("TwinHalves$Act", 169), ("TwinHalves$Act", 172), ("TwinHalves$Act", 175), ("TwinHalves$Act", 178), ("TwinHalves$Act", 181), ("TwinHalves$Act", 184), ("TwinHalves$Act", 187), ("TwinHalves$Act", 192), ("TwinHalves$Act", 197), ("TwinHalves$Act", 200), ("TwinHalves$Act", 205), ("TwinHalves$Act", 111), ("TwinHalves$Act", 119), ("TwinHalves$Act", 124), ("TwinHalves$Act", 141), ("TwinHalves$Act", 146), ("TwinHalves$Act", 151), ("TwinHalves$Act", 189), ("TwinHalves$Act", 194), ("TwinHalves$Act", 202), ("TwinHalves", 105), ("TwinHalves", 116), ("TwinHalves", 122), ("TwinHalves", 153), ("TwinHalvesModel", 241)]
def z_tlen (i : Nat) : Nat := (z_txt.getD i []).length
def z_tchr (i j : Nat) : Int32 := (z_txt.getD i []).getD j 0
def z_acts : List String := ["SET", "COPY", "NOTHING", "ROW", "PLAIN", "ROWS", "PLAINS", "GET", "GETS", "PUT", "PUTS", "SIZE", "KIND", "ADD", "SUB", "MUL", "LESS", "SAME", "PUSH", "POP", "SAY", "JUMP", "ZERO", "CALL", "BACK", "STOP"]
def z_tkx : List Nat := [26, 27, 28, 26, 26, 27, 27, 29, 30, 31, 30, 27, 27, 30, 30, 30, 30, 30, 28, 28, 28, 32, 33, 32, 34, 34]
def z_swm : List Int32 := [1, 2, 3, 4, 5, 6, 7, 8, 9, 10, 11, 12, 13, 14, 15, 16, 17, 18, 19, 20, 21, 22, 23, 24, 25, 0]
def z_tks : List Int32 := [12, 11, 1, 12, 12, 11, 11, 112, 111, 121, 111, 11, 11, 111, 111, 111, 111, 111, 1, 1, 1, 3, 13, 3, 0, 0]
abbrev z_Act : String := "TwinHalves$Act"
abbrev z_Str : String := "java/lang/String"
/-- static fields: class, name, descriptor, value -/
def z_xz : List (String × String × String × Value) := [("TwinHalves", "ACTS", "[LTwinHalves$Act;", .ref 1), ("TwinHalves$1", "$SwitchMap$TwinHalves$Act", "[I", .ref 28), ("TwinHalvesModel", "TAKES", "[I", .ref 29), (z_Str, "COMPACT_STRINGS", "Z", .int 1)]
/-- arrays: the type, how many, their numbers, lengths, contents -/
def z_xt : List (FieldType × Nat × (Nat → Nat) × (Nat → Nat) × (Nat → Nat → Value)) := [(.object z_Act, 1, (fun _ => 1), (fun _ => 26), (fun _ j => .ref (2 + j))), (.int, 1, (fun _ => 28), (fun _ => 26), (fun _ j => .int (z_swm.getD j 0))), (.int, 1, (fun _ => 29), (fun _ => 26), (fun _ j => .int (z_tks.getD j 0))), (.byte, 40, (fun i => 80 + i), z_tlen, (fun i j => .int (z_tchr i j)))]
/-- objects: the class, how many, their numbers -/
def z_xo : List (String × Nat × (Nat → Nat)) := [(z_Act, 26, (fun i => 2 + i)), (z_Str, 40, (fun i => 30 + i))]
/-- their fields: owner, name, descriptor, how many, numbers of the objects, values -/
def z_xf : List (String × String × String × Nat × (Nat → Nat) × (Nat → Value)) := [("java/lang/Enum", "ordinal", "I", 26, (fun i => 2 + i), (fun i => .int (nI i))), (z_Act, "word", "Ljava/lang/String;", 26, (fun i => 2 + i), (fun i => .ref (30 + i))), (z_Act, "takes", "Ljava/lang/String;", 26, (fun i => 2 + i), (fun i => .ref (30 + z_tkx.getD i 0))), (z_Str, "value", "[B", 40, (fun i => 30 + i), (fun i => .ref (80 + i))), (z_Str, "coder", "B", 40, (fun i => 30 + i), (fun _ => .int 0))]
/-- texts that are loaded: the class, the entry, the text, its number -/
def z_xr : List (String × Nat × String × Nat) := [("TwinHalves", 105, "there is no program", 65), ("TwinHalves", 116, "n is not 0 .. 2000", 66), ("TwinHalves", 122, "there is no run", 67), ("TwinHalves", 153, "there is no such number", 68), ("TwinHalvesModel", 241, "set copy none row plain rows plains get gets put puts size kind add sub mul less same push pop say jump zero call back stop ", 69)]
/-- statics that are null or some reference -/
def z_xq : List (String × String × String) := [("java/lang/Throwable", "UNASSIGNED_STACK", "[Ljava/lang/StackTraceElement;"), ("java/lang/Throwable", "SUPPRESSED_SENTINEL", "Ljava/util/List;")]
/-- links to private members of nest mates -/
def z_xm : List (String × Nat × MethodName × String) := [("TwinHalves", 15, ⟨"TwinHalves$Reader", "<init>", "()V"⟩, "TwinHalves"), ("TwinHalves$Reader", 11, ⟨"TwinHalves$Tokens", "<init>", "()V"⟩, "TwinHalves"), ("TwinHalves", 22, ⟨"TwinHalves$Program", "<init>", "()V"⟩, "TwinHalves"), ("TwinHalves", 70, ⟨"TwinHalves$Text", "<init>", "()V"⟩, "TwinHalves"), ("TwinHalves$Tokens", 58, ⟨"TwinHalves", "isHand", "(I)Z"⟩, "TwinHalves")]
def z_xl : List (String × Nat × String × String × String × String) := [("TwinHalves$Tokens", 65, "TwinHalves", "ACTS", "[LTwinHalves$Act;", "TwinHalves"), ("TwinHalves$Reader", 82, "TwinHalves", "ACTS", "[LTwinHalves$Act;", "TwinHalves"), ("TwinHalves$Runner", 67, "TwinHalves", "ACTS", "[LTwinHalves$Act;", "TwinHalves")]
/-- the exceptions' classes -/
def z_xc : List String := ["java/lang/IllegalStateException", "java/lang/IllegalArgumentException", "java/util/NoSuchElementException"]
def z_X (G : z_G) (U : State) (H : Heap) : Prop :=
  (∀ q ∈ z_xz, va_Z q.1 q.2.1 q.2.2.1 (z_v G q.2.2.2) (z_A G) U H) ∧
  (∀ q ∈ z_xt, ∀ i, i < q.2.1 → va_T q.1 (z_a G (q.2.2.1 i)) (q.2.2.2.1 i) (fun j => z_v G (q.2.2.2.2 i j)) (z_A G) U H) ∧
  (∀ q ∈ z_xo, ∀ i, i < q.2.1 → va_O q.1 (z_a G (q.2.2 i)) (z_A G) U H) ∧
  (∀ q ∈ z_xf, ∀ i, i < q.2.2.2.1 → va_OF q.1 q.2.1 q.2.2.1 (z_v G (q.2.2.2.2.2 i)) (z_a G (q.2.2.2.2.1 i)) (z_A G) U H) ∧
  (∀ q ∈ z_xr, vk_R q.1 q.2.1 q.2.2.1 (z_a G q.2.2.2) U) ∧
  (∀ q ∈ z_xq, vx_Zq q.1 q.2.1 q.2.2 (z_A G) U H) ∧
  (∀ q ∈ z_xm, va_Nw (.methodLinkNest q.1 q.2.1 q.2.2.1 q.2.2.2) U) ∧
  (∀ q ∈ z_xl, va_Nw (.fieldLinkNest q.1 q.2.1 q.2.2.1 q.2.2.2.1 q.2.2.2.2.1 q.2.2.2.2.2) U) ∧
  (∃ v : Value, (v = .null ∨ v = .ref 120) ∧ va_Z "jdk/internal/util/Preconditions" "SIOOBE_FORMATTER" "Ljava/util/function/BiFunction;" (z_v G v) (z_A G) U H) ∧
  (∀ E ∈ z_xc, va_Nw (.castable E E) U) ∧ va_Nc "java/lang/IllegalStateException" "java/lang/IllegalArgumentException" U
theorem z_X.warm {G : z_G} {s U : State} {H : Heap} (hW : s.WarmedH U.vm) (h : z_X G s H) : z_X G U H := by
  obtain ⟨h1, h2, h3, h4, h5, h6, h7, h8, ⟨v9, h9, h10⟩, h11, h12⟩ := h
  exact ⟨fun q hq => va_Z.moved hW.alike (h1 q hq), fun q hq i hi => va_T.moved hW.alike (h2 q hq i hi), fun q hq i hi => va_O.moved hW.alike (h3 q hq i hi), fun q hq i hi => va_OF.moved hW.alike (h4 q hq i hi),
    fun q hq => vk_R.warm hW (h5 q hq), fun q hq => vx_Zq.moved hW.alike (h6 q hq), fun q hq => va_Nw.warmM hW (h7 q hq), fun q hq => va_Nw.warmF hW (h8 q hq), ⟨v9, h9, va_Z.moved hW.alike h10⟩, fun E hE => va_Nw.warmC hW (h11 E hE), va_Nc.moved hW.alike h12⟩
theorem z_X.kept {G : z_G} {U : State} {H H1 : Heap} (h : z_X G U H) (hq : ∀ a : Nat, a < H.size → ¬ z_A G a → H1[a]? = H[a]?) : z_X G U H1 := by
  obtain ⟨h1, h2, h3, h4, h5, h6, h7, h8, ⟨v9, h9, h10⟩, h11, h12⟩ := h
  exact ⟨fun q hz => (h1 q hz).kept hq, fun q hz i hi => (h2 q hz i hi).kept hq, fun q hz i hi => (h3 q hz i hi).kept hq, fun q hz i hi => (h4 q hz i hi).kept hq, h5, fun q hz => (h6 q hz).kept hq, h7, h8, ⟨v9, h9, h10.kept hq⟩, h11, h12⟩
theorem z_X.same {G : z_G} {s U : State} {H : Heap} (hv : U.vm = s.vm) (h : z_X G s H) : z_X G U H := z_X.warm (by rw [hv]; exact State.WarmedH.refl s) h
end ZX
