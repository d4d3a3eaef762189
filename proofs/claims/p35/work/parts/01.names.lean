-- ===== PART A: goes FIRST, ahead of the names: the tables' words, and 'selects' of the private methods out of them =====
/-- a private method of a class that the tables say can be made, by its rows of tables_1 -/
def lw_okq (q : MethodName × Nat) : Prop := (q.1.cls ≠ "java/lang/invoke/MethodHandle" ∧ q.1.cls ≠ "java/lang/invoke/VarHandle") ∧ Cond.instantiable q.1.cls q.2 ∈ tables_1 ∧ Cond.privateMethod q.1 ∈ tables_1 ∧ Cond.instanceMethod q.1 ∈ tables_1
def lw_privs_1 : List (MethodName × Nat) := [(⟨"EnvyRust", "told", "(I)I"⟩, 9), (⟨"EnvyRust$Town", "addThing", "(II)I"⟩, 8), (⟨"EnvyRust$Town", "isThing", "(I)Z"⟩, 8), (⟨"EnvyRust$Town", "wearOf", "(I)I"⟩, 8), (⟨"EnvyRust$Town", "envyOf", "(II)I"⟩, 8), (⟨"EnvyRust$Town", "envyIfOwnedBy", "(III)I"⟩, 8), (⟨"EnvyRust", "forgeable", "(III)Z"⟩, 9), (⟨"EnvyRust$Town", "isPerson", "(I)Z"⟩, 8), (⟨"EnvyRust$Town", "falling", "(I)I"⟩, 8), (⟨"EnvyRust$Town", "addPerson", "(II)I"⟩, 8), (⟨"EnvyRust$Town", "ownedBy", "(I)I"⟩, 8), (⟨"EnvyRust$Town", "passDays", "(I)V"⟩, 8), (⟨"EnvyRust$Town", "fallAll", "()V"⟩, 8), (⟨"EnvyRust$Town", "isGone", "(I)Z"⟩, 8), (⟨"EnvyRust$Town", "walkAll", "()V"⟩, 8), (⟨"EnvyRust$Town", "goneSet", "()I"⟩, 8)]
def lw_privs_2 : List (MethodName × Nat) := [(⟨"EnvyRust$Town", "allThick", "()I"⟩, 8), (⟨"EnvyRust$Town", "allWear", "()I"⟩, 8), (⟨"EnvyRust$Town", "visited", "()I"⟩, 8), (⟨"EnvyRust", "startTrial", "()V"⟩, 9), (⟨"EnvyRust$Town", "become", "(LEnvyRust$Town;)V"⟩, 8), (⟨"EnvyRust", "sparingFor", "(IIII)I"⟩, 9), (⟨"EnvyRust", "thickestFor", "(IIII)I"⟩, 9), (⟨"EnvyRust", "wearAlone", "(II[I)V"⟩, 9), (⟨"EnvyRust$Town", "allThings", "()I"⟩, 8), (⟨"EnvyRust", "leftPainted", "(I)I"⟩, 9), (⟨"EnvyRust$Town", "hangingDepth", "(I)I"⟩, 8), (⟨"EnvyRust$Town", "isSet", "(I)Z"⟩, 8), (⟨"EnvyRust$Town", "worthOf", "(II)I"⟩, 8), (⟨"EnvyRust", "canDeal", "(III)Z"⟩, 9), (⟨"EnvyRust", "leavesNoEnvy", "(IIII)Z"⟩, 9), (⟨"EnvyRust", "findingOfFit", "(III)I"⟩, 9)]
def lw_privs_3 : List (MethodName × Nat) := [(⟨"EnvyRust", "findingOfSheet", "(I)I"⟩, 9), (⟨"EnvyRust$Sheet", "isMissing", "()Z"⟩, 3), (⟨"EnvyRust", "fitsWith", "(LEnvyRust$Sheet;III)Z"⟩, 9), (⟨"EnvyRust$Town", "scatter", "()V"⟩, 8), (⟨"EnvyRust$Town", "placesOfThings", "()I"⟩, 8), (⟨"EnvyRust$TextReader", "put", "(B)V"⟩, 7), (⟨"EnvyRust$TextReader", "readInto", "(LEnvyRust$Town;)I"⟩, 7), (⟨"EnvyRust$TextReader", "advance", "()V"⟩, 7), (⟨"EnvyRust$TextReader", "kindTold", "()I"⟩, 7), (⟨"EnvyRust$TextReader", "isWord", "(Ljava/lang/String;)Z"⟩, 7), (⟨"EnvyRust$TextReader", "readPerson", "(LEnvyRust$Town;I)V"⟩, 7), (⟨"EnvyRust$TextReader", "readPerhaps", "(Ljava/lang/String;II)I"⟩, 7), (⟨"EnvyRust$TextReader", "readNumber", "(I)I"⟩, 7), (⟨"EnvyRust$TextReader", "fail", "()V"⟩, 7), (⟨"EnvyRust$TextReader", "readThing", "(LEnvyRust$Town;)V"⟩, 7), (⟨"EnvyRust$Sheet", "lay", "(II)V"⟩, 3)]
def lw_privs_4 : List (MethodName × Nat) := [(⟨"EnvyRust$Sheet", "put", "(II)V"⟩, 3), (⟨"EnvyRust$Sheet", "has", "(II)Z"⟩, 3), (⟨"EnvyRust", "isLink", "(LEnvyRust$Sheet;I)Z"⟩, 9), (⟨"EnvyRust$Town", "heldSpots", "()I"⟩, 8), (⟨"EnvyRustModel", "finding", "(I)I"⟩, 24), (⟨"EnvyRustModel", "comes", "(IIIIII)I"⟩, 24), (⟨"EnvyRustModel", "isThing", "(I)Z"⟩, 24), (⟨"EnvyRustModel", "wornNow", "(I)I"⟩, 24), (⟨"EnvyRustModel", "personIs", "(II)I"⟩, 24), (⟨"EnvyRustModel", "thingIs", "(II)I"⟩, 24), (⟨"EnvyRustModel", "envyOf", "(II)I"⟩, 24), (⟨"EnvyRustModel", "envyIf", "(III)I"⟩, 24), (⟨"EnvyRustModel", "isGone", "(I)Z"⟩, 24), (⟨"EnvyRustModel", "mayForge", "(III)Z"⟩, 24), (⟨"EnvyRustModel", "isPerson", "(I)Z"⟩, 24), (⟨"EnvyRustModel", "hangsOn", "(II)Z"⟩, 24)]
def lw_privs_5 : List (MethodName × Nat) := [(⟨"EnvyRustModel", "become", "(II)I"⟩, 24), (⟨"EnvyRustModel", "joins", "(III)I"⟩, 24), (⟨"EnvyRustModel", "ownedBy", "(I)I"⟩, 24), (⟨"EnvyRustModel", "days", "(I)V"⟩, 24), (⟨"EnvyRustModel", "day", "()V"⟩, 24), (⟨"EnvyRustModel", "falls", "()Z"⟩, 24), (⟨"EnvyRustModel", "goneNow", "()I"⟩, 24), (⟨"EnvyRustModel", "thickNow", "()I"⟩, 24), (⟨"EnvyRustModel", "isSomebodyAt", "(I)Z"⟩, 24), (⟨"EnvyRustModel", "thickBehind", "(II)I"⟩, 24), (⟨"EnvyRustModel", "putBack", "(I)I"⟩, 24), (⟨"EnvyRustModel", "orNone", "(I)I"⟩, 24), (⟨"EnvyRustModel", "lostIn", "(I)I"⟩, 24), (⟨"EnvyRustModel", "leastLoss", "(III)I"⟩, 24), (⟨"EnvyRustModel", "thickest", "(IIII)I"⟩, 24), (⟨"EnvyRustModel", "lostPainted", "(II)I"⟩, 24)]
def lw_privs_6 : List (MethodName × Nat) := [(⟨"EnvyRustModel", "fallWith", "(I)I"⟩, 24), (⟨"EnvyRustModel", "areThings", "(I)Z"⟩, 24), (⟨"EnvyRustModel", "worthOf", "(II)I"⟩, 24), (⟨"EnvyRustModel", "isPair", "(III)Z"⟩, 24), (⟨"EnvyRustModel", "isDeal", "(IIII)Z"⟩, 24), (⟨"EnvyRustModel", "dealsOf", "(III)I"⟩, 24), (⟨"EnvyRustModel", "lacks", "(I)I"⟩, 24), (⟨"EnvyRustModel", "fitting", "(III)I"⟩, 24), (⟨"EnvyRustModel", "isWornSo", "(II)Z"⟩, 24), (⟨"EnvyRustModel", "drawn", "()I"⟩, 24), (⟨"EnvyRustModel", "next", "()V"⟩, 24), (⟨"EnvyRustModel", "byteAt", "(I)I"⟩, 24), (⟨"EnvyRustModel", "readItem", "()V"⟩, 24), (⟨"EnvyRustModel", "kindTold", "()I"⟩, 24), (⟨"EnvyRustModel", "isWord", "(Ljava/lang/String;)Z"⟩, 24), (⟨"EnvyRustModel", "must", "(Z)V"⟩, 24)]
def lw_privs_7 : List (MethodName × Nat) := [(⟨"EnvyRustModel", "afterWord", "(Ljava/lang/String;III)I"⟩, 24), (⟨"EnvyRustModel", "number", "(II)I"⟩, 24), (⟨"EnvyRustModel", "item", "(IIIIIII)V"⟩, 24), (⟨"EnvyRustModel", "isToldSo", "(I)I"⟩, 24)]
def lw_privs : List (MethodName × Nat) := lw_privs_1 ++ (lw_privs_2 ++ (lw_privs_3 ++ (lw_privs_4 ++ (lw_privs_5 ++ (lw_privs_6 ++ (lw_privs_7))))))
def lw_tbl : List Cond := k2_sels lw_privs ++ tables_1
/-- of the pairs at the list's head all that have the number k name the word w; the rest -/
def mTake (k : Nat) (w : Cond) : List (Nat × Cond) → Option (List (Nat × Cond))
  | [] => some []
  | q :: r => cond (Nat.beq q.1 k) (cond (decide (q.2 = w)) (mTake k w r) none) (some (q :: r))
def mWalk : Nat → List Cond → List (Nat × Cond) → Bool
  | _, [], r => r.isEmpty
  | k, w :: ws, r => match mTake k w r with
    | some r' => mWalk (k + 1) ws r'
    | none => false
theorem mTake_spec {k : Nat} {w : Cond} : ∀ {r r' : List (Nat × Cond)}, mTake k w r = some r' → ∀ q ∈ r, q.2 = w ∨ q ∈ r' := by
  intro r
  induction r with
  | nil => intro r' _ q hq; cases hq
  | cons d r ih =>
    intro r' h q hq
    unfold mTake at h
    cases hb : Nat.beq d.1 k with
    | false =>
      rw [hb] at h
      cases h
      exact Or.inr hq
    | true =>
      rw [hb] at h
      by_cases hw : d.2 = w
      · simp only [hw, decide_true, cond_true] at h
        rcases List.mem_cons.mp hq with rfl | hq
        · exact Or.inl hw
        · exact ih h q hq
      · simp [hw] at h
theorem mWalk_spec : ∀ {ws : List Cond} {k : Nat} {r : List (Nat × Cond)}, mWalk k ws r = true → ∀ q ∈ r, q.2 ∈ ws := by
  intro ws
  induction ws with
  | nil =>
    intro k r h q hq
    have : r = [] := by simpa [mWalk] using h
    subst this
    cases hq
  | cons w ws ih =>
    intro k r h q hq
    unfold mWalk at h
    cases ht : mTake k w r with
    | none => rw [ht] at h; cases h
    | some r' =>
      rw [ht] at h
      rcases mTake_spec ht q hq with h1 | h1
      · rw [h1]; exact List.mem_cons_self
      · exact List.mem_cons_of_mem _ (ih h q h1)
noncomputable def lwIx : List Nat := [155, 160, 168, 173, 177, 181, 200, 204, 208, 221, 229, 250, 255, 259, 263, 270, 284, 288, 292, 300, 304, 334, 346, 363, 368, 372, 389, 405, 410, 418, 425, 445, 449, 456, 461, 473, 482, 494, 506, 510, 521, 535, 587, 592, 596, 600, 608, 632, 640, 648, 660, 680, 787, 792, 803, 807, 811, 818, 822, 826, 830, 846, 856, 860, 865, 876, 884, 901, 905, 909, 913, 924, 928, 936, 943, 951, 964, 976, 989, 1005, 1020, 1040, 1044, 1052, 1056, 1064, 1080, 1088, 1092, 1104, 1129, 1133, 1137, 1141, 1145, 1151, 1156, 1160, 1166, 1175]
noncomputable def lwIn : List (String × Nat × Nat) := [("EnvyRust", 9, 14), ("EnvyRust$Town", 8, 22), ("EnvyRust$TextReader", 7, 68), ("EnvyRust$Sheet", 3, 100), ("EnvyRustModel", 24, 688)]
noncomputable def lwPr (x : Nat × MethodName × Nat) : List (Nat × Cond) := [(x.1, .privateMethod x.2.1), (x.1 + 1, .instanceMethod x.2.1)]
theorem lwIx_len : lwIx.length = lw_privs.length := by decide +kernel
theorem lwPr_wk : mWalk 0 tables_1 ((lwIx.zip lw_privs).flatMap lwPr) = true := by decide +kernel
theorem lwIn_wk : mWalk 0 tables_1 (lwIn.map fun c => (c.2.2, .instantiable c.1 c.2.1)) = true := by decide +kernel
theorem lwIn_ck : lw_privs.all (fun q => (decide (q.1.cls ≠ "java/lang/invoke/MethodHandle") && decide (q.1.cls ≠ "java/lang/invoke/VarHandle")) && lwIn.any (fun c => decide (c.1 = q.1.cls) && Nat.beq c.2.1 q.2)) = true := by decide +kernel
theorem lw_privs_ok : ∀ q ∈ lw_privs, lw_okq q := by
  intro q hq
  have h := List.all_eq_true.mp lwIn_ck q hq
  simp only [Bool.and_eq_true, decide_eq_true_eq] at h
  obtain ⟨⟨h1, h2⟩, h3⟩ := h
  obtain ⟨c, hc, he⟩ := List.any_eq_true.mp h3
  simp only [Bool.and_eq_true, decide_eq_true_eq] at he
  obtain ⟨e1, e2⟩ := he
  have e2 := Nat.eq_of_beq_eq_true e2
  have hi := mWalk_spec lwIn_wk (c.2.2, .instantiable c.1 c.2.1) (List.mem_map.mpr ⟨c, hc, rfl⟩)
  have hi : Cond.instantiable c.1 c.2.1 ∈ tables_1 := hi
  rw [e1, e2] at hi
  obtain ⟨j, hj⟩ := List.mem_iff_getElem?.mp hq
  have hl : j < lwIx.length := by
    rw [lwIx_len]
    exact (List.getElem?_eq_some_iff.mp hj).1
  have hz : (lwIx[j], q) ∈ lwIx.zip lw_privs := by
    refine List.mem_of_getElem? (i := j) ?_
    rw [List.getElem?_zip_eq_some]
    exact ⟨List.getElem?_eq_getElem hl, hj⟩
  have g1 := mWalk_spec lwPr_wk (lwIx[j], .privateMethod q.1) (List.mem_flatMap.mpr ⟨_, hz, List.mem_cons_self⟩)
  have g2 := mWalk_spec lwPr_wk (lwIx[j] + 1, .instanceMethod q.1) (List.mem_flatMap.mpr ⟨_, hz, List.mem_cons_of_mem _ List.mem_cons_self⟩)
  exact ⟨⟨h1, h2⟩, hi, g1, g2⟩
def RX0 : String := "EnvyRust$Sheet"
def TX0 : u_T := fun k => match k with
  | 0 => ("EnvyRust$Sheet", "row", "[I", true)
  | 1 => ("EnvyRust$Sheet", "bits", "I", false)
  | _ => ("EnvyRust$Sheet", "length", "I", false)
def tyX0 : Nat → FieldType := fun k => match k with
  | 0 => .array .int
  | 1 => .int
  | _ => .int
theorem nmX0 : ∀ a, a < 3 → ∀ b, b < 3 → a ≠ b → (TX0 a).2.1 ≠ (TX0 b).2.1 := by decide +kernel
theorem tyX0_ok : ∀ k, k < 3 → parseFieldDescriptor (TX0 k).2.2.1 = some (tyX0 k) := by decide +kernel
def RX1 : String := "EnvyRust$TextReader"
def TX1 : u_T := fun k => match k with
  | 0 => ("EnvyRust$TextReader", "tape", "[B", true)
  | 1 => ("EnvyRust$TextReader", "size", "I", false)
  | 2 => ("EnvyRust$TextReader", "token", "I", false)
  | 3 => ("EnvyRust$TextReader", "start", "I", false)
  | 4 => ("EnvyRust$TextReader", "end", "I", false)
  | 5 => ("EnvyRust$TextReader", "value", "I", false)
  | _ => ("EnvyRust$TextReader", "fault", "I", false)
def tyX1 : Nat → FieldType := fun k => match k with
  | 0 => .array .byte
  | 1 => .int
  | 2 => .int
  | 3 => .int
  | 4 => .int
  | 5 => .int
  | _ => .int
theorem nmX1 : ∀ a, a < 7 → ∀ b, b < 7 → a ≠ b → (TX1 a).2.1 ≠ (TX1 b).2.1 := by decide +kernel
theorem tyX1_ok : ∀ k, k < 7 → parseFieldDescriptor (TX1 k).2.2.1 = some (tyX1 k) := by decide +kernel
def RX2 : String := "EnvyRust$Town"
def TX2 : u_T := fun k => match k with
  | 0 => ("EnvyRust$Town", "iron", "[[I", true)
  | 1 => ("EnvyRust$Town", "folk", "[[I", true)
  | 2 => ("EnvyRust$Town", "spots", "[I", true)
  | 3 => ("EnvyRust$Town", "things", "I", false)
  | 4 => ("EnvyRust$Town", "people", "I", false)
  | 5 => ("EnvyRust$Town", "day", "I", false)
  | 6 => ("EnvyRust$Town", "z", "I", false)
  | _ => ("EnvyRust$Town", "calm", "I", false)
def tyX2 : Nat → FieldType := fun k => match k with
  | 0 => .array (.array .int)
  | 1 => .array (.array .int)
  | 2 => .array .int
  | 3 => .int
  | 4 => .int
  | 5 => .int
  | 6 => .int
  | _ => .int
theorem nmX2 : ∀ a, a < 8 → ∀ b, b < 8 → a ≠ b → (TX2 a).2.1 ≠ (TX2 b).2.1 := by decide +kernel
theorem tyX2_ok : ∀ k, k < 8 → parseFieldDescriptor (TX2 k).2.2.1 = some (tyX2 k) := by decide +kernel
def RX3 : String := "EnvyRust"
def TX3 : u_T := fun k => match k with
  | 0 => ("EnvyRust", "town", "LEnvyRust$Town;", true)
  | 1 => ("EnvyRust", "kept", "LEnvyRust$Town;", true)
  | 2 => ("EnvyRust", "trial", "LEnvyRust$Town;", true)
  | 3 => ("EnvyRust", "reader", "LEnvyRust$TextReader;", true)
  | 4 => ("EnvyRust", "sheets", "[LEnvyRust$Sheet;", true)
  | 5 => ("EnvyRust", "findings", "[I", true)
  | 6 => ("EnvyRust", "imaged", "Z", false)
  | 7 => ("EnvyRust", "bare", "[I", true)
  | _ => ("EnvyRust", "dull", "[I", true)
def tyX3 : Nat → FieldType := fun k => match k with
  | 0 => .object "EnvyRust$Town"
  | 1 => .object "EnvyRust$Town"
  | 2 => .object "EnvyRust$Town"
  | 3 => .object "EnvyRust$TextReader"
  | 4 => .array (.object "EnvyRust$Sheet")
  | 5 => .array .int
  | 6 => .boolean
  | 7 => .array .int
  | _ => .array .int
theorem nmX3 : ∀ a, a < 9 → ∀ b, b < 9 → a ≠ b → (TX3 a).2.1 ≠ (TX3 b).2.1 := by decide +kernel
theorem tyX3_ok : ∀ k, k < 9 → parseFieldDescriptor (TX3 k).2.2.1 = some (tyX3 k) := by decide +kernel
def RX4 : String := "EnvyRustModel"
def TX4 : u_T := fun k => match k with
  | 0 => ("EnvyRustModel", "now", "[I", true)
  | 1 => ("EnvyRustModel", "kept", "[I", true)
  | 2 => ("EnvyRustModel", "aside", "[I", true)
  | 3 => ("EnvyRustModel", "isKept", "Z", false)
  | 4 => ("EnvyRustModel", "found", "[I", true)
  | 5 => ("EnvyRustModel", "worn", "[I", true)
  | 6 => ("EnvyRustModel", "without", "I", false)
  | 7 => ("EnvyRustModel", "paints", "[I", true)
  | 8 => ("EnvyRustModel", "tape", "[I", true)
  | 9 => ("EnvyRustModel", "taped", "I", false)
  | 10 => ("EnvyRustModel", "begins", "I", false)
  | 11 => ("EnvyRustModel", "ends", "I", false)
  | 12 => ("EnvyRustModel", "sort", "I", false)
  | 13 => ("EnvyRustModel", "value", "I", false)
  | 14 => ("EnvyRustModel", "isWrong", "Z", false)
  | 15 => ("EnvyRustModel", "kindNames", "[Ljava/lang/String;", true)
  | 16 => ("EnvyRustModel", "items", "[I", true)
  | 17 => ("EnvyRustModel", "itemMany", "I", false)
  | 18 => ("EnvyRustModel", "thingThen", "I", false)
  | 19 => ("EnvyRustModel", "personThen", "I", false)
  | 20 => ("EnvyRustModel", "widths", "[I", true)
  | 21 => ("EnvyRustModel", "sizes", "[I", true)
  | 22 => ("EnvyRustModel", "numbers", "[I", true)
  | _ => ("EnvyRustModel", "moved", "[I", true)
def tyX4 : Nat → FieldType := fun k => match k with
  | 0 => .array .int
  | 1 => .array .int
  | 2 => .array .int
  | 3 => .boolean
  | 4 => .array .int
  | 5 => .array .int
  | 6 => .int
  | 7 => .array .int
  | 8 => .array .int
  | 9 => .int
  | 10 => .int
  | 11 => .int
  | 12 => .int
  | 13 => .int
  | 14 => .boolean
  | 15 => .array (.object "java/lang/String")
  | 16 => .array .int
  | 17 => .int
  | 18 => .int
  | 19 => .int
  | 20 => .array .int
  | 21 => .array .int
  | 22 => .array .int
  | _ => .array .int
theorem nmX4 : ∀ a, a < 24 → ∀ b, b < 24 → a ≠ b → (TX4 a).2.1 ≠ (TX4 b).2.1 := by decide +kernel
theorem tyX4_ok : ∀ k, k < 24 → parseFieldDescriptor (TX4 k).2.2.1 = some (tyX4 k) := by decide +kernel
abbrev vwCl : List vw_C := [(RX0, TX0, 3), (RX1, TX1, 7), (RX2, TX2, 8), (RX3, TX3, 9), (RX4, TX4, 24)]
