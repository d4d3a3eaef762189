/-- the code read in a line, by windows -/
noncomputable def mLin : List UInt8 → Nat → List (Option mEnt) → Bool
  | _, _, [] => true
  | l, pc, none :: t => mLin l.tail (pc + 1) t
  | l, pc, some e :: t => (!l.isEmpty && match Decoder.instr pc (Jvm.Free.DS.win l pc e.2.1) (pc % 4) with
    | .ok (j, q) => decide (j = e.1) && Nat.beq q (pc % 4 + e.2.1)
    | .error _ => false) && mLin l.tail (pc + 1) t
noncomputable def mLinC : List UInt8 → Nat → List (List (Option mEnt)) → Bool
  | _, _, [] => true
  | l, k, c :: t => mLin l (32 * k) c && mLinC (l.drop 32) (k + 1) t
noncomputable def mCd (i : Nat) : Bool := match mMet i, mCode i with
  | some row, some k => mLinC row.2.2.1.data.toList 0 k
  | none, none => true
  | _, _ => false
noncomputable def mCe (i : Nat) : Bool := match mMet i, mCode i with
  | some row, some k => k.all fun c => c.all fun e => match e with
    | none => true
    | some e => mEck row e
  | none, none => true
  | _, _ => false
noncomputable def mCk (i : Nat) : Bool := mCd i && mCe i
theorem mLin_at {code : ByteArray} : ∀ (t : List (Option mEnt)) (l : List UInt8) (pc i : Nat) (e : mEnt), mLin l pc t = true → (∀ j, l[j]? = code.data.toList[pc + j]?) → t[i]? = some (some e) → decode code (pc + i) = .ok (e.1, e.2.1) := by
  intro t
  induction t with
  | nil => intro l pc i e h hl hi; simp at hi
  | cons d t ih =>
    intro l pc i e h hl hi
    have hl2 : ∀ j, l.tail[j]? = code.data.toList[pc + 1 + j]? := fun j => by
      rw [List.getElem?_tail, hl]
      congr 1
      omega
    have hnx : mLin l.tail (pc + 1) t = true := by
      cases d with
      | none => exact h
      | some d =>
        have h' : ((!l.isEmpty && match Decoder.instr pc (Jvm.Free.DS.win l pc d.2.1) (pc % 4) with
          | .ok (j, q) => decide (j = d.1) && Nat.beq q (pc % 4 + d.2.1)
          | .error _ => false) && mLin l.tail (pc + 1) t) = true := h
        rw [Bool.and_eq_true] at h'
        exact h'.2
    cases i with
    | succ i =>
      rw [List.getElem?_cons_succ] at hi
      have := ih _ _ i e hnx hl2 hi
      rwa [show pc + 1 + i = pc + (i + 1) by omega] at this
    | zero =>
      rw [List.getElem?_cons_zero, Option.some.injEq] at hi
      subst hi
      have h' : ((!l.isEmpty && match Decoder.instr pc (Jvm.Free.DS.win l pc e.2.1) (pc % 4) with
        | .ok (j, q) => decide (j = e.1) && Nat.beq q (pc % 4 + e.2.1)
        | .error _ => false) && mLin l.tail (pc + 1) t) = true := h
      rw [Bool.and_eq_true, Bool.and_eq_true] at h'
      obtain ⟨⟨h0, h1⟩, -⟩ := h'
      have hp : pc ≤ code.size := by
        have h2 : l ≠ [] := fun q => by subst q; cases h0
        have h3 := hl 0
        rw [List.getElem?_eq_getElem (List.length_pos_iff.mpr h2)] at h3
        have h4 := (List.getElem?_eq_some_iff.mp h3.symm).1
        have h5 : code.data.toList.length = code.size := by simp
        omega
      cases hr : Decoder.instr pc (Jvm.Free.DS.win l pc e.2.1) (pc % 4) with
      | error x => rw [hr] at h1; cases h1
      | ok jq =>
        obtain ⟨j, q⟩ := jq
        rw [hr] at h1
        have h1' : (decide (j = e.1) && Nat.beq q (pc % 4 + e.2.1)) = true := h1
        rw [Bool.and_eq_true, decide_eq_true_eq] at h1'
        obtain ⟨rfl, h6⟩ := h1'
        obtain rfl := Nat.eq_of_beq_eq_true h6
        have := Jvm.Free.DS.shift (Jvm.Free.DS.win_agree (n := e.2.1) hl hp) hr
        rw [Nat.add_sub_cancel_left] at this
        exact this
