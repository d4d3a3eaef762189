theorem mLinC_at {code : ByteArray} : ∀ (t : List (List (Option mEnt))) (l : List UInt8) (k i : Nat) (c : List (Option mEnt)), mLinC l k t = true → (∀ j, l[j]? = code.data.toList[32 * k + j]?) → t[i]? = some c → ∃ l', mLin l' (32 * (k + i)) c = true ∧ ∀ j, l'[j]? = code.data.toList[32 * (k + i) + j]? := by
  intro t
  induction t with
  | nil => intro l k i c h hl hi; simp at hi
  | cons d t ih =>
    intro l k i c h hl hi
    simp only [mLinC, Bool.and_eq_true] at h
    cases i with
    | zero =>
      rw [List.getElem?_cons_zero, Option.some.injEq] at hi
      subst hi
      exact ⟨l, h.1, hl⟩
    | succ i =>
      rw [List.getElem?_cons_succ] at hi
      have := ih (l.drop 32) (k + 1) i c h.2 (fun j => by
        rw [List.getElem?_drop, hl]
        congr 1
        omega) hi
      rwa [show k + 1 + i = k + (i + 1) by omega] at this
theorem mCk_at {i pc : Nat} {row : mRow} {e : mEnt} (h : mCk i = true) (hr : mMet i = some row) (he : mFetch i pc = some e) : decode row.2.2.1 pc = .ok (e.1, e.2.1) ∧ mEck row e = true := by
  unfold mCk at h
  rw [Bool.and_eq_true] at h
  obtain ⟨hd, hE⟩ := h
  unfold mFetch at he
  cases hk : mCode i with
  | none => rw [hk] at he; cases he
  | some k =>
    rw [hk] at he
    simp only [mCd, hr, hk] at hd
    simp only [mCe, hr, hk] at hE
    simp only [Option.bind_some, Option.bind_eq_some_iff] at he
    obtain ⟨c, hc, o, ho, ho2⟩ := he
    have ho3 : o = some e := ho2
    subst ho3
    obtain ⟨l', h1, h2⟩ := mLinC_at (code := row.2.2.1) k _ 0 (pc / 32) c hd (fun j => by rw [Nat.mul_zero, Nat.zero_add]) hc
    refine ⟨?_, ?_⟩
    · have := mLin_at c l' _ (pc % 32) e h1 h2 ho
      rwa [show 32 * (0 + pc / 32) + pc % 32 = pc by omega] at this
    · have := List.all_eq_true.mp (List.all_eq_true.mp hE c (List.mem_of_getElem? hc)) _ (List.mem_of_getElem? ho)
      exact this
