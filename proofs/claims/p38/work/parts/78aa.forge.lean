/-! ===== what hangs and falls; forge ===== -/
theorem bitR : ∀ k, k < 256 → ∀ m, m < 8 → ((nI k >>> (nI m &&& 31)) &&& nI 1 = nI 1 ↔ k.testBit m = true) := by decide +kernel
theorem bitO : ∀ k, k < 256 → ∀ m, m < 8 → nI k ||| (nI 1 <<< (nI m &&& 31)) = nI (k ||| 2 ^ m) := by decide +kernel
theorem bit0 : ∀ k, k < 256 → nI k ||| nI 0 = nI k := by decide +kernel
def c8 (s : Nat) : Nat := s % 2 + s / 2 % 2 + s / 4 % 2 + s / 8 % 2 + s / 16 % 2 + s / 32 % 2 + s / 64 % 2 + s / 128 % 2
theorem c8_le {s : Nat} : c8 s ≤ 8 := by
  unfold c8
  omega
theorem c8_or : ∀ k, k < 256 → ∀ m, m < 8 → k.testBit m = false → c8 (k ||| 2 ^ m) = c8 k + 1 := by decide +kernel
theorem c8_one : ∀ m, m < 8 → c8 (2 ^ m) = 1 := by decide +kernel
theorem or_lt {k m : Nat} (h : k < 256) (hm : m < 8) : k ||| 2 ^ m < 256 := Nat.or_lt_two_pow (n := 8) h (Nat.pow_lt_pow_right (by decide) hm)
theorem tb_or {k m u : Nat} : (k ||| 2 ^ m).testBit u = true ↔ k.testBit u = true ∨ m = u := by
  rw [Nat.testBit_or, Nat.testBit_two_pow, Bool.or_eq_true, decide_eq_true_iff]
theorem tb_lt {k m : Nat} (h : k < 256) (hm : k.testBit m = true) : m < 8 := by
  refine Nat.lt_of_not_le fun g => ?_
  rw [Nat.testBit_lt_two_pow (Nat.lt_of_lt_of_le h (show 256 ≤ 2 ^ m from Nat.pow_le_pow_right (n := 2) (i := 8) (by decide) g))] at hm
  exact Bool.false_ne_true hm
/-- those of the first n of which P holds, as a set -/
noncomputable def wS (P : Nat → Prop) : Nat → Nat
  | 0 => 0
  | n + 1 => wS P n ||| @ite _ (P n) (Classical.propDecidable _) (2 ^ n) 0
section WS
variable {P : Nat → Prop} {n : Nat}
theorem wS_t (h : P n) : wS P (n + 1) = wS P n ||| 2 ^ n := by
  show wS P n ||| @ite _ (P n) (Classical.propDecidable _) (2 ^ n) 0 = _
  rw [if_pos h]
theorem wS_f (h : ¬ P n) : wS P (n + 1) = wS P n := by
  show wS P n ||| @ite _ (P n) (Classical.propDecidable _) (2 ^ n) 0 = _
  rw [if_neg h, Nat.or_zero]
theorem wS_tb {u : Nat} : (wS P n).testBit u = true ↔ u < n ∧ P u := by
  induction n with
  | zero =>
    show (0 : Nat).testBit u = true ↔ _
    rw [Nat.zero_testBit]
    exact ⟨fun h => absurd h Bool.false_ne_true, fun h => absurd h.1 (Nat.not_lt_zero _)⟩
  | succ n ih =>
    by_cases h : P n
    · rw [wS_t h, tb_or, ih]
      refine ⟨fun g => g.elim (fun g => ⟨by omega, g.2⟩) (fun g => ⟨by omega, g ▸ h⟩), fun g => ?_⟩
      by_cases e : n = u
      · exact Or.inr e
      · exact Or.inl ⟨by omega, g.2⟩
    · rw [wS_f h, ih]
      refine ⟨fun g => ⟨by omega, g.2⟩, fun g => ⟨?_, g.2⟩⟩
      have : ¬ u = n := fun e => h (e ▸ g.2)
      omega
theorem wS_lt (h : n ≤ 8) : wS P n < 256 := by
  induction n with
  | zero => exact (by decide : 0 < 256)
  | succ n ih =>
    by_cases g : P n
    · rw [wS_t g]
      exact or_lt (ih (by omega)) (by omega)
    · rw [wS_f g]
      exact ih (by omega)
theorem wS_eq {s : Nat} (h : ∀ u, s.testBit u = true ↔ u < n ∧ P u) : s = wS P n := by
  refine Nat.eq_of_testBit_eq fun u => ?_
  have e : s.testBit u = true ↔ (wS P n).testBit u = true := (h u).trans wS_tb.symm
  rcases hs : s.testBit u with _ | _
  · rcases hw : (wS P n).testBit u with _ | _
    · rfl
    · rw [e.mpr hw] at hs
      exact absurd hs.symm Bool.false_ne_true
  · exact (e.mp hs).symm
end WS
section RC
variable {r : Nat → Int32} {o u w : Nat}
theorem Rch.self : Rch r o o := ⟨1, Or.inl rfl⟩
theorem Rch.step (hw : w ≤ 7) (e : r (14 + 6 * u + 5) = nI w) (h : Rch r o w) : Rch r o u := by
  obtain ⟨f, hf⟩ := h
  exact ⟨f + 1, Or.inr ⟨w, hw, e, hf⟩⟩
theorem Rch.ind {P : Nat → Prop} (h0 : P o) (hs : ∀ u w, w ≤ 7 → r (14 + 6 * u + 5) = nI w → P w → P u) (h : Rch r o u) : P u := by
  obtain ⟨f, hf⟩ := h
  induction f generalizing u with
  | zero => exact absurd hf id
  | succ f ih =>
    rcases hf with e | ⟨w, hw, e, g⟩
    · rw [e]; exact h0
    · exact hs u w hw e (ih g)
theorem Rch.no (h : ¬ u = o) (g : ∀ w, w ≤ 7 → r (14 + 6 * u + 5) = nI w → ¬ Rch r o w) : ¬ Rch r o u := by
  rintro ⟨f, hf⟩
  cases f with
  | zero => exact hf
  | succ f =>
    rcases hf with e | ⟨w, hw, e, hf⟩
    · exact h e
    · exact g w hw e ⟨f, hf⟩
end RC
section FO
variable {X : mSc} {Q : Option Value → mHp → Prop} {M : mM}
end FO
