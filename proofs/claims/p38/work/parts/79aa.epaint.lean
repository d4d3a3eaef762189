/-! ===== paint, fits, likes: the reference ===== -/
theorem bitR2 : ∀ k, k < 1024 → ∀ m, m < 10 → ((nI k >>> (nI m &&& 31)) &&& nI 1 = nI 1 ↔ k.testBit m = true) := by decide +kernel
theorem bitO2 : ∀ k, k < 1024 → ∀ m, m < 10 → nI k ||| (nI 1 <<< (nI m &&& 31)) = nI (k ||| 2 ^ m) := by decide +kernel
theorem bit02 : ∀ k, k < 1024 → nI k ||| nI 0 = nI k := by decide +kernel
theorem wS_lt2 {P : Nat → Prop} {n : Nat} (h : n ≤ 10) : wS P n < 1024 := by
  induction n with
  | zero => exact (by decide : 0 < 1024)
  | succ n ih =>
    by_cases g : P n
    · rw [wS_t g]
      exact Nat.or_lt_two_pow (n := 10) (ih (by omega)) (Nat.pow_lt_pow_right (by decide) (by omega))
    · rw [wS_f g]
      exact ih (by omega)
theorem bits_le2 : ∀ s, s < 1024 → ((nI s) &&& (nI s - nI 1)).toNatClampNeg < 1024 ∧ nI ((nI s) &&& (nI s - nI 1)).toNatClampNeg = (nI s) &&& (nI s - nI 1) ∧ (¬ s = 0 → ((nI s) &&& (nI s - nI 1)).toNatClampNeg < s) := by decide +kernel
/-- the first k things painted so -/
def pnt (s : Nat) (r : Nat → Int32) : Nat → Nat → Int32
  | 0 => r
  | k + 1 => put1 (pnt s r k) (14 + 6 * k + 3) (if s.testBit k = true then nI 9 else r (14 + 6 * k + 3))
theorem pnt_hi {s j : Nat} {r : Nat → Int32} : ∀ k, (∀ u, u < k → ¬ j = 14 + 6 * u + 3) → pnt s r k j = r j := by
  intro k
  induction k with
  | zero => exact fun _ => rfl
  | succ k ih =>
    intro h
    show put1 (pnt s r k) (14 + 6 * k + 3) _ j = _
    rw [put1_o (h k (Nat.lt_succ_self _))]
    exact ih fun u hu => h u (by omega)
/-- what all lose with a set painted, or too much -/
def sLp (r : Nat → Int32) (w : Int32) (nt np n : Nat) (m : Int32) (k : Nat) : Int32 := if sBits 256 (nI 0) (nI k) = m then sThick (pnt k r nt) nt - sThick (sDays w nt np n (pnt k r nt)) nt else nI 2147483647
def sPt (r : Nat → Int32) (w : Int32) (nt np n : Nat) (m : Int32) (k : Nat) (z : Int32 × Int32) : Int32 × Int32 := (if sLp r w nt np n m k < z.2 then nI k else z.1, mn2 z.2 (sLp r w nt np n m k))
/-- whether a thing wore so -/
def sFt (N : Nat → Int32) (w : Int32) (nt np t : Nat) : Nat → Nat → (Nat → Int32) → Bool
  | 0, _, _ => true
  | f + 1, k, r => if N k = -1 ∨ N k = r (14 + 6 * t + 2) then sFt N w nt np t f (k + 1) (sDay w nt np r) else false
noncomputable def sFs (N : Nat → Int32) (w : Int32) (nt np t z pl : Nat) (r : Nat → Int32) (n : Nat) : Nat := wS (fun v => sFt N w nt np t z 0 (put1 r pl (nI v)) = true) n
def sLk (s : Nat) : Nat → Nat → Int32 × Bool
  | 0, _ => (-1000004, true)
  | f + 1, k => if s.testBit k = true then (nI k, false) else sLk s f (k + 1)
def qPaint (r : Nat → Int32) (nt np : Nat) (a1 a2 : Int32) : Int32 × Bool := if bI (nI 0 ≤ a1 ∧ a1 ≤ nI 8) = 0 then (-1000001, true) else if bI (nI 0 ≤ a2 ∧ a2 ≤ nI 60) = 0 then (-1000001, true) else ((fo (sPt r (-1) nt np a2.toNatClampNeg (mn2 a1 (nI nt))) (2 ^ nt) (nI 0, 2147483647)).1, false)
noncomputable def qFits (l : Int32) (W N r : Nat → Int32) (nt np : Nat) (a1 a2 a3 : Int32) : Int32 × Bool := if ¬ l = 0 then (l, true) else if bI (nI 0 ≤ a2 ∧ a2 ≤ nI np - nI 1) = 0 then (-1000001, true) else if bI (nI 0 ≤ a3 ∧ a3 ≤ nI nt - nI 1) = 0 then (-1000001, true) else (sBits 1024 (nI 0) (nI (sFs (fun j => N (40 * a1.toNatClampNeg + j)) (-1) nt np a3.toNatClampNeg (W a1.toNatClampNeg).toNatClampNeg (62 + 7 * a2.toNatClampNeg + (3 + (r (14 + 6 * a3.toNatClampNeg + 0)).toNatClampNeg)) r 10)), false)
noncomputable def qLikes (l : Int32) (W N r : Nat → Int32) (nt np : Nat) (a1 a2 a3 : Int32) : Int32 × Bool := if ¬ l = 0 then (l, true) else if bI (nI 0 ≤ a2 ∧ a2 ≤ nI np - nI 1) = 0 then (-1000001, true) else if bI (nI 0 ≤ a3 ∧ a3 ≤ nI nt - nI 1) = 0 then (-1000001, true) else sLk (sFs (fun j => N (40 * a1.toNatClampNeg + j)) (-1) nt np a3.toNatClampNeg (W a1.toNatClampNeg).toNatClampNeg (62 + 7 * a2.toNatClampNeg + (3 + (r (14 + 6 * a3.toNatClampNeg + 0)).toNatClampNeg)) r 10) 10 0
section EP
variable {X : mSc} {Q : Option Value → mHp → Prop} {M : mM}
/-- what a try with paints leaves -/
def Kp (M M1 : mM) : Prop := (Wf M → Wf M1) ∧ ∀ a, a ≠ 69 → a ≠ 71 → a ≠ 72 → M1 a = M a
theorem Kp.rf : Kp M M := ⟨fun h => h, fun _ _ _ _ => rfl⟩
theorem Kp.to {M1 M2 : mM} (h : Kp M M1) (g : Kp M1 M2) : Kp M M2 := ⟨fun w => g.1 (h.1 w), fun a h1 h2 h3 => (g.2 a h1 h2 h3).trans (h.2 a h1 h2 h3)⟩
theorem Kp.kq {M1 : mM} (h : Kp M M1) : Kq M M1 := ⟨h.1, fun a _ h2 _ h4 h5 => h.2 a h2 h4 h5, by rw [h.2 66 (by decide) (by decide) (by decide)], by rw [h.2 66 (by decide) (by decide) (by decide)], by rw [h.2 66 (by decide) (by decide) (by decide)]⟩
theorem Kp.fq {M1 : mM} {v : Int32} (h : Kp M M1) : Fq (v, false) M M1 := h.2 70 (by decide) (by decide) (by decide)
end EP
