/-! ===== strolls ===== -/
def sDr (z : Int32) : Int32 := z * nI 1103515245 + nI 12345
def sSc1 (p : Nat) (q : Nat → Int32) : Nat → Int32 := put1 (put1 q 3 (sDr (q 3))) (62 + 7 * p + 1) (rem16 (ush (sDr (q 3)) (nI 8)))
def sScat (np : Nat) (r : Nat → Int32) : Nat → Int32 := fo sSc1 np r
def sStr (nt np n : Nat) (r : Nat → Int32) : Nat → Int32 := fo (fun _ q => sDay (-1) nt np (sScat np q)) n r
def fStrolls (nt np : Nat) (r : Nat → Int32) (a1 : Int32) : Sq4 :=
  if bI (nI 1 ≤ a1 ∧ a1 ≤ nI 20) = 0 then (-1000001, nt, np, r) else if nI 99999 < r 0 + a1 then (-1000005, nt, np, r) else (sThick r nt - sThick (sStr nt np a1.toNatClampNeg r) nt, nt, np, sStr nt np a1.toNatClampNeg r)
theorem ush8 (z : Int32) : ∃ k, k < 16777216 ∧ ush z (nI 8) = nI k := by
  refine ⟨(z.toUInt32 >>> 8).toNat, ?_, ?_⟩
  · rw [UInt32.toNat_shiftRight, Nat.shiftRight_eq_div_pow]
    have := z.toUInt32.toNat_lt
    have e : (8 : UInt32).toNat % 32 = 8 := by decide +kernel
    rw [e]
    omega
  · have e : (nI 8).toUInt32 &&& Int32.toUInt32 31 = 8 := by decide +kernel
    unfold ush
    rw [e]
    exact congrArg UInt32.toInt32 UInt32.ofNat_toNat.symm
theorem div16 {k : Nat} (h : k < 2147483648) : nI k / nI 16 = nI (k / 16) := by
  apply Int32.toInt_inj.mp
  rw [Int32.toInt_div, jI_int h, jI_int (by decide), jI_int (by omega), Int.tdiv_eq_ediv_of_nonneg (by omega), Int.bmod_def]
  omega
theorem rem16_k {k : Nat} (h : k < 2147483648) : Le 15 (rem16 (nI k)) := by
  refine ⟨k % 16, by omega, ?_⟩
  unfold rem16
  rw [div16 h, jI_mul, sub_le (by omega)]
  congr 1
  omega
