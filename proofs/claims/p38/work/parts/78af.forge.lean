section FO
variable {X : mSc} {Q : Option Value → mHp → Prop} {M : mM}
theorem g21 {s m : Nat} (hs : s < 256) (hm8 : m < 8) : mT X 21 [.int (nI s), .int (nI m)] (con M) (some (.int (bI (s.testBit m = true)))) (con M) := by
  refine mT.of (row := _) rfl (Nat.le_of_ble_eq_true rfl) ?_
  have hm : mMet 21 = some _ := rfl
  refine x_iload_n hm rfl rfl ?_
  refine x_iload_n hm rfl rfl ?_
  refine x_ishr hm rfl ?_
  refine x_iconst hm rfl (v := nI 1) (by decide) ?_
  refine x_iand hm rfl ?_
  refine x_iconst hm rfl (v := nI 1) (by decide) ?_
  refine x_icmp_ne hm rfl (t := 13) rfl (fun h1 => ?_) (fun h1 => ?_)
  · refine x_iconst hm rfl (v := nI 0) (by decide) ?_
    refine x_iret hm rfl rfl (by first | rfl | exact bI_nar | decide) ?_
    first
      | exact qt (congrArg Value.int (bI_t ((bitR s hs m hm8).mp h1)))
      | exact qt (congrArg Value.int (bI_f fun q => h1 ((bitR s hs m hm8).mpr q)))
  · refine x_iconst hm rfl (v := nI 1) (by decide) ?_
    refine x_goto hm rfl (t := 14) rfl ?_
    refine x_iret hm rfl rfl (by first | rfl | exact bI_nar | decide) ?_
    first
      | exact qt (congrArg Value.int (bI_t ((bitR s hs m hm8).mp h1)))
      | exact qt (congrArg Value.int (bI_f fun q => h1 ((bitR s hs m hm8).mpr q)))
/-- what holds of a set of falling things while it grows -/
def Fs (r : Nat → Int32) (nt t s : Nat) : Prop := s < 256 ∧ s.testBit t = true ∧ ∀ m, s.testBit m = true → m < nt ∧ Rch r t m
def Fcl (r : Nat → Int32) (nt k s : Nat) : Prop := ∀ u, u < k → ∀ w, w < nt → r (14 + 6 * u + 5) = nI w → s.testBit w = true → s.testBit u = true
section FS
variable {r : Nat → Int32} {nt np t s k : Nat}
theorem Fs.one (ht : t < nt) (h8 : nt ≤ 8) : Fs r nt t (2 ^ t) := by
  refine ⟨Nat.pow_lt_pow_right (n := 8) (by decide) (by omega), by rw [Nat.testBit_two_pow_self], fun m hm => ?_⟩
  rw [Nat.testBit_two_pow, decide_eq_true_iff] at hm
  subst hm
  exact ⟨ht, Rch.self⟩
theorem Fs.add {w : Nat} (h : Fs r nt t s) (h8 : nt ≤ 8) (hk : k < nt) (hw : w < nt) (e : r (14 + 6 * k + 5) = nI w) (g : s.testBit w = true) : Fs r nt t (s ||| 2 ^ k) := by
  obtain ⟨h1, h2, h3⟩ := h
  refine ⟨or_lt h1 (by omega), tb_or.mpr (Or.inl h2), fun m hm => ?_⟩
  rcases tb_or.mp hm with a | rfl
  · exact h3 m a
  · exact ⟨hk, Rch.step (by omega) e (h3 w g).2⟩
theorem Fs.done (h : Fs r nt t s) (hV : Vs nt np r) (g : Fcl r nt nt s) : s = wS (Rch r t) nt := by
  obtain ⟨h1, h2, h3⟩ := h
  refine wS_eq fun u => ⟨h3 u, fun hu => ?_⟩
  obtain ⟨hu, hR⟩ := hu
  refine (Rch.ind (P := fun u => u < nt → s.testBit u = true) (fun _ => h2) (fun u w hw e ih hu => ?_) hR) hu
  rcases hV.on hu with e2 | ⟨w2, hw2, e2⟩
  · rw [e] at e2
    exact absurd (show (0 : Int32) ≤ nI w from Int32.not_lt.mp (jI_nn (by omega))) (by rw [e2]; decide)
  · have e3 : w2 = w := jI_inj (by have := hV.1; omega) (by omega) (e2.symm.trans e)
    subst e3
    exact g u hu w2 hw2 e (ih hw2)
theorem Fcl.none (h : Fcl r nt k s) (e : ∀ w, w < nt → ¬ (r (14 + 6 * k + 5) = nI w ∧ s.testBit w = true) ∨ s.testBit k = true) : Fcl r nt (k + 1) s := by
  intro u hu w hw e1 e2
  by_cases hk : u = k
  · subst hk
    exact (e w hw).resolve_left fun z => z ⟨e1, e2⟩
  · exact h u (by omega) w hw e1 e2
end FS
end FO
