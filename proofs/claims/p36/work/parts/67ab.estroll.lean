theorem sScat_o {np : Nat} {r : Nat → Int32} : ∀ (n j : Nat), n ≤ np → j ≠ 3 → (∀ p, p < n → j ≠ 62 + 7 * p + 1) → fo sSc1 n r j = r j := by
  intro n
  induction n with
  | zero => intro j _ _ _; rfl
  | succ n ih =>
    intro j hn h3 h
    show put1 (put1 (fo sSc1 n r) 3 _) (62 + 7 * n + 1) _ j = r j
    rw [put1_o (h n (Nat.lt_succ_self n)), put1_o h3]
    exact ih j (by omega) h3 fun p hp => h p (by omega)
theorem sScat_at {np : Nat} {r : Nat → Int32} (h : ∀ p, p < np → Le 15 (r (62 + 7 * p + 1))) : ∀ p, p < np → Le 15 (sScat np r (62 + 7 * p + 1)) := by
  refine fo_p (P := fun z : Nat → Int32 => ∀ p, p < np → Le 15 (z (62 + 7 * p + 1))) np r h (fun k z hk hz => ?_)
  intro p hp
  unfold sSc1
  by_cases e : p = k
  · subst e
    rw [put1_s]
    obtain ⟨m, hm, em⟩ := ush8 (sDr (z 3))
    rw [em]
    exact rem16_k (by omega)
  · rw [put1_o (by omega), put1_o (by omega)]
    exact hz p hp
section ES
variable {nt np : Nat} {r : Nat → Int32}
theorem Vs.scat (h : Vs nt np r) : Vs nt np (sScat np r) := h.of (fun t f ht hf => sScat_o np _ (Nat.le_refl _) (by omega) (fun p hp => by have := h.1; omega)) (fun p hp => sScat_o np _ (Nat.le_refl _) (by omega) (fun q hq => by omega))
theorem Gd.scat (h : Gd nt np r) : Gd nt np (sScat np r) := by
  obtain ⟨h1, h2, hV, hr⟩ := h
  have t8 := hV.1
  have p8 := hV.2.1
  have o : ∀ j, j ≠ 3 → (∀ p, p < np → j ≠ 62 + 7 * p + 1) → sScat np r j = r j := fun j a b => sScat_o np j (Nat.le_refl _) a b
  refine ⟨(o 1 (by decide) (fun _ _ => by omega)).trans h1, (o 2 (by decide) (fun _ _ => by omega)).trans h2, hV.scat, ?_, fun s hs => ?_, fun t ht => ?_, fun p hp => ?_⟩
  · rw [o 0 (by decide) (fun _ _ => by omega)]; exact hr.1
  · rw [o _ (by omega) (fun _ _ => by omega)]; exact hr.2.1 s hs
  · rw [o _ (by omega) (fun _ _ => by omega), o _ (by omega) (fun _ _ => by omega), o _ (by omega) (fun _ _ => by omega)]; exact hr.2.2.1 t ht
  · obtain ⟨g1, g2, g3⟩ := hr.2.2.2 p hp
    exact ⟨sScat_at (fun q hq => (hr.2.2.2 q hq).1) p hp, by rw [o _ (by omega) (fun _ _ => by omega)]; exact g2, fun s hs => by rw [o _ (by omega) (fun _ _ => by omega)]; exact g3 s hs⟩
theorem Gd.str (h : Gd nt np r) {d : Nat} (hd : r 0 = nI d) : ∀ n, d + n ≤ 99999 → Gd nt np (sStr nt np n r) ∧ sStr nt np n r 0 = nI (d + n) := by
  intro n
  induction n with
  | zero => intro _; exact ⟨h, hd⟩
  | succ n ih =>
    intro hn
    obtain ⟨g1, g2⟩ := ih (by omega)
    have g0 : sScat np (sStr nt np n r) 0 = nI (d + n) := (sScat_o np 0 (Nat.le_refl _) (by decide) (fun _ _ => by omega)).trans g2
    exact g1.scat.day g0 (by omega)
theorem Vs.str (h : Vs nt np r) : ∀ n, Vs nt np (sStr nt np n r) := by
  intro n
  induction n with
  | zero => exact h
  | succ n ih => exact ih.scat.day
theorem Gd.strolls {a1 : Int32} (h : Gd nt np r) : Gd (fStrolls nt np r a1).2.1 (fStrolls nt np r a1).2.2.1 (fStrolls nt np r a1).2.2.2 := by
  unfold fStrolls
  split
  · exact h
  · rename_i h1
    obtain ⟨a, ha, ha1, rfl⟩ := le1_k (by decide) (bI_ne0 h1)
    split
    · exact h
    · rename_i h2
      rw [jI_nat (by omega)]
      obtain ⟨d, hd, ed⟩ := h.2.2.2.1
      refine (h.str ed a ?_).1
      rw [ed, jI_add] at h2
      rcases Nat.lt_or_ge 99999 (d + a) with g | g
      · exact absurd ((jI_lt (by omega) (by omega)).mpr g) h2
      · exact g
end ES
section ET
variable {X : mSc} {Q : Option Value → mHp → Prop} {M : mM} {b nt np : Nat} {r : Nat → Int32}
end ET
