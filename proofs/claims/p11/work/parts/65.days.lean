/-! ===== days keep rows good ===== -/
section GDY
variable {nt np : Nat} {r : Nat → Int32} {w : Int32}
abbrev chk (v : Int32) : Prop := v.toNatClampNeg ≤ 18 ∧ nI v.toNatClampNeg = v
theorem chk.le {v : Int32} (h : chk v) : Le 18 v := ⟨_, h.1, h.2.symm⟩
theorem ck1 : ∀ l, l < 10 → ∀ p, p < 10 → chk (mx0 ((nI l - nI p) / nI 2)) := by decide +kernel
theorem ck2 : ∀ l, l < 10 → ∀ p, p < 10 → chk (mx0 (nI l - nI p)) := by decide +kernel
theorem ck3 : ∀ l, l < 10 → ∀ p, p < 10 → chk (mx0 (nI l - nI p + nI 2)) := by decide +kernel
theorem ck4 : ∀ l, l < 10 → ∀ p, p < 10 → chk (mx0 (nI l - nI p - nI 3)) := by decide +kernel
theorem ck5 : ∀ l, l < 10 → ∀ p, p < 10 → chk (mx0 (nI l - nI p + nI 2 - nI 3)) := by decide +kernel
theorem ck6 : ∀ l, l < 10 → ∀ p, p < 10 → ∀ q, q < 10 → chk (mx0 (nI l - nI p - nI 3 + nI q)) := by decide +kernel
theorem ck7 : ∀ l, l < 10 → ∀ p, p < 10 → ∀ q, q < 10 → chk (mx0 (nI l - nI p + nI 2 - nI 3 + nI q)) := by decide +kernel
theorem ck8 : ∀ l, l < 10 → ∀ p, p < 10 → chk (mx0 (nI 2 * (nI l - nI p))) := by decide +kernel
theorem ck9 : chk (mx0 (nI 0)) ∧ chk (nI 0) := by decide +kernel
theorem d100 : ∀ k, k < 1000 → nI k / nI 100 = nI (k / 100) := by decide +kernel
theorem r16 : ∀ k, k < 31 → (rem16 (nI k)).toNatClampNeg ≤ 15 ∧ nI (rem16 (nI k)).toNatClampNeg = rem16 (nI k) := by decide +kernel
theorem sKd_le {k l p th : Nat} {o ri : Int32} (hk : k ≤ 6) (hl : l < 10) (hp : p < 10) (hth : th < 1000) (hri : ri = nI l - nI p ∨ ri = nI l - nI p + nI 2) : Le 18 (mx0 (sKd (nI k) o (nI th) (nI l - nI p) ri)) := by
  unfold sKd
  rw [d100 th hth]
  have hq : th / 100 < 10 := by omega
  split
  · exact (ck1 l hl p hp).le
  · split
    · rcases hri with rfl | rfl
      · exact (ck2 l hl p hp).le
      · exact (ck3 l hl p hp).le
    · split
      · rcases hri with rfl | rfl
        · exact (ck4 l hl p hp).le
        · exact (ck5 l hl p hp).le
      · split
        · rcases hri with rfl | rfl
          · exact (ck6 l hl p hp _ hq).le
          · exact (ck7 l hl p hp _ hq).le
        · split
          · exact (ck8 l hl p hp).le
          · split
            · split
              · exact ck9.1.le
              · exact (ck1 l hl p hp).le
            · exact (ck2 l hl p hp).le
theorem sEnv_le {t p : Nat} {o : Int32} (hV : Vs nt np r) (hr : Vr nt np r) (ht : t < nt) (hp : p < np) : Le 18 (sEnv r w o p t) := by
  unfold sEnv
  split
  · exact ck9.2.le
  · obtain ⟨k, hk, ek⟩ := hV.kind hp
    obtain ⟨s, hs, es⟩ := hV.sort ht
    obtain ⟨-, -, rt, rp⟩ := hr
    obtain ⟨-, ⟨th, hth, eth⟩, ⟨pa, hpa, epa⟩⟩ := rt t ht
    obtain ⟨l, hl, el⟩ := (rp p hp).2.2 s (by omega)
    have hpl : sPl r p t = nI l - nI pa := by
      unfold sPl
      rw [es, jI_nat (by omega), el, epa]
    rw [ek, eth, hpl]
    refine sKd_le hk (by omega) (by omega) (by omega) ?_
    unfold sRi
    rw [hpl]
    split
    · exact Or.inr rfl
    · exact Or.inl rfl
theorem sWs_le {t : Nat} (hV : Vs nt np r) (hr : Vr nt np r) (ht : t < nt) : ∀ k, k ≤ np → Le (18 * k) (sWs r w t k) := by
  intro k
  induction k with
  | zero => intro _; exact ⟨0, Nat.le_refl _, rfl⟩
  | succ k ih =>
    intro hk
    obtain ⟨a, ha, ea⟩ := ih (by omega)
    show Le _ (sWs r w t k + _)
    rw [ea]
    split
    · obtain ⟨b, hb, eb⟩ := sEnv_le (w := w) (o := r (14 + 6 * t + 4)) hV hr ht (show k < np by omega)
      rw [eb, jI_add]
      exact ⟨_, by omega, rfl⟩
    · rw [jI_add]
      exact ⟨_, by omega, rfl⟩
theorem sub_le {i z : Nat} (h : i ≤ z) : nI z - nI i = nI (z - i) := by
  have e : z = (z - i) + i := by omega
  rw [e, ← jI_add (z - i) i, Int32.add_sub_cancel]
  congr 1
  omega
theorem wear_le {t : Nat} (hV : Vs nt np r) (hr : Vr nt np r) (ht : t < nt) : ∃ k, Le k (r (14 + 6 * t + 2)) ∧ k ≤ 999 ∧ Le k (sWear r w np t) ∧ Le k (r (14 + 6 * t + 2) - sWear r w np t) := by
  obtain ⟨a, ha, ea⟩ := sWs_le (w := w) hV hr ht np (Nat.le_refl _)
  obtain ⟨-, -, rt, rp⟩ := hr
  obtain ⟨-, ⟨th, hth, eth⟩, -⟩ := rt t ht
  have h8 := hV.2.1
  refine ⟨th, ⟨th, Nat.le_refl _, eth⟩, hth, ?_⟩
  unfold sWear mn2
  rw [ea, eth]
  split
  · exact ⟨⟨th, Nat.le_refl _, rfl⟩, by rw [sub_le (Nat.le_refl _)]; exact ⟨_, by omega, rfl⟩⟩
  · rename_i h
    have hle : a ≤ th := by
      rcases Nat.lt_or_ge th a with g | g
      · exact absurd ((jI_lt (by omega) (by omega)).mpr g) h
      · exact g
    exact ⟨⟨a, hle, rfl⟩, by rw [sub_le hle]; exact ⟨_, by omega, rfl⟩⟩
theorem sWorn_le (hV : Vs nt np r) (hr : Vr nt np r) : ∀ n, n ≤ nt → ∀ t, t < nt → Le 999 (sWorn r w np n r (14 + 6 * t + 2)) := by
  intro n
  induction n with
  | zero => intro _ t ht; exact (hr.2.2.1 t ht).2.1
  | succ n ih =>
    intro hn t ht
    show Le 999 (put1 (sWorn r w np n r) (14 + 6 * n + 2) (sWorn r w np n r (14 + 6 * n + 2) - sWear r w np n) (14 + 6 * t + 2))
    by_cases e : t = n
    · subst e
      rw [put1_s, sWorn_o t _ (fun u hu => by omega)]
      obtain ⟨k, -, hk, -, a, ha, ea⟩ := wear_le (w := w) hV hr ht
      exact ⟨a, by omega, ea⟩
    · rw [put1_o (by omega)]
      exact ih (by omega) t ht
theorem sFp_le {q : Nat → Int32} (h : ∀ t, t < nt → Le 999 (q (14 + 6 * t + 2))) : ∀ t, t < nt → Le 999 ((sFp nt q).1 (14 + 6 * t + 2)) := by
  refine fo_p (P := fun z : (Nat → Int32) × Int32 => ∀ t, t < nt → Le 999 (z.1 (14 + 6 * t + 2))) nt (q, nI 0) h (fun k z hk hz => ?_)
  unfold sFp1
  split
  · intro t ht
    show Le 999 (put1 z.1 (14 + 6 * k + 2) (nI 0) (14 + 6 * t + 2))
    by_cases e : t = k
    · subst e
      rw [put1_s]
      exact ⟨0, by omega, rfl⟩
    · rw [put1_o (by omega)]
      exact hz t ht
  · exact hz
theorem sFall_le : ∀ (f : Nat) (q : Nat → Int32), (∀ t, t < nt → Le 999 (q (14 + 6 * t + 2))) → ∀ t, t < nt → Le 999 (sFall nt f q (14 + 6 * t + 2)) := by
  intro f
  induction f with
  | zero => intro q h; exact h
  | succ f ih =>
    intro q h
    unfold sFall
    split
    · exact sFp_le h
    · exact ih _ (sFp_le h)
theorem sGo_le {q : Nat → Int32} (h : ∀ p, p < np → Le 15 (q (62 + 7 * p + 1)) ∧ Le 15 (q (62 + 7 * p + 2))) : ∀ p, p < np → Le 15 (sGo np q (62 + 7 * p + 1)) ∧ Le 15 (sGo np q (62 + 7 * p + 2)) := by
  refine fo_p (P := fun z : Nat → Int32 => ∀ p, p < np → Le 15 (z (62 + 7 * p + 1)) ∧ Le 15 (z (62 + 7 * p + 2))) np q h (fun k z hk hz => ?_)
  intro p hp
  by_cases e : p = k
  · subst e
    obtain ⟨⟨a, ha, ea⟩, h2⟩ := hz p hp
    refine ⟨?_, by rw [put1_o (by omega)]; exact h2⟩
    obtain ⟨b, hb, eb⟩ := h2
    rw [put1_s, ea, eb, jI_add]
    exact ⟨_, (r16 (a + b) (by omega)).1, (r16 (a + b) (by omega)).2.symm⟩
  · rw [put1_o (by omega), put1_o (by omega)]
    exact hz p hp
theorem Gd.day (h : Gd nt np r) {d : Nat} (hd : r 0 = nI d) (hd9 : d + 1 ≤ 99999) : Gd nt np (sDay w nt np r) ∧ sDay w nt np r 0 = nI (d + 1) := by
  obtain ⟨h1, h2, hV, hr⟩ := h
  have t8 := hV.1
  have p8 := hV.2.1
  have o : ∀ j, j ≠ 0 → (∀ t, t < nt → j ≠ 14 + 6 * t + 2) → (∀ p, p < np → j ≠ 62 + 7 * p + 1) → sDay w nt np r j = r j := fun j a b c => sDay_o a b c
  have e0 : sDay w nt np r 0 = nI (d + 1) := by
    unfold sDay sTick
    rw [put1_s, sGo_o np 0 (fun _ _ => by omega), sFall_o 8 _ 0 (fun _ _ => by omega), sWorn_o nt 0 (fun _ _ => by omega), hd, jI_add]
  refine ⟨⟨(o 1 (by decide) (fun _ _ => by omega) (fun _ _ => by omega)).trans h1, (o 2 (by decide) (fun _ _ => by omega) (fun _ _ => by omega)).trans h2, hV.day, ⟨d + 1, hd9, e0⟩, fun s hs => ?_, fun t ht => ?_, fun p hp => ?_⟩, e0⟩
  · rw [o _ (by omega) (fun _ _ => by omega) (fun _ _ => by omega)]
    exact hr.2.1 s hs
  · obtain ⟨g1, g2, g3⟩ := hr.2.2.1 t ht
    refine ⟨by rw [o _ (by omega) (fun _ _ => by omega) (fun _ _ => by omega)]; exact g1, ?_, by rw [o _ (by omega) (fun _ _ => by omega) (fun _ _ => by omega)]; exact g3⟩
    unfold sDay sTick
    rw [put1_o (by omega), sGo_o np _ (fun _ _ => by omega)]
    exact sFall_le 8 _ (sWorn_le hV hr nt (Nat.le_refl _)) t ht
  · obtain ⟨g1, g2, g3⟩ := hr.2.2.2 p hp
    refine ⟨?_, by rw [o _ (by omega) (fun _ _ => by omega) (fun _ _ => by omega)]; exact g2, fun s hs => by rw [o _ (by omega) (fun _ _ => by omega) (fun _ _ => by omega)]; exact g3 s hs⟩
    unfold sDay sTick
    rw [put1_o (by omega)]
    refine (sGo_le (fun q hq => ?_) p hp).1
    rw [sFall_o 8 _ _ (fun _ _ => by omega), sFall_o 8 _ _ (fun _ _ => by omega), sWorn_o nt _ (fun _ _ => by omega), sWorn_o nt _ (fun _ _ => by omega)]
    exact ⟨(hr.2.2.2 q hq).1, (hr.2.2.2 q hq).2.1⟩
theorem Gd.days (h : Gd nt np r) {d : Nat} (hd : r 0 = nI d) : ∀ n, d + n ≤ 99999 → Gd nt np (sDays w nt np n r) ∧ sDays w nt np n r 0 = nI (d + n) := by
  intro n
  induction n with
  | zero => intro _; exact ⟨h, hd⟩
  | succ n ih =>
    intro hn
    obtain ⟨g1, g2⟩ := ih (by omega)
    exact g1.day g2 (by omega)
theorem sGone_k (r : Nat → Int32) : ∀ n, n ≤ 8 → ∃ k, k < 2 ^ n ∧ sGone r n = nI k := by
  intro n
  induction n with
  | zero => intro _; exact ⟨0, by decide, rfl⟩
  | succ n ih =>
    intro hn
    obtain ⟨k, hk, e⟩ := ih (by omega)
    show ∃ j, j < 2 ^ (n + 1) ∧ sGone r n ||| _ = nI j
    rw [e]
    split
    · refine ⟨k + 2 ^ n, by rw [Nat.pow_succ]; omega, ?_⟩
      have hb : ∀ m, m < 8 → ∀ k, k < 2 ^ m → nI k ||| bit m = nI (k + 2 ^ m) := by decide +kernel
      exact hb n (by omega) k hk
    · refine ⟨k, by rw [Nat.pow_succ]; omega, ?_⟩
      exact (orz (v := nI k)).symm
end GDY
