section EH
variable {X : mSc} {Q : Option Value → mHp → Prop} {M : mM}
theorem la_g {w : Int32} {nt np t k : Nat} {r : Nat → Int32} {f : Nat} (h : r (14 + 6 * t + 2) = 0) : sLa w nt np t f k r = nI k := by
  cases f <;> exact if_pos h
theorem la_n {w : Int32} {nt np t k : Nat} {r : Nat → Int32} (hk : k = 100) (h : ¬ r (14 + 6 * t + 2) = 0) : sLa w nt np t (100 - k) k r = -1 := by
  subst hk
  exact if_neg h
theorem la_s {w : Int32} {nt np t k : Nat} {r : Nat → Int32} (hk : k < 100) (h : ¬ sDays w nt np k r (14 + 6 * t + 2) = 0) : sLa w nt np t (100 - k) k (sDays w nt np k r) = sLa w nt np t (100 - (k + 1)) (k + 1) (sDays w nt np (k + 1) r) := by
  rw [show 100 - k = (100 - (k + 1)) + 1 by omega]
  exact if_neg h
theorem m176 {t : Nat} {nt np : Nat} (hW : Wf M) (hnt : M 67 1 = nI nt) (hn8 : nt ≤ 8) (hnp : M 67 2 = nI np) (hp8 : np ≤ 8) (h6 : M 66 6 = -1) (ht8 : t < 8) : ∀ (n k : Nat) (M1 : mM), 100 - k < n → k ≤ 100 → Dy (cp M 67 69 118) M1 → Dd (sDays (-1) nt np k (M 67)) (cp M 67 69 118) M1 → mEv X (QI (fun v M' => v = (orN (sLa (-1) nt np t (100 - k) k (sDays (-1) nt np k (M 67)))).1 ∧ Kq M M' ∧ Fq (orN (sLa (-1) nt np t (100 - k) k (sDays (-1) nt np k (M 67)))) M M')) 176 28 [some (.ref 66), some (.int (nI t)), some (.int (nI k))] [] (con M1) := by
  have hm : mMet 176 = some _ := rfl
  intro n
  induction n with
  | zero =>
    intro k M1 hkn hkb hD hd
    omega
  | succ n ih =>
    intro k M1 hkn hkb hD hd
    have hthk : M1 67 (14 + 6 * t + 2) = sDays (-1) nt np k (M 67) (14 + 6 * t + 2) := congrFun hd.1 _
    have hB := Kr.back hD hd (fun j hj => sDays_118 hn8 hp8 hj _)
    refine x_iload_n hm rfl rfl ?_
    refine x_bipush hm rfl (v := nI 100) (by decide) ?_
    refine x_icmp_ge hm rfl (t := 52) rfl (fun h1 => ?_) (fun h1 => ?_)
    · have hk100 : k = 100 := Nat.le_antisymm hkb ((jI_le (by decide) (by omega)).mp h1)
      refine x_aload_n hm rfl rfl ?_
      refine x_aload_n hm rfl rfl ?_
      refine x_aload_n hm rfl rfl ?_
      refine x_iload_n hm rfl rfl ?_
      refine x_callV hm rfl rfl (t146 (by omega)) ?_
      rw [hthk]
      refine x_if_eq hm rfl (t := 66) rfl (fun h2 => ?_) (fun h2 => ?_)
      · have hl : sLa (-1) nt np t (100 - k) k (sDays (-1) nt np k (M 67)) = -1 := by
          first
          | exact la_n hk100 (bI_eq0.mp h2)
          | exact absurd h2 (by assumption)
        refine x_iconst hm rfl (v := (-1 : Int32)) (by decide) ?_
        refine x_callV hm rfl rfl (t175) ?_
        refine x_cVi hm rfl rfl (e177) (fun v3 M3 r3 => ?_)
        refine x_iret hm rfl rfl (by first | rfl | exact bI_nar | decide) ?_
        first
          | exact ⟨_, _, rfl, rfl, orn_fin (M := M) (q := orN (sLa (-1) nt np t (100 - k) k (sDays (-1) nt np k (M 67)))) (by rw [hl]) hB.kq (hB.2 70 (by decide) (by decide)) r3⟩
          | exact ⟨_, _, rfl, rfl, orn_fin (M := M) (q := orN (sLa (-1) nt np t (100 - k) k (sDays (-1) nt np k (M 67)))) (by rw [hl]) hB.kq (hB.2 70 (by decide) (by decide)) r4⟩
          | exact ⟨_, _, rfl, rfl, orn_fin (M := M) (q := orN (sLa (-1) nt np t (100 - k) k (sDays (-1) nt np k (M 67)))) (by rw [hl]) hB.kq (hB.2 70 (by decide) (by decide)) r8⟩
          | exact ⟨_, _, rfl, rfl, orn_fin (M := M) (q := orN (sLa (-1) nt np t (100 - k) k (sDays (-1) nt np k (M 67)))) (by rw [hl]) hB.kq (hB.2 70 (by decide) (by decide)) r7⟩
      · have hl : sLa (-1) nt np t (100 - k) k (sDays (-1) nt np k (M 67)) = nI k := la_g (bI_ne0 h2)
        refine x_iload_n hm rfl rfl ?_
        refine x_goto hm rfl (t := 67) rfl ?_
        refine x_callV hm rfl rfl (t175) ?_
        refine x_cVi hm rfl rfl (e177) (fun v4 M4 r4 => ?_)
        refine x_iret hm rfl rfl (by first | rfl | exact bI_nar | decide) ?_
        first
          | exact ⟨_, _, rfl, rfl, orn_fin (M := M) (q := orN (sLa (-1) nt np t (100 - k) k (sDays (-1) nt np k (M 67)))) (by rw [hl]) hB.kq (hB.2 70 (by decide) (by decide)) r4⟩
          | exact ⟨_, _, rfl, rfl, orn_fin (M := M) (q := orN (sLa (-1) nt np t (100 - k) k (sDays (-1) nt np k (M 67)))) (by rw [hl]) hB.kq (hB.2 70 (by decide) (by decide)) r3⟩
          | exact ⟨_, _, rfl, rfl, orn_fin (M := M) (q := orN (sLa (-1) nt np t (100 - k) k (sDays (-1) nt np k (M 67)))) (by rw [hl]) hB.kq (hB.2 70 (by decide) (by decide)) r8⟩
          | exact ⟨_, _, rfl, rfl, orn_fin (M := M) (q := orN (sLa (-1) nt np t (100 - k) k (sDays (-1) nt np k (M 67)))) (by rw [hl]) hB.kq (hB.2 70 (by decide) (by decide)) r7⟩
    · have hk : k < 100 := Nat.lt_of_not_le fun h => h1 (nI_le h (by omega))
      refine x_aload_n hm rfl rfl ?_
      refine x_iload_n hm rfl rfl ?_
      refine x_callV hm rfl rfl (t146 (by omega)) ?_
      rw [hthk]
      refine x_if_ne hm rfl (t := 52) rfl (fun h5 => ?_) (fun h5 => ?_)
      · refine x_aload_n hm rfl rfl ?_
        refine x_aload_n hm rfl rfl ?_
        refine x_aload_n hm rfl rfl ?_
        refine x_iload_n hm rfl rfl ?_
        refine x_callV hm rfl rfl (t146 (by omega)) ?_
        rw [hthk]
        refine x_if_eq hm rfl (t := 66) rfl (fun h6 => ?_) (fun h6 => ?_)
        · have hl : sLa (-1) nt np t (100 - k) k (sDays (-1) nt np k (M 67)) = -1 := by
            first
            | exact la_n hk100 (bI_eq0.mp h6)
            | exact absurd h6 (by assumption)
          refine x_iconst hm rfl (v := (-1 : Int32)) (by decide) ?_
          refine x_callV hm rfl rfl (t175) ?_
          refine x_cVi hm rfl rfl (e177) (fun v7 M7 r7 => ?_)
          refine x_iret hm rfl rfl (by first | rfl | exact bI_nar | decide) ?_
          first
            | exact ⟨_, _, rfl, rfl, orn_fin (M := M) (q := orN (sLa (-1) nt np t (100 - k) k (sDays (-1) nt np k (M 67)))) (by rw [hl]) hB.kq (hB.2 70 (by decide) (by decide)) r7⟩
            | exact ⟨_, _, rfl, rfl, orn_fin (M := M) (q := orN (sLa (-1) nt np t (100 - k) k (sDays (-1) nt np k (M 67)))) (by rw [hl]) hB.kq (hB.2 70 (by decide) (by decide)) r4⟩
            | exact ⟨_, _, rfl, rfl, orn_fin (M := M) (q := orN (sLa (-1) nt np t (100 - k) k (sDays (-1) nt np k (M 67)))) (by rw [hl]) hB.kq (hB.2 70 (by decide) (by decide)) r3⟩
            | exact ⟨_, _, rfl, rfl, orn_fin (M := M) (q := orN (sLa (-1) nt np t (100 - k) k (sDays (-1) nt np k (M 67)))) (by rw [hl]) hB.kq (hB.2 70 (by decide) (by decide)) r8⟩
        · have hl : sLa (-1) nt np t (100 - k) k (sDays (-1) nt np k (M 67)) = nI k := la_g (bI_ne0 h6)
          refine x_iload_n hm rfl rfl ?_
          refine x_goto hm rfl (t := 67) rfl ?_
          refine x_callV hm rfl rfl (t175) ?_
          refine x_cVi hm rfl rfl (e177) (fun v8 M8 r8 => ?_)
          refine x_iret hm rfl rfl (by first | rfl | exact bI_nar | decide) ?_
          first
            | exact ⟨_, _, rfl, rfl, orn_fin (M := M) (q := orN (sLa (-1) nt np t (100 - k) k (sDays (-1) nt np k (M 67)))) (by rw [hl]) hB.kq (hB.2 70 (by decide) (by decide)) r8⟩
            | exact ⟨_, _, rfl, rfl, orn_fin (M := M) (q := orN (sLa (-1) nt np t (100 - k) k (sDays (-1) nt np k (M 67)))) (by rw [hl]) hB.kq (hB.2 70 (by decide) (by decide)) r4⟩
            | exact ⟨_, _, rfl, rfl, orn_fin (M := M) (q := orN (sLa (-1) nt np t (100 - k) k (sDays (-1) nt np k (M 67)))) (by rw [hl]) hB.kq (hB.2 70 (by decide) (by decide)) r3⟩
            | exact ⟨_, _, rfl, rfl, orn_fin (M := M) (q := orN (sLa (-1) nt np t (100 - k) k (sDays (-1) nt np k (M 67)))) (by rw [hl]) hB.kq (hB.2 70 (by decide) (by decide)) r7⟩
      · refine x_aload_n hm rfl rfl ?_
        refine x_cVv hm rfl rfl (e165 (hD.1.1 hW.aside) (hD.1.2.1.trans ((congrFun (cp_o (by decide)) 1).trans hnt)) hn8 (hD.1.2.2.1.trans ((congrFun (cp_o (by decide)) 2).trans hnp)) hp8) (fun M9 r9 => ?_)
        refine x_iinc hm rfl rfl (v := nI 1) (by decide) rfl ?_
        rw [jI_add]
        refine x_goto hm rfl (t := 28) rfl ?_
        first
          | (have hs := hd.to r9.2
             rw [hd.1, hd.2 66 (by decide) (by decide), cp_o (by decide), h6] at hs
             have h9 := ih (k + 1) _ (by omega) (by omega) (hD.trans r9.1) hs
             rw [la_s hk (bI_eq0.mp (by assumption))]
             exact h9)
end EH
