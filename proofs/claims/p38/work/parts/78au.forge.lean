section FO
variable {X : mSc} {Q : Option Value → mHp → Prop} {M : mM}
variable {nt np : Nat} {r : Nat → Int32}
theorem g149 {a1 a2 a3 : Int32} (h67 : M 67 = r) (hnt : M 67 1 = nI nt) (hn8 : nt ≤ 8) (hnp : M 67 2 = nI np) (hp8 : np ≤ 8) (hI : Inv M) : ∃ v M', mT X 149 [.ref 66, .int a1, .int a2, .int a3] (con M) (some (.int v)) (con M') ∧ Uq (fForge nt np r a1 a2 a3) v M M' := by
  refine ti_of (row := _) rfl (Nat.le_of_ble_eq_true rfl) ?_
  have hm : mMet 149 = some _ := rfl
  refine x_aload_n hm rfl rfl ?_
  refine x_iload_n hm rfl rfl ?_
  refine x_callV hm rfl rfl (t139) ?_
  rw [hnt]
  refine x_if_eq hm rfl (t := 18) rfl (fun h1 => ?_) (fun h1 => ?_)
  · refine x_aload_n hm rfl rfl ?_
    refine x_ldcI hm rfl (v := (-1000001 : Int32)) (by decide +kernel) ?_
    refine x_callV hm rfl rfl (e135 (by decide +kernel)) ?_
    refine x_iret hm rfl rfl (by first | rfl | exact bI_nar | decide) ?_
    first
      | (have hq : fForge nt np r a1 a2 a3 = (-1000001, nt, np, r) := by
           unfold fForge
           rw [if_pos (by assumption)]
         exact ⟨_, _, rfl, rfl, by rw [hq]; exact ⟨rfl, fnd_rm h67⟩⟩)
      | (have hq : fForge nt np r (nI t) a2 a3 = (-1000001, nt, np, r) := by
           unfold fForge
           rw [if_neg (by assumption), if_pos (by assumption)]
         exact ⟨_, _, rfl, rfl, by rw [hq]; exact ⟨rfl, fnd_rm h67⟩⟩)
  · obtain ⟨t, ht, rfl⟩ := in_k rfl (by omega) (bI_ne0 h1)
    refine x_aload_n hm rfl rfl ?_
    refine x_iload_n hm rfl rfl ?_
    refine x_iload_n hm rfl rfl ?_
    refine x_iload_n hm rfl rfl ?_
    refine x_callV hm rfl rfl (g150 hnt hnp) ?_
    refine x_if_ne hm rfl (t := 25) rfl (fun h2 => ?_) (fun h2 => ?_)
    · have hmf := bI_ne0 h2
      have hz : bI (mayF nt np (nI t) a2 a3) ≠ 0 := h2
      obtain ⟨f, hf, rfl⟩ := mayF_f hmf
      refine x_iload_n hm rfl rfl ?_
      refine x_iconst hm rfl (v := nI 5) (by decide) ?_
      refine x_icmp_ne hm rfl (t := 50) rfl (fun h3 => ?_) (fun h3 => ?_)
      · have hnc : ¬ fgC r (nI t) (nI f) a3 := fun z => h3 z.1
        refine x_aload_n hm rfl rfl ?_
        refine x_iload_n hm rfl rfl ?_
        refine x_iload_n hm rfl rfl ?_
        refine x_callS hm rfl rfl (t137) ?_
        refine x_iload_n hm rfl rfl ?_
        refine x_callV hm rfl rfl (t155 (by omega)) ?_
        refine x_iret hm rfl rfl (by first | rfl | exact bI_nar | decide) ?_
        first
          | (have hq : fForge nt np r (nI t) (nI f) a3 = (r (14 + 6 * t + f), nt, np, put1 r (14 + 6 * t + f) a3) := by
               unfold fForge
               rw [if_neg (by assumption), if_neg (by assumption), if_neg hnc]
               rw [jI_nat (k := t) (by omega)]
               rw [jI_nat (k := f) (by omega)]
             exact ⟨_, _, rfl, rfl, by rw [hq]; exact ⟨congrFun h67 _, by rw [← h67]; exact mput67, fun a h _ _ _ => mpo h⟩⟩)
          | (have hq : fForge nt np r (nI t) (nI 5) a3 = (r (14 + 6 * t + 5), nt, np, put1 r (14 + 6 * t + 5) a3) := by
               unfold fForge
               rw [if_neg (by assumption), if_neg (by assumption), if_neg hnc]
               rw [jI_nat (k := t) (by omega)]
               rw [jI_nat (k := 5) (by omega)]
             exact ⟨_, _, rfl, rfl, by rw [hq]; exact ⟨congrFun h67 _, by rw [← h67]; exact mput67, fun a h _ _ _ => mpo h⟩⟩)
          | (have hq : fForge nt np r (nI t) (nI 5) (nI w) = (r (14 + 6 * t + 5), nt, np, put1 r (14 + 6 * t + 5) (nI w)) := by
               unfold fForge
               rw [if_neg (by assumption), if_neg (by assumption), if_neg hnc]
               rw [jI_nat (k := t) (by omega)]
               rw [jI_nat (k := 5) (by omega)]
             exact ⟨_, _, rfl, rfl, by rw [hq]; exact ⟨congrFun h67 _, by rw [← h67]; exact mput67, fun a h _ _ _ => mpo h⟩⟩)
      · obtain rfl : f = 5 := jI_inj (by omega) (by decide) h3
        refine x_iload_n hm rfl rfl ?_
        refine x_if_lt hm rfl (t := 50) rfl (fun h4 => ?_) (fun h4 => ?_)
        · have hnc : ¬ fgC r (nI t) (nI 5) a3 := fun z => (((mayF_5 rfl).mpr hmf).resolve_left z.2.1).1.1 |> fun g => absurd h4 (Int32.not_lt.mpr g)
          refine x_aload_n hm rfl rfl ?_
          refine x_iload_n hm rfl rfl ?_
          refine x_iload_n hm rfl rfl ?_
          refine x_callS hm rfl rfl (t137) ?_
          refine x_iload_n hm rfl rfl ?_
          refine x_callV hm rfl rfl (t155 (by omega)) ?_
          refine x_iret hm rfl rfl (by first | rfl | exact bI_nar | decide) ?_
          first
            | (have hq : fForge nt np r (nI t) (nI f) a3 = (r (14 + 6 * t + f), nt, np, put1 r (14 + 6 * t + f) a3) := by
                 unfold fForge
                 rw [if_neg (by assumption), if_neg (by assumption), if_neg hnc]
                 rw [jI_nat (k := t) (by omega)]
                 rw [jI_nat (k := f) (by omega)]
               exact ⟨_, _, rfl, rfl, by rw [hq]; exact ⟨congrFun h67 _, by rw [← h67]; exact mput67, fun a h _ _ _ => mpo h⟩⟩)
            | (have hq : fForge nt np r (nI t) (nI 5) a3 = (r (14 + 6 * t + 5), nt, np, put1 r (14 + 6 * t + 5) a3) := by
                 unfold fForge
                 rw [if_neg (by assumption), if_neg (by assumption), if_neg hnc]
                 rw [jI_nat (k := t) (by omega)]
                 rw [jI_nat (k := 5) (by omega)]
               exact ⟨_, _, rfl, rfl, by rw [hq]; exact ⟨congrFun h67 _, by rw [← h67]; exact mput67, fun a h _ _ _ => mpo h⟩⟩)
            | (have hq : fForge nt np r (nI t) (nI 5) (nI w) = (r (14 + 6 * t + 5), nt, np, put1 r (14 + 6 * t + 5) (nI w)) := by
                 unfold fForge
                 rw [if_neg (by assumption), if_neg (by assumption), if_neg hnc]
                 rw [jI_nat (k := t) (by omega)]
                 rw [jI_nat (k := 5) (by omega)]
               exact ⟨_, _, rfl, rfl, by rw [hq]; exact ⟨congrFun h67 _, by rw [← h67]; exact mput67, fun a h _ _ _ => mpo h⟩⟩)
        · have hv5 := ((mayF_5 rfl).mpr hmf).resolve_left fun e => h4 (by rw [e]; decide)
          obtain ⟨w, hw, rfl⟩ := in_k rfl (by omega) hv5.1
          refine x_aload_n hm rfl rfl ?_
          refine x_iload_n hm rfl rfl ?_
          refine x_iload_n hm rfl rfl ?_
          refine x_cVe hm rfl rfl (e154 hI hnt hn8 hw (by omega)) (fun v5 r5 => ?_)
          rw [h67] at r5
          refine x_if_eq hm rfl (t := 50) rfl (fun h6 => ?_) (fun h6 => ?_)
          · have hnc : ¬ fgC r (nI t) (nI 5) (nI w) := fun z => by
              have z3 := z.2.2
              rw [jI_nat (by omega), jI_nat (by omega)] at z3
              exact r5.elim (fun q => absurd (q.2.symm.trans h6) (by decide)) (fun q => q.1 z3)
            refine x_aload_n hm rfl rfl ?_
            refine x_iload_n hm rfl rfl ?_
            refine x_iload_n hm rfl rfl ?_
            refine x_callS hm rfl rfl (t137) ?_
            refine x_iload_n hm rfl rfl ?_
            refine x_callV hm rfl rfl (t155 (by omega)) ?_
            refine x_iret hm rfl rfl (by first | rfl | exact bI_nar | decide) ?_
            first
              | (have hq : fForge nt np r (nI t) (nI f) a3 = (r (14 + 6 * t + f), nt, np, put1 r (14 + 6 * t + f) a3) := by
                   unfold fForge
                   rw [if_neg (by assumption), if_neg (by assumption), if_neg hnc]
                   rw [jI_nat (k := t) (by omega)]
                   rw [jI_nat (k := f) (by omega)]
                 exact ⟨_, _, rfl, rfl, by rw [hq]; exact ⟨congrFun h67 _, by rw [← h67]; exact mput67, fun a h _ _ _ => mpo h⟩⟩)
              | (have hq : fForge nt np r (nI t) (nI 5) a3 = (r (14 + 6 * t + 5), nt, np, put1 r (14 + 6 * t + 5) a3) := by
                   unfold fForge
                   rw [if_neg (by assumption), if_neg (by assumption), if_neg hnc]
                   rw [jI_nat (k := t) (by omega)]
                   rw [jI_nat (k := 5) (by omega)]
                 exact ⟨_, _, rfl, rfl, by rw [hq]; exact ⟨congrFun h67 _, by rw [← h67]; exact mput67, fun a h _ _ _ => mpo h⟩⟩)
              | (have hq : fForge nt np r (nI t) (nI 5) (nI w) = (r (14 + 6 * t + 5), nt, np, put1 r (14 + 6 * t + 5) (nI w)) := by
                   unfold fForge
                   rw [if_neg (by assumption), if_neg (by assumption), if_neg hnc]
                   rw [jI_nat (k := t) (by omega)]
                   rw [jI_nat (k := 5) (by omega)]
                 exact ⟨_, _, rfl, rfl, by rw [hq]; exact ⟨congrFun h67 _, by rw [← h67]; exact mput67, fun a h _ _ _ => mpo h⟩⟩)
          · have hcy : fgC r (nI t) (nI 5) (nI w) := ⟨rfl, fun q => absurd (Int32.not_lt.mp (jI_nn (show w < 2147483648 by omega))) (by rw [q]; decide), by rw [jI_nat (by omega), jI_nat (by omega)]; exact (r5.resolve_right fun q => h6 q.2).1⟩
            refine x_aload_n hm rfl rfl ?_
            refine x_ldcI hm rfl (v := (-1000005 : Int32)) (by decide +kernel) ?_
            refine x_callV hm rfl rfl (e135 (by decide +kernel)) ?_
            refine x_iret hm rfl rfl (by first | rfl | exact bI_nar | decide) ?_
            have hq : fForge nt np r (nI t) (nI 5) (nI w) = (-1000005, nt, np, r) := by
              unfold fForge
              rw [if_neg (by assumption), if_neg (by assumption), if_pos hcy]
            exact ⟨_, _, rfl, rfl, by rw [hq]; exact ⟨rfl, fnd_rm h67⟩⟩
    · refine x_aload_n hm rfl rfl ?_
      refine x_ldcI hm rfl (v := (-1000001 : Int32)) (by decide +kernel) ?_
      refine x_callV hm rfl rfl (e135 (by decide +kernel)) ?_
      refine x_iret hm rfl rfl (by first | rfl | exact bI_nar | decide) ?_
      first
        | (have hq : fForge nt np r a1 a2 a3 = (-1000001, nt, np, r) := by
             unfold fForge
             rw [if_pos (by assumption)]
           exact ⟨_, _, rfl, rfl, by rw [hq]; exact ⟨rfl, fnd_rm h67⟩⟩)
        | (have hq : fForge nt np r (nI t) a2 a3 = (-1000001, nt, np, r) := by
             unfold fForge
             rw [if_neg (by assumption), if_pos (by assumption)]
           exact ⟨_, _, rfl, rfl, by rw [hq]; exact ⟨rfl, fnd_rm h67⟩⟩)
end FO
