section EJ
variable {X : mSc} {Q : Option Value → mHp → Prop} {M : mM} {nt np : Nat} {r : Nat → Int32}
theorem g132 {a1 a2 : Int32} (h67 : M 67 = r) (hnt : M 67 1 = nI nt) (hn8 : nt ≤ 8) (hnp : M 67 2 = nI np) (hp8 : np ≤ 8) : ∃ v M', mT X 132 [.ref 66, .int a1, .int a2] (con M) (some (.int v)) (con M') ∧ Uq (fThing nt np r a1 a2) v M M' := by
  refine ti_of (row := _) rfl (Nat.le_of_ble_eq_true rfl) ?_
  have hm : mMet 132 = some _ := rfl
  refine x_iload_n hm rfl rfl ?_
  refine x_iconst hm rfl (v := nI 0) (by decide) ?_
  refine x_iconst hm rfl (v := nI 3) (by decide) ?_
  refine x_callS hm rfl rfl (t133) ?_
  refine x_if_eq hm rfl (t := 16) rfl (fun h1 => ?_) (fun h1 => ?_)
  · refine x_aload_n hm rfl rfl ?_
    refine x_ldcI hm rfl (v := (-1000001 : Int32)) (by decide +kernel) ?_
    refine x_callV hm rfl rfl (e135 (by decide +kernel)) ?_
    refine x_iret hm rfl rfl (by first | rfl | exact bI_nar | decide) ?_
    first
      | (have hq : fThing nt np r a1 a2 = (-1000001, nt, np, r) := by
           unfold fThing
           rw [if_pos (by assumption)]
         exact ⟨_, _, rfl, rfl, by rw [hq]; exact ⟨rfl, fnd_rm h67⟩⟩)
      | (have hq : fThing nt np r a1 a2 = (-1000001, nt, np, r) := by
           unfold fThing
           rw [if_neg (by assumption), if_pos (by assumption)]
         exact ⟨_, _, rfl, rfl, by rw [hq]; exact ⟨rfl, fnd_rm h67⟩⟩)
  · refine x_iload_n hm rfl rfl ?_
    refine x_callS hm rfl rfl (t134) ?_
    refine x_if_ne hm rfl (t := 23) rfl (fun h2 => ?_) (fun h2 => ?_)
    · refine x_aload_n hm rfl rfl ?_
      refine x_getf hm rfl (gR rfl rfl) ?_
      refine x_iconst hm rfl (v := nI 1) (by decide) ?_
      refine x_iald hm rfl (lI rfl (by omega) (by decide)) ?_
      rw [hnt]
      refine x_bipush hm rfl (v := nI 8) (by decide) ?_
      refine x_icmp_ne hm rfl (t := 43) rfl (fun h3 => ?_) (fun h3 => ?_)
      · have hne : ¬ nt = 8 := fun e => h3 (by rw [e])
        have hlt : nt < 8 := by omega
        refine x_aload_n hm rfl rfl ?_
        refine x_iload_n hm rfl rfl ?_
        refine x_iload_n hm rfl rfl ?_
        refine x_bipush hm rfl (v := nI 100) (by decide) ?_
        refine x_iconst hm rfl (v := nI 0) (by decide) ?_
        refine x_iconst hm rfl (v := (-1 : Int32)) (by decide) ?_
        refine x_iconst hm rfl (v := (-1 : Int32)) (by decide) ?_
        refine x_callV hm rfl rfl (t136 hnt hlt) ?_
        refine x_iret hm rfl rfl (by first | rfl | exact bI_nar | decide) ?_
        first
          | (have hq : fThing nt np r a1 a2 = (-1000002, nt, np, r) := by
               unfold fThing
               rw [if_neg (by assumption), if_neg (by assumption), if_pos (by assumption)]
             exact ⟨_, _, rfl, rfl, by rw [hq]; exact ⟨rfl, fnd_rm h67⟩⟩)
          | (have hq : fThing nt np r a1 a2 = (nI nt, nt + 1, np, addR r nt a1 a2 (nI 100) (nI 0) (-1) (-1)) := by
               unfold fThing
               rw [if_neg (by assumption), if_neg (by assumption), if_neg (by assumption)]
             exact ⟨_, _, rfl, rfl, by rw [hq]; exact ⟨rfl, by rw [← h67]; exact addT_67, fun a h _ _ _ => addT_o h⟩⟩)
      · have heq : nt = 8 := jI_inj (by omega) (by decide) h3
        refine x_aload_n hm rfl rfl ?_
        refine x_ldcI hm rfl (v := (-1000002 : Int32)) (by decide +kernel) ?_
        refine x_callV hm rfl rfl (e135 (by decide +kernel)) ?_
        refine x_goto hm rfl (t := 54) rfl ?_
        refine x_iret hm rfl rfl (by first | rfl | exact bI_nar | decide) ?_
        first
          | (have hq : fThing nt np r a1 a2 = (-1000002, nt, np, r) := by
               unfold fThing
               rw [if_neg (by assumption), if_neg (by assumption), if_pos (by assumption)]
             exact ⟨_, _, rfl, rfl, by rw [hq]; exact ⟨rfl, fnd_rm h67⟩⟩)
          | (have hq : fThing nt np r a1 a2 = (nI nt, nt + 1, np, addR r nt a1 a2 (nI 100) (nI 0) (-1) (-1)) := by
               unfold fThing
               rw [if_neg (by assumption), if_neg (by assumption), if_neg (by assumption)]
             exact ⟨_, _, rfl, rfl, by rw [hq]; exact ⟨rfl, by rw [← h67]; exact addT_67, fun a h _ _ _ => addT_o h⟩⟩)
    · refine x_aload_n hm rfl rfl ?_
      refine x_ldcI hm rfl (v := (-1000001 : Int32)) (by decide +kernel) ?_
      refine x_callV hm rfl rfl (e135 (by decide +kernel)) ?_
      refine x_iret hm rfl rfl (by first | rfl | exact bI_nar | decide) ?_
      first
        | (have hq : fThing nt np r a1 a2 = (-1000001, nt, np, r) := by
             unfold fThing
             rw [if_pos (by assumption)]
           exact ⟨_, _, rfl, rfl, by rw [hq]; exact ⟨rfl, fnd_rm h67⟩⟩)
        | (have hq : fThing nt np r a1 a2 = (-1000001, nt, np, r) := by
             unfold fThing
             rw [if_neg (by assumption), if_pos (by assumption)]
           exact ⟨_, _, rfl, rfl, by rw [hq]; exact ⟨rfl, fnd_rm h67⟩⟩)
theorem g156 {a1 a2 : Int32} (h67 : M 67 = r) (hnt : M 67 1 = nI nt) (hn8 : nt ≤ 8) (hnp : M 67 2 = nI np) (hp8 : np ≤ 8) : ∃ v M', mT X 156 [.ref 66, .int a1, .int a2] (con M) (some (.int v)) (con M') ∧ Uq (fPerson nt np r a1 a2) v M M' := by
  refine ti_of (row := _) rfl (Nat.le_of_ble_eq_true rfl) ?_
  have hm : mMet 156 = some _ := rfl
  refine x_iload_n hm rfl rfl ?_
  refine x_callS hm rfl rfl (t157) ?_
  refine x_if_eq hm rfl (t := 14) rfl (fun h1 => ?_) (fun h1 => ?_)
  · refine x_aload_n hm rfl rfl ?_
    refine x_ldcI hm rfl (v := (-1000001 : Int32)) (by decide +kernel) ?_
    refine x_callV hm rfl rfl (e135 (by decide +kernel)) ?_
    refine x_iret hm rfl rfl (by first | rfl | exact bI_nar | decide) ?_
    first
      | (have hq : fPerson nt np r a1 a2 = (-1000001, nt, np, r) := by
           unfold fPerson
           rw [if_pos (by assumption)]
         exact ⟨_, _, rfl, rfl, by rw [hq]; exact ⟨rfl, fnd_rm h67⟩⟩)
      | (have hq : fPerson nt np r a1 a2 = (-1000001, nt, np, r) := by
           unfold fPerson
           rw [if_neg (by assumption), if_pos (by assumption)]
         exact ⟨_, _, rfl, rfl, by rw [hq]; exact ⟨rfl, fnd_rm h67⟩⟩)
  · refine x_iload_n hm rfl rfl ?_
    refine x_callS hm rfl rfl (t134) ?_
    refine x_if_ne hm rfl (t := 21) rfl (fun h2 => ?_) (fun h2 => ?_)
    · refine x_aload_n hm rfl rfl ?_
      refine x_getf hm rfl (gR rfl rfl) ?_
      refine x_iconst hm rfl (v := nI 2) (by decide) ?_
      refine x_iald hm rfl (lI rfl (by omega) (by decide)) ?_
      rw [hnp]
      refine x_bipush hm rfl (v := nI 8) (by decide) ?_
      refine x_icmp_ne hm rfl (t := 41) rfl (fun h3 => ?_) (fun h3 => ?_)
      · have hne : ¬ np = 8 := fun e => h3 (by rw [e])
        have hlt : np < 8 := by omega
        refine x_aload_n hm rfl rfl ?_
        refine x_iload_n hm rfl rfl ?_
        refine x_iload_n hm rfl rfl ?_
        refine x_iconst hm rfl (v := nI 1) (by decide) ?_
        refine x_callV hm rfl rfl (u158 hnp hlt) ?_
        refine x_iret hm rfl rfl (by first | rfl | exact bI_nar | decide) ?_
        first
          | (have hq : fPerson nt np r a1 a2 = (-1000002, nt, np, r) := by
               unfold fPerson
               rw [if_neg (by assumption), if_neg (by assumption), if_pos (by assumption)]
             exact ⟨_, _, rfl, rfl, by rw [hq]; exact ⟨rfl, fnd_rm h67⟩⟩)
          | (have hq : fPerson nt np r a1 a2 = (nI np, nt, np + 1, joinR r np a1 a2 (nI 1) (nI 1) (nI 1) (nI 1) (nI 1)) := by
               unfold fPerson
               rw [if_neg (by assumption), if_neg (by assumption), if_neg (by assumption)]
             exact ⟨_, _, rfl, rfl, by rw [hq]; exact ⟨rfl, by rw [← h67]; exact joinT_67, fun a h _ _ _ => joinT_o h⟩⟩)
      · have heq : np = 8 := jI_inj (by omega) (by decide) h3
        refine x_aload_n hm rfl rfl ?_
        refine x_ldcI hm rfl (v := (-1000002 : Int32)) (by decide +kernel) ?_
        refine x_callV hm rfl rfl (e135 (by decide +kernel)) ?_
        refine x_goto hm rfl (t := 48) rfl ?_
        refine x_iret hm rfl rfl (by first | rfl | exact bI_nar | decide) ?_
        first
          | (have hq : fPerson nt np r a1 a2 = (-1000002, nt, np, r) := by
               unfold fPerson
               rw [if_neg (by assumption), if_neg (by assumption), if_pos (by assumption)]
             exact ⟨_, _, rfl, rfl, by rw [hq]; exact ⟨rfl, fnd_rm h67⟩⟩)
          | (have hq : fPerson nt np r a1 a2 = (nI np, nt, np + 1, joinR r np a1 a2 (nI 1) (nI 1) (nI 1) (nI 1) (nI 1)) := by
               unfold fPerson
               rw [if_neg (by assumption), if_neg (by assumption), if_neg (by assumption)]
             exact ⟨_, _, rfl, rfl, by rw [hq]; exact ⟨rfl, by rw [← h67]; exact joinT_67, fun a h _ _ _ => joinT_o h⟩⟩)
    · refine x_aload_n hm rfl rfl ?_
      refine x_ldcI hm rfl (v := (-1000001 : Int32)) (by decide +kernel) ?_
      refine x_callV hm rfl rfl (e135 (by decide +kernel)) ?_
      refine x_iret hm rfl rfl (by first | rfl | exact bI_nar | decide) ?_
      first
        | (have hq : fPerson nt np r a1 a2 = (-1000001, nt, np, r) := by
             unfold fPerson
             rw [if_pos (by assumption)]
           exact ⟨_, _, rfl, rfl, by rw [hq]; exact ⟨rfl, fnd_rm h67⟩⟩)
        | (have hq : fPerson nt np r a1 a2 = (-1000001, nt, np, r) := by
             unfold fPerson
             rw [if_neg (by assumption), if_pos (by assumption)]
           exact ⟨_, _, rfl, rfl, by rw [hq]; exact ⟨rfl, fnd_rm h67⟩⟩)
theorem g217 {a1 : Int32} (h67 : M 67 = r) (hnt : M 67 1 = nI nt) (hn8 : nt ≤ 8) (hnp : M 67 2 = nI np) (hp8 : np ≤ 8) : ∃ v M', mT X 217 [.ref 66, .int a1] (con M) (some (.int v)) (con M') ∧ Uq (fSeed nt np r a1) v M M' := by
  refine ti_of (row := _) rfl (Nat.le_of_ble_eq_true rfl) ?_
  have hm : mMet 217 = some _ := rfl
  refine x_aload_n hm rfl rfl ?_
  refine x_iconst hm rfl (v := nI 3) (by decide) ?_
  refine x_iload_n hm rfl rfl ?_
  refine x_callV hm rfl rfl (t155 (by omega)) ?_
  refine x_iret hm rfl rfl (by first | rfl | exact bI_nar | decide) ?_
  exact ⟨_, _, rfl, rfl, congrFun h67 3, by rw [← h67]; exact mput67, fun a h _ _ _ => mpo h⟩
theorem g231 {a1 a2 : Int32} (h67 : M 67 = r) (hnt : M 67 1 = nI nt) (hn8 : nt ≤ 8) (hnp : M 67 2 = nI np) (hp8 : np ≤ 8) : ∃ v M', mT X 231 [.ref 66, .int a1, .int a2] (con M) (some (.int v)) (con M') ∧ Uq (fHold nt np r a1 a2) v M M' := by
  refine ti_of (row := _) rfl (Nat.le_of_ble_eq_true rfl) ?_
  have hm : mMet 231 = some _ := rfl
  refine x_iload_n hm rfl rfl ?_
  refine x_callS hm rfl rfl (t232) ?_
  refine x_if_eq hm rfl (t := 20) rfl (fun h1 => ?_) (fun h1 => ?_)
  · refine x_aload_n hm rfl rfl ?_
    refine x_ldcI hm rfl (v := (-1000001 : Int32)) (by decide +kernel) ?_
    refine x_callV hm rfl rfl (e135 (by decide +kernel)) ?_
    refine x_iret hm rfl rfl (by first | rfl | exact bI_nar | decide) ?_
    first
      | (have hq : fHold nt np r a1 a2 = (-1000001, nt, np, r) := by
           unfold fHold
           rw [if_pos (by assumption)]
         exact ⟨_, _, rfl, rfl, by rw [hq]; exact ⟨rfl, fnd_rm h67⟩⟩)
      | (have hq : fHold nt np r (nI s) a2 = (-1000001, nt, np, r) := by
           unfold fHold
           rw [if_neg (by assumption), if_neg (by assumption), if_pos (by assumption)]
         exact ⟨_, _, rfl, rfl, by rw [hq]; exact ⟨rfl, fnd_rm h67⟩⟩)
  · obtain ⟨s, hs, rfl⟩ := le_k (by omega) (bI_ne0 h1)
    refine x_iload_n hm rfl rfl ?_
    refine x_iconst hm rfl (v := (-1 : Int32)) (by decide) ?_
    refine x_icmp_eq hm rfl (t := 27) rfl (fun h2 => ?_) (fun h2 => ?_)
    · refine x_aload_n hm rfl rfl ?_
      refine x_getf hm rfl (gR rfl rfl) ?_
      refine x_iconst hm rfl (v := nI 4) (by decide) ?_
      refine x_iload_n hm rfl rfl ?_
      refine x_iadd hm rfl ?_
      rw [jI_add]
      refine x_iload_n hm rfl rfl ?_
      refine x_iast hm rfl (sI rfl (by omega) (by decide)) ?_
      refine x_iconst hm rfl (v := nI 1) (by decide) ?_
      refine x_iret hm rfl rfl (by first | rfl | exact bI_nar | decide) ?_
      first
        | (have hq : fHold nt np r (nI s) a2 = (nI 1, nt, np, put1 r (4 + (nI s).toNatClampNeg) a2) := by
             unfold fHold
             rw [if_neg (by assumption), if_pos (by assumption)]
           exact ⟨_, _, rfl, rfl, by rw [hq]; exact ⟨rfl, by rw [jI_nat (by omega), ← h67]; exact mput67, fun a h _ _ _ => mpo h⟩⟩)
        | (have hq : fHold nt np r (nI s) a2 = (nI 1, nt, np, put1 r (4 + (nI s).toNatClampNeg) a2) := by
             unfold fHold
             rw [if_neg (by assumption), if_neg (by assumption), if_neg (by assumption)]
           exact ⟨_, _, rfl, rfl, by rw [hq]; exact ⟨rfl, by rw [jI_nat (by omega), ← h67]; exact mput67, fun a h _ _ _ => mpo h⟩⟩)
    · refine x_aload_n hm rfl rfl ?_
      refine x_iload_n hm rfl rfl ?_
      refine x_callV hm rfl rfl (t153) ?_
      rw [hnp]
      refine x_if_ne hm rfl (t := 27) rfl (fun h3 => ?_) (fun h3 => ?_)
      · refine x_aload_n hm rfl rfl ?_
        refine x_getf hm rfl (gR rfl rfl) ?_
        refine x_iconst hm rfl (v := nI 4) (by decide) ?_
        refine x_iload_n hm rfl rfl ?_
        refine x_iadd hm rfl ?_
        rw [jI_add]
        refine x_iload_n hm rfl rfl ?_
        refine x_iast hm rfl (sI rfl (by omega) (by decide)) ?_
        refine x_iconst hm rfl (v := nI 1) (by decide) ?_
        refine x_iret hm rfl rfl (by first | rfl | exact bI_nar | decide) ?_
        first
          | (have hq : fHold nt np r (nI s) a2 = (nI 1, nt, np, put1 r (4 + (nI s).toNatClampNeg) a2) := by
               unfold fHold
               rw [if_neg (by assumption), if_pos (by assumption)]
             exact ⟨_, _, rfl, rfl, by rw [hq]; exact ⟨rfl, by rw [jI_nat (by omega), ← h67]; exact mput67, fun a h _ _ _ => mpo h⟩⟩)
          | (have hq : fHold nt np r (nI s) a2 = (nI 1, nt, np, put1 r (4 + (nI s).toNatClampNeg) a2) := by
               unfold fHold
               rw [if_neg (by assumption), if_neg (by assumption), if_neg (by assumption)]
             exact ⟨_, _, rfl, rfl, by rw [hq]; exact ⟨rfl, by rw [jI_nat (by omega), ← h67]; exact mput67, fun a h _ _ _ => mpo h⟩⟩)
      · refine x_aload_n hm rfl rfl ?_
        refine x_ldcI hm rfl (v := (-1000001 : Int32)) (by decide +kernel) ?_
        refine x_callV hm rfl rfl (e135 (by decide +kernel)) ?_
        refine x_iret hm rfl rfl (by first | rfl | exact bI_nar | decide) ?_
        first
          | (have hq : fHold nt np r a1 a2 = (-1000001, nt, np, r) := by
               unfold fHold
               rw [if_pos (by assumption)]
             exact ⟨_, _, rfl, rfl, by rw [hq]; exact ⟨rfl, fnd_rm h67⟩⟩)
          | (have hq : fHold nt np r (nI s) a2 = (-1000001, nt, np, r) := by
               unfold fHold
               rw [if_neg (by assumption), if_neg (by assumption), if_pos (by assumption)]
             exact ⟨_, _, rfl, rfl, by rw [hq]; exact ⟨rfl, fnd_rm h67⟩⟩)
end EJ
