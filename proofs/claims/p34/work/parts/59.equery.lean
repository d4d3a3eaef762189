/-! ===== what is asked of what will be: the answers; the reference ===== -/
def qAhead (r : Nat → Int32) (nt np : Nat) (a1 a2 : Int32) : Int32 × Bool := if bI (nI 0 ≤ a1 ∧ a1 ≤ nI nt - nI 1) = 0 then (-1000001, true) else if bI (nI 0 ≤ a2 ∧ a2 ≤ nI 100) = 0 then (-1000001, true) else (sDays (-1) nt np a2.toNatClampNeg r (14 + 6 * a1.toNatClampNeg + 2), false)
def qGone (r : Nat → Int32) (nt np : Nat) (a1 : Int32) : Int32 × Bool := if bI (nI 0 ≤ a1 ∧ a1 ≤ nI 100) = 0 then (-1000001, true) else (sGone (sDays (-1) nt np a1.toNatClampNeg r) nt, false)
def qWorn (r : Nat → Int32) (nt np : Nat) (a1 : Int32) : Int32 × Bool := if bI (nI 0 ≤ a1 ∧ a1 ≤ nI 100) = 0 then (-1000001, true) else (sThick r nt - sThick (sDays (-1) nt np a1.toNatClampNeg r) nt, false)
def qKind (r : Nat → Int32) (nt np : Nat) (a1 a2 : Int32) : Int32 × Bool := if bI (nI 0 ≤ a1 ∧ a1 ≤ nI np - nI 1) = 0 then (-1000001, true) else if bI (nI 0 ≤ a2 ∧ a2 ≤ nI 60) = 0 then (-1000001, true) else ((fo (sLl r (-1) nt np a2.toNatClampNeg (62 + 7 * a1.toNatClampNeg + 0)) 7 (nI 0, 2147483647)).1, false)
def qWalk (r : Nat → Int32) (nt np : Nat) (a1 a2 : Int32) : Int32 × Bool := if bI (nI 0 ≤ a1 ∧ a1 ≤ nI np - nI 1) = 0 then (-1000001, true) else if bI (nI 0 ≤ a2 ∧ a2 ≤ nI 60) = 0 then (-1000001, true) else ((fo (sLl r (-1) nt np a2.toNatClampNeg (62 + 7 * a1.toNatClampNeg + 2)) 16 (nI 0, 2147483647)).1, false)
def qPlace (r : Nat → Int32) (nt np : Nat) (a1 a2 : Int32) : Int32 × Bool := if bI (nI 0 ≤ a1 ∧ a1 ≤ nI nt - nI 1) = 0 then (-1000001, true) else if bI (nI 0 ≤ a2 ∧ a2 ≤ nI 60) = 0 then (-1000001, true) else ((fo (sTk r (-1) nt np a2.toNatClampNeg a1.toNatClampNeg (14 + 6 * a1.toNatClampNeg + 1)) 16 (-1, -1)).1, false)
def qOwner (r : Nat → Int32) (nt np : Nat) (a1 a2 : Int32) : Int32 × Bool := if bI (nI 0 ≤ a1 ∧ a1 ≤ nI nt - nI 1) = 0 then (-1000001, true) else if bI (nI 0 ≤ a2 ∧ a2 ≤ nI 60) = 0 then (-1000001, true) else orN (fo (sTk r (-1) nt np a2.toNatClampNeg a1.toNatClampNeg (14 + 6 * a1.toNatClampNeg + 4)) np (-1, -1)).1
theorem fst_q {q : Int32 × Bool} {v : Int32} {f : Bool} (h : q = (v, f)) : v = q.1 := by rw [h]
section EG
variable {X : mSc} {Q : Option Value → mHp → Prop} {M : mM}
theorem e172 {a1 a2 : Int32} {nt np : Nat} (hW : Wf M) (hnt : M 67 1 = nI nt) (hn8 : nt ≤ 8) (hnp : M 67 2 = nI np) (hp8 : np ≤ 8) (h6 : M 66 6 = -1) : ∃ v M', mT X 172 [.ref 66, .int a1, .int a2] (con M) (some (.int v)) (con M') ∧ v = (qAhead (M 67) nt np a1 a2).1 ∧ Kq M M' ∧ Fq (qAhead (M 67) nt np a1 a2) M M' := by
  refine ti_of (row := _) rfl (Nat.le_of_ble_eq_true rfl) ?_
  have hm : mMet 172 = some _ := rfl
  refine x_aload_n hm rfl rfl ?_
  refine x_iload_n hm rfl rfl ?_
  refine x_callV hm rfl rfl (t139) ?_
  rw [hnt]
  refine x_if_eq hm rfl (t := 27) rfl (fun h1 => ?_) (fun h1 => ?_)
  · refine x_aload_n hm rfl rfl ?_
    refine x_ldcI hm rfl (v := (-1000001 : Int32)) (by decide +kernel) ?_
    refine x_callV hm rfl rfl (e135 (by decide +kernel)) ?_
    refine x_iret hm rfl rfl (by first | rfl | exact bI_nar | decide) ?_
    first
      | (have hq : qAhead (M 67) nt np a1 a2 = (-1000001, true) := by
           unfold qAhead
           first
             | rw [if_pos (by assumption)]
         exact ⟨_, _, rfl, rfl, congrArg Prod.fst hq.symm, fndR_kq, by rw [hq]; exact fndR_fq⟩)
      | (have hq : qAhead (M 67) nt np (nI t) a2 = (-1000001, true) := by
           unfold qAhead
           first
             | rw [if_pos (by assumption)]
             | rw [if_neg (by assumption), if_pos (by assumption)]
         exact ⟨_, _, rfl, rfl, congrArg Prod.fst hq.symm, fndR_kq, by rw [hq]; exact fndR_fq⟩)
      | (rw [h6] at r3
         have hq : qAhead (M 67) nt np (nI t) (nI a) = (sDays (-1) nt np a (M 67) (14 + 6 * t + 2), false) := by
           unfold qAhead
           rw [if_neg (by assumption), if_neg (by assumption)]
           rw [jI_nat (k := t) (by omega)]
           rw [jI_nat (k := a) (by omega)]
         exact ⟨_, _, rfl, rfl, r3.1.trans (fst_q hq), r3.2.kq, by rw [hq]; exact r3.2.fq⟩)
  · obtain ⟨t, ht, rfl⟩ := in_k rfl (by omega) (bI_ne0 h1)
    refine x_iload_n hm rfl rfl ?_
    refine x_iconst hm rfl (v := nI 0) (by decide) ?_
    refine x_bipush hm rfl (v := nI 100) (by decide) ?_
    refine x_callS hm rfl rfl (t133) ?_
    refine x_if_eq hm rfl (t := 27) rfl (fun h2 => ?_) (fun h2 => ?_)
    · refine x_aload_n hm rfl rfl ?_
      refine x_ldcI hm rfl (v := (-1000001 : Int32)) (by decide +kernel) ?_
      refine x_callV hm rfl rfl (e135 (by decide +kernel)) ?_
      refine x_iret hm rfl rfl (by first | rfl | exact bI_nar | decide) ?_
      first
        | (have hq : qAhead (M 67) nt np a1 a2 = (-1000001, true) := by
             unfold qAhead
             first
               | rw [if_pos (by assumption)]
           exact ⟨_, _, rfl, rfl, congrArg Prod.fst hq.symm, fndR_kq, by rw [hq]; exact fndR_fq⟩)
        | (have hq : qAhead (M 67) nt np (nI t) a2 = (-1000001, true) := by
             unfold qAhead
             first
               | rw [if_pos (by assumption)]
               | rw [if_neg (by assumption), if_pos (by assumption)]
           exact ⟨_, _, rfl, rfl, congrArg Prod.fst hq.symm, fndR_kq, by rw [hq]; exact fndR_fq⟩)
        | (rw [h6] at r3
           have hq : qAhead (M 67) nt np (nI t) (nI a) = (sDays (-1) nt np a (M 67) (14 + 6 * t + 2), false) := by
             unfold qAhead
             rw [if_neg (by assumption), if_neg (by assumption)]
             rw [jI_nat (k := t) (by omega)]
             rw [jI_nat (k := a) (by omega)]
           exact ⟨_, _, rfl, rfl, r3.1.trans (fst_q hq), r3.2.kq, by rw [hq]; exact r3.2.fq⟩)
    · obtain ⟨a, ha, rfl⟩ := le_k (by omega) (bI_ne0 h2)
      refine x_aload_n hm rfl rfl ?_
      refine x_iload_n hm rfl rfl ?_
      refine x_iload_n hm rfl rfl ?_
      refine x_cVi hm rfl rfl (e173 hW hnt hn8 hnp hp8 (by omega) (by omega)) (fun v3 M3 r3 => ?_)
      refine x_goto hm rfl (t := 33) rfl ?_
      refine x_iret hm rfl rfl (by first | rfl | exact bI_nar | decide) ?_
      first
        | (rw [h6] at r3
           have hq : qAhead (M 67) nt np (nI t) (nI a) = (sDays (-1) nt np a (M 67) (14 + 6 * t + 2), false) := by
             unfold qAhead
             rw [if_neg (by assumption), if_neg (by assumption)]
             rw [jI_nat (k := t) (by omega)]
             rw [jI_nat (k := a) (by omega)]
           exact ⟨_, _, rfl, rfl, r3.1.trans (fst_q hq), r3.2.kq, by rw [hq]; exact r3.2.fq⟩)
        | (have hq : qAhead (M 67) nt np a1 a2 = (-1000001, true) := by
             unfold qAhead
             first
               | rw [if_pos (by assumption)]
           exact ⟨_, _, rfl, rfl, congrArg Prod.fst hq.symm, fndR_kq, by rw [hq]; exact fndR_fq⟩)
        | (have hq : qAhead (M 67) nt np (nI t) a2 = (-1000001, true) := by
             unfold qAhead
             first
               | rw [if_pos (by assumption)]
               | rw [if_neg (by assumption), if_pos (by assumption)]
           exact ⟨_, _, rfl, rfl, congrArg Prod.fst hq.symm, fndR_kq, by rw [hq]; exact fndR_fq⟩)
theorem e182 {a1 a2 : Int32} {nt np : Nat} (hW : Wf M) (hnt : M 67 1 = nI nt) (hn8 : nt ≤ 8) (hnp : M 67 2 = nI np) (hp8 : np ≤ 8) (h6 : M 66 6 = -1) : ∃ v M', mT X 182 [.ref 66, .int a1, .int a2] (con M) (some (.int v)) (con M') ∧ v = (qKind (M 67) nt np a1 a2).1 ∧ Kq M M' ∧ Fq (qKind (M 67) nt np a1 a2) M M' := by
  refine ti_of (row := _) rfl (Nat.le_of_ble_eq_true rfl) ?_
  have hm : mMet 182 = some _ := rfl
  refine x_aload_n hm rfl rfl ?_
  refine x_iload_n hm rfl rfl ?_
  refine x_callV hm rfl rfl (t153) ?_
  rw [hnp]
  refine x_if_eq hm rfl (t := 33) rfl (fun h1 => ?_) (fun h1 => ?_)
  · refine x_aload_n hm rfl rfl ?_
    refine x_ldcI hm rfl (v := (-1000001 : Int32)) (by decide +kernel) ?_
    refine x_callV hm rfl rfl (e135 (by decide +kernel)) ?_
    refine x_iret hm rfl rfl (by first | rfl | exact bI_nar | decide) ?_
    first
      | (have hq : qKind (M 67) nt np a1 a2 = (-1000001, true) := by
           unfold qKind
           first
             | rw [if_pos (by assumption)]
         exact ⟨_, _, rfl, rfl, congrArg Prod.fst hq.symm, fndR_kq, by rw [hq]; exact fndR_fq⟩)
      | (have hq : qKind (M 67) nt np (nI p) a2 = (-1000001, true) := by
           unfold qKind
           first
             | rw [if_pos (by assumption)]
             | rw [if_neg (by assumption), if_pos (by assumption)]
         exact ⟨_, _, rfl, rfl, congrArg Prod.fst hq.symm, fndR_kq, by rw [hq]; exact fndR_fq⟩)
      | (rw [h6] at r3
         have hq : qKind (M 67) nt np (nI p) (nI a) = ((fo (sLl (M 67) (-1) nt np a (62 + 7 * p + 0)) 7 (nI 0, 2147483647)).1, false) := by
           unfold qKind
           rw [if_neg (by assumption), if_neg (by assumption)]
           rw [jI_nat (k := p) (by omega)]
           rw [jI_nat (k := a) (by omega)]
         exact ⟨_, _, rfl, rfl, r3.1.trans (fst_q hq), r3.2.kq, by rw [hq]; exact r3.2.fq⟩)
  · obtain ⟨p, hp, rfl⟩ := in_k rfl (by omega) (bI_ne0 h1)
    refine x_iload_n hm rfl rfl ?_
    refine x_iconst hm rfl (v := nI 0) (by decide) ?_
    refine x_bipush hm rfl (v := nI 60) (by decide) ?_
    refine x_callS hm rfl rfl (t133) ?_
    refine x_if_eq hm rfl (t := 33) rfl (fun h2 => ?_) (fun h2 => ?_)
    · refine x_aload_n hm rfl rfl ?_
      refine x_ldcI hm rfl (v := (-1000001 : Int32)) (by decide +kernel) ?_
      refine x_callV hm rfl rfl (e135 (by decide +kernel)) ?_
      refine x_iret hm rfl rfl (by first | rfl | exact bI_nar | decide) ?_
      first
        | (have hq : qKind (M 67) nt np a1 a2 = (-1000001, true) := by
             unfold qKind
             first
               | rw [if_pos (by assumption)]
           exact ⟨_, _, rfl, rfl, congrArg Prod.fst hq.symm, fndR_kq, by rw [hq]; exact fndR_fq⟩)
        | (have hq : qKind (M 67) nt np (nI p) a2 = (-1000001, true) := by
             unfold qKind
             first
               | rw [if_pos (by assumption)]
               | rw [if_neg (by assumption), if_pos (by assumption)]
           exact ⟨_, _, rfl, rfl, congrArg Prod.fst hq.symm, fndR_kq, by rw [hq]; exact fndR_fq⟩)
        | (rw [h6] at r3
           have hq : qKind (M 67) nt np (nI p) (nI a) = ((fo (sLl (M 67) (-1) nt np a (62 + 7 * p + 0)) 7 (nI 0, 2147483647)).1, false) := by
             unfold qKind
             rw [if_neg (by assumption), if_neg (by assumption)]
             rw [jI_nat (k := p) (by omega)]
             rw [jI_nat (k := a) (by omega)]
           exact ⟨_, _, rfl, rfl, r3.1.trans (fst_q hq), r3.2.kq, by rw [hq]; exact r3.2.fq⟩)
    · obtain ⟨a, ha, rfl⟩ := le_k (by omega) (bI_ne0 h2)
      refine x_aload_n hm rfl rfl ?_
      refine x_iload_n hm rfl rfl ?_
      refine x_iconst hm rfl (v := nI 0) (by decide) ?_
      refine x_callS hm rfl rfl (t142) ?_
      refine x_bipush hm rfl (v := nI 7) (by decide) ?_
      refine x_iload_n hm rfl rfl ?_
      refine x_cVi hm rfl rfl (e183 hW hnt hn8 hnp hp8 (by omega) (by omega) (fun _ _ _ => Sf.person (by omega) (by decide)) (by omega)) (fun v3 M3 r3 => ?_)
      refine x_goto hm rfl (t := 39) rfl ?_
      refine x_iret hm rfl rfl (by first | rfl | exact bI_nar | decide) ?_
      first
        | (rw [h6] at r3
           have hq : qKind (M 67) nt np (nI p) (nI a) = ((fo (sLl (M 67) (-1) nt np a (62 + 7 * p + 0)) 7 (nI 0, 2147483647)).1, false) := by
             unfold qKind
             rw [if_neg (by assumption), if_neg (by assumption)]
             rw [jI_nat (k := p) (by omega)]
             rw [jI_nat (k := a) (by omega)]
           exact ⟨_, _, rfl, rfl, r3.1.trans (fst_q hq), r3.2.kq, by rw [hq]; exact r3.2.fq⟩)
        | (have hq : qKind (M 67) nt np a1 a2 = (-1000001, true) := by
             unfold qKind
             first
               | rw [if_pos (by assumption)]
           exact ⟨_, _, rfl, rfl, congrArg Prod.fst hq.symm, fndR_kq, by rw [hq]; exact fndR_fq⟩)
        | (have hq : qKind (M 67) nt np (nI p) a2 = (-1000001, true) := by
             unfold qKind
             first
               | rw [if_pos (by assumption)]
               | rw [if_neg (by assumption), if_pos (by assumption)]
           exact ⟨_, _, rfl, rfl, congrArg Prod.fst hq.symm, fndR_kq, by rw [hq]; exact fndR_fq⟩)
theorem e184 {a1 a2 : Int32} {nt np : Nat} (hW : Wf M) (hnt : M 67 1 = nI nt) (hn8 : nt ≤ 8) (hnp : M 67 2 = nI np) (hp8 : np ≤ 8) (h6 : M 66 6 = -1) : ∃ v M', mT X 184 [.ref 66, .int a1, .int a2] (con M) (some (.int v)) (con M') ∧ v = (qWalk (M 67) nt np a1 a2).1 ∧ Kq M M' ∧ Fq (qWalk (M 67) nt np a1 a2) M M' := by
  refine ti_of (row := _) rfl (Nat.le_of_ble_eq_true rfl) ?_
  have hm : mMet 184 = some _ := rfl
  refine x_aload_n hm rfl rfl ?_
  refine x_iload_n hm rfl rfl ?_
  refine x_callV hm rfl rfl (t153) ?_
  rw [hnp]
  refine x_if_eq hm rfl (t := 33) rfl (fun h1 => ?_) (fun h1 => ?_)
  · refine x_aload_n hm rfl rfl ?_
    refine x_ldcI hm rfl (v := (-1000001 : Int32)) (by decide +kernel) ?_
    refine x_callV hm rfl rfl (e135 (by decide +kernel)) ?_
    refine x_iret hm rfl rfl (by first | rfl | exact bI_nar | decide) ?_
    first
      | (have hq : qWalk (M 67) nt np a1 a2 = (-1000001, true) := by
           unfold qWalk
           first
             | rw [if_pos (by assumption)]
         exact ⟨_, _, rfl, rfl, congrArg Prod.fst hq.symm, fndR_kq, by rw [hq]; exact fndR_fq⟩)
      | (have hq : qWalk (M 67) nt np (nI p) a2 = (-1000001, true) := by
           unfold qWalk
           first
             | rw [if_pos (by assumption)]
             | rw [if_neg (by assumption), if_pos (by assumption)]
         exact ⟨_, _, rfl, rfl, congrArg Prod.fst hq.symm, fndR_kq, by rw [hq]; exact fndR_fq⟩)
      | (rw [h6] at r3
         have hq : qWalk (M 67) nt np (nI p) (nI a) = ((fo (sLl (M 67) (-1) nt np a (62 + 7 * p + 2)) 16 (nI 0, 2147483647)).1, false) := by
           unfold qWalk
           rw [if_neg (by assumption), if_neg (by assumption)]
           rw [jI_nat (k := p) (by omega)]
           rw [jI_nat (k := a) (by omega)]
         exact ⟨_, _, rfl, rfl, r3.1.trans (fst_q hq), r3.2.kq, by rw [hq]; exact r3.2.fq⟩)
  · obtain ⟨p, hp, rfl⟩ := in_k rfl (by omega) (bI_ne0 h1)
    refine x_iload_n hm rfl rfl ?_
    refine x_iconst hm rfl (v := nI 0) (by decide) ?_
    refine x_bipush hm rfl (v := nI 60) (by decide) ?_
    refine x_callS hm rfl rfl (t133) ?_
    refine x_if_eq hm rfl (t := 33) rfl (fun h2 => ?_) (fun h2 => ?_)
    · refine x_aload_n hm rfl rfl ?_
      refine x_ldcI hm rfl (v := (-1000001 : Int32)) (by decide +kernel) ?_
      refine x_callV hm rfl rfl (e135 (by decide +kernel)) ?_
      refine x_iret hm rfl rfl (by first | rfl | exact bI_nar | decide) ?_
      first
        | (have hq : qWalk (M 67) nt np a1 a2 = (-1000001, true) := by
             unfold qWalk
             first
               | rw [if_pos (by assumption)]
           exact ⟨_, _, rfl, rfl, congrArg Prod.fst hq.symm, fndR_kq, by rw [hq]; exact fndR_fq⟩)
        | (have hq : qWalk (M 67) nt np (nI p) a2 = (-1000001, true) := by
             unfold qWalk
             first
               | rw [if_pos (by assumption)]
               | rw [if_neg (by assumption), if_pos (by assumption)]
           exact ⟨_, _, rfl, rfl, congrArg Prod.fst hq.symm, fndR_kq, by rw [hq]; exact fndR_fq⟩)
        | (rw [h6] at r3
           have hq : qWalk (M 67) nt np (nI p) (nI a) = ((fo (sLl (M 67) (-1) nt np a (62 + 7 * p + 2)) 16 (nI 0, 2147483647)).1, false) := by
             unfold qWalk
             rw [if_neg (by assumption), if_neg (by assumption)]
             rw [jI_nat (k := p) (by omega)]
             rw [jI_nat (k := a) (by omega)]
           exact ⟨_, _, rfl, rfl, r3.1.trans (fst_q hq), r3.2.kq, by rw [hq]; exact r3.2.fq⟩)
    · obtain ⟨a, ha, rfl⟩ := le_k (by omega) (bI_ne0 h2)
      refine x_aload_n hm rfl rfl ?_
      refine x_iload_n hm rfl rfl ?_
      refine x_iconst hm rfl (v := nI 2) (by decide) ?_
      refine x_callS hm rfl rfl (t142) ?_
      refine x_bipush hm rfl (v := nI 16) (by decide) ?_
      refine x_iload_n hm rfl rfl ?_
      refine x_cVi hm rfl rfl (e183 hW hnt hn8 hnp hp8 (by omega) (by omega) (fun _ _ _ => Sf.person (by omega) (by decide)) (by omega)) (fun v3 M3 r3 => ?_)
      refine x_goto hm rfl (t := 39) rfl ?_
      refine x_iret hm rfl rfl (by first | rfl | exact bI_nar | decide) ?_
      first
        | (rw [h6] at r3
           have hq : qWalk (M 67) nt np (nI p) (nI a) = ((fo (sLl (M 67) (-1) nt np a (62 + 7 * p + 2)) 16 (nI 0, 2147483647)).1, false) := by
             unfold qWalk
             rw [if_neg (by assumption), if_neg (by assumption)]
             rw [jI_nat (k := p) (by omega)]
             rw [jI_nat (k := a) (by omega)]
           exact ⟨_, _, rfl, rfl, r3.1.trans (fst_q hq), r3.2.kq, by rw [hq]; exact r3.2.fq⟩)
        | (have hq : qWalk (M 67) nt np a1 a2 = (-1000001, true) := by
             unfold qWalk
             first
               | rw [if_pos (by assumption)]
           exact ⟨_, _, rfl, rfl, congrArg Prod.fst hq.symm, fndR_kq, by rw [hq]; exact fndR_fq⟩)
        | (have hq : qWalk (M 67) nt np (nI p) a2 = (-1000001, true) := by
             unfold qWalk
             first
               | rw [if_pos (by assumption)]
               | rw [if_neg (by assumption), if_pos (by assumption)]
           exact ⟨_, _, rfl, rfl, congrArg Prod.fst hq.symm, fndR_kq, by rw [hq]; exact fndR_fq⟩)
theorem e185 {a1 a2 : Int32} {nt np : Nat} (hW : Wf M) (hnt : M 67 1 = nI nt) (hn8 : nt ≤ 8) (hnp : M 67 2 = nI np) (hp8 : np ≤ 8) (h6 : M 66 6 = -1) : ∃ v M', mT X 185 [.ref 66, .int a1, .int a2] (con M) (some (.int v)) (con M') ∧ v = (qPlace (M 67) nt np a1 a2).1 ∧ Kq M M' ∧ Fq (qPlace (M 67) nt np a1 a2) M M' := by
  refine ti_of (row := _) rfl (Nat.le_of_ble_eq_true rfl) ?_
  have hm : mMet 185 = some _ := rfl
  refine x_aload_n hm rfl rfl ?_
  refine x_iload_n hm rfl rfl ?_
  refine x_callV hm rfl rfl (t139) ?_
  rw [hnt]
  refine x_if_eq hm rfl (t := 34) rfl (fun h1 => ?_) (fun h1 => ?_)
  · refine x_aload_n hm rfl rfl ?_
    refine x_ldcI hm rfl (v := (-1000001 : Int32)) (by decide +kernel) ?_
    refine x_callV hm rfl rfl (e135 (by decide +kernel)) ?_
    refine x_iret hm rfl rfl (by first | rfl | exact bI_nar | decide) ?_
    first
      | (have hq : qPlace (M 67) nt np a1 a2 = (-1000001, true) := by
           unfold qPlace
           first
             | rw [if_pos (by assumption)]
         exact ⟨_, _, rfl, rfl, congrArg Prod.fst hq.symm, fndR_kq, by rw [hq]; exact fndR_fq⟩)
      | (have hq : qPlace (M 67) nt np (nI t) a2 = (-1000001, true) := by
           unfold qPlace
           first
             | rw [if_pos (by assumption)]
             | rw [if_neg (by assumption), if_pos (by assumption)]
         exact ⟨_, _, rfl, rfl, congrArg Prod.fst hq.symm, fndR_kq, by rw [hq]; exact fndR_fq⟩)
      | (rw [h6] at r3
         have hq : qPlace (M 67) nt np (nI t) (nI a) = ((fo (sTk (M 67) (-1) nt np a t (14 + 6 * t + 1)) 16 (-1, -1)).1, false) := by
           unfold qPlace
           rw [if_neg (by assumption), if_neg (by assumption)]
           rw [jI_nat (k := t) (by omega)]
           rw [jI_nat (k := a) (by omega)]
         exact ⟨_, _, rfl, rfl, r3.1.trans (fst_q hq), r3.2.kq, by rw [hq]; exact r3.2.fq⟩)
  · obtain ⟨t, ht, rfl⟩ := in_k rfl (by omega) (bI_ne0 h1)
    refine x_iload_n hm rfl rfl ?_
    refine x_iconst hm rfl (v := nI 0) (by decide) ?_
    refine x_bipush hm rfl (v := nI 60) (by decide) ?_
    refine x_callS hm rfl rfl (t133) ?_
    refine x_if_eq hm rfl (t := 34) rfl (fun h2 => ?_) (fun h2 => ?_)
    · refine x_aload_n hm rfl rfl ?_
      refine x_ldcI hm rfl (v := (-1000001 : Int32)) (by decide +kernel) ?_
      refine x_callV hm rfl rfl (e135 (by decide +kernel)) ?_
      refine x_iret hm rfl rfl (by first | rfl | exact bI_nar | decide) ?_
      first
        | (have hq : qPlace (M 67) nt np a1 a2 = (-1000001, true) := by
             unfold qPlace
             first
               | rw [if_pos (by assumption)]
           exact ⟨_, _, rfl, rfl, congrArg Prod.fst hq.symm, fndR_kq, by rw [hq]; exact fndR_fq⟩)
        | (have hq : qPlace (M 67) nt np (nI t) a2 = (-1000001, true) := by
             unfold qPlace
             first
               | rw [if_pos (by assumption)]
               | rw [if_neg (by assumption), if_pos (by assumption)]
           exact ⟨_, _, rfl, rfl, congrArg Prod.fst hq.symm, fndR_kq, by rw [hq]; exact fndR_fq⟩)
        | (rw [h6] at r3
           have hq : qPlace (M 67) nt np (nI t) (nI a) = ((fo (sTk (M 67) (-1) nt np a t (14 + 6 * t + 1)) 16 (-1, -1)).1, false) := by
             unfold qPlace
             rw [if_neg (by assumption), if_neg (by assumption)]
             rw [jI_nat (k := t) (by omega)]
             rw [jI_nat (k := a) (by omega)]
           exact ⟨_, _, rfl, rfl, r3.1.trans (fst_q hq), r3.2.kq, by rw [hq]; exact r3.2.fq⟩)
    · obtain ⟨a, ha, rfl⟩ := le_k (by omega) (bI_ne0 h2)
      refine x_aload_n hm rfl rfl ?_
      refine x_iload_n hm rfl rfl ?_
      refine x_iload_n hm rfl rfl ?_
      refine x_iconst hm rfl (v := nI 1) (by decide) ?_
      refine x_callS hm rfl rfl (t137) ?_
      refine x_bipush hm rfl (v := nI 16) (by decide) ?_
      refine x_iload_n hm rfl rfl ?_
      refine x_cVi hm rfl rfl (e186 hW hnt hn8 hnp hp8 (by omega) (by omega) (by omega) (fun _ _ _ => Sf.thing (by omega) (by decide) (by decide) (by decide)) (by omega)) (fun v3 M3 r3 => ?_)
      refine x_goto hm rfl (t := 40) rfl ?_
      refine x_iret hm rfl rfl (by first | rfl | exact bI_nar | decide) ?_
      first
        | (rw [h6] at r3
           have hq : qPlace (M 67) nt np (nI t) (nI a) = ((fo (sTk (M 67) (-1) nt np a t (14 + 6 * t + 1)) 16 (-1, -1)).1, false) := by
             unfold qPlace
             rw [if_neg (by assumption), if_neg (by assumption)]
             rw [jI_nat (k := t) (by omega)]
             rw [jI_nat (k := a) (by omega)]
           exact ⟨_, _, rfl, rfl, r3.1.trans (fst_q hq), r3.2.kq, by rw [hq]; exact r3.2.fq⟩)
        | (have hq : qPlace (M 67) nt np a1 a2 = (-1000001, true) := by
             unfold qPlace
             first
               | rw [if_pos (by assumption)]
           exact ⟨_, _, rfl, rfl, congrArg Prod.fst hq.symm, fndR_kq, by rw [hq]; exact fndR_fq⟩)
        | (have hq : qPlace (M 67) nt np (nI t) a2 = (-1000001, true) := by
             unfold qPlace
             first
               | rw [if_pos (by assumption)]
               | rw [if_neg (by assumption), if_pos (by assumption)]
           exact ⟨_, _, rfl, rfl, congrArg Prod.fst hq.symm, fndR_kq, by rw [hq]; exact fndR_fq⟩)
theorem e179 {a1 : Int32} {nt np : Nat} (hW : Wf M) (hnt : M 67 1 = nI nt) (hn8 : nt ≤ 8) (hnp : M 67 2 = nI np) (hp8 : np ≤ 8) (h6 : M 66 6 = -1) : ∃ v M', mT X 179 [.ref 66, .int a1] (con M) (some (.int v)) (con M') ∧ v = (qWorn (M 67) nt np a1).1 ∧ Kq M M' ∧ Fq (qWorn (M 67) nt np a1) M M' := by
  refine ti_of (row := _) rfl (Nat.le_of_ble_eq_true rfl) ?_
  have hm : mMet 179 = some _ := rfl
  refine x_iload_n hm rfl rfl ?_
  refine x_iconst hm rfl (v := nI 0) (by decide) ?_
  refine x_bipush hm rfl (v := nI 100) (by decide) ?_
  refine x_callS hm rfl rfl (t133) ?_
  refine x_if_eq hm rfl (t := 18) rfl (fun h1 => ?_) (fun h1 => ?_)
  · refine x_aload_n hm rfl rfl ?_
    refine x_ldcI hm rfl (v := (-1000001 : Int32)) (by decide +kernel) ?_
    refine x_callV hm rfl rfl (e135 (by decide +kernel)) ?_
    refine x_iret hm rfl rfl (by first | rfl | exact bI_nar | decide) ?_
    first
      | (have hq : qWorn (M 67) nt np a1 = (-1000001, true) := by
           unfold qWorn
           first
             | rw [if_pos (by assumption)]
         exact ⟨_, _, rfl, rfl, congrArg Prod.fst hq.symm, fndR_kq, by rw [hq]; exact fndR_fq⟩)
      | (rw [h6] at r2
         have hq : qWorn (M 67) nt np (nI a) = (sThick (M 67) nt - sThick (sDays (-1) nt np a (M 67)) nt, false) := by
           unfold qWorn
           rw [if_neg (by assumption)]
           rw [jI_nat (k := a) (by omega)]
         exact ⟨_, _, rfl, rfl, r2.1.trans (fst_q hq), r2.2.kq, by rw [hq]; exact r2.2.fq⟩)
  · obtain ⟨a, ha, rfl⟩ := le_k (by omega) (bI_ne0 h1)
    refine x_aload_n hm rfl rfl ?_
    refine x_iload_n hm rfl rfl ?_
    refine x_cVi hm rfl rfl (e180 hW hnt hn8 hnp hp8 (by omega)) (fun v2 M2 r2 => ?_)
    refine x_goto hm rfl (t := 24) rfl ?_
    refine x_iret hm rfl rfl (by first | rfl | exact bI_nar | decide) ?_
    first
      | (rw [h6] at r2
         have hq : qWorn (M 67) nt np (nI a) = (sThick (M 67) nt - sThick (sDays (-1) nt np a (M 67)) nt, false) := by
           unfold qWorn
           rw [if_neg (by assumption)]
           rw [jI_nat (k := a) (by omega)]
         exact ⟨_, _, rfl, rfl, r2.1.trans (fst_q hq), r2.2.kq, by rw [hq]; exact r2.2.fq⟩)
      | (have hq : qWorn (M 67) nt np a1 = (-1000001, true) := by
           unfold qWorn
           first
             | rw [if_pos (by assumption)]
         exact ⟨_, _, rfl, rfl, congrArg Prod.fst hq.symm, fndR_kq, by rw [hq]; exact fndR_fq⟩)
theorem e187 {a1 a2 : Int32} {nt np : Nat} (hW : Wf M) (hnt : M 67 1 = nI nt) (hn8 : nt ≤ 8) (hnp : M 67 2 = nI np) (hp8 : np ≤ 8) (h6 : M 66 6 = -1) : ∃ v M', mT X 187 [.ref 66, .int a1, .int a2] (con M) (some (.int v)) (con M') ∧ v = (qOwner (M 67) nt np a1 a2).1 ∧ Kq M M' ∧ Fq (qOwner (M 67) nt np a1 a2) M M' := by
  refine ti_of (row := _) rfl (Nat.le_of_ble_eq_true rfl) ?_
  have hm : mMet 187 = some _ := rfl
  refine x_aload_n hm rfl rfl ?_
  refine x_iload_n hm rfl rfl ?_
  refine x_callV hm rfl rfl (t139) ?_
  rw [hnt]
  refine x_if_eq hm rfl (t := 42) rfl (fun h1 => ?_) (fun h1 => ?_)
  · refine x_aload_n hm rfl rfl ?_
    refine x_ldcI hm rfl (v := (-1000001 : Int32)) (by decide +kernel) ?_
    refine x_callV hm rfl rfl (e135 (by decide +kernel)) ?_
    refine x_iret hm rfl rfl (by first | rfl | exact bI_nar | decide) ?_
    first
      | (have hq : qOwner (M 67) nt np a1 a2 = (-1000001, true) := by
           unfold qOwner
           first
             | rw [if_pos (by assumption)]
         exact ⟨_, _, rfl, rfl, congrArg Prod.fst hq.symm, fndR_kq, by rw [hq]; exact fndR_fq⟩)
      | (have hq : qOwner (M 67) nt np (nI t) a2 = (-1000001, true) := by
           unfold qOwner
           first
             | rw [if_pos (by assumption)]
             | rw [if_neg (by assumption), if_pos (by assumption)]
         exact ⟨_, _, rfl, rfl, congrArg Prod.fst hq.symm, fndR_kq, by rw [hq]; exact fndR_fq⟩)
      | (rw [h6] at r3
         have hq : qOwner (M 67) nt np (nI t) (nI a) = orN v3 := by
           unfold qOwner
           rw [if_neg (by assumption), if_neg (by assumption)]
           rw [jI_nat (k := t) (by omega)]
           rw [jI_nat (k := a) (by omega)]
           rw [r3.1]
         exact ⟨_, _, rfl, rfl, by rw [hq]; exact r4.1, r3.2.kq.to r4.2.1, by rw [hq]; exact r4.2.2.of (r3.2.2 70 (by decide) (by decide))⟩)
  · obtain ⟨t, ht, rfl⟩ := in_k rfl (by omega) (bI_ne0 h1)
    refine x_iload_n hm rfl rfl ?_
    refine x_iconst hm rfl (v := nI 0) (by decide) ?_
    refine x_bipush hm rfl (v := nI 60) (by decide) ?_
    refine x_callS hm rfl rfl (t133) ?_
    refine x_if_eq hm rfl (t := 42) rfl (fun h2 => ?_) (fun h2 => ?_)
    · refine x_aload_n hm rfl rfl ?_
      refine x_ldcI hm rfl (v := (-1000001 : Int32)) (by decide +kernel) ?_
      refine x_callV hm rfl rfl (e135 (by decide +kernel)) ?_
      refine x_iret hm rfl rfl (by first | rfl | exact bI_nar | decide) ?_
      first
        | (have hq : qOwner (M 67) nt np a1 a2 = (-1000001, true) := by
             unfold qOwner
             first
               | rw [if_pos (by assumption)]
           exact ⟨_, _, rfl, rfl, congrArg Prod.fst hq.symm, fndR_kq, by rw [hq]; exact fndR_fq⟩)
        | (have hq : qOwner (M 67) nt np (nI t) a2 = (-1000001, true) := by
             unfold qOwner
             first
               | rw [if_pos (by assumption)]
               | rw [if_neg (by assumption), if_pos (by assumption)]
           exact ⟨_, _, rfl, rfl, congrArg Prod.fst hq.symm, fndR_kq, by rw [hq]; exact fndR_fq⟩)
        | (rw [h6] at r3
           have hq : qOwner (M 67) nt np (nI t) (nI a) = orN v3 := by
             unfold qOwner
             rw [if_neg (by assumption), if_neg (by assumption)]
             rw [jI_nat (k := t) (by omega)]
             rw [jI_nat (k := a) (by omega)]
             rw [r3.1]
           exact ⟨_, _, rfl, rfl, by rw [hq]; exact r4.1, r3.2.kq.to r4.2.1, by rw [hq]; exact r4.2.2.of (r3.2.2 70 (by decide) (by decide))⟩)
    · obtain ⟨a, ha, rfl⟩ := le_k (by omega) (bI_ne0 h2)
      refine x_aload_n hm rfl rfl ?_
      refine x_aload_n hm rfl rfl ?_
      refine x_iload_n hm rfl rfl ?_
      refine x_iload_n hm rfl rfl ?_
      refine x_iconst hm rfl (v := nI 4) (by decide) ?_
      refine x_callS hm rfl rfl (t137) ?_
      refine x_aload_n hm rfl rfl ?_
      refine x_getf hm rfl (gR rfl rfl) ?_
      refine x_iconst hm rfl (v := nI 2) (by decide) ?_
      refine x_iald hm rfl (lI rfl (by omega) (by decide)) ?_
      rw [hnp]
      refine x_iload_n hm rfl rfl ?_
      refine x_cVi hm rfl rfl (e186 hW hnt hn8 hnp hp8 (by omega) (by omega) (by omega) (fun M1 v hv => Sf.owner (by omega) (by
      rcases hv with rfl | ⟨k, hk, rfl⟩
      · exact hW.owner (by omega)
      · exact okI2 (by omega))) (by omega)) (fun v3 M3 r3 => ?_)
      refine x_cVi hm rfl rfl (e177) (fun v4 M4 r4 => ?_)
      refine x_goto hm rfl (t := 48) rfl ?_
      refine x_iret hm rfl rfl (by first | rfl | exact bI_nar | decide) ?_
      first
        | (rw [h6] at r3
           have hq : qOwner (M 67) nt np (nI t) (nI a) = orN v3 := by
             unfold qOwner
             rw [if_neg (by assumption), if_neg (by assumption)]
             rw [jI_nat (k := t) (by omega)]
             rw [jI_nat (k := a) (by omega)]
             rw [r3.1]
           exact ⟨_, _, rfl, rfl, by rw [hq]; exact r4.1, r3.2.kq.to r4.2.1, by rw [hq]; exact r4.2.2.of (r3.2.2 70 (by decide) (by decide))⟩)
        | (have hq : qOwner (M 67) nt np a1 a2 = (-1000001, true) := by
             unfold qOwner
             first
               | rw [if_pos (by assumption)]
           exact ⟨_, _, rfl, rfl, congrArg Prod.fst hq.symm, fndR_kq, by rw [hq]; exact fndR_fq⟩)
        | (have hq : qOwner (M 67) nt np (nI t) a2 = (-1000001, true) := by
             unfold qOwner
             first
               | rw [if_pos (by assumption)]
               | rw [if_neg (by assumption), if_pos (by assumption)]
           exact ⟨_, _, rfl, rfl, congrArg Prod.fst hq.symm, fndR_kq, by rw [hq]; exact fndR_fq⟩)
theorem e178 {a1 : Int32} {nt np : Nat} (hW : Wf M) (hnt : M 67 1 = nI nt) (hn8 : nt ≤ 8) (hnp : M 67 2 = nI np) (hp8 : np ≤ 8) (h6 : M 66 6 = -1) : ∃ v M', mT X 178 [.ref 66, .int a1] (con M) (some (.int v)) (con M') ∧ v = (qGone (M 67) nt np a1).1 ∧ Kq M M' ∧ Fq (qGone (M 67) nt np a1) M M' := by
  refine ti_of (row := _) rfl (Nat.le_of_ble_eq_true rfl) ?_
  have hm : mMet 178 = some _ := rfl
  refine x_iload_n hm rfl rfl ?_
  refine x_iconst hm rfl (v := nI 0) (by decide) ?_
  refine x_bipush hm rfl (v := nI 100) (by decide) ?_
  refine x_callS hm rfl rfl (t133) ?_
  refine x_if_ne hm rfl (t := 17) rfl (fun h1 => ?_) (fun h1 => ?_)
  · obtain ⟨a, ha, rfl⟩ := le_k (by omega) (bI_ne0 h1)
    refine x_aload_n hm rfl rfl ?_
    refine x_getf hm rfl (gR rfl rfl) ?_
    refine x_aload_n hm rfl rfl ?_
    refine x_getf hm rfl (gR rfl rfl) ?_
    refine x_callS hm rfl rfl (t174 rfl rfl (by decide)) ?_
    refine x_aload_n hm rfl rfl ?_
    refine x_iload_n hm rfl rfl ?_
    refine x_cVv hm rfl rfl (f164 hW hnt hn8 hnp hp8 (by omega)) (fun M2 r2 => ?_)
    refine x_aload_n hm rfl rfl ?_
    refine x_aload_n hm rfl rfl ?_
    refine x_callV hm rfl rfl (e167 (r2.1.1.2.1.trans ((congrFun (cp_o (by decide)) 1).trans hnt)) hn8) ?_
    refine x_callV hm rfl rfl (t175) ?_
    refine x_iret hm rfl rfl (by first | rfl | exact bI_nar | decide) ?_
    have hq : qGone (M 67) nt np (nI a) = (sGone (sDays (-1) nt np a (M 67)) nt, false) := by
      unfold qGone
      rw [if_neg (by assumption)]
      rw [jI_nat (k := a) (by omega)]
    rw [h6] at r2
    have hk := Kr.back r2.1 r2.2 (fun j hj => sDays_118 hn8 hp8 hj _)
    exact ⟨_, _, rfl, rfl, by rw [r2.2.1]; exact fst_q hq, hk.kq, by rw [hq]; exact hk.fq⟩
  · refine x_aload_n hm rfl rfl ?_
    refine x_ldcI hm rfl (v := (-1000001 : Int32)) (by decide +kernel) ?_
    refine x_callV hm rfl rfl (e135 (by decide +kernel)) ?_
    refine x_iret hm rfl rfl (by first | rfl | exact bI_nar | decide) ?_
    have hq : qGone (M 67) nt np a1 = (-1000001, true) := by
      unfold qGone
      first
        | rw [if_pos (by assumption)]
    exact ⟨_, _, rfl, rfl, congrArg Prod.fst hq.symm, fndR_kq, by rw [hq]; exact fndR_fq⟩
end EG
