section EP
variable {X : mSc} {Q : Option Value → mHp → Prop} {M : mM}
theorem m190a {r : Nat → Int32} {nt np s a : Nat} (hW : Wf M) (h67 : M 67 = r) (hnt : r 1 = nI nt) (hn8 : nt ≤ 8) (hnp : r 2 = nI np) (hp8 : np ≤ 8) (h6 : M 66 6 = -1) (hs : s < 256) (ha : a ≤ 1000) : ∀ (n k : Nat) (M1 : mM), nt - k < n → k ≤ nt → Sf M M1 → (∀ a, a ≠ 67 → a ≠ 72 → M1 a = M a) → M1 67 = pnt s r k → (∀ u, u < k → M1 72 u = r (14 + 6 * u + 3)) → mEv X (QI (fun v M' => v = (sThick (pnt s r nt) nt - sThick (sDays (-1) nt np a (pnt s r nt)) nt) ∧ Kp M M')) 190 2 [some (.ref 66), some (.int (nI s)), some (.int (nI a)), some (.int (nI k)), none] [] (con M1) := by
  have hm : mMet 190 = some _ := rfl
  intro n
  induction n with
  | zero =>
    intro k M1 hkn hkb hS hF hr hp
    omega
  | succ n ih =>
    intro k M1 hkn hkb hS hF hr hp
    have hn1 : M1 67 1 = nI nt := hS.2.1.trans ((congrFun h67 1).trans hnt)
    have hp1 : M1 67 2 = nI np := hS.2.2.1.trans ((congrFun h67 2).trans hnp)
    refine x_iload_n hm rfl rfl ?_
    refine x_aload_n hm rfl rfl ?_
    refine x_getf hm rfl (gR rfl rfl) ?_
    refine x_iconst hm rfl (v := nI 1) (by decide) ?_
    refine x_iald hm rfl (lI rfl (by omega) (by decide)) ?_
    rw [hn1]
    refine x_icmp_ge hm rfl (t := 59) rfl (fun h1 => ?_) (fun h1 => ?_)
    · obtain rfl : k = nt := Nat.le_antisymm hkb ((jI_le (by omega) (by omega)).mp h1)
      refine x_aload_n hm rfl rfl ?_
      refine x_iload_n hm rfl rfl ?_
      refine x_cVi hm rfl rfl (e180 (hS.1 hW) hn1 hn8 hp1 hp8 (by omega)) (fun v2 M2 r2 => ?_)
      have hlo := r2.1
      rw [hr, hF 66 (by decide) (by decide), h6] at hlo
      refine x_istore_n hm rfl rfl ?_
      refine x_iconst hm rfl (v := nI 0) (by decide) ?_
      refine x_istore hm rfl rfl ?_
      refine m190b hW h67 hnt hn8 hnp hp8 h6 hs ha hlo _ 0 _ (Nat.lt_succ_self _) (Nat.zero_le _) (fun w => r2.2.1 (hS.1 w)) (fun a g1 g2 g3 g4 => (r2.2.2 a g2 g3).trans (hF a g1 g4)) (fun j hj => ?_) (fun u hu => ?_)
      · rw [r2.2.2 67 (by decide) (by decide), hr]
        exact pnt_hi _ fun u hu => hj u (Nat.zero_le _) hu
      · rw [r2.2.2 72 (by decide) (by decide)]
        exact hp u hu
    · have hk : k < nt := Nat.lt_of_not_le fun h => h1 (nI_le h (by omega))
      have hold : M1 67 (14 + 6 * k + 3) = r (14 + 6 * k + 3) := by rw [hr]; exact pnt_hi k fun u hu => by omega
      refine x_aload_n hm rfl rfl ?_
      refine x_getf hm rfl (gR rfl rfl) ?_
      refine x_iload_n hm rfl rfl ?_
      refine x_aload_n hm rfl rfl ?_
      refine x_iload_n hm rfl rfl ?_
      refine x_iconst hm rfl (v := nI 3) (by decide) ?_
      refine x_callV hm rfl rfl (t143 (by omega) (by omega)) ?_
      rw [hold]
      refine x_iast hm rfl (sI rfl (by omega) (by decide)) ?_
      refine x_aload_n hm rfl rfl ?_
      refine x_getf hm rfl (gR rfl rfl) ?_
      refine x_iload_n hm rfl rfl ?_
      refine x_iconst hm rfl (v := nI 3) (by decide) ?_
      refine x_callS hm rfl rfl (t137) ?_
      refine x_iload_n hm rfl rfl ?_
      refine x_iload_n hm rfl rfl ?_
      refine x_callS hm rfl rfl (g191 (by omega) (by omega)) ?_
      refine x_if_eq hm rfl (t := 46) rfl (fun h3 => ?_) (fun h3 => ?_)
      · have hb : (if s.testBit k = true then nI 9 else r (14 + 6 * k + 3)) = r (14 + 6 * k + 3) := if_neg (bI_eq0.mp h3)
        refine x_aload_n hm rfl rfl ?_
        refine x_getf hm rfl (gR rfl rfl) ?_
        refine x_iload_n hm rfl rfl ?_
        refine x_iald hm rfl (lI rfl (by omega) (by decide)) ?_
        rw [mp0]
        refine x_iast hm rfl (sI rfl (by omega) (by decide)) ?_
        refine x_iinc hm rfl rfl (v := nI 1) (by decide) rfl ?_
        rw [jI_add]
        refine x_goto hm rfl (t := 2) rfl ?_
        refine ih _ _ (by omega) (by omega) ((hS.trans (Sf.put0 (kd72 _) (by decide) (by decide))).trans (Sf.thing (by omega) (by decide) (by decide) (by decide))) (fun a g1 g2 => (mpo g1).trans ((mpo g2).trans (hF a g1 g2))) (by rw [mput67, mpo (by decide), hr]; show _ = put1 (pnt s r k) _ _; rw [hb]) (fun u hu => ?_)
        rw [mpo (by decide)]
        by_cases e : u = k
        · subst e; exact mp0
        · rw [mpf e]; exact hp u (by omega)
      · have hb : (if s.testBit k = true then nI 9 else r (14 + 6 * k + 3)) = nI 9 := if_pos (bI_ne0 h3)
        refine x_bipush hm rfl (v := nI 9) (by decide) ?_
        refine x_goto hm rfl (t := 52) rfl ?_
        refine x_iast hm rfl (sI rfl (by omega) (by decide)) ?_
        refine x_iinc hm rfl rfl (v := nI 1) (by decide) rfl ?_
        rw [jI_add]
        refine x_goto hm rfl (t := 2) rfl ?_
        refine ih _ _ (by omega) (by omega) ((hS.trans (Sf.put0 (kd72 _) (by decide) (by decide))).trans (Sf.thing (by omega) (by decide) (by decide) (by decide))) (fun a g1 g2 => (mpo g1).trans ((mpo g2).trans (hF a g1 g2))) (by rw [mput67, mpo (by decide), hr]; show _ = put1 (pnt s r k) _ _; rw [hb]) (fun u hu => ?_)
        rw [mpo (by decide)]
        by_cases e : u = k
        · subst e; exact mp0
        · rw [mpf e]; exact hp u (by omega)
end EP
