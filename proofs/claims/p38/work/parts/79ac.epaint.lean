section EP
variable {X : mSc} {Q : Option Value → mHp → Prop} {M : mM}
theorem m190b {r : Nat → Int32} {nt np s a : Nat} (hW : Wf M) (h67 : M 67 = r) (hnt : r 1 = nI nt) (hn8 : nt ≤ 8) (hnp : r 2 = nI np) (hp8 : np ≤ 8) (h6 : M 66 6 = -1) (hs : s < 256) (ha : a ≤ 1000) {lo : Int32} (hlo : lo = (sThick (pnt s r nt) nt - sThick (sDays (-1) nt np a (pnt s r nt)) nt)) : ∀ (n k : Nat) (M1 : mM), nt - k < n → k ≤ nt → (Wf M → Wf M1) → (∀ a, a ≠ 67 → a ≠ 69 → a ≠ 71 → a ≠ 72 → M1 a = M a) → (∀ j, (∀ u, k ≤ u → u < nt → ¬ j = 14 + 6 * u + 3) → M1 67 j = r j) → (∀ u, u < nt → M1 72 u = r (14 + 6 * u + 3)) → mEv X (QI (fun v M' => v = (sThick (pnt s r nt) nt - sThick (sDays (-1) nt np a (pnt s r nt)) nt) ∧ Kp M M')) 190 68 [some (.ref 66), some (.int (nI s)), some (.int (nI a)), some (.int lo), some (.int (nI k))] [] (con M1) := by
  have hm : mMet 190 = some _ := rfl
  intro n
  induction n with
  | zero =>
    intro k M1 hkn hkb hw hF hr hp
    omega
  | succ n ih =>
    intro k M1 hkn hkb hw hF hr hp
    have hn1 : M1 67 1 = nI nt := (hr 1 (fun u _ _ => by omega)).trans hnt
    refine x_iload hm rfl rfl ?_
    refine x_aload_n hm rfl rfl ?_
    refine x_getf hm rfl (gR rfl rfl) ?_
    refine x_iconst hm rfl (v := nI 1) (by decide) ?_
    refine x_iald hm rfl (lI rfl (by omega) (by decide)) ?_
    rw [hn1]
    refine x_icmp_ge hm rfl (t := 103) rfl (fun h1 => ?_) (fun h1 => ?_)
    · obtain rfl : k = nt := Nat.le_antisymm hkb ((jI_le (by omega) (by omega)).mp h1)
      refine x_iload_n hm rfl rfl ?_
      refine x_iret hm rfl rfl (by first | rfl | exact bI_nar | decide) ?_
      refine ⟨_, _, rfl, rfl, hlo, hw, fun a g1 g2 g3 => ?_⟩
      by_cases e : a = 67
      · subst e
        rw [h67]
        funext j
        exact hr j fun u g1 g2 => by omega
      · exact hF a e g1 g2 g3
    · have hk : k < nt := Nat.lt_of_not_le fun h => h1 (nI_le h (by omega))
      refine x_aload_n hm rfl rfl ?_
      refine x_getf hm rfl (gR rfl rfl) ?_
      refine x_iload hm rfl rfl ?_
      refine x_iconst hm rfl (v := nI 3) (by decide) ?_
      refine x_callS hm rfl rfl (t137) ?_
      refine x_aload_n hm rfl rfl ?_
      refine x_getf hm rfl (gR rfl rfl) ?_
      refine x_iload hm rfl rfl ?_
      refine x_iald hm rfl (lI rfl (by omega) (by decide)) ?_
      rw [hp k hk]
      refine x_iast hm rfl (sI rfl (by omega) (by decide)) ?_
      refine x_iinc hm rfl rfl (v := nI 1) (by decide) rfl ?_
      rw [jI_add]
      refine x_goto hm rfl (t := 68) rfl ?_
      refine ih _ _ (by omega) (by omega) (fun w => (Sf.thing (by omega) (by decide) (by decide) (by decide) : Sf M1 (mput M1 67 (14 + 6 * k + 3) (r (14 + 6 * k + 3)))).1 (hw w)) (fun a g1 g2 g3 g4 => (mpo g1).trans (hF a g1 g2 g3 g4)) (fun j hj => ?_) (fun u hu => by rw [mpo (by decide)]; exact hp u hu)
      rw [mput67]
      by_cases e : j = 14 + 6 * k + 3
      · subst e
        exact put1_s
      · rw [put1_o e]
        exact hr j fun u g1 g2 => by
          by_cases e2 : u = k
          · subst e2; exact e
          · exact hj u (by omega) g2
end EP
