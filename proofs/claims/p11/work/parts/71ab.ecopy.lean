section EX
variable {X : mSc} {Q : Option Value → mHp → Prop} {M : mM} {s : Nat} {w z y : Nat → Int32}
theorem m237b {s t i j n : Nat} (hs : s ≤ 3) (ht : t ≤ 3) (hi : i + n ≤ 40) (hj : j + n ≤ 40) : ∀ (q k : Nat) (M1 : mM), n - k < q → k ≤ n → (∀ x, x < n → M1 79 x = M 78 (40 * s + i + x)) → M1 78 = mvY (M 78) s i t j k → (∀ a, a ≠ 78 → a ≠ 79 → M1 a = M a) → mEv X (QI (fun v M' => v = nI n ∧ M' 78 = mvY (M 78) s i t j n ∧ ∀ a, a ≠ 78 → a ≠ 79 → M' a = M a)) 237 165 [some (.ref 66), some (.int (nI s)), some (.int (nI i)), some (.int (nI t)), some (.int (nI j)), some (.int (nI n)), some (.int (nI k))] [] (con M1) := by
  have hm : mMet 237 = some _ := rfl
  intro q
  induction q with
  | zero =>
    intro k M1 hkn hkb h79 h78 hfr
    omega
  | succ q ih =>
    intro k M1 hkn hkb h79 h78 hfr
    refine x_iload hm rfl rfl ?_
    refine x_iload hm rfl rfl ?_
    refine x_icmp_ge hm rfl (t := 200) rfl (fun h1 => ?_) (fun h1 => ?_)
    · obtain rfl : k = n := Nat.le_antisymm hkb ((jI_le (by omega) (by omega)).mp h1)
      refine x_iload hm rfl rfl ?_
      refine x_iret hm rfl rfl (by first | rfl | exact bI_nar | decide) ?_
      exact ⟨_, _, rfl, rfl, rfl, h78, hfr⟩
    · have hk : k < n := Nat.lt_of_not_le fun h => h1 (nI_le h (by omega))
      refine x_aload_n hm rfl rfl ?_
      refine x_getf hm rfl (gR rfl rfl) ?_
      refine x_bipush hm rfl (v := nI 40) (by decide) ?_
      refine x_iload_n hm rfl rfl ?_
      refine x_imul hm rfl ?_
      rw [jI_mul]
      refine x_iload hm rfl rfl ?_
      refine x_iadd hm rfl ?_
      rw [jI_add]
      refine x_iload hm rfl rfl ?_
      refine x_iadd hm rfl ?_
      rw [jI_add]
      refine x_aload_n hm rfl rfl ?_
      refine x_getf hm rfl (gR rfl rfl) ?_
      refine x_iload hm rfl rfl ?_
      refine x_iald hm rfl (lI rfl (by omega) (by decide)) ?_
      refine x_iast hm rfl (sI rfl (by omega) (by decide)) ?_
      refine x_iinc hm rfl rfl (v := nI 1) (by decide) rfl ?_
      rw [jI_add]
      refine x_goto hm rfl (t := 165) rfl ?_
      refine ih (k + 1) _ (by omega) (by omega) (fun x hx => (congrFun (mpo (by decide)) x).trans (h79 x hx)) ?_ (fun a h1 h2 => (mpo h1).trans (hfr a h1 h2))
      rw [mputf, h78]
      funext x
      unfold put1 mvY
      by_cases e : x = 40 * t + j + k
      · subst e
        rw [if_pos rfl, if_pos ⟨by omega, by omega⟩, h79 k hk]
        congr 1
        omega
      · rw [if_neg e]
        by_cases g : 40 * t + j ≤ x ∧ x < 40 * t + j + k
        · rw [if_pos g, if_pos ⟨by omega, by omega⟩]
        · rw [if_neg g, if_neg (by omega)]
theorem m237a {s t i j n : Nat} (hs : s ≤ 3) (ht : t ≤ 3) (hi : i + n ≤ 40) (hj : j + n ≤ 40) : ∀ (q k : Nat) (M1 : mM), n - k < q → k ≤ n → (∀ x, x < k → M1 79 x = M 78 (40 * s + i + x)) → (∀ a, a ≠ 79 → M1 a = M a) → mEv X (QI (fun v M' => v = nI n ∧ M' 78 = mvY (M 78) s i t j n ∧ ∀ a, a ≠ 78 → a ≠ 79 → M' a = M a)) 237 128 [some (.ref 66), some (.int (nI s)), some (.int (nI i)), some (.int (nI t)), some (.int (nI j)), some (.int (nI n)), some (.int (nI k))] [] (con M1) := by
  have hm : mMet 237 = some _ := rfl
  intro q
  induction q with
  | zero =>
    intro k M1 hkn hkb h79 hfr
    omega
  | succ q ih =>
    intro k M1 hkn hkb h79 hfr
    have h78 : M1 78 = M 78 := hfr 78 (by decide)
    refine x_iload hm rfl rfl ?_
    refine x_iload hm rfl rfl ?_
    refine x_icmp_ge hm rfl (t := 162) rfl (fun h1 => ?_) (fun h1 => ?_)
    · have hkn2 : k = n := Nat.le_antisymm hkb ((jI_le (by omega) (by omega)).mp h1)
      rw [hkn2] at h79
      refine x_iconst hm rfl (v := nI 0) (by decide) ?_
      refine x_istore hm rfl rfl ?_
      exact m237b hs ht hi hj _ 0 _ (Nat.lt_succ_self _) (Nat.zero_le _) h79 (by rw [h78]; funext x; unfold mvY; rw [if_neg (by omega)]) (fun a h1 h2 => hfr a h2)
    · have hk : k < n := Nat.lt_of_not_le fun h => h1 (nI_le h (by omega))
      refine x_aload_n hm rfl rfl ?_
      refine x_getf hm rfl (gR rfl rfl) ?_
      refine x_iload hm rfl rfl ?_
      refine x_aload_n hm rfl rfl ?_
      refine x_getf hm rfl (gR rfl rfl) ?_
      refine x_bipush hm rfl (v := nI 40) (by decide) ?_
      refine x_iload_n hm rfl rfl ?_
      refine x_imul hm rfl ?_
      rw [jI_mul]
      refine x_iload_n hm rfl rfl ?_
      refine x_iadd hm rfl ?_
      rw [jI_add]
      refine x_iload hm rfl rfl ?_
      refine x_iadd hm rfl ?_
      rw [jI_add]
      refine x_iald hm rfl (lI rfl (by omega) (by decide)) ?_
      rw [h78]
      refine x_iast hm rfl (sI rfl (by omega) (by decide)) ?_
      refine x_iinc hm rfl rfl (v := nI 1) (by decide) rfl ?_
      rw [jI_add]
      refine x_goto hm rfl (t := 128) rfl ?_
      refine ih (k + 1) _ (by omega) (by omega) (fun x hx => ?_) (fun a h1 => (mpo h1).trans (hfr a h1))
      by_cases e : x = k
      · subst e; exact mp0
      · rw [mpn (by omega)]; exact h79 x (by omega)
theorem g237 {a1 a2 a3 a4 a5 : Int32} (hz : ∀ u, u < 4 → ∃ k, k ≤ 40 ∧ M 77 u = nI k) : ∃ v M', mT X 237 [.ref 66, .int a1, .int a2, .int a3, .int a4, .int a5] (con M) (some (.int v)) (con M') ∧ Hq (fCopy (M 76) (M 77) (M 78) a1 a2 a3 a4 a5) v M M' := by
  refine ti_of (row := _) rfl (Nat.le_of_ble_eq_true rfl) ?_
  have hm : mMet 237 = some _ := rfl
  refine x_iload_n hm rfl rfl ?_
  refine x_callS hm rfl rfl (t210) ?_
  refine x_if_eq hm rfl (t := 14) rfl (fun h1 => ?_) (fun h1 => ?_)
  · refine x_aload_n hm rfl rfl ?_
    refine x_ldcI hm rfl (v := (-1000001 : Int32)) (by decide +kernel) ?_
    refine x_callV hm rfl rfl (e135 (by decide +kernel)) ?_
    refine x_iret hm rfl rfl (by first | rfl | exact bI_nar | decide) ?_
    first
      | (have hq : fCopy (M 76) (M 77) (M 78) a1 a2 a3 a4 a5 = (-1000001, M 76, M 77, M 78) := by
           unfold fCopy
           rw [if_pos h1]
         exact ⟨_, _, rfl, rfl, by rw [hq]; exact fnd_hq⟩)
      | (have hq : fCopy (M 76) (M 77) (M 78) (nI s) a2 a3 a4 a5 = (-1000001, M 76, M 77, M 78) := by
           unfold fCopy
           rw [if_neg h1, if_pos (by assumption)]
         exact ⟨_, _, rfl, rfl, by rw [hq]; exact fnd_hq⟩)
  · obtain ⟨s, hs, hs3⟩ := le_k (by omega) (bI_ne0 h1)
    subst hs3
    refine x_iload_n hm rfl rfl ?_
    refine x_callS hm rfl rfl (t210) ?_
    refine x_if_ne hm rfl (t := 21) rfl (fun h2 => ?_) (fun h2 => ?_)
    · have hh3 := h2
      obtain ⟨t, ht, ht3⟩ := le_k (by omega) (bI_ne0 hh3)
      subst ht3
      obtain ⟨ls, hls, hzs⟩ := hz s (by omega)
      obtain ⟨lu, hlu, hzu⟩ := hz t (by omega)
      refine x_aload_n hm rfl rfl ?_
      refine x_getf hm rfl (gR rfl rfl) ?_
      refine x_iload_n hm rfl rfl ?_
      refine x_iald hm rfl (lI rfl (by omega) (by decide)) ?_
      refine x_if_eq hm rfl (t := 39) rfl (fun h3 => ?_) (fun h3 => ?_)
      · have ws : M 76 s = 0 := h3
        refine x_aload_n hm rfl rfl ?_
        refine x_ldcI hm rfl (v := (-1000006 : Int32)) (by decide +kernel) ?_
        refine x_callV hm rfl rfl (e135 (by decide +kernel)) ?_
        refine x_iret hm rfl rfl (by first | rfl | exact bI_nar | decide) ?_
        first
          | (have hq : fCopy (M 76) (M 77) (M 78) (nI s) a2 (nI t) a4 a5 = (-1000006, M 76, M 77, M 78) := by
               unfold fCopy
               rw [if_neg h1, if_neg hh3, jI_nat (by omega), jI_nat (by omega), if_pos ws]
             exact ⟨_, _, rfl, rfl, by rw [hq]; exact fnd_hq⟩)
          | (have hq : fCopy (M 76) (M 77) (M 78) (nI s) a2 (nI t) a4 a5 = (-1000006, M 76, M 77, M 78) := by
               unfold fCopy
               rw [if_neg h1, if_neg hh3, jI_nat (by omega), jI_nat (by omega), if_neg ws, if_pos wu]
             exact ⟨_, _, rfl, rfl, by rw [hq]; exact fnd_hq⟩)
      · have ws : ¬ M 76 s = 0 := h3
        refine x_aload_n hm rfl rfl ?_
        refine x_getf hm rfl (gR rfl rfl) ?_
        refine x_iload_n hm rfl rfl ?_
        refine x_iald hm rfl (lI rfl (by omega) (by decide)) ?_
        refine x_if_ne hm rfl (t := 46) rfl (fun h4 => ?_) (fun h4 => ?_)
        · have wu : ¬ M 76 t = 0 := h4
          refine x_aload_n hm rfl rfl ?_
          refine x_getf hm rfl (gR rfl rfl) ?_
          refine x_iload_n hm rfl rfl ?_
          refine x_iald hm rfl (lI rfl (by omega) (by decide)) ?_
          refine x_aload_n hm rfl rfl ?_
          refine x_getf hm rfl (gR rfl rfl) ?_
          refine x_iload_n hm rfl rfl ?_
          refine x_iald hm rfl (lI rfl (by omega) (by decide)) ?_
          refine x_icmp_eq hm rfl (t := 69) rfl (fun h5 => ?_) (fun h5 => ?_)
          · have we : M 76 s = M 76 t := h5
            refine x_iload_n hm rfl rfl ?_
            refine x_if_lt hm rfl (t := 118) rfl (fun h6 => ?_) (fun h6 => ?_)
            · have hbad : ¬ (hsP (M 77 s) a2 a5 ∧ hsP (M 77 t) a4 a5) := fun q => Int32.not_le.mpr h6 q.1.1
              refine x_aload_n hm rfl rfl ?_
              refine x_ldcI hm rfl (v := (-1000001 : Int32)) (by decide +kernel) ?_
              refine x_callV hm rfl rfl (e135 (by decide +kernel)) ?_
              refine x_iret hm rfl rfl (by first | rfl | exact bI_nar | decide) ?_
              first
                | (have hq : fCopy (M 76) (M 77) (M 78) (nI s) a2 (nI t) a4 a5 = (-1000001, M 76, M 77, M 78) := by
                     unfold fCopy
                     rw [if_neg h1, if_neg hh3, jI_nat (by omega), jI_nat (by omega), if_neg ws, if_neg wu, if_neg (not_not_intro we), if_pos hbad]
                   exact ⟨_, _, rfl, rfl, by rw [hq]; exact fnd_hq⟩)
                | (have hq : fCopy (M 76) (M 77) (M 78) (nI s) (nI i) (nI t) (nI j) (nI n) = (-1000001, M 76, M 77, M 78) := by
                     unfold fCopy
                     rw [if_neg h1, if_neg hh3, jI_nat (by omega), jI_nat (by omega), if_neg ws, if_neg wu, if_neg (not_not_intro we), if_pos hbad]
                   exact ⟨_, _, rfl, rfl, by rw [hq]; exact fnd_hq⟩)
            · have pi := h6
              refine x_iload hm rfl rfl ?_
              refine x_if_lt hm rfl (t := 118) rfl (fun h7 => ?_) (fun h7 => ?_)
              · have hbad : ¬ (hsP (M 77 s) a2 a5 ∧ hsP (M 77 t) a4 a5) := fun q => Int32.not_le.mpr h7 q.2.1
                refine x_aload_n hm rfl rfl ?_
                refine x_ldcI hm rfl (v := (-1000001 : Int32)) (by decide +kernel) ?_
                refine x_callV hm rfl rfl (e135 (by decide +kernel)) ?_
                refine x_iret hm rfl rfl (by first | rfl | exact bI_nar | decide) ?_
                first
                  | (have hq : fCopy (M 76) (M 77) (M 78) (nI s) a2 (nI t) a4 a5 = (-1000001, M 76, M 77, M 78) := by
                       unfold fCopy
                       rw [if_neg h1, if_neg hh3, jI_nat (by omega), jI_nat (by omega), if_neg ws, if_neg wu, if_neg (not_not_intro we), if_pos hbad]
                     exact ⟨_, _, rfl, rfl, by rw [hq]; exact fnd_hq⟩)
                  | (have hq : fCopy (M 76) (M 77) (M 78) (nI s) (nI i) (nI t) (nI j) (nI n) = (-1000001, M 76, M 77, M 78) := by
                       unfold fCopy
                       rw [if_neg h1, if_neg hh3, jI_nat (by omega), jI_nat (by omega), if_neg ws, if_neg wu, if_neg (not_not_intro we), if_pos hbad]
                     exact ⟨_, _, rfl, rfl, by rw [hq]; exact fnd_hq⟩)
              · have pj := h7
                refine x_iload hm rfl rfl ?_
                refine x_if_lt hm rfl (t := 118) rfl (fun h8 => ?_) (fun h8 => ?_)
                · have hbad : ¬ (hsP (M 77 s) a2 a5 ∧ hsP (M 77 t) a4 a5) := fun q => Int32.not_le.mpr h8 q.1.2.1
                  refine x_aload_n hm rfl rfl ?_
                  refine x_ldcI hm rfl (v := (-1000001 : Int32)) (by decide +kernel) ?_
                  refine x_callV hm rfl rfl (e135 (by decide +kernel)) ?_
                  refine x_iret hm rfl rfl (by first | rfl | exact bI_nar | decide) ?_
                  first
                    | (have hq : fCopy (M 76) (M 77) (M 78) (nI s) a2 (nI t) a4 a5 = (-1000001, M 76, M 77, M 78) := by
                         unfold fCopy
                         rw [if_neg h1, if_neg hh3, jI_nat (by omega), jI_nat (by omega), if_neg ws, if_neg wu, if_neg (not_not_intro we), if_pos hbad]
                       exact ⟨_, _, rfl, rfl, by rw [hq]; exact fnd_hq⟩)
                    | (have hq : fCopy (M 76) (M 77) (M 78) (nI s) (nI i) (nI t) (nI j) (nI n) = (-1000001, M 76, M 77, M 78) := by
                         unfold fCopy
                         rw [if_neg h1, if_neg hh3, jI_nat (by omega), jI_nat (by omega), if_neg ws, if_neg wu, if_neg (not_not_intro we), if_pos hbad]
                       exact ⟨_, _, rfl, rfl, by rw [hq]; exact fnd_hq⟩)
                · obtain ⟨i, hi, hi3⟩ := jI_of pi
                  obtain ⟨j, hj, hj3⟩ := jI_of pj
                  obtain ⟨n, hn, hn3⟩ := jI_of h8
                  subst hi3
                  subst hj3
                  subst hn3
                  refine x_iload_n hm rfl rfl ?_
                  refine x_i2l hm rfl ?_
                  refine x_iload hm rfl rfl ?_
                  refine x_i2l hm rfl ?_
                  refine x_ladd hm rfl ?_
                  refine x_aload_n hm rfl rfl ?_
                  refine x_getf hm rfl (gR rfl rfl) ?_
                  refine x_iload_n hm rfl rfl ?_
                  refine x_iald hm rfl (lI rfl (by omega) (by decide)) ?_
                  rw [hzs]
                  refine x_i2l hm rfl ?_
                  refine x_lcmp hm rfl ?_
                  refine x_if_gt hm rfl (t := 118) rfl (fun h9 => ?_) (fun h9 => ?_)
                  · have hbad : ¬ (hsP (M 77 s) (nI i) (nI n) ∧ hsP (M 77 t) (nI j) (nI n)) := fun q => Int32.not_lt.mpr (cpr hi hn hls ((hsP_iff hi hn hls).mp (by rw [← hzs]; exact q.1))) h9
                    refine x_aload_n hm rfl rfl ?_
                    refine x_ldcI hm rfl (v := (-1000001 : Int32)) (by decide +kernel) ?_
                    refine x_callV hm rfl rfl (e135 (by decide +kernel)) ?_
                    refine x_iret hm rfl rfl (by first | rfl | exact bI_nar | decide) ?_
                    first
                      | (have hq : fCopy (M 76) (M 77) (M 78) (nI s) a2 (nI t) a4 a5 = (-1000001, M 76, M 77, M 78) := by
                           unfold fCopy
                           rw [if_neg h1, if_neg hh3, jI_nat (by omega), jI_nat (by omega), if_neg ws, if_neg wu, if_neg (not_not_intro we), if_pos hbad]
                         exact ⟨_, _, rfl, rfl, by rw [hq]; exact fnd_hq⟩)
                      | (have hq : fCopy (M 76) (M 77) (M 78) (nI s) (nI i) (nI t) (nI j) (nI n) = (-1000001, M 76, M 77, M 78) := by
                           unfold fCopy
                           rw [if_neg h1, if_neg hh3, jI_nat (by omega), jI_nat (by omega), if_neg ws, if_neg wu, if_neg (not_not_intro we), if_pos hbad]
                         exact ⟨_, _, rfl, rfl, by rw [hq]; exact fnd_hq⟩)
                  · have g1 := cpg hi hn hls h9
                    refine x_iload hm rfl rfl ?_
                    refine x_i2l hm rfl ?_
                    refine x_iload hm rfl rfl ?_
                    refine x_i2l hm rfl ?_
                    refine x_ladd hm rfl ?_
                    refine x_aload_n hm rfl rfl ?_
                    refine x_getf hm rfl (gR rfl rfl) ?_
                    refine x_iload_n hm rfl rfl ?_
                    refine x_iald hm rfl (lI rfl (by omega) (by decide)) ?_
                    rw [hzu]
                    refine x_i2l hm rfl ?_
                    refine x_lcmp hm rfl ?_
                    refine x_if_le hm rfl (t := 125) rfl (fun h10 => ?_) (fun h10 => ?_)
                    · have g2 := cpl hj hn hlu h10
                      refine x_iconst hm rfl (v := nI 0) (by decide) ?_
                      refine x_istore hm rfl rfl ?_
                      have hq : fCopy (M 76) (M 77) (M 78) (nI s) (nI i) (nI t) (nI j) (nI n) = (nI n, M 76, M 77, mvY (M 78) s i t j n) := by
                        unfold fCopy
                        rw [if_neg h1, if_neg hh3, jI_nat (by omega), jI_nat (by omega), if_neg ws, if_neg wu, if_neg (not_not_intro we), if_neg (not_not_intro (And.intro (by rw [hzs]; exact (hsP_iff hi hn hls).mpr g1) (by rw [hzu]; exact (hsP_iff hj hn hlu).mpr g2))), jI_nat (by omega), jI_nat (by omega), jI_nat (by omega)]
                      exact ev_mono (m237a (M := M) hs ht (by omega) (by omega) _ 0 _ (Nat.lt_succ_self _) (Nat.zero_le _) (fun x h => absurd h (Nat.not_lt_zero x)) (fun _ _ => rfl)) (fun r0 D ⟨v, M2, k1, k2, k3, k4, k5⟩ => ⟨v, M2, k1, k2, by rw [hq]; exact ⟨k3, k5 76 (by decide) (by decide), k5 77 (by decide) (by decide), k4, fun a _ _ _ h4 h5 => k5 a h4 h5⟩⟩)
                    · have hbad : ¬ (hsP (M 77 s) (nI i) (nI n) ∧ hsP (M 77 t) (nI j) (nI n)) := fun q => h10 (cpr hj hn hlu ((hsP_iff hj hn hlu).mp (by rw [← hzu]; exact q.2)))
                      refine x_aload_n hm rfl rfl ?_
                      refine x_ldcI hm rfl (v := (-1000001 : Int32)) (by decide +kernel) ?_
                      refine x_callV hm rfl rfl (e135 (by decide +kernel)) ?_
                      refine x_iret hm rfl rfl (by first | rfl | exact bI_nar | decide) ?_
                      first
                        | (have hq : fCopy (M 76) (M 77) (M 78) (nI s) a2 (nI t) a4 a5 = (-1000001, M 76, M 77, M 78) := by
                             unfold fCopy
                             rw [if_neg h1, if_neg hh3, jI_nat (by omega), jI_nat (by omega), if_neg ws, if_neg wu, if_neg (not_not_intro we), if_pos hbad]
                           exact ⟨_, _, rfl, rfl, by rw [hq]; exact fnd_hq⟩)
                        | (have hq : fCopy (M 76) (M 77) (M 78) (nI s) (nI i) (nI t) (nI j) (nI n) = (-1000001, M 76, M 77, M 78) := by
                             unfold fCopy
                             rw [if_neg h1, if_neg hh3, jI_nat (by omega), jI_nat (by omega), if_neg ws, if_neg wu, if_neg (not_not_intro we), if_pos hbad]
                           exact ⟨_, _, rfl, rfl, by rw [hq]; exact fnd_hq⟩)
          · have we : ¬ M 76 s = M 76 t := h5
            refine x_aload_n hm rfl rfl ?_
            refine x_ldc_wI hm rfl (v := (-1000003 : Int32)) (by decide) ?_
            refine x_callV hm rfl rfl (e135 (by decide +kernel)) ?_
            refine x_iret hm rfl rfl (by first | rfl | exact bI_nar | decide) ?_
            have hq : fCopy (M 76) (M 77) (M 78) (nI s) a2 (nI t) a4 a5 = (-1000003, M 76, M 77, M 78) := by
              unfold fCopy
              rw [if_neg h1, if_neg hh3, jI_nat (by omega), jI_nat (by omega), if_neg ws, if_neg wu, if_pos we]
            exact ⟨_, _, rfl, rfl, by rw [hq]; exact fnd_hq⟩
        · have wu : M 76 t = 0 := h4
          refine x_aload_n hm rfl rfl ?_
          refine x_ldcI hm rfl (v := (-1000006 : Int32)) (by decide +kernel) ?_
          refine x_callV hm rfl rfl (e135 (by decide +kernel)) ?_
          refine x_iret hm rfl rfl (by first | rfl | exact bI_nar | decide) ?_
          first
            | (have hq : fCopy (M 76) (M 77) (M 78) (nI s) a2 (nI t) a4 a5 = (-1000006, M 76, M 77, M 78) := by
                 unfold fCopy
                 rw [if_neg h1, if_neg hh3, jI_nat (by omega), jI_nat (by omega), if_pos ws]
               exact ⟨_, _, rfl, rfl, by rw [hq]; exact fnd_hq⟩)
            | (have hq : fCopy (M 76) (M 77) (M 78) (nI s) a2 (nI t) a4 a5 = (-1000006, M 76, M 77, M 78) := by
                 unfold fCopy
                 rw [if_neg h1, if_neg hh3, jI_nat (by omega), jI_nat (by omega), if_neg ws, if_pos wu]
               exact ⟨_, _, rfl, rfl, by rw [hq]; exact fnd_hq⟩)
    · refine x_aload_n hm rfl rfl ?_
      refine x_ldcI hm rfl (v := (-1000001 : Int32)) (by decide +kernel) ?_
      refine x_callV hm rfl rfl (e135 (by decide +kernel)) ?_
      refine x_iret hm rfl rfl (by first | rfl | exact bI_nar | decide) ?_
      first
        | (have hq : fCopy (M 76) (M 77) (M 78) a1 a2 a3 a4 a5 = (-1000001, M 76, M 77, M 78) := by
             unfold fCopy
             rw [if_pos h1]
           exact ⟨_, _, rfl, rfl, by rw [hq]; exact fnd_hq⟩)
        | (have hq : fCopy (M 76) (M 77) (M 78) (nI s) a2 a3 a4 a5 = (-1000001, M 76, M 77, M 78) := by
             unfold fCopy
             rw [if_neg h1, if_pos (by assumption)]
           exact ⟨_, _, rfl, rfl, by rw [hq]; exact fnd_hq⟩)
theorem Wok.copy {a1 a2 a3 a4 a5 : Int32} (h : Wok w) : Wok (fCopy w z y a1 a2 a3 a4 a5).2.1 := by
  unfold fCopy
  repeat' split
  all_goals exact h
theorem j_copy {a1 a2 a3 a4 a5 : Int32} (hJ : J M) : JJ X 120 237 [.ref 0, .int a1, .int a2, .int a3, .int a4, .int a5] [.ref 66, .int a1, .int a2, .int a3, .int a4, .int a5] M Eq := by
  refine J.shj hJ (t120 hJ.1.1) (g120 hJ.rs.1 (fun u _ => hJ.1.1.size u)) (fun M1 i => t237 i) (fun M1 i k => ?_) hJ.rs.2.copy
  rw [← k 76 (by decide), ← k 77 (by decide), ← k 78 (by decide)]
  exact g237 (fun u _ => i.1.size u)
end EX
