section
/-! ===== what hangs and falls; forge ===== -/
theorem bitR : ∀ k, k < 256 → ∀ m, m < 8 → ((nI k >>> (nI m &&& 31)) &&& nI 1 = nI 1 ↔ k.testBit m = true) := by decide +kernel
theorem bitO : ∀ k, k < 256 → ∀ m, m < 8 → nI k ||| (nI 1 <<< (nI m &&& 31)) = nI (k ||| 2 ^ m) := by decide +kernel
theorem bit0 : ∀ k, k < 256 → nI k ||| nI 0 = nI k := by decide +kernel
def c8 (s : Nat) : Nat := s % 2 + s / 2 % 2 + s / 4 % 2 + s / 8 % 2 + s / 16 % 2 + s / 32 % 2 + s / 64 % 2 + s / 128 % 2
theorem c8_le {s : Nat} : c8 s ≤ 8 := by
  unfold c8
  omega
theorem c8_or : ∀ k, k < 256 → ∀ m, m < 8 → k.testBit m = false → c8 (k ||| 2 ^ m) = c8 k + 1 := by decide +kernel
theorem c8_one : ∀ m, m < 8 → c8 (2 ^ m) = 1 := by decide +kernel
theorem or_lt {k m : Nat} (h : k < 256) (hm : m < 8) : k ||| 2 ^ m < 256 := Nat.or_lt_two_pow (n := 8) h (Nat.pow_lt_pow_right (by decide) hm)
theorem tb_or {k m u : Nat} : (k ||| 2 ^ m).testBit u = true ↔ k.testBit u = true ∨ m = u := by
  rw [Nat.testBit_or, Nat.testBit_two_pow, Bool.or_eq_true, decide_eq_true_iff]
theorem tb_lt {k m : Nat} (h : k < 256) (hm : k.testBit m = true) : m < 8 := by
  refine Nat.lt_of_not_le fun g => ?_
  rw [Nat.testBit_lt_two_pow (Nat.lt_of_lt_of_le h (show 256 ≤ 2 ^ m from Nat.pow_le_pow_right (n := 2) (i := 8) (by decide) g))] at hm
  exact Bool.false_ne_true hm
/-- those of the first n of which P holds, as a set -/
noncomputable def wS (P : Nat → Prop) : Nat → Nat
  | 0 => 0
  | n + 1 => wS P n ||| @ite _ (P n) (Classical.propDecidable _) (2 ^ n) 0
section WS
variable {P : Nat → Prop} {n : Nat}
theorem wS_t (h : P n) : wS P (n + 1) = wS P n ||| 2 ^ n := by
  show wS P n ||| @ite _ (P n) (Classical.propDecidable _) (2 ^ n) 0 = _
  rw [if_pos h]
theorem wS_f (h : ¬ P n) : wS P (n + 1) = wS P n := by
  show wS P n ||| @ite _ (P n) (Classical.propDecidable _) (2 ^ n) 0 = _
  rw [if_neg h, Nat.or_zero]
theorem wS_tb {u : Nat} : (wS P n).testBit u = true ↔ u < n ∧ P u := by
  induction n with
  | zero =>
    show (0 : Nat).testBit u = true ↔ _
    rw [Nat.zero_testBit]
    exact ⟨fun h => absurd h Bool.false_ne_true, fun h => absurd h.1 (Nat.not_lt_zero _)⟩
  | succ n ih =>
    by_cases h : P n
    · rw [wS_t h, tb_or, ih]
      refine ⟨fun g => g.elim (fun g => ⟨by omega, g.2⟩) (fun g => ⟨by omega, g ▸ h⟩), fun g => ?_⟩
      by_cases e : n = u
      · exact Or.inr e
      · exact Or.inl ⟨by omega, g.2⟩
    · rw [wS_f h, ih]
      refine ⟨fun g => ⟨by omega, g.2⟩, fun g => ⟨?_, g.2⟩⟩
      have : ¬ u = n := fun e => h (e ▸ g.2)
      omega
theorem wS_lt (h : n ≤ 8) : wS P n < 256 := by
  induction n with
  | zero => exact (by decide : 0 < 256)
  | succ n ih =>
    by_cases g : P n
    · rw [wS_t g]
      exact or_lt (ih (by omega)) (by omega)
    · rw [wS_f g]
      exact ih (by omega)
theorem wS_eq {s : Nat} (h : ∀ u, s.testBit u = true ↔ u < n ∧ P u) : s = wS P n := by
  refine Nat.eq_of_testBit_eq fun u => ?_
  have e : s.testBit u = true ↔ (wS P n).testBit u = true := (h u).trans wS_tb.symm
  rcases hs : s.testBit u with _ | _
  · rcases hw : (wS P n).testBit u with _ | _
    · rfl
    · rw [e.mpr hw] at hs
      exact absurd hs.symm Bool.false_ne_true
  · exact (e.mp hs).symm
end WS
section RC
variable {r : Nat → Int32} {o u w : Nat}
theorem Rch.self : Rch r o o := ⟨1, Or.inl rfl⟩
theorem Rch.step (hw : w ≤ 7) (e : r (14 + 6 * u + 5) = nI w) (h : Rch r o w) : Rch r o u := by
  obtain ⟨f, hf⟩ := h
  exact ⟨f + 1, Or.inr ⟨w, hw, e, hf⟩⟩
theorem Rch.ind {P : Nat → Prop} (h0 : P o) (hs : ∀ u w, w ≤ 7 → r (14 + 6 * u + 5) = nI w → P w → P u) (h : Rch r o u) : P u := by
  obtain ⟨f, hf⟩ := h
  induction f generalizing u with
  | zero => exact absurd hf id
  | succ f ih =>
    rcases hf with e | ⟨w, hw, e, g⟩
    · rw [e]; exact h0
    · exact hs u w hw e (ih g)
theorem Rch.no (h : ¬ u = o) (g : ∀ w, w ≤ 7 → r (14 + 6 * u + 5) = nI w → ¬ Rch r o w) : ¬ Rch r o u := by
  rintro ⟨f, hf⟩
  cases f with
  | zero => exact hf
  | succ f =>
    rcases hf with e | ⟨w, hw, e, hf⟩
    · exact h e
    · exact g w hw e ⟨f, hf⟩
end RC
section FO
variable {X : mSc} {Q : Option Value → mHp → Prop} {M : mM}
theorem m154 {t0 o : Nat} (ho : o < 8) {nt : Nat} {rk : Nat → Nat} (hW : Wf M) (h8 : nt ≤ 8) (hrk : ∀ t u, t < nt → u ≤ 7 → M 67 (14 + 6 * t + 5) = nI u → u < nt ∧ rk u < rk t) : ∀ (n : Nat) (x : Int32), (x < 0 ∨ ∃ k, k < nt ∧ x = nI k ∧ rk k + 1 < n) → 0 < n → mEv X (QE M (fun v => (x < 0 → v = nI 0) ∧ ∀ k, k < nt → x = nI k → ((Rch (M 67) o k ∧ v = nI 1) ∨ (¬ Rch (M 67) o k ∧ v = nI 0)))) 154 2 [some (.ref 66), some (.int (nI t0)), some (.int (nI o)), some (.int x)] [] (con M) := by
  have hm : mMet 154 = some _ := rfl
  intro n
  induction n with
  | zero =>
    intro x hx hn
    exact absurd hn (by omega)
  | succ n ih =>
    intro x hx hn
    refine x_iload_n hm rfl rfl ?_
    refine x_if_lt hm rfl (t := 21) rfl (fun h1 => ?_) (fun h1 => ?_)
    · have hneg := h1
      refine x_iload_n hm rfl rfl ?_
      refine x_if_lt hm rfl (t := 29) rfl (fun h2 => ?_) (fun h2 => ?_)
      · refine x_iconst hm rfl (v := nI 0) (by decide) ?_
        refine x_iret hm rfl rfl (by first | rfl | exact bI_nar | decide) ?_
        first
          | exact absurd hneg (by assumption)
          | exact absurd (by assumption) hpos
          | exact ⟨_, rfl, rfl, fun _ => rfl, (fun k hk he => by subst he; exact absurd (by assumption : nI k < 0) (jI_nn (by omega)))⟩
          | exact ⟨_, rfl, rfl, fun h => absurd h hpos, fun k hk he => Or.inl ⟨by rw [jI_inj (by omega) (by omega) (he.symm.trans heq)]; exact Rch.self, rfl⟩⟩
      · refine x_iconst hm rfl (v := nI 1) (by decide) ?_
        refine x_goto hm rfl (t := 30) rfl ?_
        refine x_iret hm rfl rfl (by first | rfl | exact bI_nar | decide) ?_
        first
          | exact absurd hneg (by assumption)
          | exact absurd (by assumption) hpos
          | exact ⟨_, rfl, rfl, fun _ => rfl, (fun k hk he => by subst he; exact absurd (by assumption : nI k < 0) (jI_nn (by omega)))⟩
          | exact ⟨_, rfl, rfl, fun h => absurd h hpos, fun k hk he => Or.inl ⟨by rw [jI_inj (by omega) (by omega) (he.symm.trans heq)]; exact Rch.self, rfl⟩⟩
    · have hpos := h1
      refine x_iload_n hm rfl rfl ?_
      refine x_iload_n hm rfl rfl ?_
      refine x_icmp_eq hm rfl (t := 21) rfl (fun h3 => ?_) (fun h3 => ?_)
      · have heq := h3
        refine x_iload_n hm rfl rfl ?_
        refine x_if_lt hm rfl (t := 29) rfl (fun h4 => ?_) (fun h4 => ?_)
        · refine x_iconst hm rfl (v := nI 0) (by decide) ?_
          refine x_iret hm rfl rfl (by first | rfl | exact bI_nar | decide) ?_
          first
            | exact absurd hneg (by assumption)
            | exact absurd (by assumption) hpos
            | exact ⟨_, rfl, rfl, fun _ => rfl, (fun k hk he => by subst he; exact absurd (by assumption : nI k < 0) (jI_nn (by omega)))⟩
            | exact ⟨_, rfl, rfl, fun h => absurd h hpos, fun k hk he => Or.inl ⟨by rw [jI_inj (by omega) (by omega) (he.symm.trans heq)]; exact Rch.self, rfl⟩⟩
        · refine x_iconst hm rfl (v := nI 1) (by decide) ?_
          refine x_goto hm rfl (t := 30) rfl ?_
          refine x_iret hm rfl rfl (by first | rfl | exact bI_nar | decide) ?_
          first
            | exact absurd hneg (by assumption)
            | exact absurd (by assumption) hpos
            | exact ⟨_, rfl, rfl, fun _ => rfl, (fun k hk he => by subst he; exact absurd (by assumption : nI k < 0) (jI_nn (by omega)))⟩
            | exact ⟨_, rfl, rfl, fun h => absurd h hpos, fun k hk he => Or.inl ⟨by rw [jI_inj (by omega) (by omega) (he.symm.trans heq)]; exact Rch.self, rfl⟩⟩
      · obtain ⟨k, hk, rfl, hm2⟩ := hx.resolve_left hpos
        have hno := h3
        refine x_aload_n hm rfl rfl ?_
        refine x_iload_n hm rfl rfl ?_
        refine x_iconst hm rfl (v := nI 5) (by decide) ?_
        refine x_callV hm rfl rfl (t143 (by omega) (by omega)) ?_
        refine x_istore_n hm rfl rfl ?_
        refine x_goto hm rfl (t := 2) rfl ?_
        have hx2 := hang_next hW h8 hrk hk hm2
        refine ev_mono (ih _ hx2 (by omega)) ?_
        rintro r D ⟨v, e1, e2, e3, e4⟩
        refine ⟨v, e1, e2, fun h => absurd h hpos, fun j hj he => ?_⟩
        obtain rfl := jI_inj (by omega) (by omega) he
        have hne : ¬ k = o := fun e => hno (by rw [e])
        rcases hx2 with g | ⟨w, hw, g, -⟩
        · exact Or.inr ⟨Rch.no hne fun w hw e _ => by rw [e] at g; exact absurd g (jI_nn (by omega)), e3 g⟩
        · rcases e4 w hw g with ⟨a, b⟩ | ⟨a, b⟩
          · exact Or.inl ⟨Rch.step (by omega) g a, b⟩
          · exact Or.inr ⟨Rch.no hne fun w2 hw2 e => by rw [jI_inj (by omega) (by omega) (e.symm.trans g)]; exact a, b⟩
theorem e154 {t o nt : Nat} (hI : Inv M) (hnt : M 67 1 = nI nt) (h8 : nt ≤ 8) (ht : t < nt) (ho : o < 8) : ∃ v, mT X 154 [.ref 66, .int (nI t), .int (nI o)] (con M) (some (.int v)) (con M) ∧ ((Rch (M 67) o t ∧ v = nI 1) ∨ (¬ Rch (M 67) o t ∧ v = nI 0)) := by
  refine te_of (row := _) rfl (Nat.le_of_ble_eq_true rfl) ?_
  have hm : mMet 154 = some _ := rfl
  obtain ⟨rk, hrk⟩ := hI.2.1 nt h8 hnt
  refine x_iload_n hm rfl rfl ?_
  refine x_istore_n hm rfl rfl ?_
  refine ev_mono (m154 ho hI.1 h8 hrk (rk t + 2) _ (Or.inr ⟨t, ht, rfl, by omega⟩) (by omega)) ?_
  rintro r D ⟨v, e1, e2, e3, e4⟩
  exact ⟨v, e1, e2, e4 t ht rfl⟩
theorem m194 {t : Nat} (hI : Inv M) (ht : t < 8) {nb : Nat} (hnb : M 67 1 = nI nb) (h8 : nb ≤ 8) : ∀ (n k : Nat), nb - k < n → k ≤ nb → mEv X (fun z D => z = some (.int (nI (wS (Rch (M 67) t) nb))) ∧ D = con M) 194 4 [some (.ref 66), some (.int (nI t)), some (.int (nI (wS (Rch (M 67) t) k))), some (.int (nI k))] [] (con M) := by
  have hm : mMet 194 = some _ := rfl
  intro n
  induction n with
  | zero =>
    intro k hkn hkb
    omega
  | succ n ih =>
    intro k hkn hkb
    refine x_iload_n hm rfl rfl ?_
    refine x_aload_n hm rfl rfl ?_
    refine x_getf hm rfl (gR rfl rfl) ?_
    refine x_iconst hm rfl (v := nI 1) (by decide) ?_
    refine x_iald hm rfl (lI rfl (by omega) (by decide)) ?_
    rw [hnb]
    refine x_icmp_ge hm rfl (t := 39) rfl (fun h1 => ?_) (fun h1 => ?_)
    · obtain rfl : k = nb := Nat.le_antisymm hkb ((jI_le (by omega) (by omega)).mp h1)
      refine x_iload_n hm rfl rfl ?_
      refine x_iret hm rfl rfl (by first | rfl | exact bI_nar | decide) ?_
      exact ⟨rfl, rfl⟩
    · have hk : k < nb := Nat.lt_of_not_le fun h => h1 (nI_le h (by omega))
      have hw8 : wS (Rch (M 67) t) k < 256 := wS_lt (by omega)
      refine x_iload_n hm rfl rfl ?_
      refine x_aload_n hm rfl rfl ?_
      refine x_iload_n hm rfl rfl ?_
      refine x_iload_n hm rfl rfl ?_
      refine x_cVe hm rfl rfl (e154 hI hnb h8 hk (by omega)) (fun v2 r2 => ?_)
      refine x_if_eq hm rfl (t := 30) rfl (fun h3 => ?_) (fun h3 => ?_)
      · have hq : nI (wS (Rch (M 67) t) k) ||| nI 0 = nI (wS (Rch (M 67) t) (k + 1)) := by
          rcases r2 with ⟨-, g⟩ | ⟨g, -⟩
          · exact absurd (g.symm.trans h3) (by decide)
          · rw [wS_f g]; exact bit0 _ hw8
        refine x_iconst hm rfl (v := nI 0) (by decide) ?_
        refine x_ior hm rfl ?_
        rw [hq]
        refine x_istore_n hm rfl rfl ?_
        refine x_iinc hm rfl rfl (v := nI 1) (by decide) rfl ?_
        rw [jI_add]
        refine x_goto hm rfl (t := 4) rfl ?_
        exact ih _ (by omega) (by omega)
      · have hq : nI (wS (Rch (M 67) t) k) ||| (nI 1 <<< (nI k &&& 31)) = nI (wS (Rch (M 67) t) (k + 1)) := by
          rcases r2 with ⟨g, -⟩ | ⟨-, g⟩
          · rw [wS_t g]; exact bitO _ hw8 _ (by omega)
          · exact absurd g h3
        refine x_iconst hm rfl (v := nI 1) (by decide) ?_
        refine x_iload_n hm rfl rfl ?_
        refine x_ishl hm rfl ?_
        refine x_goto hm rfl (t := 31) rfl ?_
        refine x_ior hm rfl ?_
        rw [hq]
        refine x_istore_n hm rfl rfl ?_
        refine x_iinc hm rfl rfl (v := nI 1) (by decide) rfl ?_
        rw [jI_add]
        refine x_goto hm rfl (t := 4) rfl ?_
        exact ih _ (by omega) (by omega)
theorem e194 {t : Nat} (hI : Inv M) (ht : t < 8) {nb : Nat} (hnb : M 67 1 = nI nb) (h8 : nb ≤ 8) : mT X 194 [.ref 66, .int (nI t)] (con M) (some (.int (nI (wS (Rch (M 67) t) nb)))) (con M) := by
  refine mT.of (row := _) rfl (Nat.le_of_ble_eq_true rfl) ?_
  have hm : mMet 194 = some _ := rfl
  refine x_iconst hm rfl (v := nI 0) (by decide) ?_
  refine x_istore_n hm rfl rfl ?_
  refine x_iconst hm rfl (v := nI 0) (by decide) ?_
  refine x_istore_n hm rfl rfl ?_
  exact m194 hI ht hnb h8 _ 0 (Nat.lt_succ_self _) (Nat.zero_le _)
theorem g21 {s m : Nat} (hs : s < 256) (hm8 : m < 8) : mT X 21 [.int (nI s), .int (nI m)] (con M) (some (.int (bI (s.testBit m = true)))) (con M) := by
  refine mT.of (row := _) rfl (Nat.le_of_ble_eq_true rfl) ?_
  have hm : mMet 21 = some _ := rfl
  refine x_iload_n hm rfl rfl ?_
  refine x_iload_n hm rfl rfl ?_
  refine x_ishr hm rfl ?_
  refine x_iconst hm rfl (v := nI 1) (by decide) ?_
  refine x_iand hm rfl ?_
  refine x_iconst hm rfl (v := nI 1) (by decide) ?_
  refine x_icmp_ne hm rfl (t := 13) rfl (fun h1 => ?_) (fun h1 => ?_)
  · refine x_iconst hm rfl (v := nI 0) (by decide) ?_
    refine x_iret hm rfl rfl (by first | rfl | exact bI_nar | decide) ?_
    first
      | exact qt (congrArg Value.int (bI_t ((bitR s hs m hm8).mp h1)))
      | exact qt (congrArg Value.int (bI_f fun q => h1 ((bitR s hs m hm8).mpr q)))
  · refine x_iconst hm rfl (v := nI 1) (by decide) ?_
    refine x_goto hm rfl (t := 14) rfl ?_
    refine x_iret hm rfl rfl (by first | rfl | exact bI_nar | decide) ?_
    first
      | exact qt (congrArg Value.int (bI_t ((bitR s hs m hm8).mp h1)))
      | exact qt (congrArg Value.int (bI_f fun q => h1 ((bitR s hs m hm8).mpr q)))
/-- what holds of a set of falling things while it grows -/
def Fs (r : Nat → Int32) (nt t s : Nat) : Prop := s < 256 ∧ s.testBit t = true ∧ ∀ m, s.testBit m = true → m < nt ∧ Rch r t m
def Fcl (r : Nat → Int32) (nt k s : Nat) : Prop := ∀ u, u < k → ∀ w, w < nt → r (14 + 6 * u + 5) = nI w → s.testBit w = true → s.testBit u = true
section FS
variable {r : Nat → Int32} {nt np t s k : Nat}
theorem Fs.one (ht : t < nt) (h8 : nt ≤ 8) : Fs r nt t (2 ^ t) := by
  refine ⟨Nat.pow_lt_pow_right (n := 8) (by decide) (by omega), by rw [Nat.testBit_two_pow_self], fun m hm => ?_⟩
  rw [Nat.testBit_two_pow, decide_eq_true_iff] at hm
  subst hm
  exact ⟨ht, Rch.self⟩
theorem Fs.add {w : Nat} (h : Fs r nt t s) (h8 : nt ≤ 8) (hk : k < nt) (hw : w < nt) (e : r (14 + 6 * k + 5) = nI w) (g : s.testBit w = true) : Fs r nt t (s ||| 2 ^ k) := by
  obtain ⟨h1, h2, h3⟩ := h
  refine ⟨or_lt h1 (by omega), tb_or.mpr (Or.inl h2), fun m hm => ?_⟩
  rcases tb_or.mp hm with a | rfl
  · exact h3 m a
  · exact ⟨hk, Rch.step (by omega) e (h3 w g).2⟩
theorem Fs.done (h : Fs r nt t s) (hV : Vs nt np r) (g : Fcl r nt nt s) : s = wS (Rch r t) nt := by
  obtain ⟨h1, h2, h3⟩ := h
  refine wS_eq fun u => ⟨h3 u, fun hu => ?_⟩
  obtain ⟨hu, hR⟩ := hu
  refine (Rch.ind (P := fun u => u < nt → s.testBit u = true) (fun _ => h2) (fun u w hw e ih hu => ?_) hR) hu
  rcases hV.on hu with e2 | ⟨w2, hw2, e2⟩
  · rw [e] at e2
    exact absurd (show (0 : Int32) ≤ nI w from Int32.not_lt.mp (jI_nn (by omega))) (by rw [e2]; decide)
  · have e3 : w2 = w := jI_inj (by have := hV.1; omega) (by omega) (e2.symm.trans e)
    subst e3
    exact g u hu w2 hw2 e (ih hw2)
theorem Fcl.none (h : Fcl r nt k s) (e : ∀ w, w < nt → ¬ (r (14 + 6 * k + 5) = nI w ∧ s.testBit w = true) ∨ s.testBit k = true) : Fcl r nt (k + 1) s := by
  intro u hu w hw e1 e2
  by_cases hk : u = k
  · subst hk
    exact (e w hw).resolve_left fun z => z ⟨e1, e2⟩
  · exact h u (by omega) w hw e1 e2
end FS
theorem m20b {b nt np t : Nat} {r : Nat → Int32} (hb : b = 1 ∨ b = 18 ∨ b = 35) (hR : Rel b nt np M r) (hV : Vs nt np r) (ht : t < nt) {i : Nat} (hi : i < 8) (hout : ∀ (s : Nat) (g : Int32) (x5 x6 : Option Value), Fs r nt t s → ((g = nI 1 ∧ i + 2 ≤ c8 s) ∨ (g = nI 0 ∧ Fcl r nt nt s)) → mEv X (fun z D => z = some (.int (nI (wS (Rch r t) nt))) ∧ D = con M) 20 9 [some (.ref b), some (.int (nI t)), some (.int (nI s)), some (.int g), some (.int (nI (i + 1))), x5, x6] [] (con M)) : ∀ (n k : Nat) (s : Nat) (g : Int32) (x6 : Option Value), nt - k < n → k ≤ nt → Fs r nt t s → ((g = nI 1 ∧ i + 2 ≤ c8 s) ∨ (g = nI 0 ∧ i + 1 ≤ c8 s ∧ Fcl r nt k s)) → mEv X (fun z D => z = some (.int (nI (wS (Rch r t) nt))) ∧ D = con M) 20 25 [some (.ref b), some (.int (nI t)), some (.int (nI s)), some (.int g), some (.int (nI i)), some (.int (nI k)), x6] [] (con M) := by
  have hm : mMet 20 = some _ := rfl
  intro n
  induction n with
  | zero =>
    intro k s g x6 hkn hkb hF hS
    omega
  | succ n ih =>
    intro k s g x6 hkn hkb hF hS
    have hn8 := hV.1
    have hs8 := hF.1
    refine x_iload hm rfl rfl ?_
    refine x_aload_n hm rfl rfl ?_
    refine x_getf hm rfl (gI (tO hb) rfl) ?_
    rw [hR.1]
    refine x_icmp_ge hm rfl (t := 84) rfl (fun h1 => ?_) (fun h1 => ?_)
    · obtain rfl : k = nt := Nat.le_antisymm hkb ((jI_le (by omega) (by omega)).mp h1)
      refine x_iinc hm rfl rfl (v := nI 1) (by decide) rfl ?_
      rw [jI_add]
      refine x_goto hm rfl (t := 9) rfl ?_
      exact hout _ _ _ _ hF (hS.imp id fun q => ⟨q.1, q.2.2⟩)
    · have hk : k < nt := Nat.lt_of_not_le fun h => h1 (nI_le h (by omega))
      refine x_aload_n hm rfl rfl ?_
      refine x_getf hm rfl (gR (tO hb) rfl) ?_
      refine x_iconst hm rfl (v := nI 5) (by decide) ?_
      refine x_aald hm rfl (by first | exact lQ 3 (Or.inr (Or.inl rfl)) (tI hb) rfl (by omega) (by decide) | exact lQ 3 (Or.inr (Or.inl rfl)) (tF hb) rfl (by omega) (by decide) | exact lQ 3 (Or.inr (Or.inl rfl)) (tI hb) (tIk (by omega)) (by omega) (by decide) | exact lQ 3 (Or.inr (Or.inl rfl)) (tF hb) (tFk (by omega)) (by omega) (by decide)) ?_
      refine x_iload hm rfl rfl ?_
      refine x_iald hm rfl (by first | exact lI (tRow hb (by omega)) (by omega) (by decide) | exact lI (tRowI hb (by omega)) (by omega) (by decide) | exact lI (tRowF hb (by omega)) (by omega) (by decide) | exact lI (tSp hb) (by omega) (by decide) | exact lI rfl (by omega) (by decide)) ?_
      rw [hR.on hk]
      refine x_istore hm rfl rfl ?_
      refine x_iload hm rfl rfl ?_
      refine x_iconst hm rfl (v := (-1 : Int32)) (by decide) ?_
      refine x_icmp_eq hm rfl (t := 78) rfl (fun h2 => ?_) (fun h2 => ?_)
      · have hw0 := h2
        have hcl : ∀ w1, w1 < nt → ¬ (r (14 + 6 * k + 5) = nI w1 ∧ s.testBit w1 = true) ∨ s.testBit k = true := fun w1 hw1 => Or.inl fun z => absurd (hw0.symm.trans z.1) (fun q => absurd (Int32.not_lt.mp (jI_nn (show w1 < 2147483648 by omega))) (by rw [← q]; decide))
        refine x_iinc hm rfl rfl (v := nI 1) (by decide) rfl ?_
        rw [jI_add]
        refine x_goto hm rfl (t := 25) rfl ?_
        first
          | exact ih _ _ _ _ (by omega) (by omega) hF (hS.imp id fun q => ⟨q.1, q.2.1, q.2.2.none hcl⟩)
          | exact ih _ _ _ _ (by omega) (by omega) hF2 (Or.inl ⟨rfl, by rw [hc2]; rcases hS with q | q <;> omega⟩)
      · obtain ⟨w, hw, ew⟩ := (hV.on hk).resolve_left h2
        rw [ew]
        refine x_iload_n hm rfl rfl ?_
        refine x_iload hm rfl rfl ?_
        refine x_callS hm rfl rfl (g21 hs8 (by omega)) ?_
        refine x_if_eq hm rfl (t := 78) rfl (fun h3 => ?_) (fun h3 => ?_)
        · have hcl : ∀ w1, w1 < nt → ¬ (r (14 + 6 * k + 5) = nI w1 ∧ s.testBit w1 = true) ∨ s.testBit k = true := fun w1 hw1 => Or.inl fun z => bI_eq0.mp h3 (by rw [jI_inj (by omega) (by omega) (ew.symm.trans z.1)]; exact z.2)
          refine x_iinc hm rfl rfl (v := nI 1) (by decide) rfl ?_
          rw [jI_add]
          refine x_goto hm rfl (t := 25) rfl ?_
          first
            | exact ih _ _ _ _ (by omega) (by omega) hF (hS.imp id fun q => ⟨q.1, q.2.1, q.2.2.none hcl⟩)
            | exact ih _ _ _ _ (by omega) (by omega) hF2 (Or.inl ⟨rfl, by rw [hc2]; rcases hS with q | q <;> omega⟩)
        · have hin := bI_ne0 h3
          refine x_iload_n hm rfl rfl ?_
          refine x_iload hm rfl rfl ?_
          refine x_callS hm rfl rfl (g21 hs8 (by omega)) ?_
          refine x_if_ne hm rfl (t := 78) rfl (fun h4 => ?_) (fun h4 => ?_)
          · have hcl : ∀ w1, w1 < nt → ¬ (r (14 + 6 * k + 5) = nI w1 ∧ s.testBit w1 = true) ∨ s.testBit k = true := fun w1 hw1 => Or.inr (bI_ne0 h4)
            refine x_iinc hm rfl rfl (v := nI 1) (by decide) rfl ?_
            rw [jI_add]
            refine x_goto hm rfl (t := 25) rfl ?_
            first
              | exact ih _ _ _ _ (by omega) (by omega) hF (hS.imp id fun q => ⟨q.1, q.2.1, q.2.2.none hcl⟩)
              | exact ih _ _ _ _ (by omega) (by omega) hF2 (Or.inl ⟨rfl, by rw [hc2]; rcases hS with q | q <;> omega⟩)
          · have hnk : s.testBit k = false := by
              rcases e : s.testBit k with _ | _
              · rfl
              · exact absurd e (bI_eq0.mp h4)
            have hF2 := hF.add hn8 hk hw ew hin
            have hc2 := c8_or s hs8 k (by omega) hnk
            refine x_iload_n hm rfl rfl ?_
            refine x_iconst hm rfl (v := nI 1) (by decide) ?_
            refine x_iload hm rfl rfl ?_
            refine x_ishl hm rfl ?_
            refine x_ior hm rfl ?_
            rw [bitO s hs8 k (by omega)]
            refine x_istore_n hm rfl rfl ?_
            refine x_iconst hm rfl (v := nI 1) (by decide) ?_
            refine x_istore_n hm rfl rfl ?_
            refine x_iinc hm rfl rfl (v := nI 1) (by decide) rfl ?_
            rw [jI_add]
            refine x_goto hm rfl (t := 25) rfl ?_
            first
              | exact ih _ _ _ _ (by omega) (by omega) hF (hS.imp id fun q => ⟨q.1, q.2.1, q.2.2.none hcl⟩)
              | exact ih _ _ _ _ (by omega) (by omega) hF2 (Or.inl ⟨rfl, by rw [hc2]; rcases hS with q | q <;> omega⟩)
theorem m20a {b nt np t : Nat} {r : Nat → Int32} (hb : b = 1 ∨ b = 18 ∨ b = 35) (hR : Rel b nt np M r) (hV : Vs nt np r) (ht : t < nt) : ∀ (n i : Nat) (s : Nat) (g : Int32) (x5 x6 : Option Value), 8 - i < n → i ≤ 8 → Fs r nt t s → ((g = nI 1 ∧ i + 1 ≤ c8 s) ∨ (g = nI 0 ∧ Fcl r nt nt s)) → mEv X (fun z D => z = some (.int (nI (wS (Rch r t) nt))) ∧ D = con M) 20 9 [some (.ref b), some (.int (nI t)), some (.int (nI s)), some (.int g), some (.int (nI i)), x5, x6] [] (con M) := by
  have hm : mMet 20 = some _ := rfl
  intro n
  induction n with
  | zero =>
    intro i s g x5 x6 hin hi hF hS
    omega
  | succ n ih =>
    intro i s g x5 x6 hin hi hF hS
    refine x_iload hm rfl rfl ?_
    refine x_bipush hm rfl (v := nI 8) (by decide) ?_
    refine x_icmp_ge hm rfl (t := 90) rfl (fun h1 => ?_) (fun h1 => ?_)
    · have h8i := (jI_le (by omega) (by omega)).mp h1
      have hc := hS.resolve_left fun q => by have := c8_le (s := s); omega
      refine x_iload_n hm rfl rfl ?_
      refine x_iret hm rfl rfl (by first | rfl | exact bI_nar | decide) ?_
      rw [hF.done hV hc.2]
      exact ⟨rfl, rfl⟩
    · have hk : i < 8 := Nat.lt_of_not_le fun h => h1 (nI_le h (by omega))
      refine x_iload_n hm rfl rfl ?_
      refine x_if_eq hm rfl (t := 90) rfl (fun h2 => ?_) (fun h2 => ?_)
      · have hc := hS.resolve_left fun q => absurd (q.1.symm.trans h2) (by decide)
        refine x_iload_n hm rfl rfl ?_
        refine x_iret hm rfl rfl (by first | rfl | exact bI_nar | decide) ?_
        rw [hF.done hV hc.2]
        exact ⟨rfl, rfl⟩
      · have hg := hS.resolve_right fun q => h2 q.1
        refine x_iconst hm rfl (v := nI 0) (by decide) ?_
        refine x_istore_n hm rfl rfl ?_
        refine x_iconst hm rfl (v := nI 0) (by decide) ?_
        refine x_istore hm rfl rfl ?_
        exact m20b hb hR hV ht hk (fun s g x5 x6 a c => ih _ _ _ _ _ (by omega) (by omega) a c) _ 0 _ _ _ (Nat.lt_succ_self _) (Nat.zero_le _) hF (Or.inr ⟨rfl, hg.2, fun u hu => absurd hu (Nat.not_lt_zero _)⟩)
theorem g20 {b nt np t : Nat} {r : Nat → Int32} (hb : b = 1 ∨ b = 18 ∨ b = 35) (hR : Rel b nt np M r) (hV : Vs nt np r) (ht : t < nt) : mT X 20 [.ref b, .int (nI t)] (con M) (some (.int (nI (wS (Rch r t) nt)))) (con M) := by
  refine mT.of (row := _) rfl (Nat.le_of_ble_eq_true rfl) ?_
  have hm : mMet 20 = some _ := rfl
  have hn8 := hV.1
  refine x_iconst hm rfl (v := nI 1) (by decide) ?_
  refine x_iload_n hm rfl rfl ?_
  refine x_ishl hm rfl ?_
  rw [shl_k t (by omega)]
  refine x_istore_n hm rfl rfl ?_
  refine x_iconst hm rfl (v := nI 1) (by decide) ?_
  refine x_istore_n hm rfl rfl ?_
  refine x_iconst hm rfl (v := nI 0) (by decide) ?_
  refine x_istore hm rfl rfl ?_
  exact m20a hb hR hV ht _ 0 _ _ _ _ (Nat.lt_succ_self _) (Nat.zero_le _) (Fs.one ht hn8) (Or.inl ⟨rfl, by rw [c8_one t (by omega)]; decide⟩)
abbrev mayF (nt np : Nat) (t a v : Int32) : Prop := if a = 0 then (nI 0 ≤ v ∧ v ≤ nI 3) else if a = nI 1 then (nI 0 ≤ v ∧ v ≤ nI 15) else if a = nI 2 then (nI 0 ≤ v ∧ v ≤ nI 999) else if a = nI 3 then (nI 0 ≤ v ∧ v ≤ nI 9) else if a = nI 4 then (v = -1 ∨ (nI 0 ≤ v ∧ v ≤ nI np - nI 1)) else if a = nI 5 then (v = -1 ∨ ((nI 0 ≤ v ∧ v ≤ nI nt - nI 1) ∧ ¬ v = t)) else False
section MF
variable {nt np : Nat} {t a v : Int32}
theorem mayF_0 (h : a = nI 0) : (nI 0 ≤ v ∧ v ≤ nI 3) ↔ mayF nt np t a v := by
  subst h
  exact (iff_of_eq (if_pos (by decide))).symm
theorem mayF_1 (h : a = nI 1) : (nI 0 ≤ v ∧ v ≤ nI 15) ↔ mayF nt np t a v := by
  subst h
  exact (iff_of_eq ((if_neg (by decide)).trans (if_pos rfl))).symm
theorem mayF_2 (h : a = nI 2) : (nI 0 ≤ v ∧ v ≤ nI 999) ↔ mayF nt np t a v := by
  subst h
  exact (iff_of_eq ((if_neg (by decide)).trans ((if_neg (by decide)).trans (if_pos rfl)))).symm
theorem mayF_3 (h : a = nI 3) : (nI 0 ≤ v ∧ v ≤ nI 9) ↔ mayF nt np t a v := by
  subst h
  exact (iff_of_eq ((if_neg (by decide)).trans ((if_neg (by decide)).trans ((if_neg (by decide)).trans (if_pos rfl))))).symm
theorem mayF_4 (h : a = nI 4) : (v = -1 ∨ (nI 0 ≤ v ∧ v ≤ nI np - nI 1)) ↔ mayF nt np t a v := by
  subst h
  exact (iff_of_eq ((if_neg (by decide)).trans ((if_neg (by decide)).trans ((if_neg (by decide)).trans ((if_neg (by decide)).trans (if_pos rfl)))))).symm
theorem mayF_5 (h : a = nI 5) : (v = -1 ∨ ((nI 0 ≤ v ∧ v ≤ nI nt - nI 1) ∧ ¬ v = t)) ↔ mayF nt np t a v := by
  subst h
  exact (iff_of_eq ((if_neg (by decide)).trans ((if_neg (by decide)).trans ((if_neg (by decide)).trans ((if_neg (by decide)).trans ((if_neg (by decide)).trans (if_pos rfl))))))).symm
theorem mayF_f (h : mayF nt np t a v) : ∃ f, f < 6 ∧ a = nI f := by
  unfold mayF at h
  split at h
  · exact ⟨0, by decide, by assumption⟩
  split at h
  · exact ⟨1, by decide, by assumption⟩
  split at h
  · exact ⟨2, by decide, by assumption⟩
  split at h
  · exact ⟨3, by decide, by assumption⟩
  split at h
  · exact ⟨4, by decide, by assumption⟩
  split at h
  · exact ⟨5, by decide, by assumption⟩
  · exact absurd h id
theorem mayF_e (h : a.toInt < 0 ∨ 5 < a.toInt) : ¬ mayF nt np t a v := by
  intro g
  obtain ⟨f, hf, rfl⟩ := mayF_f g
  rw [jI_int (by omega)] at h
  omega
end MF
abbrev fgC (r : Nat → Int32) (a1 a2 a3 : Int32) : Prop := a2 = nI 5 ∧ ¬ a3 = -1 ∧ Rch r a1.toNatClampNeg a3.toNatClampNeg
noncomputable def fForge (nt np : Nat) (r : Nat → Int32) (a1 a2 a3 : Int32) : Sq4 :=
  if bI (nI 0 ≤ a1 ∧ a1 ≤ nI nt - nI 1) = 0 then (-1000001, nt, np, r) else if bI (mayF nt np a1 a2 a3) = 0 then (-1000001, nt, np, r) else @ite _ (fgC r a1 a2 a3) (Classical.propDecidable _) (-1000005, nt, np, r) (r (14 + 6 * a1.toNatClampNeg + a2.toNatClampNeg), nt, np, put1 r (14 + 6 * a1.toNatClampNeg + a2.toNatClampNeg) a3)
variable {nt np : Nat} {r : Nat → Int32}
theorem g18 {a1 a2 a3 : Int32} (hR : Rel 1 nt np M r) : mT X 18 [.ref 0, .int a1, .int a2, .int a3] (con M) (some (.int (bI (mayF nt np a1 a2 a3)))) (con M) := by
  refine mT.of (row := _) rfl (Nat.le_of_ble_eq_true rfl) ?_
  have hm : mMet 18 = some _ := rfl
  refine x_iload_n hm rfl rfl ?_
  refine x_ts hm rfl (fun h1 => ⟨121, rfl, ?_⟩) (fun i1 h1 g1 => ?_)
  · refine x_iconst hm rfl (v := nI 0) (by decide) ?_
    refine x_iret hm rfl rfl (by first | rfl | exact bI_nar | decide) ?_
    have hv : nI 0 = bI (mayF nt np a1 a2 a3) := bI_f (mayF_e h1)
    exact qt (congrArg Value.int hv)
  · have k1 : i1 = 0 ∨ i1 = 1 ∨ i1 = 2 ∨ i1 = 3 ∨ i1 = 4 ∨ i1 = 5 := by omega
    rcases k1 with rfl | rfl | rfl | rfl | rfl | rfl
    · refine ⟨_, 40, rfl, rfl, ?_⟩
      refine x_iload_n hm rfl rfl ?_
      refine x_iconst hm rfl (v := nI 0) (by decide) ?_
      refine x_iconst hm rfl (v := nI 3) (by decide) ?_
      refine x_callS hm rfl rfl (t6) ?_
      refine x_iret hm rfl rfl (by first | rfl | exact bI_nar | decide) ?_
      exact qt (congrArg Value.int (bIc (mayF_0 (tn h1 (by decide)))))
    · refine ⟨_, 47, rfl, rfl, ?_⟩
      refine x_iload_n hm rfl rfl ?_
      refine x_iconst hm rfl (v := nI 0) (by decide) ?_
      refine x_bipush hm rfl (v := nI 15) (by decide) ?_
      refine x_callS hm rfl rfl (t6) ?_
      refine x_iret hm rfl rfl (by first | rfl | exact bI_nar | decide) ?_
      exact qt (congrArg Value.int (bIc (mayF_1 (tn h1 (by decide)))))
    · refine ⟨_, 55, rfl, rfl, ?_⟩
      refine x_iload_n hm rfl rfl ?_
      refine x_iconst hm rfl (v := nI 0) (by decide) ?_
      refine x_sipush hm rfl (v := nI 999) (by decide) ?_
      refine x_callS hm rfl rfl (t6) ?_
      refine x_iret hm rfl rfl (by first | rfl | exact bI_nar | decide) ?_
      exact qt (congrArg Value.int (bIc (mayF_2 (tn h1 (by decide)))))
    · refine ⟨_, 64, rfl, rfl, ?_⟩
      refine x_iload_n hm rfl rfl ?_
      refine x_iconst hm rfl (v := nI 0) (by decide) ?_
      refine x_bipush hm rfl (v := nI 9) (by decide) ?_
      refine x_callS hm rfl rfl (t6) ?_
      refine x_iret hm rfl rfl (by first | rfl | exact bI_nar | decide) ?_
      exact qt (congrArg Value.int (bIc (mayF_3 (tn h1 (by decide)))))
    · refine ⟨_, 72, rfl, rfl, ?_⟩
      refine x_iload_n hm rfl rfl ?_
      refine x_iconst hm rfl (v := (-1 : Int32)) (by decide) ?_
      refine x_icmp_eq hm rfl (t := 88) rfl (fun h2 => ?_) (fun h2 => ?_)
      · have hv : nI 1 = bI (mayF nt np a1 a2 a3) := bI_t ((mayF_4 (tn h1 (by decide))).mp (Or.inl h2))
        refine x_iconst hm rfl (v := nI 1) (by decide) ?_
        refine x_goto hm rfl (t := 93) rfl ?_
        refine x_iret hm rfl rfl (by first | rfl | exact bI_nar | decide) ?_
        exact qt (congrArg Value.int hv)
      · have n4 := h2
        refine x_aload_n hm rfl rfl ?_
        refine x_getf hm rfl (gR rfl rfl) ?_
        refine x_iload_n hm rfl rfl ?_
        refine x_callV hm rfl rfl (t19 (by decide)) ?_
        rw [hR.2.1]
        refine x_if_eq hm rfl (t := 92) rfl (fun h3 => ?_) (fun h3 => ?_)
        · have hv : nI 0 = bI (mayF nt np a1 a2 a3) := bI_f fun q => ((mayF_4 (tn h1 (by decide))).mpr q).elim n4 (bI_eq0.mp h3)
          refine x_iconst hm rfl (v := nI 0) (by decide) ?_
          refine x_iret hm rfl rfl (by first | rfl | exact bI_nar | decide) ?_
          exact qt (congrArg Value.int hv)
        · have hv : nI 1 = bI (mayF nt np a1 a2 a3) := bI_t ((mayF_4 (tn h1 (by decide))).mp (Or.inr (bI_ne0 h3)))
          refine x_iconst hm rfl (v := nI 1) (by decide) ?_
          refine x_goto hm rfl (t := 93) rfl ?_
          refine x_iret hm rfl rfl (by first | rfl | exact bI_nar | decide) ?_
          exact qt (congrArg Value.int hv)
    · refine ⟨_, 94, rfl, rfl, ?_⟩
      refine x_iload_n hm rfl rfl ?_
      refine x_iconst hm rfl (v := (-1 : Int32)) (by decide) ?_
      refine x_icmp_eq hm rfl (t := 115) rfl (fun h4 => ?_) (fun h4 => ?_)
      · have hv : nI 1 = bI (mayF nt np a1 a2 a3) := bI_t ((mayF_5 (tn h1 (by decide))).mp (Or.inl h4))
        refine x_iconst hm rfl (v := nI 1) (by decide) ?_
        refine x_goto hm rfl (t := 120) rfl ?_
        refine x_iret hm rfl rfl (by first | rfl | exact bI_nar | decide) ?_
        exact qt (congrArg Value.int hv)
      · have n5 := h4
        refine x_aload_n hm rfl rfl ?_
        refine x_getf hm rfl (gR rfl rfl) ?_
        refine x_iload_n hm rfl rfl ?_
        refine x_callV hm rfl rfl (t10 (by decide)) ?_
        rw [hR.1]
        refine x_if_eq hm rfl (t := 119) rfl (fun h5 => ?_) (fun h5 => ?_)
        · have hv : nI 0 = bI (mayF nt np a1 a2 a3) := bI_f fun q => ((mayF_5 (tn h1 (by decide))).mpr q).elim n5 (fun z => bI_eq0.mp h5 z.1)
          refine x_iconst hm rfl (v := nI 0) (by decide) ?_
          refine x_iret hm rfl rfl (by first | rfl | exact bI_nar | decide) ?_
          exact qt (congrArg Value.int hv)
        · have y5 := bI_ne0 h5
          refine x_iload_n hm rfl rfl ?_
          refine x_iload_n hm rfl rfl ?_
          refine x_icmp_eq hm rfl (t := 119) rfl (fun h6 => ?_) (fun h6 => ?_)
          · have hv : nI 0 = bI (mayF nt np a1 a2 a3) := bI_f fun q => ((mayF_5 (tn h1 (by decide))).mpr q).elim n5 (fun z => z.2 h6)
            refine x_iconst hm rfl (v := nI 0) (by decide) ?_
            refine x_iret hm rfl rfl (by first | rfl | exact bI_nar | decide) ?_
            exact qt (congrArg Value.int hv)
          · have hv : nI 1 = bI (mayF nt np a1 a2 a3) := bI_t ((mayF_5 (tn h1 (by decide))).mp (Or.inr ⟨y5, h6⟩))
            refine x_iconst hm rfl (v := nI 1) (by decide) ?_
            refine x_goto hm rfl (t := 120) rfl ?_
            refine x_iret hm rfl rfl (by first | rfl | exact bI_nar | decide) ?_
            exact qt (congrArg Value.int hv)
theorem g150 {a1 a2 a3 : Int32} (hnt : M 67 1 = nI nt) (hnp : M 67 2 = nI np) : mT X 150 [.ref 66, .int a1, .int a2, .int a3] (con M) (some (.int (bI (mayF nt np a1 a2 a3)))) (con M) := by
  refine mT.of (row := _) rfl (Nat.le_of_ble_eq_true rfl) ?_
  have hm : mMet 150 = some _ := rfl
  refine x_iload_n hm rfl rfl ?_
  refine x_ts hm rfl (fun h1 => ⟨105, rfl, ?_⟩) (fun i1 h1 g1 => ?_)
  · refine x_iconst hm rfl (v := nI 0) (by decide) ?_
    refine x_iret hm rfl rfl (by first | rfl | exact bI_nar | decide) ?_
    have hv : nI 0 = bI (mayF nt np a1 a2 a3) := bI_f (mayF_e h1)
    exact qt (congrArg Value.int hv)
  · have k1 : i1 = 0 ∨ i1 = 1 ∨ i1 = 2 ∨ i1 = 3 ∨ i1 = 4 ∨ i1 = 5 := by omega
    rcases k1 with rfl | rfl | rfl | rfl | rfl | rfl
    · refine ⟨_, 40, rfl, rfl, ?_⟩
      refine x_iload_n hm rfl rfl ?_
      refine x_iconst hm rfl (v := nI 0) (by decide) ?_
      refine x_iconst hm rfl (v := nI 3) (by decide) ?_
      refine x_callS hm rfl rfl (t133) ?_
      refine x_iret hm rfl rfl (by first | rfl | exact bI_nar | decide) ?_
      exact qt (congrArg Value.int (bIc (mayF_0 (tn h1 (by decide)))))
    · refine ⟨_, 47, rfl, rfl, ?_⟩
      refine x_iload_n hm rfl rfl ?_
      refine x_callS hm rfl rfl (t134) ?_
      refine x_iret hm rfl rfl (by first | rfl | exact bI_nar | decide) ?_
      exact qt (congrArg Value.int (bIc (mayF_1 (tn h1 (by decide)))))
    · refine ⟨_, 52, rfl, rfl, ?_⟩
      refine x_iload_n hm rfl rfl ?_
      refine x_callS hm rfl rfl (t151) ?_
      refine x_iret hm rfl rfl (by first | rfl | exact bI_nar | decide) ?_
      exact qt (congrArg Value.int (bIc (mayF_2 (tn h1 (by decide)))))
    · refine ⟨_, 57, rfl, rfl, ?_⟩
      refine x_iload_n hm rfl rfl ?_
      refine x_callS hm rfl rfl (t152) ?_
      refine x_iret hm rfl rfl (by first | rfl | exact bI_nar | decide) ?_
      exact qt (congrArg Value.int (bIc (mayF_3 (tn h1 (by decide)))))
    · refine ⟨_, 62, rfl, rfl, ?_⟩
      refine x_iload_n hm rfl rfl ?_
      refine x_iconst hm rfl (v := (-1 : Int32)) (by decide) ?_
      refine x_icmp_eq hm rfl (t := 75) rfl (fun h2 => ?_) (fun h2 => ?_)
      · have hv : nI 1 = bI (mayF nt np a1 a2 a3) := bI_t ((mayF_4 (tn h1 (by decide))).mp (Or.inl h2))
        refine x_iconst hm rfl (v := nI 1) (by decide) ?_
        refine x_goto hm rfl (t := 80) rfl ?_
        refine x_iret hm rfl rfl (by first | rfl | exact bI_nar | decide) ?_
        exact qt (congrArg Value.int hv)
      · have n4 := h2
        refine x_aload_n hm rfl rfl ?_
        refine x_iload_n hm rfl rfl ?_
        refine x_callV hm rfl rfl (t153) ?_
        rw [hnp]
        refine x_if_eq hm rfl (t := 79) rfl (fun h3 => ?_) (fun h3 => ?_)
        · have hv : nI 0 = bI (mayF nt np a1 a2 a3) := bI_f fun q => ((mayF_4 (tn h1 (by decide))).mpr q).elim n4 (bI_eq0.mp h3)
          refine x_iconst hm rfl (v := nI 0) (by decide) ?_
          refine x_iret hm rfl rfl (by first | rfl | exact bI_nar | decide) ?_
          exact qt (congrArg Value.int hv)
        · have hv : nI 1 = bI (mayF nt np a1 a2 a3) := bI_t ((mayF_4 (tn h1 (by decide))).mp (Or.inr (bI_ne0 h3)))
          refine x_iconst hm rfl (v := nI 1) (by decide) ?_
          refine x_goto hm rfl (t := 80) rfl ?_
          refine x_iret hm rfl rfl (by first | rfl | exact bI_nar | decide) ?_
          exact qt (congrArg Value.int hv)
    · refine ⟨_, 81, rfl, rfl, ?_⟩
      refine x_iload_n hm rfl rfl ?_
      refine x_iconst hm rfl (v := (-1 : Int32)) (by decide) ?_
      refine x_icmp_eq hm rfl (t := 99) rfl (fun h4 => ?_) (fun h4 => ?_)
      · have hv : nI 1 = bI (mayF nt np a1 a2 a3) := bI_t ((mayF_5 (tn h1 (by decide))).mp (Or.inl h4))
        refine x_iconst hm rfl (v := nI 1) (by decide) ?_
        refine x_goto hm rfl (t := 104) rfl ?_
        refine x_iret hm rfl rfl (by first | rfl | exact bI_nar | decide) ?_
        exact qt (congrArg Value.int hv)
      · have n5 := h4
        refine x_aload_n hm rfl rfl ?_
        refine x_iload_n hm rfl rfl ?_
        refine x_callV hm rfl rfl (t139) ?_
        rw [hnt]
        refine x_if_eq hm rfl (t := 103) rfl (fun h5 => ?_) (fun h5 => ?_)
        · have hv : nI 0 = bI (mayF nt np a1 a2 a3) := bI_f fun q => ((mayF_5 (tn h1 (by decide))).mpr q).elim n5 (fun z => bI_eq0.mp h5 z.1)
          refine x_iconst hm rfl (v := nI 0) (by decide) ?_
          refine x_iret hm rfl rfl (by first | rfl | exact bI_nar | decide) ?_
          exact qt (congrArg Value.int hv)
        · have y5 := bI_ne0 h5
          refine x_iload_n hm rfl rfl ?_
          refine x_iload_n hm rfl rfl ?_
          refine x_icmp_eq hm rfl (t := 103) rfl (fun h6 => ?_) (fun h6 => ?_)
          · have hv : nI 0 = bI (mayF nt np a1 a2 a3) := bI_f fun q => ((mayF_5 (tn h1 (by decide))).mpr q).elim n5 (fun z => z.2 h6)
            refine x_iconst hm rfl (v := nI 0) (by decide) ?_
            refine x_iret hm rfl rfl (by first | rfl | exact bI_nar | decide) ?_
            exact qt (congrArg Value.int hv)
          · have hv : nI 1 = bI (mayF nt np a1 a2 a3) := bI_t ((mayF_5 (tn h1 (by decide))).mp (Or.inr ⟨y5, h6⟩))
            refine x_iconst hm rfl (v := nI 1) (by decide) ?_
            refine x_goto hm rfl (t := 104) rfl ?_
            refine x_iret hm rfl rfl (by first | rfl | exact bI_nar | decide) ?_
            exact qt (congrArg Value.int hv)
theorem g17 {a1 a2 a3 : Int32} (hR : Rel 1 nt np M r) (hn8 : nt ≤ 8) (hp8 : np ≤ 8) (hV : Vs nt np r) : ∃ v M', mT X 17 [.ref 0, .int a1, .int a2, .int a3] (con M) (some (.int v)) (con M') ∧ Tq (fForge nt np r a1 a2 a3) v M M' := by
  refine ti_of (row := _) rfl (Nat.le_of_ble_eq_true rfl) ?_
  have hm : mMet 17 = some _ := rfl
  refine x_aload_n hm rfl rfl ?_
  refine x_getf hm rfl (gR rfl rfl) ?_
  refine x_iload_n hm rfl rfl ?_
  refine x_callV hm rfl rfl (t10 (by decide)) ?_
  rw [hR.1]
  refine x_if_eq hm rfl (t := 21) rfl (fun h1 => ?_) (fun h1 => ?_)
  · refine x_aload_n hm rfl rfl ?_
    refine x_ldcI hm rfl (v := (-1000001 : Int32)) (by decide +kernel) ?_
    refine x_cVi hm rfl rfl (t7 (by decide +kernel)) (fun v2 M2 r2 => ?_)
    refine x_iret hm rfl rfl (by first | rfl | exact bI_nar | decide) ?_
    first
      | (have hq : fForge nt np r a1 a2 a3 = (-1000001, nt, np, r) := by
           unfold fForge
           rw [if_pos (by assumption)]
         exact ⟨_, _, rfl, rfl, by rw [hq]; exact ⟨r2.1, hR.bq r2.2⟩⟩)
      | (have hq : fForge nt np r (nI t) a2 a3 = (-1000001, nt, np, r) := by
           unfold fForge
           rw [if_neg (by assumption), if_pos (by assumption)]
         exact ⟨_, _, rfl, rfl, by rw [hq]; exact ⟨r2.1, hR.bq r2.2⟩⟩)
      | (have hq : fForge nt np r a1 a2 a3 = (-1000001, nt, np, r) := by
           unfold fForge
           rw [if_pos (by assumption)]
         exact ⟨_, _, rfl, rfl, by rw [hq]; exact ⟨r1.1, hR.bq r1.2⟩⟩)
      | (have hq : fForge nt np r a1 a2 a3 = (-1000001, nt, np, r) := by
           unfold fForge
           rw [if_pos (by assumption)]
         exact ⟨_, _, rfl, rfl, by rw [hq]; exact ⟨r3.1, hR.bq r3.2⟩⟩)
      | (have hq : fForge nt np r a1 a2 a3 = (-1000001, nt, np, r) := by
           unfold fForge
           rw [if_pos (by assumption)]
         exact ⟨_, _, rfl, rfl, by rw [hq]; exact ⟨r4.1, hR.bq r4.2⟩⟩)
      | (have hq : fForge nt np r a1 a2 a3 = (-1000001, nt, np, r) := by
           unfold fForge
           rw [if_pos (by assumption)]
         exact ⟨_, _, rfl, rfl, by rw [hq]; exact ⟨r5.1, hR.bq r5.2⟩⟩)
      | (have hq : fForge nt np r a1 a2 a3 = (-1000001, nt, np, r) := by
           unfold fForge
           rw [if_pos (by assumption)]
         exact ⟨_, _, rfl, rfl, by rw [hq]; exact ⟨r6.1, hR.bq r6.2⟩⟩)
      | (have hq : fForge nt np r a1 a2 a3 = (-1000001, nt, np, r) := by
           unfold fForge
           rw [if_pos (by assumption)]
         exact ⟨_, _, rfl, rfl, by rw [hq]; exact ⟨r7.1, hR.bq r7.2⟩⟩)
      | (have hq : fForge nt np r a1 a2 a3 = (-1000001, nt, np, r) := by
           unfold fForge
           rw [if_pos (by assumption)]
         exact ⟨_, _, rfl, rfl, by rw [hq]; exact ⟨r8.1, hR.bq r8.2⟩⟩)
      | (have hq : fForge nt np r (nI t) a2 a3 = (-1000001, nt, np, r) := by
           unfold fForge
           rw [if_neg (by assumption), if_pos (by assumption)]
         exact ⟨_, _, rfl, rfl, by rw [hq]; exact ⟨r1.1, hR.bq r1.2⟩⟩)
      | (have hq : fForge nt np r (nI t) a2 a3 = (-1000001, nt, np, r) := by
           unfold fForge
           rw [if_neg (by assumption), if_pos (by assumption)]
         exact ⟨_, _, rfl, rfl, by rw [hq]; exact ⟨r3.1, hR.bq r3.2⟩⟩)
      | (have hq : fForge nt np r (nI t) a2 a3 = (-1000001, nt, np, r) := by
           unfold fForge
           rw [if_neg (by assumption), if_pos (by assumption)]
         exact ⟨_, _, rfl, rfl, by rw [hq]; exact ⟨r4.1, hR.bq r4.2⟩⟩)
      | (have hq : fForge nt np r (nI t) a2 a3 = (-1000001, nt, np, r) := by
           unfold fForge
           rw [if_neg (by assumption), if_pos (by assumption)]
         exact ⟨_, _, rfl, rfl, by rw [hq]; exact ⟨r5.1, hR.bq r5.2⟩⟩)
      | (have hq : fForge nt np r (nI t) a2 a3 = (-1000001, nt, np, r) := by
           unfold fForge
           rw [if_neg (by assumption), if_pos (by assumption)]
         exact ⟨_, _, rfl, rfl, by rw [hq]; exact ⟨r6.1, hR.bq r6.2⟩⟩)
      | (have hq : fForge nt np r (nI t) a2 a3 = (-1000001, nt, np, r) := by
           unfold fForge
           rw [if_neg (by assumption), if_pos (by assumption)]
         exact ⟨_, _, rfl, rfl, by rw [hq]; exact ⟨r7.1, hR.bq r7.2⟩⟩)
      | (have hq : fForge nt np r (nI t) a2 a3 = (-1000001, nt, np, r) := by
           unfold fForge
           rw [if_neg (by assumption), if_pos (by assumption)]
         exact ⟨_, _, rfl, rfl, by rw [hq]; exact ⟨r8.1, hR.bq r8.2⟩⟩)
  · obtain ⟨t, ht, rfl⟩ := in_k rfl (by omega) (bI_ne0 h1)
    refine x_aload_n hm rfl rfl ?_
    refine x_iload_n hm rfl rfl ?_
    refine x_iload_n hm rfl rfl ?_
    refine x_iload_n hm rfl rfl ?_
    refine x_callV hm rfl rfl (g18 hR) ?_
    refine x_if_ne hm rfl (t := 28) rfl (fun h3 => ?_) (fun h3 => ?_)
    · have hmf := bI_ne0 h3
      have hz : bI (mayF nt np (nI t) a2 a3) ≠ 0 := h3
      obtain ⟨f, hf, rfl⟩ := mayF_f hmf
      refine x_iload_n hm rfl rfl ?_
      refine x_iconst hm rfl (v := nI 5) (by decide) ?_
      refine x_icmp_ne hm rfl (t := 60) rfl (fun h4 => ?_) (fun h4 => ?_)
      · have hnc : ¬ fgC r (nI t) (nI f) a3 := fun z => h4 z.1
        refine x_aload_n hm rfl rfl ?_
        refine x_getf hm rfl (gR rfl rfl) ?_
        refine x_getf hm rfl (gR rfl rfl) ?_
        refine x_iload_n hm rfl rfl ?_
        refine x_aald hm rfl (lQ 3 (Or.inr (Or.inl rfl)) (tI (b := 1) (by decide)) (tIk (by omega)) (by omega) (by decide)) ?_
        refine x_iload_n hm rfl rfl ?_
        refine x_iald hm rfl (lI (tRowI (b := 1) (by decide) (by omega)) (by omega) (by decide)) ?_
        refine x_istore hm rfl rfl ?_
        refine x_aload_n hm rfl rfl ?_
        refine x_getf hm rfl (gR rfl rfl) ?_
        refine x_getf hm rfl (gR rfl rfl) ?_
        refine x_iload_n hm rfl rfl ?_
        refine x_aald hm rfl (lQ 3 (Or.inr (Or.inl rfl)) (tI (b := 1) (by decide)) (tIk (by omega)) (by omega) (by decide)) ?_
        refine x_iload_n hm rfl rfl ?_
        refine x_iload_n hm rfl rfl ?_
        refine x_iast hm rfl (sI (tRowI (b := 1) (by decide) (by omega)) (by omega) (by decide)) ?_
        refine x_iload hm rfl rfl ?_
        refine x_iret hm rfl rfl (by first | rfl | exact bI_nar | decide) ?_
        first
          | (have hq : fForge nt np r (nI t) (nI f) a3 = (r (14 + 6 * t + f), nt, np, put1 r (14 + 6 * t + f) a3) := by
               unfold fForge
               rw [if_neg (by assumption), if_neg (by assumption), if_neg hnc]
               rw [jI_nat (k := t) (by omega)]
               rw [jI_nat (k := f) (by omega)]
             exact ⟨_, _, rfl, rfl, by rw [hq]; exact ⟨hR.iron hf ht, (hR.pi hn8 hf ht).tm (mpn (by omega)) (fun a ha => mpo (by omega))⟩⟩)
          | (have hq : fForge nt np r (nI t) (nI 5) a3 = (r (14 + 6 * t + 5), nt, np, put1 r (14 + 6 * t + 5) a3) := by
               unfold fForge
               rw [if_neg (by assumption), if_neg (by assumption), if_neg hnc]
               rw [jI_nat (k := t) (by omega)]
               rw [jI_nat (k := 5) (by omega)]
             exact ⟨_, _, rfl, rfl, by rw [hq]; exact ⟨hR.iron hf ht, (hR.pi hn8 hf ht).tm (mpn (by omega)) (fun a ha => mpo (by omega))⟩⟩)
          | (have hq : fForge nt np r (nI t) (nI 5) (nI w) = (r (14 + 6 * t + 5), nt, np, put1 r (14 + 6 * t + 5) (nI w)) := by
               unfold fForge
               rw [if_neg (by assumption), if_neg (by assumption), if_neg hnc]
               rw [jI_nat (k := t) (by omega)]
               rw [jI_nat (k := 5) (by omega)]
             exact ⟨_, _, rfl, rfl, by rw [hq]; exact ⟨hR.iron hf ht, (hR.pi hn8 hf ht).tm (mpn (by omega)) (fun a ha => mpo (by omega))⟩⟩)
      · obtain rfl : f = 5 := jI_inj (by omega) (by decide) h4
        refine x_iload_n hm rfl rfl ?_
        refine x_iconst hm rfl (v := (-1 : Int32)) (by decide) ?_
        refine x_icmp_eq hm rfl (t := 60) rfl (fun h5 => ?_) (fun h5 => ?_)
        · have hnc : ¬ fgC r (nI t) (nI 5) a3 := fun z => z.2.1 h5
          refine x_aload_n hm rfl rfl ?_
          refine x_getf hm rfl (gR rfl rfl) ?_
          refine x_getf hm rfl (gR rfl rfl) ?_
          refine x_iload_n hm rfl rfl ?_
          refine x_aald hm rfl (lQ 3 (Or.inr (Or.inl rfl)) (tI (b := 1) (by decide)) (tIk (by omega)) (by omega) (by decide)) ?_
          refine x_iload_n hm rfl rfl ?_
          refine x_iald hm rfl (lI (tRowI (b := 1) (by decide) (by omega)) (by omega) (by decide)) ?_
          refine x_istore hm rfl rfl ?_
          refine x_aload_n hm rfl rfl ?_
          refine x_getf hm rfl (gR rfl rfl) ?_
          refine x_getf hm rfl (gR rfl rfl) ?_
          refine x_iload_n hm rfl rfl ?_
          refine x_aald hm rfl (lQ 3 (Or.inr (Or.inl rfl)) (tI (b := 1) (by decide)) (tIk (by omega)) (by omega) (by decide)) ?_
          refine x_iload_n hm rfl rfl ?_
          refine x_iload_n hm rfl rfl ?_
          refine x_iast hm rfl (sI (tRowI (b := 1) (by decide) (by omega)) (by omega) (by decide)) ?_
          refine x_iload hm rfl rfl ?_
          refine x_iret hm rfl rfl (by first | rfl | exact bI_nar | decide) ?_
          first
            | (have hq : fForge nt np r (nI t) (nI f) a3 = (r (14 + 6 * t + f), nt, np, put1 r (14 + 6 * t + f) a3) := by
                 unfold fForge
                 rw [if_neg (by assumption), if_neg (by assumption), if_neg hnc]
                 rw [jI_nat (k := t) (by omega)]
                 rw [jI_nat (k := f) (by omega)]
               exact ⟨_, _, rfl, rfl, by rw [hq]; exact ⟨hR.iron hf ht, (hR.pi hn8 hf ht).tm (mpn (by omega)) (fun a ha => mpo (by omega))⟩⟩)
            | (have hq : fForge nt np r (nI t) (nI 5) a3 = (r (14 + 6 * t + 5), nt, np, put1 r (14 + 6 * t + 5) a3) := by
                 unfold fForge
                 rw [if_neg (by assumption), if_neg (by assumption), if_neg hnc]
                 rw [jI_nat (k := t) (by omega)]
                 rw [jI_nat (k := 5) (by omega)]
               exact ⟨_, _, rfl, rfl, by rw [hq]; exact ⟨hR.iron hf ht, (hR.pi hn8 hf ht).tm (mpn (by omega)) (fun a ha => mpo (by omega))⟩⟩)
            | (have hq : fForge nt np r (nI t) (nI 5) (nI w) = (r (14 + 6 * t + 5), nt, np, put1 r (14 + 6 * t + 5) (nI w)) := by
                 unfold fForge
                 rw [if_neg (by assumption), if_neg (by assumption), if_neg hnc]
                 rw [jI_nat (k := t) (by omega)]
                 rw [jI_nat (k := 5) (by omega)]
               exact ⟨_, _, rfl, rfl, by rw [hq]; exact ⟨hR.iron hf ht, (hR.pi hn8 hf ht).tm (mpn (by omega)) (fun a ha => mpo (by omega))⟩⟩)
        · have hv5 := ((mayF_5 rfl).mpr hmf).resolve_left h5
          obtain ⟨w, hw, rfl⟩ := in_k rfl (by omega) hv5.1
          refine x_aload_n hm rfl rfl ?_
          refine x_getf hm rfl (gR rfl rfl) ?_
          refine x_iload_n hm rfl rfl ?_
          refine x_callV hm rfl rfl (g20 (by decide) hR hV ht) ?_
          refine x_iload_n hm rfl rfl ?_
          refine x_callS hm rfl rfl (g21 (wS_lt hn8) (by omega)) ?_
          refine x_if_eq hm rfl (t := 60) rfl (fun h6 => ?_) (fun h6 => ?_)
          · have hnc : ¬ fgC r (nI t) (nI 5) (nI w) := fun z => by
              have z3 := z.2.2
              rw [jI_nat (by omega), jI_nat (by omega)] at z3
              exact bI_eq0.mp h6 (wS_tb.mpr ⟨hw, z3⟩)
            refine x_aload_n hm rfl rfl ?_
            refine x_getf hm rfl (gR rfl rfl) ?_
            refine x_getf hm rfl (gR rfl rfl) ?_
            refine x_iload_n hm rfl rfl ?_
            refine x_aald hm rfl (lQ 3 (Or.inr (Or.inl rfl)) (tI (b := 1) (by decide)) (tIk (by omega)) (by omega) (by decide)) ?_
            refine x_iload_n hm rfl rfl ?_
            refine x_iald hm rfl (lI (tRowI (b := 1) (by decide) (by omega)) (by omega) (by decide)) ?_
            refine x_istore hm rfl rfl ?_
            refine x_aload_n hm rfl rfl ?_
            refine x_getf hm rfl (gR rfl rfl) ?_
            refine x_getf hm rfl (gR rfl rfl) ?_
            refine x_iload_n hm rfl rfl ?_
            refine x_aald hm rfl (lQ 3 (Or.inr (Or.inl rfl)) (tI (b := 1) (by decide)) (tIk (by omega)) (by omega) (by decide)) ?_
            refine x_iload_n hm rfl rfl ?_
            refine x_iload_n hm rfl rfl ?_
            refine x_iast hm rfl (sI (tRowI (b := 1) (by decide) (by omega)) (by omega) (by decide)) ?_
            refine x_iload hm rfl rfl ?_
            refine x_iret hm rfl rfl (by first | rfl | exact bI_nar | decide) ?_
            first
              | (have hq : fForge nt np r (nI t) (nI f) a3 = (r (14 + 6 * t + f), nt, np, put1 r (14 + 6 * t + f) a3) := by
                   unfold fForge
                   rw [if_neg (by assumption), if_neg (by assumption), if_neg hnc]
                   rw [jI_nat (k := t) (by omega)]
                   rw [jI_nat (k := f) (by omega)]
                 exact ⟨_, _, rfl, rfl, by rw [hq]; exact ⟨hR.iron hf ht, (hR.pi hn8 hf ht).tm (mpn (by omega)) (fun a ha => mpo (by omega))⟩⟩)
              | (have hq : fForge nt np r (nI t) (nI 5) a3 = (r (14 + 6 * t + 5), nt, np, put1 r (14 + 6 * t + 5) a3) := by
                   unfold fForge
                   rw [if_neg (by assumption), if_neg (by assumption), if_neg hnc]
                   rw [jI_nat (k := t) (by omega)]
                   rw [jI_nat (k := 5) (by omega)]
                 exact ⟨_, _, rfl, rfl, by rw [hq]; exact ⟨hR.iron hf ht, (hR.pi hn8 hf ht).tm (mpn (by omega)) (fun a ha => mpo (by omega))⟩⟩)
              | (have hq : fForge nt np r (nI t) (nI 5) (nI w) = (r (14 + 6 * t + 5), nt, np, put1 r (14 + 6 * t + 5) (nI w)) := by
                   unfold fForge
                   rw [if_neg (by assumption), if_neg (by assumption), if_neg hnc]
                   rw [jI_nat (k := t) (by omega)]
                   rw [jI_nat (k := 5) (by omega)]
                 exact ⟨_, _, rfl, rfl, by rw [hq]; exact ⟨hR.iron hf ht, (hR.pi hn8 hf ht).tm (mpn (by omega)) (fun a ha => mpo (by omega))⟩⟩)
          · have hcy : fgC r (nI t) (nI 5) (nI w) := ⟨rfl, fun q => absurd (Int32.not_lt.mp (jI_nn (show w < 2147483648 by omega))) (by rw [q]; decide), by rw [jI_nat (by omega), jI_nat (by omega)]; exact (wS_tb.mp (bI_ne0 h6)).2⟩
            refine x_aload_n hm rfl rfl ?_
            refine x_ldcI hm rfl (v := (-1000005 : Int32)) (by decide +kernel) ?_
            refine x_cVi hm rfl rfl (t7 (by decide +kernel)) (fun v7 M7 r7 => ?_)
            refine x_iret hm rfl rfl (by first | rfl | exact bI_nar | decide) ?_
            have hq : fForge nt np r (nI t) (nI 5) (nI w) = (-1000005, nt, np, r) := by
              unfold fForge
              rw [if_neg (by assumption), if_neg (by assumption), if_pos hcy]
            exact ⟨_, _, rfl, rfl, by rw [hq]; exact ⟨r7.1, hR.bq r7.2⟩⟩
    · refine x_aload_n hm rfl rfl ?_
      refine x_ldcI hm rfl (v := (-1000001 : Int32)) (by decide +kernel) ?_
      refine x_cVi hm rfl rfl (t7 (by decide +kernel)) (fun v8 M8 r8 => ?_)
      refine x_iret hm rfl rfl (by first | rfl | exact bI_nar | decide) ?_
      first
        | (have hq : fForge nt np r a1 a2 a3 = (-1000001, nt, np, r) := by
             unfold fForge
             rw [if_pos (by assumption)]
           exact ⟨_, _, rfl, rfl, by rw [hq]; exact ⟨r8.1, hR.bq r8.2⟩⟩)
        | (have hq : fForge nt np r (nI t) a2 a3 = (-1000001, nt, np, r) := by
             unfold fForge
             rw [if_neg (by assumption), if_pos (by assumption)]
           exact ⟨_, _, rfl, rfl, by rw [hq]; exact ⟨r8.1, hR.bq r8.2⟩⟩)
        | (have hq : fForge nt np r a1 a2 a3 = (-1000001, nt, np, r) := by
             unfold fForge
             rw [if_pos (by assumption)]
           exact ⟨_, _, rfl, rfl, by rw [hq]; exact ⟨r1.1, hR.bq r1.2⟩⟩)
        | (have hq : fForge nt np r a1 a2 a3 = (-1000001, nt, np, r) := by
             unfold fForge
             rw [if_pos (by assumption)]
           exact ⟨_, _, rfl, rfl, by rw [hq]; exact ⟨r2.1, hR.bq r2.2⟩⟩)
        | (have hq : fForge nt np r a1 a2 a3 = (-1000001, nt, np, r) := by
             unfold fForge
             rw [if_pos (by assumption)]
           exact ⟨_, _, rfl, rfl, by rw [hq]; exact ⟨r3.1, hR.bq r3.2⟩⟩)
        | (have hq : fForge nt np r a1 a2 a3 = (-1000001, nt, np, r) := by
             unfold fForge
             rw [if_pos (by assumption)]
           exact ⟨_, _, rfl, rfl, by rw [hq]; exact ⟨r4.1, hR.bq r4.2⟩⟩)
        | (have hq : fForge nt np r a1 a2 a3 = (-1000001, nt, np, r) := by
             unfold fForge
             rw [if_pos (by assumption)]
           exact ⟨_, _, rfl, rfl, by rw [hq]; exact ⟨r5.1, hR.bq r5.2⟩⟩)
        | (have hq : fForge nt np r a1 a2 a3 = (-1000001, nt, np, r) := by
             unfold fForge
             rw [if_pos (by assumption)]
           exact ⟨_, _, rfl, rfl, by rw [hq]; exact ⟨r6.1, hR.bq r6.2⟩⟩)
        | (have hq : fForge nt np r a1 a2 a3 = (-1000001, nt, np, r) := by
             unfold fForge
             rw [if_pos (by assumption)]
           exact ⟨_, _, rfl, rfl, by rw [hq]; exact ⟨r7.1, hR.bq r7.2⟩⟩)
        | (have hq : fForge nt np r (nI t) a2 a3 = (-1000001, nt, np, r) := by
             unfold fForge
             rw [if_neg (by assumption), if_pos (by assumption)]
           exact ⟨_, _, rfl, rfl, by rw [hq]; exact ⟨r1.1, hR.bq r1.2⟩⟩)
        | (have hq : fForge nt np r (nI t) a2 a3 = (-1000001, nt, np, r) := by
             unfold fForge
             rw [if_neg (by assumption), if_pos (by assumption)]
           exact ⟨_, _, rfl, rfl, by rw [hq]; exact ⟨r2.1, hR.bq r2.2⟩⟩)
        | (have hq : fForge nt np r (nI t) a2 a3 = (-1000001, nt, np, r) := by
             unfold fForge
             rw [if_neg (by assumption), if_pos (by assumption)]
           exact ⟨_, _, rfl, rfl, by rw [hq]; exact ⟨r3.1, hR.bq r3.2⟩⟩)
        | (have hq : fForge nt np r (nI t) a2 a3 = (-1000001, nt, np, r) := by
             unfold fForge
             rw [if_neg (by assumption), if_pos (by assumption)]
           exact ⟨_, _, rfl, rfl, by rw [hq]; exact ⟨r4.1, hR.bq r4.2⟩⟩)
        | (have hq : fForge nt np r (nI t) a2 a3 = (-1000001, nt, np, r) := by
             unfold fForge
             rw [if_neg (by assumption), if_pos (by assumption)]
           exact ⟨_, _, rfl, rfl, by rw [hq]; exact ⟨r5.1, hR.bq r5.2⟩⟩)
        | (have hq : fForge nt np r (nI t) a2 a3 = (-1000001, nt, np, r) := by
             unfold fForge
             rw [if_neg (by assumption), if_pos (by assumption)]
           exact ⟨_, _, rfl, rfl, by rw [hq]; exact ⟨r6.1, hR.bq r6.2⟩⟩)
        | (have hq : fForge nt np r (nI t) a2 a3 = (-1000001, nt, np, r) := by
             unfold fForge
             rw [if_neg (by assumption), if_pos (by assumption)]
           exact ⟨_, _, rfl, rfl, by rw [hq]; exact ⟨r7.1, hR.bq r7.2⟩⟩)
theorem g149 {a1 a2 a3 : Int32} (h67 : M 67 = r) (hnt : M 67 1 = nI nt) (hn8 : nt ≤ 8) (hnp : M 67 2 = nI np) (hp8 : np ≤ 8) (hI : Inv M) : ∃ v M', mT X 149 [.ref 66, .int a1, .int a2, .int a3] (con M) (some (.int v)) (con M') ∧ Uq (fForge nt np r a1 a2 a3) v M M' := by
  refine ti_of (row := _) rfl (Nat.le_of_ble_eq_true rfl) ?_
  have hm : mMet 149 = some _ := rfl
  refine x_aload_n hm rfl rfl ?_
  refine x_iload_n hm rfl rfl ?_
  refine x_callV hm rfl rfl (t139) ?_
  rw [hnt]
  refine x_if_eq hm rfl (t := 18) rfl (fun h1 => ?_) (fun h1 => ?_)
  · refine x_aload_n hm rfl rfl ?_
    refine x_ldcI hm rfl (v := (-1000001 : Int32)) (by decide +kernel) ?_
    refine x_callV hm rfl rfl (e135 (by decide +kernel)) ?_
    refine x_iret hm rfl rfl (by first | rfl | exact bI_nar | decide) ?_
    first
      | (have hq : fForge nt np r a1 a2 a3 = (-1000001, nt, np, r) := by
           unfold fForge
           rw [if_pos (by assumption)]
         exact ⟨_, _, rfl, rfl, by rw [hq]; exact ⟨rfl, fnd_rm h67⟩⟩)
      | (have hq : fForge nt np r (nI t) a2 a3 = (-1000001, nt, np, r) := by
           unfold fForge
           rw [if_neg (by assumption), if_pos (by assumption)]
         exact ⟨_, _, rfl, rfl, by rw [hq]; exact ⟨rfl, fnd_rm h67⟩⟩)
  · obtain ⟨t, ht, rfl⟩ := in_k rfl (by omega) (bI_ne0 h1)
    refine x_aload_n hm rfl rfl ?_
    refine x_iload_n hm rfl rfl ?_
    refine x_iload_n hm rfl rfl ?_
    refine x_iload_n hm rfl rfl ?_
    refine x_callV hm rfl rfl (g150 hnt hnp) ?_
    refine x_if_ne hm rfl (t := 25) rfl (fun h2 => ?_) (fun h2 => ?_)
    · have hmf := bI_ne0 h2
      have hz : bI (mayF nt np (nI t) a2 a3) ≠ 0 := h2
      obtain ⟨f, hf, rfl⟩ := mayF_f hmf
      refine x_iload_n hm rfl rfl ?_
      refine x_iconst hm rfl (v := nI 5) (by decide) ?_
      refine x_icmp_ne hm rfl (t := 50) rfl (fun h3 => ?_) (fun h3 => ?_)
      · have hnc : ¬ fgC r (nI t) (nI f) a3 := fun z => h3 z.1
        refine x_aload_n hm rfl rfl ?_
        refine x_iload_n hm rfl rfl ?_
        refine x_iload_n hm rfl rfl ?_
        refine x_callS hm rfl rfl (t137) ?_
        refine x_iload_n hm rfl rfl ?_
        refine x_callV hm rfl rfl (t155 (by omega)) ?_
        refine x_iret hm rfl rfl (by first | rfl | exact bI_nar | decide) ?_
        first
          | (have hq : fForge nt np r (nI t) (nI f) a3 = (r (14 + 6 * t + f), nt, np, put1 r (14 + 6 * t + f) a3) := by
               unfold fForge
               rw [if_neg (by assumption), if_neg (by assumption), if_neg hnc]
               rw [jI_nat (k := t) (by omega)]
               rw [jI_nat (k := f) (by omega)]
             exact ⟨_, _, rfl, rfl, by rw [hq]; exact ⟨congrFun h67 _, by rw [← h67]; exact mput67, fun a h _ _ _ => mpo h⟩⟩)
          | (have hq : fForge nt np r (nI t) (nI 5) a3 = (r (14 + 6 * t + 5), nt, np, put1 r (14 + 6 * t + 5) a3) := by
               unfold fForge
               rw [if_neg (by assumption), if_neg (by assumption), if_neg hnc]
               rw [jI_nat (k := t) (by omega)]
               rw [jI_nat (k := 5) (by omega)]
             exact ⟨_, _, rfl, rfl, by rw [hq]; exact ⟨congrFun h67 _, by rw [← h67]; exact mput67, fun a h _ _ _ => mpo h⟩⟩)
          | (have hq : fForge nt np r (nI t) (nI 5) (nI w) = (r (14 + 6 * t + 5), nt, np, put1 r (14 + 6 * t + 5) (nI w)) := by
               unfold fForge
               rw [if_neg (by assumption), if_neg (by assumption), if_neg hnc]
               rw [jI_nat (k := t) (by omega)]
               rw [jI_nat (k := 5) (by omega)]
             exact ⟨_, _, rfl, rfl, by rw [hq]; exact ⟨congrFun h67 _, by rw [← h67]; exact mput67, fun a h _ _ _ => mpo h⟩⟩)
      · obtain rfl : f = 5 := jI_inj (by omega) (by decide) h3
        refine x_iload_n hm rfl rfl ?_
        refine x_if_lt hm rfl (t := 50) rfl (fun h4 => ?_) (fun h4 => ?_)
        · have hnc : ¬ fgC r (nI t) (nI 5) a3 := fun z => (((mayF_5 rfl).mpr hmf).resolve_left z.2.1).1.1 |> fun g => absurd h4 (Int32.not_lt.mpr g)
          refine x_aload_n hm rfl rfl ?_
          refine x_iload_n hm rfl rfl ?_
          refine x_iload_n hm rfl rfl ?_
          refine x_callS hm rfl rfl (t137) ?_
          refine x_iload_n hm rfl rfl ?_
          refine x_callV hm rfl rfl (t155 (by omega)) ?_
          refine x_iret hm rfl rfl (by first | rfl | exact bI_nar | decide) ?_
          first
            | (have hq : fForge nt np r (nI t) (nI f) a3 = (r (14 + 6 * t + f), nt, np, put1 r (14 + 6 * t + f) a3) := by
                 unfold fForge
                 rw [if_neg (by assumption), if_neg (by assumption), if_neg hnc]
                 rw [jI_nat (k := t) (by omega)]
                 rw [jI_nat (k := f) (by omega)]
               exact ⟨_, _, rfl, rfl, by rw [hq]; exact ⟨congrFun h67 _, by rw [← h67]; exact mput67, fun a h _ _ _ => mpo h⟩⟩)
            | (have hq : fForge nt np r (nI t) (nI 5) a3 = (r (14 + 6 * t + 5), nt, np, put1 r (14 + 6 * t + 5) a3) := by
                 unfold fForge
                 rw [if_neg (by assumption), if_neg (by assumption), if_neg hnc]
                 rw [jI_nat (k := t) (by omega)]
                 rw [jI_nat (k := 5) (by omega)]
               exact ⟨_, _, rfl, rfl, by rw [hq]; exact ⟨congrFun h67 _, by rw [← h67]; exact mput67, fun a h _ _ _ => mpo h⟩⟩)
            | (have hq : fForge nt np r (nI t) (nI 5) (nI w) = (r (14 + 6 * t + 5), nt, np, put1 r (14 + 6 * t + 5) (nI w)) := by
                 unfold fForge
                 rw [if_neg (by assumption), if_neg (by assumption), if_neg hnc]
                 rw [jI_nat (k := t) (by omega)]
                 rw [jI_nat (k := 5) (by omega)]
               exact ⟨_, _, rfl, rfl, by rw [hq]; exact ⟨congrFun h67 _, by rw [← h67]; exact mput67, fun a h _ _ _ => mpo h⟩⟩)
        · have hv5 := ((mayF_5 rfl).mpr hmf).resolve_left fun e => h4 (by rw [e]; decide)
          obtain ⟨w, hw, rfl⟩ := in_k rfl (by omega) hv5.1
          refine x_aload_n hm rfl rfl ?_
          refine x_iload_n hm rfl rfl ?_
          refine x_iload_n hm rfl rfl ?_
          refine x_cVe hm rfl rfl (e154 hI hnt hn8 hw (by omega)) (fun v5 r5 => ?_)
          rw [h67] at r5
          refine x_if_eq hm rfl (t := 50) rfl (fun h6 => ?_) (fun h6 => ?_)
          · have hnc : ¬ fgC r (nI t) (nI 5) (nI w) := fun z => by
              have z3 := z.2.2
              rw [jI_nat (by omega), jI_nat (by omega)] at z3
              exact r5.elim (fun q => absurd (q.2.symm.trans h6) (by decide)) (fun q => q.1 z3)
            refine x_aload_n hm rfl rfl ?_
            refine x_iload_n hm rfl rfl ?_
            refine x_iload_n hm rfl rfl ?_
            refine x_callS hm rfl rfl (t137) ?_
            refine x_iload_n hm rfl rfl ?_
            refine x_callV hm rfl rfl (t155 (by omega)) ?_
            refine x_iret hm rfl rfl (by first | rfl | exact bI_nar | decide) ?_
            first
              | (have hq : fForge nt np r (nI t) (nI f) a3 = (r (14 + 6 * t + f), nt, np, put1 r (14 + 6 * t + f) a3) := by
                   unfold fForge
                   rw [if_neg (by assumption), if_neg (by assumption), if_neg hnc]
                   rw [jI_nat (k := t) (by omega)]
                   rw [jI_nat (k := f) (by omega)]
                 exact ⟨_, _, rfl, rfl, by rw [hq]; exact ⟨congrFun h67 _, by rw [← h67]; exact mput67, fun a h _ _ _ => mpo h⟩⟩)
              | (have hq : fForge nt np r (nI t) (nI 5) a3 = (r (14 + 6 * t + 5), nt, np, put1 r (14 + 6 * t + 5) a3) := by
                   unfold fForge
                   rw [if_neg (by assumption), if_neg (by assumption), if_neg hnc]
                   rw [jI_nat (k := t) (by omega)]
                   rw [jI_nat (k := 5) (by omega)]
                 exact ⟨_, _, rfl, rfl, by rw [hq]; exact ⟨congrFun h67 _, by rw [← h67]; exact mput67, fun a h _ _ _ => mpo h⟩⟩)
              | (have hq : fForge nt np r (nI t) (nI 5) (nI w) = (r (14 + 6 * t + 5), nt, np, put1 r (14 + 6 * t + 5) (nI w)) := by
                   unfold fForge
                   rw [if_neg (by assumption), if_neg (by assumption), if_neg hnc]
                   rw [jI_nat (k := t) (by omega)]
                   rw [jI_nat (k := 5) (by omega)]
                 exact ⟨_, _, rfl, rfl, by rw [hq]; exact ⟨congrFun h67 _, by rw [← h67]; exact mput67, fun a h _ _ _ => mpo h⟩⟩)
          · have hcy : fgC r (nI t) (nI 5) (nI w) := ⟨rfl, fun q => absurd (Int32.not_lt.mp (jI_nn (show w < 2147483648 by omega))) (by rw [q]; decide), by rw [jI_nat (by omega), jI_nat (by omega)]; exact (r5.resolve_right fun q => h6 q.2).1⟩
            refine x_aload_n hm rfl rfl ?_
            refine x_ldcI hm rfl (v := (-1000005 : Int32)) (by decide +kernel) ?_
            refine x_callV hm rfl rfl (e135 (by decide +kernel)) ?_
            refine x_iret hm rfl rfl (by first | rfl | exact bI_nar | decide) ?_
            have hq : fForge nt np r (nI t) (nI 5) (nI w) = (-1000005, nt, np, r) := by
              unfold fForge
              rw [if_neg (by assumption), if_neg (by assumption), if_pos hcy]
            exact ⟨_, _, rfl, rfl, by rw [hq]; exact ⟨rfl, fnd_rm h67⟩⟩
    · refine x_aload_n hm rfl rfl ?_
      refine x_ldcI hm rfl (v := (-1000001 : Int32)) (by decide +kernel) ?_
      refine x_callV hm rfl rfl (e135 (by decide +kernel)) ?_
      refine x_iret hm rfl rfl (by first | rfl | exact bI_nar | decide) ?_
      first
        | (have hq : fForge nt np r a1 a2 a3 = (-1000001, nt, np, r) := by
             unfold fForge
             rw [if_pos (by assumption)]
           exact ⟨_, _, rfl, rfl, by rw [hq]; exact ⟨rfl, fnd_rm h67⟩⟩)
        | (have hq : fForge nt np r (nI t) a2 a3 = (-1000001, nt, np, r) := by
             unfold fForge
             rw [if_neg (by assumption), if_pos (by assumption)]
           exact ⟨_, _, rfl, rfl, by rw [hq]; exact ⟨rfl, fnd_rm h67⟩⟩)
theorem Gd.forge {a1 a2 a3 : Int32} (h : Gd nt np r) : Gd (fForge nt np r a1 a2 a3).2.1 (fForge nt np r a1 a2 a3).2.2.1 (fForge nt np r a1 a2 a3).2.2.2 := by
  have ht8 := h.2.2.1.1
  have hp8 := h.2.2.1.2.1
  unfold fForge
  split
  · exact h
  · rename_i h1
    obtain ⟨t, ht, rfl⟩ := in_k rfl (by omega) (bI_ne0 h1)
    split
    · exact h
    · rename_i h2
      have hm := bI_ne0 h2
      obtain ⟨f, hf, rfl⟩ := mayF_f hm
      by_cases hc : fgC r (nI t) (nI f) a3
      · rw [if_pos hc]
        exact h
      · rw [if_neg hc, jI_nat (by omega), jI_nat (by omega)]
        refine h.pt ht hf (fun e => ?_) (fun e => ?_) (fun e => ?_) (fun e => ?_) (fun e => ?_) (fun e => ?_) <;> subst e
        · exact le_k (by decide) ((mayF_0 rfl).mpr hm)
        · exact le_k (by decide) ((mayF_1 rfl).mpr hm)
        · exact le_k (by decide) ((mayF_2 rfl).mpr hm)
        · exact le_k (by decide) ((mayF_3 rfl).mpr hm)
        · exact ((mayF_4 rfl).mpr hm).imp id fun g => in_k rfl (by omega) g
        · exact ((mayF_5 rfl).mpr hm).imp id fun g => in_k rfl (by omega) g.1
theorem j_forge {a1 a2 a3 : Int32} (hJ : J M) : JJ X 17 149 [.ref 0, .int a1, .int a2, .int a3] [.ref 66, .int a1, .int a2, .int a3] M Eq := by
  obtain ⟨nt, np, hR, h1, h2, hV, hr, -⟩ := hJ.2.2.1
  exact J.join hJ (t17 hJ.1.1) (g17 hR hV.1 hV.2.1 hV) (fun M1 i => t149 i) (fun M1 i k => g149 (k 67 (by decide)) (by rw [k 67 (by decide)]; exact h1) hV.1 (by rw [k 67 (by decide)]; exact h2) hV.2.1 i) (Gd.forge ⟨h1, h2, hV, hr⟩)
end FO
end
section
/-! ===== paint, fits, likes: the reference ===== -/
theorem jI_and (a b : Nat) : nI a &&& nI b = nI (a &&& b) := by
  rw [← Int32.toBitVec_inj, Int32.toBitVec_and]
  exact BitVec.ofNat_and.symm
theorem jI_or (a b : Nat) : nI a ||| nI b = nI (a ||| b) := by
  rw [← Int32.toBitVec_inj, Int32.toBitVec_or]
  exact BitVec.ofNat_or.symm
theorem hbit (s : Int32) {x : Nat} (hx : x < 16) : ((s >>> (nI x &&& 31)) &&& nI 1 = nI 1) ↔ s.toBitVec.getLsbD x = true := by
  have e1 : nI x &&& 31 = nI x := (by decide +kernel : ∀ x, x < 16 → nI x &&& 31 = nI x) x hx
  have e2 : ((nI x).toBitVec.smod 32).toNat = x := (by decide +kernel : ∀ x, x < 16 → ((nI x).toBitVec.smod 32).toNat = x) x hx
  have e4 : (s.toBitVec.sshiftRight x).getLsbD 0 = s.toBitVec.getLsbD x := by
    rw [BitVec.getLsbD_sshiftRight, if_pos (by omega), Nat.add_zero]
    rfl
  rw [e1, ← Int32.toBitVec_inj, Int32.toBitVec_and, Int32.toBitVec_shiftRight, BitVec.sshiftRight_eq', e2, show (nI 1).toBitVec = 1#32 from rfl]
  constructor
  · intro h
    have h0 := congrArg (fun b => b.getLsbD 0) h
    rw [BitVec.getLsbD_and, e4, BitVec.getLsbD_one] at h0
    rw [Bool.and_eq_true_iff.mp (h0.trans (by decide)) |>.1]
  · intro h
    refine BitVec.eq_of_getLsbD_eq fun i hi => ?_
    rw [BitVec.getLsbD_and, BitVec.getLsbD_one]
    by_cases e : i = 0
    · subst e
      rw [e4, h]
      rfl
    · rw [decide_eq_false e, Bool.and_false, Bool.and_false]
theorem bitR2 : ∀ k, k < 1024 → ∀ m, m < 10 → ((nI k >>> (nI m &&& 31)) &&& nI 1 = nI 1 ↔ k.testBit m = true) := by
  intro k _ m hm
  rw [hbit _ (show m < 16 by omega), show (nI k).toBitVec = BitVec.ofNat 32 k from rfl, BitVec.getLsbD_ofNat, decide_eq_true (show m < 32 by omega), Bool.true_and]
theorem one_sh : ∀ y, y < 16 → nI 1 <<< (nI y &&& 31) = nI (2 ^ y) := by decide +kernel
theorem bitO2 : ∀ k, k < 1024 → ∀ m, m < 10 → nI k ||| (nI 1 <<< (nI m &&& 31)) = nI (k ||| 2 ^ m) := by
  intro k _ m hm
  rw [one_sh m (by omega), jI_or]
theorem bit02 : ∀ k, k < 1024 → nI k ||| nI 0 = nI k := by
  intro k _
  rw [jI_or, Nat.or_zero]
theorem wS_lt2 {P : Nat → Prop} {n : Nat} (h : n ≤ 10) : wS P n < 1024 := by
  induction n with
  | zero => exact (by decide : 0 < 1024)
  | succ n ih =>
    by_cases g : P n
    · rw [wS_t g]
      exact Nat.or_lt_two_pow (n := 10) (ih (by omega)) (Nat.pow_lt_pow_right (by decide) (by omega))
    · rw [wS_f g]
      exact ih (by omega)
theorem bits_le2 : ∀ s, s < 1024 → ((nI s) &&& (nI s - nI 1)).toNatClampNeg < 1024 ∧ nI ((nI s) &&& (nI s - nI 1)).toNatClampNeg = (nI s) &&& (nI s - nI 1) ∧ (¬ s = 0 → ((nI s) &&& (nI s - nI 1)).toNatClampNeg < s) := by
  intro s hs
  by_cases h : s = 0
  · subst h
    exact ⟨by decide +kernel, by decide +kernel, fun h => absurd rfl h⟩
  · have l : s &&& (s - 1) ≤ s - 1 := Nat.and_le_right
    rw [sub_le (show 1 ≤ s by omega), jI_and, jI_nat (by omega)]
    exact ⟨by omega, rfl, fun _ => by omega⟩
/-- the first k things painted so -/
def pnt (s : Nat) (r : Nat → Int32) : Nat → Nat → Int32
  | 0 => r
  | k + 1 => put1 (pnt s r k) (14 + 6 * k + 3) (if s.testBit k = true then nI 9 else r (14 + 6 * k + 3))
theorem pnt_hi {s j : Nat} {r : Nat → Int32} : ∀ k, (∀ u, u < k → ¬ j = 14 + 6 * u + 3) → pnt s r k j = r j := by
  intro k
  induction k with
  | zero => exact fun _ => rfl
  | succ k ih =>
    intro h
    show put1 (pnt s r k) (14 + 6 * k + 3) _ j = _
    rw [put1_o (h k (Nat.lt_succ_self _))]
    exact ih fun u hu => h u (by omega)
/-- what all lose with a set painted, or too much -/
def sLp (r : Nat → Int32) (w : Int32) (nt np n : Nat) (m : Int32) (k : Nat) : Int32 := if sBits 256 (nI 0) (nI k) = m then sThick (pnt k r nt) nt - sThick (sDays w nt np n (pnt k r nt)) nt else nI 2147483647
def sPt (r : Nat → Int32) (w : Int32) (nt np n : Nat) (m : Int32) (k : Nat) (z : Int32 × Int32) : Int32 × Int32 := (if sLp r w nt np n m k < z.2 then nI k else z.1, mn2 z.2 (sLp r w nt np n m k))
/-- whether a thing wore so -/
def sFt (N : Nat → Int32) (w : Int32) (nt np t : Nat) : Nat → Nat → (Nat → Int32) → Bool
  | 0, _, _ => true
  | f + 1, k, r => if N k = -1 ∨ N k = r (14 + 6 * t + 2) then sFt N w nt np t f (k + 1) (sDay w nt np r) else false
noncomputable def sFs (N : Nat → Int32) (w : Int32) (nt np t z pl : Nat) (r : Nat → Int32) (n : Nat) : Nat := wS (fun v => sFt N w nt np t z 0 (put1 r pl (nI v)) = true) n
def sLk (s : Nat) : Nat → Nat → Int32 × Bool
  | 0, _ => (-1000004, true)
  | f + 1, k => if s.testBit k = true then (nI k, false) else sLk s f (k + 1)
def qPaint (r : Nat → Int32) (nt np : Nat) (a1 a2 : Int32) : Int32 × Bool := if bI (nI 0 ≤ a1 ∧ a1 ≤ nI 8) = 0 then (-1000001, true) else if bI (nI 0 ≤ a2 ∧ a2 ≤ nI 60) = 0 then (-1000001, true) else ((fo (sPt r (-1) nt np a2.toNatClampNeg (mn2 a1 (nI nt))) (2 ^ nt) (nI 0, 2147483647)).1, false)
noncomputable def qFits (l : Int32) (W N r : Nat → Int32) (nt np : Nat) (a1 a2 a3 : Int32) : Int32 × Bool := if ¬ l = 0 then (l, true) else if bI (nI 0 ≤ a2 ∧ a2 ≤ nI np - nI 1) = 0 then (-1000001, true) else if bI (nI 0 ≤ a3 ∧ a3 ≤ nI nt - nI 1) = 0 then (-1000001, true) else (sBits 1024 (nI 0) (nI (sFs (fun j => N (40 * a1.toNatClampNeg + j)) (-1) nt np a3.toNatClampNeg (W a1.toNatClampNeg).toNatClampNeg (62 + 7 * a2.toNatClampNeg + (3 + (r (14 + 6 * a3.toNatClampNeg + 0)).toNatClampNeg)) r 10)), false)
noncomputable def qLikes (l : Int32) (W N r : Nat → Int32) (nt np : Nat) (a1 a2 a3 : Int32) : Int32 × Bool := if ¬ l = 0 then (l, true) else if bI (nI 0 ≤ a2 ∧ a2 ≤ nI np - nI 1) = 0 then (-1000001, true) else if bI (nI 0 ≤ a3 ∧ a3 ≤ nI nt - nI 1) = 0 then (-1000001, true) else sLk (sFs (fun j => N (40 * a1.toNatClampNeg + j)) (-1) nt np a3.toNatClampNeg (W a1.toNatClampNeg).toNatClampNeg (62 + 7 * a2.toNatClampNeg + (3 + (r (14 + 6 * a3.toNatClampNeg + 0)).toNatClampNeg)) r 10) 10 0
section EP
variable {X : mSc} {Q : Option Value → mHp → Prop} {M : mM}
/-- what a try with paints leaves -/
def Kp (M M1 : mM) : Prop := (Wf M → Wf M1) ∧ ∀ a, a ≠ 69 → a ≠ 71 → a ≠ 72 → M1 a = M a
theorem Kp.rf : Kp M M := ⟨fun h => h, fun _ _ _ _ => rfl⟩
theorem Kp.to {M1 M2 : mM} (h : Kp M M1) (g : Kp M1 M2) : Kp M M2 := ⟨fun w => g.1 (h.1 w), fun a h1 h2 h3 => (g.2 a h1 h2 h3).trans (h.2 a h1 h2 h3)⟩
theorem Kp.kq {M1 : mM} (h : Kp M M1) : Kq M M1 := ⟨h.1, fun a _ h2 _ h4 h5 => h.2 a h2 h4 h5, by rw [h.2 66 (by decide) (by decide) (by decide)], by rw [h.2 66 (by decide) (by decide) (by decide)], by rw [h.2 66 (by decide) (by decide) (by decide)]⟩
theorem Kp.fq {M1 : mM} {v : Int32} (h : Kp M M1) : Fq (v, false) M M1 := h.2 70 (by decide) (by decide) (by decide)
theorem g191 {s m : Nat} (hs : s < 1024) (hm8 : m < 10) : mT X 191 [.int (nI s), .int (nI m)] (con M) (some (.int (bI (s.testBit m = true)))) (con M) := by
  refine mT.of (row := _) rfl (Nat.le_of_ble_eq_true rfl) ?_
  have hm : mMet 191 = some _ := rfl
  refine x_iload_n hm rfl rfl ?_
  refine x_iload_n hm rfl rfl ?_
  refine x_ishr hm rfl ?_
  refine x_iconst hm rfl (v := nI 1) (by decide) ?_
  refine x_iand hm rfl ?_
  refine x_iconst hm rfl (v := nI 1) (by decide) ?_
  refine x_icmp_ne hm rfl (t := 13) rfl (fun h1 => ?_) (fun h1 => ?_)
  · refine x_iconst hm rfl (v := nI 0) (by decide) ?_
    refine x_iret hm rfl rfl (by first | rfl | exact bI_nar | decide) ?_
    first
      | exact qt (congrArg Value.int (bI_t ((bitR2 s hs m hm8).mp h1)))
      | exact qt (congrArg Value.int (bI_f fun q => h1 ((bitR2 s hs m hm8).mpr q)))
  · refine x_iconst hm rfl (v := nI 1) (by decide) ?_
    refine x_goto hm rfl (t := 14) rfl ?_
    refine x_iret hm rfl rfl (by first | rfl | exact bI_nar | decide) ?_
    first
      | exact qt (congrArg Value.int (bI_t ((bitR2 s hs m hm8).mp h1)))
      | exact qt (congrArg Value.int (bI_f fun q => h1 ((bitR2 s hs m hm8).mpr q)))
theorem m190b {r : Nat → Int32} {nt np s a : Nat} (hW : Wf M) (h67 : M 67 = r) (hnt : r 1 = nI nt) (hn8 : nt ≤ 8) (hnp : r 2 = nI np) (hp8 : np ≤ 8) (h6 : M 66 6 = -1) (hs : s < 256) (ha : a ≤ 1000) {lo : Int32} (hlo : lo = (sThick (pnt s r nt) nt - sThick (sDays (-1) nt np a (pnt s r nt)) nt)) : ∀ (n k : Nat) (M1 : mM), nt - k < n → k ≤ nt → (Wf M → Wf M1) → (∀ a, a ≠ 67 → a ≠ 69 → a ≠ 71 → a ≠ 72 → M1 a = M a) → (∀ j, (∀ u, k ≤ u → u < nt → ¬ j = 14 + 6 * u + 3) → M1 67 j = r j) → (∀ u, u < nt → M1 72 u = r (14 + 6 * u + 3)) → mEv X (QI (fun v M' => v = (sThick (pnt s r nt) nt - sThick (sDays (-1) nt np a (pnt s r nt)) nt) ∧ Kp M M')) 190 68 [some (.ref 66), some (.int (nI s)), some (.int (nI a)), some (.int lo), some (.int (nI k))] [] (con M1) := by
  have hm : mMet 190 = some _ := rfl
  intro n
  induction n with
  | zero =>
    intro k M1 hkn hkb hw hF hr hp
    omega
  | succ n ih =>
    intro k M1 hkn hkb hw hF hr hp
    have hn1 : M1 67 1 = nI nt := (hr 1 (fun u _ _ => by omega)).trans hnt
    refine x_iload hm rfl rfl ?_
    refine x_aload_n hm rfl rfl ?_
    refine x_getf hm rfl (gR rfl rfl) ?_
    refine x_iconst hm rfl (v := nI 1) (by decide) ?_
    refine x_iald hm rfl (lI rfl (by omega) (by decide)) ?_
    rw [hn1]
    refine x_icmp_ge hm rfl (t := 103) rfl (fun h1 => ?_) (fun h1 => ?_)
    · obtain rfl : k = nt := Nat.le_antisymm hkb ((jI_le (by omega) (by omega)).mp h1)
      refine x_iload_n hm rfl rfl ?_
      refine x_iret hm rfl rfl (by first | rfl | exact bI_nar | decide) ?_
      refine ⟨_, _, rfl, rfl, hlo, hw, fun a g1 g2 g3 => ?_⟩
      by_cases e : a = 67
      · subst e
        rw [h67]
        funext j
        exact hr j fun u g1 g2 => by omega
      · exact hF a e g1 g2 g3
    · have hk : k < nt := Nat.lt_of_not_le fun h => h1 (nI_le h (by omega))
      refine x_aload_n hm rfl rfl ?_
      refine x_getf hm rfl (gR rfl rfl) ?_
      refine x_iload hm rfl rfl ?_
      refine x_iconst hm rfl (v := nI 3) (by decide) ?_
      refine x_callS hm rfl rfl (t137) ?_
      refine x_aload_n hm rfl rfl ?_
      refine x_getf hm rfl (gR rfl rfl) ?_
      refine x_iload hm rfl rfl ?_
      refine x_iald hm rfl (lI rfl (by omega) (by decide)) ?_
      rw [hp k hk]
      refine x_iast hm rfl (sI rfl (by omega) (by decide)) ?_
      refine x_iinc hm rfl rfl (v := nI 1) (by decide) rfl ?_
      rw [jI_add]
      refine x_goto hm rfl (t := 68) rfl ?_
      refine ih _ _ (by omega) (by omega) (fun w => (Sf.thing (by omega) (by decide) (by decide) (by decide) : Sf M1 (mput M1 67 (14 + 6 * k + 3) (r (14 + 6 * k + 3)))).1 (hw w)) (fun a g1 g2 g3 g4 => (mpo g1).trans (hF a g1 g2 g3 g4)) (fun j hj => ?_) (fun u hu => by rw [mpo (by decide)]; exact hp u hu)
      rw [mput67]
      by_cases e : j = 14 + 6 * k + 3
      · subst e
        exact put1_s
      · rw [put1_o e]
        exact hr j fun u g1 g2 => by
          by_cases e2 : u = k
          · subst e2; exact e
          · exact hj u (by omega) g2
theorem m190a {r : Nat → Int32} {nt np s a : Nat} (hW : Wf M) (h67 : M 67 = r) (hnt : r 1 = nI nt) (hn8 : nt ≤ 8) (hnp : r 2 = nI np) (hp8 : np ≤ 8) (h6 : M 66 6 = -1) (hs : s < 256) (ha : a ≤ 1000) : ∀ (n k : Nat) (M1 : mM), nt - k < n → k ≤ nt → Sf M M1 → (∀ a, a ≠ 67 → a ≠ 72 → M1 a = M a) → M1 67 = pnt s r k → (∀ u, u < k → M1 72 u = r (14 + 6 * u + 3)) → mEv X (QI (fun v M' => v = (sThick (pnt s r nt) nt - sThick (sDays (-1) nt np a (pnt s r nt)) nt) ∧ Kp M M')) 190 2 [some (.ref 66), some (.int (nI s)), some (.int (nI a)), some (.int (nI k)), none] [] (con M1) := by
  have hm : mMet 190 = some _ := rfl
  intro n
  induction n with
  | zero =>
    intro k M1 hkn hkb hS hF hr hp
    omega
  | succ n ih =>
    intro k M1 hkn hkb hS hF hr hp
    have hn1 : M1 67 1 = nI nt := hS.2.1.trans ((congrFun h67 1).trans hnt)
    have hp1 : M1 67 2 = nI np := hS.2.2.1.trans ((congrFun h67 2).trans hnp)
    refine x_iload_n hm rfl rfl ?_
    refine x_aload_n hm rfl rfl ?_
    refine x_getf hm rfl (gR rfl rfl) ?_
    refine x_iconst hm rfl (v := nI 1) (by decide) ?_
    refine x_iald hm rfl (lI rfl (by omega) (by decide)) ?_
    rw [hn1]
    refine x_icmp_ge hm rfl (t := 59) rfl (fun h1 => ?_) (fun h1 => ?_)
    · obtain rfl : k = nt := Nat.le_antisymm hkb ((jI_le (by omega) (by omega)).mp h1)
      refine x_aload_n hm rfl rfl ?_
      refine x_iload_n hm rfl rfl ?_
      refine x_cVi hm rfl rfl (e180 (hS.1 hW) hn1 hn8 hp1 hp8 (by omega)) (fun v2 M2 r2 => ?_)
      have hlo := r2.1
      rw [hr, hF 66 (by decide) (by decide), h6] at hlo
      refine x_istore_n hm rfl rfl ?_
      refine x_iconst hm rfl (v := nI 0) (by decide) ?_
      refine x_istore hm rfl rfl ?_
      refine m190b hW h67 hnt hn8 hnp hp8 h6 hs ha hlo _ 0 _ (Nat.lt_succ_self _) (Nat.zero_le _) (fun w => r2.2.1 (hS.1 w)) (fun a g1 g2 g3 g4 => (r2.2.2 a g2 g3).trans (hF a g1 g4)) (fun j hj => ?_) (fun u hu => ?_)
      · rw [r2.2.2 67 (by decide) (by decide), hr]
        exact pnt_hi _ fun u hu => hj u (Nat.zero_le _) hu
      · rw [r2.2.2 72 (by decide) (by decide)]
        exact hp u hu
    · have hk : k < nt := Nat.lt_of_not_le fun h => h1 (nI_le h (by omega))
      have hold : M1 67 (14 + 6 * k + 3) = r (14 + 6 * k + 3) := by rw [hr]; exact pnt_hi k fun u hu => by omega
      refine x_aload_n hm rfl rfl ?_
      refine x_getf hm rfl (gR rfl rfl) ?_
      refine x_iload_n hm rfl rfl ?_
      refine x_aload_n hm rfl rfl ?_
      refine x_iload_n hm rfl rfl ?_
      refine x_iconst hm rfl (v := nI 3) (by decide) ?_
      refine x_callV hm rfl rfl (t143 (by omega) (by omega)) ?_
      rw [hold]
      refine x_iast hm rfl (sI rfl (by omega) (by decide)) ?_
      refine x_aload_n hm rfl rfl ?_
      refine x_getf hm rfl (gR rfl rfl) ?_
      refine x_iload_n hm rfl rfl ?_
      refine x_iconst hm rfl (v := nI 3) (by decide) ?_
      refine x_callS hm rfl rfl (t137) ?_
      refine x_iload_n hm rfl rfl ?_
      refine x_iload_n hm rfl rfl ?_
      refine x_callS hm rfl rfl (g191 (by omega) (by omega)) ?_
      refine x_if_eq hm rfl (t := 46) rfl (fun h3 => ?_) (fun h3 => ?_)
      · have hb : (if s.testBit k = true then nI 9 else r (14 + 6 * k + 3)) = r (14 + 6 * k + 3) := if_neg (bI_eq0.mp h3)
        refine x_aload_n hm rfl rfl ?_
        refine x_getf hm rfl (gR rfl rfl) ?_
        refine x_iload_n hm rfl rfl ?_
        refine x_iald hm rfl (lI rfl (by omega) (by decide)) ?_
        rw [mp0]
        refine x_iast hm rfl (sI rfl (by omega) (by decide)) ?_
        refine x_iinc hm rfl rfl (v := nI 1) (by decide) rfl ?_
        rw [jI_add]
        refine x_goto hm rfl (t := 2) rfl ?_
        refine ih _ _ (by omega) (by omega) ((hS.trans (Sf.put0 (kd72 _) (by decide) (by decide))).trans (Sf.thing (by omega) (by decide) (by decide) (by decide))) (fun a g1 g2 => (mpo g1).trans ((mpo g2).trans (hF a g1 g2))) (by rw [mput67, mpo (by decide), hr]; show _ = put1 (pnt s r k) _ _; rw [hb]) (fun u hu => ?_)
        rw [mpo (by decide)]
        by_cases e : u = k
        · subst e; exact mp0
        · rw [mpf e]; exact hp u (by omega)
      · have hb : (if s.testBit k = true then nI 9 else r (14 + 6 * k + 3)) = nI 9 := if_pos (bI_ne0 h3)
        refine x_bipush hm rfl (v := nI 9) (by decide) ?_
        refine x_goto hm rfl (t := 52) rfl ?_
        refine x_iast hm rfl (sI rfl (by omega) (by decide)) ?_
        refine x_iinc hm rfl rfl (v := nI 1) (by decide) rfl ?_
        rw [jI_add]
        refine x_goto hm rfl (t := 2) rfl ?_
        refine ih _ _ (by omega) (by omega) ((hS.trans (Sf.put0 (kd72 _) (by decide) (by decide))).trans (Sf.thing (by omega) (by decide) (by decide) (by decide))) (fun a g1 g2 => (mpo g1).trans ((mpo g2).trans (hF a g1 g2))) (by rw [mput67, mpo (by decide), hr]; show _ = put1 (pnt s r k) _ _; rw [hb]) (fun u hu => ?_)
        rw [mpo (by decide)]
        by_cases e : u = k
        · subst e; exact mp0
        · rw [mpf e]; exact hp u (by omega)
theorem e190 {r : Nat → Int32} {nt np s a : Nat} (hW : Wf M) (h67 : M 67 = r) (hnt : r 1 = nI nt) (hn8 : nt ≤ 8) (hnp : r 2 = nI np) (hp8 : np ≤ 8) (h6 : M 66 6 = -1) (hs : s < 256) (ha : a ≤ 1000) : ∃ v M', mT X 190 [.ref 66, .int (nI s), .int (nI a)] (con M) (some (.int v)) (con M') ∧ v = (sThick (pnt s r nt) nt - sThick (sDays (-1) nt np a (pnt s r nt)) nt) ∧ Kp M M' := by
  refine ti_of (row := _) rfl (Nat.le_of_ble_eq_true rfl) ?_
  have hm : mMet 190 = some _ := rfl
  refine x_iconst hm rfl (v := nI 0) (by decide) ?_
  refine x_istore_n hm rfl rfl ?_
  exact m190a hW h67 hnt hn8 hnp hp8 h6 hs ha _ 0 _ (Nat.lt_succ_self _) (Nat.zero_le _) Sf.rf (fun _ _ _ => rfl) h67 (fun u hu => absurd hu (Nat.not_lt_zero _))
theorem m189 {a : Nat} {c m : Int32} {nt np : Nat} (hW : Wf M) (hnt : M 67 1 = nI nt) (hn8 : nt ≤ 8) (hnp : M 67 2 = nI np) (hp8 : np ≤ 8) (h6 : M 66 6 = -1) (ha : a ≤ 1000) : ∀ (n k : Nat) (b l : Int32) (x7 : Option Value) (M1 : mM), 2 ^ nt - k < n → k ≤ 2 ^ nt → Kp M M1 → (b, l) = fo (sPt (M 67) (-1) nt np a m) k (nI 0, 2147483647) → mEv X (QI (fun v M' => v = (fo (sPt (M 67) (-1) nt np a m) (2 ^ nt) (nI 0, 2147483647)).1 ∧ Kp M M')) 189 48 [some (.ref 66), some (.int c), some (.int (nI a)), some (.int m), some (.int b), some (.int l), some (.int (nI k)), x7] [] (con M1) := by
  have hm : mMet 189 = some _ := rfl
  intro n
  induction n with
  | zero =>
    intro k b l x7 M1 hkn hkb hS hz
    omega
  | succ n ih =>
    intro k b l x7 M1 hkn hkb hS hz
    have h671 : M1 67 = M 67 := hS.2 67 (by decide) (by decide) (by decide)
    have hn1 : M1 67 1 = nI nt := (congrFun h671 1).trans hnt
    have hpw := pow_k hn8
    refine x_iload hm rfl rfl ?_
    refine x_iconst hm rfl (v := nI 1) (by decide) ?_
    refine x_aload_n hm rfl rfl ?_
    refine x_getf hm rfl (gR rfl rfl) ?_
    refine x_iconst hm rfl (v := nI 1) (by decide) ?_
    refine x_iald hm rfl (lI rfl (by omega) (by decide)) ?_
    rw [hn1]
    refine x_ishl hm rfl ?_
    rw [shl_k nt hn8]
    refine x_icmp_ge hm rfl (t := 115) rfl (fun h1 => ?_) (fun h1 => ?_)
    · obtain rfl : k = 2 ^ nt := Nat.le_antisymm hkb ((jI_le (by omega) (by omega)).mp h1)
      refine x_iload hm rfl rfl ?_
      refine x_iret hm rfl rfl (by first | rfl | exact bI_nar | decide) ?_
      exact ⟨_, _, rfl, rfl, congrArg Prod.fst hz, hS⟩
    · have hk : k < 2 ^ nt := Nat.lt_of_not_le fun h => h1 (nI_le h (by omega))
      refine x_iload hm rfl rfl ?_
      refine x_callS hm rfl rfl (g168 (by omega)) ?_
      refine x_iload_n hm rfl rfl ?_
      refine x_icmp_ne hm rfl (t := 80) rfl (fun h2 => ?_) (fun h2 => ?_)
      · have hl : nI 2147483647 = sLp (M 67) (-1) nt np a m k := (if_neg h2).symm
        have hS3 := hS
        refine x_ldcI hm rfl (v := nI 2147483647) (by decide +kernel) ?_
        refine x_istore hm rfl rfl ?_
        refine x_iload hm rfl rfl ?_
        refine x_iload hm rfl rfl ?_
        refine x_icmp_ge hm rfl (t := 96) rfl (fun h3 => ?_) (fun h3 => ?_)
        · refine x_iload hm rfl rfl ?_
          refine x_istore hm rfl rfl ?_
          refine x_iload hm rfl rfl ?_
          refine x_iload hm rfl rfl ?_
          refine x_lib hm rfl rfl ?_
          dsimp only
          refine x_istore hm rfl rfl ?_
          refine x_iinc hm rfl rfl (v := nI 1) (by decide) rfl ?_
          rw [jI_add]
          refine x_goto hm rfl (t := 48) rfl ?_
          first
            | exact ih _ _ _ _ _ (by omega) (by omega) hS3 (by show _ = sPt (M 67) (-1) nt np a m k _; rw [← hz]; unfold sPt mn2; dsimp only; rw [← hl, if_pos (by first | assumption | exact Int32.not_le.mp (by assumption)), if_pos (by first | assumption | exact Int32.not_le.mp (by assumption))])
            | exact ih _ _ _ _ _ (by omega) (by omega) hS3 (by show _ = sPt (M 67) (-1) nt np a m k _; rw [← hz]; unfold sPt mn2; dsimp only; rw [← hl, if_neg (by first | assumption | exact Int32.not_lt.mpr (by assumption)), if_neg (by first | assumption | exact Int32.not_lt.mpr (by assumption))])
        · refine x_iload hm rfl rfl ?_
          refine x_goto hm rfl (t := 98) rfl ?_
          refine x_istore hm rfl rfl ?_
          refine x_iload hm rfl rfl ?_
          refine x_iload hm rfl rfl ?_
          refine x_lib hm rfl rfl ?_
          dsimp only
          refine x_istore hm rfl rfl ?_
          refine x_iinc hm rfl rfl (v := nI 1) (by decide) rfl ?_
          rw [jI_add]
          refine x_goto hm rfl (t := 48) rfl ?_
          first
            | exact ih _ _ _ _ _ (by omega) (by omega) hS3 (by show _ = sPt (M 67) (-1) nt np a m k _; rw [← hz]; unfold sPt mn2; dsimp only; rw [← hl, if_pos (by first | assumption | exact Int32.not_le.mp (by assumption)), if_pos (by first | assumption | exact Int32.not_le.mp (by assumption))])
            | exact ih _ _ _ _ _ (by omega) (by omega) hS3 (by show _ = sPt (M 67) (-1) nt np a m k _; rw [← hz]; unfold sPt mn2; dsimp only; rw [← hl, if_neg (by first | assumption | exact Int32.not_lt.mpr (by assumption)), if_neg (by first | assumption | exact Int32.not_lt.mpr (by assumption))])
      · have hb := h2
        refine x_aload_n hm rfl rfl ?_
        refine x_iload hm rfl rfl ?_
        refine x_iload_n hm rfl rfl ?_
        refine x_cVi hm rfl rfl (e190 (hS.1 hW) h671 hnt hn8 hnp hp8 (by rw [hS.2 66 (by decide) (by decide) (by decide)]; exact h6) (by omega) ha) (fun v4 M4 r4 => ?_)
        have hl := r4.1.trans (show _ = sLp (M 67) (-1) nt np a m k from (if_pos hb).symm)
        have hS3 := hS.to r4.2
        refine x_goto hm rfl (t := 82) rfl ?_
        refine x_istore hm rfl rfl ?_
        refine x_iload hm rfl rfl ?_
        refine x_iload hm rfl rfl ?_
        refine x_icmp_ge hm rfl (t := 96) rfl (fun h5 => ?_) (fun h5 => ?_)
        · refine x_iload hm rfl rfl ?_
          refine x_istore hm rfl rfl ?_
          refine x_iload hm rfl rfl ?_
          refine x_iload hm rfl rfl ?_
          refine x_lib hm rfl rfl ?_
          dsimp only
          refine x_istore hm rfl rfl ?_
          refine x_iinc hm rfl rfl (v := nI 1) (by decide) rfl ?_
          rw [jI_add]
          refine x_goto hm rfl (t := 48) rfl ?_
          first
            | exact ih _ _ _ _ _ (by omega) (by omega) hS3 (by show _ = sPt (M 67) (-1) nt np a m k _; rw [← hz]; unfold sPt mn2; dsimp only; rw [← hl, if_pos (by first | assumption | exact Int32.not_le.mp (by assumption)), if_pos (by first | assumption | exact Int32.not_le.mp (by assumption))])
            | exact ih _ _ _ _ _ (by omega) (by omega) hS3 (by show _ = sPt (M 67) (-1) nt np a m k _; rw [← hz]; unfold sPt mn2; dsimp only; rw [← hl, if_neg (by first | assumption | exact Int32.not_lt.mpr (by assumption)), if_neg (by first | assumption | exact Int32.not_lt.mpr (by assumption))])
        · refine x_iload hm rfl rfl ?_
          refine x_goto hm rfl (t := 98) rfl ?_
          refine x_istore hm rfl rfl ?_
          refine x_iload hm rfl rfl ?_
          refine x_iload hm rfl rfl ?_
          refine x_lib hm rfl rfl ?_
          dsimp only
          refine x_istore hm rfl rfl ?_
          refine x_iinc hm rfl rfl (v := nI 1) (by decide) rfl ?_
          rw [jI_add]
          refine x_goto hm rfl (t := 48) rfl ?_
          first
            | exact ih _ _ _ _ _ (by omega) (by omega) hS3 (by show _ = sPt (M 67) (-1) nt np a m k _; rw [← hz]; unfold sPt mn2; dsimp only; rw [← hl, if_pos (by first | assumption | exact Int32.not_le.mp (by assumption)), if_pos (by first | assumption | exact Int32.not_le.mp (by assumption))])
            | exact ih _ _ _ _ _ (by omega) (by omega) hS3 (by show _ = sPt (M 67) (-1) nt np a m k _; rw [← hz]; unfold sPt mn2; dsimp only; rw [← hl, if_neg (by first | assumption | exact Int32.not_lt.mpr (by assumption)), if_neg (by first | assumption | exact Int32.not_lt.mpr (by assumption))])
theorem e189 {a1 a2 : Int32} {nt np : Nat} (hW : Wf M) (hnt : M 67 1 = nI nt) (hn8 : nt ≤ 8) (hnp : M 67 2 = nI np) (hp8 : np ≤ 8) (h6 : M 66 6 = -1) : ∃ v M', mT X 189 [.ref 66, .int a1, .int a2] (con M) (some (.int v)) (con M') ∧ v = (qPaint (M 67) nt np a1 a2).1 ∧ Kq M M' ∧ Fq (qPaint (M 67) nt np a1 a2) M M' := by
  refine ti_of (row := _) rfl (Nat.le_of_ble_eq_true rfl) ?_
  have hm : mMet 189 = some _ := rfl
  refine x_iload_n hm rfl rfl ?_
  refine x_iconst hm rfl (v := nI 0) (by decide) ?_
  refine x_bipush hm rfl (v := nI 8) (by decide) ?_
  refine x_callS hm rfl rfl (t133) ?_
  refine x_if_eq hm rfl (t := 20) rfl (fun h1 => ?_) (fun h1 => ?_)
  · refine x_aload_n hm rfl rfl ?_
    refine x_ldcI hm rfl (v := (-1000001 : Int32)) (by decide +kernel) ?_
    refine x_callV hm rfl rfl (e135 (by decide +kernel)) ?_
    refine x_iret hm rfl rfl (by first | rfl | exact bI_nar | decide) ?_
    first
      | (have hq : qPaint (M 67) nt np a1 a2 = (-1000001, true) := by
           unfold qPaint
           first
             | rw [if_pos (by assumption)]
         exact ⟨_, _, rfl, rfl, congrArg Prod.fst hq.symm, fndR_kq, by rw [hq]; exact fndR_fq⟩)
      | (have hq : qPaint (M 67) nt np a1 a2 = (-1000001, true) := by
           unfold qPaint
           first
             | rw [if_pos (by assumption)]
             | rw [if_neg (by assumption), if_pos (by assumption)]
         exact ⟨_, _, rfl, rfl, congrArg Prod.fst hq.symm, fndR_kq, by rw [hq]; exact fndR_fq⟩)
  · refine x_iload_n hm rfl rfl ?_
    refine x_iconst hm rfl (v := nI 0) (by decide) ?_
    refine x_bipush hm rfl (v := nI 60) (by decide) ?_
    refine x_callS hm rfl rfl (t133) ?_
    refine x_if_ne hm rfl (t := 27) rfl (fun h2 => ?_) (fun h2 => ?_)
    · obtain ⟨a, ha, rfl⟩ := le_k (by omega) (bI_ne0 h2)
      refine x_iload_n hm rfl rfl ?_
      refine x_aload_n hm rfl rfl ?_
      refine x_getf hm rfl (gR rfl rfl) ?_
      refine x_iconst hm rfl (v := nI 1) (by decide) ?_
      refine x_iald hm rfl (lI rfl (by omega) (by decide)) ?_
      rw [hnt]
      refine x_lib hm rfl rfl ?_
      dsimp only
      refine x_istore_n hm rfl rfl ?_
      refine x_iconst hm rfl (v := nI 0) (by decide) ?_
      refine x_istore hm rfl rfl ?_
      refine x_ldcI hm rfl (v := nI 2147483647) (by decide +kernel) ?_
      refine x_istore hm rfl rfl ?_
      refine x_iconst hm rfl (v := nI 0) (by decide) ?_
      refine x_istore hm rfl rfl ?_
      have hq : qPaint (M 67) nt np a1 (nI a) = ((fo (sPt (M 67) (-1) nt np a (mn2 a1 (nI nt))) (2 ^ nt) (nI 0, 2147483647)).1, false) := by
        unfold qPaint
        rw [if_neg (by assumption), if_neg (by assumption)]
        rw [jI_nat (k := a) (by omega)]
      rw [hq]
      exact ev_mono (m189 hW hnt hn8 hnp hp8 h6 (by omega) _ 0 _ _ _ _ (Nat.lt_succ_self _) (Nat.zero_le _) Kp.rf rfl) (fun r D ⟨v, M2, g1, g2, g3, g4⟩ => ⟨v, M2, g1, g2, g3, g4.kq, g4.fq⟩)
    · refine x_aload_n hm rfl rfl ?_
      refine x_ldcI hm rfl (v := (-1000001 : Int32)) (by decide +kernel) ?_
      refine x_callV hm rfl rfl (e135 (by decide +kernel)) ?_
      refine x_iret hm rfl rfl (by first | rfl | exact bI_nar | decide) ?_
      first
        | (have hq : qPaint (M 67) nt np a1 a2 = (-1000001, true) := by
             unfold qPaint
             first
               | rw [if_pos (by assumption)]
           exact ⟨_, _, rfl, rfl, congrArg Prod.fst hq.symm, fndR_kq, by rw [hq]; exact fndR_fq⟩)
        | (have hq : qPaint (M 67) nt np a1 a2 = (-1000001, true) := by
             unfold qPaint
             first
               | rw [if_pos (by assumption)]
               | rw [if_neg (by assumption), if_pos (by assumption)]
           exact ⟨_, _, rfl, rfl, congrArg Prod.fst hq.symm, fndR_kq, by rw [hq]; exact fndR_fq⟩)
theorem m212 {s t z : Nat} {nt np : Nat} (hW : Wf M) (hnt : M 67 1 = nI nt) (hn8 : nt ≤ 8) (hnp : M 67 2 = nI np) (hp8 : np ≤ 8) (h6 : M 66 6 = -1) (hs : s ≤ 3) (ht : t < 8) (hz : M 77 s = nI z) (hz40 : z ≤ 40) : ∀ (n k : Nat) (b : Int32) (x5 : Option Value) (M1 : mM), 41 - k < n → k ≤ z → ((b = nI 1 ∧ sFt (fun j => M 78 (40 * s + j)) (-1) nt np t z 0 (M 67) = sFt (fun j => M 78 (40 * s + j)) (-1) nt np t (z - k) k (sDays (-1) nt np k (M 67))) ∨ (b = nI 0 ∧ sFt (fun j => M 78 (40 * s + j)) (-1) nt np t z 0 (M 67) = false)) → Dy (cp M 67 69 118) M1 → Dd (sDays (-1) nt np k (M 67)) (cp M 67 69 118) M1 → mEv X (QI (fun v M' => v = bI (sFt (fun j => M 78 (40 * s + j)) (-1) nt np t z 0 (M 67) = true) ∧ Kr M M')) 212 16 [some (.ref 66), some (.int (nI s)), some (.int (nI t)), some (.int b), some (.int (nI k)), x5] [] (con M1) := by
  have hm : mMet 212 = some _ := rfl
  intro n
  induction n with
  | zero =>
    intro k b x5 M1 hkn hkb hb hD hd
    omega
  | succ n ih =>
    intro k b x5 M1 hkn hkb hb hD hd
    have e77 : M1 77 s = nI z := by rw [hd.2 77 (by decide) (by decide), cp_o (by decide)]; exact hz
    have e78 : ∀ j, M1 78 j = M 78 j := fun j => by rw [hd.2 78 (by decide) (by decide), cp_o (by decide)]
    have hthk : M1 67 (14 + 6 * t + 2) = sDays (-1) nt np k (M 67) (14 + 6 * t + 2) := congrFun hd.1 _
    have hB := Kr.back hD hd (fun j hj => sDays_118 hn8 hp8 hj _)
    refine x_iload hm rfl rfl ?_
    refine x_aload_n hm rfl rfl ?_
    refine x_getf hm rfl (gR rfl rfl) ?_
    refine x_iload_n hm rfl rfl ?_
    refine x_iald hm rfl (lI rfl (by omega) (by decide)) ?_
    rw [e77]
    refine x_icmp_ge hm rfl (t := 78) rfl (fun h1 => ?_) (fun h1 => ?_)
    · obtain rfl : z = k := Nat.le_antisymm ((jI_le (by omega) (by omega)).mp h1) hkb
      have hv : b = bI (sFt (fun j => M 78 (40 * s + j)) (-1) nt np t z 0 (M 67) = true) := by
        rcases hb with ⟨g1, g2⟩ | ⟨g1, g2⟩
        · rw [g2, Nat.sub_self, g1]; exact (bI_t (c := (true : Bool) = true) rfl).symm
        · rw [g2, g1]; exact (bI_f Bool.false_ne_true).symm
      refine x_aload_n hm rfl rfl ?_
      refine x_getf hm rfl (gR rfl rfl) ?_
      refine x_aload_n hm rfl rfl ?_
      refine x_getf hm rfl (gR rfl rfl) ?_
      refine x_callS hm rfl rfl (t174 rfl rfl (by decide)) ?_
      refine x_iload_n hm rfl rfl ?_
      refine x_iret hm rfl rfl (nar01 (hb.symm.imp (fun q => q.1) (fun q => q.1))) ?_
      exact ⟨_, _, rfl, rfl, hv, hB⟩ --stop
    · have hk : k < z := Nat.lt_of_not_le fun h => h1 (nI_le h (by omega))
      refine x_iload_n hm rfl rfl ?_
      refine x_if_eq hm rfl (t := 78) rfl (fun h2 => ?_) (fun h2 => ?_)
      · have hv : b = bI (sFt (fun j => M 78 (40 * s + j)) (-1) nt np t z 0 (M 67) = true) := by
          rcases hb with ⟨g1, g2⟩ | ⟨g1, g2⟩
          · exact absurd (g1.symm.trans h2) (by decide)
          · rw [g2, g1]; exact (bI_f Bool.false_ne_true).symm
        refine x_aload_n hm rfl rfl ?_
        refine x_getf hm rfl (gR rfl rfl) ?_
        refine x_aload_n hm rfl rfl ?_
        refine x_getf hm rfl (gR rfl rfl) ?_
        refine x_callS hm rfl rfl (t174 rfl rfl (by decide)) ?_
        refine x_iload_n hm rfl rfl ?_
        refine x_iret hm rfl rfl (nar01 (hb.symm.imp (fun q => q.1) (fun q => q.1))) ?_
        exact ⟨_, _, rfl, rfl, hv, hB⟩ --stop
      · have hb1 : sFt (fun j => M 78 (40 * s + j)) (-1) nt np t z 0 (M 67) = sFt (fun j => M 78 (40 * s + j)) (-1) nt np t (z - (k + 1) + 1) k (sDays (-1) nt np k (M 67)) := by
          rcases hb with ⟨g1, g2⟩ | ⟨g1, g2⟩
          · rw [g2, show z - k = z - (k + 1) + 1 by omega]
          · exact absurd g1 h2
        refine x_aload_n hm rfl rfl ?_
        refine x_getf hm rfl (gR rfl rfl) ?_
        refine x_bipush hm rfl (v := nI 40) (by decide) ?_
        refine x_iload_n hm rfl rfl ?_
        refine x_imul hm rfl ?_
        rw [jI_mul]
        refine x_iload hm rfl rfl ?_
        refine x_iadd hm rfl ?_
        rw [jI_add]
        refine x_iald hm rfl (lI rfl (by omega) (by decide)) ?_
        rw [e78]
        refine x_istore hm rfl rfl ?_
        refine x_iload hm rfl rfl ?_
        refine x_iconst hm rfl (v := (-1 : Int32)) (by decide) ?_
        refine x_icmp_eq hm rfl (t := 62) rfl (fun h3 => ?_) (fun h3 => ?_)
        · have hc : M 78 (40 * s + k) = -1 ∨ M 78 (40 * s + k) = sDays (-1) nt np k (M 67) (14 + 6 * t + 2) := Or.inl h3
          have hb2 := hb1.trans (if_pos hc)
          refine x_iconst hm rfl (v := nI 1) (by decide) ?_
          refine x_goto hm rfl (t := 67) rfl ?_
          refine x_istore_n hm rfl rfl ?_
          refine x_aload_n hm rfl rfl ?_
          refine x_cVv hm rfl rfl (e165 (hD.1.1 hW.aside) (hD.1.2.1.trans ((congrFun (cp_o (by decide)) 1).trans hnt)) hn8 (hD.1.2.2.1.trans ((congrFun (cp_o (by decide)) 2).trans hnp)) hp8) (fun M4 r4 => ?_)
          have hs9 := hd.to r4.2
          rw [hd.1, hd.2 66 (by decide) (by decide), cp_o (by decide), h6] at hs9
          refine x_iinc hm rfl rfl (v := nI 1) (by decide) rfl ?_
          rw [jI_add]
          refine x_goto hm rfl (t := 16) rfl ?_
          exact ih (k + 1) _ _ _ (by omega) (by omega) (by first | exact Or.inl ⟨rfl, hb2⟩ | exact Or.inr ⟨rfl, hb2⟩) (hD.trans r4.1) hs9
        · have hne := h3
          refine x_iload hm rfl rfl ?_
          refine x_aload_n hm rfl rfl ?_
          refine x_iload_n hm rfl rfl ?_
          refine x_iconst hm rfl (v := nI 2) (by decide) ?_
          refine x_callV hm rfl rfl (t143 (by omega) (by omega)) ?_
          rw [hthk]
          refine x_icmp_ne hm rfl (t := 66) rfl (fun h5 => ?_) (fun h5 => ?_)
          · have hc : ¬ (M 78 (40 * s + k) = -1 ∨ M 78 (40 * s + k) = sDays (-1) nt np k (M 67) (14 + 6 * t + 2)) := fun q => q.elim hne h5
            have hb2 := hb1.trans (if_neg hc)
            refine x_iconst hm rfl (v := nI 0) (by decide) ?_
            refine x_istore_n hm rfl rfl ?_
            refine x_aload_n hm rfl rfl ?_
            refine x_cVv hm rfl rfl (e165 (hD.1.1 hW.aside) (hD.1.2.1.trans ((congrFun (cp_o (by decide)) 1).trans hnt)) hn8 (hD.1.2.2.1.trans ((congrFun (cp_o (by decide)) 2).trans hnp)) hp8) (fun M6 r6 => ?_)
            have hs9 := hd.to r6.2
            rw [hd.1, hd.2 66 (by decide) (by decide), cp_o (by decide), h6] at hs9
            refine x_iinc hm rfl rfl (v := nI 1) (by decide) rfl ?_
            rw [jI_add]
            refine x_goto hm rfl (t := 16) rfl ?_
            exact ih (k + 1) _ _ _ (by omega) (by omega) (by first | exact Or.inl ⟨rfl, hb2⟩ | exact Or.inr ⟨rfl, hb2⟩) (hD.trans r6.1) hs9
          · have hc : M 78 (40 * s + k) = -1 ∨ M 78 (40 * s + k) = sDays (-1) nt np k (M 67) (14 + 6 * t + 2) := Or.inr h5
            have hb2 := hb1.trans (if_pos hc)
            refine x_iconst hm rfl (v := nI 1) (by decide) ?_
            refine x_goto hm rfl (t := 67) rfl ?_
            refine x_istore_n hm rfl rfl ?_
            refine x_aload_n hm rfl rfl ?_
            refine x_cVv hm rfl rfl (e165 (hD.1.1 hW.aside) (hD.1.2.1.trans ((congrFun (cp_o (by decide)) 1).trans hnt)) hn8 (hD.1.2.2.1.trans ((congrFun (cp_o (by decide)) 2).trans hnp)) hp8) (fun M7 r7 => ?_)
            have hs9 := hd.to r7.2
            rw [hd.1, hd.2 66 (by decide) (by decide), cp_o (by decide), h6] at hs9
            refine x_iinc hm rfl rfl (v := nI 1) (by decide) rfl ?_
            rw [jI_add]
            refine x_goto hm rfl (t := 16) rfl ?_
            exact ih (k + 1) _ _ _ (by omega) (by omega) (by first | exact Or.inl ⟨rfl, hb2⟩ | exact Or.inr ⟨rfl, hb2⟩) (hD.trans r7.1) hs9
theorem e212 {s t z : Nat} {nt np : Nat} (hW : Wf M) (hnt : M 67 1 = nI nt) (hn8 : nt ≤ 8) (hnp : M 67 2 = nI np) (hp8 : np ≤ 8) (h6 : M 66 6 = -1) (hs : s ≤ 3) (ht : t < 8) (hz : M 77 s = nI z) (hz40 : z ≤ 40) : ∃ v M', mT X 212 [.ref 66, .int (nI s), .int (nI t)] (con M) (some (.int v)) (con M') ∧ v = bI (sFt (fun j => M 78 (40 * s + j)) (-1) nt np t z 0 (M 67) = true) ∧ Kr M M' := by
  refine ti_of (row := _) rfl (Nat.le_of_ble_eq_true rfl) ?_
  have hm : mMet 212 = some _ := rfl
  refine x_aload_n hm rfl rfl ?_
  refine x_getf hm rfl (gR rfl rfl) ?_
  refine x_aload_n hm rfl rfl ?_
  refine x_getf hm rfl (gR rfl rfl) ?_
  refine x_callS hm rfl rfl (t174 rfl rfl (by decide)) ?_
  refine x_iconst hm rfl (v := nI 1) (by decide) ?_
  refine x_istore_n hm rfl rfl ?_
  refine x_iconst hm rfl (v := nI 0) (by decide) ?_
  refine x_istore hm rfl rfl ?_
  exact m212 hW hnt hn8 hnp hp8 h6 hs ht hz hz40 _ 0 _ _ _ (Nat.lt_succ_self _) (Nat.zero_le _) (Or.inl ⟨rfl, rfl⟩) Dy.rf (by have g := Dd.rf (M := cp M 67 69 118); rw [cp_o (by decide)] at g; exact g)
theorem m211 {s p t z w : Nat} {nt np : Nat} (hW : Wf M) (hnt : M 67 1 = nI nt) (hn8 : nt ≤ 8) (hnp : M 67 2 = nI np) (hp8 : np ≤ 8) (h6 : M 66 6 = -1) (hs : s ≤ 3) (hp : p < 8) (ht : t < 8) (hz : M 77 s = nI z) (hz40 : z ≤ 40) (hw : M 67 (14 + 6 * t + 0) = nI w) (hw3 : w ≤ 3) : ∀ (n k : Nat) (M1 : mM), 10 - k < n → k ≤ 10 → Ky (62 + 7 * p + (3 + w)) M M1 → mEv X (QI (fun v M' => v = nI (sFs (fun j => M 78 (40 * s + j)) (-1) nt np t z (62 + 7 * p + (3 + w)) (M 67) 10) ∧ Kr M M')) 211 29 [some (.ref 66), some (.int (nI s)), some (.int (nI p)), some (.int (nI t)), some (.int (nI (62 + 7 * p + (3 + w)))), some (.int (M 67 (62 + 7 * p + (3 + w)))), some (.int (nI (sFs (fun j => M 78 (40 * s + j)) (-1) nt np t z (62 + 7 * p + (3 + w)) (M 67) k))), some (.int (nI k))] [] (con M1) := by
  have hm : mMet 211 = some _ := rfl
  intro n
  induction n with
  | zero =>
    intro k M1 hkn hkb hS
    omega
  | succ n ih =>
    intro k M1 hkn hkb hS
    refine x_iload hm rfl rfl ?_
    refine x_bipush hm rfl (v := nI 9) (by decide) ?_
    refine x_icmp_gt hm rfl (t := 73) rfl (fun h1 => ?_) (fun h1 => ?_)
    · obtain rfl : k = 10 := Nat.le_antisymm hkb (Nat.lt_of_not_le fun g => absurd h1 (Int32.not_lt.mpr ((jI_le (by omega) (by decide)).mpr g)))
      refine x_aload_n hm rfl rfl ?_
      refine x_getf hm rfl (gR rfl rfl) ?_
      refine x_iload hm rfl rfl ?_
      refine x_iload hm rfl rfl ?_
      refine x_iast hm rfl (sI rfl (by omega) (by decide)) ?_
      refine x_iload hm rfl rfl ?_
      refine x_iret hm rfl rfl (by first | rfl | exact bI_nar | decide) ?_
      exact ⟨_, _, rfl, rfl, rfl, hS.fin (Sf.person hp (show 3 + w < 7 by omega))⟩
    · have hk : k ≤ 9 := Nat.le_of_not_lt fun h => h1 (nI_lt h (by omega))
      have hw10 : sFs (fun j => M 78 (40 * s + j)) (-1) nt np t z (62 + 7 * p + (3 + w)) (M 67) k < 1024 := wS_lt2 (by omega)
      refine x_aload_n hm rfl rfl ?_
      refine x_getf hm rfl (gR rfl rfl) ?_
      refine x_iload hm rfl rfl ?_
      refine x_iload hm rfl rfl ?_
      refine x_iast hm rfl (sI rfl (by omega) (by decide)) ?_
      obtain ⟨hS2, hrow⟩ := hS.put (v := nI k) (Sf.person (M := M1) (v := nI k) hp (show 3 + w < 7 by omega))
      have h66 : mput M1 67 (62 + 7 * p + (3 + w)) (nI k) 66 6 = -1 := by rw [hS2.2.2 66 (by decide) (by decide) (by decide)]; exact h6
      have h77 : mput M1 67 (62 + 7 * p + (3 + w)) (nI k) 77 s = nI z := by rw [hS2.2.2 77 (by decide) (by decide) (by decide)]; exact hz
      have h78 : mput M1 67 (62 + 7 * p + (3 + w)) (nI k) 78 = M 78 := hS2.2.2 78 (by decide) (by decide) (by decide)
      refine x_iload hm rfl rfl ?_
      refine x_aload_n hm rfl rfl ?_
      refine x_iload_n hm rfl rfl ?_
      refine x_iload_n hm rfl rfl ?_
      refine x_cVi hm rfl rfl (e212 (hS2.1.1 hW) (hS2.1.2.1.trans hnt) hn8 (hS2.1.2.2.1.trans hnp) hp8 h66 hs ht h77 hz40) (fun v2 M2 r2 => ?_)
      have hv := r2.1
      rw [hrow, h78] at hv
      refine x_if_eq hm rfl (t := 63) rfl (fun h3 => ?_) (fun h3 => ?_)
      · have hq : nI (sFs (fun j => M 78 (40 * s + j)) (-1) nt np t z (62 + 7 * p + (3 + w)) (M 67) k) ||| nI 0 = nI (sFs (fun j => M 78 (40 * s + j)) (-1) nt np t z (62 + 7 * p + (3 + w)) (M 67) (k + 1)) := by
          have g : ¬ _ := bI_eq0.mp (hv.symm.trans h3)
          rw [bit02 _ hw10]
          exact congrArg nI (wS_f (P := fun v => sFt (fun j => M 78 (40 * s + j)) (-1) nt np t z 0 (put1 (M 67) (62 + 7 * p + (3 + w)) (nI v)) = true) g).symm
        refine x_iconst hm rfl (v := nI 0) (by decide) ?_
        refine x_ior hm rfl ?_
        rw [hq]
        refine x_istore hm rfl rfl ?_
        refine x_iinc hm rfl rfl (v := nI 1) (by decide) rfl ?_
        rw [jI_add]
        refine x_goto hm rfl (t := 29) rfl ?_
        exact ih _ _ (by omega) (by omega) (hS2.kr r2.2)
      · have hq : nI (sFs (fun j => M 78 (40 * s + j)) (-1) nt np t z (62 + 7 * p + (3 + w)) (M 67) k) ||| (nI 1 <<< (nI k &&& 31)) = nI (sFs (fun j => M 78 (40 * s + j)) (-1) nt np t z (62 + 7 * p + (3 + w)) (M 67) (k + 1)) := by
          have g := bI_ne0 (fun e => h3 (hv.trans e))
          rw [bitO2 _ hw10 k (by omega)]
          exact congrArg nI (wS_t (P := fun v => sFt (fun j => M 78 (40 * s + j)) (-1) nt np t z 0 (put1 (M 67) (62 + 7 * p + (3 + w)) (nI v)) = true) g).symm
        refine x_iconst hm rfl (v := nI 1) (by decide) ?_
        refine x_iload hm rfl rfl ?_
        refine x_ishl hm rfl ?_
        refine x_goto hm rfl (t := 64) rfl ?_
        refine x_ior hm rfl ?_
        rw [hq]
        refine x_istore hm rfl rfl ?_
        refine x_iinc hm rfl rfl (v := nI 1) (by decide) rfl ?_
        rw [jI_add]
        refine x_goto hm rfl (t := 29) rfl ?_
        exact ih _ _ (by omega) (by omega) (hS2.kr r2.2)
theorem e211 {s p t z w : Nat} {nt np : Nat} (hW : Wf M) (hnt : M 67 1 = nI nt) (hn8 : nt ≤ 8) (hnp : M 67 2 = nI np) (hp8 : np ≤ 8) (h6 : M 66 6 = -1) (hs : s ≤ 3) (hp : p < 8) (ht : t < 8) (hz : M 77 s = nI z) (hz40 : z ≤ 40) (hw : M 67 (14 + 6 * t + 0) = nI w) (hw3 : w ≤ 3) : ∃ v M', mT X 211 [.ref 66, .int (nI s), .int (nI p), .int (nI t)] (con M) (some (.int v)) (con M') ∧ v = nI (sFs (fun j => M 78 (40 * s + j)) (-1) nt np t z (62 + 7 * p + (3 + w)) (M 67) 10) ∧ Kr M M' := by
  refine ti_of (row := _) rfl (Nat.le_of_ble_eq_true rfl) ?_
  have hm : mMet 211 = some _ := rfl
  refine x_iload_n hm rfl rfl ?_
  refine x_iconst hm rfl (v := nI 3) (by decide) ?_
  refine x_aload_n hm rfl rfl ?_
  refine x_iload_n hm rfl rfl ?_
  refine x_iconst hm rfl (v := nI 0) (by decide) ?_
  refine x_callV hm rfl rfl (t143 (by omega) (by omega)) ?_
  rw [hw]
  refine x_iadd hm rfl ?_
  rw [jI_add]
  refine x_callS hm rfl rfl (t142) ?_
  refine x_istore hm rfl rfl ?_
  refine x_aload_n hm rfl rfl ?_
  refine x_getf hm rfl (gR rfl rfl) ?_
  refine x_iload hm rfl rfl ?_
  refine x_iald hm rfl (lI rfl (by omega) (by decide)) ?_
  refine x_istore hm rfl rfl ?_
  refine x_iconst hm rfl (v := nI 0) (by decide) ?_
  refine x_istore hm rfl rfl ?_
  refine x_iconst hm rfl (v := nI 0) (by decide) ?_
  refine x_istore hm rfl rfl ?_
  exact m211 hW hnt hn8 hnp hp8 h6 hs hp ht hz hz40 hw hw3 _ 0 _ (Nat.lt_succ_self _) (Nat.zero_le _) Ky.rf
theorem m168b {a1 : Int32} : ∀ (n k : Nat) (s : Int32), k < n → k < 1024 → ∀ f, k < f → mEv X (fun r D => r = some (.int (sBits f s (nI k))) ∧ D = con M) 168 4 [some (.int a1), some (.int s), some (.int (nI k))] [] (con M) := by
  have hm : mMet 168 = some _ := rfl
  intro n
  induction n with
  | zero =>
    intro k s hkn hk f hf
    omega
  | succ n ih =>
    intro k s hkn hk f hf
    obtain ⟨f, rfl⟩ : ∃ g, f = g + 1 := ⟨f - 1, by omega⟩
    obtain ⟨g1, g2, g3⟩ := bits_le2 k hk
    refine x_iload_n hm rfl rfl ?_
    refine x_if_eq hm rfl (t := 20) rfl (fun h1 => ?_) (fun h1 => ?_)
    · have hq : sBits (f + 1) s (nI k) = s := if_pos h1
      refine x_iload_n hm rfl rfl ?_
      refine x_iret hm rfl rfl (by first | rfl | exact bI_nar | decide) ?_
      exact ⟨by rw [hq], rfl⟩
    · have h0 : ¬ k = 0 := fun e => h1 (by rw [e]; rfl)
      have hq : sBits (f + 1) s (nI k) = sBits f (s + nI 1) (nI k &&& (nI k - nI 1)) := if_neg h1
      refine x_iinc hm rfl rfl (v := nI 1) (by decide) rfl ?_
      refine x_iload_n hm rfl rfl ?_
      refine x_iload_n hm rfl rfl ?_
      refine x_iconst hm rfl (v := nI 1) (by decide) ?_
      refine x_isub hm rfl ?_
      refine x_iand hm rfl ?_
      refine x_istore_n hm rfl rfl ?_
      refine x_goto hm rfl (t := 4) rfl ?_
      rw [hq, ← g2]
      exact ih _ _ (by have := g3 h0; omega) g1 f (by have := g3 h0; omega)
theorem g168b {s : Nat} (hs : s < 1024) : mT X 168 [.int (nI s)] (con M) (some (.int (sBits 1024 (nI 0) (nI s)))) (con M) := by
  refine mT.of (row := _) rfl (Nat.le_of_ble_eq_true rfl) ?_
  have hm : mMet 168 = some _ := rfl
  refine x_iconst hm rfl (v := nI 0) (by decide) ?_
  refine x_istore_n hm rfl rfl ?_
  refine x_iload_n hm rfl rfl ?_
  refine x_istore_n hm rfl rfl ?_
  exact m168b _ s _ (Nat.lt_succ_self _) hs 1024 hs
theorem e208 {a1 a2 a3 : Int32} {nt np : Nat} (hW : Wf M) (hnt : M 67 1 = nI nt) (hn8 : nt ≤ 8) (hnp : M 67 2 = nI np) (hp8 : np ≤ 8) (hV : Vs nt np (M 67)) (h6 : M 66 6 = -1) : ∃ v M', mT X 208 [.ref 66, .int a1, .int a2, .int a3] (con M) (some (.int v)) (con M') ∧ v = (qFits (lk M a1) (M 77) (M 78) (M 67) nt np a1 a2 a3).1 ∧ Kq M M' ∧ Fq (qFits (lk M a1) (M 77) (M 78) (M 67) nt np a1 a2 a3) M M' := by
  refine ti_of (row := _) rfl (Nat.le_of_ble_eq_true rfl) ?_
  have hm : mMet 208 = some _ := rfl
  refine x_aload_n hm rfl rfl ?_
  refine x_iload_n hm rfl rfl ?_
  refine x_callV hm rfl rfl (t209) ?_
  refine x_if_eq hm rfl (t := 18) rfl (fun h1 => ?_) (fun h1 => ?_)
  · have hl0 : lk M a1 = 0 := h1
    obtain ⟨s, hs, rfl⟩ := lk_k h1
    refine x_aload_n hm rfl rfl ?_
    refine x_iload_n hm rfl rfl ?_
    refine x_callV hm rfl rfl (t153) ?_
    rw [hnp]
    refine x_if_eq hm rfl (t := 47) rfl (fun h2 => ?_) (fun h2 => ?_)
    · refine x_aload_n hm rfl rfl ?_
      refine x_ldcI hm rfl (v := (-1000001 : Int32)) (by decide +kernel) ?_
      refine x_callV hm rfl rfl (e135 (by first | decide | exact lk_fd h1)) ?_
      refine x_iret hm rfl rfl (by first | rfl | exact bI_nar | decide) ?_
      first
        | (have hq : qFits (lk M (nI s)) (M 77) (M 78) (M 67) nt np (nI s) a2 a3 = (-1000001, true) := by
             unfold qFits
             first
               | rw [if_pos (by assumption)]
               | rw [if_neg (fun z => z (by assumption)), if_pos (by assumption)]
               | rw [if_neg (fun z => z (by assumption)), if_neg (by assumption), if_pos (by assumption)]
           exact ⟨_, _, rfl, rfl, congrArg Prod.fst hq.symm, fndR_kq, by rw [hq]; exact fndR_fq⟩)
        | (have hq : qFits (lk M (nI s)) (M 77) (M 78) (M 67) nt np (nI s) (nI p) a3 = (-1000001, true) := by
             unfold qFits
             first
               | rw [if_pos (by assumption)]
               | rw [if_neg (fun z => z (by assumption)), if_pos (by assumption)]
               | rw [if_neg (fun z => z (by assumption)), if_neg (by assumption), if_pos (by assumption)]
           exact ⟨_, _, rfl, rfl, congrArg Prod.fst hq.symm, fndR_kq, by rw [hq]; exact fndR_fq⟩)
        | (have hq : qFits (lk M (nI s)) (M 77) (M 78) (M 67) nt np (nI s) (nI p) (nI t) = (sBits 1024 (nI 0) (nI (sFs (fun j => M 78 (40 * s + j)) (-1) nt np t z (62 + 7 * p + (3 + w)) (M 67) 10)), false) := by
             unfold qFits
             rw [if_neg (fun z => z (by assumption)), if_neg (by assumption), if_neg (by assumption)]
             rw [jI_nat (k := s) (by omega)]
             rw [jI_nat (k := p) (by omega)]
             rw [jI_nat (k := t) (by omega)]
             rw [hz, hw, jI_nat (k := z) (by omega), jI_nat (k := w) (by omega)]
           exact ⟨_, _, rfl, rfl, congrArg Prod.fst hq.symm, r0.2.kq, by rw [hq]; exact r0.2.fq⟩)
    · obtain ⟨p, hp, rfl⟩ := in_k rfl (by omega) (bI_ne0 h2)
      refine x_aload_n hm rfl rfl ?_
      refine x_iload_n hm rfl rfl ?_
      refine x_callV hm rfl rfl (t139) ?_
      rw [hnt]
      refine x_if_eq hm rfl (t := 47) rfl (fun h3 => ?_) (fun h3 => ?_)
      · refine x_aload_n hm rfl rfl ?_
        refine x_ldcI hm rfl (v := (-1000001 : Int32)) (by decide +kernel) ?_
        refine x_callV hm rfl rfl (e135 (by first | decide | exact lk_fd h1)) ?_
        refine x_iret hm rfl rfl (by first | rfl | exact bI_nar | decide) ?_
        first
          | (have hq : qFits (lk M (nI s)) (M 77) (M 78) (M 67) nt np (nI s) a2 a3 = (-1000001, true) := by
               unfold qFits
               first
                 | rw [if_pos (by assumption)]
                 | rw [if_neg (fun z => z (by assumption)), if_pos (by assumption)]
                 | rw [if_neg (fun z => z (by assumption)), if_neg (by assumption), if_pos (by assumption)]
             exact ⟨_, _, rfl, rfl, congrArg Prod.fst hq.symm, fndR_kq, by rw [hq]; exact fndR_fq⟩)
          | (have hq : qFits (lk M (nI s)) (M 77) (M 78) (M 67) nt np (nI s) (nI p) a3 = (-1000001, true) := by
               unfold qFits
               first
                 | rw [if_pos (by assumption)]
                 | rw [if_neg (fun z => z (by assumption)), if_pos (by assumption)]
                 | rw [if_neg (fun z => z (by assumption)), if_neg (by assumption), if_pos (by assumption)]
             exact ⟨_, _, rfl, rfl, congrArg Prod.fst hq.symm, fndR_kq, by rw [hq]; exact fndR_fq⟩)
          | (have hq : qFits (lk M (nI s)) (M 77) (M 78) (M 67) nt np (nI s) (nI p) (nI t) = (sBits 1024 (nI 0) (nI (sFs (fun j => M 78 (40 * s + j)) (-1) nt np t z (62 + 7 * p + (3 + w)) (M 67) 10)), false) := by
               unfold qFits
               rw [if_neg (fun z => z (by assumption)), if_neg (by assumption), if_neg (by assumption)]
               rw [jI_nat (k := s) (by omega)]
               rw [jI_nat (k := p) (by omega)]
               rw [jI_nat (k := t) (by omega)]
               rw [hz, hw, jI_nat (k := z) (by omega), jI_nat (k := w) (by omega)]
             exact ⟨_, _, rfl, rfl, congrArg Prod.fst hq.symm, r0.2.kq, by rw [hq]; exact r0.2.fq⟩)
      · obtain ⟨t, ht, rfl⟩ := in_k rfl (by omega) (bI_ne0 h3)
        obtain ⟨z, hz40, hz⟩ := ok5 (show okx 5 (M 77 s) from hW 77 s)
        obtain ⟨w, hw3, hw⟩ := hV.sort ht
        refine x_aload_n hm rfl rfl ?_
        refine x_iload_n hm rfl rfl ?_
        refine x_iload_n hm rfl rfl ?_
        refine x_iload_n hm rfl rfl ?_
        refine x_cVi hm rfl rfl (e211 hW hnt hn8 hnp hp8 h6 hs (by omega) (by omega) hz hz40 hw hw3) (fun v4 M4 r4 => ?_)
        have hv := r4.1
        subst hv
        have hsN : sFs (fun j => M 78 (40 * s + j)) (-1) nt np t z (62 + 7 * p + (3 + w)) (M 67) 10 < 1024 := wS_lt2 (Nat.le_refl _)
        refine x_callS hm rfl rfl (g168b hsN) ?_
        refine x_goto hm rfl (t := 53) rfl ?_
        refine x_iret hm rfl rfl (by first | rfl | exact bI_nar | decide) ?_
        first
          | (have hq : qFits (lk M (nI s)) (M 77) (M 78) (M 67) nt np (nI s) (nI p) (nI t) = (sBits 1024 (nI 0) (nI (sFs (fun j => M 78 (40 * s + j)) (-1) nt np t z (62 + 7 * p + (3 + w)) (M 67) 10)), false) := by
               unfold qFits
               rw [if_neg (fun z => z (by assumption)), if_neg (by assumption), if_neg (by assumption)]
               rw [jI_nat (k := s) (by omega)]
               rw [jI_nat (k := p) (by omega)]
               rw [jI_nat (k := t) (by omega)]
               rw [hz, hw, jI_nat (k := z) (by omega), jI_nat (k := w) (by omega)]
             exact ⟨_, _, rfl, rfl, congrArg Prod.fst hq.symm, r4.2.kq, by rw [hq]; exact r4.2.fq⟩)
          | (have hq : qFits (lk M (nI s)) (M 77) (M 78) (M 67) nt np (nI s) a2 a3 = (-1000001, true) := by
               unfold qFits
               first
                 | rw [if_pos (by assumption)]
                 | rw [if_neg (fun z => z (by assumption)), if_pos (by assumption)]
                 | rw [if_neg (fun z => z (by assumption)), if_neg (by assumption), if_pos (by assumption)]
             exact ⟨_, _, rfl, rfl, congrArg Prod.fst hq.symm, fndR_kq, by rw [hq]; exact fndR_fq⟩)
          | (have hq : qFits (lk M (nI s)) (M 77) (M 78) (M 67) nt np (nI s) (nI p) a3 = (-1000001, true) := by
               unfold qFits
               first
                 | rw [if_pos (by assumption)]
                 | rw [if_neg (fun z => z (by assumption)), if_pos (by assumption)]
                 | rw [if_neg (fun z => z (by assumption)), if_neg (by assumption), if_pos (by assumption)]
             exact ⟨_, _, rfl, rfl, congrArg Prod.fst hq.symm, fndR_kq, by rw [hq]; exact fndR_fq⟩)
  · refine x_aload_n hm rfl rfl ?_
    refine x_aload_n hm rfl rfl ?_
    refine x_iload_n hm rfl rfl ?_
    refine x_callV hm rfl rfl (t209) ?_
    refine x_callV hm rfl rfl (e135 (by first | decide | exact lk_fd h1)) ?_
    refine x_iret hm rfl rfl (by first | rfl | exact bI_nar | decide) ?_
    have hq : qFits (lk M a1) (M 77) (M 78) (M 67) nt np a1 a2 a3 = (lk M a1, true) := by
      unfold qFits
      first
        | rw [if_pos (by assumption)]
        | rw [if_neg (fun z => z (by assumption)), if_pos (by assumption)]
        | rw [if_neg (fun z => z (by assumption)), if_neg (by assumption), if_pos (by assumption)]
    exact ⟨_, _, rfl, rfl, congrArg Prod.fst hq.symm, fndR_kq, by rw [hq]; exact fndR_fq⟩
theorem m213 {s p t S : Nat} {M0 : mM} (hN : S < 1024) (hK : Kr M0 M) : ∀ (n k : Nat), 11 - k < n → k ≤ 10 → sLk S 10 0 = sLk S (10 - k) k → mEv X (QI (fun v M' => v = (sLk S 10 0).1 ∧ Kq M0 M' ∧ Fq (sLk S 10 0) M0 M')) 213 53 [some (.ref 66), some (.int (nI s)), some (.int (nI p)), some (.int (nI t)), some (.int (nI S)), some (.int (nI k))] [] (con M) := by
  have hm : mMet 213 = some _ := rfl
  intro n
  induction n with
  | zero =>
    intro k hkn hkb hq
    omega
  | succ n ih =>
    intro k hkn hkb hq
    refine x_iload hm rfl rfl ?_
    refine x_bipush hm rfl (v := nI 9) (by decide) ?_
    refine x_icmp_gt hm rfl (t := 76) rfl (fun h1 => ?_) (fun h1 => ?_)
    · have hk : k = 10 := Nat.le_antisymm hkb (Nat.lt_of_not_le fun g => absurd h1 (Int32.not_lt.mpr ((jI_le (by omega) (by decide)).mpr g)))
      subst hk
      have hq9 : sLk S 10 0 = (-1000004, true) := hq
      refine x_iload hm rfl rfl ?_
      refine x_bipush hm rfl (v := nI 9) (by decide) ?_
      refine x_icmp_le hm rfl (t := 92) rfl (fun h2 => ?_) (fun h2 => ?_)
      · refine x_iload hm rfl rfl ?_
        refine x_iret hm rfl rfl (by first | rfl | exact bI_nar | decide) ?_
        first
          | exact absurd (show nI 10 ≤ nI 9 by assumption) (by decide)
          | exact absurd ((jI_le (by omega) (by decide)).mpr hk) (by assumption)
          | exact ⟨_, _, rfl, rfl, by rw [hq9], by first | exact hK.kq | exact hK.kq.to fndR_kq, by rw [hq9]; first | exact hK.fq | exact fndR_fq.of (hK.2 70 (by decide) (by decide))⟩
      · refine x_aload_n hm rfl rfl ?_
        refine x_ldcI hm rfl (v := (-1000004 : Int32)) (by decide +kernel) ?_
        refine x_callV hm rfl rfl (e135 (by first | decide | exact lk_fd h1)) ?_
        refine x_goto hm rfl (t := 94) rfl ?_
        refine x_iret hm rfl rfl (by first | rfl | exact bI_nar | decide) ?_
        first
          | exact absurd (show nI 10 ≤ nI 9 by assumption) (by decide)
          | exact absurd ((jI_le (by omega) (by decide)).mpr hk) (by assumption)
          | exact ⟨_, _, rfl, rfl, by rw [hq9], by first | exact hK.kq | exact hK.kq.to fndR_kq, by rw [hq9]; first | exact hK.fq | exact fndR_fq.of (hK.2 70 (by decide) (by decide))⟩
    · have hk : k ≤ 9 := Nat.le_of_not_lt fun h => h1 (nI_lt h (by omega))
      have hq8 := hq.trans (show sLk S (10 - k) k = sLk S (10 - (k + 1) + 1) k by rw [show 10 - k = 10 - (k + 1) + 1 by omega])
      refine x_iload hm rfl rfl ?_
      refine x_iload hm rfl rfl ?_
      refine x_callS hm rfl rfl (g191 hN (by omega)) ?_
      refine x_if_ne hm rfl (t := 76) rfl (fun h3 => ?_) (fun h3 => ?_)
      · have hq9 : sLk S 10 0 = (nI k, false) := hq8.trans (if_pos (bI_ne0 h3))
        refine x_iload hm rfl rfl ?_
        refine x_bipush hm rfl (v := nI 9) (by decide) ?_
        refine x_icmp_le hm rfl (t := 92) rfl (fun h4 => ?_) (fun h4 => ?_)
        · refine x_iload hm rfl rfl ?_
          refine x_iret hm rfl rfl (by first | rfl | exact bI_nar | decide) ?_
          first
            | exact absurd (show nI 10 ≤ nI 9 by assumption) (by decide)
            | exact absurd ((jI_le (by omega) (by decide)).mpr hk) (by assumption)
            | exact ⟨_, _, rfl, rfl, by rw [hq9], by first | exact hK.kq | exact hK.kq.to fndR_kq, by rw [hq9]; first | exact hK.fq | exact fndR_fq.of (hK.2 70 (by decide) (by decide))⟩
        · refine x_aload_n hm rfl rfl ?_
          refine x_ldcI hm rfl (v := (-1000004 : Int32)) (by decide +kernel) ?_
          refine x_callV hm rfl rfl (e135 (by first | decide | exact lk_fd h1)) ?_
          refine x_goto hm rfl (t := 94) rfl ?_
          refine x_iret hm rfl rfl (by first | rfl | exact bI_nar | decide) ?_
          first
            | exact absurd (show nI 10 ≤ nI 9 by assumption) (by decide)
            | exact absurd ((jI_le (by omega) (by decide)).mpr hk) (by assumption)
            | exact ⟨_, _, rfl, rfl, by rw [hq9], by first | exact hK.kq | exact hK.kq.to fndR_kq, by rw [hq9]; first | exact hK.fq | exact fndR_fq.of (hK.2 70 (by decide) (by decide))⟩
      · have hq9 : sLk S 10 0 = sLk S (10 - (k + 1)) (k + 1) := hq8.trans (if_neg (bI_eq0.mp h3))
        refine x_iinc hm rfl rfl (v := nI 1) (by decide) rfl ?_
        rw [jI_add]
        refine x_goto hm rfl (t := 53) rfl ?_
        exact ih _ (by omega) (by omega) hq9
theorem e213 {a1 a2 a3 : Int32} {nt np : Nat} (hW : Wf M) (hnt : M 67 1 = nI nt) (hn8 : nt ≤ 8) (hnp : M 67 2 = nI np) (hp8 : np ≤ 8) (hV : Vs nt np (M 67)) (h6 : M 66 6 = -1) : ∃ v M', mT X 213 [.ref 66, .int a1, .int a2, .int a3] (con M) (some (.int v)) (con M') ∧ v = (qLikes (lk M a1) (M 77) (M 78) (M 67) nt np a1 a2 a3).1 ∧ Kq M M' ∧ Fq (qLikes (lk M a1) (M 77) (M 78) (M 67) nt np a1 a2 a3) M M' := by
  refine ti_of (row := _) rfl (Nat.le_of_ble_eq_true rfl) ?_
  have hm : mMet 213 = some _ := rfl
  refine x_aload_n hm rfl rfl ?_
  refine x_iload_n hm rfl rfl ?_
  refine x_callV hm rfl rfl (t209) ?_
  refine x_if_eq hm rfl (t := 18) rfl (fun h1 => ?_) (fun h1 => ?_)
  · have hl0 : lk M a1 = 0 := h1
    obtain ⟨s, hs, rfl⟩ := lk_k h1
    refine x_aload_n hm rfl rfl ?_
    refine x_iload_n hm rfl rfl ?_
    refine x_callV hm rfl rfl (t153) ?_
    rw [hnp]
    refine x_if_eq hm rfl (t := 34) rfl (fun h2 => ?_) (fun h2 => ?_)
    · refine x_aload_n hm rfl rfl ?_
      refine x_ldcI hm rfl (v := (-1000001 : Int32)) (by decide +kernel) ?_
      refine x_callV hm rfl rfl (e135 (by first | decide | exact lk_fd h1)) ?_
      refine x_iret hm rfl rfl (by first | rfl | exact bI_nar | decide) ?_
      first
        | (have hq : qLikes (lk M (nI s)) (M 77) (M 78) (M 67) nt np (nI s) a2 a3 = (-1000001, true) := by
             unfold qLikes
             first
               | rw [if_pos (by assumption)]
               | rw [if_neg (fun z => z (by assumption)), if_pos (by assumption)]
               | rw [if_neg (fun z => z (by assumption)), if_neg (by assumption), if_pos (by assumption)]
           exact ⟨_, _, rfl, rfl, congrArg Prod.fst hq.symm, fndR_kq, by rw [hq]; exact fndR_fq⟩)
        | (have hq : qLikes (lk M (nI s)) (M 77) (M 78) (M 67) nt np (nI s) (nI p) a3 = (-1000001, true) := by
             unfold qLikes
             first
               | rw [if_pos (by assumption)]
               | rw [if_neg (fun z => z (by assumption)), if_pos (by assumption)]
               | rw [if_neg (fun z => z (by assumption)), if_neg (by assumption), if_pos (by assumption)]
           exact ⟨_, _, rfl, rfl, congrArg Prod.fst hq.symm, fndR_kq, by rw [hq]; exact fndR_fq⟩)
    · obtain ⟨p, hp, rfl⟩ := in_k rfl (by omega) (bI_ne0 h2)
      refine x_aload_n hm rfl rfl ?_
      refine x_iload_n hm rfl rfl ?_
      refine x_callV hm rfl rfl (t139) ?_
      rw [hnt]
      refine x_if_ne hm rfl (t := 41) rfl (fun h3 => ?_) (fun h3 => ?_)
      · obtain ⟨t, ht, rfl⟩ := in_k rfl (by omega) (bI_ne0 h3)
        obtain ⟨z, hz40, hz⟩ := ok5 (show okx 5 (M 77 s) from hW 77 s)
        obtain ⟨w, hw3, hw⟩ := hV.sort ht
        refine x_aload_n hm rfl rfl ?_
        refine x_iload_n hm rfl rfl ?_
        refine x_iload_n hm rfl rfl ?_
        refine x_iload_n hm rfl rfl ?_
        refine x_cVi hm rfl rfl (e211 hW hnt hn8 hnp hp8 h6 hs (by omega) (by omega) hz hz40 hw hw3) (fun v4 M4 r4 => ?_)
        have hv := r4.1
        subst hv
        have hsN : sFs (fun j => M 78 (40 * s + j)) (-1) nt np t z (62 + 7 * p + (3 + w)) (M 67) 10 < 1024 := wS_lt2 (Nat.le_refl _)
        refine x_istore hm rfl rfl ?_
        refine x_iconst hm rfl (v := nI 0) (by decide) ?_
        refine x_istore hm rfl rfl ?_
        have hq : qLikes (lk M (nI s)) (M 77) (M 78) (M 67) nt np (nI s) (nI p) (nI t) = sLk (sFs (fun j => M 78 (40 * s + j)) (-1) nt np t z (62 + 7 * p + (3 + w)) (M 67) 10) 10 0 := by
          unfold qLikes
          rw [if_neg (fun z => z (by assumption)), if_neg (by assumption), if_neg (by assumption)]
          rw [jI_nat (k := s) (by omega)]
          rw [jI_nat (k := p) (by omega)]
          rw [jI_nat (k := t) (by omega)]
          rw [hz, hw, jI_nat (k := z) (by omega), jI_nat (k := w) (by omega)]
        rw [hq]
        exact m213 hsN r4.2 _ 0 (Nat.lt_succ_self _) (Nat.zero_le _) rfl
      · refine x_aload_n hm rfl rfl ?_
        refine x_ldcI hm rfl (v := (-1000001 : Int32)) (by decide +kernel) ?_
        refine x_callV hm rfl rfl (e135 (by first | decide | exact lk_fd h1)) ?_
        refine x_iret hm rfl rfl (by first | rfl | exact bI_nar | decide) ?_
        first
          | (have hq : qLikes (lk M (nI s)) (M 77) (M 78) (M 67) nt np (nI s) a2 a3 = (-1000001, true) := by
               unfold qLikes
               first
                 | rw [if_pos (by assumption)]
                 | rw [if_neg (fun z => z (by assumption)), if_pos (by assumption)]
                 | rw [if_neg (fun z => z (by assumption)), if_neg (by assumption), if_pos (by assumption)]
             exact ⟨_, _, rfl, rfl, congrArg Prod.fst hq.symm, fndR_kq, by rw [hq]; exact fndR_fq⟩)
          | (have hq : qLikes (lk M (nI s)) (M 77) (M 78) (M 67) nt np (nI s) (nI p) a3 = (-1000001, true) := by
               unfold qLikes
               first
                 | rw [if_pos (by assumption)]
                 | rw [if_neg (fun z => z (by assumption)), if_pos (by assumption)]
                 | rw [if_neg (fun z => z (by assumption)), if_neg (by assumption), if_pos (by assumption)]
             exact ⟨_, _, rfl, rfl, congrArg Prod.fst hq.symm, fndR_kq, by rw [hq]; exact fndR_fq⟩)
  · refine x_aload_n hm rfl rfl ?_
    refine x_aload_n hm rfl rfl ?_
    refine x_iload_n hm rfl rfl ?_
    refine x_callV hm rfl rfl (t209) ?_
    refine x_callV hm rfl rfl (e135 (by first | decide | exact lk_fd h1)) ?_
    refine x_iret hm rfl rfl (by first | rfl | exact bI_nar | decide) ?_
    have hq : qLikes (lk M a1) (M 77) (M 78) (M 67) nt np a1 a2 a3 = (lk M a1, true) := by
      unfold qLikes
      first
        | rw [if_pos (by assumption)]
        | rw [if_neg (fun z => z (by assumption)), if_pos (by assumption)]
        | rw [if_neg (fun z => z (by assumption)), if_neg (by assumption), if_pos (by assumption)]
    exact ⟨_, _, rfl, rfl, congrArg Prod.fst hq.symm, fndR_kq, by rw [hq]; exact fndR_fq⟩
end EP
end
section
/-! ===== what only asks: both sides together; the start ===== -/
section AK
variable {X : mSc} {M : mM}
theorem rq_of {m : Nat} {as : List Value} (h : ∃ v M', mT X m as (con M) (some (.int v)) (con M') ∧ Iq M M') : ∃ v M', mT X m as (con M) (some (.int v)) (con M') ∧ Rq M M' := by
  obtain ⟨v, M1, h1, h2⟩ := h
  exact ⟨v, M1, h1, h2.rq⟩
theorem Kq.rq {M' : mM} (hI : Inv M) (h : Kq M M') : Rq M M' := ⟨⟨h.1 hI.1, by rw [h.2.1 67 (by decide) (by decide) (by decide) (by decide) (by decide)]; exact hI.2.1, by rw [h.2.1 68 (by decide) (by decide) (by decide) (by decide) (by decide)]; exact hI.2.2⟩, h.2⟩
theorem J.kq {m : Nat} {as : List Value} {F : Nat → Nat → Int32 × Bool} (hJ : J M) (h : ∀ nt np, Gd nt np (M 67) → ∃ v M', mT X m as (con M) (some (.int v)) (con M') ∧ v = (F nt np).1 ∧ Kq M M' ∧ Fq (F nt np) M M') : ∃ v M', mT X m as (con M) (some (.int v)) (con M') ∧ Rq M M' := by
  obtain ⟨nt, np, hR, h1, h2, hV, hr, -⟩ := hJ.2.2.1
  obtain ⟨v, M1, g1, -, g2, -⟩ := h nt np ⟨h1, h2, hV, hr⟩
  exact ⟨v, M1, g1, g2.rq hJ.1⟩
/-- an ask that answers a long -/
def JL (X : mSc) (cmd rmd : Nat) (as bs : List Value) (M : mM) (P : Int64 → Int64 → Prop) : Prop := ∃ v M1 w M2, mT X cmd as (con M) (some (.long v)) (con M1) ∧ mT X rmd bs (con M1) (some (.long w)) (con M2) ∧ J M2 ∧ P v w
theorem a_thingOf {a1 a2 : Int32} (hJ : J M) : JJ X 9 138 [.ref 0, .int a1, .int a2] [.ref 66, .int a1, .int a2] M (fun _ _ => True) := hJ.ask (t9 hJ.1.1) (fun M1 j => rq_of (t138 j.1))
theorem a_of {a1 a2 : Int32} (hJ : J M) : JJ X 24 159 [.ref 0, .int a1, .int a2] [.ref 66, .int a1, .int a2] M (fun _ _ => True) := hJ.ask (t24 hJ.1.1) (fun M1 j => rq_of (t159 j.1))
theorem a_envy {a1 a2 : Int32} (hJ : J M) : JJ X 28 162 [.ref 0, .int a1, .int a2] [.ref 66, .int a1, .int a2] M (fun _ _ => True) := hJ.ask (t28 hJ.1.1) (fun M1 j => rq_of (t162 j.1))
theorem a_now {a1 : Int32} (hJ : J M) : JJ X 37 169 [.ref 0, .int a1] [.ref 66, .int a1] M (fun _ _ => True) := hJ.ask (t37 hJ.1.1) (fun M1 j => rq_of (t169 j.1))
theorem a_ahead {a1 a2 : Int32} (hJ : J M) : JJ X 41 172 [.ref 0, .int a1, .int a2] [.ref 66, .int a1, .int a2] M (fun _ _ => True) := hJ.ask (t41 hJ.1.1) (fun M1 j => j.kq fun nt np g => e172 j.1.1 g.1 g.2.2.1.1 g.2.1 g.2.2.1.2.1 j.2.2.2.2.2.2)
theorem a_lasts {a1 : Int32} (hJ : J M) : JJ X 44 176 [.ref 0, .int a1] [.ref 66, .int a1] M (fun _ _ => True) := hJ.ask (t44 hJ.1.1) (fun M1 j => j.kq fun nt np g => e176 j.1.1 g.1 g.2.2.1.1 g.2.1 g.2.2.1.2.1 j.2.2.2.2.2.2)
theorem a_gone {a1 : Int32} (hJ : J M) : JJ X 45 178 [.ref 0, .int a1] [.ref 66, .int a1] M (fun _ _ => True) := hJ.ask (t45 hJ.1.1) (fun M1 j => j.kq fun nt np g => e178 j.1.1 g.1 g.2.2.1.1 g.2.1 g.2.2.1.2.1 j.2.2.2.2.2.2)
theorem a_worn {a1 : Int32} (hJ : J M) : JJ X 46 179 [.ref 0, .int a1] [.ref 66, .int a1] M (fun _ _ => True) := hJ.ask (t46 hJ.1.1) (fun M1 j => j.kq fun nt np g => e179 j.1.1 g.1 g.2.2.1.1 g.2.1 g.2.2.1.2.1 j.2.2.2.2.2.2)
theorem a_sees {a1 a2 : Int32} (hJ : J M) : JJ X 47 181 [.ref 0, .int a1, .int a2] [.ref 66, .int a1, .int a2] M (fun _ _ => True) := hJ.ask (t47 hJ.1.1) (fun M1 j => j.kq fun nt np g => e181 j.1.1 g.1 g.2.2.1.1 g.2.1 g.2.2.1.2.1 j.2.2.2.2.2.2)
theorem a_kindFor {a1 a2 : Int32} (hJ : J M) : JJ X 48 182 [.ref 0, .int a1, .int a2] [.ref 66, .int a1, .int a2] M (fun _ _ => True) := hJ.ask (t48 hJ.1.1) (fun M1 j => j.kq fun nt np g => e182 j.1.1 g.1 g.2.2.1.1 g.2.1 g.2.2.1.2.1 j.2.2.2.2.2.2)
theorem a_walkFor {a1 a2 : Int32} (hJ : J M) : JJ X 50 184 [.ref 0, .int a1, .int a2] [.ref 66, .int a1, .int a2] M (fun _ _ => True) := hJ.ask (t50 hJ.1.1) (fun M1 j => j.kq fun nt np g => e184 j.1.1 g.1 g.2.2.1.1 g.2.1 g.2.2.1.2.1 j.2.2.2.2.2.2)
theorem a_placeFor {a1 a2 : Int32} (hJ : J M) : JJ X 51 185 [.ref 0, .int a1, .int a2] [.ref 66, .int a1, .int a2] M (fun _ _ => True) := hJ.ask (t51 hJ.1.1) (fun M1 j => j.kq fun nt np g => e185 j.1.1 g.1 g.2.2.1.1 g.2.1 g.2.2.1.2.1 j.2.2.2.2.2.2)
theorem a_ownerFor {a1 a2 : Int32} (hJ : J M) : JJ X 53 187 [.ref 0, .int a1, .int a2] [.ref 66, .int a1, .int a2] M (fun _ _ => True) := hJ.ask (t53 hJ.1.1) (fun M1 j => j.kq fun nt np g => e187 j.1.1 g.1 g.2.2.1.1 g.2.1 g.2.2.1.2.1 j.2.2.2.2.2.2)
theorem a_worst {a1 : Int32} (hJ : J M) : JJ X 54 188 [.ref 0, .int a1] [.ref 66, .int a1] M (fun _ _ => True) := hJ.ask (t54 hJ.1.1) (fun M1 j => j.kq fun nt np g => e188 j.1.1 g.1 g.2.2.1.1 g.2.1 g.2.2.1.2.1 j.2.2.2.2.2.2)
theorem a_paint {a1 a2 : Int32} (hJ : J M) : JJ X 55 189 [.ref 0, .int a1, .int a2] [.ref 66, .int a1, .int a2] M (fun _ _ => True) := hJ.ask (t55 hJ.1.1) (fun M1 j => j.kq fun nt np g => e189 j.1.1 g.1 g.2.2.1.1 g.2.1 g.2.2.1.2.1 j.2.2.2.2.2.2)
theorem a_needs {a1 a2 : Int32} (hJ : J M) : JJ X 59 192 [.ref 0, .int a1, .int a2] [.ref 66, .int a1, .int a2] M (fun _ _ => True) := hJ.ask (t59 hJ.1.1) (fun M1 j => j.kq fun nt np g => e192 j.1.1 g.1 g.2.2.1.1 g.2.1 g.2.2.1.2.1 j.2.2.2.2.2.2)
theorem a_fallsWith {a1 : Int32} (hJ : J M) : JJ X 60 193 [.ref 0, .int a1] [.ref 66, .int a1] M (fun _ _ => True) := hJ.ask (t60 hJ.1.1) (fun M1 j => rq_of (t193 j.1))
theorem a_depth {a1 : Int32} (hJ : J M) : JJ X 61 195 [.ref 0, .int a1] [.ref 66, .int a1] M (fun _ _ => True) := hJ.ask (t61 hJ.1.1) (fun M1 j => rq_of (t195 j.1))
theorem a_keystone (hJ : J M) : JJ X 63 196 [.ref 0] [.ref 66] M (fun _ _ => True) := hJ.ask (t63 hJ.1.1) (fun M1 j => rq_of (t196 j.1))
theorem a_fells (hJ : J M) : JJ X 64 197 [.ref 0] [.ref 66] M (fun _ _ => True) := hJ.ask (t64 hJ.1.1) (fun M1 j => by
  obtain ⟨v, h, -⟩ := t197 (X := X) j.1.1
  exact ⟨v, M1, h, (Iq.rf j.1).rq⟩)
theorem a_worth {a1 a2 : Int32} (hJ : J M) : JJ X 65 198 [.ref 0, .int a1, .int a2] [.ref 66, .int a1, .int a2] M (fun _ _ => True) := hJ.ask (t65 hJ.1.1) (fun M1 j => rq_of (t198 j.1))
theorem a_deal {a1 a2 a3 : Int32} (hJ : J M) : JJ X 68 201 [.ref 0, .int a1, .int a2, .int a3] [.ref 66, .int a1, .int a2, .int a3] M (fun _ _ => True) := hJ.ask (t68 hJ.1.1) (fun M1 j => rq_of (t201 j.1))
theorem a_deals {a1 a2 a3 : Int32} (hJ : J M) : JJ X 72 204 [.ref 0, .int a1, .int a2, .int a3] [.ref 66, .int a1, .int a2, .int a3] M (fun _ _ => True) := hJ.ask (t72 hJ.1.1) (fun M1 j => rq_of (t204 j.1))
theorem a_lesser {a1 a2 a3 : Int32} (hJ : J M) : JJ X 73 206 [.ref 0, .int a1, .int a2, .int a3] [.ref 66, .int a1, .int a2, .int a3] M (fun _ _ => True) := hJ.ask (t73 hJ.1.1) (fun M1 j => rq_of (t206 j.1))
theorem a_envious (hJ : J M) : JJ X 74 207 [.ref 0] [.ref 66] M (fun _ _ => True) := hJ.ask (t74 hJ.1.1) (fun M1 j => rq_of (t207 j.1))
theorem a_fits {a1 a2 a3 : Int32} (hJ : J M) : JJ X 75 208 [.ref 0, .int a1, .int a2, .int a3] [.ref 66, .int a1, .int a2, .int a3] M (fun _ _ => True) := hJ.ask (t75 hJ.1.1) (fun M1 j => j.kq fun nt np g => e208 j.1.1 g.1 g.2.2.1.1 g.2.1 g.2.2.1.2.1 g.2.2.1 j.2.2.2.2.2.2)
theorem a_likes {a1 a2 a3 : Int32} (hJ : J M) : JJ X 81 213 [.ref 0, .int a1, .int a2, .int a3] [.ref 66, .int a1, .int a2, .int a3] M (fun _ _ => True) := hJ.ask (t81 hJ.1.1) (fun M1 j => j.kq fun nt np g => e213 j.1.1 g.1 g.2.2.1.1 g.2.1 g.2.2.1.2.1 g.2.2.1 j.2.2.2.2.2.2)
theorem a_odds {a1 a2 : Int32} (hJ : J M) : JL X 84 216 [.ref 0, .int a1, .int a2] [.ref 66, .int a1, .int a2] M (fun _ _ => True) := by
  obtain ⟨v, M1, a1, a2⟩ := t84 (X := X) hJ.1.1
  have j1 := hJ.qc cn_cn (a2.cn hJ.2.1)
  obtain ⟨w, M2, b1, b2⟩ := t216 (X := X) j1.1
  exact ⟨v, cnm M1, w, cnm M2, by rw [con_cn]; exact a1, by rw [con_cn (M := M2)]; exact b1, j1.qr cn_cn (b2.rq.cn j1.2.1), trivial⟩
theorem a_as {a1 a2 : Int32} (hJ : J M) : JJ X 115 233 [.ref 0, .int a1, .int a2] [.ref 66, .int a1, .int a2] M (fun _ _ => True) := hJ.ask (t115 hJ.1.1) (fun M1 j => rq_of (t233 j.1))
theorem a_judge {a1 : Int32} (hJ : J M) : JJ X 123 239 [.ref 0, .int a1] [.ref 66, .int a1] M (fun _ _ => True) := hJ.ask (t123 hJ.1.1) (fun M1 j => rq_of (t239 j.1))
theorem a_count {a1 : Int32} (hJ : J M) : JJ X 128 243 [.ref 0, .int a1] [.ref 66, .int a1] M (fun _ _ => True) := hJ.ask (t128 hJ.1.1) (fun M1 j => rq_of (t243 j.1))
theorem a_status {a1 : Int32} (hJ : J M) : JJ X 130 244 [.ref 0, .int a1] [.ref 66, .int a1] M (fun _ _ => True) := hJ.ask (t130 hJ.1.1) (fun M1 j => rq_of (t244 j.1))
theorem M0_0 {a b : Nat} (h : M0 a b = 0) : cnm M0 a b = 0 := (cnc_or a (M0 a) b).elim (fun e => e.trans h) id
theorem M0_sp : ∀ s, s < 10 → M0 (1 + 16) s = M0 67 (4 + s) := by decide +kernel
theorem M0_s1 : ∀ s, s < 10 → M0 67 (4 + s) = -1 := by decide +kernel
theorem j_start : J (cnm M0) := by
  have e67 : cnm M0 67 = M0 67 := rfl
  have nz : ∀ {k : Nat} {P : Prop}, k < 0 → P := fun h => absurd h (Nat.not_lt_zero _)
  have hR : Rel 1 0 0 M0 (M0 67) := ⟨rfl, rfl, rfl, rfl, M0_sp, fun f t _ ht => nz ht, fun f p _ hp => nz hp⟩
  refine ⟨M0_inv.cn, cn_cn, ⟨0, 0, by rw [e67]; exact hR.cn (Or.inl rfl), by rw [e67]; rfl, by rw [e67]; rfl, ⟨Nat.zero_le _, Nat.zero_le _, fun t ht => nz ht, fun p hp => nz hp⟩, ⟨⟨0, by decide, by rw [e67]; rfl⟩, fun s hs => by rw [e67]; exact Or.inl (M0_s1 s hs), fun t ht => nz ht, fun p hp => nz hp⟩, rfl⟩, Or.inl ⟨rfl, rfl⟩, ⟨rfl, fun k hk => ?_⟩, fun s hs => ?_, rfl⟩
  · rw [M0_0 (a := 73) (b := k) rfl, M0_0 (a := 53) (b := k) rfl]
    exact ⟨by decide, by decide⟩
  · have h : s = 0 ∨ s = 1 ∨ s = 2 ∨ s = 3 := by omega
    rcases h with rfl | rfl | rfl | rfl
    · exact ⟨rfl, rfl, Or.inl rfl, fun j hj => (M0_0 (a := 59) (b := j) rfl).trans (M0_0 (a := 78) (b := 40 * 0 + j) rfl).symm⟩
    · exact ⟨rfl, rfl, Or.inl rfl, fun j hj => (M0_0 (a := 61) (b := j) rfl).trans (M0_0 (a := 78) (b := 40 * 1 + j) rfl).symm⟩
    · exact ⟨rfl, rfl, Or.inl rfl, fun j hj => (M0_0 (a := 63) (b := j) rfl).trans (M0_0 (a := 78) (b := 40 * 2 + j) rfl).symm⟩
    · exact ⟨rfl, rfl, Or.inl rfl, fun j hj => (M0_0 (a := 65) (b := j) rfl).trans (M0_0 (a := 78) (b := 40 * 3 + j) rfl).symm⟩
theorem j_tape {a1 a2 : Int32} (hJ : J M) : JJ X 87 218 [.ref 0, .int a1, .int a2] [.ref 66, .int a1, .int a2] M Eq := j_feed hJ
end AK
end
